/-! how often a prime is in an ideal: by quotients, and by powers -/
def inL (A B : Nat → Int) : Prop := ∀ v, Sp A v → Sp B v
/-- M is what P brings into B -/
def isQ (n : Nat) (T P B M : Nat → Int) : Prop := Hm M ∧ R2 n M ∧ ∀ b, Sp M b ↔ ∀ x, Sp P x → Sp B (muv n T b x)
/-- by quotients: the ideal lies in P just m times -/
def cnt (n : Nat) (T P : Nat → Int) : Nat → (Nat → Int) → Prop
  | 0, B => ¬ inL B P
  | m + 1, B => inL B P ∧ ∃ M, isQ n T P B M ∧ cnt n T P m M
/-- powers: A is P times P .. -/
def Pw (n : Nat) (T P : Nat → Int) : Nat → (Nat → Int) → Prop
  | 0, A => Hm A ∧ R2 n A ∧ Idl n T A ∧ (∀ v, Sp A v ↔ Sp P v)
  | j + 1, A => Hm A ∧ R2 n A ∧ Idl n T A ∧ ∃ A', Pw n T P j A' ∧ Prod2 n T A' P A
theorem Pw.h {n : Nat} {T P : Nat → Int} {j : Nat} {A : Nat → Int} (h : Pw n T P j A) : Hm A ∧ R2 n A ∧ Idl n T A := by
  cases j with
  | zero => exact ⟨h.1, h.2.1, h.2.2.1⟩
  | succ j => exact ⟨h.1, h.2.1, h.2.2.1⟩
theorem isQ.idl {n : Nat} {T P B M : Nat → Int} (rr : Rg n T) (iB : Idl n T B) (h : isQ n T P B M) : Idl n T M := by
  intro w v s
  rw [h.2.2] at s ⊢
  intro x hx
  rw [muv_assoc rr]; exact iB _ _ (s x hx)
theorem cnt_pw {n : Nat} {T P : Nat → Int} (rr : Rg n T) {p : Int} (hp : p ≠ 0) (tP : Tri P) (rP : R2 n P) (iP : invR n T p P) : ∀ (j m : Nat) (B A : Nat → Int), cnt n T P m B → j ≤ m → Pw n T P j A → R2 n B → Idl n T B → (inL B A ↔ j < m) := by
  intro j
  induction j with
  | zero =>
    intro m B A hc _ hA rB iB
    have e : inL B A ↔ inL B P := ⟨fun h v s => (hA.2.2.2 v).mp (h v s), fun h v s => (hA.2.2.2 v).mpr (h v s)⟩
    rw [e]
    cases m with
    | zero => exact ⟨fun h => absurd h hc, fun h => absurd h (Nat.lt_irrefl 0)⟩
    | succ m => exact ⟨fun _ => Nat.succ_pos m, fun _ => hc.1⟩
  | succ j ih =>
    intro m B A hc hj hA rB iB
    cases m with
    | zero => omega
    | succ m =>
      obtain ⟨hBP, M, hM, hcM⟩ := hc
      obtain ⟨_, rA, _, A', hA', hprod⟩ := hA
      have hh := hA'.h
      have q := in_prod_iff rr hp tP rP iP hh.1.1 hh.2.1 hh.2.2 iB hBP rB rA hprod
      have q2 := ih m M A' hcM (by omega) hA' hM.2.1 (hM.idl rr iB)
      have e : (∀ b, (∀ x, Sp P x → Sp B (muv n T b x)) → Sp A' b) ↔ inL M A' := ⟨fun h v s => h v ((hM.2.2 v).mp s), fun h b hb => h b ((hM.2.2 b).mpr hb)⟩
      show (∀ v, Sp B v → Sp A v) ↔ _
      rw [q, e, q2]
      omega
/-- norms fall by the prime's norm at each step -/
def NL (n : Nat) (T P : Nat → Int) : Prop := ∀ B M, IdR n T B → inL B P → isQ n T P B M → nmR P * nmR M ≤ nmR B
theorem nm_pos {R : Nat → Int} (h : Hm R) : 1 ≤ nmR R := by
  obtain ⟨⟨_, _, _, p0, p4, p8⟩, _⟩ := h
  have := Int.mul_pos (Int.mul_pos p0 p4) p8
  unfold nmR; omega
theorem isQ.idr {n : Nat} {T P B M : Nat → Int} (rr : Rg n T) (hP : 2 ≤ nmR P) (hN : NL n T P) (hB : IdR n T B) (hBP : inL B P) (h : isQ n T P B M) : IdR n T M ∧ 2 * nmR M ≤ nmR B := by
  have h1 := hN B M hB hBP h
  have h2 := nm_pos h.1
  have h3 : 2 * nmR M ≤ nmR P * nmR M := Int.mul_le_mul_of_nonneg_right hP (by omega)
  have h4 := hB.2.2.2
  exact ⟨⟨h.1, h.2.1, h.idl rr hB.2.2.1, by omega⟩, by omega⟩
theorem cnt_norm {n : Nat} {T P : Nat → Int} (rr : Rg n T) (hP : 2 ≤ nmR P) (hN : NL n T P) : ∀ (m : Nat) (B : Nat → Int), cnt n T P m B → IdR n T B → nmR P ^ m ≤ nmR B := by
  intro m
  induction m with
  | zero =>
    intro B _ hB
    rw [Int.pow_zero]; exact nm_pos hB.1
  | succ m ih =>
    intro B hc hB
    obtain ⟨hBP, M, hM, hcM⟩ := hc
    have hMi := (hM.idr rr hP hN hB hBP).1
    have h1 := ih M hcM hMi
    have h2 := hN B M hB hBP hM
    rw [Int.pow_succ, Int.mul_comm]
    have h3 : nmR P * nmR P ^ m ≤ nmR P * nmR M := Int.mul_le_mul_of_nonneg_left h1 (by omega)
    omega
theorem pow_mono {a : Int} (ha : 1 ≤ a) : ∀ {i j : Nat}, i ≤ j → a ^ i ≤ a ^ j := by
  intro i j h
  induction h with
  | refl => exact Int.le_refl _
  | step h ih =>
    rename_i j
    rw [Int.pow_succ]
    have : 0 < a ^ j := Int.pow_pos (by omega)
    have h2 : a ^ j * 1 ≤ a ^ j * a := Int.mul_le_mul_of_nonneg_left ha (by omega)
    omega
/-- what the class's loop tells: m -/
def tmC (n : Nat) (T P B : Nat → Int) (m : Nat) : Prop := (∀ j, j < m → ∃ A, Pw n T P j A ∧ inL B A) ∧ (nmR B < nmR P ^ (m + 1) ∨ ∃ A, Pw n T P m A ∧ ¬ inL B A)
theorem tm_two {n : Nat} {T P B : Nat → Int} (rr : Rg n T) {p : Int} (hp : p ≠ 0) (tP : Tri P) (rP : R2 n P) (iP : invR n T p P) (hP : 2 ≤ nmR P) (hN : NL n T P) (hB : IdR n T B) {m m' : Nat} (h : tmC n T P B m) (h' : cnt n T P m' B) : m = m' := by
  have key := cnt_pw rr hp tP rP iP
  have le : m ≤ m' := by
    apply Classical.byContradiction
    intro c
    obtain ⟨A, hA, hin⟩ := h.1 m' (by omega)
    have := (key m' m' B A h' (Nat.le_refl _) hA hB.2.1 hB.2.2.1).mp hin
    omega
  have ge : m' ≤ m := by
    apply Classical.byContradiction
    intro c
    rcases h.2 with q | ⟨A, hA, hn⟩
    · have h1 := cnt_norm rr hP hN m' B h' hB
      have h2 := pow_mono (a := nmR P) (by omega) (show m + 1 ≤ m' by omega)
      omega
    · exact hn ((key m m' B A h' le hA hB.2.1 hB.2.2.1).mpr (by omega))
  omega
