theorem isqF_le (x : Int) : ∀ f k, isqF f k x ≤ k + f := by
  intro f
  induction f with
  | zero => intro k; exact Nat.le_refl k
  | succ f ih =>
    intro k
    rw [isqF]
    split
    · have := ih (k + 1); omega
    · omega
/-- a square of a whole number (by the greatest root up to 1000) -/
def psq (x : Int) : Bool := decide (0 ≤ x) && decide (((isqF 1000 0 x : Nat) : Int) * (isqF 1000 0 x : Nat) = x)
def hwF (a b c : Int32) : Nat → Int → Bool
  | 0, _ => false
  | f + 1, x => if ((iI x + a) * iI x + b) * iI x + c = 0 then true else hwF a b c f (x + 1)
section OP
variable {E : sa_E} {l : Launch} {D : va_G} {aI aL : ClassId} {ad : Nat → Nat} {P : sa_P} {I : sa_I} {J : sa_J}
theorem c_isPerfectSquare {x : Int} (hx : rg x) : Con E M_X6_isPerfectSquare yX6_isPerfectSquare [.long (lI x)] I J (p_i (if psq x then 1 else 0) I J) := by
  refine Con.of (by decide +kernel) rfl (Nat.le_of_ble_eq_true rfl) ?_
  have hle := isqF_le x 1000 0
  have hm : ((isqF 1000 0 x : Nat) : Int) * (isqF 1000 0 x : Nat) ≤ 1000 * 1000 := Int.mul_le_mul (by omega) (by omega) (by omega) (by omega)
  have hm0 : 0 ≤ ((isqF 1000 0 x : Nat) : Int) * (isqF 1000 0 x : Nat) := Int.mul_nonneg (by omega) (by omega)
  refine bX6_isPerfectSquare_0 (fun c => ?_) (fun c => ?_)
  · have c := (lI_lt hx (b := 0) ⟨by omega, by omega⟩).mp c
    refine bX6_isPerfectSquare_24 (bX6_isPerfectSquare_25 rfl ⟨?_, rfl, rfl⟩)
    rw [if_neg]; intro q; simp only [psq, Bool.and_eq_true, decide_eq_true_eq] at q; omega
  · have c : ¬ x < 0 := fun q => c ((lI_lt hx (b := 0) ⟨by omega, by omega⟩).mpr q)
    refine bX6_isPerfectSquare_6 (v_X6_296 dX6_isPerfectSquare_7 rfl ⟨rfl, rfl, Nat.le_of_ble_eq_true rfl, Nat.le_of_ble_eq_true rfl⟩ (c_wholeRoot hx) rfl rfl (Nat.le_of_ble_eq_true rfl) (fun r I1 J1 hp => ?_))
    obtain ⟨rfl, rfl, rfl⟩ := hp
    refine bX6_isPerfectSquare_10 (v_X6_296 dX6_isPerfectSquare_11 rfl ⟨rfl, rfl, Nat.le_of_ble_eq_true rfl, Nat.le_of_ble_eq_true rfl⟩ (c_wholeRoot hx) rfl rfl (Nat.le_of_ble_eq_true rfl) (fun r I1 J1 hp => ?_))
    obtain ⟨rfl, rfl, rfl⟩ := hp
    refine bX6_isPerfectSquare_14 (fun c2 => ?_) (fun c2 => ?_)
    · rw [lI_mul, lI_eq ⟨by omega, by omega⟩ hx] at c2
      refine bX6_isPerfectSquare_24 (bX6_isPerfectSquare_25 rfl ⟨?_, rfl, rfl⟩)
      rw [if_neg]; intro q; simp only [psq, Bool.and_eq_true, decide_eq_true_eq] at q; exact c2 q.2
    · rw [lI_mul, lI_eq ⟨by omega, by omega⟩ hx] at c2
      refine bX6_isPerfectSquare_20 (bX6_isPerfectSquare_25 rfl ⟨?_, rfl, rfl⟩)
      rw [if_pos]; simp only [psq, Bool.and_eq_true, decide_eq_true_eq]; exact ⟨by omega, c2⟩
theorem hw_loop {a b c : Int32} : ∀ (f : Nat) (x : Int), x + f = 10 → -9 ≤ x → P (some (.int (if hwF a b c f x then 1 else 0))) I J → Sat E M_X6_hasWholeRoot P 3 [(0, .int a), (1, .int b), (2, .int c), (3, .int (iI x))] [] I J := by
  intro f
  induction f with
  | zero =>
    intro x e h hp
    obtain rfl : x = 10 := by omega
    exact bX6_hasWholeRoot_3 (fun _ => bX6_hasWholeRoot_31 hp) (fun q => absurd (by decide) q)
  | succ f ih =>
    intro x e h hp
    refine bX6_hasWholeRoot_3 (fun q => absurd ((iI_lt (a := 9) ⟨by omega, by omega⟩ ⟨by omega, by omega⟩).mp q) (by omega)) (fun _ => ?_)
    refine bX6_hasWholeRoot_9 (fun q => ?_) (fun q => ?_)
    · rw [hwF, if_neg q] at hp
      exact bX6_hasWholeRoot_25 (iI_add x 1) (ih (x + 1) (by omega) (by omega) hp)
    · rw [hwF, if_pos q] at hp
      exact bX6_hasWholeRoot_23 hp
theorem c_hasWholeRoot {a b c : Int32} : Con E M_X6_hasWholeRoot yX6_hasWholeRoot [.int a, .int b, .int c] I J (p_i (if hwF a b c 19 (-9) then 1 else 0) I J) := by
  refine Con.of (by decide +kernel) rfl (Nat.le_of_ble_eq_true rfl) ?_
  exact bX6_hasWholeRoot_0 (v2 := iI (-9)) rfl (hw_loop 19 (-9) (by omega) (by omega) ⟨rfl, rfl, rfl⟩)
theorem c_forget5 : Con (EC l D aI aL ad) M_X5_forget yX5_forget [.ref (ad 21)] I J (p_v (sa_uI I 21 8 0) J) := by
  refine Con.of (by decide +kernel) rfl (Nat.le_of_ble_eq_true rfl) ?_
  exact bX5_forget_0 rfl ⟨rfl, rfl, rfl⟩
theorem c_forget1 : Con (EC l D aI aL ad) M_X1_forget yX1_forget [.ref (ad 27)] I J (p_v (sa_uI I 27 8 0) J) := by
  refine Con.of (by decide +kernel) rfl (Nat.le_of_ble_eq_true rfl) ?_
  exact bX1_forget_0 (v2 := 0) rfl rfl rfl ⟨rfl, rfl, rfl⟩
/-- the house emptied: no elements, no ideals, nothing known of primes and forms -/
def eh (I : sa_I) : sa_I := sa_uI (sa_uI (sa_uI (sa_uI I 0 8 0) 0 9 0) 21 8 0) 27 8 0
theorem c_emptyHouse : Con (EC l D aI aL ad) M_X6_emptyHouse yX6_emptyHouse [.ref (ad 0)] I J (p_i 1 (eh I) J) := by
  refine Con.of (by decide +kernel) rfl (Nat.le_of_ble_eq_true rfl) ?_
  refine bX6_emptyHouse_0 (v2 := 0) (v7 := 0) rfl rfl (v_X6_268 dX6_emptyHouse_14 rfl ⟨rfl, rfl, Nat.le_of_ble_eq_true rfl, Nat.le_of_ble_eq_true rfl⟩ c_forget5 rfl rfl (Nat.le_of_ble_eq_true rfl) (fun r I1 J1 hp => ?_))
  obtain ⟨rfl, rfl, rfl⟩ := hp
  refine bX6_emptyHouse_17 (v_X6_271 dX6_emptyHouse_21 rfl ⟨rfl, rfl, Nat.le_of_ble_eq_true rfl, Nat.le_of_ble_eq_true rfl⟩ c_forget1 rfl rfl (Nat.le_of_ble_eq_true rfl) (fun r I1 J1 hp => ?_))
  obtain ⟨rfl, rfl, rfl⟩ := hp
  exact bX6_emptyHouse_24 ⟨rfl, rfl, rfl⟩
/-- behind startBasis -/
def sbJ (J J1 : sa_J) : Prop := (∀ j, j < 9 → J1 6 j = if j % 4 = 0 then 1 else 0) ∧ (∀ j, j < 3 → J1 7 j = 1) ∧ ∀ q, q ≠ 6 → q ≠ 7 → J1 q = J q
/-- behind finishRing -/
def fiJ (n : Nat) (J J1 : sa_J) : Prop := ∃ J0 : sa_J, J0 5 = J 5 ∧ J0 6 = J 6 ∧ J0 7 = J 7 ∧ J0 4 = vp_updL (vp_updL (J 4) 3 (J 7 1 * J 7 2)) 2 (pt (J 4 1) (J 7 1 * J 7 2 * (J 7 1 * J 7 2))) ∧ (∀ j, j < 27 → J1 8 j = if n = 2 then tb2 J0 j else tb3 J0 j) ∧ (∀ q, q ≠ 4 → q ≠ 8 → q ≠ 11 → J1 q = J q) ∧ J1 4 = vp_updL (vp_updL (J 4) 3 (J 7 1 * J 7 2)) 2 (pt (J 4 1) (J 7 1 * J 7 2 * (J 7 1 * J 7 2)))
def sqJ (J : sa_J) (a b : Int64) : sa_J := sa_uJ (sa_uJ (sa_uJ (sa_uJ J 5 0 b) 5 1 a) 5 2 0) 4 1 (a * a - 4 * b)
theorem c_openSquare {a b : Int64} : Con (EC l D aI aL ad) M_X4_openSquare yX4_openSquare [.ref (ad 4), .long a, .long b] I J (fun r I1 J1 => r = none ∧ I1 = sa_uI I 4 0 (nI 2) ∧ ∃ Ja Jb, sbJ (sqJ J a b) Ja ∧ fsJ Ja 2 Jb ∧ fiJ 2 Jb J1) := by
  refine Con.of (by decide +kernel) rfl (Nat.le_of_ble_eq_true rfl) ?_
  have hd : sa_uI I 4 0 (nI 2) 4 0 = nI 2 := rfl
  refine bX4_openSquare_0 (v2 := nI 2) rfl rfl rfl (v_X4_46 dX4_openSquare_40 rfl ⟨rfl, rfl, Nat.le_of_ble_eq_true rfl, Nat.le_of_ble_eq_true rfl⟩ c_startBasis rfl rfl (Nat.le_of_ble_eq_true rfl) (fun r I1 Ja hp => ?_))
  obtain ⟨rfl, rfl, hs⟩ := hp
  refine bX4_openSquare_43 (v_X4_49 dX4_openSquare_44 rfl ⟨rfl, rfl, Nat.le_of_ble_eq_true rfl, Nat.le_of_ble_eq_true rfl⟩ (c_findSecond (n := 2) (Or.inl rfl) hd) rfl rfl (Nat.le_of_ble_eq_true rfl) (fun r I1 Jb hp => ?_))
  obtain ⟨rfl, rfl, hb⟩ := hp
  refine bX4_openSquare_47 (v_X4_52 dX4_openSquare_48 rfl ⟨rfl, rfl, Nat.le_of_ble_eq_true rfl, Nat.le_of_ble_eq_true rfl⟩ (c_finishRing2 hd) rfl rfl (Nat.le_of_ble_eq_true rfl) (fun r I1 J1 hp => ?_))
  obtain ⟨rfl, rfl, hf⟩ := hp
  exact bX4_openSquare_51 ⟨rfl, rfl, Ja, Jb, hs, hb, hf⟩
end OP
