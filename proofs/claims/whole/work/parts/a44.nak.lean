/-! an ideal is not its own product with a prime -/
/-- the ideal lies in its product with P -/
def inPB (n : Nat) (T P B : Nat → Int) : Prop := ∀ H, Grp H → (n = 2 → H (0, 0, 1)) → (∀ x b, Sp P x → Sp B b → H (muv n T x b)) → ∀ y, Sp B y → H y
/-- a set that is an ideal -/
def Isv (n : Nat) (T : Nat → Int) (C : V3 → Prop) : Prop := Grp C ∧ (∀ w v, C v → C (muv n T w v)) ∧ ∀ v, eqn n v (0, 0, 0) → C v
theorem vad_eqn0 {n : Nat} {a b : V3} (h : eqn n b (0, 0, 0)) : eqn n (vad a b) a := by
  refine ⟨?_, ?_, fun e => ?_⟩ <;> unfold vad <;> dsimp only
  · rw [h.1]; exact Int.add_zero _
  · rw [h.2.1]; exact Int.add_zero _
  · rw [h.2.2 e]; exact Int.add_zero _
theorem isv0 {n : Nat} (h0 : n = 2 ∨ n = 3) (T : Nat → Int) : Isv n T (fun v => eqn n v (0, 0, 0)) := by
  refine ⟨⟨eqn.rfl', fun x y hx hy => ?_⟩, fun w v h => ?_, fun v h => h⟩
  · have := hx.sub hy
    have e : vsu (0, 0, 0) (0, 0, 0) = (0, 0, 0) := by unfold vsu; simp
    rw [e] at this; exact this
  · have := h.mul h0 T w
    rw [muv_zero] at this; exact this
theorem vad_comm (a b : V3) : vad a b = vad b a := by refine v3_ext ?_ ?_ ?_ <;> unfold vad <;> dsimp only <;> omega
theorem isv_add {n : Nat} (h0 : n = 2 ∨ n = 3) {T : Nat → Int} (rr : Rg n T) {C : V3 → Prop} (hC : Isv n T C) (y : V3) : Isv n T (fun v => ∃ a c, C c ∧ v = vad (muv n T a y) c) := by
  obtain ⟨g, m, z⟩ := hC
  refine ⟨⟨⟨(0, 0, 0), (0, 0, 0), g.1, ?_⟩, ?_⟩, ?_, ?_⟩
  · rw [muv_comm, muv_zero]; unfold vad; simp
  · rintro u v ⟨a, c, hc, rfl⟩ ⟨a', c', hc', rfl⟩
    refine ⟨vsu a a', vsu c c', g.2 _ _ hc hc', ?_⟩
    rw [muv_comm n T (vsu a a') y, muv_sub, muv_comm n T y a, muv_comm n T y a']
    refine v3_ext ?_ ?_ ?_ <;> unfold vad vsu <;> dsimp only <;> omega
  · rintro w v ⟨a, c, hc, rfl⟩
    exact ⟨muv n T w a, muv n T w c, m w c hc, by rw [muv_add, muv_assoc rr]⟩
  · intro v hv
    refine ⟨(0, 0, 0), v, z v hv, ?_⟩
    rw [muv_comm, muv_zero]; unfold vad; simp
/-- near 1 -/
def nr1 (n : Nat) (P : Nat → Int) (d : V3) : Prop := Sp P (vsu (oneV n) d)
theorem nak_step {n : Nat} {T P B : Nat → Int} (rr : Rg n T) (iP : Idl n T P) (rP : R2 n P) (hB : inPB n T P B) {C : V3 → Prop} (hC : Isv n T C) {y : V3} (hy : Sp B y) {d : V3} (hd : nr1 n P d) (h : ∀ b, Sp B b → ∃ a c, C c ∧ muv n T d b = vad (muv n T a y) c) : ∃ d', nr1 n P d' ∧ ∀ b, Sp B b → C (muv n T d' b) := by
  have h0 := rr.n
  obtain ⟨g, m, z⟩ := hC
  have key : ∃ q c, Sp P q ∧ C c ∧ muv n T d y = vad (muv n T q y) c := by
    refine hB (fun w => ∃ q c, Sp P q ∧ C c ∧ muv n T d w = vad (muv n T q y) c) ⟨?_, ?_⟩ (fun e => ?_) (fun x b hx hb => ?_) y hy
    · refine ⟨(0, 0, 0), (0, 0, 0), Sp_zero P, g.1, ?_⟩
      rw [muv_zero, muv_comm, muv_zero]; unfold vad; simp
    · rintro u v ⟨q, c, hq, hc, e1⟩ ⟨q', c', hq', hc', e2⟩
      refine ⟨vsu q q', vsu c c', (Sp_grp P).2 _ _ hq hq', g.2 _ _ hc hc', ?_⟩
      rw [muv_sub, e1, e2, muv_comm n T (vsu q q') y, muv_sub, muv_comm n T y q, muv_comm n T y q']
      refine v3_ext ?_ ?_ ?_ <;> unfold vad vsu <;> dsimp only <;> omega
    · refine ⟨(0, 0, 0), muv n T d (0, 0, 1), Sp_zero P, z _ (third_eqn e d), ?_⟩
      rw [muv_comm n T (0, 0, 0) y, muv_zero]; unfold vad; simp
    · obtain ⟨a, c, hc, e1⟩ := h b hb
      refine ⟨muv n T a x, muv n T x c, iP a x hx, m x c hc, ?_⟩
      have e : muv n T d (muv n T x b) = muv n T x (muv n T d b) := by rw [← muv_assoc rr, muv_comm n T d x, muv_assoc rr]
      rw [e, e1, muv_add, ← muv_assoc rr, muv_comm n T x a]
  obtain ⟨q, c, hq, hc, e1⟩ := key
  refine ⟨muv n T (vsu d q) d, ?_, fun b hb => ?_⟩
  · -- 1 - (d - q) d = (1 - d) + d (1 - d) + q d
    unfold nr1 at hd ⊢
    have s1 : Sp P (muv n T d (vsu (oneV n) d)) := iP d _ hd
    have s2 : Sp P (muv n T d q) := iP d q hq
    have s := (Sp_grp P).add ((Sp_grp P).add hd s1) s2
    have e : vad (vad (vsu (oneV n) d) (muv n T d (vsu (oneV n) d))) (muv n T d q) = vsu (oneV n) (muv n T (vsu d q) d) := by
      rw [muv_comm n T (vsu d q) d, muv_sub, muv_sub, muv_one_r h0]
      refine v3_ext ?_ ?_ ?_ <;> unfold vad vsu <;> dsimp only <;> omega
    rw [e] at s; exact s
  · obtain ⟨a, c1, hc1, e2⟩ := h b hb
    have e3 : muv n T (vsu d q) y = c := by
      rw [muv_comm, muv_sub, muv_comm n T y d, muv_comm n T y q, e1]
      refine v3_ext ?_ ?_ ?_ <;> unfold vad vsu <;> dsimp only <;> omega
    have e4 : muv n T (muv n T (vsu d q) d) b = vad (muv n T a c) (muv n T (vsu d q) c1) := by
      rw [muv_assoc rr, e2, muv_add, ← muv_assoc rr, muv_comm n T (vsu d q) a, muv_assoc rr, e3]
    rw [e4]
    exact g.add (m a c hc) (m _ c1 hc1)
theorem nak {n : Nat} {T P B : Nat → Int} (rr : Rg n T) (iP : Idl n T P) (rP : R2 n P) (h1 : ¬ Sp P (oneV n)) (hB0 : 0 < B 0) (hB : inPB n T P B) : False := by
  have h0 := rr.n
  have c0 := isv0 h0 T
  have c1 := isv_add h0 rr c0 (B 0, 0, 0)
  have c2 := isv_add h0 rr c1 (B 3, B 4, 0)
  obtain ⟨s1, s2, s3⟩ := Sp_in B
  have n1 : nr1 n P (oneV n) := by
    unfold nr1
    have e : vsu (oneV n) (oneV n) = (0, 0, 0) := by unfold vsu; simp
    rw [e]; exact Sp_zero P
  obtain ⟨d1, e1, f1⟩ := nak_step rr iP rP hB c2 s3 n1 (fun b hb => by
    obtain ⟨i, j, k, u, v, w⟩ := hb
    refine ⟨vmu k (oneV n), vad (vmu i (B 0, 0, 0)) (vmu j (B 3, B 4, 0)), ⟨vmu j (oneV n), vmu i (B 0, 0, 0), ⟨vmu i (oneV n), (0, 0, 0), eqn.rfl', ?_⟩, ?_⟩, ?_⟩
    · rw [muv_comm, muv_mul, muv_one_r h0]; unfold vad; simp
    · rw [muv_comm, muv_mul, muv_one_r h0, vad_comm]
    · rw [muv_one h0, muv_comm, muv_mul, muv_one_r h0]
      refine v3_ext ?_ ?_ ?_ <;> unfold vad vmu <;> dsimp only
      · rw [u]; omega
      · rw [v]; omega
      · rw [w]; omega)
  obtain ⟨d2, e2, f2⟩ := nak_step rr iP rP hB c1 s2 e1 f1
  obtain ⟨d3, e3, f3⟩ := nak_step rr iP rP hB c0 s1 e2 f2
  have hz := f3 _ s1
  have q : eqn n (muv n T d3 (B 0, 0, 0)) (vmu (B 0) d3) := by
    have := (one_p h0 (B 0)).mul h0 T d3
    rw [muv_mul, muv_one_r h0] at this; exact this
  have hz2 := q.symm.tr hz
  rw [← vmu_zero (B 0)] at hz2
  have hd0 := hz2.cancel (by omega)
  unfold nr1 at e3
  refine h1 ((eqn.sub (eqn.rfl' (u := oneV n)) hd0).sp h0 rP e3 |> fun s => ?_)
  have e : vsu (oneV n) (0, 0, 0) = oneV n := by refine v3_ext ?_ ?_ ?_ <;> unfold vsu <;> dsimp only <;> omega
  rw [e] at s; exact s
/-- what P brings into B is more than B -/
theorem q_more {n : Nat} {T P B M : Nat → Int} (rr : Rg n T) {p : Int} (hp : p ≠ 0) (iP : Idl n T P) (rP : R2 n P) (h1 : ¬ Sp P (oneV n)) (inv : invR n T p P) (hB : IdR n T B) (hBP : inL B P) (hM : isQ n T P B M) : ¬ inL M B := by
  intro hMB
  have h0 := rr.n
  refine nak rr iP rP h1 hB.1.1.2.2.2.1 (fun H g h3 hH y hy => ?_)
  have hE : ∀ {u v : V3}, eqn n u v → H u → H v := by
    intro u v e hu
    rcases h0 with rfl | rfl
    · have := g.add hu (g.mul (h3 rfl) (v.2.2 - u.2.2))
      have e2 : vad u (vmu (v.2.2 - u.2.2) (0, 0, 1)) = v := by
        refine v3_ext ?_ ?_ ?_ <;> unfold vad vmu <;> dsimp only
        · rw [← e.1]; omega
        · rw [← e.2.1]; omega
        · omega
      rw [e2] at this; exact this
    · rw [← v3_ext e.1 e.2.1 (e.2.2 rfl)]; exact hu
  have fin : ∃ r, H r ∧ eqn n (muv n T y (p, 0, 0)) (vmu p r) := by
    refine inv (fun z => ∃ r, H r ∧ eqn n (muv n T y z) (vmu p r)) ⟨⟨(0, 0, 0), g.1, by rw [muv_zero, vmu_zero]; exact eqn.rfl'⟩, ?_⟩ (fun e => ⟨(0, 0, 0), g.1, by rw [vmu_zero]; exact third_eqn e y⟩) (fun x q hx hq => ?_)
    · rintro a b ⟨r, r1, r2⟩ ⟨s, s1, s2⟩
      refine ⟨vsu r s, g.2 _ _ r1 s1, ?_⟩
      rw [muv_sub]
      refine (r2.sub s2).tr ?_
      have e : vsu (vmu p r) (vmu p s) = vmu p (vsu r s) := by refine v3_ext ?_ ?_ ?_ <;> unfold vsu vmu <;> dsimp only <;> grind
      rw [e]; exact eqn.rfl'
    · obtain ⟨t, ht⟩ := sm_eqn h0 (hq y (hBP y hy))
      have htM : Sp M t := by
        rw [hM.2.2]
        intro x' hx'
        obtain ⟨s, hs⟩ := sm_eqn h0 (hq x' hx')
        have e1 : eqn n (vmu p (muv n T t x')) (vmu p (muv n T s y)) := by
          have a1 : eqn n (muv n T x' (vmu p t)) (muv n T x' (muv n T q y)) := ht.symm.mul h0 T x'
          have a2 : eqn n (muv n T y (muv n T q x')) (muv n T y (vmu p s)) := hs.mul h0 T y
          have e : muv n T x' (muv n T q y) = muv n T y (muv n T q x') := by rw [← muv_assoc rr, muv_comm, muv_comm n T x' q]
          rw [e] at a1
          have a3 := a1.tr a2
          rw [muv_mul, muv_mul, muv_comm n T x' t, muv_comm n T y s] at a3; exact a3
        exact (e1.cancel hp).symm.sp h0 hB.2.1 (hB.2.2.1 s y hy)
      refine ⟨muv n T x t, hH x t hx (hMB t htM), ?_⟩
      have e : muv n T y (muv n T x q) = muv n T x (muv n T q y) := by rw [← muv_assoc rr, muv_comm n T y x, muv_assoc rr, muv_comm n T y q]
      rw [e]
      refine (ht.mul h0 T x).tr ?_
      rw [muv_mul]; exact eqn.rfl'
  obtain ⟨r, r1, r2⟩ := fin
  have e : eqn n (muv n T y (p, 0, 0)) (vmu p y) := by
    have := (one_p h0 p).mul h0 T y
    rw [muv_mul, muv_one_r h0] at this; exact this
  exact hE ((e.symm.tr r2).cancel hp).symm r1
