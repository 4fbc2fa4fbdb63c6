/-! degree 2: primes are invertible where the discriminant is fundamental -/
theorem pr34 : ∀ p : Nat, p < 35 → ipr (p : Int) = true → p = 2 ∨ p = 3 ∨ p = 5 ∨ p = 7 ∨ p = 11 ∨ p = 13 ∨ p = 17 ∨ p = 19 ∨ p = 23 ∨ p = 29 ∨ p = 31 := by decide +kernel
theorem fund_no {p : Nat} (hq : ipr (p : Int) = true) {z k m : Int} (hz : bd z 1200) (hf : fundB z = true) (h : z = (p : Int) * k * ((p : Int) * k) + 4 * ((p : Int) * (p * m))) : False := by
  have p2 : (2 : Int) ≤ p := by
    unfold ipr at hq
    rw [Bool.and_eq_true, decide_eq_true_eq] at hq
    exact hq.1
  have e : z = (p : Int) * p * (k * k + 4 * m) := by rw [h]; grind
  simp only [fundB, Bool.and_eq_true, Bool.or_eq_true, decide_eq_true_eq, Bool.not_eq_true', decide_eq_false_iff_not] at hf
  by_cases c : p < 35
  · have dv : z % ((p : Int) * p) = 0 := by rw [e]; exact Int.mul_emod_right _ _
    rcases pr34 p c hq with rfl | rfl | rfl | rfl | rfl | rfl | rfl | rfl | rfl | rfl | rfl
    · have e4 : z = 4 * (k * k + 4 * m) := e
      have hk : (k * k) % 4 = 0 ∨ (k * k) % 4 = 1 := by
        have : k % 4 = 0 ∨ k % 4 = 1 ∨ k % 4 = 2 ∨ k % 4 = 3 := by omega
        rcases this with q | q | q | q <;> rw [Int.mul_emod, q] <;> decide
      generalize k * k = kk at e4 hk
      omega
    all_goals
      have dv' : z % _ = 0 := dv
      simp at dv'
      omega
  · have pp : (35 : Int) * 35 ≤ (p : Int) * p := Int.mul_le_mul (by omega) (by omega) (by omega) (by omega)
    have hz1 := hz.1
    have hz2 := hz.2
    have z0 : k * k + 4 * m = 0 := by
      generalize k * k + 4 * m = j at e
      apply Classical.byContradiction
      intro hj
      rcases Int.lt_or_gt_of_ne hj with q | q
      · have : (p : Int) * p * j ≤ (p : Int) * p * (-1) := Int.mul_le_mul_of_nonneg_left (by omega) (by omega)
        omega
      · have : (p : Int) * p * 1 ≤ (p : Int) * p * j := Int.mul_le_mul_of_nonneg_left (by omega) (by omega)
        omega
    rw [z0, Int.mul_zero] at e
    omega
theorem inv_all2 {x y : Int} (rr : Rg 2 (T2 x y)) (bx : bd x 200) (by' : bd y 20) (hf : fundB (y * y + 4 * x) = true) {p : Nat} (hp2 : p ≤ 97) (hq : ipr (p : Int) = true) {u : Nat × Nat} (hx : isw 2 (T2 x y) p u) : invP 2 (T2 x y) p u := by
  by_cases c : ram 2 (T2 x y) p u
  · have hP := prm_small (by omega) hq
    have p2 := hP.1
    have z := hx.z rfl
    obtain ⟨m, hm⟩ : (p : Int) ∣ (x + y * -(u.1 : Int) + 0 - -(u.1 : Int) * -(u.1 : Int)) := hx.2.2.1
    generalize hr : -(u.1 : Int) = r at hm
    have hv : qv 2 (T2 x y) p u (y - r, -1, 0) := by
      intro w hw
      rw [hr, z] at hw
      unfold ph at hw
      obtain ⟨t, ht⟩ := hw
      rw [Sp_smR (Or.inl rfl), muv2]
      dsimp only
      have w0 : w.1 = p * t - w.2.1 * r := by omega
      refine ⟨⟨(y - r) * t - w.2.1 * m, ?_⟩, ⟨-t, ?_⟩, fun e => absurd e (by decide)⟩
      · show (y - r) * w.1 + -1 * w.2.1 * x = _
        rw [w0]
        have : (p : Int) * ((y - r) * t - w.2.1 * m) = (y - r) * ((p : Int) * t) - w.2.1 * ((p : Int) * m) := by grind
        rw [this, ← hm]; grind
      · show (y - r) * w.2.1 + -1 * w.1 + -1 * w.2.1 * y = _
        rw [w0]; grind
    obtain ⟨k, hk⟩ := c _ hv
    rw [hr, z] at hk
    unfold ph at hk
    dsimp only at hk
    have hk' : y - 2 * r = p * k := by omega
    have hmm : ¬ (p : Int) ∣ m := by
      rintro ⟨m', rfl⟩
      refine fund_no (p := p) (k := k) (m := m') hq ?_ hf ?_
      · have b1 := bd_mul by' by'
        have b2 := b1.1
        have b3 := b1.2
        have b4 := bx.1
        have b5 := bx.2
        exact ⟨by omega, by omega⟩
      · rw [← hk', ← hm]; grind
    intro H g h3 hH
    have a1 : H (-(p * m), 0, 0) := by
      have := hH (-r, 1, 0) (y - r, -1, 0) (by rw [hr, z]; unfold ph; dsimp only; exact ⟨0, by omega⟩) hv
      rw [muv2] at this
      have e : ((-r * (y - r) + 1 * -1 * T2 x y 12, -r * -1 + 1 * (y - r) + 1 * -1 * T2 x y 13, (0 : Int) * 0) : V3) = (-(p * m), 0, 0) := by
        refine v3_eq ?_ ?_ ?_
        · show -r * (y - r) + 1 * -1 * x = _
          rw [← hm]; grind
        · show -r * -1 + 1 * (y - r) + 1 * -1 * y = _
          grind
        · rfl
      rw [e] at this; exact this
    have a2 : H ((p : Int) * p, 0, 0) := by
      have := hH (vmu (p : Int) (oneV 2)) (vmu (p : Int) (oneV 2)) (by rw [ph_smul]; exact Int.dvd_mul_right _ _) (qv_p (Or.inl rfl) (T2 x y) p u _)
      rw [muv_mul, muv_one_r (Or.inl rfl)] at this
      have a5 := g.add this (g.mul (h3 rfl) (-((p : Int) * p)))
      have e : vad (vmu (p : Int) (vmu (p : Int) (oneV 2))) (vmu (-((p : Int) * p)) (0, 0, 1)) = ((p : Int) * p, 0, 0) := by
        have o : oneV 2 = (1, 0, 1) := rfl
        rw [o]; refine v3_ext ?_ ?_ ?_ <;> unfold vad vmu <;> dsimp only <;> grind
      rw [e] at a5; exact a5
    obtain ⟨e, f, he⟩ := inv_ex hp2 hq hmm
    refine g.co (-e) (-f) 0 g.1 a1 a2 g.1 ?_ ?_ ?_ <;> dsimp only
    · have : e * m = 1 + p * f := by omega
      have e3 : -e * -((p : Int) * m) = p * (e * m) := by grind
      rw [e3, this]; grind
    · omega
    · omega
  · exact inv_of_unram rr hp2 hq hx c
/-- what is known of the ring beside its table -/
def MxA (n : Nat) (T : Nat → Int) : Prop := MxT n T ∧ (n = 2 → ∃ x y, T = T2 x y ∧ bd x 200 ∧ bd y 20 ∧ fundB (y * y + 4 * x) = true)
theorem inv_all {n : Nat} {T : Nat → Int} (rr : Rg n T) (hm : MxA n T) {p : Nat} (hp2 : p ≤ 97) (hq : ipr (p : Int) = true) {u : Nat × Nat} (hx : isw n T p u) : invP n T p u := by
  rcases rr.n with rfl | rfl
  · obtain ⟨x, y, rfl, bx, by', hf⟩ := hm.2 rfl
    exact inv_all2 rr bx by' hf hp2 hq hx
  · obtain ⟨s, rfl, hs⟩ := hm.1 rfl
    exact inv_all3 rr hs hp2 hq hx
/-- each prime over p is invertible -/
theorem spc_inv {n : Nat} {T : Nat → Int} (rr : Rg n T) (hm : MxA n T) {p : Nat} (hp2 : p ≤ 97) (hq : ipr (p : Int) = true) {E : List PE} (h : Spc n T p E) : ∀ e ∈ E, invR n T p e.2.2 := by
  have w : ∀ x, x ∈ wu n T p p → invR n T p (prR p x.1 x.2) := fun x hx => inv_pr (inv_all rr hm hp2 hq (wu_isw hx))
  rcases h with ⟨h1, rfl⟩ | ⟨h1, rfl⟩ | ⟨hn, x, h1, rfl⟩ | ⟨hn, x, h1, hr, rfl⟩ | ⟨hn, x, h1, hr, R, hH, hR2, hS, rfl⟩ | ⟨hn, x, y, h1, hr, rfl⟩ | ⟨hn, x, y, h1, hr, rfl⟩
  · intro e he
    rw [List.mem_singleton] at he
    subst he; exact inv_sm rr.n T p
  · intro e he
    rw [List.mem_map] at he
    obtain ⟨x, hx, rfl⟩ := he
    exact w x hx
  · intro e he
    rw [List.mem_singleton] at he
    subst he; exact w x (by rw [h1]; simp)
  · intro e he
    rw [List.mem_singleton] at he
    subst he; exact w x (by rw [h1]; simp)
  · intro e he
    simp only [List.mem_cons, List.not_mem_nil, or_false] at he
    rcases he with rfl | rfl
    · exact w x (by rw [h1]; simp)
    · exact inv_q hS (inv_all rr hm hp2 hq (wu_isw (by rw [h1]; simp)))
  · intro e he
    simp only [List.mem_cons, List.not_mem_nil, or_false] at he
    rcases he with rfl | rfl
    · exact w x (by rw [h1]; simp)
    · exact w y (by rw [h1]; simp)
  · intro e he
    simp only [List.mem_cons, List.not_mem_nil, or_false] at he
    rcases he with rfl | rfl
    · exact w x (by rw [h1]; simp)
    · exact w y (by rw [h1]; simp)
