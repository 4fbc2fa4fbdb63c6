/-! norms fall -/
theorem sp_0 {M : Nat → Int} (t : Tri M) {x : Int} (s : Sp M (x, 0, 0)) : ∃ i, x = i * M 0 := by
  obtain ⟨_, _, _, p0, p4, p8⟩ := t
  obtain ⟨i, j, k, a, b, c⟩ := s
  dsimp only at a b c
  have k0 : k = 0 := mul_zero_pos p8 c.symm
  subst k0
  have j0 : j = 0 := mul_zero_pos p4 (by omega)
  subst j0
  exact ⟨i, by omega⟩
theorem sp_1 {M : Nat → Int} (t : Tri M) {x y : Int} (s : Sp M (x, y, 0)) : ∃ i j, y = j * M 4 ∧ x = i * M 0 + j * M 3 := by
  obtain ⟨_, _, _, p0, p4, p8⟩ := t
  obtain ⟨i, j, k, a, b, c⟩ := s
  dsimp only at a b c
  have k0 : k = 0 := mul_zero_pos p8 c.symm
  subst k0
  exact ⟨i, j, by omega, by omega⟩
theorem sp_2 {M : Nat → Int} {x y z : Int} (s : Sp M (x, y, z)) : ∃ i j k, z = k * M 8 ∧ y = j * M 4 + k * M 7 ∧ x = i * M 0 + j * M 3 + k * M 6 := by
  obtain ⟨i, j, k, a, b, c⟩ := s
  exact ⟨i, j, k, c, b, a⟩
/-- the diagonals of a lattice in another, where p brings that into it -/
theorem one_or_p {p a a' : Int} (hp : Prm p) (ha : 0 < a) (h : p = a' * a) : a = 1 ∨ a = p := by
  have p2 := hp.1
  have h' : 0 < a' := by
    apply Classical.byContradiction
    intro c
    have : a' * a ≤ 0 * a := Int.mul_le_mul_of_nonneg_right (by omega) (by omega)
    omega
  rcases hp.2 a' a (by rw [← h]; exact Int.dvd_refl p) with ⟨t, ht⟩ | ⟨t, ht⟩
  · left
    rw [ht] at h
    have e : p * 1 = p * (t * a) := by rw [Int.mul_one]; conv => lhs; rw [h]
                                       grind
    have e1 := Int.eq_of_mul_eq_mul_left (by omega) e
    have t0 : 0 < t := by
      apply Classical.byContradiction
      intro c
      have : t * a ≤ 0 * a := Int.mul_le_mul_of_nonneg_right (by omega) (by omega)
      omega
    have : 1 * a ≤ t * a := Int.mul_le_mul_of_nonneg_right (by omega) (by omega)
    omega
  · right
    have e : p * 1 = p * (a' * t) := by rw [Int.mul_one]; conv => lhs; rw [h, ht]
                                        grind
    have e1 := Int.eq_of_mul_eq_mul_left (by omega) e
    have t0 : 0 < t := by
      apply Classical.byContradiction
      intro c
      have : a' * t ≤ a' * 0 := Int.mul_le_mul_of_nonneg_left (by omega) (by omega)
      omega
    have : 1 * t ≤ a' * t := Int.mul_le_mul_of_nonneg_right (by omega) (by omega)
    have t1 : t = 1 := by omega
    rw [ht, t1, Int.mul_one]
theorem pos_of {a b m : Int} (hb : 0 < b) (hm : 0 < m) (h : b = a * m) : 0 < a := by
  apply Classical.byContradiction
  intro c
  have : a * m ≤ 0 * m := Int.mul_le_mul_of_nonneg_right (by omega) (by omega)
  omega
theorem diag {p : Int} (hp : Prm p) {B M : Nat → Int} (tB : Tri B) (tM : Tri M) (h : inL B M) (hpM : ∀ v, Sp M v → Sp B (vmu p v)) : ∃ a b c, B 0 = a * M 0 ∧ B 4 = b * M 4 ∧ B 8 = c * M 8 ∧ (a = 1 ∨ a = p) ∧ (b = 1 ∨ b = p) ∧ (c = 1 ∨ c = p) := by
  have p2 := hp.1
  obtain ⟨s1, s2, s3⟩ := Sp_in B
  obtain ⟨r1, r2, r3⟩ := Sp_in M
  obtain ⟨_, _, _, b0, b4, b8⟩ := tB
  obtain ⟨_, _, _, m0, m4, m8⟩ := tM
  have tB' : Tri B := ⟨by assumption, by assumption, by assumption, b0, b4, b8⟩
  have tM' : Tri M := ⟨by assumption, by assumption, by assumption, m0, m4, m8⟩
  obtain ⟨a, ha⟩ := sp_0 tM' (h _ s1)
  obtain ⟨_, b, hb, _⟩ := sp_1 tM' (h _ s2)
  obtain ⟨_, _, c, hc, _, _⟩ := sp_2 (h _ s3)
  have fac : ∀ {x y k k' : Int}, 0 < x → 0 < y → y = k * x → p * x = k' * y → p = k' * k := by
    intro x y k k' hx hy e1 e2
    rw [e1] at e2
    have : x * p = x * (k' * k) := by rw [Int.mul_comm x p, e2]; grind
    exact Int.eq_of_mul_eq_mul_left (by omega) this
  refine ⟨a, b, c, ha, hb, hc, ?_, ?_, ?_⟩
  · have := hpM _ r1
    have e : vmu p (M 0, 0, 0) = (p * M 0, 0, 0) := by refine v3_ext ?_ ?_ ?_ <;> unfold vmu <;> dsimp only <;> omega
    rw [e] at this
    obtain ⟨a', ha'⟩ := sp_0 tB' this
    exact one_or_p hp (pos_of b0 m0 ha) (fac m0 b0 ha ha')
  · have := hpM _ r2
    have e : vmu p (M 3, M 4, 0) = (p * M 3, p * M 4, 0) := by refine v3_ext ?_ ?_ ?_ <;> unfold vmu <;> dsimp only <;> omega
    rw [e] at this
    obtain ⟨_, b', hb', _⟩ := sp_1 tB' this
    exact one_or_p hp (pos_of b4 m4 hb) (fac m4 b4 hb hb')
  · have := hpM _ r3
    have e : vmu p (M 6, M 7, M 8) = (p * M 6, p * M 7, p * M 8) := rfl
    rw [e] at this
    obtain ⟨_, _, c', hc', _, _⟩ := sp_2 this
    exact one_or_p hp (pos_of b8 m8 hc) (fac m8 b8 hc hc')
/-- one diagonal: one lattice -/
theorem diag_one {B M : Nat → Int} (tB : Tri B) (tM : Tri M) (h : inL B M) (h0 : B 0 = M 0) (h4 : B 4 = M 4) (h8 : B 8 = M 8) : inL M B := by
  obtain ⟨s1, s2, s3⟩ := Sp_in B
  have g := Sp_grp B
  obtain ⟨_, _, _, b0, b4, b8⟩ := tB
  obtain ⟨i2, j2, e1, e2⟩ := sp_1 tM (h _ s2)
  obtain ⟨i3, j3, k3, e3, e4, e5⟩ := sp_2 (h _ s3)
  have j1 : j2 = 1 := by
    rw [← h4] at e1
    have : B 4 * 1 = B 4 * j2 := by rw [Int.mul_one, Int.mul_comm]; exact e1
    exact (Int.eq_of_mul_eq_mul_left (by omega) this).symm
  have k1 : k3 = 1 := by
    rw [← h8] at e3
    have : B 8 * 1 = B 8 * k3 := by rw [Int.mul_one, Int.mul_comm]; exact e3
    exact (Int.eq_of_mul_eq_mul_left (by omega) this).symm
  subst j1
  subst k1
  have m1 : Sp B (M 0, 0, 0) := by rw [← h0]; exact s1
  have m2 : Sp B (M 3, M 4, 0) := g.co (-i2) 0 0 s2 m1 g.1 g.1 (by have : -i2 * M 0 = -(i2 * M 0) := Int.neg_mul _ _; dsimp only; omega) (by dsimp only; omega) (by dsimp only; omega)
  have m3 : Sp B (M 6, M 7, M 8) := by
    refine g.co (-j3) (-i3) 0 s3 m2 m1 g.1 ?_ ?_ ?_ <;> dsimp only
    · have : -j3 * M 3 = -(j3 * M 3) := Int.neg_mul _ _
      have : -i3 * M 0 = -(i3 * M 0) := Int.neg_mul _ _
      omega
    · have : -j3 * M 4 = -(j3 * M 4) := Int.neg_mul _ _
      omega
    · omega
  intro v s
  exact (show In3 (Sp B) M from ⟨m1, m2, m3⟩).sp g s
theorem q_p {n : Nat} {T P B M : Nat → Int} (h0 : n = 2 ∨ n = 3) {p : Int} (hpP : Sp P (vmu p (oneV n))) (hM : isQ n T P B M) : ∀ v, Sp M v → Sp B (vmu p v) := by
  intro v s
  have := (hM.2.2 v).mp s _ hpP
  rw [muv_mul, muv_one_r h0] at this; exact this
theorem q_in {n : Nat} {T P B M : Nat → Int} (iB : Idl n T B) (hM : isQ n T P B M) : inL B M := by
  intro v s
  rw [hM.2.2]
  intro x _
  rw [muv_comm]; exact iB x v s
theorem nm_abc {B M : Nat → Int} {a b c : Int} (h0 : B 0 = a * M 0) (h4 : B 4 = b * M 4) (h8 : B 8 = c * M 8) : nmR B = a * b * c * nmR M := by
  unfold nmR; rw [h0, h4, h8]; grind
theorem le_nm {k x y : Int} {M : Nat → Int} (h : Hm M) (hk : k ≤ x) : k * nmR M ≤ x * nmR M := Int.mul_le_mul_of_nonneg_right hk (by have := nm_pos h; omega)
/-- a prime of norm p -/
theorem nl_one {n : Nat} {T P : Nat → Int} (rr : Rg n T) {p : Int} (hp : Prm p) (iP : IdR n T P) (h1 : ¬ Sp P (oneV n)) (inv : invR n T p P) (hpP : Sp P (vmu p (oneV n))) (hnm : nmR P ≤ p) : NL n T P := by
  intro B M hB hBP hM
  have p2 := hp.1
  have hBM := q_in hB.2.2.1 hM
  obtain ⟨a, b, c, e0, e4, e8, ha, hb, hc⟩ := diag hp hB.1.1 hM.1.1 hBM (q_p rr.n hpP hM)
  have ne := q_more rr (by omega) iP.2.2.1 iP.2.1 h1 inv hB hBP hM
  rw [nm_abc e0 e4 e8]
  refine le_nm (y := 0) hM.1 ?_
  have pp : p * 1 ≤ p * p := Int.mul_le_mul_of_nonneg_left (by omega) (by omega)
  have ppp : p * p * 1 ≤ p * p * p := Int.mul_le_mul_of_nonneg_left (by omega) (by omega)
  rcases ha with rfl | rfl <;> rcases hb with rfl | rfl <;> rcases hc with rfl | rfl <;> simp only [Int.one_mul, Int.mul_one] at *
  · exact absurd (diag_one hB.1.1 hM.1.1 hBM e0 e4 e8) ne
  all_goals omega
/-- p itself -/
theorem nl_sm {n : Nat} {T : Nat → Int} (rr : Rg n T) {p : Int} (hp : Prm p) : NL n T (smR n p) := by
  intro B M hB hBP hM
  have h0 := rr.n
  have p2 := hp.1
  have hBM := q_in hB.2.2.1 hM
  have g : ∀ v, Sp B v → ∃ t, Sp M t ∧ eqn n v (vmu p t) := by
    intro v s
    obtain ⟨t, ht⟩ := sm_eqn h0 (hBP v s)
    refine ⟨t, ?_, ht⟩
    rw [hM.2.2]
    intro x hx
    obtain ⟨z, hz⟩ := sm_eqn h0 hx
    have a1 := hz.mul h0 T t
    rw [muv_mul] at a1
    have a2 := ht.mul h0 T z
    rw [muv_mul, muv_comm n T z t] at a2
    exact (a2.tr a1.symm).sp h0 hB.2.1 (hB.2.2.1 z v s)
  obtain ⟨a, b, c, e0, e4, e8, ha, hb, hc⟩ := diag hp hB.1.1 hM.1.1 hBM (q_p h0 (smR_vmu h0 _) hM)
  obtain ⟨s1, s2, s3⟩ := Sp_in B
  obtain ⟨_, _, _, m0, m4, m8⟩ := hM.1.1
  have big : ∀ {k x y i : Int}, (k = 1 ∨ k = p) → 0 < x → y = k * x → y = p * (i * x) → k = p := by
    intro k x y i hk hx e1 e2
    rcases hk with rfl | rfl
    · exfalso
      have : x * 1 = x * (p * i) := by rw [Int.mul_one]; rw [Int.one_mul] at e1; rw [e1] at e2; rw [e2]; grind
      have e3 := Int.eq_of_mul_eq_mul_left (by omega) this
      have : p ∣ 1 := ⟨i, e3⟩
      have := Int.le_of_dvd (by decide) this
      omega
    · rfl
  have a1 : a = p := by
    obtain ⟨t, ht, he⟩ := g _ s1
    have y0 : t.2.1 = 0 := by
      have : p * 0 = p * t.2.1 := by have := he.2.1; unfold vmu at this; dsimp only at this; omega
      exact (Int.eq_of_mul_eq_mul_left (by omega) this).symm
    have z0 : n = 3 → t.2.2 = 0 := fun e => by
      have : p * 0 = p * t.2.2 := by have := he.2.2 e; unfold vmu at this; dsimp only at this; omega
      exact (Int.eq_of_mul_eq_mul_left (by omega) this).symm
    obtain ⟨i, hi⟩ := sp_0 hM.1.1 ((show eqn n t (t.1, 0, 0) from ⟨rfl, y0, z0⟩).sp h0 hM.2.1 ht)
    exact big ha m0 e0 (by have := he.1; unfold vmu at this; dsimp only at this; rw [this, hi])
  have b1 : b = p := by
    obtain ⟨t, ht, he⟩ := g _ s2
    have z0 : n = 3 → t.2.2 = 0 := fun e => by
      have : p * 0 = p * t.2.2 := by have := he.2.2 e; unfold vmu at this; dsimp only at this; omega
      exact (Int.eq_of_mul_eq_mul_left (by omega) this).symm
    obtain ⟨_, j, hj, _⟩ := sp_1 hM.1.1 ((show eqn n t (t.1, t.2.1, 0) from ⟨rfl, rfl, z0⟩).sp h0 hM.2.1 ht)
    exact big hb m4 e4 (by have := he.2.1; unfold vmu at this; dsimp only at this; rw [this, hj])
  have c1 : n = 3 → c = p := by
    intro e
    obtain ⟨t, ht, he⟩ := g _ s3
    obtain ⟨_, _, k, hk, _, _⟩ := sp_2 (show Sp M (t.1, t.2.1, t.2.2) from ht)
    exact big hc m8 e8 (by have := he.2.2 e; unfold vmu at this; dsimp only at this; rw [this, hk])
  rw [nm_abc e0 e4 e8]
  refine le_nm (y := 0) hM.1 ?_
  rw [a1, b1]
  have pp : 0 < p * p := Int.mul_pos (by omega) (by omega)
  rcases h0 with rfl | rfl
  · have e : nmR (smR 2 p) = p * p * 1 := rfl
    rw [e]
    refine Int.mul_le_mul_of_nonneg_left ?_ (by omega)
    rcases hc with rfl | rfl <;> omega
  · have e : nmR (smR 3 p) = p * p * p := rfl
    rw [e, c1 rfl]; exact Int.le_refl _
