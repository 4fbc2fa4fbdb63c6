section UO
variable {l : Launch} {D : va_G} {aI aL : ClassId} {ad : Nat → Nat} {P : sa_P} {I : sa_I} {J : sa_J}
theorem v3_one {w : V3} (hw : ∀ c, c < 3 → bd (vk w c) 100000000000000000) {X : Nat → Int64} (h : ∀ c, c < 3 → X c = lI (vk w c)) : (X 0 = 1 ∧ X 1 = 0 ∧ X 2 = 0) ↔ w = (1, 0, 0) := by
  have g : ∀ c, c < 3 → rg (vk w c) := fun c hc => bd_rg (hw c hc) (by decide)
  constructor
  · rintro ⟨a, b, c⟩
    rw [h 0 (by decide)] at a
    rw [h 1 (by decide)] at b
    rw [h 2 (by decide)] at c
    exact v3_ext ((lI_eq (g 0 (by decide)) (b := 1) ⟨by omega, by omega⟩).mp a) ((lI_eq (g 1 (by decide)) (b := 0) ⟨by omega, by omega⟩).mp b) ((lI_eq (g 2 (by decide)) (b := 0) ⟨by omega, by omega⟩).mp c)
  · intro e
    rw [h 0 (by decide), h 1 (by decide), h 2 (by decide), e]; exact ⟨rfl, rfl, rfl⟩
theorem wBd {n : Nat} {T : Nat → Int} (rr : Rg n T) {v x : V3} (hv : ∀ c, c < 3 → bd (vk v c) 1000000) (hx : ∀ c, c < 3 → bd (vk x c) 300) : ∀ c, c < 3 → bd (vk (muv n T v x) c) 100000000000000000 := fun c hc => bd_mono (muvBd rr (by decide) (by decide) hv hx c hc) (by decide)
theorem not_big {w : V3} (h : ¬ big w) : ∀ c, c < 3 → bd (vk w c) 1000000 := fun c hc => Classical.byContradiction (fun q => h ⟨c, hc, q⟩)
theorem hpo_loop {n : Nat} {T : Nat → Int} (rr : Rg n T) {x : V3} (hx : ∀ c, c < 3 → bd (vk x c) 300) (hU : USm n T x) (hI : I 4 0 = nI n) {i : Nat} (hi : i < 100) {J0 : sa_J} (hT : ∀ t, t < 27 → J0 8 t = lI (T t)) (h2 : ∀ c, c < 3 → J0 2 (3 * i + c) = lI (vk x c)) : ∀ (d k : Nat), k + d = 12 → ∀ J : sa_J, (∀ q, q ≠ 9 → q ≠ 12 → J q = J0 q) → (∀ c, c < 3 → J 12 c = lI (vk (pwV n T x k) c)) → (∀ c, c < 3 → bd (vk (pwV n T x k) c) 1000000) → (∀ j, 1 ≤ j → j ≤ k → pwV n T x j ≠ (1, 0, 0)) → Sat (EC l D aI aL ad) M_X4_hasPowerOne (fun r I1 J1 => I1 = I ∧ (∀ q, q ≠ 9 → q ≠ 12 → J1 q = J0 q) ∧ bP (P1u n T x) r) 23 [(0, .ref (ad 4)), (1, .ref (ad 2)), (2, .int (nI (3 * i))), (3, .int (nI (k + 1)))] [] I J := by
  have h0 := rr.n
  intro d
  induction d with
  | zero =>
    intro k e J f h12 hb hno
    have ek : k = 12 := by omega
    subst ek
    refine bX4_hasPowerOne_23 aJ_C2 (by decide) (fun _ => bX4_hasPowerOne_129 ⟨rfl, f, Or.inr ⟨?_, rfl⟩⟩) (fun c => absurd (by decide) c)
    rintro ⟨j, j1, j2, hj⟩
    exact hno j j1 j2 hj
  | succ d ih =>
    intro k e J f h12 hb hno
    refine bX4_hasPowerOne_23 aJ_C2 (by decide) (fun c => absurd c (by rw [nI_lit 12, nJ_lt (by omega) (by omega)]; omega)) (fun _ => bX4_hasPowerOne_29 aJ_C2 (by decide) ?_)
    refine v_X4_114 dX4_hasPowerOne_37 rfl ⟨rfl, rfl, Nat.le_of_ble_eq_true rfl, Nat.le_of_ble_eq_true rfl⟩ (c_mulI rr hI (fun t ht => by rw [f 8 (by decide) (by decide)]; exact hT t ht) (p1 := 0) (p3 := 3 * i) aJ_C12 (by decide) aJ_C2 (by decide) (by omega) (by omega) (by decide) (by decide) (x := pwV n T x k) (y := x) (fun c hc => by rw [Nat.zero_add]; exact h12 c (by omega)) (fun c hc => by rw [f 2 (by decide) (by decide)]; exact h2 c (by omega))) rfl rfl (Nat.le_of_ble_eq_true rfl) (fun r I1 J1 hq => ?_)
    obtain ⟨rfl, e1, w9, w92, f9⟩ := hq
    obtain rfl := e1.symm
    have hw := wBd rr hb hx
    have e9 : ∀ c, c < 3 → J1 9 c = lI (vk (pwV n T x (k + 1)) c) := by
      intro c hc
      rcases h0 with rfl | rfl
      · by_cases c2 : c = 2
        · subst c2
          rw [w92 rfl]
          show (0 : Int64) = lI (pwV 2 T x (k + 1)).2.2
          rw [pwV_z2]; rfl
        · exact w9 c (by omega)
      · exact w9 c hc
    refine bX4_hasPowerOne_40 (v41 := nI 0) aJ_C2 (by decide) rfl ?_
    refine hp_in (w := pwV n T x (k + 1)) hw (J0 := J1) (fun hbig J2 g => ⟨rfl, fun q a b => by rw [g q b, f9 q a]; exact f q a b, Or.inr ⟨fun hp => by obtain ⟨c, hc, hn⟩ := hbig; exact hn (bd_mono (hU hp (k + 1) c hc) (by decide)), rfl⟩⟩) (fun hbig J2 g h12' => ?_) 3 0 rfl J1 (fun _ _ => rfl) e9 (fun c hc => absurd hc (by omega))
    · have f2 : ∀ q, q ≠ 9 → q ≠ 12 → J2 q = J0 q := fun q a b => by rw [g q b, f9 q a]; exact f q a b
      have one := v3_one hw (X := J2 12) h12'
      have go : pwV n T x (k + 1) ≠ (1, 0, 0) → Sat (EC l D aI aL ad) M_X4_hasPowerOne (fun r I1 J1 => I1 = I ∧ (∀ q, q ≠ 9 → q ≠ 12 → J1 q = J0 q) ∧ bP (P1u n T x) r) 123 [(0, .ref (ad 4)), (1, .ref (ad 2)), (2, .int (nI (3 * i))), (3, .int (nI (k + 1)))] [] I J2 := by
        intro hne
        refine bX4_hasPowerOne_123 (v123 := nI (k + 1 + 1)) aJ_C2 (by decide) (nI_addE (k + 1) 1) (ih (k + 1) (by omega) J2 f2 h12' (not_big hbig) (fun j j1 j2 => ?_))
        by_cases cj : j = k + 1
        · rw [cj]; exact hne
        · exact hno j j1 (by omega)
      refine bX4_hasPowerOne_88 aJ_C2 (by decide) (fun c => go (fun q => c (one.mpr q).1)) (fun c0 => ?_)
      refine bX4_hasPowerOne_99 aJ_C2 (by decide) (fun c => go (fun q => c (one.mpr q).2.1)) (fun c1 => ?_)
      refine bX4_hasPowerOne_110 aJ_C2 (by decide) (fun c => go (fun q => c (one.mpr q).2.2)) (fun c2 => ?_)
      exact bX4_hasPowerOne_121 ⟨rfl, f2, Or.inl ⟨⟨k + 1, by omega, by omega, one.mp ⟨c0, c1, c2⟩⟩, rfl⟩⟩
theorem c_hasPowerOne {n : Nat} {T : Nat → Int} (rr : Rg n T) {x : V3} (hx : ∀ c, c < 3 → bd (vk x c) 300) (hU : USm n T x) (hI : I 4 0 = nI n) {i : Nat} (hi : i < 100) (hT : ∀ t, t < 27 → J 8 t = lI (T t)) (h2 : ∀ c, c < 3 → J 2 (3 * i + c) = lI (vk x c)) : Con (EC l D aI aL ad) M_X4_hasPowerOne yX4_hasPowerOne [.ref (ad 4), .ref (ad 2), .int (nI (3 * i))] I J (fun r I1 J1 => I1 = I ∧ (∀ q, q ≠ 9 → q ≠ 12 → J1 q = J q) ∧ bP (P1u n T x) r) := by
  refine Con.of (by decide +kernel) rfl (Nat.le_of_ble_eq_true rfl) ?_
  refine bX4_hasPowerOne_0 (v6 := lI 1) (v13 := lI 0) (v20 := lI 0) (v22 := nI 1) aJ_C2 (by decide) rfl rfl rfl rfl ?_
  refine hpo_loop rr hx hU hI hi hT h2 12 0 rfl _ (fun q _ h => by rw [sa_uJ_ne h, sa_uJ_ne h, sa_uJ_ne h]) (fun c hc => ?_) (fun c hc => ?_) (fun j a b => absurd a (by omega))
  · rcases below3 hc with rfl | rfl | rfl
    · rw [sa_uJ_off (by decide), sa_uJ_off (by decide), sa_uJ_at]; rfl
    · rw [sa_uJ_off (by decide), sa_uJ_at]; rfl
    · rw [sa_uJ_at]; rfl
  · rcases below3 hc with rfl | rfl | rfl
    · exact (show bd 1 1000000 from ⟨by decide, by decide⟩)
    · exact (show bd 0 1000000 from ⟨by decide, by decide⟩)
    · exact (show bd 0 1000000 from ⟨by decide, by decide⟩)
/-- the norm by longs -/
theorem nmU_bd {n : Nat} {T : Nat → Int} (rr : Rg n T) {x : V3} (hx : ∀ c, c < 3 → bd (vk x c) 300) : bd (nmU n T x) 1000000000000000 := by
  have b0 : bd x.1 300 := hx 0 (by decide)
  have b1 : bd x.2.1 300 := hx 1 (by decide)
  have b2 : bd x.2.2 300 := hx 2 (by decide)
  rcases rr with ⟨rfl, p, q, rfl, bp, bq⟩ | ⟨rfl, s, rfl, bs, _⟩
  · show bd (x.1 * x.1 + x.1 * x.2.1 * q - x.2.1 * x.2.1 * p) _
    exact bd_mono (bd_sub (bd_add (bd_mul b0 b0) (bd_mul (bd_mul b0 b1) bq)) (bd_mul (bd_mul b1 b1) bp)) (by decide)
  · have m1 : ∀ k1 k2, k1 < 9 → k2 < 9 → bd (x.2.1 * s k1 + x.2.2 * s k2) 24000 := fun k1 k2 h1 h2 => bd_mono (bd_add (bd_mul b1 (bs k1 h1)) (bd_mul b2 (bs k2 h2))) (by decide)
    have m2 : ∀ k1 k2, k1 < 9 → k2 < 9 → bd (x.1 + x.2.1 * s k1 + x.2.2 * s k2) 25000 := fun k1 k2 h1 h2 => by rw [Int.add_assoc]; exact bd_mono (bd_add b0 (m1 k1 k2 h1 h2)) (by decide)
    show bd (x.1 * ((x.1 + x.2.1 * s 1 + x.2.2 * s 4) * (x.1 + x.2.1 * s 5 + x.2.2 * s 8) - (x.2.1 * s 2 + x.2.2 * s 5) * (x.2.1 * s 4 + x.2.2 * s 7)) - x.2.1 * ((x.2.1 * s 0 + x.2.2 * s 3) * (x.1 + x.2.1 * s 5 + x.2.2 * s 8) - (x.2.1 * s 2 + x.2.2 * s 5) * (x.2.1 * s 3 + x.2.2 * s 6)) + x.2.2 * ((x.2.1 * s 0 + x.2.2 * s 3) * (x.2.1 * s 4 + x.2.2 * s 7) - (x.1 + x.2.1 * s 1 + x.2.2 * s 4) * (x.2.1 * s 3 + x.2.2 * s 6))) _
    have d : ∀ {a b c e : Int}, bd a 25000 → bd b 25000 → bd c 25000 → bd e 25000 → bd (a * b - c * e) 1250000000 := fun a b c e => bd_mono (bd_sub (bd_mul a b) (bd_mul c e)) (by decide)
    have w : ∀ {a : Int}, bd a 24000 → bd a 25000 := fun h => bd_mono h (by decide)
    refine bd_mono (bd_add (bd_sub (bd_mul b0 (d (m2 1 4 (by decide) (by decide)) (m2 5 8 (by decide) (by decide)) (w (m1 2 5 (by decide) (by decide))) (w (m1 4 7 (by decide) (by decide))))) (bd_mul b1 (d (w (m1 0 3 (by decide) (by decide))) (m2 5 8 (by decide) (by decide)) (w (m1 2 5 (by decide) (by decide))) (w (m1 3 6 (by decide) (by decide)))))) (bd_mul b2 (d (w (m1 0 3 (by decide) (by decide))) (w (m1 4 7 (by decide) (by decide))) (m2 1 4 (by decide) (by decide)) (w (m1 3 6 (by decide) (by decide)))))) (by decide)
theorem c_nrm6 {n : Nat} {T : Nat → Int} (rr : Rg n T) {x : V3} (hI : I 4 0 = nI n) {i : Nat} (hi : i < 100) (hT : ∀ t, t < 27 → J 8 t = lI (T t)) (h2 : ∀ c, c < 3 → J 2 (3 * i + c) = lI (vk x c)) : Con (EC l D aI aL ad) M_X4_matrixOf yX4_matrixOf [.ref (ad 4), .ref (ad 2), .int (nI (3 * i))] I J (fun r I1 J1 => r = none ∧ I1 = I ∧ (∀ q, q ≠ 10 → J1 q = J q) ∧ Con (EC l D aI aL ad) M_X4_matrixNorm yX4_matrixNorm [.ref (ad 4)] I1 J1 (p_l (lI (nmU n T x)) I1 J1)) := by
  rcases rr with ⟨rfl, p, q, rfl, _, _⟩ | ⟨rfl, s, rfl, _, _⟩
  · refine Con.mono ?_ (c_matrixOf2 hI (p1 := 3 * i) aJ_C2 (by decide) (by omega) (by decide))
    rintro r I1 J1 ⟨rfl, rfl, w0, w1, w3, w4, f⟩
    refine ⟨rfl, rfl, f, Con.mono ?_ (c_matrixNorm2 hI)⟩
    rintro r I2 J2 ⟨rfl, rfl, rfl⟩
    refine ⟨?_, rfl, rfl⟩
    rw [w0, w1, w3, w4]
    simp only [hT 0 (by decide), hT 1 (by decide), hT 3 (by decide), hT 4 (by decide), hT 9 (by decide), hT 10 (by decide), hT 12 (by decide), hT 13 (by decide), h2 0 (by decide), h2 1 (by decide)]
    rw [show (0 : Int64) = lI 0 from rfl]
    simp only [lI_mul, lI_add, lI_sub]
    congr 3
    show _ = x.1 * x.1 + x.1 * x.2.1 * q - x.2.1 * x.2.1 * p
    simp only [vk, T2]
    grind
  · refine Con.mono ?_ (c_matrixOf3 hI (p1 := 3 * i) aJ_C2 (by decide) (by omega) (by decide))
    rintro r I1 J1 ⟨rfl, rfl, w0, w1, w2, w3, w4, w5, w6, w7, w8, f⟩
    refine ⟨rfl, rfl, f, Con.mono ?_ (c_matrixNorm3 hI)⟩
    rintro r I2 J2 ⟨rfl, rfl, rfl⟩
    refine ⟨?_, rfl, rfl⟩
    rw [w0, w1, w2, w3, w4, w5, w6, w7, w8]
    simp only [h2 0 (by decide), h2 1 (by decide), h2 2 (by decide), hT 0 (by decide), hT 1 (by decide), hT 2 (by decide), hT 3 (by decide), hT 4 (by decide), hT 5 (by decide), hT 6 (by decide), hT 7 (by decide), hT 8 (by decide), hT 9 (by decide), hT 10 (by decide), hT 11 (by decide), hT 12 (by decide), hT 13 (by decide), hT 14 (by decide), hT 15 (by decide), hT 16 (by decide), hT 17 (by decide), hT 18 (by decide), hT 19 (by decide), hT 20 (by decide), hT 21 (by decide), hT 22 (by decide), hT 23 (by decide), hT 24 (by decide), hT 25 (by decide), hT 26 (by decide)]
    rw [show (0 : Int64) = lI 0 from rfl]
    simp only [lI_mul, lI_add, lI_sub]
    congr 3
    simp only [vk, T3, nmU, nmS, nm3I, ms1, ms2, idx9]
    simp only [Int.mul_zero, Int.mul_one, Int.zero_add, Int.add_zero, show ¬ ((3 : Nat) = 2) by decide, if_false]
end UO
