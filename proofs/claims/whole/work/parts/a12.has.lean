/-- a number lessened by a lattice's rows -/
def lsV (n : Nat) (R : Nat → Int) (v : V3) : V3 :=
  if n = 2 then (v.1 - v.2.1 / R 4 * R 3 - (v.1 - v.2.1 / R 4 * R 3) / R 0 * R 0, v.2.1 - v.2.1 / R 4 * R 4, v.2.2)
  else (v.1 - v.2.2 / R 8 * R 6 - (v.2.1 - v.2.2 / R 8 * R 7) / R 4 * R 3 - (v.1 - v.2.2 / R 8 * R 6 - (v.2.1 - v.2.2 / R 8 * R 7) / R 4 * R 3) / R 0 * R 0, v.2.1 - v.2.2 / R 8 * R 7 - (v.2.1 - v.2.2 / R 8 * R 7) / R 4 * R 4, v.2.2 - v.2.2 / R 8 * R 8)
theorem quo_ex {a k b : Int} (hb : 0 < b) (h : a = k * b) : a / b = k := by rw [h, Int.mul_ediv_cancel _ (by omega)]
theorem Sp3_iff {R : Nat → Int} {v : V3} : Sp R v ↔ ∃ k, v.2.2 = k * R 8 ∧ ∃ j, v.2.1 - k * R 7 = j * R 4 ∧ ∃ i, v.1 - k * R 6 - j * R 3 = i * R 0 := by
  constructor
  · rintro ⟨i, j, k, a, b, c⟩; exact ⟨k, c, j, by omega, i, by omega⟩
  · rintro ⟨k, c, j, b, i, a⟩; exact ⟨i, j, k, by omega, by omega, c⟩
theorem Sp2_iff {R : Nat → Int} {v : V3} (h : R 6 = 0 ∧ R 7 = 0 ∧ R 8 = 1) : Sp R v ↔ ∃ j, v.2.1 = j * R 4 ∧ ∃ i, v.1 - j * R 3 = i * R 0 := by
  obtain ⟨h6, h7, h8⟩ := h
  rw [Sp3_iff, h6, h7, h8]
  constructor
  · rintro ⟨k, c, j, b, i, a⟩; exact ⟨j, by simp only [Int.mul_zero] at b; omega, i, by simp only [Int.mul_zero] at a; omega⟩
  · rintro ⟨j, b, i, a⟩; exact ⟨v.2.2, by omega, j, by simp only [Int.mul_zero]; omega, i, by simp only [Int.mul_zero]; omega⟩
theorem lsV_zero {n : Nat} (h0 : n = 2 ∨ n = 3) {R : Nat → Int} (t : Tri R) (r2 : R2 n R) (v : V3) : (∀ c, c < n → vk (lsV n R v) c = 0) ↔ Sp R v := by
  obtain ⟨_, _, _, p0, p4, p8⟩ := t
  rcases h0 with rfl | rfl
  · rw [Sp2_iff (r2 rfl)]
    constructor
    · intro h
      have a : v.1 - v.2.1 / R 4 * R 3 - (v.1 - v.2.1 / R 4 * R 3) / R 0 * R 0 = 0 := h 0 (by decide)
      have b : v.2.1 - v.2.1 / R 4 * R 4 = 0 := h 1 (by decide)
      exact ⟨v.2.1 / R 4, by omega, (v.1 - v.2.1 / R 4 * R 3) / R 0, by omega⟩
    · rintro ⟨j, b, i, a⟩ c hc
      have e1 := quo_ex p4 b
      have e0 := quo_ex p0 a
      have hc' : c = 0 ∨ c = 1 := by omega
      rcases hc' with rfl | rfl
      · show v.1 - v.2.1 / R 4 * R 3 - (v.1 - v.2.1 / R 4 * R 3) / R 0 * R 0 = 0
        rw [e1, e0]; omega
      · show v.2.1 - v.2.1 / R 4 * R 4 = 0
        rw [e1]; omega
  · rw [Sp3_iff]
    constructor
    · intro h
      have a : v.1 - v.2.2 / R 8 * R 6 - (v.2.1 - v.2.2 / R 8 * R 7) / R 4 * R 3 - (v.1 - v.2.2 / R 8 * R 6 - (v.2.1 - v.2.2 / R 8 * R 7) / R 4 * R 3) / R 0 * R 0 = 0 := h 0 (by decide)
      have b : v.2.1 - v.2.2 / R 8 * R 7 - (v.2.1 - v.2.2 / R 8 * R 7) / R 4 * R 4 = 0 := h 1 (by decide)
      have c : v.2.2 - v.2.2 / R 8 * R 8 = 0 := h 2 (by decide)
      exact ⟨v.2.2 / R 8, by omega, (v.2.1 - v.2.2 / R 8 * R 7) / R 4, by omega, (v.1 - v.2.2 / R 8 * R 6 - (v.2.1 - v.2.2 / R 8 * R 7) / R 4 * R 3) / R 0, by omega⟩
    · rintro ⟨k, c, j, b, i, a⟩ d hd
      have e2 := quo_ex p8 c
      have e1 := quo_ex p4 b
      have e0 := quo_ex p0 a
      rcases below3 hd with rfl | rfl | rfl
      · show v.1 - v.2.2 / R 8 * R 6 - (v.2.1 - v.2.2 / R 8 * R 7) / R 4 * R 3 - (v.1 - v.2.2 / R 8 * R 6 - (v.2.1 - v.2.2 / R 8 * R 7) / R 4 * R 3) / R 0 * R 0 = 0
        rw [e2, e1, e0]; omega
      · show v.2.1 - v.2.2 / R 8 * R 7 - (v.2.1 - v.2.2 / R 8 * R 7) / R 4 * R 4 = 0
        rw [e2, e1]; omega
      · show v.2.2 - v.2.2 / R 8 * R 8 = 0
        rw [e2]; omega
theorem bd_quo {a b A : Int} (ha : bd a A) (hb : 0 < b) : bd (a / b) A := by
  have h1 := ha.1
  have h2 := ha.2
  have m0 := Int.emod_nonneg a (show b ≠ 0 by omega)
  have m1 := Int.emod_lt_of_pos a hb
  have e := Int.mul_ediv_add_emod a b
  refine ⟨?_, ?_⟩
  · rcases Int.le_total 0 (a / b) with c | c
    · omega
    · have : b * (a / b) ≤ 1 * (a / b) := Int.mul_le_mul_of_nonpos_right (by omega) c
      have h3 : ¬ (a / b < -A) := by
        intro q
        have h4 : b * (a / b) ≤ b * (-A - 1) := Int.mul_le_mul_of_nonneg_left (by omega) (by omega)
        have h5 : b * (-A - 1) = -(b * A) - b := by grind
        have h6 : 1 * A ≤ b * A := Int.mul_le_mul_of_nonneg_right (by omega) (by omega)
        omega
      omega
  · rcases Int.le_total 0 (a / b) with c | c
    · have : 1 * (a / b) ≤ b * (a / b) := Int.mul_le_mul_of_nonneg_right (by omega) c
      omega
    · omega
def bP (c : Prop) (r : Option Value) : Prop := (c ∧ r = some (.int 1)) ∨ (¬ c ∧ r = some (.int 0))
theorem c_floorDivL {E : sa_E} {I : sa_I} {J : sa_J} {a W z : Int} {x y : Int64} (hx : x = lI a) (hy : y = lI W) (ha : rg a) (hW0 : 0 < W) (hW : W ≤ 1000000) (hz : a / W = z) : Con E M_J9_floorDiv_f86c9 yJ9_floorDiv_f86c9 [.long x, .long y] I J (p_l (lI z) I J) := c_floorDivE hx hy ha hW0 hW hz
section HA
variable {l : Launch} {D : va_G} {aI aL : ClassId} {ad : Nat → Nat} {P : sa_P} {I : sa_I} {J : sa_J}
theorem c_lessen2 {R : Nat → Int} {v : V3} (hI : I 4 0 = nI 2) (tR : Tri R) (bR : ∀ t, t < 9 → 0 ≤ R t ∧ R t ≤ 1000000) (bv : bdV v 1000000) {a1 q1 n1 p1 a3 q3 n3 p3 : Nat} (hq1 : sa_iJ (EC l D aI aL ad) a1 q1 n1) (hn1 : n1 < 2 ^ 31) (hq3 : sa_iJ (EC l D aI aL ad) a3 q3 n3) (hn3 : n3 < 2 ^ 31) (hb1 : p1 + 9 ≤ n1) (hb3 : p3 + 3 ≤ n3) (hz1 : q1 ≠ 17) (hR : ∀ t, t < 9 → J q1 (p1 + t) = lI (R t)) (hv : ∀ c, c < 2 → J q3 (p3 + c) = lI (vk v c)) : Con (EC l D aI aL ad) M_X2_lessen yX2_lessen [.ref (ad 13), .ref a1, .int (nI p1), .ref a3, .int (nI p3)] I J (fun r I1 J1 => r = none ∧ I1 = I ∧ (∀ q, q ≠ 17 → J1 q = J q) ∧ ∀ c, c < 2 → J1 17 c = lI (vk (lsV 2 R v) c)) := by
  refine Con.of (by decide +kernel) rfl (Nat.le_of_ble_eq_true rfl) ?_
  obtain ⟨_, _, _, p0, p4, p8⟩ := tR
  refine bX2_lessen_0 hq1 hn1 hq3 hn3 ?_
  refine s_copy (n0 := 3) (sp := p3) (dp := 0) (n := n3) (n' := 3) hq3 aJ_C17 dX2_lessen_9 (by decide +kernel) (Nat.le_of_ble_eq_true rfl) (Nat.le_of_ble_eq_true rfl) (by omega) (by decide) (by decide) (by omega) (by decide) ?_
  generalize hJa : sa_rJ J 17 (va_cpy (J q3) (J 17) p3 0 3) = Ja
  have fa : ∀ q, q ≠ 17 → Ja q = J q := fun q hq => by rw [← hJa]; exact sa_rJ_ne hq
  have va : ∀ c, c < 2 → Ja 17 c = lI (vk v c) := fun c hc => by
    rw [← hJa, sa_rJ_eq]; unfold va_cpy; rw [if_pos ⟨by omega, by omega⟩, Nat.sub_zero]; exact hv c hc
  have Ra : ∀ t, t < 9 → Ja q1 (p1 + t) = lI (R t) := fun t ht => by rw [fa q1 hz1]; exact hR t ht
  have v0 : Ja 17 0 = lI v.1 := va 0 (by decide)
  have v1 : Ja 17 1 = lI v.2.1 := va 1 (by decide)
  have b0 := bR 0 (by decide)
  have b3 := bR 3 (by decide)
  have b4 := bR 4 (by decide)
  have b6 := bR 6 (by decide)
  have b7 := bR 7 (by decide)
  have b8 := bR 8 (by decide)
  have w0 := bv.1
  have w1 := bv.2.1
  have w2 := bv.2.2
  have q1b := bd_quo w1 p4
  have a0b : bd (v.1 - v.2.1 / R 4 * R 3) 1000001000000 := bd_mono (bd_sub w0 (bd_mul q1b (bd_of b3.1 b3.2))) (by decide)
  refine bX2_lessen_12 (v21 := nI 1) hq1 hn1 (by rw [hI]; rfl) ?_
  refine bX2_lessen_23 hq1 hn1 (fun c => absurd c (by decide)) (fun _ => ?_)
  refine bX2_lessen_28 (j34 := p1 + 4) (v36 := lI (R 4)) hq1 hn1 (by rw [show (4 : Int32) * nI 1 = nI 4 from rfl]; exact nI_addE _ _) (by omega) (Ra 4 (by decide)) (fun c => absurd c (fun c => by have := (lI_le (b := 0) ⟨by omega, by omega⟩ ⟨by omega, by omega⟩).mp c; omega)) (fun _ => ?_)
  refine bX2_lessen_45 (j49 := 1) hq1 hn1 rfl (by decide) ?_
  refine v_X2_104 dX2_lessen_54 rfl ⟨rfl, rfl, Nat.le_of_ble_eq_true rfl, Nat.le_of_ble_eq_true rfl⟩ (c_floorDivL (a := v.2.1) (W := R 4) (z := v.2.1 / R 4) v1 rfl (bd_rg w1 (by decide)) p4 b4.2 rfl) rfl rfl (Nat.le_of_ble_eq_true rfl) (fun r I1 J1 hp => ?_)
  obtain ⟨rfl, e2, e3⟩ := hp
  obtain rfl := e2.symm
  obtain rfl := e3.symm
  refine bX2_lessen_57 (v60 := nI 0) hq1 hn1 rfl ?_
  refine bX2_lessen_62 hq1 hn1 (fun c => absurd c (by decide)) (fun _ => ?_)
  refine bX2_lessen_69 (j73 := 0) (j88 := p1 + 3) (v92 := lI (v.1 - v.2.1 / R 4 * R 3)) (v93 := nI 1) hq1 hn1 rfl (by decide) (by rw [show (3 : Int32) * nI 1 = nI 3 from rfl, nI_addE, nI_addE]) (by omega) (by decide) (by rw [v0, Ra 3 (by decide), lI_mul, lI_sub]) rfl ?_
  refine bX2_lessen_62 hq1 hn1 (fun c => absurd c (by decide)) (fun _ => ?_)
  refine bX2_lessen_69 (j73 := 1) (j88 := p1 + 4) (v92 := lI (v.2.1 - v.2.1 / R 4 * R 4)) (v93 := nI 2) hq1 hn1 rfl (by decide) (by rw [show (3 : Int32) * nI 1 = nI 3 from rfl, nI_addE, nI_addE]) (by omega) (by decide) (by simp only [sa_uJ_ne hz1]; rw [Ra 4 (by decide)]; simp [sa_uJ_if, lI_mul, lI_sub, v1]) rfl ?_
  refine bX2_lessen_62 hq1 hn1 (fun _ => ?_) (fun c => absurd (by decide) c)
  refine bX2_lessen_99 (v99 := nI 0) hq1 hn1 rfl ?_
  refine bX2_lessen_23 hq1 hn1 (fun c => absurd c (by decide)) (fun _ => ?_)
  refine bX2_lessen_28 (j34 := p1 + 0) (v36 := lI (R 0)) hq1 hn1 (by rw [show (4 : Int32) * nI 0 = nI 0 from rfl]; exact nI_addE _ _) (by omega) ((by simp only [sa_uJ_ne hz1]; exact Ra 0 (by decide))) (fun c => absurd c (fun c => by have := (lI_le (b := 0) ⟨by omega, by omega⟩ ⟨by omega, by omega⟩).mp c; omega)) (fun _ => ?_)
  refine bX2_lessen_45 (j49 := 0) hq1 hn1 rfl (by decide) ?_
  refine v_X2_104 dX2_lessen_54 rfl ⟨rfl, rfl, Nat.le_of_ble_eq_true rfl, Nat.le_of_ble_eq_true rfl⟩ (c_floorDivL (a := v.1 - v.2.1 / R 4 * R 3) (W := R 0) (z := (v.1 - v.2.1 / R 4 * R 3) / R 0) (by simp [sa_uJ_if]) rfl (bd_rg a0b (by decide)) p0 b0.2 rfl) rfl rfl (Nat.le_of_ble_eq_true rfl) (fun r I1 J1 hp => ?_)
  obtain ⟨rfl, e2, e3⟩ := hp
  obtain rfl := e2.symm
  obtain rfl := e3.symm
  refine bX2_lessen_57 (v60 := nI 0) hq1 hn1 rfl ?_
  refine bX2_lessen_62 hq1 hn1 (fun c => absurd c (by decide)) (fun _ => ?_)
  refine bX2_lessen_69 (j73 := 0) (j88 := p1 + 0) (v92 := lI (v.1 - v.2.1 / R 4 * R 3 - (v.1 - v.2.1 / R 4 * R 3) / R 0 * R 0)) (v93 := nI 1) hq1 hn1 rfl (by decide) (by rw [show (3 : Int32) * nI 0 = nI 0 from rfl, nI_addE, nI_addE]) (by omega) (by decide) (by simp only [sa_uJ_ne hz1]; rw [Ra 0 (by decide)]; simp [sa_uJ_if, lI_mul, lI_sub, v0]) rfl ?_
  refine bX2_lessen_62 hq1 hn1 (fun _ => ?_) (fun c => absurd (by decide) c)
  refine bX2_lessen_99 (v99 := (-1)) hq1 hn1 rfl ?_
  refine bX2_lessen_23 hq1 hn1 (fun _ => bX2_lessen_105 ⟨rfl, rfl, fun q hq => by simp only [sa_uJ_ne hq]; exact fa q hq, fun c hc => ?_⟩) (fun c => absurd (by decide) c)
  have hc2 : c = 0 ∨ c = 1 := by omega
  rcases hc2 with rfl | rfl <;> simp [sa_uJ_if, lsV, vk]
theorem c_lessen3 {R : Nat → Int} {v : V3} (hI : I 4 0 = nI 3) (tR : Tri R) (bR : ∀ t, t < 9 → 0 ≤ R t ∧ R t ≤ 1000000) (bv : bdV v 1000000) {a1 q1 n1 p1 a3 q3 n3 p3 : Nat} (hq1 : sa_iJ (EC l D aI aL ad) a1 q1 n1) (hn1 : n1 < 2 ^ 31) (hq3 : sa_iJ (EC l D aI aL ad) a3 q3 n3) (hn3 : n3 < 2 ^ 31) (hb1 : p1 + 9 ≤ n1) (hb3 : p3 + 3 ≤ n3) (hz1 : q1 ≠ 17) (hR : ∀ t, t < 9 → J q1 (p1 + t) = lI (R t)) (hv : ∀ c, c < 3 → J q3 (p3 + c) = lI (vk v c)) : Con (EC l D aI aL ad) M_X2_lessen yX2_lessen [.ref (ad 13), .ref a1, .int (nI p1), .ref a3, .int (nI p3)] I J (fun r I1 J1 => r = none ∧ I1 = I ∧ (∀ q, q ≠ 17 → J1 q = J q) ∧ ∀ c, c < 3 → J1 17 c = lI (vk (lsV 3 R v) c)) := by
  refine Con.of (by decide +kernel) rfl (Nat.le_of_ble_eq_true rfl) ?_
  obtain ⟨_, _, _, p0, p4, p8⟩ := tR
  refine bX2_lessen_0 hq1 hn1 hq3 hn3 ?_
  refine s_copy (n0 := 3) (sp := p3) (dp := 0) (n := n3) (n' := 3) hq3 aJ_C17 dX2_lessen_9 (by decide +kernel) (Nat.le_of_ble_eq_true rfl) (Nat.le_of_ble_eq_true rfl) (by omega) (by decide) (by decide) (by omega) (by decide) ?_
  generalize hJa : sa_rJ J 17 (va_cpy (J q3) (J 17) p3 0 3) = Ja
  have fa : ∀ q, q ≠ 17 → Ja q = J q := fun q hq => by rw [← hJa]; exact sa_rJ_ne hq
  have va : ∀ c, c < 3 → Ja 17 c = lI (vk v c) := fun c hc => by
    rw [← hJa, sa_rJ_eq]; unfold va_cpy; rw [if_pos ⟨by omega, by omega⟩, Nat.sub_zero]; exact hv c hc
  have Ra : ∀ t, t < 9 → Ja q1 (p1 + t) = lI (R t) := fun t ht => by rw [fa q1 hz1]; exact hR t ht
  have v0 : Ja 17 0 = lI v.1 := va 0 (by decide)
  have v1 : Ja 17 1 = lI v.2.1 := va 1 (by decide)
  have v2 : Ja 17 2 = lI v.2.2 := va 2 (by decide)
  have b0 := bR 0 (by decide)
  have b3 := bR 3 (by decide)
  have b4 := bR 4 (by decide)
  have b6 := bR 6 (by decide)
  have b7 := bR 7 (by decide)
  have b8 := bR 8 (by decide)
  have w0 := bv.1
  have w1 := bv.2.1
  have w2 := bv.2.2
  have q2b := bd_quo w2 p8
  have a1b : bd (v.2.1 - v.2.2 / R 8 * R 7) 1000001000000 := bd_mono (bd_sub w1 (bd_mul q2b (bd_of b7.1 b7.2))) (by decide)
  have q1b := bd_quo a1b p4
  have a0b : bd (v.1 - v.2.2 / R 8 * R 6 - (v.2.1 - v.2.2 / R 8 * R 7) / R 4 * R 3) 1000002000001000000 := bd_mono (bd_sub (bd_sub w0 (bd_mul q2b (bd_of b6.1 b6.2))) (bd_mul q1b (bd_of b3.1 b3.2))) (by decide)
  refine bX2_lessen_12 (v21 := nI 2) hq1 hn1 (by rw [hI]; rfl) ?_
  refine bX2_lessen_23 hq1 hn1 (fun c => absurd c (by decide)) (fun _ => ?_)
  refine bX2_lessen_28 (j34 := p1 + 8) (v36 := lI (R 8)) hq1 hn1 (by rw [show (4 : Int32) * nI 2 = nI 8 from rfl]; exact nI_addE _ _) (by omega) (Ra 8 (by decide)) (fun c => absurd c (fun c => by have := (lI_le (b := 0) ⟨by omega, by omega⟩ ⟨by omega, by omega⟩).mp c; omega)) (fun _ => ?_)
  refine bX2_lessen_45 (j49 := 2) hq1 hn1 rfl (by decide) ?_
  refine v_X2_104 dX2_lessen_54 rfl ⟨rfl, rfl, Nat.le_of_ble_eq_true rfl, Nat.le_of_ble_eq_true rfl⟩ (c_floorDivL (a := v.2.2) (W := R 8) (z := v.2.2 / R 8) v2 rfl (bd_rg w2 (by decide)) p8 b8.2 rfl) rfl rfl (Nat.le_of_ble_eq_true rfl) (fun r I1 J1 hp => ?_)
  obtain ⟨rfl, e2, e3⟩ := hp
  obtain rfl := e2.symm
  obtain rfl := e3.symm
  refine bX2_lessen_57 (v60 := nI 0) hq1 hn1 rfl ?_
  refine bX2_lessen_62 hq1 hn1 (fun c => absurd c (by decide)) (fun _ => ?_)
  refine bX2_lessen_69 (j73 := 0) (j88 := p1 + 6) (v92 := lI (v.1 - v.2.2 / R 8 * R 6)) (v93 := nI 1) hq1 hn1 rfl (by decide) (by rw [show (3 : Int32) * nI 2 = nI 6 from rfl, nI_addE, nI_addE]) (by omega) (by decide) (by rw [v0, Ra 6 (by decide), lI_mul, lI_sub]) rfl ?_
  refine bX2_lessen_62 hq1 hn1 (fun c => absurd c (by decide)) (fun _ => ?_)
  refine bX2_lessen_69 (j73 := 1) (j88 := p1 + 7) (v92 := lI (v.2.1 - v.2.2 / R 8 * R 7)) (v93 := nI 2) hq1 hn1 rfl (by decide) (by rw [show (3 : Int32) * nI 2 = nI 6 from rfl, nI_addE, nI_addE]) (by omega) (by decide) (by simp only [sa_uJ_ne hz1]; rw [Ra 7 (by decide)]; simp [sa_uJ_if, lI_mul, lI_sub, v1]) rfl ?_
  refine bX2_lessen_62 hq1 hn1 (fun c => absurd c (by decide)) (fun _ => ?_)
  refine bX2_lessen_69 (j73 := 2) (j88 := p1 + 8) (v92 := lI (v.2.2 - v.2.2 / R 8 * R 8)) (v93 := nI 3) hq1 hn1 rfl (by decide) (by rw [show (3 : Int32) * nI 2 = nI 6 from rfl, nI_addE, nI_addE]) (by omega) (by decide) (by simp only [sa_uJ_ne hz1]; rw [Ra 8 (by decide)]; simp [sa_uJ_if, lI_mul, lI_sub, v2]) rfl ?_
  refine bX2_lessen_62 hq1 hn1 (fun _ => ?_) (fun c => absurd (by decide) c)
  refine bX2_lessen_99 (v99 := nI 1) hq1 hn1 rfl ?_
  refine bX2_lessen_23 hq1 hn1 (fun c => absurd c (by decide)) (fun _ => ?_)
  refine bX2_lessen_28 (j34 := p1 + 4) (v36 := lI (R 4)) hq1 hn1 (by rw [show (4 : Int32) * nI 1 = nI 4 from rfl]; exact nI_addE _ _) (by omega) ((by simp only [sa_uJ_ne hz1]; exact Ra 4 (by decide))) (fun c => absurd c (fun c => by have := (lI_le (b := 0) ⟨by omega, by omega⟩ ⟨by omega, by omega⟩).mp c; omega)) (fun _ => ?_)
  refine bX2_lessen_45 (j49 := 1) hq1 hn1 rfl (by decide) ?_
  refine v_X2_104 dX2_lessen_54 rfl ⟨rfl, rfl, Nat.le_of_ble_eq_true rfl, Nat.le_of_ble_eq_true rfl⟩ (c_floorDivL (a := v.2.1 - v.2.2 / R 8 * R 7) (W := R 4) (z := (v.2.1 - v.2.2 / R 8 * R 7) / R 4) (by simp [sa_uJ_if]) rfl (bd_rg a1b (by decide)) p4 b4.2 rfl) rfl rfl (Nat.le_of_ble_eq_true rfl) (fun r I1 J1 hp => ?_)
  obtain ⟨rfl, e2, e3⟩ := hp
  obtain rfl := e2.symm
  obtain rfl := e3.symm
  refine bX2_lessen_57 (v60 := nI 0) hq1 hn1 rfl ?_
  refine bX2_lessen_62 hq1 hn1 (fun c => absurd c (by decide)) (fun _ => ?_)
  refine bX2_lessen_69 (j73 := 0) (j88 := p1 + 3) (v92 := lI (v.1 - v.2.2 / R 8 * R 6 - (v.2.1 - v.2.2 / R 8 * R 7) / R 4 * R 3)) (v93 := nI 1) hq1 hn1 rfl (by decide) (by rw [show (3 : Int32) * nI 1 = nI 3 from rfl, nI_addE, nI_addE]) (by omega) (by decide) (by simp only [sa_uJ_ne hz1]; rw [Ra 3 (by decide)]; simp [sa_uJ_if, lI_mul, lI_sub, v0]) rfl ?_
  refine bX2_lessen_62 hq1 hn1 (fun c => absurd c (by decide)) (fun _ => ?_)
  refine bX2_lessen_69 (j73 := 1) (j88 := p1 + 4) (v92 := lI (v.2.1 - v.2.2 / R 8 * R 7 - (v.2.1 - v.2.2 / R 8 * R 7) / R 4 * R 4)) (v93 := nI 2) hq1 hn1 rfl (by decide) (by rw [show (3 : Int32) * nI 1 = nI 3 from rfl, nI_addE, nI_addE]) (by omega) (by decide) (by simp only [sa_uJ_ne hz1]; rw [Ra 4 (by decide)]; simp [sa_uJ_if, lI_mul, lI_sub, v1]) rfl ?_
  refine bX2_lessen_62 hq1 hn1 (fun _ => ?_) (fun c => absurd (by decide) c)
  refine bX2_lessen_99 (v99 := nI 0) hq1 hn1 rfl ?_
  refine bX2_lessen_23 hq1 hn1 (fun c => absurd c (by decide)) (fun _ => ?_)
  refine bX2_lessen_28 (j34 := p1 + 0) (v36 := lI (R 0)) hq1 hn1 (by rw [show (4 : Int32) * nI 0 = nI 0 from rfl]; exact nI_addE _ _) (by omega) ((by simp only [sa_uJ_ne hz1]; exact Ra 0 (by decide))) (fun c => absurd c (fun c => by have := (lI_le (b := 0) ⟨by omega, by omega⟩ ⟨by omega, by omega⟩).mp c; omega)) (fun _ => ?_)
  refine bX2_lessen_45 (j49 := 0) hq1 hn1 rfl (by decide) ?_
  refine v_X2_104 dX2_lessen_54 rfl ⟨rfl, rfl, Nat.le_of_ble_eq_true rfl, Nat.le_of_ble_eq_true rfl⟩ (c_floorDivL (a := v.1 - v.2.2 / R 8 * R 6 - (v.2.1 - v.2.2 / R 8 * R 7) / R 4 * R 3) (W := R 0) (z := (v.1 - v.2.2 / R 8 * R 6 - (v.2.1 - v.2.2 / R 8 * R 7) / R 4 * R 3) / R 0) (by simp [sa_uJ_if]) rfl (bd_rg a0b (by decide)) p0 b0.2 rfl) rfl rfl (Nat.le_of_ble_eq_true rfl) (fun r I1 J1 hp => ?_)
  obtain ⟨rfl, e2, e3⟩ := hp
  obtain rfl := e2.symm
  obtain rfl := e3.symm
  refine bX2_lessen_57 (v60 := nI 0) hq1 hn1 rfl ?_
  refine bX2_lessen_62 hq1 hn1 (fun c => absurd c (by decide)) (fun _ => ?_)
  refine bX2_lessen_69 (j73 := 0) (j88 := p1 + 0) (v92 := lI (v.1 - v.2.2 / R 8 * R 6 - (v.2.1 - v.2.2 / R 8 * R 7) / R 4 * R 3 - (v.1 - v.2.2 / R 8 * R 6 - (v.2.1 - v.2.2 / R 8 * R 7) / R 4 * R 3) / R 0 * R 0)) (v93 := nI 1) hq1 hn1 rfl (by decide) (by rw [show (3 : Int32) * nI 0 = nI 0 from rfl, nI_addE, nI_addE]) (by omega) (by decide) (by simp only [sa_uJ_ne hz1]; rw [Ra 0 (by decide)]; simp [sa_uJ_if, lI_mul, lI_sub, v0]) rfl ?_
  refine bX2_lessen_62 hq1 hn1 (fun _ => ?_) (fun c => absurd (by decide) c)
  refine bX2_lessen_99 (v99 := (-1)) hq1 hn1 rfl ?_
  refine bX2_lessen_23 hq1 hn1 (fun _ => bX2_lessen_105 ⟨rfl, rfl, fun q hq => by simp only [sa_uJ_ne hq]; exact fa q hq, fun c hc => ?_⟩) (fun c => absurd (by decide) c)
  rcases below3 hc with rfl | rfl | rfl <;> simp [sa_uJ_if, lsV, vk]
theorem c_lessenN {n : Nat} (h0 : n = 2 ∨ n = 3) {R : Nat → Int} {v : V3} (hI : I 4 0 = nI n) (tR : Tri R) (bR : ∀ t, t < 9 → 0 ≤ R t ∧ R t ≤ 1000000) (bv : bdV v 1000000) {a1 q1 n1 p1 a3 q3 n3 p3 : Nat} (hq1 : sa_iJ (EC l D aI aL ad) a1 q1 n1) (hn1 : n1 < 2 ^ 31) (hq3 : sa_iJ (EC l D aI aL ad) a3 q3 n3) (hn3 : n3 < 2 ^ 31) (hb1 : p1 + 9 ≤ n1) (hb3 : p3 + 3 ≤ n3) (hz1 : q1 ≠ 17) (hR : ∀ t, t < 9 → J q1 (p1 + t) = lI (R t)) (hv : ∀ c, c < n → J q3 (p3 + c) = lI (vk v c)) : Con (EC l D aI aL ad) M_X2_lessen yX2_lessen [.ref (ad 13), .ref a1, .int (nI p1), .ref a3, .int (nI p3)] I J (fun r I1 J1 => r = none ∧ I1 = I ∧ (∀ q, q ≠ 17 → J1 q = J q) ∧ ∀ c, c < n → J1 17 c = lI (vk (lsV n R v) c)) := by
  rcases h0 with rfl | rfl
  · exact c_lessen2 hI tR bR bv hq1 hn1 hq3 hn3 hb1 hb3 hz1 hR hv
  · exact c_lessen3 hI tR bR bv hq1 hn1 hq3 hn3 hb1 hb3 hz1 hR hv
theorem lsV_bd {n : Nat} (h0 : n = 2 ∨ n = 3) {R : Nat → Int} (tR : Tri R) (bR : ∀ t, t < 9 → R t ≤ 1000000) (v : V3) : ∀ c, c < n → 0 ≤ vk (lsV n R v) c ∧ vk (lsV n R v) c < R (4 * c) := by
  obtain ⟨_, _, _, p0, p4, p8⟩ := tR
  have q : ∀ {a b : Int}, 0 < b → 0 ≤ a - a / b * b ∧ a - a / b * b < b := by
    intro a b hb
    have m0 := Int.emod_nonneg a (show b ≠ 0 by omega)
    have m1 := Int.emod_lt_of_pos a hb
    have e := Int.mul_ediv_add_emod a b
    have e2 := Int.mul_comm b (a / b)
    omega
  intro c hc
  rcases h0 with rfl | rfl
  · have hc' : c = 0 ∨ c = 1 := by omega
    rcases hc' with rfl | rfl
    · exact q p0
    · exact q p4
  · rcases below3 hc with rfl | rfl | rfl
    · exact q p0
    · exact q p4
    · exact q p8
theorem has_loop {n : Nat} {u : Nat → Int} (h3 : n ≤ 3) (hu : ∀ c, c < n → rg (u c)) : ∀ (d i0 : Nat), i0 + d = n → I 4 0 = nI n → (∀ c, c < n → J 17 c = lI (u c)) → (∀ c, c < i0 → u c = 0) → (∀ r, bP (∀ c, c < n → u c = 0) r → P r I J) → Sat (EC l D aI aL ad) M_X2_has P 12 [(0, .ref (ad 13)), (5, .int (nI i0))] [] I J := by
  intro d
  induction d with
  | zero =>
    intro i0 hd hI hJ hz kk
    refine bX2_has_12 (fun _ => bX2_has_44 (kk _ (Or.inl ⟨fun c hc => hz c (by omega), rfl⟩))) (fun c => absurd ?_ c)
    rw [hI, nJ_le (by omega) (by omega)]; omega
  | succ d ih =>
    intro i0 hd hI hJ hz kk
    refine bX2_has_12 (fun c => absurd c (by rw [hI, nJ_le (by omega) (by omega)]; omega)) (fun _ => ?_)
    have e := hJ i0 (by omega)
    refine bX2_has_24 (j28 := i0) rfl (by omega) (fun c => ?_) (fun c => ?_)
    · rw [e] at c
      have c0 := (lI_eq (hu i0 (by omega)) (b := 0) ⟨by omega, by omega⟩).mp c
      refine bX2_has_38 (v38 := nI (i0 + 1)) (nI_addE i0 1) (ih (i0 + 1) (by omega) hI hJ (fun c hc => ?_) kk)
      by_cases h : c = i0
      · rw [h]; exact c0
      · exact hz c (by omega)
    · refine bX2_has_36 (kk _ (Or.inr ⟨fun h => c ?_, rfl⟩))
      rw [e, h i0 (by omega)]; rfl
theorem c_has {n : Nat} (h0 : n = 2 ∨ n = 3) {R : Nat → Int} {v : V3} (hI : I 4 0 = nI n) (tR : Tri R) (r2 : R2 n R) (bR : ∀ t, t < 9 → 0 ≤ R t ∧ R t ≤ 1000000) (bv : bdV v 1000000) {a1 q1 n1 p1 a3 q3 n3 p3 : Nat} (hq1 : sa_iJ (EC l D aI aL ad) a1 q1 n1) (hn1 : n1 < 2 ^ 31) (hq3 : sa_iJ (EC l D aI aL ad) a3 q3 n3) (hn3 : n3 < 2 ^ 31) (hb1 : p1 + 9 ≤ n1) (hb3 : p3 + 3 ≤ n3) (hz1 : q1 ≠ 17) (hR : ∀ t, t < 9 → J q1 (p1 + t) = lI (R t)) (hv : ∀ c, c < n → J q3 (p3 + c) = lI (vk v c)) : Con (EC l D aI aL ad) M_X2_has yX2_has [.ref (ad 13), .ref a1, .int (nI p1), .ref a3, .int (nI p3)] I J (fun r I1 J1 => I1 = I ∧ (∀ q, q ≠ 17 → J1 q = J q) ∧ bP (Sp R v) r) := by
  refine Con.of (by decide +kernel) rfl (Nat.le_of_ble_eq_true rfl) ?_
  refine bX2_has_0 hq1 hn1 hq3 hn3 ?_
  refine v_X2_109 dX2_has_6 rfl ⟨rfl, rfl, Nat.le_of_ble_eq_true rfl, Nat.le_of_ble_eq_true rfl⟩ (c_lessenN h0 hI tR bR bv hq1 hn1 hq3 hn3 hb1 hb3 hz1 hR hv) rfl rfl (Nat.le_of_ble_eq_true rfl) (fun r I1 J1 hp => ?_)
  obtain ⟨rfl, e2, f1, h17⟩ := hp
  obtain rfl := e2.symm
  refine bX2_has_9 (v10 := nI 0) rfl ?_
  have hb := lsV_bd h0 tR (fun t ht => (bR t ht).2) v
  refine has_loop (by omega) (fun c hc => ⟨by have := (hb c hc).1; omega, by have := (hb c hc).2; have := (bR (4 * c) (by omega)).2; omega⟩) n 0 (by omega) hI h17 (fun c hc => by omega) (fun r hr => ⟨rfl, f1, ?_⟩)
  have := lsV_zero h0 tR r2 v
  rcases hr with ⟨a, b⟩ | ⟨a, b⟩
  · exact Or.inl ⟨this.mp a, b⟩
  · exact Or.inr ⟨fun h => a (this.mpr h), b⟩
theorem ha_loop {n : Nat} (h0 : n = 2 ∨ n = 3) {X Y : Nat → Int} (tX : Tri X) (r2 : R2 n X) (bX : ∀ t, t < 9 → 0 ≤ X t ∧ X t ≤ 1000000) (bY : ∀ i, i < 3 → bdV (rowV Y i) 1000000) {a1 q1 n1 p1 a3 q3 n3 p3 : Nat} (hq1 : sa_iJ (EC l D aI aL ad) a1 q1 n1) (hn1 : n1 < 2 ^ 31) (hq3 : sa_iJ (EC l D aI aL ad) a3 q3 n3) (hn3 : n3 < 2 ^ 31) (hb1 : p1 + 9 ≤ n1) (hb3 : p3 + 9 ≤ n3) (hz1 : q1 ≠ 17) (hz3 : q3 ≠ 17) : ∀ (d i0 : Nat) (J : sa_J), i0 + d = n → I 4 0 = nI n → (∀ t, t < 9 → J q1 (p1 + t) = lI (X t)) → (∀ t, t < 9 → J q3 (p3 + t) = lI (Y t)) → (∀ i, i < i0 → Sp X (rowV Y i)) → (∀ r J', (∀ q, q ≠ 17 → J' q = J q) → bP (∀ i, i < n → Sp X (rowV Y i)) r → P r I J') → Sat (EC l D aI aL ad) M_X2_hasAll P 3 [(0, .ref (ad 13)), (1, .ref a1), (2, .int (nI p1)), (3, .ref a3), (4, .int (nI p3)), (5, .int (nI i0))] [] I J := by
  intro d
  induction d with
  | zero =>
    intro i0 J hd hI hX hY hz kk
    refine bX2_hasAll_3 hq1 hn1 hq3 hn3 (fun _ => bX2_hasAll_40 (kk _ J (fun _ _ => rfl) (Or.inl ⟨fun c hc => hz c (by omega), rfl⟩))) (fun c => absurd ?_ c)
    rw [hI, nJ_le (by omega) (by omega)]; omega
  | succ d ih =>
    intro i0 J hd hI hX hY hz kk
    refine bX2_hasAll_3 hq1 hn1 hq3 hn3 (fun c => absurd c (by rw [hI, nJ_le (by omega) (by omega)]; omega)) (fun _ => ?_)
    refine bX2_hasAll_15 hq1 hn1 hq3 hn3 ?_
    rw [show nI p3 + (3 : Int32) * nI i0 = nI (p3 + 3 * i0) by rw [show (3 : Int32) * nI i0 = nI (3 * i0) from nI_mulE 3 i0]; exact nI_addE _ _]
    refine v_X2_112 dX2_hasAll_26 rfl ⟨rfl, rfl, Nat.le_of_ble_eq_true rfl, Nat.le_of_ble_eq_true rfl⟩ (c_has h0 hI tX r2 bX (v := rowV Y i0) (bY i0 (by omega)) hq1 hn1 hq3 hn3 hb1 (by omega) hz1 hX (fun c hc => by rw [rowV_vk Y i0 (by omega), Nat.add_assoc]; exact hY _ (by omega))) rfl rfl (Nat.le_of_ble_eq_true rfl) (fun r I1 J1 hp => ?_)
    obtain ⟨e2, f1, hr⟩ := hp
    obtain rfl := e2.symm
    rcases hr with ⟨a, rfl⟩ | ⟨a, rfl⟩
    · refine bX2_hasAll_29 hq1 hn1 hq3 hn3 (fun _ => ?_) (fun c => absurd c (by decide))
      refine bX2_hasAll_34 (v34 := nI (i0 + 1)) hq1 hn1 hq3 hn3 (nI_addE i0 1) ?_
      refine ih (i0 + 1) J1 (by omega) hI (fun t ht => by rw [f1 q1 hz1]; exact hX t ht) (fun t ht => by rw [f1 q3 hz3]; exact hY t ht) (fun i hi => ?_) (fun r J' f' hr => kk r J' (fun q hq => (f' q hq).trans (f1 q hq)) hr)
      by_cases h : i = i0
      · rw [h]; exact a
      · exact hz i (by omega)
    · refine bX2_hasAll_29 hq1 hn1 hq3 hn3 (fun c => absurd rfl c) (fun _ => ?_)
      exact bX2_hasAll_32 (kk _ J1 f1 (Or.inr ⟨fun h => a (h i0 (by omega)), rfl⟩))
theorem c_hasAll {n : Nat} (h0 : n = 2 ∨ n = 3) {X Y : Nat → Int} (hI : I 4 0 = nI n) (tX : Tri X) (r2 : R2 n X) (bX : ∀ t, t < 9 → 0 ≤ X t ∧ X t ≤ 1000000) (bY : ∀ i, i < 3 → bdV (rowV Y i) 1000000) {a1 q1 n1 p1 a3 q3 n3 p3 : Nat} (hq1 : sa_iJ (EC l D aI aL ad) a1 q1 n1) (hn1 : n1 < 2 ^ 31) (hq3 : sa_iJ (EC l D aI aL ad) a3 q3 n3) (hn3 : n3 < 2 ^ 31) (hb1 : p1 + 9 ≤ n1) (hb3 : p3 + 9 ≤ n3) (hz1 : q1 ≠ 17) (hz3 : q3 ≠ 17) (hX : ∀ t, t < 9 → J q1 (p1 + t) = lI (X t)) (hY : ∀ t, t < 9 → J q3 (p3 + t) = lI (Y t)) : Con (EC l D aI aL ad) M_X2_hasAll yX2_hasAll [.ref (ad 13), .ref a1, .int (nI p1), .ref a3, .int (nI p3)] I J (fun r I1 J1 => I1 = I ∧ (∀ q, q ≠ 17 → J1 q = J q) ∧ bP (∀ i, i < n → Sp X (rowV Y i)) r) := by
  refine Con.of (by decide +kernel) rfl (Nat.le_of_ble_eq_true rfl) ?_
  refine bX2_hasAll_0 (v1 := nI 0) hq1 hn1 hq3 hn3 rfl ?_
  exact ha_loop h0 tX r2 bX bY hq1 hn1 hq3 hn3 hb1 hb3 hz1 hz3 n 0 J (by omega) hI hX hY (fun i hi => by omega) (fun r J' f' hr => ⟨rfl, f', hr⟩)
theorem rm_dvd {a b : Int} (ha : rg a) (hb : rg b) (h0 : 0 < b) : (lI a - lI a / lI b * lI b = (0 : Int64)) ↔ ∃ k, a = k * b := by
  rw [lI_rem ha hb h0]
  have hm : rg (a.tmod b) := by
    have h1 : (a.tmod b).natAbs < b.natAbs := by rw [Int.natAbs_tmod]; exact Nat.mod_lt _ (by omega)
    have := hb.2
    exact ⟨by omega, by omega⟩
  rw [show (0 : Int64) = lI 0 from rfl, lI_eq hm ⟨by omega, by omega⟩]
  constructor
  · intro h
    obtain ⟨k, e⟩ := Int.dvd_of_tmod_eq_zero h
    exact ⟨k, by rw [e, Int.mul_comm]⟩
  · rintro ⟨k, rfl⟩
    exact Int.tmod_eq_zero_of_dvd ⟨k, Int.mul_comm _ _⟩
theorem quo_t {k b : Int} (ha : rg (k * b)) (hb : rg b) (h0 : 0 < b) : lI (k * b) / lI b = lI k := by
  rw [lI_div ha hb h0, Int.mul_tdiv_cancel _ (by omega)]
theorem c_isInside {n : Nat} (h0 : n = 2 ∨ n = 3) {R : Nat → Int} {v : V3} (hI : I 0 1 = nI n) (tR : Tri R) (r2 : R2 n R) (bR : ∀ t, t < 9 → 0 ≤ R t ∧ R t ≤ 1000000) (bv : bdV v 1000000) {a1 q1 n1 p1 : Nat} (hq1 : sa_iJ (ER l D aI aL ad) a1 q1 n1) (hn1 : n1 < 2 ^ 31) (hb1 : p1 + 3 ≤ n1) (hR : ∀ t, t < 3 * n → J 16 t = lI (R t)) (hv : ∀ c, c < n → J q1 (p1 + c) = lI (vk v c)) : Con (ER l D aI aL ad) M_X7_isInside yX7_isInside [.ref (ad 0), .ref a1, .int (nI p1), .ref (ad 16)] I J (fun r I1 J1 => I1 = I ∧ J1 = J ∧ bP (Sp R v) r) := by
  refine Con.of (by decide +kernel) rfl (Nat.le_of_ble_eq_true rfl) ?_
  have v0 : J q1 p1 = lI v.1 := hv 0 (by omega)
  have v1 : J q1 (p1 + 1) = lI v.2.1 := hv 1 (by omega)
  obtain ⟨_, _, _, p0, p4, p8⟩ := tR
  have b0 := bR 0 (by decide)
  have b3 := bR 3 (by decide)
  have b4 := bR 4 (by decide)
  have b6 := bR 6 (by decide)
  have b7 := bR 7 (by decide)
  have b8 := bR 8 (by decide)
  have m0 := hR 0 (by omega)
  have m3 := hR 3 (by omega)
  have m4 := hR 4 (by omega)
  have g0 : rg (R 0) := ⟨by omega, by omega⟩
  have g4 : rg (R 4) := ⟨by omega, by omega⟩
  have z0 := lI_ne0 g0 (show R 0 ≠ 0 by omega)
  have z4 := lI_ne0 g4 (show R 4 ≠ 0 by omega)
  have fin : ∀ (x y : Int), bd x 1000001000000 → bd y 1000001000000 → (Sp R v ↔ ∃ j, y = j * R 4 ∧ ∃ i, x - j * R 3 = i * R 0) → Sat (ER l D aI aL ad) M_X7_isInside (fun r I1 J1 => I1 = I ∧ J1 = J ∧ bP (Sp R v) r) 86 [(3, .ref (ad 16)), (4, .long (lI x)), (6, .long (lI y))] [] I J := by
    intro x y bx by' hS
    refine bX7_isInside_86 aJ_R16 (by decide) (by decide) (by rw [m4]; exact z4) (fun c => ?_) (fun c => ?_)
    · rw [m4, rm_dvd (bd_rg by' (by decide)) g4 p4] at c
      obtain ⟨j, ej⟩ := c
      have bj : bd j 1000001000000 := by
        have := bd_quo by' p4
        rw [quo_ex p4 ej] at this; exact this
      have bx2 : bd (x - j * R 3) 1000003000000000000 := bd_mono (bd_sub bx (bd_mul bj (bd_of b3.1 b3.2))) (by decide)
      have eq : lI y / lI (R 4) = lI j := by rw [ej]; exact quo_t (by rw [← ej]; exact bd_rg by' (by decide)) g4 p4
      refine bX7_isInside_99 aJ_R16 (by decide) (by decide) (by rw [m4]; exact z4) (by decide) (by decide) (by rw [m0]; exact z0) (fun c => ?_) (fun c => ?_)
      · rw [m4, m3, m0, eq, lI_mul, lI_sub, rm_dvd (bd_rg bx2 (by decide)) g0 p0] at c
        refine bX7_isInside_125 (bX7_isInside_126 rfl ⟨rfl, rfl, Or.inr ⟨fun h => c ?_, rfl⟩⟩)
        obtain ⟨j', ej', i, ei⟩ := hS.mp h
        have : j' = j := by
          have q1 := quo_ex p4 ej'
          have q2 := quo_ex p4 ej
          omega
        subst this; exact ⟨i, ei⟩
      · rw [m4, m3, m0, eq, lI_mul, lI_sub, rm_dvd (bd_rg bx2 (by decide)) g0 p0] at c
        obtain ⟨i, ei⟩ := c
        exact bX7_isInside_121 (bX7_isInside_126 rfl ⟨rfl, rfl, Or.inl ⟨hS.mpr ⟨j, ej, i, ei⟩, rfl⟩⟩)
    · rw [m4, rm_dvd (bd_rg by' (by decide)) g4 p4] at c
      exact bX7_isInside_97 ⟨rfl, rfl, Or.inr ⟨fun h => c (by obtain ⟨j, ej, _⟩ := hS.mp h; exact ⟨j, ej⟩), rfl⟩⟩
  have w0 := bv.1
  have w1 := bv.2.1
  have w2 := bv.2.2
  refine bX7_isInside_0 (j1 := p1) (v3 := lI v.1) (j8 := p1 + 1) (v10 := lI v.2.1) hq1 hn1 aJ_R16 (by decide) rfl (by omega) (nI_addE p1 1) (by omega) v0 v1 (fun c => ?_) (fun c => ?_)
  · have hn : n = 2 := by
      rcases h0 with h | h
      · exact h
      · exact absurd (by rw [hI, h]; rfl) c
    refine bX7_isInside_28 aJ_R16 (by decide) (bX7_isInside_29 aJ_R16 (by decide) (fun _ => ?_) (fun c2 => absurd c2 c))
    exact fin v.1 v.2.1 (bd_mono w0 (by decide)) (bd_mono w1 (by decide)) (Sp2_iff (r2 hn))
  · have hn : n = 3 := by
      rcases h0 with h | h
      · rw [hI, h] at c; exact absurd c (by decide)
      · exact h
    have m6 := hR 6 (by omega)
    have m7 := hR 7 (by omega)
    have m8 := hR 8 (by omega)
    have g8 : rg (R 8) := ⟨by omega, by omega⟩
    have z8 := lI_ne0 g8 (show R 8 ≠ 0 by omega)
    have v2 : J q1 (p1 + 2) = lI v.2.2 := hv 2 (by omega)
    refine bX7_isInside_20 (j23 := p1 + 2) hq1 hn1 aJ_R16 (by decide) (nI_addE p1 2) (by omega) ?_
    refine bX7_isInside_29 aJ_R16 (by decide) (fun c2 => absurd c c2) (fun _ => ?_)
    rw [v2]
    refine bX7_isInside_39 aJ_R16 (by decide) (by decide) (by rw [m8]; exact z8) (fun c => ?_) (fun c => ?_)
    · rw [m8, rm_dvd (bd_rg w2 (by decide)) g8 p8] at c
      obtain ⟨k, ek⟩ := c
      have bk : bd k 1000000 := by
        have := bd_quo w2 p8
        rw [quo_ex p8 ek] at this; exact this
      refine bX7_isInside_53 (v60 := lI k) (v72 := lI (v.1 - k * R 6)) (v84 := lI (v.2.1 - k * R 7)) aJ_R16 (by decide) (by decide) (by rw [m8]; exact z8) (by decide) (by decide) (by rw [m8, ek]; exact quo_t (by rw [← ek]; exact bd_rg w2 (by decide)) g8 p8) (by rw [m6, lI_mul, lI_sub]) (by rw [m7, lI_mul, lI_sub]) ?_
      refine fin _ _ (bd_mono (bd_sub w0 (bd_mul bk (bd_of b6.1 b6.2))) (by decide)) (bd_mono (bd_sub w1 (bd_mul bk (bd_of b7.1 b7.2))) (by decide)) ?_
      rw [Sp3_iff]
      constructor
      · rintro ⟨k', e', j, ej, i, ei⟩
        have : k' = k := by
          have q1 := quo_ex p8 e'
          have q2 := quo_ex p8 ek
          omega
        subst this; exact ⟨j, ej, i, ei⟩
      · rintro ⟨j, ej, i, ei⟩; exact ⟨k, ek, j, ej, i, ei⟩
    · rw [m8, rm_dvd (bd_rg w2 (by decide)) g8 p8] at c
      exact bX7_isInside_51 ⟨rfl, rfl, Or.inr ⟨fun h => c (by obtain ⟨k, ek, _⟩ := Sp3_iff.mp h; exact ⟨k, ek⟩), rfl⟩⟩
theorem iw_loop {n : Nat} (h0 : n = 2 ∨ n = 3) {X Y : Nat → Int} (hI : I 0 1 = nI n) (tY : Tri Y) (r2 : R2 n Y) (bY : ∀ t, t < 9 → 0 ≤ Y t ∧ Y t ≤ 1000000) (bX : ∀ i, i < 3 → bdV (rowV X i) 1000000) (hX : ∀ t, t < 3 * n → J 15 t = lI (X t)) (hY : ∀ t, t < 3 * n → J 16 t = lI (Y t)) (kk : ∀ r, bP (∀ i, i < n → Sp Y (rowV X i)) r → P r I J) : ∀ (d i0 : Nat) (b : Bool), i0 + d = n → (b = true ↔ ∀ i, i < i0 → Sp Y (rowV X i)) → Sat (ER l D aI aL ad) M_X7_isWithin P 4 [(0, .ref (ad 0)), (1, .int (bI b)), (2, .int (nI i0))] [] I J := by
  intro d
  have fin : ∀ (i0 : Nat) (b : Bool), i0 ≤ n → (b = true ↔ ∀ i, i < i0 → Sp Y (rowV X i)) → (b = true → i0 = n) → Sat (ER l D aI aL ad) M_X7_isWithin P 38 [(1, .int (bI b))] [] I J := by
    intro i0 b hi hb hn
    refine bX7_isWithin_38 (bI_nar b) (kk _ ?_)
    cases b with
    | true => exact Or.inl ⟨by have := hb.mp rfl; rw [hn rfl] at this; exact this, rfl⟩
    | false => exact Or.inr ⟨fun h => by have := hb.mpr (fun i hh => h i (by omega)); exact absurd this (by decide), rfl⟩
  induction d with
  | zero =>
    intro i0 b hd hb
    refine bX7_isWithin_4 (fun _ => fin i0 b (by omega) hb (fun _ => by omega)) (fun c => absurd ?_ c)
    rw [hI, nJ_le (by omega) (by omega)]; omega
  | succ d ih =>
    intro i0 b hd hb
    refine bX7_isWithin_4 (fun c => absurd c (by rw [hI, nJ_le (by omega) (by omega)]; omega)) (fun _ => ?_)
    refine bX7_isWithin_12 (fun c => fin i0 b (by omega) hb (fun h => by subst h; exact absurd c (by decide))) (fun c => ?_)
    have hbt : b = true := by
      cases b with
      | true => rfl
      | false => exact absurd rfl c
    refine bX7_isWithin_16 ?_
    rw [show (3 : Int32) * nI i0 = nI (3 * i0) from nI_mulE 3 i0]
    refine v_X7_271 dX7_isWithin_28 rfl ⟨rfl, rfl, Nat.le_of_ble_eq_true rfl, Nat.le_of_ble_eq_true rfl⟩ (c_isInside h0 hI tY r2 bY (v := rowV X i0) (bX i0 (by omega)) aJ_R15 (by decide) (by omega) hY (fun c hc => by rw [rowV_vk X i0 (by omega)]; exact hX _ (by omega))) rfl rfl (Nat.le_of_ble_eq_true rfl) (fun r I1 J1 hp => ?_)
    obtain ⟨e2, e3, hr⟩ := hp
    obtain rfl := e2.symm
    obtain rfl := e3.symm
    rcases hr with ⟨a, rfl⟩ | ⟨a, rfl⟩
    · refine bX7_isWithin_31 (v32 := nI (i0 + 1)) (nI_addE i0 1) (ih (i0 + 1) true (by omega) ⟨fun _ i hi => ?_, fun _ => rfl⟩)
      by_cases h : i = i0
      · rw [h]; exact a
      · exact hb.mp hbt i (by omega)
    · exact bX7_isWithin_31 (v32 := nI (i0 + 1)) (nI_addE i0 1) (ih (i0 + 1) false (by omega) ⟨fun h => absurd h (by decide), fun h => absurd (h i0 (by omega)) a⟩)
theorem c_isWithin {n : Nat} (h0 : n = 2 ∨ n = 3) {X Y : Nat → Int} (hI : I 0 1 = nI n) (tY : Tri Y) (r2 : R2 n Y) (bY : ∀ t, t < 9 → 0 ≤ Y t ∧ Y t ≤ 1000000) (bX : ∀ i, i < 3 → bdV (rowV X i) 1000000) (hX : ∀ t, t < 3 * n → J 15 t = lI (X t)) (hY : ∀ t, t < 3 * n → J 16 t = lI (Y t)) : Con (ER l D aI aL ad) M_X7_isWithin yX7_isWithin [.ref (ad 0)] I J (fun r I1 J1 => I1 = I ∧ J1 = J ∧ bP (∀ i, i < n → Sp Y (rowV X i)) r) := by
  refine Con.of (by decide +kernel) rfl (Nat.le_of_ble_eq_true rfl) ?_
  refine bX7_isWithin_0 (v1 := bI true) (v3 := nI 0) rfl rfl ?_
  exact iw_loop h0 hI tY r2 bY bX hX hY (fun r hr => ⟨rfl, rfl, hr⟩) n 0 true (by omega) ⟨fun _ i hi => by omega, fun _ => rfl⟩
end HA
