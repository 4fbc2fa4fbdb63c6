def rowV (R : Nat → Int) (i : Nat) : V3 := (R (3 * i), R (3 * i + 1), R (3 * i + 2))
theorem rowV_vk (R : Nat → Int) (i : Nat) {c : Nat} (hc : c < 3) : vk (rowV R i) c = R (3 * i + c) := by
  rcases below3 hc with rfl | rfl | rfl <;> rfl
theorem in3_rows {R : Nat → Int} (t : Tri R) (H : V3 → Prop) : In3 H R ↔ ∀ i, i < 3 → H (rowV R i) := by
  have e0 : rowV R 0 = (R 0, 0, 0) := v3_eq rfl t.1 t.2.1
  have e1 : rowV R 1 = (R 3, R 4, 0) := v3_eq rfl rfl t.2.2.1
  constructor
  · rintro ⟨a, b, c⟩ i hi
    rcases below3 hi with rfl | rfl | rfl
    · rw [e0]; exact a
    · rw [e1]; exact b
    · exact c
  · intro h
    have a := h 0 (by decide)
    have b := h 1 (by decide)
    rw [e0] at a
    rw [e1] at b
    exact ⟨a, b, h 2 (by decide)⟩
/-- with the third row known, the rows below n are enough -/
theorem in3_rowsN {n : Nat} (h0 : n = 2 ∨ n = 3) {R : Nat → Int} (t : Tri R) (r2 : R2 n R) (H : V3 → Prop) (h3 : n = 2 → H (0, 0, 1)) : In3 H R ↔ ∀ i, i < n → H (rowV R i) := by
  rw [in3_rows t]
  rcases h0 with rfl | rfl
  · constructor
    · intro h i hi; exact h i (by omega)
    · intro h i hi
      by_cases c : i < 2
      · exact h i c
      · obtain rfl : i = 2 := by omega
        obtain ⟨a, b, c⟩ := r2 rfl
        have : rowV R 2 = (0, 0, 1) := v3_eq a b c
        rw [this]; exact h3 rfl
  · exact Iff.rfl
theorem idl_WL {n : Nat} {T R : Nat → Int} (rr : Rg n T) (r2 : R2 n R) (h : Idl n T R) : WL R (R 0) := by
  have s0 : Sp R (R 0, 0, 0) := (Sp_in R).1
  refine ⟨s0, ?_, ?_⟩
  · have := h (0, 1, 0) _ s0
    rcases rr with ⟨rfl, p, q, rfl, _, _⟩ | ⟨rfl, s, rfl, _, _⟩
    · have e : muv 2 (T2 p q) (0, 1, 0) (R 0, 0, 0) = (0, R 0, 0) := by rw [muv2]; refine v3_eq ?_ ?_ ?_ <;> dsimp only <;> grind
      rw [e] at this; exact this
    · have e : muv 3 (T3 s) (0, 1, 0) (R 0, 0, 0) = (0, R 0, 0) := by rw [muv3]; simp only [mu3]; refine v3_eq ?_ ?_ ?_ <;> grind
      rw [e] at this; exact this
  · rcases rr with ⟨rfl, p, q, rfl, _, _⟩ | ⟨rfl, s, rfl, _, _⟩
    · obtain ⟨a, b, c⟩ := r2 rfl
      exact ⟨0, 0, R 0, by simp [a], by simp [b], by simp [c]⟩
    · have := h (0, 0, 1) _ s0
      have e : muv 3 (T3 s) (0, 0, 1) (R 0, 0, 0) = (0, 0, R 0) := by rw [muv3]; simp only [mu3]; refine v3_eq ?_ ?_ ?_ <;> grind
      rw [e] at this; exact this
theorem pos_le_of_mul {a b j : Int} (ha : 0 < a) (hb : 0 < b) (h : b = j * a) : a ≤ b := by
  have hj : 0 < j := by
    by_cases c : 0 < j
    · exact c
    · have : j * a ≤ 0 * a := Int.mul_le_mul_of_nonneg_right (by omega) (by omega)
      omega
  have : 1 * a ≤ j * a := Int.mul_le_mul_of_nonneg_right (by omega) (by omega)
  omega
theorem WL.le {R : Nat → Int} {W : Int} (h : WL R W) (m : Hm R) (hW : 0 < W) : ∀ t, t < 9 → 0 ≤ R t ∧ R t ≤ W := by
  obtain ⟨⟨z1, z2, z5, p0, p4, p8⟩, x3, x6, x7⟩ := m
  have hT : Tri R := ⟨z1, z2, z5, p0, p4, p8⟩
  obtain ⟨i, e0⟩ := h.w0 hT
  obtain ⟨_, j, _, e4⟩ := h.w1 hT
  obtain ⟨_, _, ⟨_, _, k, _, _, e8⟩⟩ := h
  dsimp only at e8
  have a0 := pos_le_of_mul p0 hW e0
  have a4 := pos_le_of_mul p4 hW e4
  have a8 := pos_le_of_mul p8 hW e8
  intro t ht
  rcases below9 ht with rfl | rfl | rfl | rfl | rfl | rfl | rfl | rfl | rfl <;> constructor <;> omega
theorem updG_all {g : Nat → V3} {k : Nat} {v : V3} (H : V3 → Prop) : (∀ i, i < k + 1 → H (updG g k v i)) ↔ ((∀ i, i < k → H (g i)) ∧ H v) := by
  constructor
  · intro h
    refine ⟨fun i hi => ?_, ?_⟩
    · have := h i (by omega); unfold updG at this; rw [if_neg (by omega)] at this; exact this
    · have := h k (by omega); unfold updG at this; rw [if_pos rfl] at this; exact this
  · rintro ⟨a, b⟩ i hi
    unfold updG
    by_cases c : i = k
    · rw [if_pos c]; exact b
    · rw [if_neg c]; exact a i (by omega)
def oC (J J1 : sa_J) : Prop := ∀ q, q ≠ 9 → q ≠ 14 → q ≠ 15 → q ≠ 16 → J1 q = J q
theorem oC.sc {J J1 : sa_J} (h : oC J J1) : SC J J1 := SC.of (fun q h9 _ h14 h15 h16 _ _ _ _ => h q h9 h14 h15 h16)
theorem oC.tr {J J1 J2 : sa_J} (h : oC J J1) (g : oC J1 J2) : oC J J2 := fun q a b c d => (g q a b c d).trans (h q a b c d)
theorem oC.rfl' {J : sa_J} : oC J J := fun _ _ _ _ _ => rfl
/-- rows that may be taken as a start -/
def okR (n : Nat) (R : Nat → Int) : Prop := Hm R ∧ R2 n R ∧ WL R (R 0) ∧ R 0 ≤ 1000000
theorem IdR.ok {n : Nat} {T R : Nat → Int} (rr : Rg n T) (h : IdR n T R) : okR n R := ⟨h.1, h.2.1, idl_WL rr h.2.1 h.2.2.1, ((h.1.bd h.2.2.2) 0 (by decide)).2⟩
theorem okR.bd {n : Nat} {R : Nat → Int} (h : okR n R) : ∀ t, t < 9 → 0 ≤ R t ∧ R t ≤ 1000000 := fun t ht => by
  have := h.2.2.1.le h.1 h.1.1.2.2.2.1 t ht
  have := h.2.2.2
  exact ⟨by omega, by omega⟩
theorem okR.row {n : Nat} {R : Nat → Int} (h : okR n R) {i : Nat} (hi : i < 3) : bdV (rowV R i) 1000000 := by
  have a := h.bd (3 * i) (by omega)
  have b := h.bd (3 * i + 1) (by omega)
  have c := h.bd (3 * i + 2) (by omega)
  exact ⟨bd_of a.1 a.2, bd_of b.1 b.2, bd_of c.1 c.2⟩
section PD
variable {l : Launch} {D : va_G} {aI aL : ClassId} {ad : Nat → Nat} {P : sa_P} {I : sa_I} {J : sa_J}
theorem c_startRows {n : Nat} {R : Nat → Int} (ok : okR n R) {a2 q2 n2 p : Nat} (hq2 : sa_iJ (EC l D aI aL ad) a2 q2 n2) (hn2 : n2 < 2 ^ 31) (hb : p + 9 ≤ n2) (hz : q2 ≠ 14) (hR : ∀ t, t < 9 → J q2 (p + t) = lI (R t)) : Con (EC l D aI aL ad) M_X3_startRows yX3_startRows [.ref (ad 14), .int (nI n), .ref a2, .int (nI p)] I J (fun r I1 J1 => r = none ∧ SCI I I1 ∧ (∀ q, q ≠ 14 → q ≠ 15 → J1 q = J q) ∧ LatS n (R 0) R I1 J1) := by
  refine Con.of (by decide +kernel) rfl (Nat.le_of_ble_eq_true rfl) ?_
  have h0 := hR 0 (by decide)
  rw [Nat.add_zero] at h0
  refine bX3_startRows_0 (j7 := p) (v9 := lI (R 0)) hq2 hn2 rfl (by omega) h0 ?_
  refine s_copy (n0 := 9) (sp := p) (dp := 0) (n := n2) (n' := 9) hq2 aJ_C15 dX3_startRows_21 (by decide +kernel) (Nat.le_of_ble_eq_true rfl) (Nat.le_of_ble_eq_true rfl) (by omega) (by decide) (by decide) (by omega) (by decide) ?_
  obtain ⟨hm, r2, hw, h6⟩ := ok
  have hb' := hw.le hm hm.1.2.2.2.1
  refine bX3_startRows_24 ⟨rfl, fun q hq => sa_uI_ne hq, fun q h1 h2 => by rw [sa_rJ_ne h2, sa_uJ_ne h1], sa_uI_at, ?_, fun t ht => ⟨?_, hb' t ht⟩, hm.1, hw, hm.1.2.2.2.1, h6, r2⟩
  · rw [sa_rJ_ne (by decide), sa_uJ_at]
  · rw [sa_rJ_eq]; unfold va_cpy; rw [if_pos ⟨by omega, by omega⟩, sa_uJ_ne hz, Nat.sub_zero]; exact hR t ht
theorem c_makeCopy {n : Nat} {R : Nat → Int} (hI : I 4 0 = nI n) (ok : okR n R) {a2 q2 n2 p : Nat} (hq2 : sa_iJ (EC l D aI aL ad) a2 q2 n2) (hn2 : n2 < 2 ^ 31) (hb : p + 9 ≤ n2) (hz : q2 ≠ 14) (hR : ∀ t, t < 9 → J q2 (p + t) = lI (R t)) : Con (EC l D aI aL ad) M_X2_makeCopy yX2_makeCopy [.ref (ad 13), .ref a2, .int (nI p)] I J (fun r I1 J1 => r = none ∧ SCI I I1 ∧ (∀ q, q ≠ 14 → q ≠ 15 → J1 q = J q) ∧ LatS n (R 0) R I1 J1) := by
  refine Con.of (by decide +kernel) rfl (Nat.le_of_ble_eq_true rfl) ?_
  refine bX2_makeCopy_0 hq2 hn2 ?_
  rw [hI]
  refine v_X2_41 dX2_makeCopy_13 rfl ⟨rfl, rfl, Nat.le_of_ble_eq_true rfl, Nat.le_of_ble_eq_true rfl⟩ (c_startRows ok hq2 hn2 hb hz hR) rfl rfl (Nat.le_of_ble_eq_true rfl) (fun r I1 J1 hp => ?_)
  obtain ⟨rfl, s1, f1, L1⟩ := hp
  exact bX2_makeCopy_16 ⟨rfl, s1, f1, L1⟩
theorem ms_loop {n : Nat} {W : Int} {Y : Nat → Int} (h0 : n = 2 ∨ n = 3) {a3 q3 n3 p : Nat} (hq3 : sa_iJ (EC l D aI aL ad) a3 q3 n3) (hn3 : n3 < 2 ^ 31) (hb : p + 9 ≤ n3) (hz : q3 ≠ 15 ∧ q3 ≠ 16) (by' : ∀ t, t < 9 → 0 ≤ Y t ∧ Y t ≤ 1000000) : ∀ (d i0 : Nat) (I : sa_I) (J : sa_J) (R : Nat → Int), i0 + d = n → I 4 0 = nI n → (∀ t, t < 9 → J q3 (p + t) = lI (Y t)) → LatS n W R I J → (∀ J' R', (∀ q, q ≠ 15 → q ≠ 16 → J' q = J q) → LatS n W R' I J' → (∀ H, Grp H → (In3 H R' ↔ (In3 H R ∧ ∀ i, i0 ≤ i → i < n → H (rowV Y i)))) → Sat (EC l D aI aL ad) M_X2_makeSum P 52 [(0, .ref (ad 13))] [] I J') → Sat (EC l D aI aL ad) M_X2_makeSum P 19 [(0, .ref (ad 13)), (3, .ref a3), (4, .int (nI p)), (5, .int (nI i0))] [] I J := by
  intro d
  induction d with
  | zero =>
    intro i0 I J R hd hI hY hL kk
    refine bX2_makeSum_19 hq3 hn3 (fun _ => kk J R (fun _ _ _ => rfl) hL (fun H g => ⟨fun h => ⟨h, fun i h1 h2 => by omega⟩, fun h => h.1⟩)) (fun c => absurd ?_ c)
    rw [hI, nJ_le (by omega) (by omega)]; omega
  | succ d ih =>
    intro i0 I J R hd hI hY hL kk
    refine bX2_makeSum_19 hq3 hn3 (fun c => absurd c (by rw [hI, nJ_le (by omega) (by omega)]; omega)) (fun _ => ?_)
    refine bX2_makeSum_31 hq3 hn3 ?_
    rw [show nI p + (3 : Int32) * nI i0 = nI (p + 3 * i0) by rw [show (3 : Int32) * nI i0 = nI (3 * i0) from nI_mulE 3 i0]; exact nI_addE _ _]
    refine v_X2_59 dX2_makeSum_43 rfl ⟨rfl, rfl, Nat.le_of_ble_eq_true rfl, Nat.le_of_ble_eq_true rfl⟩ (c_includeN h0 (v := rowV Y i0) (p := p + 3 * i0) hL hq3 hn3 (by omega) hz.2 (fun j hj => ⟨by rw [rowV_vk Y i0 (by omega), Nat.add_assoc]; exact hY (3 * i0 + j) (by omega), by rw [rowV_vk Y i0 (by omega)]; have := by' (3 * i0 + j) (by omega); exact ⟨by omega, by omega⟩⟩)) rfl rfl (Nat.le_of_ble_eq_true rfl) (fun r I1 J2 hp => ?_)
    obtain ⟨rfl, e2, f2, R', hL2, hH⟩ := hp
    obtain rfl := e2.symm
    refine bX2_makeSum_46 (v46 := nI (i0 + 1)) hq3 hn3 (nI_addE i0 1) ?_
    refine ih (i0 + 1) I J2 R' (by omega) hI (fun t ht => by rw [f2 q3 hz.1 hz.2]; exact hY t ht) hL2 (fun J' R2' s' L' H' => ?_)
    refine kk J' R2' (fun q h1 h2 => (s' q h1 h2).trans (f2 q h1 h2)) L' (fun H g => ?_)
    rw [H' H g, hH H g]
    constructor
    · rintro ⟨⟨a, b⟩, c⟩
      refine ⟨a, fun i h1 h2 => ?_⟩
      by_cases h : i = i0
      · subst h; exact b
      · exact c i (by omega) h2
    · rintro ⟨a, b⟩
      exact ⟨⟨a, b i0 (Nat.le_refl _) (by omega)⟩, fun i h1 h2 => b i (by omega) h2⟩
theorem c_makeSum {n : Nat} {X Y : Nat → Int} (h0 : n = 2 ∨ n = 3) (hI : I 4 0 = nI n) (okX : okR n X) (okY : okR n Y) {a1 q1 n1 p1 a3 q3 n3 p3 : Nat} (hq1 : sa_iJ (EC l D aI aL ad) a1 q1 n1) (hn1 : n1 < 2 ^ 31) (hq3 : sa_iJ (EC l D aI aL ad) a3 q3 n3) (hn3 : n3 < 2 ^ 31) (hb1 : p1 + 9 ≤ n1) (hb3 : p3 + 9 ≤ n3) (hz1 : q1 ≠ 14) (hz3 : q3 ≠ 14 ∧ q3 ≠ 15 ∧ q3 ≠ 16) (hX : ∀ t, t < 9 → J q1 (p1 + t) = lI (X t)) (hY : ∀ t, t < 9 → J q3 (p3 + t) = lI (Y t)) : Con (EC l D aI aL ad) M_X2_makeSum yX2_makeSum [.ref (ad 13), .ref a1, .int (nI p1), .ref a3, .int (nI p3)] I J (fun r I1 J1 => r = none ∧ SCI I I1 ∧ oC J J1 ∧ ∃ R, LatH n (X 0) R J1 ∧ ∀ H, Grp H → (In3 H R ↔ (In3 H X ∧ In3 H Y))) := by
  refine Con.of (by decide +kernel) rfl (Nat.le_of_ble_eq_true rfl) ?_
  refine bX2_makeSum_0 hq1 hn1 hq3 hn3 ?_
  rw [hI]
  refine v_X2_41 dX2_makeSum_13 rfl ⟨rfl, rfl, Nat.le_of_ble_eq_true rfl, Nat.le_of_ble_eq_true rfl⟩ (c_startRows okX hq1 hn1 hb1 hz1 hX) rfl rfl (Nat.le_of_ble_eq_true rfl) (fun r I1 J1 hp => ?_)
  obtain ⟨rfl, s1, f1, L1⟩ := hp
  refine bX2_makeSum_16 (v17 := nI 0) hq3 hn3 rfl ?_
  refine ms_loop h0 hq3 hn3 hb3 ⟨hz3.2.1, hz3.2.2⟩ okY.bd n 0 I1 J1 X (by omega) (by rw [s1 4 (by decide)]; exact hI) (fun t ht => by rw [f1 q3 hz3.1 hz3.2.1]; exact hY t ht) L1 (fun J3 R3 f3 L3 H3 => ?_)
  refine bX2_makeSum_52 ?_
  refine v_X2_63 dX2_makeSum_56 rfl ⟨rfl, rfl, Nat.le_of_ble_eq_true rfl, Nat.le_of_ble_eq_true rfl⟩ (c_settleN h0 L3) rfl rfl (Nat.le_of_ble_eq_true rfl) (fun r I4 J4 hp => ?_)
  obtain ⟨rfl, e2, f4, R4, L4, A4⟩ := hp
  obtain rfl := e2.symm
  refine bX2_makeSum_59 ⟨rfl, s1, fun q h9 h14 h15 h16 => ?_, R4, L4, fun H g => ?_⟩
  · rw [f4 q h15, f3 q h15 h16, f1 q h14 h15]
  · rw [← A4 H g, H3 H g]
    constructor
    · rintro ⟨a, b⟩
      exact ⟨a, (in3_rowsN h0 okY.1.1 okY.2.1 H (fun h => by have := a.2.2; rw [(okX.2.1 h).1, (okX.2.1 h).2.1, (okX.2.1 h).2.2] at this; exact this)).mpr (fun i hi => b i (by omega) hi)⟩
    · rintro ⟨a, b⟩
      exact ⟨a, fun i _ hi => (in3_rows okY.1.1 H).mp b i (by omega)⟩
theorem mp_in {n : Nat} {T X Y : Nat → Int} {W : Int} (okX : okR n X) (okY : okR n Y) (rr : Rg n T) {a1 q1 n1 p1 a3 q3 n3 p3 : Nat} (hq1 : sa_iJ (EC l D aI aL ad) a1 q1 n1) (hn1 : n1 < 2 ^ 31) (hq3 : sa_iJ (EC l D aI aL ad) a3 q3 n3) (hn3 : n3 < 2 ^ 31) (hb1 : p1 + 9 ≤ n1) (hb3 : p3 + 9 ≤ n3) (hz1 : q1 ≠ 9 ∧ q1 ≠ 14 ∧ q1 ≠ 15 ∧ q1 ≠ 16) (hz3 : q3 ≠ 9 ∧ q3 ≠ 14 ∧ q3 ≠ 15 ∧ q3 ≠ 16) {u : Nat} (hu : u < n) : ∀ (d i0 : Nat) (I : sa_I) (J : sa_J) (R : Nat → Int), i0 + d = n → I 4 0 = nI n → (∀ t, t < 27 → J 8 t = lI (T t)) → (∀ t, t < 9 → J q1 (p1 + t) = lI (X t)) → (∀ t, t < 9 → J q3 (p3 + t) = lI (Y t)) → LatS n W R I J → (∀ J' R', oC J J' → LatS n W R' I J' → (∀ H, Grp H → (In3 H R' ↔ (In3 H R ∧ ∀ j, i0 ≤ j → j < n → H (muv n T (rowV X u) (rowV Y j))))) → Sat (EC l D aI aL ad) M_X2_makeProduct P 95 [(0, .ref (ad 13)), (1, .ref a1), (2, .int (nI p1)), (3, .ref a3), (4, .int (nI p3)), (5, .int (nI u))] [] I J') → Sat (EC l D aI aL ad) M_X2_makeProduct P 40 [(0, .ref (ad 13)), (1, .ref a1), (2, .int (nI p1)), (3, .ref a3), (4, .int (nI p3)), (5, .int (nI u)), (6, .int (nI i0))] [] I J := by
  intro d
  have h0 := rr.n
  induction d with
  | zero =>
    intro i0 I J R hd hI hT hX hY hL kk
    refine bX2_makeProduct_40 hq1 hn1 hq3 hn3 (fun _ => kk J R oC.rfl' hL (fun H g => ⟨fun h => ⟨h, fun i h1 h2 => by omega⟩, fun h => h.1⟩)) (fun c => absurd ?_ c)
    rw [hI, nJ_le (by omega) (by omega)]; omega
  | succ d ih =>
    intro i0 I J R hd hI hT hX hY hL kk
    refine bX2_makeProduct_40 hq1 hn1 hq3 hn3 (fun c => absurd c (by rw [hI, nJ_le (by omega) (by omega)]; omega)) (fun _ => ?_)
    refine bX2_makeProduct_52 hq1 hn1 hq3 hn3 ?_
    rw [show nI p3 + (3 : Int32) * nI i0 = nI (p3 + 3 * i0) by rw [show (3 : Int32) * nI i0 = nI (3 * i0) from nI_mulE 3 i0]; exact nI_addE _ _, show nI p1 + (3 : Int32) * nI u = nI (p1 + 3 * u) by rw [show (3 : Int32) * nI u = nI (3 * u) from nI_mulE 3 u]; exact nI_addE _ _]
    refine v_X2_52 dX2_makeProduct_71 rfl ⟨rfl, rfl, Nat.le_of_ble_eq_true rfl, Nat.le_of_ble_eq_true rfl⟩ (c_mulI rr hI hT hq1 hn1 hq3 hn3 (by omega) (by omega) hz1.1 hz3.1 (x := rowV X u) (y := rowV Y i0) (fun j hj => by rw [rowV_vk X u (by omega), Nat.add_assoc]; exact hX (3 * u + j) (by omega)) (fun j hj => by rw [rowV_vk Y i0 (by omega), Nat.add_assoc]; exact hY (3 * i0 + j) (by omega))) rfl rfl (Nat.le_of_ble_eq_true rfl) (fun r I1 J1 hp => ?_)
    obtain ⟨rfl, e2, v9, _, f9⟩ := hp
    obtain rfl := e2.symm
    refine bX2_makeProduct_74 hq1 hn1 hq3 hn3 ?_
    have bv := muv_bd rr (okX.row (i := u) (by omega)) (okY.row (i := i0) (by omega))
    have hL1 : LatS n W R I J1 := by
      obtain ⟨a, b, c, d⟩ := hL
      exact ⟨a, by rw [f9 14 (by decide)]; exact b, fun t ht => by rw [f9 15 (by decide)]; exact c t ht, d⟩
    refine v_X2_59 dX2_makeProduct_86 rfl ⟨rfl, rfl, Nat.le_of_ble_eq_true rfl, Nat.le_of_ble_eq_true rfl⟩ (c_includeN h0 (v := muv n T (rowV X u) (rowV Y i0)) (p := 0) hL1 aJ_C9 (by decide) (by omega) (by decide) (fun j hj => ⟨by rw [Nat.zero_add]; exact v9 j hj, bd_rg (vk_bd bv j) (by decide)⟩)) rfl rfl (Nat.le_of_ble_eq_true rfl) (fun r I1 J2 hp => ?_)
    obtain ⟨rfl, e2, f2, R', hL2, hH⟩ := hp
    obtain rfl := e2.symm
    refine bX2_makeProduct_89 (v89 := nI (i0 + 1)) hq1 hn1 hq3 hn3 (nI_addE i0 1) ?_
    have s12 : oC J J2 := fun q h9 _ h15 h16 => (f2 q h15 h16).trans (f9 q h9)
    refine ih (i0 + 1) I J2 R' (by omega) hI (fun t ht => by rw [s12 8 (by decide) (by decide) (by decide) (by decide)]; exact hT t ht) (fun t ht => by rw [s12 q1 hz1.1 hz1.2.1 hz1.2.2.1 hz1.2.2.2]; exact hX t ht) (fun t ht => by rw [s12 q3 hz3.1 hz3.2.1 hz3.2.2.1 hz3.2.2.2]; exact hY t ht) hL2 (fun J' R2' s' L' H' => ?_)
    refine kk J' R2' (s12.tr s') L' (fun H g => ?_)
    rw [H' H g, hH H g]
    constructor
    · rintro ⟨⟨a, b⟩, c⟩
      refine ⟨a, fun i h1 h2 => ?_⟩
      by_cases h : i = i0
      · subst h; exact b
      · exact c i (by omega) h2
    · rintro ⟨a, b⟩
      exact ⟨⟨a, b i0 (Nat.le_refl _) (by omega)⟩, fun i h1 h2 => b i (by omega) h2⟩
theorem mp_out {n : Nat} {T X Y : Nat → Int} {W : Int} (okX : okR n X) (okY : okR n Y) (rr : Rg n T) {a1 q1 n1 p1 a3 q3 n3 p3 : Nat} (hq1 : sa_iJ (EC l D aI aL ad) a1 q1 n1) (hn1 : n1 < 2 ^ 31) (hq3 : sa_iJ (EC l D aI aL ad) a3 q3 n3) (hn3 : n3 < 2 ^ 31) (hb1 : p1 + 9 ≤ n1) (hb3 : p3 + 9 ≤ n3) (hz1 : q1 ≠ 9 ∧ q1 ≠ 14 ∧ q1 ≠ 15 ∧ q1 ≠ 16) (hz3 : q3 ≠ 9 ∧ q3 ≠ 14 ∧ q3 ≠ 15 ∧ q3 ≠ 16) : ∀ (d i0 : Nat) (I : sa_I) (J : sa_J) (R : Nat → Int), i0 + d = n → I 4 0 = nI n → (∀ t, t < 27 → J 8 t = lI (T t)) → (∀ t, t < 9 → J q1 (p1 + t) = lI (X t)) → (∀ t, t < 9 → J q3 (p3 + t) = lI (Y t)) → LatS n W R I J → (∀ J' R', oC J J' → LatS n W R' I J' → (∀ H, Grp H → (In3 H R' ↔ (In3 H R ∧ ∀ i, i0 ≤ i → i < n → ∀ j, j < n → H (muv n T (rowV X i) (rowV Y j))))) → Sat (EC l D aI aL ad) M_X2_makeProduct P 101 [(0, .ref (ad 13))] [] I J') → Sat (EC l D aI aL ad) M_X2_makeProduct P 25 [(0, .ref (ad 13)), (1, .ref a1), (2, .int (nI p1)), (3, .ref a3), (4, .int (nI p3)), (5, .int (nI i0))] [] I J := by
  intro d
  have h0 := rr.n
  induction d with
  | zero =>
    intro i0 I J R hd hI hT hX hY hL kk
    refine bX2_makeProduct_25 hq1 hn1 hq3 hn3 (fun _ => kk J R oC.rfl' hL (fun H g => ⟨fun h => ⟨h, fun i h1 h2 => by omega⟩, fun h => h.1⟩)) (fun c => absurd ?_ c)
    rw [hI, nJ_le (by omega) (by omega)]; omega
  | succ d ih =>
    intro i0 I J R hd hI hT hX hY hL kk
    refine bX2_makeProduct_25 hq1 hn1 hq3 hn3 (fun c => absurd c (by rw [hI, nJ_le (by omega) (by omega)]; omega)) (fun _ => ?_)
    refine bX2_makeProduct_37 (v38 := nI 0) hq1 hn1 hq3 hn3 rfl ?_
    refine mp_in okX okY rr hq1 hn1 hq3 hn3 hb1 hb3 hz1 hz3 (u := i0) (by omega) n 0 I J R (by omega) hI hT hX hY hL (fun J2 R' s12 hL2 hH => ?_)
    refine bX2_makeProduct_95 (v95 := nI (i0 + 1)) hq1 hn1 hq3 hn3 (nI_addE i0 1) ?_
    refine ih (i0 + 1) I J2 R' (by omega) hI (fun t ht => by rw [s12 8 (by decide) (by decide) (by decide) (by decide)]; exact hT t ht) (fun t ht => by rw [s12 q1 hz1.1 hz1.2.1 hz1.2.2.1 hz1.2.2.2]; exact hX t ht) (fun t ht => by rw [s12 q3 hz3.1 hz3.2.1 hz3.2.2.1 hz3.2.2.2]; exact hY t ht) hL2 (fun J' R2' s' L' H' => ?_)
    refine kk J' R2' (s12.tr s') L' (fun H g => ?_)
    rw [H' H g, hH H g]
    constructor
    · rintro ⟨⟨a, b⟩, c⟩
      refine ⟨a, fun i h1 h2 => ?_⟩
      by_cases h : i = i0
      · subst h; exact fun j hj => b j (by omega) hj
      · exact c i (by omega) h2
    · rintro ⟨a, b⟩
      exact ⟨⟨a, fun j _ hj => b i0 (Nat.le_refl _) (by omega) j hj⟩, fun i h1 h2 => b i (by omega) h2⟩
theorem c_makeProduct {n : Nat} {T X Y : Nat → Int} (hI : I 4 0 = nI n) (hT : ∀ t, t < 27 → J 8 t = lI (T t)) (okX : okR n X) (okY : okR n Y) (hW : X 0 * Y 0 ≤ 1000000) (rr : Rg n T) {a1 q1 n1 p1 a3 q3 n3 p3 : Nat} (hq1 : sa_iJ (EC l D aI aL ad) a1 q1 n1) (hn1 : n1 < 2 ^ 31) (hq3 : sa_iJ (EC l D aI aL ad) a3 q3 n3) (hn3 : n3 < 2 ^ 31) (hb1 : p1 + 9 ≤ n1) (hb3 : p3 + 9 ≤ n3) (hz1 : q1 ≠ 9 ∧ q1 ≠ 14 ∧ q1 ≠ 15 ∧ q1 ≠ 16) (hz3 : q3 ≠ 9 ∧ q3 ≠ 14 ∧ q3 ≠ 15 ∧ q3 ≠ 16) (hX : ∀ t, t < 9 → J q1 (p1 + t) = lI (X t)) (hY : ∀ t, t < 9 → J q3 (p3 + t) = lI (Y t)) : Con (EC l D aI aL ad) M_X2_makeProduct yX2_makeProduct [.ref (ad 13), .ref a1, .int (nI p1), .ref a3, .int (nI p3)] I J (fun r I1 J1 => r = none ∧ SCI I I1 ∧ oC J J1 ∧ ∃ R, LatH n (X 0 * Y 0) R J1 ∧ ∀ H, Grp H → (In3 H R ↔ (In3 H (smR n (X 0 * Y 0)) ∧ ∀ i, i < n → ∀ j, j < n → H (muv n T (rowV X i) (rowV Y j))))) := by
  refine Con.of (by decide +kernel) rfl (Nat.le_of_ble_eq_true rfl) ?_
  have h0 := rr.n
  have x0 := hX 0 (by decide)
  have y0 := hY 0 (by decide)
  rw [Nat.add_zero] at x0 y0
  refine bX2_makeProduct_0 (j12 := p1) (j15 := p3) hq1 hn1 hq3 hn3 rfl (by omega) rfl (by omega) ?_
  rw [hI, x0, y0, lI_mul]
  refine v_X2_45 dX2_makeProduct_19 rfl ⟨rfl, rfl, Nat.le_of_ble_eq_true rfl, Nat.le_of_ble_eq_true rfl⟩ (c_startMultiples h0 (Int.mul_pos okX.1.1.2.2.2.1 okY.1.1.2.2.2.1) hW) rfl rfl (Nat.le_of_ble_eq_true rfl) (fun r I1 J1 hp => ?_)
  obtain ⟨rfl, s1, f1, L1⟩ := hp
  refine bX2_makeProduct_22 (v23 := nI 0) hq1 hn1 hq3 hn3 rfl ?_
  refine mp_out okX okY rr hq1 hn1 hq3 hn3 hb1 hb3 hz1 hz3 n 0 I1 J1 _ (by omega) (by rw [s1 4 (by decide)]; exact hI) (fun t ht => by rw [f1 8 (by decide) (by decide)]; exact hT t ht) (fun t ht => by rw [f1 q1 hz1.2.1 hz1.2.2.1]; exact hX t ht) (fun t ht => by rw [f1 q3 hz3.2.1 hz3.2.2.1]; exact hY t ht) L1 (fun J3 R3 f3 L3 H3 => ?_)
  refine bX2_makeProduct_101 ?_
  refine v_X2_63 dX2_makeProduct_105 rfl ⟨rfl, rfl, Nat.le_of_ble_eq_true rfl, Nat.le_of_ble_eq_true rfl⟩ (c_settleN h0 L3) rfl rfl (Nat.le_of_ble_eq_true rfl) (fun r I4 J4 hp => ?_)
  obtain ⟨rfl, e2, f4, R4, L4, A4⟩ := hp
  obtain rfl := e2.symm
  refine bX2_makeProduct_108 ⟨rfl, s1, fun q h9 h14 h15 h16 => ?_, R4, L4, fun H g => ?_⟩
  · rw [f4 q h15, f3 q h9 h14 h15 h16, f1 q h14 h15]
  · rw [← A4 H g, H3 H g]
    exact ⟨fun h => ⟨h.1, fun i hi => h.2 i (by omega) hi⟩, fun h => ⟨h.1, fun i _ hi => h.2 i hi⟩⟩
end PD
