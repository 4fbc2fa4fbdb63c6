/-- the matrix of a number, by longs -/
def mtx (n : Nat) (x T : Nat → Int64) (t : Nat) : Int64 := if n = 2 then 0 + x 0 * T t + x 1 * T (9 + t) else 0 + x 0 * T t + x 1 * T (9 + t) + x 2 * T (18 + t)
def nrV (n : Nat) (m : Nat → Int64) (w : Nat) : Int64 := if n = 2 then (match w with | 0 => m 0 * m 4 - m 1 * m 3 | 1 => m 0 + m 4 | _ => -(m 0 + m 4)) else (match w with | 0 => nm3 m | 1 => m 0 + m 4 + m 8 | _ => md3 m)
def noC (n ne : Nat) (x y : Int) (I : sa_I) (J : sa_J) : sa_P := fun r I1 J1 =>
  if 0 ≤ x ∧ x < ne then (if 0 ≤ y ∧ y ≤ 2 then r = some (.long (nrV n (mtx n (fun c => J 2 (3 * x.toNat + c)) (J 8)) y.toNat)) ∧ I1 = I ∧ ∀ q, q ≠ 10 → J1 q = J q else r = some (.long (4000000000000000000 - (-2 : Int32).toInt64)) ∧ I1 = rf I 2 ∧ J1 = J)
  else r = some (.long (4000000000000000000 - (-1 : Int32).toInt64)) ∧ I1 = rf I 1 ∧ J1 = J
def noR (n ne : Nat) (x y : Int) (I : sa_I) (J : sa_J) : sa_P := fun r I1 J1 =>
  if 0 ≤ x ∧ x < ne then (if 0 ≤ y ∧ y ≤ 2 then r = some (.long (nrV n (mtx n (fun c => (I 3 (3 * x.toNat + c)).toInt64) (J 2)) y.toNat)) ∧ I1 = I ∧ ∀ q, q ≠ 9 → q ≠ 10 → J1 q = J q else r = some (.long (4000000000000000000 - (-2 : Int32).toInt64)) ∧ I1 = rf I 2 ∧ ∀ q, q ≠ 9 → q ≠ 10 → J1 q = J q)
  else r = some (.long (4000000000000000000 - (-1 : Int32).toInt64)) ∧ I1 = rf I 1 ∧ J1 = J
section NO
variable {l : Launch} {D : va_G} {aI aL : ClassId} {ad : Nat → Nat} {I : sa_I} {J : sa_J}
theorem c_norm6_2 {ne : Nat} {x y : Int} (hn : I 4 0 = nI 2) (hne : I 0 8 = nI ne) (h100 : ne ≤ 100) (hx : rgi x) (hy : rgi y) : Con (EC l D aI aL ad) M_X6_norm yX6_norm [.ref (ad 0), .int (iI x), .int (iI y)] I J (noC 2 ne x y I J) := by
  refine Con.of (by decide +kernel) rfl (Nat.le_of_ble_eq_true rfl) ?_
  have hnz : ¬ I 4 0 = 0 := by rw [hn]; decide
  refine bX6_norm_0 (fun _ => bX6_norm_17 ?_) (fun c => absurd c hnz)
  refine v_X6_128 dX6_norm_19 rfl ⟨rfl, rfl, Nat.le_of_ble_eq_true rfl, Nat.le_of_ble_eq_true rfl⟩ (c_isElement6) rfl rfl (Nat.le_of_ble_eq_true rfl) (fun r I1 J1 hp => ?_)
  obtain ⟨rfl, e2, e3⟩ := hp
  obtain rfl := e2.symm
  obtain rfl := e3.symm
  rw [hne, inB_I hx (m := ne) (by omega)]
  by_cases cx : 0 ≤ x ∧ x < ne
  rotate_left
  · rw [if_neg cx]
    refine bX6_norm_22 (fun c => absurd rfl c) (fun _ => bX6_norm_25 ?_)
    refine v_X6_96 dX6_norm_27 rfl ⟨rfl, rfl, Nat.le_of_ble_eq_true rfl, Nat.le_of_ble_eq_true rfl⟩ (c_toldLong 1 (by decide) rfl) rfl rfl (Nat.le_of_ble_eq_true rfl) (fun r I1 J1 hp => ?_)
    obtain ⟨rfl, rfl, rfl⟩ := hp
    refine bX6_norm_30 ?_
    unfold noC; rw [if_neg cx]; exact ⟨rfl, rfl, rfl⟩
  rw [if_pos cx]
  have other : ¬ (0 ≤ y ∧ y ≤ 2) → Sat (EC l D aI aL ad) M_X6_norm (noC 2 ne x y I J) 40 [(0, .ref (ad 0))] [] I J := by
    intro h
    refine bX6_norm_40 ?_
    refine v_X6_96 dX6_norm_43 rfl ⟨rfl, rfl, Nat.le_of_ble_eq_true rfl, Nat.le_of_ble_eq_true rfl⟩ (c_toldLong 2 (by decide) rfl) rfl rfl (Nat.le_of_ble_eq_true rfl) (fun r I1 J1 hp => ?_)
    obtain ⟨rfl, rfl, rfl⟩ := hp
    refine bX6_norm_46 ?_
    unfold noC; rw [if_pos cx, if_neg h]; exact ⟨rfl, rfl, rfl⟩
  refine bX6_norm_22 (fun _ => bX6_norm_31 (fun c => other (fun h => by have := (iI_ltc hy (k := 0) ⟨by omega, by omega⟩ rfl).mp c; omega)) (fun c => bX6_norm_35 (fun c2 => ?_) (fun c2 => other (fun h => c2 ((iI_lec hy (k := 2) ⟨by omega, by omega⟩ rfl).mpr h.2))))) (fun c => absurd c (by decide))
  have y0 : 0 ≤ y := by
    have : ¬ y < 0 := fun q => c ((iI_ltc hy (k := 0) ⟨by omega, by omega⟩ rfl).mpr q)
    omega
  have y2 := (iI_lec hy (k := 2) ⟨by omega, by omega⟩ rfl).mp c2
  refine bX6_norm_47 ?_
  rw [iI_nat cx.1, show (3 : Int32) * nI x.toNat = nI (3 * x.toNat) from nI_mulE 3 _]
  refine v_X6_145 dX6_norm_58 rfl ⟨rfl, rfl, Nat.le_of_ble_eq_true rfl, Nat.le_of_ble_eq_true rfl⟩ (c_matrixOf2 hn aJ_C2 (by decide) (by omega) (by decide)) rfl rfl (Nat.le_of_ble_eq_true rfl) (fun r I1 J1 hp => ?_)
  obtain ⟨rfl, e2, m0, m1, m3, m4, g⟩ := hp
  obtain rfl := e2.symm
  have ok : ∀ v, v = nrV 2 (mtx 2 (fun c => J 2 (3 * x.toNat + c)) (J 8)) y.toNat → noC 2 ne x y I J (some (.long v)) I J1 := by
    intro v e
    unfold noC; rw [if_pos cx, if_pos ⟨y0, y2⟩, e]; exact ⟨rfl, rfl, g⟩
  refine bX6_norm_61 (fun c => bX6_norm_73 (fun c3 => bX6_norm_88 ?_) (fun c3 => bX6_norm_78 ?_)) (fun c => bX6_norm_65 ?_)
  · refine v_X6_156 dX6_norm_92 rfl ⟨rfl, rfl, Nat.le_of_ble_eq_true rfl, Nat.le_of_ble_eq_true rfl⟩ (c_matrixMiddle2 hn) rfl rfl (Nat.le_of_ble_eq_true rfl) (fun r I1 J1 hp => ?_)
    obtain ⟨rfl, e2, e3⟩ := hp
    obtain rfl := e2.symm
    obtain rfl := e3.symm
    have hy2 : y = 2 := by
      have a1 : ¬ y = 0 := fun q => c (by rw [q]; rfl)
      have a2 : ¬ y = 1 := fun q => c3 (by rw [q]; rfl)
      omega
    exact bX6_norm_95 (ok _ (by rw [hy2, m0, m4]; rfl))
  · refine v_X6_153 dX6_norm_82 rfl ⟨rfl, rfl, Nat.le_of_ble_eq_true rfl, Nat.le_of_ble_eq_true rfl⟩ (c_matrixTrace2 hn) rfl rfl (Nat.le_of_ble_eq_true rfl) (fun r I1 J1 hp => ?_)
    obtain ⟨rfl, e2, e3⟩ := hp
    obtain rfl := e2.symm
    obtain rfl := e3.symm
    have hy2 : y = 1 := (iI_eq hy (b := 1) ⟨by omega, by omega⟩).mp c3
    exact bX6_norm_85 (bX6_norm_95 (ok _ (by rw [hy2, m0, m4]; rfl)))
  · refine v_X6_149 dX6_norm_69 rfl ⟨rfl, rfl, Nat.le_of_ble_eq_true rfl, Nat.le_of_ble_eq_true rfl⟩ (c_matrixNorm2 hn) rfl rfl (Nat.le_of_ble_eq_true rfl) (fun r I1 J1 hp => ?_)
    obtain ⟨rfl, e2, e3⟩ := hp
    obtain rfl := e2.symm
    obtain rfl := e3.symm
    have hy2 : y = 0 := (iI_eq hy (b := 0) ⟨by omega, by omega⟩).mp c
    exact bX6_norm_72 (ok _ (by rw [hy2, m0, m4, m1, m3]; rfl))
theorem c_norm7_2 {ne : Nat} {x y : Int} (hn : I 0 1 = nI 2) (hne : I 0 13 = nI ne) (h100 : ne ≤ 100) (hx : rgi x) (hy : rgi y) : Con (ER l D aI aL ad) M_X7_norm yX7_norm [.ref (ad 0), .int (iI x), .int (iI y)] I J (noR 2 ne x y I J) := by
  refine Con.of (by decide +kernel) rfl (Nat.le_of_ble_eq_true rfl) ?_
  have hnz : ¬ I 0 1 ≤ 0 := by rw [hn]; decide
  refine bX7_norm_0 ?_
  refine v_X7_203 dX7_norm_1 rfl ⟨rfl, rfl, Nat.le_of_ble_eq_true rfl, Nat.le_of_ble_eq_true rfl⟩ (c_isField) rfl rfl (Nat.le_of_ble_eq_true rfl) (fun r I1 J1 hp => ?_)
  obtain ⟨rfl, e2, e3⟩ := hp
  obtain rfl := e2.symm
  obtain rfl := e3.symm
  rw [if_neg hnz]
  refine bX7_norm_4 (fun _ => bX7_norm_14 ?_) (fun c => absurd c (by decide))
  refine v_X7_232 dX7_norm_16 rfl ⟨rfl, rfl, Nat.le_of_ble_eq_true rfl, Nat.le_of_ble_eq_true rfl⟩ (c_isElement7) rfl rfl (Nat.le_of_ble_eq_true rfl) (fun r I1 J1 hp => ?_)
  obtain ⟨rfl, e2, e3⟩ := hp
  obtain rfl := e2.symm
  obtain rfl := e3.symm
  rw [hne, inB_I hx (m := ne) (by omega)]
  by_cases cx : 0 ≤ x ∧ x < ne
  rotate_left
  · rw [if_neg cx]
    refine bX7_norm_19 (fun c => absurd rfl c) (fun _ => bX7_norm_22 ?_)
    refine v_X7_206 dX7_norm_24 rfl ⟨rfl, rfl, Nat.le_of_ble_eq_true rfl, Nat.le_of_ble_eq_true rfl⟩ (c_refuseLong 1 (by decide) rfl) rfl rfl (Nat.le_of_ble_eq_true rfl) (fun r I1 J1 hp => ?_)
    obtain ⟨rfl, rfl, rfl⟩ := hp
    refine bX7_norm_27 ?_
    unfold noR; rw [if_neg cx]; exact ⟨rfl, rfl, rfl⟩
  rw [if_pos cx]
  refine bX7_norm_19 (fun _ => bX7_norm_28 ?_) (fun c => absurd c (by decide))
  rw [iI_nat cx.1]
  refine v_X7_235 dX7_norm_34 rfl ⟨rfl, rfl, Nat.le_of_ble_eq_true rfl, Nat.le_of_ble_eq_true rfl⟩ (c_brings10 (i := x.toNat) (by omega)) rfl rfl (Nat.le_of_ble_eq_true rfl) (fun r I1 J1 hp => ?_)
  obtain ⟨rfl, e2, u0, u1, u2, g1⟩ := hp
  obtain rfl := e2.symm
  refine bX7_norm_37 ?_
  refine v_X7_225 dX7_norm_42 rfl ⟨rfl, rfl, Nat.le_of_ble_eq_true rfl, Nat.le_of_ble_eq_true rfl⟩ (c_acts2_10 hn) rfl rfl (Nat.le_of_ble_eq_true rfl) (fun r I1 J2 hp => ?_)
  obtain ⟨rfl, e2, m0, m1, m3, m4, g2⟩ := hp
  obtain rfl := e2.symm
  have hT : J1 2 = J 2 := g1 2 (by decide)
  rw [u0, u1, hT] at m0 m1 m3 m4
  have g : ∀ q, q ≠ 9 → q ≠ 10 → J2 q = J q := fun q h1 h2 => (g2 q h1).trans (g1 q h2)
  have ok : ∀ v, 0 ≤ y ∧ y ≤ 2 → v = nrV 2 (mtx 2 (fun c => (I 3 (3 * x.toNat + c)).toInt64) (J 2)) y.toNat → noR 2 ne x y I J (some (.long v)) I J2 := by
    intro v hh e
    unfold noR; rw [if_pos cx, if_pos hh, e]; exact ⟨rfl, rfl, g⟩
  refine bX7_norm_45 (fun c => bX7_norm_72 ?_) (fun c => bX7_norm_77 ?_) (fun c => bX7_norm_82 (fun c2 => absurd hn c2) (fun _ => bX7_norm_90 ?_)) (fun c => bX7_norm_103 ?_)
  · refine v_X7_193 dX7_norm_73 rfl ⟨rfl, rfl, Nat.le_of_ble_eq_true rfl, Nat.le_of_ble_eq_true rfl⟩ (c_normOf2 hn) rfl rfl (Nat.le_of_ble_eq_true rfl) (fun r I1 J1 hp => ?_)
    obtain ⟨rfl, e2, e3⟩ := hp
    obtain rfl := e2.symm
    obtain rfl := e3.symm
    have hy2 : y = 0 := (iI_eq hy (b := 0) ⟨by omega, by omega⟩).mp c
    exact bX7_norm_76 (ok _ (by omega) (by rw [hy2, m0, m4, m1, m3]; rfl))
  · refine v_X7_189 dX7_norm_78 rfl ⟨rfl, rfl, Nat.le_of_ble_eq_true rfl, Nat.le_of_ble_eq_true rfl⟩ (c_traceOf2 hn) rfl rfl (Nat.le_of_ble_eq_true rfl) (fun r I1 J1 hp => ?_)
    obtain ⟨rfl, e2, e3⟩ := hp
    obtain rfl := e2.symm
    obtain rfl := e3.symm
    have hy2 : y = 1 := (iI_eq hy (b := 1) ⟨by omega, by omega⟩).mp c
    exact bX7_norm_81 (ok _ (by omega) (by rw [hy2, Int64.zero_add, m0, m4]; rfl))
  · refine v_X7_189 dX7_norm_91 rfl ⟨rfl, rfl, Nat.le_of_ble_eq_true rfl, Nat.le_of_ble_eq_true rfl⟩ (c_traceOf2 hn) rfl rfl (Nat.le_of_ble_eq_true rfl) (fun r I1 J1 hp => ?_)
    obtain ⟨rfl, e2, e3⟩ := hp
    obtain rfl := e2.symm
    obtain rfl := e3.symm
    have hy2 : y = 2 := (iI_eq hy (b := 2) ⟨by omega, by omega⟩).mp c
    exact bX7_norm_94 (bX7_norm_102 (ok _ (by omega) (by rw [hy2, Int64.zero_add, m0, m4]; rfl)))
  · refine v_X7_206 dX7_norm_106 rfl ⟨rfl, rfl, Nat.le_of_ble_eq_true rfl, Nat.le_of_ble_eq_true rfl⟩ (c_refuseLong 2 (by decide) rfl) rfl rfl (Nat.le_of_ble_eq_true rfl) (fun r I1 J1 hp => ?_)
    obtain ⟨rfl, rfl, rfl⟩ := hp
    refine bX7_norm_109 ?_
    unfold noR
    rw [if_pos cx, if_neg (fun h => by rw [iI_toInt hy] at c; omega)]
    exact ⟨rfl, rfl, g⟩
theorem mid_as (a b c d e f g h i j k m : Int64) : a * b - c * d + e * f - g * h + i * j - k * m = a * b - c * d + (e * f - g * h) + (i * j - k * m) := by
  simp only [Int64.sub_eq_add_neg, Int64.add_assoc]
theorem c_norm6_3 {ne : Nat} {x y : Int} (hn : I 4 0 = nI 3) (hne : I 0 8 = nI ne) (h100 : ne ≤ 100) (hx : rgi x) (hy : rgi y) : Con (EC l D aI aL ad) M_X6_norm yX6_norm [.ref (ad 0), .int (iI x), .int (iI y)] I J (noC 3 ne x y I J) := by
  refine Con.of (by decide +kernel) rfl (Nat.le_of_ble_eq_true rfl) ?_
  have hnz : ¬ I 4 0 = 0 := by rw [hn]; decide
  refine bX6_norm_0 (fun _ => bX6_norm_17 ?_) (fun c => absurd c hnz)
  refine v_X6_128 dX6_norm_19 rfl ⟨rfl, rfl, Nat.le_of_ble_eq_true rfl, Nat.le_of_ble_eq_true rfl⟩ (c_isElement6) rfl rfl (Nat.le_of_ble_eq_true rfl) (fun r I1 J1 hp => ?_)
  obtain ⟨rfl, e2, e3⟩ := hp
  obtain rfl := e2.symm
  obtain rfl := e3.symm
  rw [hne, inB_I hx (m := ne) (by omega)]
  by_cases cx : 0 ≤ x ∧ x < ne
  rotate_left
  · rw [if_neg cx]
    refine bX6_norm_22 (fun c => absurd rfl c) (fun _ => bX6_norm_25 ?_)
    refine v_X6_96 dX6_norm_27 rfl ⟨rfl, rfl, Nat.le_of_ble_eq_true rfl, Nat.le_of_ble_eq_true rfl⟩ (c_toldLong 1 (by decide) rfl) rfl rfl (Nat.le_of_ble_eq_true rfl) (fun r I1 J1 hp => ?_)
    obtain ⟨rfl, rfl, rfl⟩ := hp
    refine bX6_norm_30 ?_
    unfold noC; rw [if_neg cx]; exact ⟨rfl, rfl, rfl⟩
  rw [if_pos cx]
  have other : ¬ (0 ≤ y ∧ y ≤ 2) → Sat (EC l D aI aL ad) M_X6_norm (noC 3 ne x y I J) 40 [(0, .ref (ad 0))] [] I J := by
    intro h
    refine bX6_norm_40 ?_
    refine v_X6_96 dX6_norm_43 rfl ⟨rfl, rfl, Nat.le_of_ble_eq_true rfl, Nat.le_of_ble_eq_true rfl⟩ (c_toldLong 2 (by decide) rfl) rfl rfl (Nat.le_of_ble_eq_true rfl) (fun r I1 J1 hp => ?_)
    obtain ⟨rfl, rfl, rfl⟩ := hp
    refine bX6_norm_46 ?_
    unfold noC; rw [if_pos cx, if_neg h]; exact ⟨rfl, rfl, rfl⟩
  refine bX6_norm_22 (fun _ => bX6_norm_31 (fun c => other (fun h => by have := (iI_ltc hy (k := 0) ⟨by omega, by omega⟩ rfl).mp c; omega)) (fun c => bX6_norm_35 (fun c2 => ?_) (fun c2 => other (fun h => c2 ((iI_lec hy (k := 2) ⟨by omega, by omega⟩ rfl).mpr h.2))))) (fun c => absurd c (by decide))
  have y0 : 0 ≤ y := by
    have : ¬ y < 0 := fun q => c ((iI_ltc hy (k := 0) ⟨by omega, by omega⟩ rfl).mpr q)
    omega
  have y2 := (iI_lec hy (k := 2) ⟨by omega, by omega⟩ rfl).mp c2
  refine bX6_norm_47 ?_
  rw [iI_nat cx.1, show (3 : Int32) * nI x.toNat = nI (3 * x.toNat) from nI_mulE 3 _]
  refine v_X6_145 dX6_norm_58 rfl ⟨rfl, rfl, Nat.le_of_ble_eq_true rfl, Nat.le_of_ble_eq_true rfl⟩ (c_matrixOf3 hn aJ_C2 (by decide) (by omega) (by decide)) rfl rfl (Nat.le_of_ble_eq_true rfl) (fun r I1 J1 hp => ?_)
  obtain ⟨rfl, e2, m0, m1, m2, m3, m4, m5, m6, m7, m8, g⟩ := hp
  obtain rfl := e2.symm
  have ok : ∀ v, v = nrV 3 (mtx 3 (fun c => J 2 (3 * x.toNat + c)) (J 8)) y.toNat → noC 3 ne x y I J (some (.long v)) I J1 := by
    intro v e
    unfold noC; rw [if_pos cx, if_pos ⟨y0, y2⟩, e]; exact ⟨rfl, rfl, g⟩
  refine bX6_norm_61 (fun c => bX6_norm_73 (fun c3 => bX6_norm_88 ?_) (fun c3 => bX6_norm_78 ?_)) (fun c => bX6_norm_65 ?_)
  · refine v_X6_156 dX6_norm_92 rfl ⟨rfl, rfl, Nat.le_of_ble_eq_true rfl, Nat.le_of_ble_eq_true rfl⟩ (c_matrixMiddle3 hn) rfl rfl (Nat.le_of_ble_eq_true rfl) (fun r I1 J1 hp => ?_)
    obtain ⟨rfl, e2, e3⟩ := hp
    obtain rfl := e2.symm
    obtain rfl := e3.symm
    have hy2 : y = 2 := by
      have a1 : ¬ y = 0 := fun q => c (by rw [q]; rfl)
      have a2 : ¬ y = 1 := fun q => c3 (by rw [q]; rfl)
      omega
    exact bX6_norm_95 (ok _ (by rw [hy2, m0, m1, m2, m3, m4, m5, m6, m7, m8]; rfl))
  · refine v_X6_153 dX6_norm_82 rfl ⟨rfl, rfl, Nat.le_of_ble_eq_true rfl, Nat.le_of_ble_eq_true rfl⟩ (c_matrixTrace3 hn) rfl rfl (Nat.le_of_ble_eq_true rfl) (fun r I1 J1 hp => ?_)
    obtain ⟨rfl, e2, e3⟩ := hp
    obtain rfl := e2.symm
    obtain rfl := e3.symm
    have hy2 : y = 1 := (iI_eq hy (b := 1) ⟨by omega, by omega⟩).mp c3
    exact bX6_norm_85 (bX6_norm_95 (ok _ (by rw [hy2, m0, m4, m8]; rfl)))
  · refine v_X6_149 dX6_norm_69 rfl ⟨rfl, rfl, Nat.le_of_ble_eq_true rfl, Nat.le_of_ble_eq_true rfl⟩ (c_matrixNorm3 hn) rfl rfl (Nat.le_of_ble_eq_true rfl) (fun r I1 J1 hp => ?_)
    obtain ⟨rfl, e2, e3⟩ := hp
    obtain rfl := e2.symm
    obtain rfl := e3.symm
    have hy2 : y = 0 := (iI_eq hy (b := 0) ⟨by omega, by omega⟩).mp c
    exact bX6_norm_72 (ok _ (by rw [hy2, m0, m1, m2, m3, m4, m5, m6, m7, m8]; rfl))
theorem c_norm7_3 {ne : Nat} {x y : Int} (hn : I 0 1 = nI 3) (hne : I 0 13 = nI ne) (h100 : ne ≤ 100) (hx : rgi x) (hy : rgi y) : Con (ER l D aI aL ad) M_X7_norm yX7_norm [.ref (ad 0), .int (iI x), .int (iI y)] I J (noR 3 ne x y I J) := by
  refine Con.of (by decide +kernel) rfl (Nat.le_of_ble_eq_true rfl) ?_
  have hnz : ¬ I 0 1 ≤ 0 := by rw [hn]; decide
  refine bX7_norm_0 ?_
  refine v_X7_203 dX7_norm_1 rfl ⟨rfl, rfl, Nat.le_of_ble_eq_true rfl, Nat.le_of_ble_eq_true rfl⟩ (c_isField) rfl rfl (Nat.le_of_ble_eq_true rfl) (fun r I1 J1 hp => ?_)
  obtain ⟨rfl, e2, e3⟩ := hp
  obtain rfl := e2.symm
  obtain rfl := e3.symm
  rw [if_neg hnz]
  refine bX7_norm_4 (fun _ => bX7_norm_14 ?_) (fun c => absurd c (by decide))
  refine v_X7_232 dX7_norm_16 rfl ⟨rfl, rfl, Nat.le_of_ble_eq_true rfl, Nat.le_of_ble_eq_true rfl⟩ (c_isElement7) rfl rfl (Nat.le_of_ble_eq_true rfl) (fun r I1 J1 hp => ?_)
  obtain ⟨rfl, e2, e3⟩ := hp
  obtain rfl := e2.symm
  obtain rfl := e3.symm
  rw [hne, inB_I hx (m := ne) (by omega)]
  by_cases cx : 0 ≤ x ∧ x < ne
  rotate_left
  · rw [if_neg cx]
    refine bX7_norm_19 (fun c => absurd rfl c) (fun _ => bX7_norm_22 ?_)
    refine v_X7_206 dX7_norm_24 rfl ⟨rfl, rfl, Nat.le_of_ble_eq_true rfl, Nat.le_of_ble_eq_true rfl⟩ (c_refuseLong 1 (by decide) rfl) rfl rfl (Nat.le_of_ble_eq_true rfl) (fun r I1 J1 hp => ?_)
    obtain ⟨rfl, rfl, rfl⟩ := hp
    refine bX7_norm_27 ?_
    unfold noR; rw [if_neg cx]; exact ⟨rfl, rfl, rfl⟩
  rw [if_pos cx]
  refine bX7_norm_19 (fun _ => bX7_norm_28 ?_) (fun c => absurd c (by decide))
  rw [iI_nat cx.1]
  refine v_X7_235 dX7_norm_34 rfl ⟨rfl, rfl, Nat.le_of_ble_eq_true rfl, Nat.le_of_ble_eq_true rfl⟩ (c_brings10 (i := x.toNat) (by omega)) rfl rfl (Nat.le_of_ble_eq_true rfl) (fun r I1 J1 hp => ?_)
  obtain ⟨rfl, e2, u0, u1, u2, g1⟩ := hp
  obtain rfl := e2.symm
  refine bX7_norm_37 ?_
  refine v_X7_225 dX7_norm_42 rfl ⟨rfl, rfl, Nat.le_of_ble_eq_true rfl, Nat.le_of_ble_eq_true rfl⟩ (c_acts3_10 hn) rfl rfl (Nat.le_of_ble_eq_true rfl) (fun r I1 J2 hp => ?_)
  obtain ⟨rfl, e2, m0, m1, m2, m3, m4, m5, m6, m7, m8, g2⟩ := hp
  obtain rfl := e2.symm
  have hT : J1 2 = J 2 := g1 2 (by decide)
  rw [u0, u1, u2, hT] at m0 m1 m2 m3 m4 m5 m6 m7 m8
  have g : ∀ q, q ≠ 9 → q ≠ 10 → J2 q = J q := fun q h1 h2 => (g2 q h1).trans (g1 q h2)
  have ok : ∀ v, 0 ≤ y ∧ y ≤ 2 → v = nrV 3 (mtx 3 (fun c => (I 3 (3 * x.toNat + c)).toInt64) (J 2)) y.toNat → noR 3 ne x y I J (some (.long v)) I J2 := by
    intro v hh e
    unfold noR; rw [if_pos cx, if_pos hh, e]; exact ⟨rfl, rfl, g⟩
  refine bX7_norm_45 (fun c => bX7_norm_72 ?_) (fun c => bX7_norm_77 ?_) (fun c => bX7_norm_82 (fun _ => bX7_norm_98 ?_) (fun c2 => absurd c2 (by rw [hn]; decide))) (fun c => bX7_norm_103 ?_)
  · refine v_X7_193 dX7_norm_73 rfl ⟨rfl, rfl, Nat.le_of_ble_eq_true rfl, Nat.le_of_ble_eq_true rfl⟩ (c_normOf3 hn) rfl rfl (Nat.le_of_ble_eq_true rfl) (fun r I1 J1 hp => ?_)
    obtain ⟨rfl, e2, e3⟩ := hp
    obtain rfl := e2.symm
    obtain rfl := e3.symm
    have hy2 : y = 0 := (iI_eq hy (b := 0) ⟨by omega, by omega⟩).mp c
    exact bX7_norm_76 (ok _ (by omega) (by rw [hy2, m0, m1, m2, m3, m4, m5, m6, m7, m8]; rfl))
  · refine v_X7_189 dX7_norm_78 rfl ⟨rfl, rfl, Nat.le_of_ble_eq_true rfl, Nat.le_of_ble_eq_true rfl⟩ (c_traceOf3 hn) rfl rfl (Nat.le_of_ble_eq_true rfl) (fun r I1 J1 hp => ?_)
    obtain ⟨rfl, e2, e3⟩ := hp
    obtain rfl := e2.symm
    obtain rfl := e3.symm
    have hy2 : y = 1 := (iI_eq hy (b := 1) ⟨by omega, by omega⟩).mp c
    exact bX7_norm_81 (ok _ (by omega) (by rw [hy2, Int64.zero_add, m0, m4, m8]; rfl))
  · refine v_X7_196 dX7_norm_99 rfl ⟨rfl, rfl, Nat.le_of_ble_eq_true rfl, Nat.le_of_ble_eq_true rfl⟩ (c_minorsOf3 hn) rfl rfl (Nat.le_of_ble_eq_true rfl) (fun r I1 J1 hp => ?_)
    obtain ⟨rfl, e2, e3⟩ := hp
    obtain rfl := e2.symm
    obtain rfl := e3.symm
    have hy2 : y = 2 := (iI_eq hy (b := 2) ⟨by omega, by omega⟩).mp c
    exact bX7_norm_102 (ok _ (by omega) (by rw [hy2, mid_as, m0, m1, m2, m3, m4, m5, m6, m7, m8]; rfl))
  · refine v_X7_206 dX7_norm_106 rfl ⟨rfl, rfl, Nat.le_of_ble_eq_true rfl, Nat.le_of_ble_eq_true rfl⟩ (c_refuseLong 2 (by decide) rfl) rfl rfl (Nat.le_of_ble_eq_true rfl) (fun r I1 J1 hp => ?_)
    obtain ⟨rfl, rfl, rfl⟩ := hp
    refine bX7_norm_109 ?_
    unfold noR
    rw [if_pos cx, if_neg (fun h => by rw [iI_toInt hy] at c; omega)]
    exact ⟨rfl, rfl, g⟩
end NO
