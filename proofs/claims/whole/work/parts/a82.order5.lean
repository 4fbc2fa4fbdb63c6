theorem uni_idr {x y : Int} : IdR 2 (T2 x y) (smI 1 0) := smI_idr (by decide) (by decide) (by decide) (by decide) ⟨0 * 0 + 0 * y - x, by rw [Int.one_mul]⟩
theorem uni_rows : ∀ t, t < 9 → smR 2 1 t = smI 1 0 t := by
  intro t ht
  rcases below9 ht with rfl | rfl | rfl | rfl | rfl | rfl | rfl | rfl | rfl <;> rfl
theorem cls_rg {D : Int} (hL : (LF D).length < 160) (f : F3) : rgi (clsZ D f) := by
  obtain ⟨c1, c2, c3⟩ := fdF_bd (a := (RD D f).1) (b := (RD D f).2.1) hL
  unfold clsZ
  by_cases q : 0 < D ∧ 0 ≤ fdF (RD D f).1 (RD D f).2.1 0 (LF D)
  · rw [if_pos q]
    have hlen : (MZ D).1.length = (LF D).length := by unfold MZ; rw [MZ_len D, List.length_replicate]
    have hR' : mkRg (MZ D).1 := by have := MR_R hL; unfold MR at this; rw [if_pos q.1] at this; exact this
    have := mkRg_get hR' (j := (fdF (RD D f).1 (RD D f).2.1 0 (LF D)).toNat) (by rw [hlen]; exact c3 q.2)
    exact ⟨by omega, by omega⟩
  · rw [if_neg q]; exact ⟨by omega, by omega⟩
section OD
variable {l : Launch} {DD : va_G} {aI aL : ClassId} {ad : Nat → Nat} {P : sa_P} {I : sa_I} {J : sa_J}
theorem c_orderOfRows {x y : Int} {R : Nat → Int} (hb : bd x 200 ∧ bd y 20) (h : IdR 2 (T2 x y) R) (hD : DOK (y * y + 4 * x)) (hL : LOK (y * y + 4 * x) (LF (y * y + 4 * x))) (hr : rdyC (y * y + 4 * x) I J) (hI : I 4 0 = nI 2) (hT : ∀ t, t < 27 → J 8 t = lI (T2 x y t)) {i : Nat} (hi : i < 80) (hR : ∀ t, t < 9 → J 3 (9 * i + t) = lI (R t)) {r : Nat} (hO : ordC (y * y + 4 * x) x y (clsZ (y * y + 4 * x) (pfR (T2 x y) (smI 1 0))) (posF (y * y + 4 * x) (RD (y * y + 4 * x) (pfR (T2 x y) R))) 160 (posF (y * y + 4 * x) (RD (y * y + 4 * x) (pfR (T2 x y) R))) (clsZ (y * y + 4 * x) (pfR (T2 x y) R)) 1 = some r) : Con (EC l DD aI aL ad) M_X1_orderOfRows yX1_orderOfRows [.ref (ad 27), .ref (ad 3), .int (nI (9 * i))] I J (fun r' I1 J1 => r' = some (.int (nI r)) ∧ orF I I1 J J1 ∧ rdyC (y * y + 4 * x) I1 J1) := by
  refine Con.of (by decide +kernel) rfl (Nat.le_of_ble_eq_true rfl) ?_
  refine bX1_orderOfRows_0 aJ_C3 (by decide) ?_
  refine v_X1_133 dX1_orderOfRows_9 rfl ⟨rfl, rfl, Nat.le_of_ble_eq_true rfl, Nat.le_of_ble_eq_true rfl⟩ (c_startMultiples (n := 2) (Or.inl rfl) (m := 1) (by decide) (by decide)) rfl rfl (Nat.le_of_ble_eq_true rfl) (fun r I1 J1 hq => ?_)
  obtain ⟨rfl, sc, f1, ls⟩ := hq
  have hr1 : rdyC (y * y + 4 * x) I1 J1 := hr.keep (sc 27 (by decide)) (sc 28 (by decide)) (sc 29 (by decide)) (by rw [f1 27 (by decide) (by decide)]) (by rw [f1 27 (by decide) (by decide)])
  have n8 : J1 8 = J 8 := f1 8 (by decide) (by decide)
  refine bX1_orderOfRows_12 aJ_C3 (by decide) ?_
  refine v_X1_142 dX1_orderOfRows_24 rfl ⟨rfl, rfl, Nat.le_of_ble_eq_true rfl, Nat.le_of_ble_eq_true rfl⟩ (c_classOfRows6 (R := smI 1 0) hb uni_idr hD hL hr1 (by rw [n8]; exact hT 12 (by decide)) (by rw [n8]; exact hT 13 (by decide)) (p1 := 0) aJ_C15 (by decide) (by decide) (by decide) (fun t ht => by rw [Nat.zero_add, ← uni_rows t ht]; exact (ls.2.2.1 t ht).1)) rfl rfl (Nat.le_of_ble_eq_true rfl) (fun r I2 J2 hq => ?_)
  obtain ⟨rfl, e1, fm2, ff2⟩ := hq
  obtain rfl := e1.symm
  have hr2 : rdyC (y * y + 4 * x) I1 J2 := hr1.keep rfl rfl rfl (ff2.2 9 (by decide) (by decide) (by decide)) (ff2.2 10 (by decide) (by decide) (by decide))
  have m8 : J2 8 = J 8 := (ff2.1 8 (by decide)).trans n8
  refine bX1_orderOfRows_27 aJ_C3 (by decide) ?_
  refine v_X1_142 dX1_orderOfRows_31 rfl ⟨rfl, rfl, Nat.le_of_ble_eq_true rfl, Nat.le_of_ble_eq_true rfl⟩ (c_classOfRows6 (R := R) hb h hD hL hr2 (by rw [m8]; exact hT 12 (by decide)) (by rw [m8]; exact hT 13 (by decide)) (p1 := 9 * i) aJ_C3 (by decide) (by omega) (by decide) (fun t ht => by rw [ff2.1 3 (by decide), f1 3 (by decide) (by decide)]; exact hR t ht)) rfl rfl (Nat.le_of_ble_eq_true rfl) (fun r I2 J3 hq => ?_)
  obtain ⟨rfl, e1, fm3, ff3⟩ := hq
  obtain rfl := e1.symm
  obtain ⟨pa, pb, pc⟩ := pf_all hb hD h
  have gp := gd_pos hD pa pc
  refine bX1_orderOfRows_34 ?_
  refine v_X1_146 dX1_orderOfRows_41 rfl ⟨rfl, rfl, Nat.le_of_ble_eq_true rfl, Nat.le_of_ble_eq_true rfl⟩ (c_smallRows hb.2 hD pa gp.2.1 (by have := gp.2.2; omega) pb fm3 (by rw [ff3.1 8 (by decide), m8]; exact hT 13 (by decide)) aJ_C30 ⟨by decide, by decide⟩) rfl rfl (Nat.le_of_ble_eq_true rfl) (fun r I2 J4 hq => ?_)
  obtain ⟨rfl, e1, fm4, w30, f4, f27⟩ := hq
  obtain rfl := e1.symm
  refine bX1_orderOfRows_44 ?_
  refine s_copy (n0 := 9) (sp := 0) (dp := 0) (n := 9) (n' := 9) aJ_C30 aJ_C31 dX1_orderOfRows_56 (by decide +kernel) (Nat.le_of_ble_eq_true rfl) (Nat.le_of_ble_eq_true rfl) (by decide) (by decide) (by decide) (by decide) (by decide) ?_
  refine bX1_orderOfRows_59 (v60 := nI 1) rfl ?_
  have g27 : ∀ t, t ≠ 11 → t ≠ 12 → t ≠ 13 → J4 27 t = J2 27 t := fun t a b c => by rw [f27 t a b c, ff3.2 t a b c]
  refine oc_loop hb hD hL (cls_rg hL.1 _) gp hI hT (I0 := I) (J0 := J) (fun Ia Ja a b => ⟨rfl, a, b⟩) 160 1 _ _ I1 _ hO rfl (cls_rg hL.1 _) gp (hr2.keep rfl rfl rfl ?_ ?_) ⟨fun q a => sc q a, fun q a b c d e f g => ?_⟩ (fun t ht => ?_) (fun t ht => ?_)
  · rw [sa_rJ_ne (by decide)]; exact g27 9 (by decide) (by decide) (by decide)
  · rw [sa_rJ_ne (by decide)]; exact g27 10 (by decide) (by decide) (by decide)
  · rw [sa_rJ_ne g, f4 q f e, ff3.1 q e, ff2.1 q e, f1 q b c]
  · rw [sa_rJ_ne (by decide)]; exact w30 t ht
  · rw [sa_rJ_eq]; unfold va_cpy; rw [if_pos ⟨by omega, by omega⟩, Nat.sub_zero, Nat.zero_add]; exact w30 t ht
end OD
