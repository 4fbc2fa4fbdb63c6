section E8
variable {l : Launch} {D : va_G} {aI aL : ClassId} {ad : Nat → Nat} {I : sa_I} {J : sa_J}
def anJ (J : sa_J) (x y z : Int64) : sa_J := sa_uJ (sa_uJ (sa_uJ J 9 0 x) 9 1 y) 9 2 z
theorem c_element6 {n ne : Nat} {x y z : Int} (hn : I 4 0 = nI n) (h0 : n = 2 ∨ n = 3) (hne : I 0 8 = nI ne) (h100 : ne ≤ 100) (hx : rgi x) (hy : rgi y) (hz : rgi z) : Con (EC l D aI aL ad) M_X6_element yX6_element [.ref (ad 0), .int (iI x), .int (iI y), .int (iI z)] I J (if n = 2 ∧ z ≠ 0 then p_i (-1) (rf I 1) J else keC I (anJ J (lI x) (lI y) (lI z)) ne (lI x) (lI y) (lI z)) := by
  refine Con.of (by decide +kernel) rfl (Nat.le_of_ble_eq_true rfl) ?_
  have hnz : ¬ I 4 0 = 0 := by rw [hn]; rcases h0 with rfl | rfl <;> decide
  have rz : (iI z = 0) ↔ z = 0 := iI_eq hz (b := 0) ⟨by omega, by omega⟩
  have go : ¬ (n = 2 ∧ z ≠ 0) → Sat (EC l D aI aL ad) M_X6_element (if n = 2 ∧ z ≠ 0 then p_i (-1) (rf I 1) J else keC I (anJ J (lI x) (lI y) (lI z)) ne (lI x) (lI y) (lI z)) 38 [(0, .ref (ad 0)), (1, .int (iI x)), (2, .int (iI y)), (3, .int (iI z))] [] I J := by
    intro h
    rw [if_neg h]
    refine bX6_element_38 (iI_lI hx) (iI_lI hy) (iI_lI hz) ?_
    refine v_X6_125 dX6_element_72 rfl ⟨rfl, rfl, Nat.le_of_ble_eq_true rfl, Nat.le_of_ble_eq_true rfl⟩ (c_keepElement hne h100) rfl rfl (Nat.le_of_ble_eq_true rfl) (fun r I1 J1 hp => ?_)
    rcases hp with ⟨a, rfl, b⟩ | ⟨a, b, rfl, c⟩ | ⟨a, b, c, rfl, d⟩
    · exact bX6_element_75 (Or.inl ⟨a, rfl, b⟩)
    · exact bX6_element_75 (Or.inr (Or.inl ⟨a, b, rfl, c⟩))
    · exact bX6_element_75 (Or.inr (Or.inr ⟨a, b, c, rfl, d⟩))
  refine bX6_element_0 (fun _ => bX6_element_17 (fun c => go (fun q => c (by rw [hn, q.1]; rfl))) (fun c => bX6_element_28 (fun c2 => go (fun q => q.2 (rz.mp c2))) (fun c2 => bX6_element_32 ?_))) (fun c => absurd c hnz)
  have hh : n = 2 ∧ z ≠ 0 := by
    refine ⟨?_, fun q => c2 (rz.mpr q)⟩
    rw [hn] at c
    rcases h0 with rfl | rfl
    · rfl
    · exact absurd c (by decide)
  rw [if_pos hh]
  refine v_X6_59 dX6_element_34 rfl ⟨rfl, rfl, Nat.le_of_ble_eq_true rfl, Nat.le_of_ble_eq_true rfl⟩ (c_refused 1 (by decide) rfl) rfl rfl (Nat.le_of_ble_eq_true rfl) (fun r I1 J1 hp => ?_)
  obtain ⟨rfl, rfl, rfl⟩ := hp
  exact bX6_element_37 ⟨rfl, rfl, rfl⟩
theorem c_element7 {n ne : Nat} {x y z : Int} (hn : I 0 1 = nI n) (h0 : n = 2 ∨ n = 3) (hne : I 0 13 = nI ne) (h100 : ne ≤ 100) (hx : rgi x) (hy : rgi y) (hz : rgi z) : Con (ER l D aI aL ad) M_X7_element yX7_element [.ref (ad 0), .int (iI x), .int (iI y), .int (iI z)] I J (if n = 2 ∧ z ≠ 0 then p_i (-1) (rf I 1) J else keR I J ne (lI x) (lI y) (lI z)) := by
  refine Con.of (by decide +kernel) rfl (Nat.le_of_ble_eq_true rfl) ?_
  have hnz : ¬ I 0 1 ≤ 0 := by rw [hn]; rcases h0 with rfl | rfl <;> decide
  have rz : (iI z = 0) ↔ z = 0 := iI_eq hz (b := 0) ⟨by omega, by omega⟩
  have go : ¬ (n = 2 ∧ z ≠ 0) → Sat (ER l D aI aL ad) M_X7_element (if n = 2 ∧ z ≠ 0 then p_i (-1) (rf I 1) J else keR I J ne (lI x) (lI y) (lI z)) 34 [(0, .ref (ad 0)), (1, .int (iI x)), (2, .int (iI y)), (3, .int (iI z))] [] I J := by
    intro h
    rw [if_neg h]
    refine bX7_element_34 ?_
    rw [iI_lI hx, iI_lI hy, iI_lI hz]
    refine v_X7_221 dX7_element_41 rfl ⟨rfl, rfl, Nat.le_of_ble_eq_true rfl, Nat.le_of_ble_eq_true rfl⟩ (c_adds hne h100) rfl rfl (Nat.le_of_ble_eq_true rfl) (fun r I1 J1 hp => ?_)
    rcases hp with ⟨a, rfl, b⟩ | ⟨a, b, rfl, c⟩ | ⟨a, b, c, rfl, d⟩
    · exact bX7_element_44 (Or.inl ⟨a, rfl, b⟩)
    · exact bX7_element_44 (Or.inr (Or.inl ⟨a, b, rfl, c⟩))
    · exact bX7_element_44 (Or.inr (Or.inr ⟨a, b, c, rfl, d⟩))
  refine bX7_element_0 ?_
  refine v_X7_203 dX7_element_1 rfl ⟨rfl, rfl, Nat.le_of_ble_eq_true rfl, Nat.le_of_ble_eq_true rfl⟩ (c_isField) rfl rfl (Nat.le_of_ble_eq_true rfl) (fun r I1 J1 hp => ?_)
  obtain ⟨rfl, e2, e3⟩ := hp
  obtain rfl := e2.symm
  obtain rfl := e3.symm
  rw [if_neg hnz]
  refine bX7_element_4 (fun _ => bX7_element_14 (fun c => go (fun q => c (by rw [hn, q.1]; rfl))) (fun c => bX7_element_22 (fun c2 => go (fun q => q.2 (rz.mp c2))) (fun c2 => bX7_element_26 ?_))) (fun c => absurd c (by decide))
  have hh : n = 2 ∧ z ≠ 0 := by
    refine ⟨?_, fun q => c2 (rz.mpr q)⟩
    rw [hn] at c
    rcases h0 with rfl | rfl
    · rfl
    · exact absurd c (by decide)
  rw [if_pos hh]
  refine v_X7_84 dX7_element_28 rfl ⟨rfl, rfl, Nat.le_of_ble_eq_true rfl, Nat.le_of_ble_eq_true rfl⟩ (c_refuse 1 (by decide) rfl) rfl rfl (Nat.le_of_ble_eq_true rfl) (fun r I1 J1 hp => ?_)
  obtain ⟨rfl, rfl, rfl⟩ := hp
  exact bX7_element_31 (bX7_element_44 ⟨rfl, rfl, rfl⟩)
theorem c_coordinate6 {n ne : Nat} {x y : Int} (hn : I 4 0 = nI n) (h0 : n = 2 ∨ n = 3) (hne : I 0 8 = nI ne) (h100 : ne ≤ 100) (hx : rgi x) (hy : rgi y) : Con (EC l D aI aL ad) M_X6_coordinate yX6_coordinate [.ref (ad 0), .int (iI x), .int (iI y)] I J (orP (0 ≤ x ∧ x < ne ∧ 0 ≤ y ∧ y < n) ((J 2 (3 * x.toNat + y.toNat)).toInt32) (2000000000 - (-1)) 1 I J) := by
  refine Con.of (by decide +kernel) rfl (Nat.le_of_ble_eq_true rfl) ?_
  have hnz : ¬ I 4 0 = 0 := by rw [hn]; rcases h0 with rfl | rfl <;> decide
  have no : ¬ (0 ≤ x ∧ x < ne ∧ 0 ≤ y ∧ y < n) → Sat (EC l D aI aL ad) M_X6_coordinate (orP (0 ≤ x ∧ x < ne ∧ 0 ≤ y ∧ y < n) ((J 2 (3 * x.toNat + y.toNat)).toInt32) (2000000000 - (-1)) 1 I J) 33 [(0, .ref (ad 0))] [] I J := by
    intro h
    refine bX6_coordinate_33 ?_
    refine v_X6_116 dX6_coordinate_35 rfl ⟨rfl, rfl, Nat.le_of_ble_eq_true rfl, Nat.le_of_ble_eq_true rfl⟩ (c_told 1 (by decide) rfl) rfl rfl (Nat.le_of_ble_eq_true rfl) (fun r I1 J1 hp => ?_)
    obtain ⟨rfl, rfl, rfl⟩ := hp
    exact bX6_coordinate_38 (orP_f h)
  refine bX6_coordinate_0 (fun _ => bX6_coordinate_17 ?_) (fun c => absurd c hnz)
  refine v_X6_128 dX6_coordinate_19 rfl ⟨rfl, rfl, Nat.le_of_ble_eq_true rfl, Nat.le_of_ble_eq_true rfl⟩ (c_isElement6) rfl rfl (Nat.le_of_ble_eq_true rfl) (fun r I1 J1 hp => ?_)
  obtain ⟨rfl, e2, e3⟩ := hp
  obtain rfl := e2.symm
  obtain rfl := e3.symm
  rw [hne, inB_I hx (m := ne) (by omega)]
  by_cases cx : 0 ≤ x ∧ x < ne
  rotate_left
  · rw [if_neg cx]; exact bX6_coordinate_22 (fun _ => no (fun h => cx ⟨by omega, by omega⟩)) (fun c => absurd rfl c)
  rw [if_pos cx]
  refine bX6_coordinate_22 (fun c => absurd c (by decide)) (fun _ => bX6_coordinate_25 ?_)
  refine v_X6_106 dX6_coordinate_27 rfl ⟨rfl, rfl, Nat.le_of_ble_eq_true rfl, Nat.le_of_ble_eq_true rfl⟩ (c_isPlace6) rfl rfl (Nat.le_of_ble_eq_true rfl) (fun r I1 J1 hp => ?_)
  obtain ⟨rfl, e2, e3⟩ := hp
  obtain rfl := e2.symm
  obtain rfl := e3.symm
  rw [hn, inB_I hy (m := n) (by omega)]
  by_cases cy : 0 ≤ y ∧ y < n
  rotate_left
  · rw [if_neg cy]; exact bX6_coordinate_30 (fun c => absurd rfl c) (fun _ => no (fun h => cy ⟨by omega, by omega⟩))
  rw [if_pos cy]
  refine bX6_coordinate_30 (fun _ => ?_) (fun c => absurd c (by decide))
  rw [iI_nat cx.1, iI_nat cy.1]
  exact bX6_coordinate_39 (j47 := 3 * x.toNat + y.toNat) (by simp only [nI_lit, nI_mulE, nI_addE]) (by omega) (orP_t ⟨cx.1, cx.2, cy.1, cy.2⟩)
theorem c_coordinate7 {n ne : Nat} {x y : Int} (hn : I 0 1 = nI n) (h0 : n = 2 ∨ n = 3) (hne : I 0 13 = nI ne) (h100 : ne ≤ 100) (hx : rgi x) (hy : rgi y) : Con (ER l D aI aL ad) M_X7_coordinate yX7_coordinate [.ref (ad 0), .int (iI x), .int (iI y)] I J (orP (0 ≤ x ∧ x < ne ∧ 0 ≤ y ∧ y < n) (I 3 (3 * x.toNat + y.toNat)) (2000000000 - (-1)) 1 I J) := by
  refine Con.of (by decide +kernel) rfl (Nat.le_of_ble_eq_true rfl) ?_
  have hnz : ¬ I 0 1 ≤ 0 := by rw [hn]; rcases h0 with rfl | rfl <;> decide
  have no : ¬ (0 ≤ x ∧ x < ne ∧ 0 ≤ y ∧ y < n) → Sat (ER l D aI aL ad) M_X7_coordinate (orP (0 ≤ x ∧ x < ne ∧ 0 ≤ y ∧ y < n) (I 3 (3 * x.toNat + y.toNat)) (2000000000 - (-1)) 1 I J) 46 [(0, .ref (ad 0))] [] I J := by
    intro h
    refine bX7_coordinate_46 ?_
    refine v_X7_214 dX7_coordinate_48 rfl ⟨rfl, rfl, Nat.le_of_ble_eq_true rfl, Nat.le_of_ble_eq_true rfl⟩ (c_refuseFar 1 (by decide) rfl) rfl rfl (Nat.le_of_ble_eq_true rfl) (fun r I1 J1 hp => ?_)
    obtain ⟨rfl, rfl, rfl⟩ := hp
    exact bX7_coordinate_51 (orP_f h)
  refine bX7_coordinate_0 ?_
  refine v_X7_203 dX7_coordinate_1 rfl ⟨rfl, rfl, Nat.le_of_ble_eq_true rfl, Nat.le_of_ble_eq_true rfl⟩ (c_isField) rfl rfl (Nat.le_of_ble_eq_true rfl) (fun r I1 J1 hp => ?_)
  obtain ⟨rfl, e2, e3⟩ := hp
  obtain rfl := e2.symm
  obtain rfl := e3.symm
  rw [if_neg hnz]
  refine bX7_coordinate_4 (fun _ => bX7_coordinate_14 ?_) (fun c => absurd c (by decide))
  refine v_X7_232 dX7_coordinate_16 rfl ⟨rfl, rfl, Nat.le_of_ble_eq_true rfl, Nat.le_of_ble_eq_true rfl⟩ (c_isElement7) rfl rfl (Nat.le_of_ble_eq_true rfl) (fun r I1 J1 hp => ?_)
  obtain ⟨rfl, e2, e3⟩ := hp
  obtain rfl := e2.symm
  obtain rfl := e3.symm
  rw [hne, inB_I hx (m := ne) (by omega)]
  by_cases cx : 0 ≤ x ∧ x < ne
  rotate_left
  · rw [if_neg cx]; exact bX7_coordinate_19 (fun _ => no (fun h => cx ⟨by omega, by omega⟩)) (fun c => absurd rfl c)
  rw [if_pos cx]
  refine bX7_coordinate_19 (fun c => absurd c (by decide)) (fun _ => bX7_coordinate_22 ?_)
  rw [hn]
  refine v_X7_210 dX7_coordinate_27 rfl ⟨rfl, rfl, Nat.le_of_ble_eq_true rfl, Nat.le_of_ble_eq_true rfl⟩ (c_isIn) rfl rfl (Nat.le_of_ble_eq_true rfl) (fun r I1 J1 hp => ?_)
  obtain ⟨rfl, e2, e3⟩ := hp
  obtain rfl := e2.symm
  obtain rfl := e3.symm
  rw [inB_I hy (m := n) (by omega)]
  by_cases cy : 0 ≤ y ∧ y < n
  rotate_left
  · rw [if_neg cy]; exact bX7_coordinate_30 (fun _ => no (fun h => cy ⟨by omega, by omega⟩)) (fun c => absurd rfl c)
  rw [if_pos cy]
  refine bX7_coordinate_30 (fun c => absurd c (by decide)) (fun _ => ?_)
  rw [iI_nat cx.1, iI_nat cy.1]
  exact bX7_coordinate_33 (j41 := 3 * x.toNat + y.toNat) (by simp only [nI_lit, nI_mulE, nI_addE]) (by omega) (bX7_coordinate_51 (orP_t ⟨cx.1, cx.2, cy.1, cy.2⟩))
end E8
