section RP
variable {l : Launch} {D : va_G} {aI aL : ClassId} {ad : Nat → Nat} {I : sa_I} {J : sa_J}
theorem c_product2 (hn : I 0 1 = nI 2) : Con (ER l D aI aL ad) M_X7_product yX7_product [.ref (ad 0)] I J (fun r I1 J1 => r = none ∧ I1 = I ∧ J1 12 0 = 0 + J 10 0 * J 11 0 * J 2 0 + J 10 0 * J 11 1 * J 2 3 + J 10 1 * J 11 0 * J 2 9 + J 10 1 * J 11 1 * J 2 12 ∧ J1 12 1 = 0 + J 10 0 * J 11 0 * J 2 1 + J 10 0 * J 11 1 * J 2 4 + J 10 1 * J 11 0 * J 2 10 + J 10 1 * J 11 1 * J 2 13 ∧ J1 12 2 = 0 ∧ ∀ q, q ≠ 12 → J1 q = J q) := by
  refine Con.of (by decide +kernel) rfl (Nat.le_of_ble_eq_true rfl) ?_
  refine bX7_product_0 (v1 := nI 0) rfl ?_
  refine bX7_product_2  (fun c => absurd c (by decide)) (fun _ => ?_)
  refine bX7_product_7 (v10 := nI 0) rfl rfl ?_
  refine bX7_product_12  (fun c => absurd c (by simp only [hn]; decide)) (fun _ => ?_)
  refine bX7_product_21 (v22 := nI 0) rfl ?_
  refine bX7_product_24  (fun c => absurd c (by simp only [hn]; decide)) (fun _ => ?_)
  refine bX7_product_33  (fun c => absurd c (by simp only [hn]; decide)) (fun _ => ?_)
  refine bX7_product_41 (j46 := 0) (j53 := 0) (j72 := 0) (v77 := nI 1) rfl (by decide) rfl (by decide) rfl (by decide) rfl rfl ?_
  refine bX7_product_24  (fun c => absurd c (by simp only [hn]; decide)) (fun _ => ?_)
  refine bX7_product_33  (fun c => absurd c (by simp only [hn]; decide)) (fun _ => ?_)
  refine bX7_product_41 (j46 := 0) (j53 := 1) (j72 := 3) (v77 := nI 2) rfl (by decide) rfl (by decide) rfl (by decide) rfl rfl ?_
  refine bX7_product_24  (fun _ => ?_) (fun c => absurd c (by simp only [hn]; decide))
  refine bX7_product_83 (v83 := nI 1) rfl ?_
  refine bX7_product_12  (fun c => absurd c (by simp only [hn]; decide)) (fun _ => ?_)
  refine bX7_product_21 (v22 := nI 0) rfl ?_
  refine bX7_product_24  (fun c => absurd c (by simp only [hn]; decide)) (fun _ => ?_)
  refine bX7_product_33  (fun c => absurd c (by simp only [hn]; decide)) (fun _ => ?_)
  refine bX7_product_41 (j46 := 1) (j53 := 0) (j72 := 9) (v77 := nI 1) rfl (by decide) rfl (by decide) rfl (by decide) rfl rfl ?_
  refine bX7_product_24  (fun c => absurd c (by simp only [hn]; decide)) (fun _ => ?_)
  refine bX7_product_33  (fun c => absurd c (by simp only [hn]; decide)) (fun _ => ?_)
  refine bX7_product_41 (j46 := 1) (j53 := 1) (j72 := 12) (v77 := nI 2) rfl (by decide) rfl (by decide) rfl (by decide) rfl rfl ?_
  refine bX7_product_24  (fun _ => ?_) (fun c => absurd c (by simp only [hn]; decide))
  refine bX7_product_83 (v83 := nI 2) rfl ?_
  refine bX7_product_12  (fun _ => ?_) (fun c => absurd c (by simp only [hn]; decide))
  refine bX7_product_89 (j93 := 0) (v96 := nI 1) rfl (by decide) rfl ?_
  refine bX7_product_2  (fun c => absurd c (by decide)) (fun _ => ?_)
  refine bX7_product_7 (v10 := nI 0) rfl rfl ?_
  refine bX7_product_12  (fun c => absurd c (by simp only [hn]; decide)) (fun _ => ?_)
  refine bX7_product_21 (v22 := nI 0) rfl ?_
  refine bX7_product_24  (fun c => absurd c (by simp only [hn]; decide)) (fun _ => ?_)
  refine bX7_product_33  (fun c => absurd c (by simp only [hn]; decide)) (fun _ => ?_)
  refine bX7_product_41 (j46 := 0) (j53 := 0) (j72 := 1) (v77 := nI 1) rfl (by decide) rfl (by decide) rfl (by decide) rfl rfl ?_
  refine bX7_product_24  (fun c => absurd c (by simp only [hn]; decide)) (fun _ => ?_)
  refine bX7_product_33  (fun c => absurd c (by simp only [hn]; decide)) (fun _ => ?_)
  refine bX7_product_41 (j46 := 0) (j53 := 1) (j72 := 4) (v77 := nI 2) rfl (by decide) rfl (by decide) rfl (by decide) rfl rfl ?_
  refine bX7_product_24  (fun _ => ?_) (fun c => absurd c (by simp only [hn]; decide))
  refine bX7_product_83 (v83 := nI 1) rfl ?_
  refine bX7_product_12  (fun c => absurd c (by simp only [hn]; decide)) (fun _ => ?_)
  refine bX7_product_21 (v22 := nI 0) rfl ?_
  refine bX7_product_24  (fun c => absurd c (by simp only [hn]; decide)) (fun _ => ?_)
  refine bX7_product_33  (fun c => absurd c (by simp only [hn]; decide)) (fun _ => ?_)
  refine bX7_product_41 (j46 := 1) (j53 := 0) (j72 := 10) (v77 := nI 1) rfl (by decide) rfl (by decide) rfl (by decide) rfl rfl ?_
  refine bX7_product_24  (fun c => absurd c (by simp only [hn]; decide)) (fun _ => ?_)
  refine bX7_product_33  (fun c => absurd c (by simp only [hn]; decide)) (fun _ => ?_)
  refine bX7_product_41 (j46 := 1) (j53 := 1) (j72 := 13) (v77 := nI 2) rfl (by decide) rfl (by decide) rfl (by decide) rfl rfl ?_
  refine bX7_product_24  (fun _ => ?_) (fun c => absurd c (by simp only [hn]; decide))
  refine bX7_product_83 (v83 := nI 2) rfl ?_
  refine bX7_product_12  (fun _ => ?_) (fun c => absurd c (by simp only [hn]; decide))
  refine bX7_product_89 (j93 := 1) (v96 := nI 2) rfl (by decide) rfl ?_
  refine bX7_product_2  (fun c => absurd c (by decide)) (fun _ => ?_)
  refine bX7_product_7 (v10 := nI 0) rfl rfl ?_
  refine bX7_product_12  (fun c => absurd c (by simp only [hn]; decide)) (fun _ => ?_)
  refine bX7_product_21 (v22 := nI 0) rfl ?_
  refine bX7_product_24  (fun c => absurd c (by simp only [hn]; decide)) (fun _ => ?_)
  refine bX7_product_33  (fun _ => ?_) (fun c => absurd c (by simp only [hn]; decide))
  refine bX7_product_83 (v83 := nI 1) rfl ?_
  refine bX7_product_12  (fun c => absurd c (by simp only [hn]; decide)) (fun _ => ?_)
  refine bX7_product_21 (v22 := nI 0) rfl ?_
  refine bX7_product_24  (fun c => absurd c (by simp only [hn]; decide)) (fun _ => ?_)
  refine bX7_product_33  (fun _ => ?_) (fun c => absurd c (by simp only [hn]; decide))
  refine bX7_product_83 (v83 := nI 2) rfl ?_
  refine bX7_product_12  (fun _ => ?_) (fun c => absurd c (by simp only [hn]; decide))
  refine bX7_product_89 (j93 := 2) (v96 := nI 3) rfl (by decide) rfl ?_
  refine bX7_product_2  (fun _ => ?_) (fun c => absurd c (by decide))
  exact bX7_product_102  ⟨rfl, rfl, rfl, rfl, rfl, fun q h => by simp only [sa_uJ_ne h]⟩
theorem c_acts2_10 (hn : I 0 1 = nI 2) : Con (ER l D aI aL ad) M_X7_acts yX7_acts [.ref (ad 0), .ref (ad 10)] I J (fun r I1 J1 => r = none ∧ I1 = I ∧ J1 9 0 = 0 + J 10 0 * J 2 0 + J 10 1 * J 2 9 ∧ J1 9 1 = 0 + J 10 0 * J 2 1 + J 10 1 * J 2 10 ∧ J1 9 3 = 0 + J 10 0 * J 2 3 + J 10 1 * J 2 12 ∧ J1 9 4 = 0 + J 10 0 * J 2 4 + J 10 1 * J 2 13 ∧ ∀ q, q ≠ 9 → J1 q = J q) := by
  refine Con.of (by decide +kernel) rfl (Nat.le_of_ble_eq_true rfl) ?_
  refine bX7_acts_0 (v1 := nI 0) aJ_R10 (by decide) rfl ?_
  refine bX7_acts_2 aJ_R10 (by decide) (fun c => absurd c (by simp only [hn]; decide)) (fun _ => ?_)
  refine bX7_acts_10 (v11 := nI 0) aJ_R10 (by decide) rfl ?_
  refine bX7_acts_12 aJ_R10 (by decide) (fun c => absurd c (by simp only [hn]; decide)) (fun _ => ?_)
  refine bX7_acts_20 (v24 := nI 0) aJ_R10 (by decide) rfl rfl ?_
  refine bX7_acts_26 aJ_R10 (by decide) (fun c => absurd c (by simp only [hn]; decide)) (fun _ => ?_)
  refine bX7_acts_35 (j38 := 0) (j55 := 0) (v61 := nI 1) aJ_R10 (by decide) rfl (by decide) rfl (by decide) rfl rfl ?_
  refine bX7_acts_26 aJ_R10 (by decide) (fun c => absurd c (by simp only [hn]; decide)) (fun _ => ?_)
  refine bX7_acts_35 (j38 := 1) (j55 := 9) (v61 := nI 2) aJ_R10 (by decide) rfl (by decide) rfl (by decide) rfl rfl ?_
  refine bX7_acts_26 aJ_R10 (by decide) (fun _ => ?_) (fun c => absurd c (by simp only [hn]; decide))
  refine bX7_acts_67 (j75 := 0) (v79 := nI 1) aJ_R10 (by decide) rfl (by decide) rfl ?_
  refine bX7_acts_12 aJ_R10 (by decide) (fun c => absurd c (by simp only [hn]; decide)) (fun _ => ?_)
  refine bX7_acts_20 (v24 := nI 0) aJ_R10 (by decide) rfl rfl ?_
  refine bX7_acts_26 aJ_R10 (by decide) (fun c => absurd c (by simp only [hn]; decide)) (fun _ => ?_)
  refine bX7_acts_35 (j38 := 0) (j55 := 1) (v61 := nI 1) aJ_R10 (by decide) rfl (by decide) rfl (by decide) rfl rfl ?_
  refine bX7_acts_26 aJ_R10 (by decide) (fun c => absurd c (by simp only [hn]; decide)) (fun _ => ?_)
  refine bX7_acts_35 (j38 := 1) (j55 := 10) (v61 := nI 2) aJ_R10 (by decide) rfl (by decide) rfl (by decide) rfl rfl ?_
  refine bX7_acts_26 aJ_R10 (by decide) (fun _ => ?_) (fun c => absurd c (by simp only [hn]; decide))
  refine bX7_acts_67 (j75 := 1) (v79 := nI 2) aJ_R10 (by decide) rfl (by decide) rfl ?_
  refine bX7_acts_12 aJ_R10 (by decide) (fun _ => ?_) (fun c => absurd c (by simp only [hn]; decide))
  refine bX7_acts_85 (v85 := nI 1) aJ_R10 (by decide) rfl ?_
  refine bX7_acts_2 aJ_R10 (by decide) (fun c => absurd c (by simp only [hn]; decide)) (fun _ => ?_)
  refine bX7_acts_10 (v11 := nI 0) aJ_R10 (by decide) rfl ?_
  refine bX7_acts_12 aJ_R10 (by decide) (fun c => absurd c (by simp only [hn]; decide)) (fun _ => ?_)
  refine bX7_acts_20 (v24 := nI 0) aJ_R10 (by decide) rfl rfl ?_
  refine bX7_acts_26 aJ_R10 (by decide) (fun c => absurd c (by simp only [hn]; decide)) (fun _ => ?_)
  refine bX7_acts_35 (j38 := 0) (j55 := 3) (v61 := nI 1) aJ_R10 (by decide) rfl (by decide) rfl (by decide) rfl rfl ?_
  refine bX7_acts_26 aJ_R10 (by decide) (fun c => absurd c (by simp only [hn]; decide)) (fun _ => ?_)
  refine bX7_acts_35 (j38 := 1) (j55 := 12) (v61 := nI 2) aJ_R10 (by decide) rfl (by decide) rfl (by decide) rfl rfl ?_
  refine bX7_acts_26 aJ_R10 (by decide) (fun _ => ?_) (fun c => absurd c (by simp only [hn]; decide))
  refine bX7_acts_67 (j75 := 3) (v79 := nI 1) aJ_R10 (by decide) rfl (by decide) rfl ?_
  refine bX7_acts_12 aJ_R10 (by decide) (fun c => absurd c (by simp only [hn]; decide)) (fun _ => ?_)
  refine bX7_acts_20 (v24 := nI 0) aJ_R10 (by decide) rfl rfl ?_
  refine bX7_acts_26 aJ_R10 (by decide) (fun c => absurd c (by simp only [hn]; decide)) (fun _ => ?_)
  refine bX7_acts_35 (j38 := 0) (j55 := 4) (v61 := nI 1) aJ_R10 (by decide) rfl (by decide) rfl (by decide) rfl rfl ?_
  refine bX7_acts_26 aJ_R10 (by decide) (fun c => absurd c (by simp only [hn]; decide)) (fun _ => ?_)
  refine bX7_acts_35 (j38 := 1) (j55 := 13) (v61 := nI 2) aJ_R10 (by decide) rfl (by decide) rfl (by decide) rfl rfl ?_
  refine bX7_acts_26 aJ_R10 (by decide) (fun _ => ?_) (fun c => absurd c (by simp only [hn]; decide))
  refine bX7_acts_67 (j75 := 4) (v79 := nI 2) aJ_R10 (by decide) rfl (by decide) rfl ?_
  refine bX7_acts_12 aJ_R10 (by decide) (fun _ => ?_) (fun c => absurd c (by simp only [hn]; decide))
  refine bX7_acts_85 (v85 := nI 2) aJ_R10 (by decide) rfl ?_
  refine bX7_acts_2 aJ_R10 (by decide) (fun _ => ?_) (fun c => absurd c (by simp only [hn]; decide))
  exact bX7_acts_91  ⟨rfl, rfl, rfl, rfl, rfl, rfl, fun q h => by simp only [sa_uJ_ne h]⟩
theorem c_acts2_11 (hn : I 0 1 = nI 2) : Con (ER l D aI aL ad) M_X7_acts yX7_acts [.ref (ad 0), .ref (ad 11)] I J (fun r I1 J1 => r = none ∧ I1 = I ∧ J1 9 0 = 0 + J 11 0 * J 2 0 + J 11 1 * J 2 9 ∧ J1 9 1 = 0 + J 11 0 * J 2 1 + J 11 1 * J 2 10 ∧ J1 9 3 = 0 + J 11 0 * J 2 3 + J 11 1 * J 2 12 ∧ J1 9 4 = 0 + J 11 0 * J 2 4 + J 11 1 * J 2 13 ∧ ∀ q, q ≠ 9 → J1 q = J q) := by
  refine Con.of (by decide +kernel) rfl (Nat.le_of_ble_eq_true rfl) ?_
  refine bX7_acts_0 (v1 := nI 0) aJ_R11 (by decide) rfl ?_
  refine bX7_acts_2 aJ_R11 (by decide) (fun c => absurd c (by simp only [hn]; decide)) (fun _ => ?_)
  refine bX7_acts_10 (v11 := nI 0) aJ_R11 (by decide) rfl ?_
  refine bX7_acts_12 aJ_R11 (by decide) (fun c => absurd c (by simp only [hn]; decide)) (fun _ => ?_)
  refine bX7_acts_20 (v24 := nI 0) aJ_R11 (by decide) rfl rfl ?_
  refine bX7_acts_26 aJ_R11 (by decide) (fun c => absurd c (by simp only [hn]; decide)) (fun _ => ?_)
  refine bX7_acts_35 (j38 := 0) (j55 := 0) (v61 := nI 1) aJ_R11 (by decide) rfl (by decide) rfl (by decide) rfl rfl ?_
  refine bX7_acts_26 aJ_R11 (by decide) (fun c => absurd c (by simp only [hn]; decide)) (fun _ => ?_)
  refine bX7_acts_35 (j38 := 1) (j55 := 9) (v61 := nI 2) aJ_R11 (by decide) rfl (by decide) rfl (by decide) rfl rfl ?_
  refine bX7_acts_26 aJ_R11 (by decide) (fun _ => ?_) (fun c => absurd c (by simp only [hn]; decide))
  refine bX7_acts_67 (j75 := 0) (v79 := nI 1) aJ_R11 (by decide) rfl (by decide) rfl ?_
  refine bX7_acts_12 aJ_R11 (by decide) (fun c => absurd c (by simp only [hn]; decide)) (fun _ => ?_)
  refine bX7_acts_20 (v24 := nI 0) aJ_R11 (by decide) rfl rfl ?_
  refine bX7_acts_26 aJ_R11 (by decide) (fun c => absurd c (by simp only [hn]; decide)) (fun _ => ?_)
  refine bX7_acts_35 (j38 := 0) (j55 := 1) (v61 := nI 1) aJ_R11 (by decide) rfl (by decide) rfl (by decide) rfl rfl ?_
  refine bX7_acts_26 aJ_R11 (by decide) (fun c => absurd c (by simp only [hn]; decide)) (fun _ => ?_)
  refine bX7_acts_35 (j38 := 1) (j55 := 10) (v61 := nI 2) aJ_R11 (by decide) rfl (by decide) rfl (by decide) rfl rfl ?_
  refine bX7_acts_26 aJ_R11 (by decide) (fun _ => ?_) (fun c => absurd c (by simp only [hn]; decide))
  refine bX7_acts_67 (j75 := 1) (v79 := nI 2) aJ_R11 (by decide) rfl (by decide) rfl ?_
  refine bX7_acts_12 aJ_R11 (by decide) (fun _ => ?_) (fun c => absurd c (by simp only [hn]; decide))
  refine bX7_acts_85 (v85 := nI 1) aJ_R11 (by decide) rfl ?_
  refine bX7_acts_2 aJ_R11 (by decide) (fun c => absurd c (by simp only [hn]; decide)) (fun _ => ?_)
  refine bX7_acts_10 (v11 := nI 0) aJ_R11 (by decide) rfl ?_
  refine bX7_acts_12 aJ_R11 (by decide) (fun c => absurd c (by simp only [hn]; decide)) (fun _ => ?_)
  refine bX7_acts_20 (v24 := nI 0) aJ_R11 (by decide) rfl rfl ?_
  refine bX7_acts_26 aJ_R11 (by decide) (fun c => absurd c (by simp only [hn]; decide)) (fun _ => ?_)
  refine bX7_acts_35 (j38 := 0) (j55 := 3) (v61 := nI 1) aJ_R11 (by decide) rfl (by decide) rfl (by decide) rfl rfl ?_
  refine bX7_acts_26 aJ_R11 (by decide) (fun c => absurd c (by simp only [hn]; decide)) (fun _ => ?_)
  refine bX7_acts_35 (j38 := 1) (j55 := 12) (v61 := nI 2) aJ_R11 (by decide) rfl (by decide) rfl (by decide) rfl rfl ?_
  refine bX7_acts_26 aJ_R11 (by decide) (fun _ => ?_) (fun c => absurd c (by simp only [hn]; decide))
  refine bX7_acts_67 (j75 := 3) (v79 := nI 1) aJ_R11 (by decide) rfl (by decide) rfl ?_
  refine bX7_acts_12 aJ_R11 (by decide) (fun c => absurd c (by simp only [hn]; decide)) (fun _ => ?_)
  refine bX7_acts_20 (v24 := nI 0) aJ_R11 (by decide) rfl rfl ?_
  refine bX7_acts_26 aJ_R11 (by decide) (fun c => absurd c (by simp only [hn]; decide)) (fun _ => ?_)
  refine bX7_acts_35 (j38 := 0) (j55 := 4) (v61 := nI 1) aJ_R11 (by decide) rfl (by decide) rfl (by decide) rfl rfl ?_
  refine bX7_acts_26 aJ_R11 (by decide) (fun c => absurd c (by simp only [hn]; decide)) (fun _ => ?_)
  refine bX7_acts_35 (j38 := 1) (j55 := 13) (v61 := nI 2) aJ_R11 (by decide) rfl (by decide) rfl (by decide) rfl rfl ?_
  refine bX7_acts_26 aJ_R11 (by decide) (fun _ => ?_) (fun c => absurd c (by simp only [hn]; decide))
  refine bX7_acts_67 (j75 := 4) (v79 := nI 2) aJ_R11 (by decide) rfl (by decide) rfl ?_
  refine bX7_acts_12 aJ_R11 (by decide) (fun _ => ?_) (fun c => absurd c (by simp only [hn]; decide))
  refine bX7_acts_85 (v85 := nI 2) aJ_R11 (by decide) rfl ?_
  refine bX7_acts_2 aJ_R11 (by decide) (fun _ => ?_) (fun c => absurd c (by simp only [hn]; decide))
  exact bX7_acts_91  ⟨rfl, rfl, rfl, rfl, rfl, rfl, fun q h => by simp only [sa_uJ_ne h]⟩
theorem c_product3 (hn : I 0 1 = nI 3) : Con (ER l D aI aL ad) M_X7_product yX7_product [.ref (ad 0)] I J (fun r I1 J1 => r = none ∧ I1 = I ∧ J1 12 0 = 0 + J 10 0 * J 11 0 * J 2 0 + J 10 0 * J 11 1 * J 2 3 + J 10 0 * J 11 2 * J 2 6 + J 10 1 * J 11 0 * J 2 9 + J 10 1 * J 11 1 * J 2 12 + J 10 1 * J 11 2 * J 2 15 + J 10 2 * J 11 0 * J 2 18 + J 10 2 * J 11 1 * J 2 21 + J 10 2 * J 11 2 * J 2 24 ∧ J1 12 1 = 0 + J 10 0 * J 11 0 * J 2 1 + J 10 0 * J 11 1 * J 2 4 + J 10 0 * J 11 2 * J 2 7 + J 10 1 * J 11 0 * J 2 10 + J 10 1 * J 11 1 * J 2 13 + J 10 1 * J 11 2 * J 2 16 + J 10 2 * J 11 0 * J 2 19 + J 10 2 * J 11 1 * J 2 22 + J 10 2 * J 11 2 * J 2 25 ∧ J1 12 2 = 0 + J 10 0 * J 11 0 * J 2 2 + J 10 0 * J 11 1 * J 2 5 + J 10 0 * J 11 2 * J 2 8 + J 10 1 * J 11 0 * J 2 11 + J 10 1 * J 11 1 * J 2 14 + J 10 1 * J 11 2 * J 2 17 + J 10 2 * J 11 0 * J 2 20 + J 10 2 * J 11 1 * J 2 23 + J 10 2 * J 11 2 * J 2 26 ∧ ∀ q, q ≠ 12 → J1 q = J q) := by
  refine Con.of (by decide +kernel) rfl (Nat.le_of_ble_eq_true rfl) ?_
  refine bX7_product_0 (v1 := nI 0) rfl ?_
  refine bX7_product_2  (fun c => absurd c (by decide)) (fun _ => ?_)
  refine bX7_product_7 (v10 := nI 0) rfl rfl ?_
  refine bX7_product_12  (fun c => absurd c (by simp only [hn]; decide)) (fun _ => ?_)
  refine bX7_product_21 (v22 := nI 0) rfl ?_
  refine bX7_product_24  (fun c => absurd c (by simp only [hn]; decide)) (fun _ => ?_)
  refine bX7_product_33  (fun c => absurd c (by simp only [hn]; decide)) (fun _ => ?_)
  refine bX7_product_41 (j46 := 0) (j53 := 0) (j72 := 0) (v77 := nI 1) rfl (by decide) rfl (by decide) rfl (by decide) rfl rfl ?_
  refine bX7_product_24  (fun c => absurd c (by simp only [hn]; decide)) (fun _ => ?_)
  refine bX7_product_33  (fun c => absurd c (by simp only [hn]; decide)) (fun _ => ?_)
  refine bX7_product_41 (j46 := 0) (j53 := 1) (j72 := 3) (v77 := nI 2) rfl (by decide) rfl (by decide) rfl (by decide) rfl rfl ?_
  refine bX7_product_24  (fun c => absurd c (by simp only [hn]; decide)) (fun _ => ?_)
  refine bX7_product_33  (fun c => absurd c (by simp only [hn]; decide)) (fun _ => ?_)
  refine bX7_product_41 (j46 := 0) (j53 := 2) (j72 := 6) (v77 := nI 3) rfl (by decide) rfl (by decide) rfl (by decide) rfl rfl ?_
  refine bX7_product_24  (fun _ => ?_) (fun c => absurd c (by simp only [hn]; decide))
  refine bX7_product_83 (v83 := nI 1) rfl ?_
  refine bX7_product_12  (fun c => absurd c (by simp only [hn]; decide)) (fun _ => ?_)
  refine bX7_product_21 (v22 := nI 0) rfl ?_
  refine bX7_product_24  (fun c => absurd c (by simp only [hn]; decide)) (fun _ => ?_)
  refine bX7_product_33  (fun c => absurd c (by simp only [hn]; decide)) (fun _ => ?_)
  refine bX7_product_41 (j46 := 1) (j53 := 0) (j72 := 9) (v77 := nI 1) rfl (by decide) rfl (by decide) rfl (by decide) rfl rfl ?_
  refine bX7_product_24  (fun c => absurd c (by simp only [hn]; decide)) (fun _ => ?_)
  refine bX7_product_33  (fun c => absurd c (by simp only [hn]; decide)) (fun _ => ?_)
  refine bX7_product_41 (j46 := 1) (j53 := 1) (j72 := 12) (v77 := nI 2) rfl (by decide) rfl (by decide) rfl (by decide) rfl rfl ?_
  refine bX7_product_24  (fun c => absurd c (by simp only [hn]; decide)) (fun _ => ?_)
  refine bX7_product_33  (fun c => absurd c (by simp only [hn]; decide)) (fun _ => ?_)
  refine bX7_product_41 (j46 := 1) (j53 := 2) (j72 := 15) (v77 := nI 3) rfl (by decide) rfl (by decide) rfl (by decide) rfl rfl ?_
  refine bX7_product_24  (fun _ => ?_) (fun c => absurd c (by simp only [hn]; decide))
  refine bX7_product_83 (v83 := nI 2) rfl ?_
  refine bX7_product_12  (fun c => absurd c (by simp only [hn]; decide)) (fun _ => ?_)
  refine bX7_product_21 (v22 := nI 0) rfl ?_
  refine bX7_product_24  (fun c => absurd c (by simp only [hn]; decide)) (fun _ => ?_)
  refine bX7_product_33  (fun c => absurd c (by simp only [hn]; decide)) (fun _ => ?_)
  refine bX7_product_41 (j46 := 2) (j53 := 0) (j72 := 18) (v77 := nI 1) rfl (by decide) rfl (by decide) rfl (by decide) rfl rfl ?_
  refine bX7_product_24  (fun c => absurd c (by simp only [hn]; decide)) (fun _ => ?_)
  refine bX7_product_33  (fun c => absurd c (by simp only [hn]; decide)) (fun _ => ?_)
  refine bX7_product_41 (j46 := 2) (j53 := 1) (j72 := 21) (v77 := nI 2) rfl (by decide) rfl (by decide) rfl (by decide) rfl rfl ?_
  refine bX7_product_24  (fun c => absurd c (by simp only [hn]; decide)) (fun _ => ?_)
  refine bX7_product_33  (fun c => absurd c (by simp only [hn]; decide)) (fun _ => ?_)
  refine bX7_product_41 (j46 := 2) (j53 := 2) (j72 := 24) (v77 := nI 3) rfl (by decide) rfl (by decide) rfl (by decide) rfl rfl ?_
  refine bX7_product_24  (fun _ => ?_) (fun c => absurd c (by simp only [hn]; decide))
  refine bX7_product_83 (v83 := nI 3) rfl ?_
  refine bX7_product_12  (fun _ => ?_) (fun c => absurd c (by simp only [hn]; decide))
  refine bX7_product_89 (j93 := 0) (v96 := nI 1) rfl (by decide) rfl ?_
  refine bX7_product_2  (fun c => absurd c (by decide)) (fun _ => ?_)
  refine bX7_product_7 (v10 := nI 0) rfl rfl ?_
  refine bX7_product_12  (fun c => absurd c (by simp only [hn]; decide)) (fun _ => ?_)
  refine bX7_product_21 (v22 := nI 0) rfl ?_
  refine bX7_product_24  (fun c => absurd c (by simp only [hn]; decide)) (fun _ => ?_)
  refine bX7_product_33  (fun c => absurd c (by simp only [hn]; decide)) (fun _ => ?_)
  refine bX7_product_41 (j46 := 0) (j53 := 0) (j72 := 1) (v77 := nI 1) rfl (by decide) rfl (by decide) rfl (by decide) rfl rfl ?_
  refine bX7_product_24  (fun c => absurd c (by simp only [hn]; decide)) (fun _ => ?_)
  refine bX7_product_33  (fun c => absurd c (by simp only [hn]; decide)) (fun _ => ?_)
  refine bX7_product_41 (j46 := 0) (j53 := 1) (j72 := 4) (v77 := nI 2) rfl (by decide) rfl (by decide) rfl (by decide) rfl rfl ?_
  refine bX7_product_24  (fun c => absurd c (by simp only [hn]; decide)) (fun _ => ?_)
  refine bX7_product_33  (fun c => absurd c (by simp only [hn]; decide)) (fun _ => ?_)
  refine bX7_product_41 (j46 := 0) (j53 := 2) (j72 := 7) (v77 := nI 3) rfl (by decide) rfl (by decide) rfl (by decide) rfl rfl ?_
  refine bX7_product_24  (fun _ => ?_) (fun c => absurd c (by simp only [hn]; decide))
  refine bX7_product_83 (v83 := nI 1) rfl ?_
  refine bX7_product_12  (fun c => absurd c (by simp only [hn]; decide)) (fun _ => ?_)
  refine bX7_product_21 (v22 := nI 0) rfl ?_
  refine bX7_product_24  (fun c => absurd c (by simp only [hn]; decide)) (fun _ => ?_)
  refine bX7_product_33  (fun c => absurd c (by simp only [hn]; decide)) (fun _ => ?_)
  refine bX7_product_41 (j46 := 1) (j53 := 0) (j72 := 10) (v77 := nI 1) rfl (by decide) rfl (by decide) rfl (by decide) rfl rfl ?_
  refine bX7_product_24  (fun c => absurd c (by simp only [hn]; decide)) (fun _ => ?_)
  refine bX7_product_33  (fun c => absurd c (by simp only [hn]; decide)) (fun _ => ?_)
  refine bX7_product_41 (j46 := 1) (j53 := 1) (j72 := 13) (v77 := nI 2) rfl (by decide) rfl (by decide) rfl (by decide) rfl rfl ?_
  refine bX7_product_24  (fun c => absurd c (by simp only [hn]; decide)) (fun _ => ?_)
  refine bX7_product_33  (fun c => absurd c (by simp only [hn]; decide)) (fun _ => ?_)
  refine bX7_product_41 (j46 := 1) (j53 := 2) (j72 := 16) (v77 := nI 3) rfl (by decide) rfl (by decide) rfl (by decide) rfl rfl ?_
  refine bX7_product_24  (fun _ => ?_) (fun c => absurd c (by simp only [hn]; decide))
  refine bX7_product_83 (v83 := nI 2) rfl ?_
  refine bX7_product_12  (fun c => absurd c (by simp only [hn]; decide)) (fun _ => ?_)
  refine bX7_product_21 (v22 := nI 0) rfl ?_
  refine bX7_product_24  (fun c => absurd c (by simp only [hn]; decide)) (fun _ => ?_)
  refine bX7_product_33  (fun c => absurd c (by simp only [hn]; decide)) (fun _ => ?_)
  refine bX7_product_41 (j46 := 2) (j53 := 0) (j72 := 19) (v77 := nI 1) rfl (by decide) rfl (by decide) rfl (by decide) rfl rfl ?_
  refine bX7_product_24  (fun c => absurd c (by simp only [hn]; decide)) (fun _ => ?_)
  refine bX7_product_33  (fun c => absurd c (by simp only [hn]; decide)) (fun _ => ?_)
  refine bX7_product_41 (j46 := 2) (j53 := 1) (j72 := 22) (v77 := nI 2) rfl (by decide) rfl (by decide) rfl (by decide) rfl rfl ?_
  refine bX7_product_24  (fun c => absurd c (by simp only [hn]; decide)) (fun _ => ?_)
  refine bX7_product_33  (fun c => absurd c (by simp only [hn]; decide)) (fun _ => ?_)
  refine bX7_product_41 (j46 := 2) (j53 := 2) (j72 := 25) (v77 := nI 3) rfl (by decide) rfl (by decide) rfl (by decide) rfl rfl ?_
  refine bX7_product_24  (fun _ => ?_) (fun c => absurd c (by simp only [hn]; decide))
  refine bX7_product_83 (v83 := nI 3) rfl ?_
  refine bX7_product_12  (fun _ => ?_) (fun c => absurd c (by simp only [hn]; decide))
  refine bX7_product_89 (j93 := 1) (v96 := nI 2) rfl (by decide) rfl ?_
  refine bX7_product_2  (fun c => absurd c (by decide)) (fun _ => ?_)
  refine bX7_product_7 (v10 := nI 0) rfl rfl ?_
  refine bX7_product_12  (fun c => absurd c (by simp only [hn]; decide)) (fun _ => ?_)
  refine bX7_product_21 (v22 := nI 0) rfl ?_
  refine bX7_product_24  (fun c => absurd c (by simp only [hn]; decide)) (fun _ => ?_)
  refine bX7_product_33  (fun c => absurd c (by simp only [hn]; decide)) (fun _ => ?_)
  refine bX7_product_41 (j46 := 0) (j53 := 0) (j72 := 2) (v77 := nI 1) rfl (by decide) rfl (by decide) rfl (by decide) rfl rfl ?_
  refine bX7_product_24  (fun c => absurd c (by simp only [hn]; decide)) (fun _ => ?_)
  refine bX7_product_33  (fun c => absurd c (by simp only [hn]; decide)) (fun _ => ?_)
  refine bX7_product_41 (j46 := 0) (j53 := 1) (j72 := 5) (v77 := nI 2) rfl (by decide) rfl (by decide) rfl (by decide) rfl rfl ?_
  refine bX7_product_24  (fun c => absurd c (by simp only [hn]; decide)) (fun _ => ?_)
  refine bX7_product_33  (fun c => absurd c (by simp only [hn]; decide)) (fun _ => ?_)
  refine bX7_product_41 (j46 := 0) (j53 := 2) (j72 := 8) (v77 := nI 3) rfl (by decide) rfl (by decide) rfl (by decide) rfl rfl ?_
  refine bX7_product_24  (fun _ => ?_) (fun c => absurd c (by simp only [hn]; decide))
  refine bX7_product_83 (v83 := nI 1) rfl ?_
  refine bX7_product_12  (fun c => absurd c (by simp only [hn]; decide)) (fun _ => ?_)
  refine bX7_product_21 (v22 := nI 0) rfl ?_
  refine bX7_product_24  (fun c => absurd c (by simp only [hn]; decide)) (fun _ => ?_)
  refine bX7_product_33  (fun c => absurd c (by simp only [hn]; decide)) (fun _ => ?_)
  refine bX7_product_41 (j46 := 1) (j53 := 0) (j72 := 11) (v77 := nI 1) rfl (by decide) rfl (by decide) rfl (by decide) rfl rfl ?_
  refine bX7_product_24  (fun c => absurd c (by simp only [hn]; decide)) (fun _ => ?_)
  refine bX7_product_33  (fun c => absurd c (by simp only [hn]; decide)) (fun _ => ?_)
  refine bX7_product_41 (j46 := 1) (j53 := 1) (j72 := 14) (v77 := nI 2) rfl (by decide) rfl (by decide) rfl (by decide) rfl rfl ?_
  refine bX7_product_24  (fun c => absurd c (by simp only [hn]; decide)) (fun _ => ?_)
  refine bX7_product_33  (fun c => absurd c (by simp only [hn]; decide)) (fun _ => ?_)
  refine bX7_product_41 (j46 := 1) (j53 := 2) (j72 := 17) (v77 := nI 3) rfl (by decide) rfl (by decide) rfl (by decide) rfl rfl ?_
  refine bX7_product_24  (fun _ => ?_) (fun c => absurd c (by simp only [hn]; decide))
  refine bX7_product_83 (v83 := nI 2) rfl ?_
  refine bX7_product_12  (fun c => absurd c (by simp only [hn]; decide)) (fun _ => ?_)
  refine bX7_product_21 (v22 := nI 0) rfl ?_
  refine bX7_product_24  (fun c => absurd c (by simp only [hn]; decide)) (fun _ => ?_)
  refine bX7_product_33  (fun c => absurd c (by simp only [hn]; decide)) (fun _ => ?_)
  refine bX7_product_41 (j46 := 2) (j53 := 0) (j72 := 20) (v77 := nI 1) rfl (by decide) rfl (by decide) rfl (by decide) rfl rfl ?_
  refine bX7_product_24  (fun c => absurd c (by simp only [hn]; decide)) (fun _ => ?_)
  refine bX7_product_33  (fun c => absurd c (by simp only [hn]; decide)) (fun _ => ?_)
  refine bX7_product_41 (j46 := 2) (j53 := 1) (j72 := 23) (v77 := nI 2) rfl (by decide) rfl (by decide) rfl (by decide) rfl rfl ?_
  refine bX7_product_24  (fun c => absurd c (by simp only [hn]; decide)) (fun _ => ?_)
  refine bX7_product_33  (fun c => absurd c (by simp only [hn]; decide)) (fun _ => ?_)
  refine bX7_product_41 (j46 := 2) (j53 := 2) (j72 := 26) (v77 := nI 3) rfl (by decide) rfl (by decide) rfl (by decide) rfl rfl ?_
  refine bX7_product_24  (fun _ => ?_) (fun c => absurd c (by simp only [hn]; decide))
  refine bX7_product_83 (v83 := nI 3) rfl ?_
  refine bX7_product_12  (fun _ => ?_) (fun c => absurd c (by simp only [hn]; decide))
  refine bX7_product_89 (j93 := 2) (v96 := nI 3) rfl (by decide) rfl ?_
  refine bX7_product_2  (fun _ => ?_) (fun c => absurd c (by decide))
  exact bX7_product_102  ⟨rfl, rfl, rfl, rfl, rfl, fun q h => by simp only [sa_uJ_ne h]⟩
theorem c_acts3_10 (hn : I 0 1 = nI 3) : Con (ER l D aI aL ad) M_X7_acts yX7_acts [.ref (ad 0), .ref (ad 10)] I J (fun r I1 J1 => r = none ∧ I1 = I ∧ J1 9 0 = 0 + J 10 0 * J 2 0 + J 10 1 * J 2 9 + J 10 2 * J 2 18 ∧ J1 9 1 = 0 + J 10 0 * J 2 1 + J 10 1 * J 2 10 + J 10 2 * J 2 19 ∧ J1 9 2 = 0 + J 10 0 * J 2 2 + J 10 1 * J 2 11 + J 10 2 * J 2 20 ∧ J1 9 3 = 0 + J 10 0 * J 2 3 + J 10 1 * J 2 12 + J 10 2 * J 2 21 ∧ J1 9 4 = 0 + J 10 0 * J 2 4 + J 10 1 * J 2 13 + J 10 2 * J 2 22 ∧ J1 9 5 = 0 + J 10 0 * J 2 5 + J 10 1 * J 2 14 + J 10 2 * J 2 23 ∧ J1 9 6 = 0 + J 10 0 * J 2 6 + J 10 1 * J 2 15 + J 10 2 * J 2 24 ∧ J1 9 7 = 0 + J 10 0 * J 2 7 + J 10 1 * J 2 16 + J 10 2 * J 2 25 ∧ J1 9 8 = 0 + J 10 0 * J 2 8 + J 10 1 * J 2 17 + J 10 2 * J 2 26 ∧ ∀ q, q ≠ 9 → J1 q = J q) := by
  refine Con.of (by decide +kernel) rfl (Nat.le_of_ble_eq_true rfl) ?_
  refine bX7_acts_0 (v1 := nI 0) aJ_R10 (by decide) rfl ?_
  refine bX7_acts_2 aJ_R10 (by decide) (fun c => absurd c (by simp only [hn]; decide)) (fun _ => ?_)
  refine bX7_acts_10 (v11 := nI 0) aJ_R10 (by decide) rfl ?_
  refine bX7_acts_12 aJ_R10 (by decide) (fun c => absurd c (by simp only [hn]; decide)) (fun _ => ?_)
  refine bX7_acts_20 (v24 := nI 0) aJ_R10 (by decide) rfl rfl ?_
  refine bX7_acts_26 aJ_R10 (by decide) (fun c => absurd c (by simp only [hn]; decide)) (fun _ => ?_)
  refine bX7_acts_35 (j38 := 0) (j55 := 0) (v61 := nI 1) aJ_R10 (by decide) rfl (by decide) rfl (by decide) rfl rfl ?_
  refine bX7_acts_26 aJ_R10 (by decide) (fun c => absurd c (by simp only [hn]; decide)) (fun _ => ?_)
  refine bX7_acts_35 (j38 := 1) (j55 := 9) (v61 := nI 2) aJ_R10 (by decide) rfl (by decide) rfl (by decide) rfl rfl ?_
  refine bX7_acts_26 aJ_R10 (by decide) (fun c => absurd c (by simp only [hn]; decide)) (fun _ => ?_)
  refine bX7_acts_35 (j38 := 2) (j55 := 18) (v61 := nI 3) aJ_R10 (by decide) rfl (by decide) rfl (by decide) rfl rfl ?_
  refine bX7_acts_26 aJ_R10 (by decide) (fun _ => ?_) (fun c => absurd c (by simp only [hn]; decide))
  refine bX7_acts_67 (j75 := 0) (v79 := nI 1) aJ_R10 (by decide) rfl (by decide) rfl ?_
  refine bX7_acts_12 aJ_R10 (by decide) (fun c => absurd c (by simp only [hn]; decide)) (fun _ => ?_)
  refine bX7_acts_20 (v24 := nI 0) aJ_R10 (by decide) rfl rfl ?_
  refine bX7_acts_26 aJ_R10 (by decide) (fun c => absurd c (by simp only [hn]; decide)) (fun _ => ?_)
  refine bX7_acts_35 (j38 := 0) (j55 := 1) (v61 := nI 1) aJ_R10 (by decide) rfl (by decide) rfl (by decide) rfl rfl ?_
  refine bX7_acts_26 aJ_R10 (by decide) (fun c => absurd c (by simp only [hn]; decide)) (fun _ => ?_)
  refine bX7_acts_35 (j38 := 1) (j55 := 10) (v61 := nI 2) aJ_R10 (by decide) rfl (by decide) rfl (by decide) rfl rfl ?_
  refine bX7_acts_26 aJ_R10 (by decide) (fun c => absurd c (by simp only [hn]; decide)) (fun _ => ?_)
  refine bX7_acts_35 (j38 := 2) (j55 := 19) (v61 := nI 3) aJ_R10 (by decide) rfl (by decide) rfl (by decide) rfl rfl ?_
  refine bX7_acts_26 aJ_R10 (by decide) (fun _ => ?_) (fun c => absurd c (by simp only [hn]; decide))
  refine bX7_acts_67 (j75 := 1) (v79 := nI 2) aJ_R10 (by decide) rfl (by decide) rfl ?_
  refine bX7_acts_12 aJ_R10 (by decide) (fun c => absurd c (by simp only [hn]; decide)) (fun _ => ?_)
  refine bX7_acts_20 (v24 := nI 0) aJ_R10 (by decide) rfl rfl ?_
  refine bX7_acts_26 aJ_R10 (by decide) (fun c => absurd c (by simp only [hn]; decide)) (fun _ => ?_)
  refine bX7_acts_35 (j38 := 0) (j55 := 2) (v61 := nI 1) aJ_R10 (by decide) rfl (by decide) rfl (by decide) rfl rfl ?_
  refine bX7_acts_26 aJ_R10 (by decide) (fun c => absurd c (by simp only [hn]; decide)) (fun _ => ?_)
  refine bX7_acts_35 (j38 := 1) (j55 := 11) (v61 := nI 2) aJ_R10 (by decide) rfl (by decide) rfl (by decide) rfl rfl ?_
  refine bX7_acts_26 aJ_R10 (by decide) (fun c => absurd c (by simp only [hn]; decide)) (fun _ => ?_)
  refine bX7_acts_35 (j38 := 2) (j55 := 20) (v61 := nI 3) aJ_R10 (by decide) rfl (by decide) rfl (by decide) rfl rfl ?_
  refine bX7_acts_26 aJ_R10 (by decide) (fun _ => ?_) (fun c => absurd c (by simp only [hn]; decide))
  refine bX7_acts_67 (j75 := 2) (v79 := nI 3) aJ_R10 (by decide) rfl (by decide) rfl ?_
  refine bX7_acts_12 aJ_R10 (by decide) (fun _ => ?_) (fun c => absurd c (by simp only [hn]; decide))
  refine bX7_acts_85 (v85 := nI 1) aJ_R10 (by decide) rfl ?_
  refine bX7_acts_2 aJ_R10 (by decide) (fun c => absurd c (by simp only [hn]; decide)) (fun _ => ?_)
  refine bX7_acts_10 (v11 := nI 0) aJ_R10 (by decide) rfl ?_
  refine bX7_acts_12 aJ_R10 (by decide) (fun c => absurd c (by simp only [hn]; decide)) (fun _ => ?_)
  refine bX7_acts_20 (v24 := nI 0) aJ_R10 (by decide) rfl rfl ?_
  refine bX7_acts_26 aJ_R10 (by decide) (fun c => absurd c (by simp only [hn]; decide)) (fun _ => ?_)
  refine bX7_acts_35 (j38 := 0) (j55 := 3) (v61 := nI 1) aJ_R10 (by decide) rfl (by decide) rfl (by decide) rfl rfl ?_
  refine bX7_acts_26 aJ_R10 (by decide) (fun c => absurd c (by simp only [hn]; decide)) (fun _ => ?_)
  refine bX7_acts_35 (j38 := 1) (j55 := 12) (v61 := nI 2) aJ_R10 (by decide) rfl (by decide) rfl (by decide) rfl rfl ?_
  refine bX7_acts_26 aJ_R10 (by decide) (fun c => absurd c (by simp only [hn]; decide)) (fun _ => ?_)
  refine bX7_acts_35 (j38 := 2) (j55 := 21) (v61 := nI 3) aJ_R10 (by decide) rfl (by decide) rfl (by decide) rfl rfl ?_
  refine bX7_acts_26 aJ_R10 (by decide) (fun _ => ?_) (fun c => absurd c (by simp only [hn]; decide))
  refine bX7_acts_67 (j75 := 3) (v79 := nI 1) aJ_R10 (by decide) rfl (by decide) rfl ?_
  refine bX7_acts_12 aJ_R10 (by decide) (fun c => absurd c (by simp only [hn]; decide)) (fun _ => ?_)
  refine bX7_acts_20 (v24 := nI 0) aJ_R10 (by decide) rfl rfl ?_
  refine bX7_acts_26 aJ_R10 (by decide) (fun c => absurd c (by simp only [hn]; decide)) (fun _ => ?_)
  refine bX7_acts_35 (j38 := 0) (j55 := 4) (v61 := nI 1) aJ_R10 (by decide) rfl (by decide) rfl (by decide) rfl rfl ?_
  refine bX7_acts_26 aJ_R10 (by decide) (fun c => absurd c (by simp only [hn]; decide)) (fun _ => ?_)
  refine bX7_acts_35 (j38 := 1) (j55 := 13) (v61 := nI 2) aJ_R10 (by decide) rfl (by decide) rfl (by decide) rfl rfl ?_
  refine bX7_acts_26 aJ_R10 (by decide) (fun c => absurd c (by simp only [hn]; decide)) (fun _ => ?_)
  refine bX7_acts_35 (j38 := 2) (j55 := 22) (v61 := nI 3) aJ_R10 (by decide) rfl (by decide) rfl (by decide) rfl rfl ?_
  refine bX7_acts_26 aJ_R10 (by decide) (fun _ => ?_) (fun c => absurd c (by simp only [hn]; decide))
  refine bX7_acts_67 (j75 := 4) (v79 := nI 2) aJ_R10 (by decide) rfl (by decide) rfl ?_
  refine bX7_acts_12 aJ_R10 (by decide) (fun c => absurd c (by simp only [hn]; decide)) (fun _ => ?_)
  refine bX7_acts_20 (v24 := nI 0) aJ_R10 (by decide) rfl rfl ?_
  refine bX7_acts_26 aJ_R10 (by decide) (fun c => absurd c (by simp only [hn]; decide)) (fun _ => ?_)
  refine bX7_acts_35 (j38 := 0) (j55 := 5) (v61 := nI 1) aJ_R10 (by decide) rfl (by decide) rfl (by decide) rfl rfl ?_
  refine bX7_acts_26 aJ_R10 (by decide) (fun c => absurd c (by simp only [hn]; decide)) (fun _ => ?_)
  refine bX7_acts_35 (j38 := 1) (j55 := 14) (v61 := nI 2) aJ_R10 (by decide) rfl (by decide) rfl (by decide) rfl rfl ?_
  refine bX7_acts_26 aJ_R10 (by decide) (fun c => absurd c (by simp only [hn]; decide)) (fun _ => ?_)
  refine bX7_acts_35 (j38 := 2) (j55 := 23) (v61 := nI 3) aJ_R10 (by decide) rfl (by decide) rfl (by decide) rfl rfl ?_
  refine bX7_acts_26 aJ_R10 (by decide) (fun _ => ?_) (fun c => absurd c (by simp only [hn]; decide))
  refine bX7_acts_67 (j75 := 5) (v79 := nI 3) aJ_R10 (by decide) rfl (by decide) rfl ?_
  refine bX7_acts_12 aJ_R10 (by decide) (fun _ => ?_) (fun c => absurd c (by simp only [hn]; decide))
  refine bX7_acts_85 (v85 := nI 2) aJ_R10 (by decide) rfl ?_
  refine bX7_acts_2 aJ_R10 (by decide) (fun c => absurd c (by simp only [hn]; decide)) (fun _ => ?_)
  refine bX7_acts_10 (v11 := nI 0) aJ_R10 (by decide) rfl ?_
  refine bX7_acts_12 aJ_R10 (by decide) (fun c => absurd c (by simp only [hn]; decide)) (fun _ => ?_)
  refine bX7_acts_20 (v24 := nI 0) aJ_R10 (by decide) rfl rfl ?_
  refine bX7_acts_26 aJ_R10 (by decide) (fun c => absurd c (by simp only [hn]; decide)) (fun _ => ?_)
  refine bX7_acts_35 (j38 := 0) (j55 := 6) (v61 := nI 1) aJ_R10 (by decide) rfl (by decide) rfl (by decide) rfl rfl ?_
  refine bX7_acts_26 aJ_R10 (by decide) (fun c => absurd c (by simp only [hn]; decide)) (fun _ => ?_)
  refine bX7_acts_35 (j38 := 1) (j55 := 15) (v61 := nI 2) aJ_R10 (by decide) rfl (by decide) rfl (by decide) rfl rfl ?_
  refine bX7_acts_26 aJ_R10 (by decide) (fun c => absurd c (by simp only [hn]; decide)) (fun _ => ?_)
  refine bX7_acts_35 (j38 := 2) (j55 := 24) (v61 := nI 3) aJ_R10 (by decide) rfl (by decide) rfl (by decide) rfl rfl ?_
  refine bX7_acts_26 aJ_R10 (by decide) (fun _ => ?_) (fun c => absurd c (by simp only [hn]; decide))
  refine bX7_acts_67 (j75 := 6) (v79 := nI 1) aJ_R10 (by decide) rfl (by decide) rfl ?_
  refine bX7_acts_12 aJ_R10 (by decide) (fun c => absurd c (by simp only [hn]; decide)) (fun _ => ?_)
  refine bX7_acts_20 (v24 := nI 0) aJ_R10 (by decide) rfl rfl ?_
  refine bX7_acts_26 aJ_R10 (by decide) (fun c => absurd c (by simp only [hn]; decide)) (fun _ => ?_)
  refine bX7_acts_35 (j38 := 0) (j55 := 7) (v61 := nI 1) aJ_R10 (by decide) rfl (by decide) rfl (by decide) rfl rfl ?_
  refine bX7_acts_26 aJ_R10 (by decide) (fun c => absurd c (by simp only [hn]; decide)) (fun _ => ?_)
  refine bX7_acts_35 (j38 := 1) (j55 := 16) (v61 := nI 2) aJ_R10 (by decide) rfl (by decide) rfl (by decide) rfl rfl ?_
  refine bX7_acts_26 aJ_R10 (by decide) (fun c => absurd c (by simp only [hn]; decide)) (fun _ => ?_)
  refine bX7_acts_35 (j38 := 2) (j55 := 25) (v61 := nI 3) aJ_R10 (by decide) rfl (by decide) rfl (by decide) rfl rfl ?_
  refine bX7_acts_26 aJ_R10 (by decide) (fun _ => ?_) (fun c => absurd c (by simp only [hn]; decide))
  refine bX7_acts_67 (j75 := 7) (v79 := nI 2) aJ_R10 (by decide) rfl (by decide) rfl ?_
  refine bX7_acts_12 aJ_R10 (by decide) (fun c => absurd c (by simp only [hn]; decide)) (fun _ => ?_)
  refine bX7_acts_20 (v24 := nI 0) aJ_R10 (by decide) rfl rfl ?_
  refine bX7_acts_26 aJ_R10 (by decide) (fun c => absurd c (by simp only [hn]; decide)) (fun _ => ?_)
  refine bX7_acts_35 (j38 := 0) (j55 := 8) (v61 := nI 1) aJ_R10 (by decide) rfl (by decide) rfl (by decide) rfl rfl ?_
  refine bX7_acts_26 aJ_R10 (by decide) (fun c => absurd c (by simp only [hn]; decide)) (fun _ => ?_)
  refine bX7_acts_35 (j38 := 1) (j55 := 17) (v61 := nI 2) aJ_R10 (by decide) rfl (by decide) rfl (by decide) rfl rfl ?_
  refine bX7_acts_26 aJ_R10 (by decide) (fun c => absurd c (by simp only [hn]; decide)) (fun _ => ?_)
  refine bX7_acts_35 (j38 := 2) (j55 := 26) (v61 := nI 3) aJ_R10 (by decide) rfl (by decide) rfl (by decide) rfl rfl ?_
  refine bX7_acts_26 aJ_R10 (by decide) (fun _ => ?_) (fun c => absurd c (by simp only [hn]; decide))
  refine bX7_acts_67 (j75 := 8) (v79 := nI 3) aJ_R10 (by decide) rfl (by decide) rfl ?_
  refine bX7_acts_12 aJ_R10 (by decide) (fun _ => ?_) (fun c => absurd c (by simp only [hn]; decide))
  refine bX7_acts_85 (v85 := nI 3) aJ_R10 (by decide) rfl ?_
  refine bX7_acts_2 aJ_R10 (by decide) (fun _ => ?_) (fun c => absurd c (by simp only [hn]; decide))
  exact bX7_acts_91  ⟨rfl, rfl, rfl, rfl, rfl, rfl, rfl, rfl, rfl, rfl, rfl, fun q h => by simp only [sa_uJ_ne h]⟩
theorem c_acts3_11 (hn : I 0 1 = nI 3) : Con (ER l D aI aL ad) M_X7_acts yX7_acts [.ref (ad 0), .ref (ad 11)] I J (fun r I1 J1 => r = none ∧ I1 = I ∧ J1 9 0 = 0 + J 11 0 * J 2 0 + J 11 1 * J 2 9 + J 11 2 * J 2 18 ∧ J1 9 1 = 0 + J 11 0 * J 2 1 + J 11 1 * J 2 10 + J 11 2 * J 2 19 ∧ J1 9 2 = 0 + J 11 0 * J 2 2 + J 11 1 * J 2 11 + J 11 2 * J 2 20 ∧ J1 9 3 = 0 + J 11 0 * J 2 3 + J 11 1 * J 2 12 + J 11 2 * J 2 21 ∧ J1 9 4 = 0 + J 11 0 * J 2 4 + J 11 1 * J 2 13 + J 11 2 * J 2 22 ∧ J1 9 5 = 0 + J 11 0 * J 2 5 + J 11 1 * J 2 14 + J 11 2 * J 2 23 ∧ J1 9 6 = 0 + J 11 0 * J 2 6 + J 11 1 * J 2 15 + J 11 2 * J 2 24 ∧ J1 9 7 = 0 + J 11 0 * J 2 7 + J 11 1 * J 2 16 + J 11 2 * J 2 25 ∧ J1 9 8 = 0 + J 11 0 * J 2 8 + J 11 1 * J 2 17 + J 11 2 * J 2 26 ∧ ∀ q, q ≠ 9 → J1 q = J q) := by
  refine Con.of (by decide +kernel) rfl (Nat.le_of_ble_eq_true rfl) ?_
  refine bX7_acts_0 (v1 := nI 0) aJ_R11 (by decide) rfl ?_
  refine bX7_acts_2 aJ_R11 (by decide) (fun c => absurd c (by simp only [hn]; decide)) (fun _ => ?_)
  refine bX7_acts_10 (v11 := nI 0) aJ_R11 (by decide) rfl ?_
  refine bX7_acts_12 aJ_R11 (by decide) (fun c => absurd c (by simp only [hn]; decide)) (fun _ => ?_)
  refine bX7_acts_20 (v24 := nI 0) aJ_R11 (by decide) rfl rfl ?_
  refine bX7_acts_26 aJ_R11 (by decide) (fun c => absurd c (by simp only [hn]; decide)) (fun _ => ?_)
  refine bX7_acts_35 (j38 := 0) (j55 := 0) (v61 := nI 1) aJ_R11 (by decide) rfl (by decide) rfl (by decide) rfl rfl ?_
  refine bX7_acts_26 aJ_R11 (by decide) (fun c => absurd c (by simp only [hn]; decide)) (fun _ => ?_)
  refine bX7_acts_35 (j38 := 1) (j55 := 9) (v61 := nI 2) aJ_R11 (by decide) rfl (by decide) rfl (by decide) rfl rfl ?_
  refine bX7_acts_26 aJ_R11 (by decide) (fun c => absurd c (by simp only [hn]; decide)) (fun _ => ?_)
  refine bX7_acts_35 (j38 := 2) (j55 := 18) (v61 := nI 3) aJ_R11 (by decide) rfl (by decide) rfl (by decide) rfl rfl ?_
  refine bX7_acts_26 aJ_R11 (by decide) (fun _ => ?_) (fun c => absurd c (by simp only [hn]; decide))
  refine bX7_acts_67 (j75 := 0) (v79 := nI 1) aJ_R11 (by decide) rfl (by decide) rfl ?_
  refine bX7_acts_12 aJ_R11 (by decide) (fun c => absurd c (by simp only [hn]; decide)) (fun _ => ?_)
  refine bX7_acts_20 (v24 := nI 0) aJ_R11 (by decide) rfl rfl ?_
  refine bX7_acts_26 aJ_R11 (by decide) (fun c => absurd c (by simp only [hn]; decide)) (fun _ => ?_)
  refine bX7_acts_35 (j38 := 0) (j55 := 1) (v61 := nI 1) aJ_R11 (by decide) rfl (by decide) rfl (by decide) rfl rfl ?_
  refine bX7_acts_26 aJ_R11 (by decide) (fun c => absurd c (by simp only [hn]; decide)) (fun _ => ?_)
  refine bX7_acts_35 (j38 := 1) (j55 := 10) (v61 := nI 2) aJ_R11 (by decide) rfl (by decide) rfl (by decide) rfl rfl ?_
  refine bX7_acts_26 aJ_R11 (by decide) (fun c => absurd c (by simp only [hn]; decide)) (fun _ => ?_)
  refine bX7_acts_35 (j38 := 2) (j55 := 19) (v61 := nI 3) aJ_R11 (by decide) rfl (by decide) rfl (by decide) rfl rfl ?_
  refine bX7_acts_26 aJ_R11 (by decide) (fun _ => ?_) (fun c => absurd c (by simp only [hn]; decide))
  refine bX7_acts_67 (j75 := 1) (v79 := nI 2) aJ_R11 (by decide) rfl (by decide) rfl ?_
  refine bX7_acts_12 aJ_R11 (by decide) (fun c => absurd c (by simp only [hn]; decide)) (fun _ => ?_)
  refine bX7_acts_20 (v24 := nI 0) aJ_R11 (by decide) rfl rfl ?_
  refine bX7_acts_26 aJ_R11 (by decide) (fun c => absurd c (by simp only [hn]; decide)) (fun _ => ?_)
  refine bX7_acts_35 (j38 := 0) (j55 := 2) (v61 := nI 1) aJ_R11 (by decide) rfl (by decide) rfl (by decide) rfl rfl ?_
  refine bX7_acts_26 aJ_R11 (by decide) (fun c => absurd c (by simp only [hn]; decide)) (fun _ => ?_)
  refine bX7_acts_35 (j38 := 1) (j55 := 11) (v61 := nI 2) aJ_R11 (by decide) rfl (by decide) rfl (by decide) rfl rfl ?_
  refine bX7_acts_26 aJ_R11 (by decide) (fun c => absurd c (by simp only [hn]; decide)) (fun _ => ?_)
  refine bX7_acts_35 (j38 := 2) (j55 := 20) (v61 := nI 3) aJ_R11 (by decide) rfl (by decide) rfl (by decide) rfl rfl ?_
  refine bX7_acts_26 aJ_R11 (by decide) (fun _ => ?_) (fun c => absurd c (by simp only [hn]; decide))
  refine bX7_acts_67 (j75 := 2) (v79 := nI 3) aJ_R11 (by decide) rfl (by decide) rfl ?_
  refine bX7_acts_12 aJ_R11 (by decide) (fun _ => ?_) (fun c => absurd c (by simp only [hn]; decide))
  refine bX7_acts_85 (v85 := nI 1) aJ_R11 (by decide) rfl ?_
  refine bX7_acts_2 aJ_R11 (by decide) (fun c => absurd c (by simp only [hn]; decide)) (fun _ => ?_)
  refine bX7_acts_10 (v11 := nI 0) aJ_R11 (by decide) rfl ?_
  refine bX7_acts_12 aJ_R11 (by decide) (fun c => absurd c (by simp only [hn]; decide)) (fun _ => ?_)
  refine bX7_acts_20 (v24 := nI 0) aJ_R11 (by decide) rfl rfl ?_
  refine bX7_acts_26 aJ_R11 (by decide) (fun c => absurd c (by simp only [hn]; decide)) (fun _ => ?_)
  refine bX7_acts_35 (j38 := 0) (j55 := 3) (v61 := nI 1) aJ_R11 (by decide) rfl (by decide) rfl (by decide) rfl rfl ?_
  refine bX7_acts_26 aJ_R11 (by decide) (fun c => absurd c (by simp only [hn]; decide)) (fun _ => ?_)
  refine bX7_acts_35 (j38 := 1) (j55 := 12) (v61 := nI 2) aJ_R11 (by decide) rfl (by decide) rfl (by decide) rfl rfl ?_
  refine bX7_acts_26 aJ_R11 (by decide) (fun c => absurd c (by simp only [hn]; decide)) (fun _ => ?_)
  refine bX7_acts_35 (j38 := 2) (j55 := 21) (v61 := nI 3) aJ_R11 (by decide) rfl (by decide) rfl (by decide) rfl rfl ?_
  refine bX7_acts_26 aJ_R11 (by decide) (fun _ => ?_) (fun c => absurd c (by simp only [hn]; decide))
  refine bX7_acts_67 (j75 := 3) (v79 := nI 1) aJ_R11 (by decide) rfl (by decide) rfl ?_
  refine bX7_acts_12 aJ_R11 (by decide) (fun c => absurd c (by simp only [hn]; decide)) (fun _ => ?_)
  refine bX7_acts_20 (v24 := nI 0) aJ_R11 (by decide) rfl rfl ?_
  refine bX7_acts_26 aJ_R11 (by decide) (fun c => absurd c (by simp only [hn]; decide)) (fun _ => ?_)
  refine bX7_acts_35 (j38 := 0) (j55 := 4) (v61 := nI 1) aJ_R11 (by decide) rfl (by decide) rfl (by decide) rfl rfl ?_
  refine bX7_acts_26 aJ_R11 (by decide) (fun c => absurd c (by simp only [hn]; decide)) (fun _ => ?_)
  refine bX7_acts_35 (j38 := 1) (j55 := 13) (v61 := nI 2) aJ_R11 (by decide) rfl (by decide) rfl (by decide) rfl rfl ?_
  refine bX7_acts_26 aJ_R11 (by decide) (fun c => absurd c (by simp only [hn]; decide)) (fun _ => ?_)
  refine bX7_acts_35 (j38 := 2) (j55 := 22) (v61 := nI 3) aJ_R11 (by decide) rfl (by decide) rfl (by decide) rfl rfl ?_
  refine bX7_acts_26 aJ_R11 (by decide) (fun _ => ?_) (fun c => absurd c (by simp only [hn]; decide))
  refine bX7_acts_67 (j75 := 4) (v79 := nI 2) aJ_R11 (by decide) rfl (by decide) rfl ?_
  refine bX7_acts_12 aJ_R11 (by decide) (fun c => absurd c (by simp only [hn]; decide)) (fun _ => ?_)
  refine bX7_acts_20 (v24 := nI 0) aJ_R11 (by decide) rfl rfl ?_
  refine bX7_acts_26 aJ_R11 (by decide) (fun c => absurd c (by simp only [hn]; decide)) (fun _ => ?_)
  refine bX7_acts_35 (j38 := 0) (j55 := 5) (v61 := nI 1) aJ_R11 (by decide) rfl (by decide) rfl (by decide) rfl rfl ?_
  refine bX7_acts_26 aJ_R11 (by decide) (fun c => absurd c (by simp only [hn]; decide)) (fun _ => ?_)
  refine bX7_acts_35 (j38 := 1) (j55 := 14) (v61 := nI 2) aJ_R11 (by decide) rfl (by decide) rfl (by decide) rfl rfl ?_
  refine bX7_acts_26 aJ_R11 (by decide) (fun c => absurd c (by simp only [hn]; decide)) (fun _ => ?_)
  refine bX7_acts_35 (j38 := 2) (j55 := 23) (v61 := nI 3) aJ_R11 (by decide) rfl (by decide) rfl (by decide) rfl rfl ?_
  refine bX7_acts_26 aJ_R11 (by decide) (fun _ => ?_) (fun c => absurd c (by simp only [hn]; decide))
  refine bX7_acts_67 (j75 := 5) (v79 := nI 3) aJ_R11 (by decide) rfl (by decide) rfl ?_
  refine bX7_acts_12 aJ_R11 (by decide) (fun _ => ?_) (fun c => absurd c (by simp only [hn]; decide))
  refine bX7_acts_85 (v85 := nI 2) aJ_R11 (by decide) rfl ?_
  refine bX7_acts_2 aJ_R11 (by decide) (fun c => absurd c (by simp only [hn]; decide)) (fun _ => ?_)
  refine bX7_acts_10 (v11 := nI 0) aJ_R11 (by decide) rfl ?_
  refine bX7_acts_12 aJ_R11 (by decide) (fun c => absurd c (by simp only [hn]; decide)) (fun _ => ?_)
  refine bX7_acts_20 (v24 := nI 0) aJ_R11 (by decide) rfl rfl ?_
  refine bX7_acts_26 aJ_R11 (by decide) (fun c => absurd c (by simp only [hn]; decide)) (fun _ => ?_)
  refine bX7_acts_35 (j38 := 0) (j55 := 6) (v61 := nI 1) aJ_R11 (by decide) rfl (by decide) rfl (by decide) rfl rfl ?_
  refine bX7_acts_26 aJ_R11 (by decide) (fun c => absurd c (by simp only [hn]; decide)) (fun _ => ?_)
  refine bX7_acts_35 (j38 := 1) (j55 := 15) (v61 := nI 2) aJ_R11 (by decide) rfl (by decide) rfl (by decide) rfl rfl ?_
  refine bX7_acts_26 aJ_R11 (by decide) (fun c => absurd c (by simp only [hn]; decide)) (fun _ => ?_)
  refine bX7_acts_35 (j38 := 2) (j55 := 24) (v61 := nI 3) aJ_R11 (by decide) rfl (by decide) rfl (by decide) rfl rfl ?_
  refine bX7_acts_26 aJ_R11 (by decide) (fun _ => ?_) (fun c => absurd c (by simp only [hn]; decide))
  refine bX7_acts_67 (j75 := 6) (v79 := nI 1) aJ_R11 (by decide) rfl (by decide) rfl ?_
  refine bX7_acts_12 aJ_R11 (by decide) (fun c => absurd c (by simp only [hn]; decide)) (fun _ => ?_)
  refine bX7_acts_20 (v24 := nI 0) aJ_R11 (by decide) rfl rfl ?_
  refine bX7_acts_26 aJ_R11 (by decide) (fun c => absurd c (by simp only [hn]; decide)) (fun _ => ?_)
  refine bX7_acts_35 (j38 := 0) (j55 := 7) (v61 := nI 1) aJ_R11 (by decide) rfl (by decide) rfl (by decide) rfl rfl ?_
  refine bX7_acts_26 aJ_R11 (by decide) (fun c => absurd c (by simp only [hn]; decide)) (fun _ => ?_)
  refine bX7_acts_35 (j38 := 1) (j55 := 16) (v61 := nI 2) aJ_R11 (by decide) rfl (by decide) rfl (by decide) rfl rfl ?_
  refine bX7_acts_26 aJ_R11 (by decide) (fun c => absurd c (by simp only [hn]; decide)) (fun _ => ?_)
  refine bX7_acts_35 (j38 := 2) (j55 := 25) (v61 := nI 3) aJ_R11 (by decide) rfl (by decide) rfl (by decide) rfl rfl ?_
  refine bX7_acts_26 aJ_R11 (by decide) (fun _ => ?_) (fun c => absurd c (by simp only [hn]; decide))
  refine bX7_acts_67 (j75 := 7) (v79 := nI 2) aJ_R11 (by decide) rfl (by decide) rfl ?_
  refine bX7_acts_12 aJ_R11 (by decide) (fun c => absurd c (by simp only [hn]; decide)) (fun _ => ?_)
  refine bX7_acts_20 (v24 := nI 0) aJ_R11 (by decide) rfl rfl ?_
  refine bX7_acts_26 aJ_R11 (by decide) (fun c => absurd c (by simp only [hn]; decide)) (fun _ => ?_)
  refine bX7_acts_35 (j38 := 0) (j55 := 8) (v61 := nI 1) aJ_R11 (by decide) rfl (by decide) rfl (by decide) rfl rfl ?_
  refine bX7_acts_26 aJ_R11 (by decide) (fun c => absurd c (by simp only [hn]; decide)) (fun _ => ?_)
  refine bX7_acts_35 (j38 := 1) (j55 := 17) (v61 := nI 2) aJ_R11 (by decide) rfl (by decide) rfl (by decide) rfl rfl ?_
  refine bX7_acts_26 aJ_R11 (by decide) (fun c => absurd c (by simp only [hn]; decide)) (fun _ => ?_)
  refine bX7_acts_35 (j38 := 2) (j55 := 26) (v61 := nI 3) aJ_R11 (by decide) rfl (by decide) rfl (by decide) rfl rfl ?_
  refine bX7_acts_26 aJ_R11 (by decide) (fun _ => ?_) (fun c => absurd c (by simp only [hn]; decide))
  refine bX7_acts_67 (j75 := 8) (v79 := nI 3) aJ_R11 (by decide) rfl (by decide) rfl ?_
  refine bX7_acts_12 aJ_R11 (by decide) (fun _ => ?_) (fun c => absurd c (by simp only [hn]; decide))
  refine bX7_acts_85 (v85 := nI 3) aJ_R11 (by decide) rfl ?_
  refine bX7_acts_2 aJ_R11 (by decide) (fun _ => ?_) (fun c => absurd c (by simp only [hn]; decide))
  exact bX7_acts_91  ⟨rfl, rfl, rfl, rfl, rfl, rfl, rfl, rfl, rfl, rfl, rfl, fun q h => by simp only [sa_uJ_ne h]⟩
end RP
