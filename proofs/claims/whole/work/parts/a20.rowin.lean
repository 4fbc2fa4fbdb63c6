section RI
variable {l : Launch} {D : va_G} {aI aL : ClassId} {ad : Nat → Nat} {P : sa_P} {I : sa_I} {J : sa_J}
theorem c_row6 {n ni : Nat} {x y z : Int} (hn : I 4 0 = nI n) (h0 : n = 2 ∨ n = 3) (hni : I 0 9 = nI ni) (h80 : ni ≤ 80) (hx : rgi x) (hy : rgi y) (hz : rgi z) : Con (EC l D aI aL ad) M_X6_row yX6_row [.ref (ad 0), .int (iI x), .int (iI y), .int (iI z)] I J (orP (0 ≤ x ∧ x < ni ∧ 0 ≤ y ∧ y < n ∧ 0 ≤ z ∧ z < n) ((J 3 (9 * x.toNat + 3 * y.toNat + z.toNat)).toInt32) (-1) 1 I J) := by
  refine Con.of (by decide +kernel) rfl (Nat.le_of_ble_eq_true rfl) ?_
  have hnz : ¬ I 4 0 = 0 := by rw [hn]; rcases h0 with rfl | rfl <;> decide
  have hm : n < 2 ^ 31 := by omega
  have no : ¬ (0 ≤ x ∧ x < ni ∧ 0 ≤ y ∧ y < n ∧ 0 ≤ z ∧ z < n) → Sat (EC l D aI aL ad) M_X6_row (orP (0 ≤ x ∧ x < ni ∧ 0 ≤ y ∧ y < n ∧ 0 ≤ z ∧ z < n) ((J 3 (9 * x.toNat + 3 * y.toNat + z.toNat)).toInt32) (-1) 1 I J) 41 [(0, .ref (ad 0))] [] I J := by
    intro h
    refine bX6_row_41 ?_
    refine v_X6_59 dX6_row_43 rfl ⟨rfl, rfl, Nat.le_of_ble_eq_true rfl, Nat.le_of_ble_eq_true rfl⟩ (c_refused 1 (by decide) rfl) rfl rfl (Nat.le_of_ble_eq_true rfl) (fun r I1 J1 hp => ?_)
    obtain ⟨rfl, rfl, rfl⟩ := hp
    exact bX6_row_46 (orP_f h)
  refine bX6_row_0 (fun _ => bX6_row_17 ?_) (fun c => absurd c hnz)
  refine v_X6_172 dX6_row_19 rfl ⟨rfl, rfl, Nat.le_of_ble_eq_true rfl, Nat.le_of_ble_eq_true rfl⟩ (c_isIdeal6) rfl rfl (Nat.le_of_ble_eq_true rfl) (fun r I1 J1 hp => ?_)
  obtain ⟨rfl, e2, e3⟩ := hp
  obtain rfl := e2.symm
  obtain rfl := e3.symm
  rw [hni, inB_I hx (m := ni) (by omega)]
  by_cases cx : 0 ≤ x ∧ x < ni
  rotate_left
  · rw [if_neg cx]; exact bX6_row_22 (fun _ => no (fun h => cx ⟨h.1, h.2.1⟩)) (fun c => absurd rfl c)
  rw [if_pos cx]
  refine bX6_row_22 (fun c => absurd c (by decide)) (fun _ => bX6_row_25 ?_)
  refine v_X6_106 dX6_row_27 rfl ⟨rfl, rfl, Nat.le_of_ble_eq_true rfl, Nat.le_of_ble_eq_true rfl⟩ (c_isPlace6) rfl rfl (Nat.le_of_ble_eq_true rfl) (fun r I1 J1 hp => ?_)
  obtain ⟨rfl, e2, e3⟩ := hp
  obtain rfl := e2.symm
  obtain rfl := e3.symm
  rw [hn, inB_I hy hm]
  by_cases cy : 0 ≤ y ∧ y < n
  rotate_left
  · rw [if_neg cy]; exact bX6_row_30 (fun _ => no (fun h => cy ⟨h.2.2.1, h.2.2.2.1⟩)) (fun c => absurd rfl c)
  rw [if_pos cy]
  refine bX6_row_30 (fun c => absurd c (by decide)) (fun _ => bX6_row_33 ?_)
  refine v_X6_106 dX6_row_35 rfl ⟨rfl, rfl, Nat.le_of_ble_eq_true rfl, Nat.le_of_ble_eq_true rfl⟩ (c_isPlace6) rfl rfl (Nat.le_of_ble_eq_true rfl) (fun r I1 J1 hp => ?_)
  obtain ⟨rfl, e2, e3⟩ := hp
  obtain rfl := e2.symm
  obtain rfl := e3.symm
  rw [hn, inB_I hz hm]
  by_cases cz : 0 ≤ z ∧ z < n
  rotate_left
  · rw [if_neg cz]; exact bX6_row_38 (fun c => absurd rfl c) (fun _ => no (fun h => cz h.2.2.2.2))
  rw [if_pos cz]
  refine bX6_row_38 (fun _ => ?_) (fun c => absurd c (by decide))
  rw [iI_nat cx.1, iI_nat cy.1, iI_nat cz.1]
  exact bX6_row_47 (j60 := 9 * x.toNat + 3 * y.toNat + z.toNat) (by simp only [nI_lit, nI_mulE, nI_addE]) (by omega) (orP_t ⟨cx.1, cx.2, cy.1, cy.2, cz.1, cz.2⟩)
theorem c_row7 {n ni : Nat} {x y z : Int} (hn : I 0 1 = nI n) (h0 : n = 2 ∨ n = 3) (hni : I 0 14 = nI ni) (h80 : ni ≤ 80) (hx : rgi x) (hy : rgi y) (hz : rgi z) : Con (ER l D aI aL ad) M_X7_row yX7_row [.ref (ad 0), .int (iI x), .int (iI y), .int (iI z)] I J (orP (0 ≤ x ∧ x < ni ∧ 0 ≤ y ∧ y < n ∧ 0 ≤ z ∧ z < n) (I 4 (9 * x.toNat + 3 * y.toNat + z.toNat)) (-1) 1 I J) := by
  refine Con.of (by decide +kernel) rfl (Nat.le_of_ble_eq_true rfl) ?_
  have hnz : ¬ I 0 1 ≤ 0 := by rw [hn]; rcases h0 with rfl | rfl <;> decide
  have hm : n < 2 ^ 31 := by omega
  have no : ¬ (0 ≤ x ∧ x < ni ∧ 0 ≤ y ∧ y < n ∧ 0 ≤ z ∧ z < n) → Sat (ER l D aI aL ad) M_X7_row (orP (0 ≤ x ∧ x < ni ∧ 0 ≤ y ∧ y < n ∧ 0 ≤ z ∧ z < n) (I 4 (9 * x.toNat + 3 * y.toNat + z.toNat)) (-1) 1 I J) 62 [(0, .ref (ad 0))] [] I J := by
    intro h
    refine bX7_row_62 ?_
    refine v_X7_84 dX7_row_64 rfl ⟨rfl, rfl, Nat.le_of_ble_eq_true rfl, Nat.le_of_ble_eq_true rfl⟩ (c_refuse 1 (by decide) rfl) rfl rfl (Nat.le_of_ble_eq_true rfl) (fun r I1 J1 hp => ?_)
    obtain ⟨rfl, rfl, rfl⟩ := hp
    exact bX7_row_67 (orP_f h)
  refine bX7_row_0 ?_
  refine v_X7_203 dX7_row_1 rfl ⟨rfl, rfl, Nat.le_of_ble_eq_true rfl, Nat.le_of_ble_eq_true rfl⟩ (c_isField) rfl rfl (Nat.le_of_ble_eq_true rfl) (fun r I1 J1 hp => ?_)
  obtain ⟨rfl, e2, e3⟩ := hp
  obtain rfl := e2.symm
  obtain rfl := e3.symm
  rw [if_neg hnz]
  refine bX7_row_4 (fun _ => bX7_row_14 ?_) (fun c => absurd c (by decide))
  refine v_X7_282 dX7_row_16 rfl ⟨rfl, rfl, Nat.le_of_ble_eq_true rfl, Nat.le_of_ble_eq_true rfl⟩ (c_isIdeal7) rfl rfl (Nat.le_of_ble_eq_true rfl) (fun r I1 J1 hp => ?_)
  obtain ⟨rfl, e2, e3⟩ := hp
  obtain rfl := e2.symm
  obtain rfl := e3.symm
  rw [hni, inB_I hx (m := ni) (by omega)]
  by_cases cx : 0 ≤ x ∧ x < ni
  rotate_left
  · rw [if_neg cx]; exact bX7_row_19 (fun _ => no (fun h => cx ⟨h.1, h.2.1⟩)) (fun c => absurd rfl c)
  rw [if_pos cx]
  refine bX7_row_19 (fun c => absurd c (by decide)) (fun _ => bX7_row_22 ?_)
  refine v_X7_210 dX7_row_27 rfl ⟨rfl, rfl, Nat.le_of_ble_eq_true rfl, Nat.le_of_ble_eq_true rfl⟩ (c_isIn) rfl rfl (Nat.le_of_ble_eq_true rfl) (fun r I1 J1 hp => ?_)
  obtain ⟨rfl, e2, e3⟩ := hp
  obtain rfl := e2.symm
  obtain rfl := e3.symm
  rw [hn, inB_I hy hm]
  by_cases cy : 0 ≤ y ∧ y < n
  rotate_left
  · rw [if_neg cy]; exact bX7_row_30 (fun _ => no (fun h => cy ⟨h.2.2.1, h.2.2.2.1⟩)) (fun c => absurd rfl c)
  rw [if_pos cy]
  refine bX7_row_30 (fun c => absurd c (by decide)) (fun _ => bX7_row_33 ?_)
  refine v_X7_210 dX7_row_38 rfl ⟨rfl, rfl, Nat.le_of_ble_eq_true rfl, Nat.le_of_ble_eq_true rfl⟩ (c_isIn) rfl rfl (Nat.le_of_ble_eq_true rfl) (fun r I1 J1 hp => ?_)
  obtain ⟨rfl, e2, e3⟩ := hp
  obtain rfl := e2.symm
  obtain rfl := e3.symm
  rw [hn, inB_I hz hm]
  by_cases cz : 0 ≤ z ∧ z < n
  rotate_left
  · rw [if_neg cz]; exact bX7_row_41 (fun _ => no (fun h => cz h.2.2.2.2)) (fun c => absurd rfl c)
  rw [if_pos cz]
  refine bX7_row_41 (fun c => absurd c (by decide)) (fun _ => ?_)
  rw [iI_nat cx.1, iI_nat cy.1, iI_nat cz.1]
  refine bX7_row_44 (j57 := 9 * x.toNat + 3 * y.toNat + z.toNat) (by simp only [nI_lit, nI_mulE, nI_addE]) (by omega) ?_
  exact bX7_row_67 (orP_t ⟨cx.1, cx.2, cy.1, cy.2, cz.1, cz.2⟩)
/-- an answer yes or no, or a refusal -/
def ynC (c : Prop) [Decidable c] (S : Prop) (I : sa_I) (J : sa_J) : sa_P := fun r I1 J1 => if c then bP S r ∧ I1 = I ∧ SC J J1 else r = some (.int (-1)) ∧ I1 = rf I 1 ∧ J1 = J
def ynR (c : Prop) [Decidable c] (S : Prop) (I : sa_I) (J : sa_J) : sa_P := fun r I1 J1 => if c then bP S r ∧ I1 = I ∧ SR J J1 else r = some (.int (-1)) ∧ I1 = rf I 1 ∧ J1 = J
theorem c_in6 {n ni ne : Nat} {T Rv : Nat → Int} {x y : Int} {v : V3} (rr : Rg n T) (hd : I 4 0 = nI n) (hni : I 0 9 = nI ni) (h80 : ni ≤ 80) (hne : I 0 8 = nI ne) (h100 : ne ≤ 100) (HI : ∀ i, i < ni → IdR n T (fun t => Rv (9 * i + t)) ∧ ∀ t, t < 9 → J 3 (9 * i + t) = lI (Rv (9 * i + t))) (hv : 0 ≤ y → y < ne → bdV v 300 ∧ ∀ c, c < n → J 2 (3 * y.toNat + c) = lI (vk v c)) (hx : rgi x) (hy : rgi y) : Con (EC l D aI aL ad) M_X6_in yX6_in [.ref (ad 0), .int (iI x), .int (iI y)] I J (ynC ((0 ≤ x ∧ x < ni) ∧ 0 ≤ y ∧ y < ne) (Sp (fun t => Rv (9 * x.toNat + t)) v) I J) := by
  refine Con.of (by decide +kernel) rfl (Nat.le_of_ble_eq_true rfl) ?_
  have h0 := rr.n
  have hnz : ¬ I 4 0 = 0 := by rw [hd]; rcases h0 with rfl | rfl <;> decide
  have no : ¬ ((0 ≤ x ∧ x < ni) ∧ 0 ≤ y ∧ y < ne) → Sat (EC l D aI aL ad) M_X6_in (ynC ((0 ≤ x ∧ x < ni) ∧ 0 ≤ y ∧ y < ne) (Sp (fun t => Rv (9 * x.toNat + t)) v) I J) 33 [(0, .ref (ad 0))] [] I J := by
    intro h
    refine bX6_in_33 ?_
    refine v_X6_59 dX6_in_35 rfl ⟨rfl, rfl, Nat.le_of_ble_eq_true rfl, Nat.le_of_ble_eq_true rfl⟩ (c_refused 1 (by decide) rfl) rfl rfl (Nat.le_of_ble_eq_true rfl) (fun r I1 J1 hp => ?_)
    obtain ⟨rfl, rfl, rfl⟩ := hp
    refine bX6_in_38 ?_
    unfold ynC; rw [if_neg h]; exact ⟨rfl, rfl, rfl⟩
  refine bX6_in_0 (fun _ => bX6_in_17 ?_) (fun c => absurd c hnz)
  refine v_X6_172 dX6_in_19 rfl ⟨rfl, rfl, Nat.le_of_ble_eq_true rfl, Nat.le_of_ble_eq_true rfl⟩ (c_isIdeal6) rfl rfl (Nat.le_of_ble_eq_true rfl) (fun r I1 J1 hp => ?_)
  obtain ⟨rfl, e2, e3⟩ := hp
  obtain rfl := e2.symm
  obtain rfl := e3.symm
  rw [hni, inB_I hx (m := ni) (by omega)]
  by_cases cx : 0 ≤ x ∧ x < ni
  rotate_left
  · rw [if_neg cx]; exact bX6_in_22 (fun _ => no (fun h => cx h.1)) (fun c => absurd rfl c)
  rw [if_pos cx]
  refine bX6_in_22 (fun c => absurd c (by decide)) (fun _ => bX6_in_25 ?_)
  refine v_X6_128 dX6_in_27 rfl ⟨rfl, rfl, Nat.le_of_ble_eq_true rfl, Nat.le_of_ble_eq_true rfl⟩ (c_isElement6) rfl rfl (Nat.le_of_ble_eq_true rfl) (fun r I1 J1 hp => ?_)
  obtain ⟨rfl, e2, e3⟩ := hp
  obtain rfl := e2.symm
  obtain rfl := e3.symm
  rw [hne, inB_I hy (m := ne) (by omega)]
  by_cases cy : 0 ≤ y ∧ y < ne
  rotate_left
  · rw [if_neg cy]; exact bX6_in_30 (fun c => absurd rfl c) (fun _ => no (fun h => cy h.2))
  rw [if_pos cy]
  obtain ⟨idX, memX⟩ := HI x.toNat (by omega)
  have okX := idX.ok rr
  obtain ⟨bv, hv⟩ := hv cy.1 cy.2
  refine bX6_in_30 (fun _ => bX6_in_39 ?_) (fun c => absurd c (by decide))
  rw [iI_nat cx.1, iI_nat cy.1, show (9 : Int32) * nI x.toNat = nI (9 * x.toNat) from nI_mulE 9 _, show (3 : Int32) * nI y.toNat = nI (3 * y.toNat) from nI_mulE 3 _]
  refine v_X6_195 dX6_in_58 rfl ⟨rfl, rfl, Nat.le_of_ble_eq_true rfl, Nat.le_of_ble_eq_true rfl⟩ (c_has h0 hd okX.1.1 okX.2.1 okX.bd (v := v) ⟨bd_mono bv.1 (by decide), bd_mono bv.2.1 (by decide), bd_mono bv.2.2 (by decide)⟩ aJ_C3 (by decide) aJ_C2 (by decide) (by omega) (by omega) (by decide) memX hv) rfl rfl (Nat.le_of_ble_eq_true rfl) (fun r I1 J1 hp => ?_)
  obtain ⟨e2, f1, hr⟩ := hp
  obtain rfl := e2.symm
  have sc1 : SC J J1 := SC.of (fun q _ _ _ _ _ h17 _ _ _ => f1 q h17)
  rcases hr with ⟨a, rfl⟩ | ⟨a, rfl⟩
  · refine bX6_in_61 (fun c => absurd c (by decide)) (fun _ => bX6_in_64 (bX6_in_69 ?_))
    unfold ynC; rw [if_pos ⟨cx, cy⟩]; exact ⟨Or.inl ⟨a, rfl⟩, rfl, sc1⟩
  · refine bX6_in_61 (fun _ => bX6_in_68 (bX6_in_69 ?_)) (fun c => absurd rfl c)
    unfold ynC; rw [if_pos ⟨cx, cy⟩]; exact ⟨Or.inr ⟨a, rfl⟩, rfl, sc1⟩
theorem c_divides6 {n ni : Nat} {T Rv : Nat → Int} {x y : Int} (rr : Rg n T) (hd : I 4 0 = nI n) (hni : I 0 9 = nI ni) (h80 : ni ≤ 80) (HI : ∀ i, i < ni → IdR n T (fun t => Rv (9 * i + t)) ∧ ∀ t, t < 9 → J 3 (9 * i + t) = lI (Rv (9 * i + t))) (hx : rgi x) (hy : rgi y) : Con (EC l D aI aL ad) M_X6_divides yX6_divides [.ref (ad 0), .int (iI x), .int (iI y)] I J (ynC ((0 ≤ x ∧ x < ni) ∧ 0 ≤ y ∧ y < ni) (∀ i, i < n → Sp (fun t => Rv (9 * x.toNat + t)) (rowV (fun t => Rv (9 * y.toNat + t)) i)) I J) := by
  refine Con.of (by decide +kernel) rfl (Nat.le_of_ble_eq_true rfl) ?_
  have h0 := rr.n
  have hnz : ¬ I 4 0 = 0 := by rw [hd]; rcases h0 with rfl | rfl <;> decide
  have no : ¬ ((0 ≤ x ∧ x < ni) ∧ 0 ≤ y ∧ y < ni) → Sat (EC l D aI aL ad) M_X6_divides (ynC ((0 ≤ x ∧ x < ni) ∧ 0 ≤ y ∧ y < ni) (∀ i, i < n → Sp (fun t => Rv (9 * x.toNat + t)) (rowV (fun t => Rv (9 * y.toNat + t)) i)) I J) 33 [(0, .ref (ad 0))] [] I J := by
    intro h
    refine bX6_divides_33 ?_
    refine v_X6_59 dX6_divides_35 rfl ⟨rfl, rfl, Nat.le_of_ble_eq_true rfl, Nat.le_of_ble_eq_true rfl⟩ (c_refused 1 (by decide) rfl) rfl rfl (Nat.le_of_ble_eq_true rfl) (fun r I1 J1 hp => ?_)
    obtain ⟨rfl, rfl, rfl⟩ := hp
    refine bX6_divides_38 ?_
    unfold ynC; rw [if_neg h]; exact ⟨rfl, rfl, rfl⟩
  refine bX6_divides_0 (fun _ => bX6_divides_17 ?_) (fun c => absurd c hnz)
  refine v_X6_172 dX6_divides_19 rfl ⟨rfl, rfl, Nat.le_of_ble_eq_true rfl, Nat.le_of_ble_eq_true rfl⟩ (c_isIdeal6) rfl rfl (Nat.le_of_ble_eq_true rfl) (fun r I1 J1 hp => ?_)
  obtain ⟨rfl, e2, e3⟩ := hp
  obtain rfl := e2.symm
  obtain rfl := e3.symm
  rw [hni, inB_I hx (m := ni) (by omega)]
  by_cases cx : 0 ≤ x ∧ x < ni
  rotate_left
  · rw [if_neg cx]; exact bX6_divides_22 (fun _ => no (fun h => cx h.1)) (fun c => absurd rfl c)
  rw [if_pos cx]
  refine bX6_divides_22 (fun c => absurd c (by decide)) (fun _ => bX6_divides_25 ?_)
  refine v_X6_172 dX6_divides_27 rfl ⟨rfl, rfl, Nat.le_of_ble_eq_true rfl, Nat.le_of_ble_eq_true rfl⟩ (c_isIdeal6) rfl rfl (Nat.le_of_ble_eq_true rfl) (fun r I1 J1 hp => ?_)
  obtain ⟨rfl, e2, e3⟩ := hp
  obtain rfl := e2.symm
  obtain rfl := e3.symm
  rw [hni, inB_I hy (m := ni) (by omega)]
  by_cases cy : 0 ≤ y ∧ y < ni
  rotate_left
  · rw [if_neg cy]; exact bX6_divides_30 (fun c => absurd rfl c) (fun _ => no (fun h => cy h.2))
  rw [if_pos cy]
  obtain ⟨idX, memX⟩ := HI x.toNat (by omega)
  obtain ⟨idY, memY⟩ := HI y.toNat (by omega)
  have okX := idX.ok rr
  have okY := idY.ok rr
  refine bX6_divides_30 (fun _ => bX6_divides_39 ?_) (fun c => absurd c (by decide))
  rw [iI_nat cx.1, iI_nat cy.1, show (9 : Int32) * nI x.toNat = nI (9 * x.toNat) from nI_mulE 9 _, show (9 : Int32) * nI y.toNat = nI (9 * y.toNat) from nI_mulE 9 _]
  refine v_X6_175 dX6_divides_59 rfl ⟨rfl, rfl, Nat.le_of_ble_eq_true rfl, Nat.le_of_ble_eq_true rfl⟩ (c_hasAll (X := (fun t => Rv (9 * x.toNat + t))) (Y := (fun t => Rv (9 * y.toNat + t))) h0 hd okX.1.1 okX.2.1 okX.bd (fun i hi => okY.row hi) aJ_C3 (by decide) aJ_C3 (by decide) (by omega) (by omega) (by decide) (by decide) memX memY) rfl rfl (Nat.le_of_ble_eq_true rfl) (fun r I1 J1 hp => ?_)
  obtain ⟨e2, f1, hr⟩ := hp
  obtain rfl := e2.symm
  have sc1 : SC J J1 := SC.of (fun q _ _ _ _ _ h17 _ _ _ => f1 q h17)
  rcases hr with ⟨a, rfl⟩ | ⟨a, rfl⟩
  · refine bX6_divides_62 (fun c => absurd c (by decide)) (fun _ => bX6_divides_65 (bX6_divides_70 ?_))
    unfold ynC; rw [if_pos ⟨cx, cy⟩]; exact ⟨Or.inl ⟨a, rfl⟩, rfl, sc1⟩
  · refine bX6_divides_62 (fun _ => bX6_divides_69 (bX6_divides_70 ?_)) (fun c => absurd rfl c)
    unfold ynC; rw [if_pos ⟨cx, cy⟩]; exact ⟨Or.inr ⟨a, rfl⟩, rfl, sc1⟩
theorem c_in7 {n ni ne : Nat} {T Rv : Nat → Int} {x y : Int} {v : V3} (rr : Rg n T) (hd : I 0 1 = nI n) (hni : I 0 14 = nI ni) (h80 : ni ≤ 80) (hne : I 0 13 = nI ne) (h100 : ne ≤ 100) (HI : ∀ i, i < ni → IdR n T (fun t => Rv (9 * i + t)) ∧ ∀ t, t < 3 * n → I 4 (9 * i + t) = iI (Rv (9 * i + t))) (hv : 0 ≤ y → y < ne → bdV v 300 ∧ ∀ c, c < n → (I 3 (3 * y.toNat + c)).toInt64 = lI (vk v c)) (hx : rgi x) (hy : rgi y) : Con (ER l D aI aL ad) M_X7_in yX7_in [.ref (ad 0), .int (iI x), .int (iI y)] I J (ynR ((0 ≤ x ∧ x < ni) ∧ 0 ≤ y ∧ y < ne) (Sp (fun t => Rv (9 * x.toNat + t)) v) I J) := by
  refine Con.of (by decide +kernel) rfl (Nat.le_of_ble_eq_true rfl) ?_
  have h0 := rr.n
  have hnz : ¬ I 0 1 ≤ 0 := by rw [hd]; rcases h0 with rfl | rfl <;> decide
  have no : ¬ ((0 ≤ x ∧ x < ni) ∧ 0 ≤ y ∧ y < ne) → Sat (ER l D aI aL ad) M_X7_in (ynR ((0 ≤ x ∧ x < ni) ∧ 0 ≤ y ∧ y < ne) (Sp (fun t => Rv (9 * x.toNat + t)) v) I J) 30 [(0, .ref (ad 0))] [] I J := by
    intro h
    refine bX7_in_30 ?_
    refine v_X7_84 dX7_in_32 rfl ⟨rfl, rfl, Nat.le_of_ble_eq_true rfl, Nat.le_of_ble_eq_true rfl⟩ (c_refuse 1 (by decide) rfl) rfl rfl (Nat.le_of_ble_eq_true rfl) (fun r I1 J1 hp => ?_)
    obtain ⟨rfl, rfl, rfl⟩ := hp
    refine bX7_in_35 ?_
    unfold ynR; rw [if_neg h]; exact ⟨rfl, rfl, rfl⟩
  refine bX7_in_0 ?_
  refine v_X7_203 dX7_in_1 rfl ⟨rfl, rfl, Nat.le_of_ble_eq_true rfl, Nat.le_of_ble_eq_true rfl⟩ (c_isField) rfl rfl (Nat.le_of_ble_eq_true rfl) (fun r I1 J1 hp => ?_)
  obtain ⟨rfl, e2, e3⟩ := hp
  obtain rfl := e2.symm
  obtain rfl := e3.symm
  rw [if_neg hnz]
  refine bX7_in_4 (fun _ => bX7_in_14 ?_) (fun c => absurd c (by decide))
  refine v_X7_282 dX7_in_16 rfl ⟨rfl, rfl, Nat.le_of_ble_eq_true rfl, Nat.le_of_ble_eq_true rfl⟩ (c_isIdeal7) rfl rfl (Nat.le_of_ble_eq_true rfl) (fun r I1 J1 hp => ?_)
  obtain ⟨rfl, e2, e3⟩ := hp
  obtain rfl := e2.symm
  obtain rfl := e3.symm
  rw [hni, inB_I hx (m := ni) (by omega)]
  by_cases cx : 0 ≤ x ∧ x < ni
  rotate_left
  · rw [if_neg cx]; exact bX7_in_19 (fun _ => no (fun h => cx h.1)) (fun c => absurd rfl c)
  rw [if_pos cx]
  refine bX7_in_19 (fun c => absurd c (by decide)) (fun _ => bX7_in_22 ?_)
  refine v_X7_232 dX7_in_24 rfl ⟨rfl, rfl, Nat.le_of_ble_eq_true rfl, Nat.le_of_ble_eq_true rfl⟩ (c_isElement7) rfl rfl (Nat.le_of_ble_eq_true rfl) (fun r I1 J1 hp => ?_)
  obtain ⟨rfl, e2, e3⟩ := hp
  obtain rfl := e2.symm
  obtain rfl := e3.symm
  rw [hne, inB_I hy (m := ne) (by omega)]
  by_cases cy : 0 ≤ y ∧ y < ne
  rotate_left
  · rw [if_neg cy]; exact bX7_in_27 (fun c => absurd rfl c) (fun _ => no (fun h => cy h.2))
  rw [if_pos cy]
  obtain ⟨idX, memX⟩ := HI x.toNat (by omega)
  have okX := idX.ok rr
  obtain ⟨bv, hv⟩ := hv cy.1 cy.2
  refine bX7_in_27 (fun _ => bX7_in_36 ?_) (fun c => absurd c (by decide))
  rw [iI_nat cx.1, iI_nat cy.1]
  refine v_X7_235 dX7_in_42 rfl ⟨rfl, rfl, Nat.le_of_ble_eq_true rfl, Nat.le_of_ble_eq_true rfl⟩ (c_brings10 (i := y.toNat) (by omega)) rfl rfl (Nat.le_of_ble_eq_true rfl) (fun r I1 Ja hp => ?_)
  obtain ⟨rfl, e2, a0, a1, a2, ga⟩ := hp
  obtain rfl := e2.symm
  refine bX7_in_45 ?_
  refine v_X7_285 dX7_in_51 rfl ⟨rfl, rfl, Nat.le_of_ble_eq_true rfl, Nat.le_of_ble_eq_true rfl⟩ (c_load16 (i := x.toNat) (by omega)) rfl rfl (Nat.le_of_ble_eq_true rfl) (fun r I1 Jb hp => ?_)
  obtain ⟨rfl, e2, u0, u1, u2, u3, u4, u5, u6, u7, u8, gb⟩ := hp
  obtain rfl := e2.symm
  have conv : ∀ (R : Nat → Int), okR n R → ∀ (i t : Nat), t < 3 * n → I 4 (9 * i + t) = iI (R t) → (I 4 (9 * i + t)).toInt64 = lI (R t) := by
    intro R ok i t ht e
    have hb := ok.bd t (by omega)
    rw [e, iI_lI ⟨by omega, by omega⟩]
  have hXm : ∀ t, t < 3 * n → Jb 16 t = lI ((fun t => Rv (9 * x.toNat + t)) t) := by
    intro t ht
    rw [← conv (fun t => Rv (9 * x.toNat + t)) okX x.toNat t ht (memX t ht)]
    rcases below9 (show t < 9 by omega) with rfl | rfl | rfl | rfl | rfl | rfl | rfl | rfl | rfl
    · exact u0
    · exact u1
    · exact u2
    · exact u3
    · exact u4
    · exact u5
    · exact u6
    · exact u7
    · exact u8
  have hvb : ∀ c, c < n → Jb 10 (0 + c) = lI (vk v c) := by
    intro c hc
    rw [Nat.zero_add, gb 10 (by decide), ← hv c hc]
    rcases below3 (show c < 3 by omega) with rfl | rfl | rfl
    · exact a0
    · exact a1
    · exact a2
  have srb : SR J Jb := SR.of (fun q _ h10 _ _ _ _ _ h16 _ => by rw [gb q h16, ga q h10])
  refine bX7_in_54 ?_
  refine v_X7_271 dX7_in_64 rfl ⟨rfl, rfl, Nat.le_of_ble_eq_true rfl, Nat.le_of_ble_eq_true rfl⟩ (c_isInside h0 hd okX.1.1 okX.2.1 okX.bd (v := v) (p1 := 0) ⟨bd_mono bv.1 (by decide), bd_mono bv.2.1 (by decide), bd_mono bv.2.2 (by decide)⟩ aJ_R10 (by decide) (by decide) hXm hvb) rfl rfl (Nat.le_of_ble_eq_true rfl) (fun r I1 J1 hp => ?_)
  obtain ⟨e2, e3, hr⟩ := hp
  obtain rfl := e2.symm
  obtain rfl := e3.symm
  rcases hr with ⟨a, rfl⟩ | ⟨a, rfl⟩
  · refine bX7_in_67 (fun c => absurd c (by decide)) (fun _ => bX7_in_70 (bX7_in_75 ?_))
    unfold ynR; rw [if_pos ⟨cx, cy⟩]; exact ⟨Or.inl ⟨a, rfl⟩, rfl, srb⟩
  · refine bX7_in_67 (fun _ => bX7_in_74 (bX7_in_75 ?_)) (fun c => absurd rfl c)
    unfold ynR; rw [if_pos ⟨cx, cy⟩]; exact ⟨Or.inr ⟨a, rfl⟩, rfl, srb⟩
theorem c_divides7 {n ni : Nat} {T Rv : Nat → Int} {x y : Int} (rr : Rg n T) (hd : I 0 1 = nI n) (hni : I 0 14 = nI ni) (h80 : ni ≤ 80) (HI : ∀ i, i < ni → IdR n T (fun t => Rv (9 * i + t)) ∧ ∀ t, t < 3 * n → I 4 (9 * i + t) = iI (Rv (9 * i + t))) (hx : rgi x) (hy : rgi y) : Con (ER l D aI aL ad) M_X7_divides yX7_divides [.ref (ad 0), .int (iI x), .int (iI y)] I J (ynR ((0 ≤ x ∧ x < ni) ∧ 0 ≤ y ∧ y < ni) (∀ i, i < n → Sp (fun t => Rv (9 * x.toNat + t)) (rowV (fun t => Rv (9 * y.toNat + t)) i)) I J) := by
  refine Con.of (by decide +kernel) rfl (Nat.le_of_ble_eq_true rfl) ?_
  have h0 := rr.n
  have hnz : ¬ I 0 1 ≤ 0 := by rw [hd]; rcases h0 with rfl | rfl <;> decide
  have no : ¬ ((0 ≤ x ∧ x < ni) ∧ 0 ≤ y ∧ y < ni) → Sat (ER l D aI aL ad) M_X7_divides (ynR ((0 ≤ x ∧ x < ni) ∧ 0 ≤ y ∧ y < ni) (∀ i, i < n → Sp (fun t => Rv (9 * x.toNat + t)) (rowV (fun t => Rv (9 * y.toNat + t)) i)) I J) 30 [(0, .ref (ad 0))] [] I J := by
    intro h
    refine bX7_divides_30 ?_
    refine v_X7_84 dX7_divides_32 rfl ⟨rfl, rfl, Nat.le_of_ble_eq_true rfl, Nat.le_of_ble_eq_true rfl⟩ (c_refuse 1 (by decide) rfl) rfl rfl (Nat.le_of_ble_eq_true rfl) (fun r I1 J1 hp => ?_)
    obtain ⟨rfl, rfl, rfl⟩ := hp
    refine bX7_divides_35 ?_
    unfold ynR; rw [if_neg h]; exact ⟨rfl, rfl, rfl⟩
  refine bX7_divides_0 ?_
  refine v_X7_203 dX7_divides_1 rfl ⟨rfl, rfl, Nat.le_of_ble_eq_true rfl, Nat.le_of_ble_eq_true rfl⟩ (c_isField) rfl rfl (Nat.le_of_ble_eq_true rfl) (fun r I1 J1 hp => ?_)
  obtain ⟨rfl, e2, e3⟩ := hp
  obtain rfl := e2.symm
  obtain rfl := e3.symm
  rw [if_neg hnz]
  refine bX7_divides_4 (fun _ => bX7_divides_14 ?_) (fun c => absurd c (by decide))
  refine v_X7_282 dX7_divides_16 rfl ⟨rfl, rfl, Nat.le_of_ble_eq_true rfl, Nat.le_of_ble_eq_true rfl⟩ (c_isIdeal7) rfl rfl (Nat.le_of_ble_eq_true rfl) (fun r I1 J1 hp => ?_)
  obtain ⟨rfl, e2, e3⟩ := hp
  obtain rfl := e2.symm
  obtain rfl := e3.symm
  rw [hni, inB_I hx (m := ni) (by omega)]
  by_cases cx : 0 ≤ x ∧ x < ni
  rotate_left
  · rw [if_neg cx]; exact bX7_divides_19 (fun _ => no (fun h => cx h.1)) (fun c => absurd rfl c)
  rw [if_pos cx]
  refine bX7_divides_19 (fun c => absurd c (by decide)) (fun _ => bX7_divides_22 ?_)
  refine v_X7_282 dX7_divides_24 rfl ⟨rfl, rfl, Nat.le_of_ble_eq_true rfl, Nat.le_of_ble_eq_true rfl⟩ (c_isIdeal7) rfl rfl (Nat.le_of_ble_eq_true rfl) (fun r I1 J1 hp => ?_)
  obtain ⟨rfl, e2, e3⟩ := hp
  obtain rfl := e2.symm
  obtain rfl := e3.symm
  rw [hni, inB_I hy (m := ni) (by omega)]
  by_cases cy : 0 ≤ y ∧ y < ni
  rotate_left
  · rw [if_neg cy]; exact bX7_divides_27 (fun c => absurd rfl c) (fun _ => no (fun h => cy h.2))
  rw [if_pos cy]
  obtain ⟨idX, memX⟩ := HI x.toNat (by omega)
  obtain ⟨idY, memY⟩ := HI y.toNat (by omega)
  have okX := idX.ok rr
  have okY := idY.ok rr
  refine bX7_divides_27 (fun _ => bX7_divides_36 ?_) (fun c => absurd c (by decide))
  rw [iI_nat cx.1, iI_nat cy.1]
  refine v_X7_285 dX7_divides_42 rfl ⟨rfl, rfl, Nat.le_of_ble_eq_true rfl, Nat.le_of_ble_eq_true rfl⟩ (c_load15 (i := y.toNat) (by omega)) rfl rfl (Nat.le_of_ble_eq_true rfl) (fun r I1 Ja hp => ?_)
  obtain ⟨rfl, e2, w0, w1, w2, w3, w4, w5, w6, w7, w8, ga⟩ := hp
  obtain rfl := e2.symm
  refine bX7_divides_45 ?_
  refine v_X7_285 dX7_divides_51 rfl ⟨rfl, rfl, Nat.le_of_ble_eq_true rfl, Nat.le_of_ble_eq_true rfl⟩ (c_load16 (i := x.toNat) (by omega)) rfl rfl (Nat.le_of_ble_eq_true rfl) (fun r I1 Jb hp => ?_)
  obtain ⟨rfl, e2, u0, u1, u2, u3, u4, u5, u6, u7, u8, gb⟩ := hp
  obtain rfl := e2.symm
  have conv : ∀ (R : Nat → Int), okR n R → ∀ (i t : Nat), t < 3 * n → I 4 (9 * i + t) = iI (R t) → (I 4 (9 * i + t)).toInt64 = lI (R t) := by
    intro R ok i t ht e
    have hb := ok.bd t (by omega)
    rw [e, iI_lI ⟨by omega, by omega⟩]
  have hXm : ∀ t, t < 3 * n → Jb 16 t = lI ((fun t => Rv (9 * x.toNat + t)) t) := by
    intro t ht
    rw [← conv (fun t => Rv (9 * x.toNat + t)) okX x.toNat t ht (memX t ht)]
    rcases below9 (show t < 9 by omega) with rfl | rfl | rfl | rfl | rfl | rfl | rfl | rfl | rfl
    · exact u0
    · exact u1
    · exact u2
    · exact u3
    · exact u4
    · exact u5
    · exact u6
    · exact u7
    · exact u8
  have hYa : ∀ t, t < 3 * n → Ja 15 t = lI ((fun t => Rv (9 * y.toNat + t)) t) := by
    intro t ht
    rw [← conv (fun t => Rv (9 * y.toNat + t)) okY y.toNat t ht (memY t ht)]
    rcases below9 (show t < 9 by omega) with rfl | rfl | rfl | rfl | rfl | rfl | rfl | rfl | rfl
    · exact w0
    · exact w1
    · exact w2
    · exact w3
    · exact w4
    · exact w5
    · exact w6
    · exact w7
    · exact w8
  have srb : SR J Jb := SR.of (fun q _ _ _ _ _ _ h15 h16 _ => by rw [gb q h16, ga q h15])
  refine bX7_divides_54 ?_
  refine v_X7_288 dX7_divides_55 rfl ⟨rfl, rfl, Nat.le_of_ble_eq_true rfl, Nat.le_of_ble_eq_true rfl⟩ (c_isWithin (X := (fun t => Rv (9 * y.toNat + t))) (Y := (fun t => Rv (9 * x.toNat + t))) h0 hd okX.1.1 okX.2.1 okX.bd (fun i hi => okY.row hi) (fun t ht => by rw [gb 15 (by decide)]; exact hYa t ht) hXm) rfl rfl (Nat.le_of_ble_eq_true rfl) (fun r I1 J1 hp => ?_)
  obtain ⟨e2, e3, hr⟩ := hp
  obtain rfl := e2.symm
  obtain rfl := e3.symm
  rcases hr with ⟨a, rfl⟩ | ⟨a, rfl⟩
  · refine bX7_divides_58 (fun c => absurd c (by decide)) (fun _ => bX7_divides_61 (bX7_divides_66 ?_))
    unfold ynR; rw [if_pos ⟨cx, cy⟩]; exact ⟨Or.inl ⟨a, rfl⟩, rfl, srb⟩
  · refine bX7_divides_58 (fun _ => bX7_divides_65 (bX7_divides_66 ?_)) (fun c => absurd rfl c)
    unfold ynR; rw [if_pos ⟨cx, cy⟩]; exact ⟨Or.inr ⟨a, rfl⟩, rfl, srb⟩
end RI
section SJ
variable {l0 : Launch} {D : va_G} {aI aL : ClassId} {ad ad' : Nat → Nat} {I I' : sa_I} {J J' : sa_J} {N : sa_I → sa_J → sa_I → sa_J → Prop} {a1 a2 a3 : Int32} {n ne ni : Nat} {h d k l e Di dd : Int} {T Ev Rv : Nat → Int}
theorem IdS.c (H : IdS n ni T Rv I J I') : ∀ i, i < ni → IdR n T (fun t => Rv (9 * i + t)) ∧ ∀ t, t < 9 → J 3 (9 * i + t) = lI (Rv (9 * i + t)) := fun i hi => ⟨(H.2.2.2 i hi).1, (H.2.2.2 i hi).2.1⟩
theorem IdS.r (H : IdS n ni T Rv I J I') : ∀ i, i < ni → IdR n T (fun t => Rv (9 * i + t)) ∧ ∀ t, t < 3 * n → I' 4 (9 * i + t) = iI (Rv (9 * i + t)) := fun i hi => ⟨(H.2.2.2 i hi).1, (H.2.2.2 i hi).2.2⟩
theorem bP_two {S : Prop} {r1 r2 : Option Value} (p : bP S r1) (q : bP S r2) : la_ans false r1 r2 := by
  rcases p with ⟨a, rfl⟩ | ⟨a, rfl⟩
  · rcases q with ⟨b, rfl⟩ | ⟨b, rfl⟩
    · exact ⟨_, rfl, rfl⟩
    · exact absurd a b
  · rcases q with ⟨b, rfl⟩ | ⟨b, rfl⟩
    · exact absurd b a
    · exact ⟨_, rfl, rfl⟩
theorem yn_two {c : Prop} [Decidable c] {S : Prop} {r1 r2 : Option Value} {I1 I2 : sa_I} {J1 J2 : sa_J} (hN : Nid n ni T N I J I' J') (p : ynC c S I J r1 I1 J1) (q : ynR c S I' J' r2 I2 J2) : la_ans false r1 r2 ∧ N I1 J1 I2 J2 := by
  unfold ynC at p
  unfold ynR at q
  by_cases hc : c
  · rw [if_pos hc] at p q
    obtain ⟨p1, rfl, p3⟩ := p
    obtain ⟨q1, rfl, q3⟩ := q
    exact ⟨bP_two p1 q1, hN.1 _ _ _ _ SCI.rfl' p3 SRI.rfl' q3⟩
  · rw [if_neg hc] at p q
    obtain ⟨rfl, rfl, rfl⟩ := p
    obtain ⟨rfl, rfl, rfl⟩ := q
    exact ⟨⟨_, rfl, rfl⟩, hN.2.1 1 _ _ _ _ SCI.rfl' SC.rfl' SRI.rfl' SR.rfl'⟩
theorem st_row (F : Fld n h d k l e Di dd T) (hc : clS n h d k l e Di dd T I J) (hr : rfS n h d k l e Di dd T I' J') (HI : IdS n ni T Rv I J I') (hN : Nid n ni T N I J I' J') : la_Step l0 D aI aL ad ad' N 13 a1 a2 a3 I J I' J' := by
  obtain ⟨x, hx, rfl⟩ := iI_of a1
  obtain ⟨y, hy, rfl⟩ := iI_of a2
  obtain ⟨z, hz, rfl⟩ := iI_of a3
  have h0 := F.1
  refine ⟨_, _, c_row6 hc.1 h0 HI.2.1 HI.1 hx hy hz, c_row7 hr.1 h0 HI.2.2.1 HI.1 hx hy hz, fun r1 I1 J1 r2 I2 J2 p q => orP_two p q (fun hh => ?_) (hN.1 _ _ _ _ SCI.rfl' SC.rfl' SRI.rfl' SR.rfl') (hN.2.1 1 _ _ _ _ SCI.rfl' SC.rfl' SRI.rfl' SR.rfl')⟩
  obtain ⟨h1, h2, h3, h4, h5, h6⟩ := hh
  have m1 := (HI.c x.toNat (by omega)).2 (3 * y.toNat + z.toNat) (by omega)
  have m2 := (HI.r x.toNat (by omega)).2 (3 * y.toNat + z.toNat) (by omega)
  rw [Nat.add_assoc, m1, m2, lI_iI]
theorem st_in (F : Fld n h d k l e Di dd T) (hc : clS n h d k l e Di dd T I J) (hr : rfS n h d k l e Di dd T I' J') (HE : ElS n ne Ev I J I') (HI : IdS n ni T Rv I J I') (hN : Nid n ni T N I J I' J') : la_Step l0 D aI aL ad ad' N 15 a1 a2 a3 I J I' J' := by
  obtain ⟨x, hx, rfl⟩ := iI_of a1
  obtain ⟨y, hy, rfl⟩ := iI_of a2
  have rr := F.rg
  have h3 : n ≤ 3 := by have := rr.n; omega
  refine ⟨_, _, c_in6 (v := (Ev (3 * y.toNat), Ev (3 * y.toNat + 1), Ev (3 * y.toNat + 2))) rr hc.1 HI.2.1 HI.1 HE.2.1 HE.1 HI.c (fun h1 h2 => ⟨(HE.v (i := y.toNat) (by omega) h3).1, (HE.v (i := y.toNat) (by omega) h3).2.1⟩) hx hy, c_in7 (v := (Ev (3 * y.toNat), Ev (3 * y.toNat + 1), Ev (3 * y.toNat + 2))) rr hr.1 HI.2.2.1 HI.1 HE.2.2.1 HE.1 HI.r (fun h1 h2 => ⟨(HE.v (i := y.toNat) (by omega) h3).1, (HE.v (i := y.toNat) (by omega) h3).2.2⟩) hx hy, fun r1 I1 J1 r2 I2 J2 p q => yn_two hN p q⟩
theorem st_divides (F : Fld n h d k l e Di dd T) (hc : clS n h d k l e Di dd T I J) (hr : rfS n h d k l e Di dd T I' J') (HI : IdS n ni T Rv I J I') (hN : Nid n ni T N I J I' J') : la_Step l0 D aI aL ad ad' N 16 a1 a2 a3 I J I' J' := by
  obtain ⟨x, hx, rfl⟩ := iI_of a1
  obtain ⟨y, hy, rfl⟩ := iI_of a2
  have rr := F.rg
  exact ⟨_, _, c_divides6 rr hc.1 HI.2.1 HI.1 HI.c hx hy, c_divides7 rr hr.1 HI.2.2.1 HI.1 HI.r hx hy, fun r1 I1 J1 r2 I2 J2 p q => yn_two hN p q⟩
theorem st_join (F : Fld n h d k l e Di dd T) (hc : clS n h d k l e Di dd T I J) (hr : rfS n h d k l e Di dd T I' J') (HI : IdS n ni T Rv I J I') (hN : Nid n ni T N I J I' J') : la_Step l0 D aI aL ad ad' N 12 a1 a2 a3 I J I' J' := by
  obtain ⟨w, hw, rfl⟩ := iI_of a1
  obtain ⟨x, hx, rfl⟩ := iI_of a2
  obtain ⟨y, hy, rfl⟩ := iI_of a3
  have rr := F.rg
  have h0 := rr.n
  refine ⟨_, _, c_join6 rr hc.1 hc.2.2.2.2.2.2 HI.2.1 HI.1 HI.c hw hx hy, c_join7 rr hr.1 hr.2.2.2.2.2.2.2.2 HI.2.2.1 HI.1 HI.r hw hx hy, fun r1 I1 J1 r2 I2 J2 p q => ?_⟩
  unfold joC at p
  unfold joR at q
  by_cases cxy : (0 ≤ x ∧ x < ni) ∧ 0 ≤ y ∧ y < ni
  rotate_left
  · rw [if_neg cxy] at p q
    obtain ⟨rfl, rfl, rfl⟩ := p
    obtain ⟨rfl, rfl, rfl⟩ := q
    exact ⟨⟨_, rfl, rfl⟩, hN.2.1 1 _ _ _ _ SCI.rfl' SC.rfl' SRI.rfl' SR.rfl'⟩
  rw [if_pos cxy] at p q
  by_cases cw : 0 ≤ w ∧ w ≤ 2
  rotate_left
  · rw [if_neg cw] at p q
    obtain ⟨rfl, rfl, rfl⟩ := p
    obtain ⟨rfl, rfl, rfl⟩ := q
    exact ⟨⟨_, rfl, rfl⟩, hN.2.1 2 _ _ _ _ SCI.rfl' SC.rfl' SRI.rfl' SR.rfl'⟩
  rw [if_pos cw] at p q
  rcases p with ⟨a1, a2, rfl, rfl, a3⟩ | ⟨a1, a2, rfl, rfl, rfl⟩ | ⟨a1, a2, Ia, Ja, R, s1, s2, hR, hm, r2, jr, p⟩
  · rcases q with ⟨_, _, rfl, rfl, b3⟩ | ⟨b1, _⟩ | ⟨b1, _⟩
    · exact ⟨⟨_, rfl, rfl⟩, hN.2.1 3 _ _ _ _ SCI.rfl' a3 SRI.rfl' b3⟩
    · omega
    · exact absurd (b1 a1) a2
  · rcases q with ⟨b1, _⟩ | ⟨_, _, rfl, rfl, b3⟩ | ⟨_, b2, _⟩
    · omega
    · exact ⟨⟨_, rfl, rfl⟩, hN.2.1 6 _ _ _ _ SCI.rfl' SC.rfl' SRI.rfl' b3⟩
    · have := b2 a1; omega
  · rcases q with ⟨b1, b2, _⟩ | ⟨b1, b2, _⟩ | ⟨_, _, Ib, Jb, R', s3, s4, hR', hm', jr', q⟩
    · exact absurd (a1 b1) b2
    · have := a2 b1; omega
    · have ix := (HI.c x.toNat (by omega)).1
      have iy := (HI.c y.toNat (by omega)).1
      exact ki_two h0 HI s1 s2 s3 hR hR' hm hm' r2 (jr.alike cw.1 cw.2 jr') (jr.idl rr cw.1 cw.2 ix iy) p q (hN.2.1 6 _ _ _ _ s1 s2 s3 s4) (fun Rv' I3 J3 I4 z1 z2 z3 z4 z5 z6 => hN.2.2 Rv' I3 J3 I4 _ z1 z2 z3 z4 z5 z6 s4)
end SJ
