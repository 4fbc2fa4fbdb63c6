section NF
variable {l : Launch} {D : va_G} {aI aL : ClassId} {ad : Nat → Nat} {I : sa_I} {J : sa_J}
theorem c_isField0 (h : I 0 1 = 0) : Con (ER l D aI aL ad) M_X7_isField yX7_isField [.ref (ad 0)] I J (p_i 0 I J) := by
  have := c_isField (l := l) (D := D) (aI := aI) (aL := aL) (ad := ad) (I := I) (J := J)
  rw [if_pos (by rw [h]; decide)] at this
  exact this
theorem c_refuseFar (j : Nat) (hj : j < 7) {x : Int32} (hx : -x = nI j) : Con (ER l D aI aL ad) M_X7_refuseFar yX7_refuseFar [.ref (ad 0), .int x] I J (p_i (2000000000 - x) (rf I j) J) := by
  refine Con.of (by decide +kernel) rfl (Nat.le_of_ble_eq_true rfl) ?_
  refine bX7_refuseFar_0 ?_
  refine v_X7_84 dX7_refuseFar_4 rfl ⟨rfl, rfl, Nat.le_of_ble_eq_true rfl, Nat.le_of_ble_eq_true rfl⟩ (c_refuse j hj hx) rfl rfl (Nat.le_of_ble_eq_true rfl) (fun r I1 J1 hp => ?_)
  obtain ⟨rfl, rfl, rfl⟩ := hp
  exact bX7_refuseFar_7 ⟨rfl, rfl, rfl⟩
theorem c_refuseLong (j : Nat) (hj : j < 7) {x : Int32} (hx : -x = nI j) : Con (ER l D aI aL ad) M_X7_refuseLong yX7_refuseLong [.ref (ad 0), .int x] I J (p_l (4000000000000000000 - x.toInt64) (rf I j) J) := by
  refine Con.of (by decide +kernel) rfl (Nat.le_of_ble_eq_true rfl) ?_
  refine bX7_refuseLong_0 ?_
  refine v_X7_84 dX7_refuseLong_5 rfl ⟨rfl, rfl, Nat.le_of_ble_eq_true rfl, Nat.le_of_ble_eq_true rfl⟩ (c_refuse j hj hx) rfl rfl (Nat.le_of_ble_eq_true rfl) (fun r I1 J1 hp => ?_)
  obtain ⟨rfl, rfl, rfl⟩ := hp
  exact bX7_refuseLong_8 ⟨rfl, rfl, rfl⟩
theorem c_wrongForms0 (h : I 0 1 = 0) : Con (ER l D aI aL ad) M_X7_wrongForms yX7_wrongForms [.ref (ad 0)] I J (p_i (-3) I J) := by
  refine Con.of (by decide +kernel) rfl (Nat.le_of_ble_eq_true rfl) ?_
  refine bX7_wrongForms_0 ?_
  refine v_X7_203 dX7_wrongForms_1 rfl ⟨rfl, rfl, Nat.le_of_ble_eq_true rfl, Nat.le_of_ble_eq_true rfl⟩ (c_isField0 h) rfl rfl (Nat.le_of_ble_eq_true rfl) (fun r I1 J1 hp => ?_)
  obtain ⟨rfl, rfl, rfl⟩ := hp
  refine bX7_wrongForms_4 (fun c => absurd rfl c) (fun _ => ?_)
  refine bX7_wrongForms_7 ?_
  exact bX7_wrongForms_26 ⟨rfl, rfl, rfl⟩
theorem r0_X6_field {x1 : Int32} (h : I 4 0 = 0) : Con (EC l D aI aL ad) M_X6_field yX6_field [.ref (ad 0), .int x1] I J (p_i (-3) (rf I 3) J) := by
  refine Con.of (by decide +kernel) rfl (Nat.le_of_ble_eq_true rfl) ?_
  refine bX6_field_0 (fun c => absurd h c) (fun _ => ?_)
  refine bX6_field_10 ?_
  refine v_X6_59 dX6_field_13 rfl ⟨rfl, rfl, Nat.le_of_ble_eq_true rfl, Nat.le_of_ble_eq_true rfl⟩ (c_refused 3 (by decide) rfl) rfl rfl (Nat.le_of_ble_eq_true rfl) (fun r I1 J1 hp => ?_)
  obtain ⟨rfl, rfl, rfl⟩ := hp
  exact bX6_field_16 ⟨rfl, rfl, rfl⟩
theorem r0_X7_field {x1 : Int32} (h : I 0 1 = 0) : Con (ER l D aI aL ad) M_X7_field yX7_field [.ref (ad 0), .int x1] I J (p_i (-3) (rf I 3) J) := by
  refine Con.of (by decide +kernel) rfl (Nat.le_of_ble_eq_true rfl) ?_
  refine bX7_field_0 ?_
  refine v_X7_203 dX7_field_1 rfl ⟨rfl, rfl, Nat.le_of_ble_eq_true rfl, Nat.le_of_ble_eq_true rfl⟩ (c_isField0 h) rfl rfl (Nat.le_of_ble_eq_true rfl) (fun r I1 J1 hp => ?_)
  obtain ⟨rfl, rfl, rfl⟩ := hp
  refine bX7_field_4 (fun c => absurd rfl c) (fun _ => ?_)
  refine bX7_field_7 ?_
  refine v_X7_84 dX7_field_10 rfl ⟨rfl, rfl, Nat.le_of_ble_eq_true rfl, Nat.le_of_ble_eq_true rfl⟩ (c_refuse 3 (by decide) rfl) rfl rfl (Nat.le_of_ble_eq_true rfl) (fun r I1 J1 hp => ?_)
  obtain ⟨rfl, rfl, rfl⟩ := hp
  exact bX7_field_13 ⟨rfl, rfl, rfl⟩
theorem r0_X6_disc {x1 : Int32} (h : I 4 0 = 0) : Con (EC l D aI aL ad) M_X6_disc yX6_disc [.ref (ad 0), .int x1] I J (p_l (4000000000000000000 - (-3 : Int32).toInt64) (rf I 3) J) := by
  refine Con.of (by decide +kernel) rfl (Nat.le_of_ble_eq_true rfl) ?_
  refine bX6_disc_0 (fun c => absurd h c) (fun _ => ?_)
  refine bX6_disc_10 ?_
  refine v_X6_96 dX6_disc_13 rfl ⟨rfl, rfl, Nat.le_of_ble_eq_true rfl, Nat.le_of_ble_eq_true rfl⟩ (c_toldLong 3 (by decide) rfl) rfl rfl (Nat.le_of_ble_eq_true rfl) (fun r I1 J1 hp => ?_)
  obtain ⟨rfl, rfl, rfl⟩ := hp
  exact bX6_disc_16 ⟨rfl, rfl, rfl⟩
theorem r0_X7_disc {x1 : Int32} (h : I 0 1 = 0) : Con (ER l D aI aL ad) M_X7_disc yX7_disc [.ref (ad 0), .int x1] I J (p_l (4000000000000000000 - (-3 : Int32).toInt64) (rf I 3) J) := by
  refine Con.of (by decide +kernel) rfl (Nat.le_of_ble_eq_true rfl) ?_
  refine bX7_disc_0 ?_
  refine v_X7_203 dX7_disc_1 rfl ⟨rfl, rfl, Nat.le_of_ble_eq_true rfl, Nat.le_of_ble_eq_true rfl⟩ (c_isField0 h) rfl rfl (Nat.le_of_ble_eq_true rfl) (fun r I1 J1 hp => ?_)
  obtain ⟨rfl, rfl, rfl⟩ := hp
  refine bX7_disc_4 (fun c => absurd rfl c) (fun _ => ?_)
  refine bX7_disc_7 ?_
  refine v_X7_206 dX7_disc_10 rfl ⟨rfl, rfl, Nat.le_of_ble_eq_true rfl, Nat.le_of_ble_eq_true rfl⟩ (c_refuseLong 3 (by decide) rfl) rfl rfl (Nat.le_of_ble_eq_true rfl) (fun r I1 J1 hp => ?_)
  obtain ⟨rfl, rfl, rfl⟩ := hp
  exact bX7_disc_13 ⟨rfl, rfl, rfl⟩
theorem r0_X6_basis {x1 : Int32} {x2 : Int32} (h : I 4 0 = 0) : Con (EC l D aI aL ad) M_X6_basis yX6_basis [.ref (ad 0), .int x1, .int x2] I J (p_i (-3) (rf I 3) J) := by
  refine Con.of (by decide +kernel) rfl (Nat.le_of_ble_eq_true rfl) ?_
  refine bX6_basis_0 (fun c => absurd h c) (fun _ => ?_)
  refine bX6_basis_10 ?_
  refine v_X6_59 dX6_basis_13 rfl ⟨rfl, rfl, Nat.le_of_ble_eq_true rfl, Nat.le_of_ble_eq_true rfl⟩ (c_refused 3 (by decide) rfl) rfl rfl (Nat.le_of_ble_eq_true rfl) (fun r I1 J1 hp => ?_)
  obtain ⟨rfl, rfl, rfl⟩ := hp
  exact bX6_basis_16 ⟨rfl, rfl, rfl⟩
theorem r0_X7_basis {x1 : Int32} {x2 : Int32} (h : I 0 1 = 0) : Con (ER l D aI aL ad) M_X7_basis yX7_basis [.ref (ad 0), .int x1, .int x2] I J (p_i (-3) (rf I 3) J) := by
  refine Con.of (by decide +kernel) rfl (Nat.le_of_ble_eq_true rfl) ?_
  refine bX7_basis_0 ?_
  refine v_X7_203 dX7_basis_1 rfl ⟨rfl, rfl, Nat.le_of_ble_eq_true rfl, Nat.le_of_ble_eq_true rfl⟩ (c_isField0 h) rfl rfl (Nat.le_of_ble_eq_true rfl) (fun r I1 J1 hp => ?_)
  obtain ⟨rfl, rfl, rfl⟩ := hp
  refine bX7_basis_4 (fun c => absurd rfl c) (fun _ => ?_)
  refine bX7_basis_7 ?_
  refine v_X7_84 dX7_basis_10 rfl ⟨rfl, rfl, Nat.le_of_ble_eq_true rfl, Nat.le_of_ble_eq_true rfl⟩ (c_refuse 3 (by decide) rfl) rfl rfl (Nat.le_of_ble_eq_true rfl) (fun r I1 J1 hp => ?_)
  obtain ⟨rfl, rfl, rfl⟩ := hp
  exact bX7_basis_13 ⟨rfl, rfl, rfl⟩
theorem r0_X6_table {x1 : Int32} {x2 : Int32} {x3 : Int32} (h : I 4 0 = 0) : Con (EC l D aI aL ad) M_X6_table yX6_table [.ref (ad 0), .int x1, .int x2, .int x3] I J (p_i (2000000000 - (-3)) (rf I 3) J) := by
  refine Con.of (by decide +kernel) rfl (Nat.le_of_ble_eq_true rfl) ?_
  refine bX6_table_0 (fun c => absurd h c) (fun _ => ?_)
  refine bX6_table_10 ?_
  refine v_X6_116 dX6_table_13 rfl ⟨rfl, rfl, Nat.le_of_ble_eq_true rfl, Nat.le_of_ble_eq_true rfl⟩ (c_told 3 (by decide) rfl) rfl rfl (Nat.le_of_ble_eq_true rfl) (fun r I1 J1 hp => ?_)
  obtain ⟨rfl, rfl, rfl⟩ := hp
  exact bX6_table_16 ⟨rfl, rfl, rfl⟩
theorem r0_X7_table {x1 : Int32} {x2 : Int32} {x3 : Int32} (h : I 0 1 = 0) : Con (ER l D aI aL ad) M_X7_table yX7_table [.ref (ad 0), .int x1, .int x2, .int x3] I J (p_i (2000000000 - (-3)) (rf I 3) J) := by
  refine Con.of (by decide +kernel) rfl (Nat.le_of_ble_eq_true rfl) ?_
  refine bX7_table_0 ?_
  refine v_X7_203 dX7_table_1 rfl ⟨rfl, rfl, Nat.le_of_ble_eq_true rfl, Nat.le_of_ble_eq_true rfl⟩ (c_isField0 h) rfl rfl (Nat.le_of_ble_eq_true rfl) (fun r I1 J1 hp => ?_)
  obtain ⟨rfl, rfl, rfl⟩ := hp
  refine bX7_table_4 (fun c => absurd rfl c) (fun _ => ?_)
  refine bX7_table_7 ?_
  refine v_X7_214 dX7_table_10 rfl ⟨rfl, rfl, Nat.le_of_ble_eq_true rfl, Nat.le_of_ble_eq_true rfl⟩ (c_refuseFar 3 (by decide) rfl) rfl rfl (Nat.le_of_ble_eq_true rfl) (fun r I1 J1 hp => ?_)
  obtain ⟨rfl, rfl, rfl⟩ := hp
  exact bX7_table_13 ⟨rfl, rfl, rfl⟩
theorem r0_X6_element {x1 : Int32} {x2 : Int32} {x3 : Int32} (h : I 4 0 = 0) : Con (EC l D aI aL ad) M_X6_element yX6_element [.ref (ad 0), .int x1, .int x2, .int x3] I J (p_i (-3) (rf I 3) J) := by
  refine Con.of (by decide +kernel) rfl (Nat.le_of_ble_eq_true rfl) ?_
  refine bX6_element_0 (fun c => absurd h c) (fun _ => ?_)
  refine bX6_element_10 ?_
  refine v_X6_59 dX6_element_13 rfl ⟨rfl, rfl, Nat.le_of_ble_eq_true rfl, Nat.le_of_ble_eq_true rfl⟩ (c_refused 3 (by decide) rfl) rfl rfl (Nat.le_of_ble_eq_true rfl) (fun r I1 J1 hp => ?_)
  obtain ⟨rfl, rfl, rfl⟩ := hp
  exact bX6_element_16 ⟨rfl, rfl, rfl⟩
theorem r0_X7_element {x1 : Int32} {x2 : Int32} {x3 : Int32} (h : I 0 1 = 0) : Con (ER l D aI aL ad) M_X7_element yX7_element [.ref (ad 0), .int x1, .int x2, .int x3] I J (p_i (-3) (rf I 3) J) := by
  refine Con.of (by decide +kernel) rfl (Nat.le_of_ble_eq_true rfl) ?_
  refine bX7_element_0 ?_
  refine v_X7_203 dX7_element_1 rfl ⟨rfl, rfl, Nat.le_of_ble_eq_true rfl, Nat.le_of_ble_eq_true rfl⟩ (c_isField0 h) rfl rfl (Nat.le_of_ble_eq_true rfl) (fun r I1 J1 hp => ?_)
  obtain ⟨rfl, rfl, rfl⟩ := hp
  refine bX7_element_4 (fun c => absurd rfl c) (fun _ => ?_)
  refine bX7_element_7 ?_
  refine v_X7_84 dX7_element_10 rfl ⟨rfl, rfl, Nat.le_of_ble_eq_true rfl, Nat.le_of_ble_eq_true rfl⟩ (c_refuse 3 (by decide) rfl) rfl rfl (Nat.le_of_ble_eq_true rfl) (fun r I1 J1 hp => ?_)
  obtain ⟨rfl, rfl, rfl⟩ := hp
  exact bX7_element_13 ⟨rfl, rfl, rfl⟩
theorem r0_X6_make {x1 : Int32} {x2 : Int32} {x3 : Int32} (h : I 4 0 = 0) : Con (EC l D aI aL ad) M_X6_make yX6_make [.ref (ad 0), .int x1, .int x2, .int x3] I J (p_i (-3) (rf I 3) J) := by
  refine Con.of (by decide +kernel) rfl (Nat.le_of_ble_eq_true rfl) ?_
  refine bX6_make_0 (fun c => absurd h c) (fun _ => ?_)
  refine bX6_make_10 ?_
  refine v_X6_59 dX6_make_13 rfl ⟨rfl, rfl, Nat.le_of_ble_eq_true rfl, Nat.le_of_ble_eq_true rfl⟩ (c_refused 3 (by decide) rfl) rfl rfl (Nat.le_of_ble_eq_true rfl) (fun r I1 J1 hp => ?_)
  obtain ⟨rfl, rfl, rfl⟩ := hp
  exact bX6_make_16 ⟨rfl, rfl, rfl⟩
theorem r0_X7_make {x1 : Int32} {x2 : Int32} {x3 : Int32} (h : I 0 1 = 0) : Con (ER l D aI aL ad) M_X7_make yX7_make [.ref (ad 0), .int x1, .int x2, .int x3] I J (p_i (-3) (rf I 3) J) := by
  refine Con.of (by decide +kernel) rfl (Nat.le_of_ble_eq_true rfl) ?_
  refine bX7_make_0 ?_
  refine v_X7_203 dX7_make_1 rfl ⟨rfl, rfl, Nat.le_of_ble_eq_true rfl, Nat.le_of_ble_eq_true rfl⟩ (c_isField0 h) rfl rfl (Nat.le_of_ble_eq_true rfl) (fun r I1 J1 hp => ?_)
  obtain ⟨rfl, rfl, rfl⟩ := hp
  refine bX7_make_4 (fun c => absurd rfl c) (fun _ => ?_)
  refine bX7_make_7 ?_
  refine v_X7_84 dX7_make_10 rfl ⟨rfl, rfl, Nat.le_of_ble_eq_true rfl, Nat.le_of_ble_eq_true rfl⟩ (c_refuse 3 (by decide) rfl) rfl rfl (Nat.le_of_ble_eq_true rfl) (fun r I1 J1 hp => ?_)
  obtain ⟨rfl, rfl, rfl⟩ := hp
  exact bX7_make_13 ⟨rfl, rfl, rfl⟩
theorem r0_X6_coordinate {x1 : Int32} {x2 : Int32} (h : I 4 0 = 0) : Con (EC l D aI aL ad) M_X6_coordinate yX6_coordinate [.ref (ad 0), .int x1, .int x2] I J (p_i (2000000000 - (-3)) (rf I 3) J) := by
  refine Con.of (by decide +kernel) rfl (Nat.le_of_ble_eq_true rfl) ?_
  refine bX6_coordinate_0 (fun c => absurd h c) (fun _ => ?_)
  refine bX6_coordinate_10 ?_
  refine v_X6_116 dX6_coordinate_13 rfl ⟨rfl, rfl, Nat.le_of_ble_eq_true rfl, Nat.le_of_ble_eq_true rfl⟩ (c_told 3 (by decide) rfl) rfl rfl (Nat.le_of_ble_eq_true rfl) (fun r I1 J1 hp => ?_)
  obtain ⟨rfl, rfl, rfl⟩ := hp
  exact bX6_coordinate_16 ⟨rfl, rfl, rfl⟩
theorem r0_X7_coordinate {x1 : Int32} {x2 : Int32} (h : I 0 1 = 0) : Con (ER l D aI aL ad) M_X7_coordinate yX7_coordinate [.ref (ad 0), .int x1, .int x2] I J (p_i (2000000000 - (-3)) (rf I 3) J) := by
  refine Con.of (by decide +kernel) rfl (Nat.le_of_ble_eq_true rfl) ?_
  refine bX7_coordinate_0 ?_
  refine v_X7_203 dX7_coordinate_1 rfl ⟨rfl, rfl, Nat.le_of_ble_eq_true rfl, Nat.le_of_ble_eq_true rfl⟩ (c_isField0 h) rfl rfl (Nat.le_of_ble_eq_true rfl) (fun r I1 J1 hp => ?_)
  obtain ⟨rfl, rfl, rfl⟩ := hp
  refine bX7_coordinate_4 (fun c => absurd rfl c) (fun _ => ?_)
  refine bX7_coordinate_7 ?_
  refine v_X7_214 dX7_coordinate_10 rfl ⟨rfl, rfl, Nat.le_of_ble_eq_true rfl, Nat.le_of_ble_eq_true rfl⟩ (c_refuseFar 3 (by decide) rfl) rfl rfl (Nat.le_of_ble_eq_true rfl) (fun r I1 J1 hp => ?_)
  obtain ⟨rfl, rfl, rfl⟩ := hp
  exact bX7_coordinate_13 ⟨rfl, rfl, rfl⟩
theorem r0_X6_norm {x1 : Int32} {x2 : Int32} (h : I 4 0 = 0) : Con (EC l D aI aL ad) M_X6_norm yX6_norm [.ref (ad 0), .int x1, .int x2] I J (p_l (4000000000000000000 - (-3 : Int32).toInt64) (rf I 3) J) := by
  refine Con.of (by decide +kernel) rfl (Nat.le_of_ble_eq_true rfl) ?_
  refine bX6_norm_0 (fun c => absurd h c) (fun _ => ?_)
  refine bX6_norm_10 ?_
  refine v_X6_96 dX6_norm_13 rfl ⟨rfl, rfl, Nat.le_of_ble_eq_true rfl, Nat.le_of_ble_eq_true rfl⟩ (c_toldLong 3 (by decide) rfl) rfl rfl (Nat.le_of_ble_eq_true rfl) (fun r I1 J1 hp => ?_)
  obtain ⟨rfl, rfl, rfl⟩ := hp
  exact bX6_norm_16 ⟨rfl, rfl, rfl⟩
theorem r0_X7_norm {x1 : Int32} {x2 : Int32} (h : I 0 1 = 0) : Con (ER l D aI aL ad) M_X7_norm yX7_norm [.ref (ad 0), .int x1, .int x2] I J (p_l (4000000000000000000 - (-3 : Int32).toInt64) (rf I 3) J) := by
  refine Con.of (by decide +kernel) rfl (Nat.le_of_ble_eq_true rfl) ?_
  refine bX7_norm_0 ?_
  refine v_X7_203 dX7_norm_1 rfl ⟨rfl, rfl, Nat.le_of_ble_eq_true rfl, Nat.le_of_ble_eq_true rfl⟩ (c_isField0 h) rfl rfl (Nat.le_of_ble_eq_true rfl) (fun r I1 J1 hp => ?_)
  obtain ⟨rfl, rfl, rfl⟩ := hp
  refine bX7_norm_4 (fun c => absurd rfl c) (fun _ => ?_)
  refine bX7_norm_7 ?_
  refine v_X7_206 dX7_norm_10 rfl ⟨rfl, rfl, Nat.le_of_ble_eq_true rfl, Nat.le_of_ble_eq_true rfl⟩ (c_refuseLong 3 (by decide) rfl) rfl rfl (Nat.le_of_ble_eq_true rfl) (fun r I1 J1 hp => ?_)
  obtain ⟨rfl, rfl, rfl⟩ := hp
  exact bX7_norm_13 ⟨rfl, rfl, rfl⟩
theorem r0_X6_unit {x1 : Int32} (h : I 4 0 = 0) : Con (EC l D aI aL ad) M_X6_unit yX6_unit [.ref (ad 0), .int x1] I J (p_i (-3) (rf I 3) J) := by
  refine Con.of (by decide +kernel) rfl (Nat.le_of_ble_eq_true rfl) ?_
  refine bX6_unit_0 (fun c => absurd h c) (fun _ => ?_)
  refine bX6_unit_10 ?_
  refine v_X6_59 dX6_unit_13 rfl ⟨rfl, rfl, Nat.le_of_ble_eq_true rfl, Nat.le_of_ble_eq_true rfl⟩ (c_refused 3 (by decide) rfl) rfl rfl (Nat.le_of_ble_eq_true rfl) (fun r I1 J1 hp => ?_)
  obtain ⟨rfl, rfl, rfl⟩ := hp
  exact bX6_unit_16 ⟨rfl, rfl, rfl⟩
theorem r0_X7_unit {x1 : Int32} (h : I 0 1 = 0) : Con (ER l D aI aL ad) M_X7_unit yX7_unit [.ref (ad 0), .int x1] I J (p_i (-3) (rf I 3) J) := by
  refine Con.of (by decide +kernel) rfl (Nat.le_of_ble_eq_true rfl) ?_
  refine bX7_unit_0 ?_
  refine v_X7_203 dX7_unit_1 rfl ⟨rfl, rfl, Nat.le_of_ble_eq_true rfl, Nat.le_of_ble_eq_true rfl⟩ (c_isField0 h) rfl rfl (Nat.le_of_ble_eq_true rfl) (fun r I1 J1 hp => ?_)
  obtain ⟨rfl, rfl, rfl⟩ := hp
  refine bX7_unit_4 (fun c => absurd rfl c) (fun _ => ?_)
  refine bX7_unit_7 ?_
  refine v_X7_84 dX7_unit_10 rfl ⟨rfl, rfl, Nat.le_of_ble_eq_true rfl, Nat.le_of_ble_eq_true rfl⟩ (c_refuse 3 (by decide) rfl) rfl rfl (Nat.le_of_ble_eq_true rfl) (fun r I1 J1 hp => ?_)
  obtain ⟨rfl, rfl, rfl⟩ := hp
  exact bX7_unit_13 ⟨rfl, rfl, rfl⟩
theorem r0_X6_ideal {x1 : Int32} {x2 : Int32} (h : I 4 0 = 0) : Con (EC l D aI aL ad) M_X6_ideal yX6_ideal [.ref (ad 0), .int x1, .int x2] I J (p_i (-3) (rf I 3) J) := by
  refine Con.of (by decide +kernel) rfl (Nat.le_of_ble_eq_true rfl) ?_
  refine bX6_ideal_0 (fun c => absurd h c) (fun _ => ?_)
  refine bX6_ideal_10 ?_
  refine v_X6_59 dX6_ideal_13 rfl ⟨rfl, rfl, Nat.le_of_ble_eq_true rfl, Nat.le_of_ble_eq_true rfl⟩ (c_refused 3 (by decide) rfl) rfl rfl (Nat.le_of_ble_eq_true rfl) (fun r I1 J1 hp => ?_)
  obtain ⟨rfl, rfl, rfl⟩ := hp
  exact bX6_ideal_16 ⟨rfl, rfl, rfl⟩
theorem r0_X7_ideal {x1 : Int32} {x2 : Int32} (h : I 0 1 = 0) : Con (ER l D aI aL ad) M_X7_ideal yX7_ideal [.ref (ad 0), .int x1, .int x2] I J (p_i (-3) (rf I 3) J) := by
  refine Con.of (by decide +kernel) rfl (Nat.le_of_ble_eq_true rfl) ?_
  refine bX7_ideal_0 ?_
  refine v_X7_203 dX7_ideal_1 rfl ⟨rfl, rfl, Nat.le_of_ble_eq_true rfl, Nat.le_of_ble_eq_true rfl⟩ (c_isField0 h) rfl rfl (Nat.le_of_ble_eq_true rfl) (fun r I1 J1 hp => ?_)
  obtain ⟨rfl, rfl, rfl⟩ := hp
  refine bX7_ideal_4 (fun c => absurd rfl c) (fun _ => ?_)
  refine bX7_ideal_7 ?_
  refine v_X7_84 dX7_ideal_10 rfl ⟨rfl, rfl, Nat.le_of_ble_eq_true rfl, Nat.le_of_ble_eq_true rfl⟩ (c_refuse 3 (by decide) rfl) rfl rfl (Nat.le_of_ble_eq_true rfl) (fun r I1 J1 hp => ?_)
  obtain ⟨rfl, rfl, rfl⟩ := hp
  exact bX7_ideal_13 ⟨rfl, rfl, rfl⟩
theorem r0_X6_join {x1 : Int32} {x2 : Int32} {x3 : Int32} (h : I 4 0 = 0) : Con (EC l D aI aL ad) M_X6_join yX6_join [.ref (ad 0), .int x1, .int x2, .int x3] I J (p_i (-3) (rf I 3) J) := by
  refine Con.of (by decide +kernel) rfl (Nat.le_of_ble_eq_true rfl) ?_
  refine bX6_join_0 (fun c => absurd h c) (fun _ => ?_)
  refine bX6_join_10 ?_
  refine v_X6_59 dX6_join_13 rfl ⟨rfl, rfl, Nat.le_of_ble_eq_true rfl, Nat.le_of_ble_eq_true rfl⟩ (c_refused 3 (by decide) rfl) rfl rfl (Nat.le_of_ble_eq_true rfl) (fun r I1 J1 hp => ?_)
  obtain ⟨rfl, rfl, rfl⟩ := hp
  exact bX6_join_16 ⟨rfl, rfl, rfl⟩
theorem r0_X7_join {x1 : Int32} {x2 : Int32} {x3 : Int32} (h : I 0 1 = 0) : Con (ER l D aI aL ad) M_X7_join yX7_join [.ref (ad 0), .int x1, .int x2, .int x3] I J (p_i (-3) (rf I 3) J) := by
  refine Con.of (by decide +kernel) rfl (Nat.le_of_ble_eq_true rfl) ?_
  refine bX7_join_0 ?_
  refine v_X7_203 dX7_join_1 rfl ⟨rfl, rfl, Nat.le_of_ble_eq_true rfl, Nat.le_of_ble_eq_true rfl⟩ (c_isField0 h) rfl rfl (Nat.le_of_ble_eq_true rfl) (fun r I1 J1 hp => ?_)
  obtain ⟨rfl, rfl, rfl⟩ := hp
  refine bX7_join_4 (fun c => absurd rfl c) (fun _ => ?_)
  refine bX7_join_7 ?_
  refine v_X7_84 dX7_join_10 rfl ⟨rfl, rfl, Nat.le_of_ble_eq_true rfl, Nat.le_of_ble_eq_true rfl⟩ (c_refuse 3 (by decide) rfl) rfl rfl (Nat.le_of_ble_eq_true rfl) (fun r I1 J1 hp => ?_)
  obtain ⟨rfl, rfl, rfl⟩ := hp
  exact bX7_join_13 ⟨rfl, rfl, rfl⟩
theorem r0_X6_row {x1 : Int32} {x2 : Int32} {x3 : Int32} (h : I 4 0 = 0) : Con (EC l D aI aL ad) M_X6_row yX6_row [.ref (ad 0), .int x1, .int x2, .int x3] I J (p_i (-3) (rf I 3) J) := by
  refine Con.of (by decide +kernel) rfl (Nat.le_of_ble_eq_true rfl) ?_
  refine bX6_row_0 (fun c => absurd h c) (fun _ => ?_)
  refine bX6_row_10 ?_
  refine v_X6_59 dX6_row_13 rfl ⟨rfl, rfl, Nat.le_of_ble_eq_true rfl, Nat.le_of_ble_eq_true rfl⟩ (c_refused 3 (by decide) rfl) rfl rfl (Nat.le_of_ble_eq_true rfl) (fun r I1 J1 hp => ?_)
  obtain ⟨rfl, rfl, rfl⟩ := hp
  exact bX6_row_16 ⟨rfl, rfl, rfl⟩
theorem r0_X7_row {x1 : Int32} {x2 : Int32} {x3 : Int32} (h : I 0 1 = 0) : Con (ER l D aI aL ad) M_X7_row yX7_row [.ref (ad 0), .int x1, .int x2, .int x3] I J (p_i (-3) (rf I 3) J) := by
  refine Con.of (by decide +kernel) rfl (Nat.le_of_ble_eq_true rfl) ?_
  refine bX7_row_0 ?_
  refine v_X7_203 dX7_row_1 rfl ⟨rfl, rfl, Nat.le_of_ble_eq_true rfl, Nat.le_of_ble_eq_true rfl⟩ (c_isField0 h) rfl rfl (Nat.le_of_ble_eq_true rfl) (fun r I1 J1 hp => ?_)
  obtain ⟨rfl, rfl, rfl⟩ := hp
  refine bX7_row_4 (fun c => absurd rfl c) (fun _ => ?_)
  refine bX7_row_7 ?_
  refine v_X7_84 dX7_row_10 rfl ⟨rfl, rfl, Nat.le_of_ble_eq_true rfl, Nat.le_of_ble_eq_true rfl⟩ (c_refuse 3 (by decide) rfl) rfl rfl (Nat.le_of_ble_eq_true rfl) (fun r I1 J1 hp => ?_)
  obtain ⟨rfl, rfl, rfl⟩ := hp
  exact bX7_row_13 ⟨rfl, rfl, rfl⟩
theorem r0_X6_idealOf {x1 : Int32} {x2 : Int32} (h : I 4 0 = 0) : Con (EC l D aI aL ad) M_X6_idealOf yX6_idealOf [.ref (ad 0), .int x1, .int x2] I J (p_i (-3) (rf I 3) J) := by
  refine Con.of (by decide +kernel) rfl (Nat.le_of_ble_eq_true rfl) ?_
  refine bX6_idealOf_0 (fun c => absurd h c) (fun _ => ?_)
  refine bX6_idealOf_10 ?_
  refine v_X6_59 dX6_idealOf_13 rfl ⟨rfl, rfl, Nat.le_of_ble_eq_true rfl, Nat.le_of_ble_eq_true rfl⟩ (c_refused 3 (by decide) rfl) rfl rfl (Nat.le_of_ble_eq_true rfl) (fun r I1 J1 hp => ?_)
  obtain ⟨rfl, rfl, rfl⟩ := hp
  exact bX6_idealOf_16 ⟨rfl, rfl, rfl⟩
theorem r0_X7_idealOf {x1 : Int32} {x2 : Int32} (h : I 0 1 = 0) : Con (ER l D aI aL ad) M_X7_idealOf yX7_idealOf [.ref (ad 0), .int x1, .int x2] I J (p_i (-3) (rf I 3) J) := by
  refine Con.of (by decide +kernel) rfl (Nat.le_of_ble_eq_true rfl) ?_
  refine bX7_idealOf_0 ?_
  refine v_X7_203 dX7_idealOf_1 rfl ⟨rfl, rfl, Nat.le_of_ble_eq_true rfl, Nat.le_of_ble_eq_true rfl⟩ (c_isField0 h) rfl rfl (Nat.le_of_ble_eq_true rfl) (fun r I1 J1 hp => ?_)
  obtain ⟨rfl, rfl, rfl⟩ := hp
  refine bX7_idealOf_4 (fun c => absurd rfl c) (fun _ => ?_)
  refine bX7_idealOf_7 ?_
  refine v_X7_84 dX7_idealOf_10 rfl ⟨rfl, rfl, Nat.le_of_ble_eq_true rfl, Nat.le_of_ble_eq_true rfl⟩ (c_refuse 3 (by decide) rfl) rfl rfl (Nat.le_of_ble_eq_true rfl) (fun r I1 J1 hp => ?_)
  obtain ⟨rfl, rfl, rfl⟩ := hp
  exact bX7_idealOf_13 ⟨rfl, rfl, rfl⟩
theorem r0_X6_in {x1 : Int32} {x2 : Int32} (h : I 4 0 = 0) : Con (EC l D aI aL ad) M_X6_in yX6_in [.ref (ad 0), .int x1, .int x2] I J (p_i (-3) (rf I 3) J) := by
  refine Con.of (by decide +kernel) rfl (Nat.le_of_ble_eq_true rfl) ?_
  refine bX6_in_0 (fun c => absurd h c) (fun _ => ?_)
  refine bX6_in_10 ?_
  refine v_X6_59 dX6_in_13 rfl ⟨rfl, rfl, Nat.le_of_ble_eq_true rfl, Nat.le_of_ble_eq_true rfl⟩ (c_refused 3 (by decide) rfl) rfl rfl (Nat.le_of_ble_eq_true rfl) (fun r I1 J1 hp => ?_)
  obtain ⟨rfl, rfl, rfl⟩ := hp
  exact bX6_in_16 ⟨rfl, rfl, rfl⟩
theorem r0_X7_in {x1 : Int32} {x2 : Int32} (h : I 0 1 = 0) : Con (ER l D aI aL ad) M_X7_in yX7_in [.ref (ad 0), .int x1, .int x2] I J (p_i (-3) (rf I 3) J) := by
  refine Con.of (by decide +kernel) rfl (Nat.le_of_ble_eq_true rfl) ?_
  refine bX7_in_0 ?_
  refine v_X7_203 dX7_in_1 rfl ⟨rfl, rfl, Nat.le_of_ble_eq_true rfl, Nat.le_of_ble_eq_true rfl⟩ (c_isField0 h) rfl rfl (Nat.le_of_ble_eq_true rfl) (fun r I1 J1 hp => ?_)
  obtain ⟨rfl, rfl, rfl⟩ := hp
  refine bX7_in_4 (fun c => absurd rfl c) (fun _ => ?_)
  refine bX7_in_7 ?_
  refine v_X7_84 dX7_in_10 rfl ⟨rfl, rfl, Nat.le_of_ble_eq_true rfl, Nat.le_of_ble_eq_true rfl⟩ (c_refuse 3 (by decide) rfl) rfl rfl (Nat.le_of_ble_eq_true rfl) (fun r I1 J1 hp => ?_)
  obtain ⟨rfl, rfl, rfl⟩ := hp
  exact bX7_in_13 ⟨rfl, rfl, rfl⟩
theorem r0_X6_divides {x1 : Int32} {x2 : Int32} (h : I 4 0 = 0) : Con (EC l D aI aL ad) M_X6_divides yX6_divides [.ref (ad 0), .int x1, .int x2] I J (p_i (-3) (rf I 3) J) := by
  refine Con.of (by decide +kernel) rfl (Nat.le_of_ble_eq_true rfl) ?_
  refine bX6_divides_0 (fun c => absurd h c) (fun _ => ?_)
  refine bX6_divides_10 ?_
  refine v_X6_59 dX6_divides_13 rfl ⟨rfl, rfl, Nat.le_of_ble_eq_true rfl, Nat.le_of_ble_eq_true rfl⟩ (c_refused 3 (by decide) rfl) rfl rfl (Nat.le_of_ble_eq_true rfl) (fun r I1 J1 hp => ?_)
  obtain ⟨rfl, rfl, rfl⟩ := hp
  exact bX6_divides_16 ⟨rfl, rfl, rfl⟩
theorem r0_X7_divides {x1 : Int32} {x2 : Int32} (h : I 0 1 = 0) : Con (ER l D aI aL ad) M_X7_divides yX7_divides [.ref (ad 0), .int x1, .int x2] I J (p_i (-3) (rf I 3) J) := by
  refine Con.of (by decide +kernel) rfl (Nat.le_of_ble_eq_true rfl) ?_
  refine bX7_divides_0 ?_
  refine v_X7_203 dX7_divides_1 rfl ⟨rfl, rfl, Nat.le_of_ble_eq_true rfl, Nat.le_of_ble_eq_true rfl⟩ (c_isField0 h) rfl rfl (Nat.le_of_ble_eq_true rfl) (fun r I1 J1 hp => ?_)
  obtain ⟨rfl, rfl, rfl⟩ := hp
  refine bX7_divides_4 (fun c => absurd rfl c) (fun _ => ?_)
  refine bX7_divides_7 ?_
  refine v_X7_84 dX7_divides_10 rfl ⟨rfl, rfl, Nat.le_of_ble_eq_true rfl, Nat.le_of_ble_eq_true rfl⟩ (c_refuse 3 (by decide) rfl) rfl rfl (Nat.le_of_ble_eq_true rfl) (fun r I1 J1 hp => ?_)
  obtain ⟨rfl, rfl, rfl⟩ := hp
  exact bX7_divides_13 ⟨rfl, rfl, rfl⟩
theorem r0_X6_primes {x1 : Int32} (h : I 4 0 = 0) : Con (EC l D aI aL ad) M_X6_primes yX6_primes [.ref (ad 0), .int x1] I J (p_i (-3) (rf I 3) J) := by
  refine Con.of (by decide +kernel) rfl (Nat.le_of_ble_eq_true rfl) ?_
  refine bX6_primes_0 (fun c => absurd h c) (fun _ => ?_)
  refine bX6_primes_10 ?_
  refine v_X6_59 dX6_primes_13 rfl ⟨rfl, rfl, Nat.le_of_ble_eq_true rfl, Nat.le_of_ble_eq_true rfl⟩ (c_refused 3 (by decide) rfl) rfl rfl (Nat.le_of_ble_eq_true rfl) (fun r I1 J1 hp => ?_)
  obtain ⟨rfl, rfl, rfl⟩ := hp
  exact bX6_primes_16 ⟨rfl, rfl, rfl⟩
theorem r0_X7_primes {x1 : Int32} (h : I 0 1 = 0) : Con (ER l D aI aL ad) M_X7_primes yX7_primes [.ref (ad 0), .int x1] I J (p_i (-3) (rf I 3) J) := by
  refine Con.of (by decide +kernel) rfl (Nat.le_of_ble_eq_true rfl) ?_
  refine bX7_primes_0 ?_
  refine v_X7_203 dX7_primes_1 rfl ⟨rfl, rfl, Nat.le_of_ble_eq_true rfl, Nat.le_of_ble_eq_true rfl⟩ (c_isField0 h) rfl rfl (Nat.le_of_ble_eq_true rfl) (fun r I1 J1 hp => ?_)
  obtain ⟨rfl, rfl, rfl⟩ := hp
  refine bX7_primes_4 (fun c => absurd rfl c) (fun _ => ?_)
  refine bX7_primes_7 ?_
  refine v_X7_84 dX7_primes_10 rfl ⟨rfl, rfl, Nat.le_of_ble_eq_true rfl, Nat.le_of_ble_eq_true rfl⟩ (c_refuse 3 (by decide) rfl) rfl rfl (Nat.le_of_ble_eq_true rfl) (fun r I1 J1 hp => ?_)
  obtain ⟨rfl, rfl, rfl⟩ := hp
  exact bX7_primes_13 ⟨rfl, rfl, rfl⟩
theorem r0_X6_prime {x1 : Int32} {x2 : Int32} {x3 : Int32} (h : I 4 0 = 0) : Con (EC l D aI aL ad) M_X6_prime yX6_prime [.ref (ad 0), .int x1, .int x2, .int x3] I J (p_i (-3) (rf I 3) J) := by
  refine Con.of (by decide +kernel) rfl (Nat.le_of_ble_eq_true rfl) ?_
  refine bX6_prime_0 (fun c => absurd h c) (fun _ => ?_)
  refine bX6_prime_10 ?_
  refine v_X6_59 dX6_prime_13 rfl ⟨rfl, rfl, Nat.le_of_ble_eq_true rfl, Nat.le_of_ble_eq_true rfl⟩ (c_refused 3 (by decide) rfl) rfl rfl (Nat.le_of_ble_eq_true rfl) (fun r I1 J1 hp => ?_)
  obtain ⟨rfl, rfl, rfl⟩ := hp
  exact bX6_prime_16 ⟨rfl, rfl, rfl⟩
theorem r0_X7_prime {x1 : Int32} {x2 : Int32} {x3 : Int32} (h : I 0 1 = 0) : Con (ER l D aI aL ad) M_X7_prime yX7_prime [.ref (ad 0), .int x1, .int x2, .int x3] I J (p_i (-3) (rf I 3) J) := by
  refine Con.of (by decide +kernel) rfl (Nat.le_of_ble_eq_true rfl) ?_
  refine bX7_prime_0 ?_
  refine v_X7_203 dX7_prime_1 rfl ⟨rfl, rfl, Nat.le_of_ble_eq_true rfl, Nat.le_of_ble_eq_true rfl⟩ (c_isField0 h) rfl rfl (Nat.le_of_ble_eq_true rfl) (fun r I1 J1 hp => ?_)
  obtain ⟨rfl, rfl, rfl⟩ := hp
  refine bX7_prime_4 (fun c => absurd rfl c) (fun _ => ?_)
  refine bX7_prime_7 ?_
  refine v_X7_84 dX7_prime_10 rfl ⟨rfl, rfl, Nat.le_of_ble_eq_true rfl, Nat.le_of_ble_eq_true rfl⟩ (c_refuse 3 (by decide) rfl) rfl rfl (Nat.le_of_ble_eq_true rfl) (fun r I1 J1 hp => ?_)
  obtain ⟨rfl, rfl, rfl⟩ := hp
  exact bX7_prime_13 ⟨rfl, rfl, rfl⟩
theorem r0_X6_take {x1 : Int32} {x2 : Int32} (h : I 4 0 = 0) : Con (EC l D aI aL ad) M_X6_take yX6_take [.ref (ad 0), .int x1, .int x2] I J (p_i (-3) (rf I 3) J) := by
  refine Con.of (by decide +kernel) rfl (Nat.le_of_ble_eq_true rfl) ?_
  refine bX6_take_0 (fun c => absurd h c) (fun _ => ?_)
  refine bX6_take_10 ?_
  refine v_X6_59 dX6_take_13 rfl ⟨rfl, rfl, Nat.le_of_ble_eq_true rfl, Nat.le_of_ble_eq_true rfl⟩ (c_refused 3 (by decide) rfl) rfl rfl (Nat.le_of_ble_eq_true rfl) (fun r I1 J1 hp => ?_)
  obtain ⟨rfl, rfl, rfl⟩ := hp
  exact bX6_take_16 ⟨rfl, rfl, rfl⟩
theorem r0_X7_take {x1 : Int32} {x2 : Int32} (h : I 0 1 = 0) : Con (ER l D aI aL ad) M_X7_take yX7_take [.ref (ad 0), .int x1, .int x2] I J (p_i (-3) (rf I 3) J) := by
  refine Con.of (by decide +kernel) rfl (Nat.le_of_ble_eq_true rfl) ?_
  refine bX7_take_0 ?_
  refine v_X7_203 dX7_take_1 rfl ⟨rfl, rfl, Nat.le_of_ble_eq_true rfl, Nat.le_of_ble_eq_true rfl⟩ (c_isField0 h) rfl rfl (Nat.le_of_ble_eq_true rfl) (fun r I1 J1 hp => ?_)
  obtain ⟨rfl, rfl, rfl⟩ := hp
  refine bX7_take_4 (fun c => absurd rfl c) (fun _ => ?_)
  refine bX7_take_7 ?_
  refine v_X7_84 dX7_take_10 rfl ⟨rfl, rfl, Nat.le_of_ble_eq_true rfl, Nat.le_of_ble_eq_true rfl⟩ (c_refuse 3 (by decide) rfl) rfl rfl (Nat.le_of_ble_eq_true rfl) (fun r I1 J1 hp => ?_)
  obtain ⟨rfl, rfl, rfl⟩ := hp
  exact bX7_take_13 ⟨rfl, rfl, rfl⟩
theorem r0_X6_times {x1 : Int32} {x2 : Int32} {x3 : Int32} (h : I 4 0 = 0) : Con (EC l D aI aL ad) M_X6_times yX6_times [.ref (ad 0), .int x1, .int x2, .int x3] I J (p_i (-3) (rf I 3) J) := by
  refine Con.of (by decide +kernel) rfl (Nat.le_of_ble_eq_true rfl) ?_
  refine bX6_times_0 (fun c => absurd h c) (fun _ => ?_)
  refine bX6_times_10 ?_
  refine v_X6_59 dX6_times_13 rfl ⟨rfl, rfl, Nat.le_of_ble_eq_true rfl, Nat.le_of_ble_eq_true rfl⟩ (c_refused 3 (by decide) rfl) rfl rfl (Nat.le_of_ble_eq_true rfl) (fun r I1 J1 hp => ?_)
  obtain ⟨rfl, rfl, rfl⟩ := hp
  exact bX6_times_16 ⟨rfl, rfl, rfl⟩
theorem r0_X7_times {x1 : Int32} {x2 : Int32} {x3 : Int32} (h : I 0 1 = 0) : Con (ER l D aI aL ad) M_X7_times yX7_times [.ref (ad 0), .int x1, .int x2, .int x3] I J (p_i (-3) (rf I 3) J) := by
  refine Con.of (by decide +kernel) rfl (Nat.le_of_ble_eq_true rfl) ?_
  refine bX7_times_0 ?_
  refine v_X7_203 dX7_times_1 rfl ⟨rfl, rfl, Nat.le_of_ble_eq_true rfl, Nat.le_of_ble_eq_true rfl⟩ (c_isField0 h) rfl rfl (Nat.le_of_ble_eq_true rfl) (fun r I1 J1 hp => ?_)
  obtain ⟨rfl, rfl, rfl⟩ := hp
  refine bX7_times_4 (fun c => absurd rfl c) (fun _ => ?_)
  refine bX7_times_7 ?_
  refine v_X7_84 dX7_times_10 rfl ⟨rfl, rfl, Nat.le_of_ble_eq_true rfl, Nat.le_of_ble_eq_true rfl⟩ (c_refuse 3 (by decide) rfl) rfl rfl (Nat.le_of_ble_eq_true rfl) (fun r I1 J1 hp => ?_)
  obtain ⟨rfl, rfl, rfl⟩ := hp
  exact bX7_times_13 ⟨rfl, rfl, rfl⟩
theorem r0_X6_classes  (h : I 4 0 = 0) : Con (EC l D aI aL ad) M_X6_classes yX6_classes [.ref (ad 0)] I J (p_i (-3) (rf I 3) J) := by
  refine Con.of (by decide +kernel) rfl (Nat.le_of_ble_eq_true rfl) ?_
  refine bX6_classes_0 (fun c => absurd h c) (fun _ => ?_)
  refine bX6_classes_10 ?_
  refine v_X6_59 dX6_classes_13 rfl ⟨rfl, rfl, Nat.le_of_ble_eq_true rfl, Nat.le_of_ble_eq_true rfl⟩ (c_refused 3 (by decide) rfl) rfl rfl (Nat.le_of_ble_eq_true rfl) (fun r I1 J1 hp => ?_)
  obtain ⟨rfl, rfl, rfl⟩ := hp
  exact bX6_classes_16 ⟨rfl, rfl, rfl⟩
theorem r0_X7_classes  (h : I 0 1 = 0) : Con (ER l D aI aL ad) M_X7_classes yX7_classes [.ref (ad 0)] I J (p_i (-3) (rf I 3) J) := by
  refine Con.of (by decide +kernel) rfl (Nat.le_of_ble_eq_true rfl) ?_
  refine bX7_classes_0 ?_
  refine v_X7_369 dX7_classes_1 rfl ⟨rfl, rfl, Nat.le_of_ble_eq_true rfl, Nat.le_of_ble_eq_true rfl⟩ (c_wrongForms0 h) rfl rfl (Nat.le_of_ble_eq_true rfl) (fun r I1 J1 hp => ?_)
  obtain ⟨rfl, rfl, rfl⟩ := hp
  refine bX7_classes_4 (fun c => absurd c (by decide)) (fun _ => ?_)
  refine bX7_classes_9 ?_
  refine v_X7_84 dX7_classes_11 rfl ⟨rfl, rfl, Nat.le_of_ble_eq_true rfl, Nat.le_of_ble_eq_true rfl⟩ (c_refuse 3 (by decide) rfl) rfl rfl (Nat.le_of_ble_eq_true rfl) (fun r I1 J1 hp => ?_)
  obtain ⟨rfl, rfl, rfl⟩ := hp
  exact bX7_classes_14 ⟨rfl, rfl, rfl⟩
theorem r0_X6_form {x1 : Int32} {x2 : Int32} (h : I 4 0 = 0) : Con (EC l D aI aL ad) M_X6_form yX6_form [.ref (ad 0), .int x1, .int x2] I J (p_i (2000000000 - (-3)) (rf I 3) J) := by
  refine Con.of (by decide +kernel) rfl (Nat.le_of_ble_eq_true rfl) ?_
  refine bX6_form_0 (fun c => absurd h c) (fun _ => ?_)
  refine bX6_form_10 ?_
  refine v_X6_116 dX6_form_13 rfl ⟨rfl, rfl, Nat.le_of_ble_eq_true rfl, Nat.le_of_ble_eq_true rfl⟩ (c_told 3 (by decide) rfl) rfl rfl (Nat.le_of_ble_eq_true rfl) (fun r I1 J1 hp => ?_)
  obtain ⟨rfl, rfl, rfl⟩ := hp
  exact bX6_form_16 ⟨rfl, rfl, rfl⟩
theorem r0_X7_form {x1 : Int32} {x2 : Int32} (h : I 0 1 = 0) : Con (ER l D aI aL ad) M_X7_form yX7_form [.ref (ad 0), .int x1, .int x2] I J (p_i (2000000000 - (-3)) (rf I 3) J) := by
  refine Con.of (by decide +kernel) rfl (Nat.le_of_ble_eq_true rfl) ?_
  refine bX7_form_0 ?_
  refine v_X7_369 dX7_form_1 rfl ⟨rfl, rfl, Nat.le_of_ble_eq_true rfl, Nat.le_of_ble_eq_true rfl⟩ (c_wrongForms0 h) rfl rfl (Nat.le_of_ble_eq_true rfl) (fun r I1 J1 hp => ?_)
  obtain ⟨rfl, rfl, rfl⟩ := hp
  refine bX7_form_4 (fun _ => ?_) (fun c => absurd c (by decide))
  refine bX7_form_20 (fun c => absurd c (by decide)) (fun _ => ?_)
  refine bX7_form_24 ?_
  refine v_X7_214 dX7_form_26 rfl ⟨rfl, rfl, Nat.le_of_ble_eq_true rfl, Nat.le_of_ble_eq_true rfl⟩ (c_refuseFar 3 (by decide) rfl) rfl rfl (Nat.le_of_ble_eq_true rfl) (fun r I1 J1 hp => ?_)
  obtain ⟨rfl, rfl, rfl⟩ := hp
  exact bX7_form_29 ⟨rfl, rfl, rfl⟩
theorem r0_X6_classOf {x1 : Int32} (h : I 4 0 = 0) : Con (EC l D aI aL ad) M_X6_classOf yX6_classOf [.ref (ad 0), .int x1] I J (p_i (-3) (rf I 3) J) := by
  refine Con.of (by decide +kernel) rfl (Nat.le_of_ble_eq_true rfl) ?_
  refine bX6_classOf_0 (fun c => absurd h c) (fun _ => ?_)
  refine bX6_classOf_10 ?_
  refine v_X6_59 dX6_classOf_13 rfl ⟨rfl, rfl, Nat.le_of_ble_eq_true rfl, Nat.le_of_ble_eq_true rfl⟩ (c_refused 3 (by decide) rfl) rfl rfl (Nat.le_of_ble_eq_true rfl) (fun r I1 J1 hp => ?_)
  obtain ⟨rfl, rfl, rfl⟩ := hp
  exact bX6_classOf_16 ⟨rfl, rfl, rfl⟩
theorem r0_X7_classOf {x1 : Int32} (h : I 0 1 = 0) : Con (ER l D aI aL ad) M_X7_classOf yX7_classOf [.ref (ad 0), .int x1] I J (p_i (-3) (rf I 3) J) := by
  refine Con.of (by decide +kernel) rfl (Nat.le_of_ble_eq_true rfl) ?_
  refine bX7_classOf_0 ?_
  refine v_X7_369 dX7_classOf_1 rfl ⟨rfl, rfl, Nat.le_of_ble_eq_true rfl, Nat.le_of_ble_eq_true rfl⟩ (c_wrongForms0 h) rfl rfl (Nat.le_of_ble_eq_true rfl) (fun r I1 J1 hp => ?_)
  obtain ⟨rfl, rfl, rfl⟩ := hp
  refine bX7_classOf_4 (fun _ => ?_) (fun c => absurd c (by decide))
  refine bX7_classOf_19 (fun c => absurd c (by decide)) (fun _ => ?_)
  refine bX7_classOf_23 ?_
  refine v_X7_84 dX7_classOf_25 rfl ⟨rfl, rfl, Nat.le_of_ble_eq_true rfl, Nat.le_of_ble_eq_true rfl⟩ (c_refuse 3 (by decide) rfl) rfl rfl (Nat.le_of_ble_eq_true rfl) (fun r I1 J1 hp => ?_)
  obtain ⟨rfl, rfl, rfl⟩ := hp
  exact bX7_classOf_28 ⟨rfl, rfl, rfl⟩
theorem r0_X6_order {x1 : Int32} (h : I 4 0 = 0) : Con (EC l D aI aL ad) M_X6_order yX6_order [.ref (ad 0), .int x1] I J (p_i (-3) (rf I 3) J) := by
  refine Con.of (by decide +kernel) rfl (Nat.le_of_ble_eq_true rfl) ?_
  refine bX6_order_0 (fun c => absurd h c) (fun _ => ?_)
  refine bX6_order_10 ?_
  refine v_X6_59 dX6_order_13 rfl ⟨rfl, rfl, Nat.le_of_ble_eq_true rfl, Nat.le_of_ble_eq_true rfl⟩ (c_refused 3 (by decide) rfl) rfl rfl (Nat.le_of_ble_eq_true rfl) (fun r I1 J1 hp => ?_)
  obtain ⟨rfl, rfl, rfl⟩ := hp
  exact bX6_order_16 ⟨rfl, rfl, rfl⟩
theorem r0_X7_order {x1 : Int32} (h : I 0 1 = 0) : Con (ER l D aI aL ad) M_X7_order yX7_order [.ref (ad 0), .int x1] I J (p_i (-3) (rf I 3) J) := by
  refine Con.of (by decide +kernel) rfl (Nat.le_of_ble_eq_true rfl) ?_
  refine bX7_order_0 ?_
  refine v_X7_369 dX7_order_1 rfl ⟨rfl, rfl, Nat.le_of_ble_eq_true rfl, Nat.le_of_ble_eq_true rfl⟩ (c_wrongForms0 h) rfl rfl (Nat.le_of_ble_eq_true rfl) (fun r I1 J1 hp => ?_)
  obtain ⟨rfl, rfl, rfl⟩ := hp
  refine bX7_order_4 (fun _ => ?_) (fun c => absurd c (by decide))
  refine bX7_order_19 (fun c => absurd c (by decide)) (fun _ => ?_)
  refine bX7_order_23 ?_
  refine v_X7_84 dX7_order_25 rfl ⟨rfl, rfl, Nat.le_of_ble_eq_true rfl, Nat.le_of_ble_eq_true rfl⟩ (c_refuse 3 (by decide) rfl) rfl rfl (Nat.le_of_ble_eq_true rfl) (fun r I1 J1 hp => ?_)
  obtain ⟨rfl, rfl, rfl⟩ := hp
  exact bX7_order_28 ⟨rfl, rfl, rfl⟩
theorem r0_X6_first {x1 : Int32} (h : I 4 0 = 0) : Con (EC l D aI aL ad) M_X6_first yX6_first [.ref (ad 0), .int x1] I J (p_l (4000000000000000000 - (-3 : Int32).toInt64) (rf I 3) J) := by
  refine Con.of (by decide +kernel) rfl (Nat.le_of_ble_eq_true rfl) ?_
  refine bX6_first_0 (fun c => absurd h c) (fun _ => ?_)
  refine bX6_first_10 ?_
  refine v_X6_96 dX6_first_13 rfl ⟨rfl, rfl, Nat.le_of_ble_eq_true rfl, Nat.le_of_ble_eq_true rfl⟩ (c_toldLong 3 (by decide) rfl) rfl rfl (Nat.le_of_ble_eq_true rfl) (fun r I1 J1 hp => ?_)
  obtain ⟨rfl, rfl, rfl⟩ := hp
  exact bX6_first_16 ⟨rfl, rfl, rfl⟩
theorem r0_X7_first {x1 : Int32} (h : I 0 1 = 0) : Con (ER l D aI aL ad) M_X7_first yX7_first [.ref (ad 0), .int x1] I J (p_l (4000000000000000000 - (-3 : Int32).toInt64) (rf I 3) J) := by
  refine Con.of (by decide +kernel) rfl (Nat.le_of_ble_eq_true rfl) ?_
  refine bX7_first_0 ?_
  refine v_X7_203 dX7_first_1 rfl ⟨rfl, rfl, Nat.le_of_ble_eq_true rfl, Nat.le_of_ble_eq_true rfl⟩ (c_isField0 h) rfl rfl (Nat.le_of_ble_eq_true rfl) (fun r I1 J1 hp => ?_)
  obtain ⟨rfl, rfl, rfl⟩ := hp
  refine bX7_first_4 (fun c => absurd rfl c) (fun _ => ?_)
  refine bX7_first_7 ?_
  refine v_X7_206 dX7_first_10 rfl ⟨rfl, rfl, Nat.le_of_ble_eq_true rfl, Nat.le_of_ble_eq_true rfl⟩ (c_refuseLong 3 (by decide) rfl) rfl rfl (Nat.le_of_ble_eq_true rfl) (fun r I1 J1 hp => ?_)
  obtain ⟨rfl, rfl, rfl⟩ := hp
  exact bX7_first_13 ⟨rfl, rfl, rfl⟩
end NF
