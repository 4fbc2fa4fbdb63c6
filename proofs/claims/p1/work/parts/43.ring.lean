section RG
variable {l : Launch} {D : va_G} {aI aL : ClassId} {ad : Nat → Nat} {I : sa_I} {J : sa_J}
theorem c_startBasis  : Con (EC l D aI aL ad) M_X4_startBasis yX4_startBasis [.ref (ad 4)] I J (fun r I1 J1 => r = none ∧ I1 = I ∧ (∀ j, j < 9 → J1 6 j = if j % 4 = 0 then 1 else 0) ∧ (∀ j, j < 3 → J1 7 j = 1) ∧ ∀ q, q ≠ 6 → q ≠ 7 → J1 q = J q) := by
  refine Con.of (by decide +kernel) rfl (Nat.le_of_ble_eq_true rfl) ?_
  refine bX4_startBasis_0 (v1 := nI 0) (by first | rfl) ?_
  refine bX4_startBasis_2  (fun c => absurd c (by first | decide)) (fun _ => ?_)
  refine bX4_startBasis_8  (fun c => absurd c (by first | decide)) (fun _ => ?_)
  refine bX4_startBasis_19  ?_
  refine bX4_startBasis_24 (s1 := 0) (v25 := nI 1) (by decide) (by first | rfl) ?_
  refine bX4_startBasis_2  (fun c => absurd c (by first | decide)) (fun _ => ?_)
  refine bX4_startBasis_8  (fun _ => ?_) (fun c => absurd c (by first | decide))
  refine bX4_startBasis_23  ?_
  refine bX4_startBasis_24 (s1 := 1) (v25 := nI 2) (by decide) (by first | rfl) ?_
  refine bX4_startBasis_2  (fun c => absurd c (by first | decide)) (fun _ => ?_)
  refine bX4_startBasis_8  (fun _ => ?_) (fun c => absurd c (by first | decide))
  refine bX4_startBasis_23  ?_
  refine bX4_startBasis_24 (s1 := 2) (v25 := nI 3) (by decide) (by first | rfl) ?_
  refine bX4_startBasis_2  (fun c => absurd c (by first | decide)) (fun _ => ?_)
  refine bX4_startBasis_8  (fun _ => ?_) (fun c => absurd c (by first | decide))
  refine bX4_startBasis_23  ?_
  refine bX4_startBasis_24 (s1 := 3) (v25 := nI 4) (by decide) (by first | rfl) ?_
  refine bX4_startBasis_2  (fun c => absurd c (by first | decide)) (fun _ => ?_)
  refine bX4_startBasis_8  (fun c => absurd c (by first | decide)) (fun _ => ?_)
  refine bX4_startBasis_19  ?_
  refine bX4_startBasis_24 (s1 := 4) (v25 := nI 5) (by decide) (by first | rfl) ?_
  refine bX4_startBasis_2  (fun c => absurd c (by first | decide)) (fun _ => ?_)
  refine bX4_startBasis_8  (fun _ => ?_) (fun c => absurd c (by first | decide))
  refine bX4_startBasis_23  ?_
  refine bX4_startBasis_24 (s1 := 5) (v25 := nI 6) (by decide) (by first | rfl) ?_
  refine bX4_startBasis_2  (fun c => absurd c (by first | decide)) (fun _ => ?_)
  refine bX4_startBasis_8  (fun _ => ?_) (fun c => absurd c (by first | decide))
  refine bX4_startBasis_23  ?_
  refine bX4_startBasis_24 (s1 := 6) (v25 := nI 7) (by decide) (by first | rfl) ?_
  refine bX4_startBasis_2  (fun c => absurd c (by first | decide)) (fun _ => ?_)
  refine bX4_startBasis_8  (fun _ => ?_) (fun c => absurd c (by first | decide))
  refine bX4_startBasis_23  ?_
  refine bX4_startBasis_24 (s1 := 7) (v25 := nI 8) (by decide) (by first | rfl) ?_
  refine bX4_startBasis_2  (fun c => absurd c (by first | decide)) (fun _ => ?_)
  refine bX4_startBasis_8  (fun c => absurd c (by first | decide)) (fun _ => ?_)
  refine bX4_startBasis_19  ?_
  refine bX4_startBasis_24 (s1 := 8) (v25 := nI 9) (by decide) (by first | rfl) ?_
  refine bX4_startBasis_2  (fun _ => ?_) (fun c => absurd c (by first | decide))
  refine bX4_startBasis_31 (v32 := nI 0) (by first | rfl) ?_
  refine bX4_startBasis_33  (fun c => absurd c (by first | decide)) (fun _ => ?_)
  refine bX4_startBasis_38 (j42 := 0) (v45 := nI 1) (by first | rfl) (by decide) rfl (by first | rfl) ?_
  refine bX4_startBasis_33  (fun c => absurd c (by first | decide)) (fun _ => ?_)
  refine bX4_startBasis_38 (j42 := 1) (v45 := nI 2) (by first | rfl) (by decide) rfl (by first | rfl) ?_
  refine bX4_startBasis_33  (fun c => absurd c (by first | decide)) (fun _ => ?_)
  refine bX4_startBasis_38 (j42 := 2) (v45 := nI 3) (by first | rfl) (by decide) rfl (by first | rfl) ?_
  refine bX4_startBasis_33  (fun _ => ?_) (fun c => absurd c (by first | decide))
  exact bX4_startBasis_51  ⟨rfl, rfl, fun j hj => by rcases (show j = 0 ∨ j = 1 ∨ j = 2 ∨ j = 3 ∨ j = 4 ∨ j = 5 ∨ j = 6 ∨ j = 7 ∨ j = 8 by omega) with rfl | rfl | rfl | rfl | rfl | rfl | rfl | rfl | rfl <;> rfl, fun j hj => by rcases (show j = 0 ∨ j = 1 ∨ j = 2 by omega) with rfl | rfl | rfl <;> rfl, fun q h1 h2 => by simp only [sa_uJ_ne h1, sa_uJ_ne h2]⟩
theorem c_minor {a b c d : Nat} (ha : a < 9) (hb : b < 9) (hc : c < 9) (hd : d < 9) : Con (EC l D aI aL ad) M_X4_minor yX4_minor [.ref (ad 4), .int (nI a), .int (nI b), .int (nI c), .int (nI d)] I J (p_l (J 10 a * J 10 d - J 10 b * J 10 c) I J) := by
  refine Con.of (by decide +kernel) rfl (Nat.le_of_ble_eq_true rfl) ?_
  exact bX4_minor_0 rfl ha rfl hd rfl hb rfl hc ⟨rfl, rfl, rfl⟩
theorem c_matrixTrace2 (hd : I 4 0 = nI 2) : Con (EC l D aI aL ad) M_X4_matrixTrace yX4_matrixTrace [.ref (ad 4)] I J (p_l (J 10 0 + J 10 4) I J) := by
  refine Con.of (by decide +kernel) rfl (Nat.le_of_ble_eq_true rfl) ?_
  refine bX4_matrixTrace_0  (fun c => absurd c (by first | decide | (simp only [hd]; decide))) (fun _ => ?_)
  refine bX4_matrixTrace_8  ?_
  exact bX4_matrixTrace_45  ⟨rfl, rfl, rfl⟩
theorem c_matrixNorm2 (hd : I 4 0 = nI 2) : Con (EC l D aI aL ad) M_X4_matrixNorm yX4_matrixNorm [.ref (ad 4)] I J (p_l (J 10 0 * J 10 4 - J 10 1 * J 10 3) I J) := by
  refine Con.of (by decide +kernel) rfl (Nat.le_of_ble_eq_true rfl) ?_
  refine bX4_matrixNorm_0  (fun c => absurd c (by first | decide | (simp only [hd]; decide))) (fun _ => ?_)
  refine bX4_matrixNorm_8  ?_
  refine v_X4_107 dX4_matrixNorm_13 rfl ⟨rfl, rfl, Nat.le_of_ble_eq_true rfl, Nat.le_of_ble_eq_true rfl⟩ (c_minor (a := 0) (b := 1) (c := 3) (d := 4) (by decide) (by decide) (by decide) (by decide)) rfl rfl (Nat.le_of_ble_eq_true rfl) (fun r I1 J1 hp => ?_)
  obtain ⟨rfl, rfl, rfl⟩ := hp
  exact bX4_matrixNorm_16  ⟨rfl, rfl, rfl⟩
theorem c_matrixMiddle2 (hd : I 4 0 = nI 2) : Con (EC l D aI aL ad) M_X4_matrixMiddle yX4_matrixMiddle [.ref (ad 4)] I J (p_l (-(J 10 0 + J 10 4)) I J) := by
  refine Con.of (by decide +kernel) rfl (Nat.le_of_ble_eq_true rfl) ?_
  refine bX4_matrixMiddle_0  (fun c => absurd c (by first | decide | (simp only [hd]; decide))) (fun _ => ?_)
  refine bX4_matrixMiddle_8  ?_
  refine v_X4_111 dX4_matrixMiddle_9 rfl ⟨rfl, rfl, Nat.le_of_ble_eq_true rfl, Nat.le_of_ble_eq_true rfl⟩ (c_matrixTrace2 hd) rfl rfl (Nat.le_of_ble_eq_true rfl) (fun r I1 J1 hp => ?_)
  obtain ⟨rfl, rfl, rfl⟩ := hp
  exact bX4_matrixMiddle_12  ⟨rfl, rfl, rfl⟩
theorem c_matrixTrace3 (hd : I 4 0 = nI 3) : Con (EC l D aI aL ad) M_X4_matrixTrace yX4_matrixTrace [.ref (ad 4)] I J (p_l (J 10 0 + J 10 4 + J 10 8) I J) := by
  refine Con.of (by decide +kernel) rfl (Nat.le_of_ble_eq_true rfl) ?_
  refine bX4_matrixTrace_0  (fun _ => ?_) (fun c => absurd c (by first | decide | (simp only [hd]; decide)))
  refine bX4_matrixTrace_24  ?_
  exact bX4_matrixTrace_45  ⟨rfl, rfl, rfl⟩
theorem c_matrixNorm3 (hd : I 4 0 = nI 3) : Con (EC l D aI aL ad) M_X4_matrixNorm yX4_matrixNorm [.ref (ad 4)] I J (p_l (J 10 0 * (J 10 4 * J 10 8 - J 10 5 * J 10 7) - J 10 1 * (J 10 3 * J 10 8 - J 10 5 * J 10 6) + J 10 2 * (J 10 3 * J 10 7 - J 10 4 * J 10 6)) I J) := by
  refine Con.of (by decide +kernel) rfl (Nat.le_of_ble_eq_true rfl) ?_
  refine bX4_matrixNorm_0  (fun _ => ?_) (fun c => absurd c (by first | decide | (simp only [hd]; decide)))
  refine bX4_matrixNorm_17  ?_
  refine v_X4_107 dX4_matrixNorm_30 rfl ⟨rfl, rfl, Nat.le_of_ble_eq_true rfl, Nat.le_of_ble_eq_true rfl⟩ (c_minor (a := 4) (b := 5) (c := 7) (d := 8) (by decide) (by decide) (by decide) (by decide)) rfl rfl (Nat.le_of_ble_eq_true rfl) (fun r I1 J1 hp => ?_)
  obtain ⟨rfl, rfl, rfl⟩ := hp
  refine bX4_matrixNorm_33  ?_
  refine v_X4_107 dX4_matrixNorm_47 rfl ⟨rfl, rfl, Nat.le_of_ble_eq_true rfl, Nat.le_of_ble_eq_true rfl⟩ (c_minor (a := 3) (b := 5) (c := 6) (d := 8) (by decide) (by decide) (by decide) (by decide)) rfl rfl (Nat.le_of_ble_eq_true rfl) (fun r I1 J1 hp => ?_)
  obtain ⟨rfl, rfl, rfl⟩ := hp
  refine bX4_matrixNorm_50  ?_
  refine v_X4_107 dX4_matrixNorm_65 rfl ⟨rfl, rfl, Nat.le_of_ble_eq_true rfl, Nat.le_of_ble_eq_true rfl⟩ (c_minor (a := 3) (b := 4) (c := 6) (d := 7) (by decide) (by decide) (by decide) (by decide)) rfl rfl (Nat.le_of_ble_eq_true rfl) (fun r I1 J1 hp => ?_)
  obtain ⟨rfl, rfl, rfl⟩ := hp
  exact bX4_matrixNorm_68  ⟨rfl, rfl, rfl⟩
theorem c_matrixMiddle3 (hd : I 4 0 = nI 3) : Con (EC l D aI aL ad) M_X4_matrixMiddle yX4_matrixMiddle [.ref (ad 4)] I J (p_l (J 10 0 * J 10 4 - J 10 1 * J 10 3 + (J 10 0 * J 10 8 - J 10 2 * J 10 6) + (J 10 4 * J 10 8 - J 10 5 * J 10 7)) I J) := by
  refine Con.of (by decide +kernel) rfl (Nat.le_of_ble_eq_true rfl) ?_
  refine bX4_matrixMiddle_0  (fun _ => ?_) (fun c => absurd c (by first | decide | (simp only [hd]; decide)))
  refine bX4_matrixMiddle_14  ?_
  refine v_X4_107 dX4_matrixMiddle_19 rfl ⟨rfl, rfl, Nat.le_of_ble_eq_true rfl, Nat.le_of_ble_eq_true rfl⟩ (c_minor (a := 0) (b := 1) (c := 3) (d := 4) (by decide) (by decide) (by decide) (by decide)) rfl rfl (Nat.le_of_ble_eq_true rfl) (fun r I1 J1 hp => ?_)
  obtain ⟨rfl, rfl, rfl⟩ := hp
  refine bX4_matrixMiddle_22  ?_
  refine v_X4_107 dX4_matrixMiddle_29 rfl ⟨rfl, rfl, Nat.le_of_ble_eq_true rfl, Nat.le_of_ble_eq_true rfl⟩ (c_minor (a := 0) (b := 2) (c := 6) (d := 8) (by decide) (by decide) (by decide) (by decide)) rfl rfl (Nat.le_of_ble_eq_true rfl) (fun r I1 J1 hp => ?_)
  obtain ⟨rfl, rfl, rfl⟩ := hp
  refine bX4_matrixMiddle_32  ?_
  refine v_X4_107 dX4_matrixMiddle_40 rfl ⟨rfl, rfl, Nat.le_of_ble_eq_true rfl, Nat.le_of_ble_eq_true rfl⟩ (c_minor (a := 4) (b := 5) (c := 7) (d := 8) (by decide) (by decide) (by decide) (by decide)) rfl rfl (Nat.le_of_ble_eq_true rfl) (fun r I1 J1 hp => ?_)
  obtain ⟨rfl, rfl, rfl⟩ := hp
  exact bX4_matrixMiddle_43  ⟨rfl, rfl, rfl⟩
end RG
