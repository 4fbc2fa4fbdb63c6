/-- disc, where there is a field -/
def diP (fd pd : Int64) (x : Int32) (I : sa_I) (J : sa_J) : sa_P := if x = 0 then p_l fd I J else if x = 1 then p_l pd I J else p_l (4000000000000000000 - (-2 : Int32).toInt64) (rf I 2) J
theorem inB2 (x : Int32) : inB x 2 = if x = 0 ∨ x = 1 then 1 else 0 := by
  obtain ⟨z, hz, rfl⟩ := iI_of x
  have r0 : rgi 0 := ⟨by omega, by omega⟩
  have r1 : rgi 1 := ⟨by omega, by omega⟩
  have r2 : rgi 2 := ⟨by omega, by omega⟩
  have e0 : iI z = 0 ↔ z = 0 := iI_eq hz r0
  have e1 : iI z = 1 ↔ z = 1 := iI_eq hz r1
  have e2 : iI z < 0 ↔ z < 0 := iI_lt hz r0
  have e3 : (2 : Int32) ≤ iI z ↔ 2 ≤ z := iI_le r2 hz
  unfold inB
  by_cases h1 : z < 0
  · rw [if_pos (e2.mpr h1), if_neg (by rw [e0, e1]; omega)]
  · rw [if_neg (fun q => h1 (e2.mp q))]
    by_cases h2 : 2 ≤ z
    · rw [if_pos (e3.mpr h2), if_neg (by rw [e0, e1]; omega)]
    · rw [if_neg (fun q => h2 (e3.mp q)), if_pos (by rw [e0, e1]; omega)]
section DI
variable {l : Launch} {D : va_G} {aI aL : ClassId} {ad : Nat → Nat} {I : sa_I} {J : sa_J}
theorem c_disc6 {x : Int32} (h : ¬ I 4 0 = 0) : Con (EC l D aI aL ad) M_X6_disc yX6_disc [.ref (ad 0), .int x] I J (diP (J 4 2) (J 4 1) x I J) := by
  refine Con.of (by decide +kernel) rfl (Nat.le_of_ble_eq_true rfl) ?_
  refine bX6_disc_0 (fun _ => ?_) (fun c => absurd c h)
  refine bX6_disc_17 (fun c => ?_) (fun c => ?_)
  · refine bX6_disc_33 (fun q => absurd c q) (fun _ => bX6_disc_37 (bX6_disc_54 ?_))
    unfold diP; rw [if_pos c]; exact ⟨rfl, rfl, rfl⟩
  · refine bX6_disc_21 (fun c2 => ?_) (fun c2 => ?_)
    · refine bX6_disc_33 (fun _ => bX6_disc_47 (bX6_disc_54 ?_)) (fun q => absurd q c)
      unfold diP; rw [if_neg c, if_pos c2]; exact ⟨rfl, rfl, rfl⟩
    · refine bX6_disc_26 (v_X6_96 dX6_disc_29 rfl ⟨rfl, rfl, Nat.le_of_ble_eq_true rfl, Nat.le_of_ble_eq_true rfl⟩ (c_toldLong 2 (by decide) rfl) rfl rfl (Nat.le_of_ble_eq_true rfl) (fun r I1 J1 hp => ?_))
      obtain ⟨rfl, rfl, rfl⟩ := hp
      refine bX6_disc_32 ?_
      unfold diP; rw [if_neg c, if_neg c2]; exact ⟨rfl, rfl, rfl⟩
theorem c_disc7 {x : Int32} (h : ¬ I 0 1 ≤ 0) : Con (ER l D aI aL ad) M_X7_disc yX7_disc [.ref (ad 0), .int x] I J (diP (J 0 10) (J 0 11) x I J) := by
  refine Con.of (by decide +kernel) rfl (Nat.le_of_ble_eq_true rfl) ?_
  refine bX7_disc_0 (v_X7_203 dX7_disc_1 rfl ⟨rfl, rfl, Nat.le_of_ble_eq_true rfl, Nat.le_of_ble_eq_true rfl⟩ c_isField rfl rfl (Nat.le_of_ble_eq_true rfl) (fun r I1 J1 hp => ?_))
  obtain ⟨rfl, rfl, rfl⟩ := hp
  rw [if_neg h]
  refine bX7_disc_4 (fun _ => ?_) (fun c => absurd c (by decide))
  refine bX7_disc_14 (v_X7_210 dX7_disc_16 rfl ⟨rfl, rfl, Nat.le_of_ble_eq_true rfl, Nat.le_of_ble_eq_true rfl⟩ c_isIn rfl rfl (Nat.le_of_ble_eq_true rfl) (fun r I1 J1 hp => ?_))
  obtain ⟨rfl, rfl, rfl⟩ := hp
  rw [inB2]
  by_cases c : x = 0
  · rw [if_pos (Or.inl c)]
    refine bX7_disc_19 (fun _ => bX7_disc_29 (fun q => absurd c q) (fun _ => bX7_disc_33 (bX7_disc_44 ?_))) (fun q => absurd q (by decide))
    unfold diP; rw [if_pos c]; exact ⟨rfl, rfl, rfl⟩
  · by_cases c2 : x = 1
    · rw [if_pos (Or.inr c2)]
      refine bX7_disc_19 (fun _ => bX7_disc_29 (fun _ => bX7_disc_40 (bX7_disc_44 ?_)) (fun q => absurd q c)) (fun q => absurd q (by decide))
      unfold diP; rw [if_neg c, if_pos c2]; exact ⟨rfl, rfl, rfl⟩
    · rw [if_neg (fun q => q.elim c c2)]
      refine bX7_disc_19 (fun q => absurd rfl q) (fun _ => bX7_disc_22 (v_X7_206 dX7_disc_25 rfl ⟨rfl, rfl, Nat.le_of_ble_eq_true rfl, Nat.le_of_ble_eq_true rfl⟩ (c_refuseLong 2 (by decide) rfl) rfl rfl (Nat.le_of_ble_eq_true rfl) (fun r I1 J1 hp => ?_)))
      obtain ⟨rfl, rfl, rfl⟩ := hp
      refine bX7_disc_28 ?_
      unfold diP; rw [if_neg c, if_neg c2]; exact ⟨rfl, rfl, rfl⟩
end DI
