section FE
variable {l : Launch} {D : va_G} {aI aL : ClassId} {ad : Nat → Nat} {I : sa_I} {J : sa_J}
theorem c_field7 {x : Int32} (h : ¬ I 0 1 ≤ 0) : Con (ER l D aI aL ad) M_X7_field yX7_field [.ref (ad 0), .int x] I J (fiP (I 0 1) (I 0 6 * I 0 9) (J 0 10) x I J) := by
  refine Con.of (by decide +kernel) rfl (Nat.le_of_ble_eq_true rfl) ?_
  refine bX7_field_0 (v_X7_203 dX7_field_1 rfl ⟨rfl, rfl, Nat.le_of_ble_eq_true rfl, Nat.le_of_ble_eq_true rfl⟩ c_isField rfl rfl (Nat.le_of_ble_eq_true rfl) (fun r I1 J1 hp => ?_))
  obtain ⟨rfl, rfl, rfl⟩ := hp
  rw [if_neg h]
  refine bX7_field_4 (fun _ => ?_) (fun c => absurd c (by decide))
  have main : ∀ s : Int32, s = rr (I1 0 1) (J1 0 10) → Sat (ER l D aI aL ad) M_X7_field (fiP (I1 0 1) (I1 0 6 * I1 0 9) (J1 0 10) x I1 J1) 53 [(0, .ref (ad 0)), (1, .int x)] [.int s] I1 J1 := by
    intro s es
    refine bX7_field_53 (fun e => ?_) (fun e => ?_) (fun e => ?_) (fun e => ?_) (fun e => ?_)
    · subst e; exact bX7_field_84 ⟨rfl, rfl, rfl⟩
    · subst e; exact bX7_field_89 ⟨rfl, rfl, rfl⟩
    · subst e; subst es; exact bX7_field_99 ⟨rfl, rfl, rfl⟩
    · subst e; subst es; exact bX7_field_101 ⟨rfl, rfl, rfl⟩
    · obtain ⟨a0, a1, a2, a3⟩ := out4 e
      refine bX7_field_114 (v_X7_84 dX7_field_117 rfl ⟨rfl, rfl, Nat.le_of_ble_eq_true rfl, Nat.le_of_ble_eq_true rfl⟩ (c_refuse 2 (by decide) rfl) rfl rfl (Nat.le_of_ble_eq_true rfl) (fun r I2 J2 hp => ?_))
      obtain ⟨rfl, rfl, rfl⟩ := hp
      refine bX7_field_120 ?_
      unfold fiP; rw [if_neg a0, if_neg a1, if_neg a2, if_neg a3]; exact ⟨rfl, rfl, rfl⟩
  refine bX7_field_14 (fun c => ?_) (fun c => ?_)
  · exact bX7_field_39 (fun c2 => bX7_field_52 (main _ (by rw [rr, if_neg c, if_pos c2]))) (fun c2 => bX7_field_48 (main _ (by rw [rr, if_neg c, if_neg c2])))
  · exact bX7_field_22 (fun c2 => bX7_field_35 (main _ (by rw [rr, if_pos c, if_pos c2]))) (fun c2 => bX7_field_31 (main _ (by rw [rr, if_pos c, if_neg c2])))
end FE
