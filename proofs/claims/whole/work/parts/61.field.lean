/-- how many roots are real, by the degree and a discriminant's sign -/
def rr (n : Int32) (d : Int64) : Int32 := if n = 2 then (if d ≤ 0 then 0 else 2) else (if d ≤ 0 then 1 else 3)
/-- field, where there is one: degree n, index ix, d of the sign of the discriminant -/
def fiP (n ix : Int32) (d : Int64) (x : Int32) (I : sa_I) (J : sa_J) : sa_P := if x = 0 then p_i n I J else if x = 1 then p_i ix I J else if x = 2 then p_i (rr n d) I J else if x = 3 then p_i (rr n d + (n - rr n d) / 2 - 1) I J else p_i (-2) (rf I 2) J
section FD
variable {l : Launch} {D : va_G} {aI aL : ClassId} {ad : Nat → Nat} {I : sa_I} {J : sa_J}
theorem c_realRoots : Con (EC l D aI aL ad) M_X4_realRoots yX4_realRoots [.ref (ad 4)] I J (p_i (rr (I 4 0) (J 4 1)) I J) := by
  refine Con.of (by decide +kernel) rfl (Nat.le_of_ble_eq_true rfl) ?_
  refine bX4_realRoots_0 (fun c => ?_) (fun c => ?_)
  · exact bX4_realRoots_23 (fun c2 => bX4_realRoots_36 (bX4_realRoots_37 ⟨by rw [rr, if_neg c, if_pos c2], rfl, rfl⟩)) (fun c2 => bX4_realRoots_32 (bX4_realRoots_37 ⟨by rw [rr, if_neg c, if_neg c2], rfl, rfl⟩))
  · exact bX4_realRoots_8 (fun c2 => bX4_realRoots_21 (bX4_realRoots_22 ⟨by rw [rr, if_pos c, if_pos c2], rfl, rfl⟩)) (fun c2 => bX4_realRoots_17 (bX4_realRoots_22 ⟨by rw [rr, if_pos c, if_neg c2], rfl, rfl⟩))
theorem out4 {x : Int32} (h : x.toInt < 0 ∨ 3 < x.toInt) : ¬ x = 0 ∧ ¬ x = 1 ∧ ¬ x = 2 ∧ ¬ x = 3 := by
  refine ⟨?_, ?_, ?_, ?_⟩ <;> (rintro rfl; revert h; decide)
theorem c_field6 {x : Int32} (h : ¬ I 4 0 = 0) : Con (EC l D aI aL ad) M_X6_field yX6_field [.ref (ad 0), .int x] I J (fiP (I 4 0) (J 4 3).toInt32 (J 4 1) x I J) := by
  refine Con.of (by decide +kernel) rfl (Nat.le_of_ble_eq_true rfl) ?_
  refine bX6_field_0 (fun _ => ?_) (fun c => absurd c h)
  refine bX6_field_17 (fun e => ?_) (fun e => ?_) (fun e => ?_) (fun e => ?_) (fun e => ?_)
  · subst e; exact bX6_field_48 ⟨rfl, rfl, rfl⟩
  · subst e; exact bX6_field_56 ⟨rfl, rfl, rfl⟩
  · subst e
    refine bX6_field_65 (v_X6_93 dX6_field_69 rfl ⟨rfl, rfl, Nat.le_of_ble_eq_true rfl, Nat.le_of_ble_eq_true rfl⟩ c_realRoots rfl rfl (Nat.le_of_ble_eq_true rfl) (fun r I1 J1 hp => ?_))
    obtain ⟨rfl, rfl, rfl⟩ := hp
    exact bX6_field_72 ⟨rfl, rfl, rfl⟩
  · subst e
    refine bX6_field_73 (v_X6_93 dX6_field_77 rfl ⟨rfl, rfl, Nat.le_of_ble_eq_true rfl, Nat.le_of_ble_eq_true rfl⟩ c_realRoots rfl rfl (Nat.le_of_ble_eq_true rfl) (fun r I1 J1 hp => ?_))
    obtain ⟨rfl, rfl, rfl⟩ := hp
    refine bX6_field_80 (v_X6_93 dX6_field_91 rfl ⟨rfl, rfl, Nat.le_of_ble_eq_true rfl, Nat.le_of_ble_eq_true rfl⟩ c_realRoots rfl rfl (Nat.le_of_ble_eq_true rfl) (fun r I1 J1 hp => ?_))
    obtain ⟨rfl, rfl, rfl⟩ := hp
    exact bX6_field_94 ⟨rfl, rfl, rfl⟩
  · obtain ⟨a0, a1, a2, a3⟩ := out4 e
    refine bX6_field_101 (v_X6_59 dX6_field_104 rfl ⟨rfl, rfl, Nat.le_of_ble_eq_true rfl, Nat.le_of_ble_eq_true rfl⟩ (c_refused 2 (by decide) rfl) rfl rfl (Nat.le_of_ble_eq_true rfl) (fun r I1 J1 hp => ?_))
    obtain ⟨rfl, rfl, rfl⟩ := hp
    refine bX6_field_107 ?_
    unfold fiP; rw [if_neg a0, if_neg a1, if_neg a2, if_neg a3]; exact ⟨rfl, rfl, rfl⟩
end FD
