/-- the reference's fold below the degree -/
def lo2 (a b : Int64) (w : Nat → Int64) : Int64 × Int64 :=
  let c3 := w 3 - w 4 * b
  let c2 := w 2 - w 4 * a - c3 * b
  (w 0 - c2 * a, w 1 - c3 * a - c2 * b)
def lo3 (a b c : Int64) (w : Nat → Int64) : Int64 × Int64 × Int64 :=
  let c3 := w 3 - w 4 * c
  (w 0 - c3 * a, w 1 - w 4 * a - c3 * b, w 2 - w 4 * b - c3 * c)
section RM
variable {l : Launch} {D : va_G} {aI aL : ClassId} {ad : Nat → Nat} {I : sa_I} {J : sa_J}
theorem c_traceOf2 (hn : I 0 1 = nI 2) : Con (ER l D aI aL ad) M_X7_traceOf yX7_traceOf [.ref (ad 0)] I J (p_l (0 + J 9 0 + J 9 4) I J) := by
  refine Con.of (by decide +kernel) rfl (Nat.le_of_ble_eq_true rfl) ?_
  refine bX7_traceOf_0 (v3 := nI 0) rfl rfl ?_
  refine bX7_traceOf_4  (fun c => absurd c (by simp only [hn]; decide)) (fun _ => ?_)
  refine bX7_traceOf_12 (j19 := 0) (v23 := nI 1) rfl (by decide) rfl rfl ?_
  refine bX7_traceOf_4  (fun c => absurd c (by simp only [hn]; decide)) (fun _ => ?_)
  refine bX7_traceOf_12 (j19 := 4) (v23 := nI 2) rfl (by decide) rfl rfl ?_
  refine bX7_traceOf_4  (fun _ => ?_) (fun c => absurd c (by simp only [hn]; decide))
  exact bX7_traceOf_29  ⟨rfl, rfl, rfl⟩
theorem c_minorsOf2 (hn : I 0 1 = nI 2) : Con (ER l D aI aL ad) M_X7_minorsOf yX7_minorsOf [.ref (ad 0)] I J (p_l (J 9 0 * J 9 4 - J 9 1 * J 9 3) I J) := by
  refine Con.of (by decide +kernel) rfl (Nat.le_of_ble_eq_true rfl) ?_
  refine bX7_minorsOf_0 rfl (fun c => absurd c (by simp only [hn]; decide)) (fun _ => ?_)
  refine bX7_minorsOf_36  ?_
  exact bX7_minorsOf_101  ⟨rfl, rfl, rfl⟩
theorem c_normOf2 (hn : I 0 1 = nI 2) : Con (ER l D aI aL ad) M_X7_normOf yX7_normOf [.ref (ad 0)] I J (p_l (J 9 0 * J 9 4 - J 9 1 * J 9 3) I J) := by
  refine Con.of (by decide +kernel) rfl (Nat.le_of_ble_eq_true rfl) ?_
  refine bX7_normOf_0  (fun c => absurd c (by simp only [hn]; decide)) (fun _ => ?_)
  exact bX7_normOf_8  ⟨rfl, rfl, rfl⟩
theorem c_lower2 (hn : I 0 1 = nI 2) : Con (ER l D aI aL ad) M_X7_lower yX7_lower [.ref (ad 0)] I J (fun r I1 J1 => r = none ∧ I1 = I ∧ J1 8 0 = (lo2 (I 0 2).toInt64 (I 0 3).toInt64 (J 8)).1 ∧ J1 8 1 = (lo2 (I 0 2).toInt64 (I 0 3).toInt64 (J 8)).2 ∧ ∀ q, q ≠ 8 → J1 q = J q) := by
  refine Con.of (by decide +kernel) rfl (Nat.le_of_ble_eq_true rfl) ?_
  refine bX7_lower_0 (v1 := nI 4) rfl ?_
  refine bX7_lower_2  (fun c => absurd c (by simp only [hn]; decide)) (fun _ => ?_)
  refine bX7_lower_10 (j14 := 4) (j21 := 4) (j33 := 2) (j56 := 3) rfl (by decide) rfl (by decide) (by simp only [hn]; rfl) (by decide) (by decide) (by simp only [hn]; rfl) (by decide) (by decide) rfl rfl rfl rfl (fun _ => ?_) (fun c => absurd c (by simp only [hn]; decide))
  refine bX7_lower_99 (v99 := nI 3) rfl ?_
  refine bX7_lower_2  (fun c => absurd c (by simp only [hn]; decide)) (fun _ => ?_)
  refine bX7_lower_10 (j14 := 3) (j21 := 3) (j33 := 1) (j56 := 2) rfl (by decide) rfl (by decide) (by simp only [hn]; rfl) (by decide) (by decide) (by simp only [hn]; rfl) (by decide) (by decide) rfl rfl rfl rfl (fun _ => ?_) (fun c => absurd c (by simp only [hn]; decide))
  refine bX7_lower_99 (v99 := nI 2) rfl ?_
  refine bX7_lower_2  (fun c => absurd c (by simp only [hn]; decide)) (fun _ => ?_)
  refine bX7_lower_10 (j14 := 2) (j21 := 2) (j33 := 0) (j56 := 1) rfl (by decide) rfl (by decide) (by simp only [hn]; rfl) (by decide) (by decide) (by simp only [hn]; rfl) (by decide) (by decide) rfl rfl rfl rfl (fun _ => ?_) (fun c => absurd c (by simp only [hn]; decide))
  refine bX7_lower_99 (v99 := nI 1) rfl ?_
  refine bX7_lower_2  (fun _ => ?_) (fun c => absurd c (by simp only [hn]; decide))
  exact bX7_lower_105  ⟨rfl, rfl, rfl, rfl, fun q h => by simp only [sa_uJ_ne h]⟩
theorem c_traceOf3 (hn : I 0 1 = nI 3) : Con (ER l D aI aL ad) M_X7_traceOf yX7_traceOf [.ref (ad 0)] I J (p_l (0 + J 9 0 + J 9 4 + J 9 8) I J) := by
  refine Con.of (by decide +kernel) rfl (Nat.le_of_ble_eq_true rfl) ?_
  refine bX7_traceOf_0 (v3 := nI 0) rfl rfl ?_
  refine bX7_traceOf_4  (fun c => absurd c (by simp only [hn]; decide)) (fun _ => ?_)
  refine bX7_traceOf_12 (j19 := 0) (v23 := nI 1) rfl (by decide) rfl rfl ?_
  refine bX7_traceOf_4  (fun c => absurd c (by simp only [hn]; decide)) (fun _ => ?_)
  refine bX7_traceOf_12 (j19 := 4) (v23 := nI 2) rfl (by decide) rfl rfl ?_
  refine bX7_traceOf_4  (fun c => absurd c (by simp only [hn]; decide)) (fun _ => ?_)
  refine bX7_traceOf_12 (j19 := 8) (v23 := nI 3) rfl (by decide) rfl rfl ?_
  refine bX7_traceOf_4  (fun _ => ?_) (fun c => absurd c (by simp only [hn]; decide))
  exact bX7_traceOf_29  ⟨rfl, rfl, rfl⟩
theorem c_minorsOf3 (hn : I 0 1 = nI 3) : Con (ER l D aI aL ad) M_X7_minorsOf yX7_minorsOf [.ref (ad 0)] I J (p_l (J 9 0 * J 9 4 - J 9 1 * J 9 3 + J 9 0 * J 9 8 - J 9 2 * J 9 6 + J 9 4 * J 9 8 - J 9 5 * J 9 7) I J) := by
  refine Con.of (by decide +kernel) rfl (Nat.le_of_ble_eq_true rfl) ?_
  refine bX7_minorsOf_0 rfl (fun _ => ?_) (fun c => absurd c (by simp only [hn]; decide))
  refine bX7_minorsOf_40  ?_
  exact bX7_minorsOf_101  ⟨rfl, rfl, rfl⟩
theorem c_normOf3 (hn : I 0 1 = nI 3) : Con (ER l D aI aL ad) M_X7_normOf yX7_normOf [.ref (ad 0)] I J (p_l (J 9 0 * (J 9 4 * J 9 8 - J 9 5 * J 9 7) - J 9 1 * (J 9 3 * J 9 8 - J 9 5 * J 9 6) + J 9 2 * (J 9 3 * J 9 7 - J 9 4 * J 9 6)) I J) := by
  refine Con.of (by decide +kernel) rfl (Nat.le_of_ble_eq_true rfl) ?_
  refine bX7_normOf_0  (fun _ => ?_) (fun c => absurd c (by simp only [hn]; decide))
  exact bX7_normOf_36 rfl rfl ⟨rfl, rfl, rfl⟩
theorem c_lower3 (hn : I 0 1 = nI 3) : Con (ER l D aI aL ad) M_X7_lower yX7_lower [.ref (ad 0)] I J (fun r I1 J1 => r = none ∧ I1 = I ∧ J1 8 0 = (lo3 (I 0 2).toInt64 (I 0 3).toInt64 (I 0 4).toInt64 (J 8)).1 ∧ J1 8 1 = (lo3 (I 0 2).toInt64 (I 0 3).toInt64 (I 0 4).toInt64 (J 8)).2.1 ∧ J1 8 2 = (lo3 (I 0 2).toInt64 (I 0 3).toInt64 (I 0 4).toInt64 (J 8)).2.2 ∧ ∀ q, q ≠ 8 → J1 q = J q) := by
  refine Con.of (by decide +kernel) rfl (Nat.le_of_ble_eq_true rfl) ?_
  refine bX7_lower_0 (v1 := nI 4) rfl ?_
  refine bX7_lower_2  (fun c => absurd c (by simp only [hn]; decide)) (fun _ => ?_)
  refine bX7_lower_10 (j14 := 4) (j21 := 4) (j33 := 1) (j56 := 2) rfl (by decide) rfl (by decide) (by simp only [hn]; rfl) (by decide) (by decide) (by simp only [hn]; rfl) (by decide) (by decide) rfl rfl rfl rfl (fun c => absurd c (by simp only [hn]; decide)) (fun _ => ?_)
  refine bX7_lower_76 (j87 := 3) (by simp only [hn]; rfl) (by decide) (by decide) rfl ?_
  refine bX7_lower_99 (v99 := nI 3) rfl ?_
  refine bX7_lower_2  (fun c => absurd c (by simp only [hn]; decide)) (fun _ => ?_)
  refine bX7_lower_10 (j14 := 3) (j21 := 3) (j33 := 0) (j56 := 1) rfl (by decide) rfl (by decide) (by simp only [hn]; rfl) (by decide) (by decide) (by simp only [hn]; rfl) (by decide) (by decide) rfl rfl rfl rfl (fun c => absurd c (by simp only [hn]; decide)) (fun _ => ?_)
  refine bX7_lower_76 (j87 := 2) (by simp only [hn]; rfl) (by decide) (by decide) rfl ?_
  refine bX7_lower_99 (v99 := nI 2) rfl ?_
  refine bX7_lower_2  (fun _ => ?_) (fun c => absurd c (by simp only [hn]; decide))
  exact bX7_lower_105  ⟨rfl, rfl, rfl, rfl, rfl, fun q h => by simp only [sa_uJ_ne h]⟩
end RM
