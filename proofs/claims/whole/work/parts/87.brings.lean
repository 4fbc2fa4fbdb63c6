section BR
variable {l : Launch} {D : va_G} {aI aL : ClassId} {ad : Nat → Nat} {I : sa_I} {J : sa_J}
theorem c_brings10 {i : Nat} (hi : i < 100) : Con (ER l D aI aL ad) M_X7_brings yX7_brings [.ref (ad 0), .int (nI i), .ref (ad 10)] I J (fun r I1 J1 => r = none ∧ I1 = I ∧ J1 10 0 = (I 3 (3 * i + 0)).toInt64 ∧ J1 10 1 = (I 3 (3 * i + 1)).toInt64 ∧ J1 10 2 = (I 3 (3 * i + 2)).toInt64 ∧ ∀ q, q ≠ 10 → J1 q = J q) := by
  refine Con.of (by decide +kernel) rfl (Nat.le_of_ble_eq_true rfl) ?_
  refine bX7_brings_0 (v1 := nI 0) aJ_R10 (by decide) rfl ?_
  refine bX7_brings_2 aJ_R10 (by decide) (fun c => absurd c (by decide)) (fun _ => ?_)
  refine bX7_brings_7 (j8 := 0) (j17 := ((3 * i) + 0)) (v21 := nI 1) aJ_R10 (by decide) rfl (by simp only [nI_lit, nI_mulE, nI_addE]) (by omega) (by omega) rfl rfl ?_
  refine bX7_brings_2 aJ_R10 (by decide) (fun c => absurd c (by decide)) (fun _ => ?_)
  refine bX7_brings_7 (j8 := 1) (j17 := ((3 * i) + 1)) (v21 := nI 2) aJ_R10 (by decide) rfl (by simp only [nI_lit, nI_mulE, nI_addE]) (by omega) (by omega) rfl rfl ?_
  refine bX7_brings_2 aJ_R10 (by decide) (fun c => absurd c (by decide)) (fun _ => ?_)
  refine bX7_brings_7 (j8 := 2) (j17 := ((3 * i) + 2)) (v21 := nI 3) aJ_R10 (by decide) rfl (by simp only [nI_lit, nI_mulE, nI_addE]) (by omega) (by omega) rfl rfl ?_
  refine bX7_brings_2 aJ_R10 (by decide) (fun _ => ?_) (fun c => absurd c (by decide))
  exact bX7_brings_27  ⟨rfl, rfl, rfl, rfl, rfl, fun q h => by simp only [sa_uJ_ne h]⟩
theorem c_brings11 {i : Nat} (hi : i < 100) : Con (ER l D aI aL ad) M_X7_brings yX7_brings [.ref (ad 0), .int (nI i), .ref (ad 11)] I J (fun r I1 J1 => r = none ∧ I1 = I ∧ J1 11 0 = (I 3 (3 * i + 0)).toInt64 ∧ J1 11 1 = (I 3 (3 * i + 1)).toInt64 ∧ J1 11 2 = (I 3 (3 * i + 2)).toInt64 ∧ ∀ q, q ≠ 11 → J1 q = J q) := by
  refine Con.of (by decide +kernel) rfl (Nat.le_of_ble_eq_true rfl) ?_
  refine bX7_brings_0 (v1 := nI 0) aJ_R11 (by decide) rfl ?_
  refine bX7_brings_2 aJ_R11 (by decide) (fun c => absurd c (by decide)) (fun _ => ?_)
  refine bX7_brings_7 (j8 := 0) (j17 := ((3 * i) + 0)) (v21 := nI 1) aJ_R11 (by decide) rfl (by simp only [nI_lit, nI_mulE, nI_addE]) (by omega) (by omega) rfl rfl ?_
  refine bX7_brings_2 aJ_R11 (by decide) (fun c => absurd c (by decide)) (fun _ => ?_)
  refine bX7_brings_7 (j8 := 1) (j17 := ((3 * i) + 1)) (v21 := nI 2) aJ_R11 (by decide) rfl (by simp only [nI_lit, nI_mulE, nI_addE]) (by omega) (by omega) rfl rfl ?_
  refine bX7_brings_2 aJ_R11 (by decide) (fun c => absurd c (by decide)) (fun _ => ?_)
  refine bX7_brings_7 (j8 := 2) (j17 := ((3 * i) + 2)) (v21 := nI 3) aJ_R11 (by decide) rfl (by simp only [nI_lit, nI_mulE, nI_addE]) (by omega) (by omega) rfl rfl ?_
  refine bX7_brings_2 aJ_R11 (by decide) (fun _ => ?_) (fun c => absurd c (by decide))
  exact bX7_brings_27  ⟨rfl, rfl, rfl, rfl, rfl, fun q h => by simp only [sa_uJ_ne h]⟩
theorem c_load15 {i : Nat} (hi : i < 80) : Con (ER l D aI aL ad) M_X7_load yX7_load [.ref (ad 0), .int (nI i), .ref (ad 15)] I J (fun r I1 J1 => r = none ∧ I1 = I ∧ J1 15 0 = (I 4 (9 * i + 0)).toInt64 ∧ J1 15 1 = (I 4 (9 * i + 1)).toInt64 ∧ J1 15 2 = (I 4 (9 * i + 2)).toInt64 ∧ J1 15 3 = (I 4 (9 * i + 3)).toInt64 ∧ J1 15 4 = (I 4 (9 * i + 4)).toInt64 ∧ J1 15 5 = (I 4 (9 * i + 5)).toInt64 ∧ J1 15 6 = (I 4 (9 * i + 6)).toInt64 ∧ J1 15 7 = (I 4 (9 * i + 7)).toInt64 ∧ J1 15 8 = (I 4 (9 * i + 8)).toInt64 ∧ ∀ q, q ≠ 15 → J1 q = J q) := by
  refine Con.of (by decide +kernel) rfl (Nat.le_of_ble_eq_true rfl) ?_
  refine bX7_load_0 (v1 := nI 0) aJ_R15 (by decide) rfl ?_
  refine bX7_load_2 aJ_R15 (by decide) (fun c => absurd c (by decide)) (fun _ => ?_)
  refine bX7_load_8 (j9 := 0) (j19 := ((9 * i) + 0)) (v23 := nI 1) aJ_R15 (by decide) rfl (by simp only [nI_lit, nI_mulE, nI_addE]) (by omega) (by omega) rfl rfl ?_
  refine bX7_load_2 aJ_R15 (by decide) (fun c => absurd c (by decide)) (fun _ => ?_)
  refine bX7_load_8 (j9 := 1) (j19 := ((9 * i) + 1)) (v23 := nI 2) aJ_R15 (by decide) rfl (by simp only [nI_lit, nI_mulE, nI_addE]) (by omega) (by omega) rfl rfl ?_
  refine bX7_load_2 aJ_R15 (by decide) (fun c => absurd c (by decide)) (fun _ => ?_)
  refine bX7_load_8 (j9 := 2) (j19 := ((9 * i) + 2)) (v23 := nI 3) aJ_R15 (by decide) rfl (by simp only [nI_lit, nI_mulE, nI_addE]) (by omega) (by omega) rfl rfl ?_
  refine bX7_load_2 aJ_R15 (by decide) (fun c => absurd c (by decide)) (fun _ => ?_)
  refine bX7_load_8 (j9 := 3) (j19 := ((9 * i) + 3)) (v23 := nI 4) aJ_R15 (by decide) rfl (by simp only [nI_lit, nI_mulE, nI_addE]) (by omega) (by omega) rfl rfl ?_
  refine bX7_load_2 aJ_R15 (by decide) (fun c => absurd c (by decide)) (fun _ => ?_)
  refine bX7_load_8 (j9 := 4) (j19 := ((9 * i) + 4)) (v23 := nI 5) aJ_R15 (by decide) rfl (by simp only [nI_lit, nI_mulE, nI_addE]) (by omega) (by omega) rfl rfl ?_
  refine bX7_load_2 aJ_R15 (by decide) (fun c => absurd c (by decide)) (fun _ => ?_)
  refine bX7_load_8 (j9 := 5) (j19 := ((9 * i) + 5)) (v23 := nI 6) aJ_R15 (by decide) rfl (by simp only [nI_lit, nI_mulE, nI_addE]) (by omega) (by omega) rfl rfl ?_
  refine bX7_load_2 aJ_R15 (by decide) (fun c => absurd c (by decide)) (fun _ => ?_)
  refine bX7_load_8 (j9 := 6) (j19 := ((9 * i) + 6)) (v23 := nI 7) aJ_R15 (by decide) rfl (by simp only [nI_lit, nI_mulE, nI_addE]) (by omega) (by omega) rfl rfl ?_
  refine bX7_load_2 aJ_R15 (by decide) (fun c => absurd c (by decide)) (fun _ => ?_)
  refine bX7_load_8 (j9 := 7) (j19 := ((9 * i) + 7)) (v23 := nI 8) aJ_R15 (by decide) rfl (by simp only [nI_lit, nI_mulE, nI_addE]) (by omega) (by omega) rfl rfl ?_
  refine bX7_load_2 aJ_R15 (by decide) (fun c => absurd c (by decide)) (fun _ => ?_)
  refine bX7_load_8 (j9 := 8) (j19 := ((9 * i) + 8)) (v23 := nI 9) aJ_R15 (by decide) rfl (by simp only [nI_lit, nI_mulE, nI_addE]) (by omega) (by omega) rfl rfl ?_
  refine bX7_load_2 aJ_R15 (by decide) (fun _ => ?_) (fun c => absurd c (by decide))
  exact bX7_load_29  ⟨rfl, rfl, rfl, rfl, rfl, rfl, rfl, rfl, rfl, rfl, rfl, fun q h => by simp only [sa_uJ_ne h]⟩
theorem c_load16 {i : Nat} (hi : i < 80) : Con (ER l D aI aL ad) M_X7_load yX7_load [.ref (ad 0), .int (nI i), .ref (ad 16)] I J (fun r I1 J1 => r = none ∧ I1 = I ∧ J1 16 0 = (I 4 (9 * i + 0)).toInt64 ∧ J1 16 1 = (I 4 (9 * i + 1)).toInt64 ∧ J1 16 2 = (I 4 (9 * i + 2)).toInt64 ∧ J1 16 3 = (I 4 (9 * i + 3)).toInt64 ∧ J1 16 4 = (I 4 (9 * i + 4)).toInt64 ∧ J1 16 5 = (I 4 (9 * i + 5)).toInt64 ∧ J1 16 6 = (I 4 (9 * i + 6)).toInt64 ∧ J1 16 7 = (I 4 (9 * i + 7)).toInt64 ∧ J1 16 8 = (I 4 (9 * i + 8)).toInt64 ∧ ∀ q, q ≠ 16 → J1 q = J q) := by
  refine Con.of (by decide +kernel) rfl (Nat.le_of_ble_eq_true rfl) ?_
  refine bX7_load_0 (v1 := nI 0) aJ_R16 (by decide) rfl ?_
  refine bX7_load_2 aJ_R16 (by decide) (fun c => absurd c (by decide)) (fun _ => ?_)
  refine bX7_load_8 (j9 := 0) (j19 := ((9 * i) + 0)) (v23 := nI 1) aJ_R16 (by decide) rfl (by simp only [nI_lit, nI_mulE, nI_addE]) (by omega) (by omega) rfl rfl ?_
  refine bX7_load_2 aJ_R16 (by decide) (fun c => absurd c (by decide)) (fun _ => ?_)
  refine bX7_load_8 (j9 := 1) (j19 := ((9 * i) + 1)) (v23 := nI 2) aJ_R16 (by decide) rfl (by simp only [nI_lit, nI_mulE, nI_addE]) (by omega) (by omega) rfl rfl ?_
  refine bX7_load_2 aJ_R16 (by decide) (fun c => absurd c (by decide)) (fun _ => ?_)
  refine bX7_load_8 (j9 := 2) (j19 := ((9 * i) + 2)) (v23 := nI 3) aJ_R16 (by decide) rfl (by simp only [nI_lit, nI_mulE, nI_addE]) (by omega) (by omega) rfl rfl ?_
  refine bX7_load_2 aJ_R16 (by decide) (fun c => absurd c (by decide)) (fun _ => ?_)
  refine bX7_load_8 (j9 := 3) (j19 := ((9 * i) + 3)) (v23 := nI 4) aJ_R16 (by decide) rfl (by simp only [nI_lit, nI_mulE, nI_addE]) (by omega) (by omega) rfl rfl ?_
  refine bX7_load_2 aJ_R16 (by decide) (fun c => absurd c (by decide)) (fun _ => ?_)
  refine bX7_load_8 (j9 := 4) (j19 := ((9 * i) + 4)) (v23 := nI 5) aJ_R16 (by decide) rfl (by simp only [nI_lit, nI_mulE, nI_addE]) (by omega) (by omega) rfl rfl ?_
  refine bX7_load_2 aJ_R16 (by decide) (fun c => absurd c (by decide)) (fun _ => ?_)
  refine bX7_load_8 (j9 := 5) (j19 := ((9 * i) + 5)) (v23 := nI 6) aJ_R16 (by decide) rfl (by simp only [nI_lit, nI_mulE, nI_addE]) (by omega) (by omega) rfl rfl ?_
  refine bX7_load_2 aJ_R16 (by decide) (fun c => absurd c (by decide)) (fun _ => ?_)
  refine bX7_load_8 (j9 := 6) (j19 := ((9 * i) + 6)) (v23 := nI 7) aJ_R16 (by decide) rfl (by simp only [nI_lit, nI_mulE, nI_addE]) (by omega) (by omega) rfl rfl ?_
  refine bX7_load_2 aJ_R16 (by decide) (fun c => absurd c (by decide)) (fun _ => ?_)
  refine bX7_load_8 (j9 := 7) (j19 := ((9 * i) + 7)) (v23 := nI 8) aJ_R16 (by decide) rfl (by simp only [nI_lit, nI_mulE, nI_addE]) (by omega) (by omega) rfl rfl ?_
  refine bX7_load_2 aJ_R16 (by decide) (fun c => absurd c (by decide)) (fun _ => ?_)
  refine bX7_load_8 (j9 := 8) (j19 := ((9 * i) + 8)) (v23 := nI 9) aJ_R16 (by decide) rfl (by simp only [nI_lit, nI_mulE, nI_addE]) (by omega) (by omega) rfl rfl ?_
  refine bX7_load_2 aJ_R16 (by decide) (fun _ => ?_) (fun c => absurd c (by decide))
  exact bX7_load_29  ⟨rfl, rfl, rfl, rfl, rfl, rfl, rfl, rfl, rfl, rfl, rfl, fun q h => by simp only [sa_uJ_ne h]⟩
end BR
