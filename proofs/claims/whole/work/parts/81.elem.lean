/-! ints of the form nI -/
theorem nI_addE (a b : Nat) : nI a + nI b = nI (a + b) := (Int32.ofNat_add a b).symm
theorem nI_mulE (a b : Nat) : nI a * nI b = nI (a * b) := (Int32.ofNat_mul a b).symm
theorem nI_lit (k : Nat) : (OfNat.ofNat k : Int32) = nI k := rfl
section EL
variable {l : Launch} {D : va_G} {aI aL : ClassId} {ad : Nat → Nat} {I : sa_I} {J : sa_J}
theorem c_multiply2 (hd : I 4 0 = nI 2) {a1 q1 n1 p1 : Nat} (hq1 : sa_iJ (EC l D aI aL ad) a1 q1 n1) (hn1 : n1 < 2 ^ 31) {a3 q3 n3 p3 : Nat} (hq3 : sa_iJ (EC l D aI aL ad) a3 q3 n3) (hn3 : n3 < 2 ^ 31) (hb1 : p1 + 2 ≤ n1) (hb3 : p3 + 2 ≤ n3) (hz1 : q1 ≠ 9) (hz3 : q3 ≠ 9) : Con (EC l D aI aL ad) M_X4_multiply yX4_multiply [.ref (ad 4), .ref a1, .int (nI p1), .ref a3, .int (nI p3)] I J (fun r I1 J1 => r = none ∧ I1 = I ∧ J1 9 0 = 0 + J q1 (p1 + 0) * J q3 (p3 + 0) * J 8 0 + J q1 (p1 + 0) * J q3 (p3 + 1) * J 8 3 + J q1 (p1 + 1) * J q3 (p3 + 0) * J 8 9 + J q1 (p1 + 1) * J q3 (p3 + 1) * J 8 12 ∧ J1 9 1 = 0 + J q1 (p1 + 0) * J q3 (p3 + 0) * J 8 1 + J q1 (p1 + 0) * J q3 (p3 + 1) * J 8 4 + J q1 (p1 + 1) * J q3 (p3 + 0) * J 8 10 + J q1 (p1 + 1) * J q3 (p3 + 1) * J 8 13 ∧ J1 9 2 = 0 ∧ ∀ q, q ≠ 9 → J1 q = J q) := by
  refine Con.of (by decide +kernel) rfl (Nat.le_of_ble_eq_true rfl) ?_
  refine bX4_multiply_0 (v1 := nI 0) hq1 hn1 hq3 hn3 rfl ?_
  refine bX4_multiply_3 hq1 hn1 hq3 hn3 (fun c => absurd c (by decide)) (fun _ => ?_)
  refine bX4_multiply_9 (j13 := 0) (v17 := nI 1) hq1 hn1 hq3 hn3 rfl (by omega) rfl rfl ?_
  refine bX4_multiply_3 hq1 hn1 hq3 hn3 (fun c => absurd c (by decide)) (fun _ => ?_)
  refine bX4_multiply_9 (j13 := 1) (v17 := nI 2) hq1 hn1 hq3 hn3 rfl (by omega) rfl rfl ?_
  refine bX4_multiply_3 hq1 hn1 hq3 hn3 (fun c => absurd c (by decide)) (fun _ => ?_)
  refine bX4_multiply_9 (j13 := 2) (v17 := nI 3) hq1 hn1 hq3 hn3 rfl (by omega) rfl rfl ?_
  refine bX4_multiply_3 hq1 hn1 hq3 hn3 (fun _ => ?_) (fun c => absurd c (by decide))
  refine bX4_multiply_23 (v24 := nI 0) hq1 hn1 hq3 hn3 rfl ?_
  refine bX4_multiply_26 hq1 hn1 hq3 hn3 (fun c => absurd c (by simp only [hd]; decide)) (fun _ => ?_)
  refine bX4_multiply_35 (v36 := nI 0) hq1 hn1 hq3 hn3 rfl ?_
  refine bX4_multiply_38 hq1 hn1 hq3 hn3 (fun c => absurd c (by simp only [hd]; decide)) (fun _ => ?_)
  refine bX4_multiply_47 (j51 := (p1 + 0)) (j58 := (p3 + 0)) (v64 := nI 0) (v61 := J q1 (p1 + 0) * J q3 (p3 + 0)) hq1 hn1 hq3 hn3 (by simp only [nI_lit, nI_mulE, nI_addE]) (by omega) (by simp only [nI_lit, nI_mulE, nI_addE]) (by omega) (by simp only [sa_uJ_ne hz1, sa_uJ_ne hz3]) rfl ?_
  refine bX4_multiply_66 hq1 hn1 hq3 hn3 (fun c => absurd c (by simp only [hd]; decide)) (fun _ => ?_)
  refine bX4_multiply_75 (j79 := 0) (j101 := 0) (v106 := nI 1) (v105 := 0 + J q1 (p1 + 0) * J q3 (p3 + 0) * J 8 0) hq1 hn1 hq3 hn3 rfl (by omega) rfl (by omega) (by omega) rfl rfl ?_
  refine bX4_multiply_66 hq1 hn1 hq3 hn3 (fun c => absurd c (by simp only [hd]; decide)) (fun _ => ?_)
  refine bX4_multiply_75 (j79 := 1) (j101 := 1) (v106 := nI 2) (v105 := 0 + J q1 (p1 + 0) * J q3 (p3 + 0) * J 8 1) hq1 hn1 hq3 hn3 rfl (by omega) rfl (by omega) (by omega) rfl rfl ?_
  refine bX4_multiply_66 hq1 hn1 hq3 hn3 (fun _ => ?_) (fun c => absurd c (by simp only [hd]; decide))
  refine bX4_multiply_112 (v112 := nI 1) hq1 hn1 hq3 hn3 rfl ?_
  refine bX4_multiply_38 hq1 hn1 hq3 hn3 (fun c => absurd c (by simp only [hd]; decide)) (fun _ => ?_)
  refine bX4_multiply_47 (j51 := (p1 + 0)) (j58 := (p3 + 1)) (v64 := nI 0) (v61 := J q1 (p1 + 0) * J q3 (p3 + 1)) hq1 hn1 hq3 hn3 (by simp only [nI_lit, nI_mulE, nI_addE]) (by omega) (by simp only [nI_lit, nI_mulE, nI_addE]) (by omega) (by simp only [sa_uJ_ne hz1, sa_uJ_ne hz3]) rfl ?_
  refine bX4_multiply_66 hq1 hn1 hq3 hn3 (fun c => absurd c (by simp only [hd]; decide)) (fun _ => ?_)
  refine bX4_multiply_75 (j79 := 0) (j101 := 3) (v106 := nI 1) (v105 := 0 + J q1 (p1 + 0) * J q3 (p3 + 0) * J 8 0 + J q1 (p1 + 0) * J q3 (p3 + 1) * J 8 3) hq1 hn1 hq3 hn3 rfl (by omega) rfl (by omega) (by omega) rfl rfl ?_
  refine bX4_multiply_66 hq1 hn1 hq3 hn3 (fun c => absurd c (by simp only [hd]; decide)) (fun _ => ?_)
  refine bX4_multiply_75 (j79 := 1) (j101 := 4) (v106 := nI 2) (v105 := 0 + J q1 (p1 + 0) * J q3 (p3 + 0) * J 8 1 + J q1 (p1 + 0) * J q3 (p3 + 1) * J 8 4) hq1 hn1 hq3 hn3 rfl (by omega) rfl (by omega) (by omega) rfl rfl ?_
  refine bX4_multiply_66 hq1 hn1 hq3 hn3 (fun _ => ?_) (fun c => absurd c (by simp only [hd]; decide))
  refine bX4_multiply_112 (v112 := nI 2) hq1 hn1 hq3 hn3 rfl ?_
  refine bX4_multiply_38 hq1 hn1 hq3 hn3 (fun _ => ?_) (fun c => absurd c (by simp only [hd]; decide))
  refine bX4_multiply_118 (v118 := nI 1) hq1 hn1 hq3 hn3 rfl ?_
  refine bX4_multiply_26 hq1 hn1 hq3 hn3 (fun c => absurd c (by simp only [hd]; decide)) (fun _ => ?_)
  refine bX4_multiply_35 (v36 := nI 0) hq1 hn1 hq3 hn3 rfl ?_
  refine bX4_multiply_38 hq1 hn1 hq3 hn3 (fun c => absurd c (by simp only [hd]; decide)) (fun _ => ?_)
  refine bX4_multiply_47 (j51 := (p1 + 1)) (j58 := (p3 + 0)) (v64 := nI 0) (v61 := J q1 (p1 + 1) * J q3 (p3 + 0)) hq1 hn1 hq3 hn3 (by simp only [nI_lit, nI_mulE, nI_addE]) (by omega) (by simp only [nI_lit, nI_mulE, nI_addE]) (by omega) (by simp only [sa_uJ_ne hz1, sa_uJ_ne hz3]) rfl ?_
  refine bX4_multiply_66 hq1 hn1 hq3 hn3 (fun c => absurd c (by simp only [hd]; decide)) (fun _ => ?_)
  refine bX4_multiply_75 (j79 := 0) (j101 := 9) (v106 := nI 1) (v105 := 0 + J q1 (p1 + 0) * J q3 (p3 + 0) * J 8 0 + J q1 (p1 + 0) * J q3 (p3 + 1) * J 8 3 + J q1 (p1 + 1) * J q3 (p3 + 0) * J 8 9) hq1 hn1 hq3 hn3 rfl (by omega) rfl (by omega) (by omega) rfl rfl ?_
  refine bX4_multiply_66 hq1 hn1 hq3 hn3 (fun c => absurd c (by simp only [hd]; decide)) (fun _ => ?_)
  refine bX4_multiply_75 (j79 := 1) (j101 := 10) (v106 := nI 2) (v105 := 0 + J q1 (p1 + 0) * J q3 (p3 + 0) * J 8 1 + J q1 (p1 + 0) * J q3 (p3 + 1) * J 8 4 + J q1 (p1 + 1) * J q3 (p3 + 0) * J 8 10) hq1 hn1 hq3 hn3 rfl (by omega) rfl (by omega) (by omega) rfl rfl ?_
  refine bX4_multiply_66 hq1 hn1 hq3 hn3 (fun _ => ?_) (fun c => absurd c (by simp only [hd]; decide))
  refine bX4_multiply_112 (v112 := nI 1) hq1 hn1 hq3 hn3 rfl ?_
  refine bX4_multiply_38 hq1 hn1 hq3 hn3 (fun c => absurd c (by simp only [hd]; decide)) (fun _ => ?_)
  refine bX4_multiply_47 (j51 := (p1 + 1)) (j58 := (p3 + 1)) (v64 := nI 0) (v61 := J q1 (p1 + 1) * J q3 (p3 + 1)) hq1 hn1 hq3 hn3 (by simp only [nI_lit, nI_mulE, nI_addE]) (by omega) (by simp only [nI_lit, nI_mulE, nI_addE]) (by omega) (by simp only [sa_uJ_ne hz1, sa_uJ_ne hz3]) rfl ?_
  refine bX4_multiply_66 hq1 hn1 hq3 hn3 (fun c => absurd c (by simp only [hd]; decide)) (fun _ => ?_)
  refine bX4_multiply_75 (j79 := 0) (j101 := 12) (v106 := nI 1) (v105 := 0 + J q1 (p1 + 0) * J q3 (p3 + 0) * J 8 0 + J q1 (p1 + 0) * J q3 (p3 + 1) * J 8 3 + J q1 (p1 + 1) * J q3 (p3 + 0) * J 8 9 + J q1 (p1 + 1) * J q3 (p3 + 1) * J 8 12) hq1 hn1 hq3 hn3 rfl (by omega) rfl (by omega) (by omega) rfl rfl ?_
  refine bX4_multiply_66 hq1 hn1 hq3 hn3 (fun c => absurd c (by simp only [hd]; decide)) (fun _ => ?_)
  refine bX4_multiply_75 (j79 := 1) (j101 := 13) (v106 := nI 2) (v105 := 0 + J q1 (p1 + 0) * J q3 (p3 + 0) * J 8 1 + J q1 (p1 + 0) * J q3 (p3 + 1) * J 8 4 + J q1 (p1 + 1) * J q3 (p3 + 0) * J 8 10 + J q1 (p1 + 1) * J q3 (p3 + 1) * J 8 13) hq1 hn1 hq3 hn3 rfl (by omega) rfl (by omega) (by omega) rfl rfl ?_
  refine bX4_multiply_66 hq1 hn1 hq3 hn3 (fun _ => ?_) (fun c => absurd c (by simp only [hd]; decide))
  refine bX4_multiply_112 (v112 := nI 2) hq1 hn1 hq3 hn3 rfl ?_
  refine bX4_multiply_38 hq1 hn1 hq3 hn3 (fun _ => ?_) (fun c => absurd c (by simp only [hd]; decide))
  refine bX4_multiply_118 (v118 := nI 2) hq1 hn1 hq3 hn3 rfl ?_
  refine bX4_multiply_26 hq1 hn1 hq3 hn3 (fun _ => ?_) (fun c => absurd c (by simp only [hd]; decide))
  exact bX4_multiply_124  ⟨rfl, rfl, rfl, rfl, rfl, fun q h => by simp only [sa_uJ_ne h]⟩
theorem c_matrixOf2 (hd : I 4 0 = nI 2) {a1 q1 n1 p1 : Nat} (hq1 : sa_iJ (EC l D aI aL ad) a1 q1 n1) (hn1 : n1 < 2 ^ 31) (hb1 : p1 + 2 ≤ n1) (hz1 : q1 ≠ 10) : Con (EC l D aI aL ad) M_X4_matrixOf yX4_matrixOf [.ref (ad 4), .ref a1, .int (nI p1)] I J (fun r I1 J1 => r = none ∧ I1 = I ∧ J1 10 0 = 0 + J q1 (p1 + 0) * J 8 0 + J q1 (p1 + 1) * J 8 9 ∧ J1 10 1 = 0 + J q1 (p1 + 0) * J 8 1 + J q1 (p1 + 1) * J 8 10 ∧ J1 10 3 = 0 + J q1 (p1 + 0) * J 8 3 + J q1 (p1 + 1) * J 8 12 ∧ J1 10 4 = 0 + J q1 (p1 + 0) * J 8 4 + J q1 (p1 + 1) * J 8 13 ∧ ∀ q, q ≠ 10 → J1 q = J q) := by
  refine Con.of (by decide +kernel) rfl (Nat.le_of_ble_eq_true rfl) ?_
  refine bX4_matrixOf_0 (v1 := nI 0) hq1 hn1 rfl ?_
  refine bX4_matrixOf_2 hq1 hn1 (fun c => absurd c (by simp only [hd]; decide)) (fun _ => ?_)
  refine bX4_matrixOf_10 (v11 := nI 0) hq1 hn1 rfl ?_
  refine bX4_matrixOf_13 hq1 hn1 (fun c => absurd c (by simp only [hd]; decide)) (fun _ => ?_)
  refine bX4_matrixOf_22 (v26 := nI 0) hq1 hn1 rfl rfl ?_
  refine bX4_matrixOf_28 hq1 hn1 (fun c => absurd c (by simp only [hd]; decide)) (fun _ => ?_)
  refine bX4_matrixOf_37 (j43 := (p1 + 0)) (j60 := 0) (v66 := nI 1) (v64 := 0 + J q1 (p1 + 0) * J 8 0) hq1 hn1 (by simp only [nI_lit, nI_mulE, nI_addE]) (by omega) rfl (by omega) (by simp only [sa_uJ_ne hz1] <;> rfl) rfl ?_
  refine bX4_matrixOf_28 hq1 hn1 (fun c => absurd c (by simp only [hd]; decide)) (fun _ => ?_)
  refine bX4_matrixOf_37 (j43 := (p1 + 1)) (j60 := 9) (v66 := nI 2) (v64 := 0 + J q1 (p1 + 0) * J 8 0 + J q1 (p1 + 1) * J 8 9) hq1 hn1 (by simp only [nI_lit, nI_mulE, nI_addE]) (by omega) rfl (by omega) (by simp only [sa_uJ_ne hz1] <;> rfl) rfl ?_
  refine bX4_matrixOf_28 hq1 hn1 (fun _ => ?_) (fun c => absurd c (by simp only [hd]; decide))
  refine bX4_matrixOf_72 (j81 := 0) (v85 := nI 1) hq1 hn1 rfl (by omega) rfl ?_
  refine bX4_matrixOf_13 hq1 hn1 (fun c => absurd c (by simp only [hd]; decide)) (fun _ => ?_)
  refine bX4_matrixOf_22 (v26 := nI 0) hq1 hn1 rfl rfl ?_
  refine bX4_matrixOf_28 hq1 hn1 (fun c => absurd c (by simp only [hd]; decide)) (fun _ => ?_)
  refine bX4_matrixOf_37 (j43 := (p1 + 0)) (j60 := 1) (v66 := nI 1) (v64 := 0 + J q1 (p1 + 0) * J 8 1) hq1 hn1 (by simp only [nI_lit, nI_mulE, nI_addE]) (by omega) rfl (by omega) (by simp only [sa_uJ_ne hz1] <;> rfl) rfl ?_
  refine bX4_matrixOf_28 hq1 hn1 (fun c => absurd c (by simp only [hd]; decide)) (fun _ => ?_)
  refine bX4_matrixOf_37 (j43 := (p1 + 1)) (j60 := 10) (v66 := nI 2) (v64 := 0 + J q1 (p1 + 0) * J 8 1 + J q1 (p1 + 1) * J 8 10) hq1 hn1 (by simp only [nI_lit, nI_mulE, nI_addE]) (by omega) rfl (by omega) (by simp only [sa_uJ_ne hz1] <;> rfl) rfl ?_
  refine bX4_matrixOf_28 hq1 hn1 (fun _ => ?_) (fun c => absurd c (by simp only [hd]; decide))
  refine bX4_matrixOf_72 (j81 := 1) (v85 := nI 2) hq1 hn1 rfl (by omega) rfl ?_
  refine bX4_matrixOf_13 hq1 hn1 (fun _ => ?_) (fun c => absurd c (by simp only [hd]; decide))
  refine bX4_matrixOf_91 (v91 := nI 1) hq1 hn1 rfl ?_
  refine bX4_matrixOf_2 hq1 hn1 (fun c => absurd c (by simp only [hd]; decide)) (fun _ => ?_)
  refine bX4_matrixOf_10 (v11 := nI 0) hq1 hn1 rfl ?_
  refine bX4_matrixOf_13 hq1 hn1 (fun c => absurd c (by simp only [hd]; decide)) (fun _ => ?_)
  refine bX4_matrixOf_22 (v26 := nI 0) hq1 hn1 rfl rfl ?_
  refine bX4_matrixOf_28 hq1 hn1 (fun c => absurd c (by simp only [hd]; decide)) (fun _ => ?_)
  refine bX4_matrixOf_37 (j43 := (p1 + 0)) (j60 := 3) (v66 := nI 1) (v64 := 0 + J q1 (p1 + 0) * J 8 3) hq1 hn1 (by simp only [nI_lit, nI_mulE, nI_addE]) (by omega) rfl (by omega) (by simp only [sa_uJ_ne hz1] <;> rfl) rfl ?_
  refine bX4_matrixOf_28 hq1 hn1 (fun c => absurd c (by simp only [hd]; decide)) (fun _ => ?_)
  refine bX4_matrixOf_37 (j43 := (p1 + 1)) (j60 := 12) (v66 := nI 2) (v64 := 0 + J q1 (p1 + 0) * J 8 3 + J q1 (p1 + 1) * J 8 12) hq1 hn1 (by simp only [nI_lit, nI_mulE, nI_addE]) (by omega) rfl (by omega) (by simp only [sa_uJ_ne hz1] <;> rfl) rfl ?_
  refine bX4_matrixOf_28 hq1 hn1 (fun _ => ?_) (fun c => absurd c (by simp only [hd]; decide))
  refine bX4_matrixOf_72 (j81 := 3) (v85 := nI 1) hq1 hn1 rfl (by omega) rfl ?_
  refine bX4_matrixOf_13 hq1 hn1 (fun c => absurd c (by simp only [hd]; decide)) (fun _ => ?_)
  refine bX4_matrixOf_22 (v26 := nI 0) hq1 hn1 rfl rfl ?_
  refine bX4_matrixOf_28 hq1 hn1 (fun c => absurd c (by simp only [hd]; decide)) (fun _ => ?_)
  refine bX4_matrixOf_37 (j43 := (p1 + 0)) (j60 := 4) (v66 := nI 1) (v64 := 0 + J q1 (p1 + 0) * J 8 4) hq1 hn1 (by simp only [nI_lit, nI_mulE, nI_addE]) (by omega) rfl (by omega) (by simp only [sa_uJ_ne hz1] <;> rfl) rfl ?_
  refine bX4_matrixOf_28 hq1 hn1 (fun c => absurd c (by simp only [hd]; decide)) (fun _ => ?_)
  refine bX4_matrixOf_37 (j43 := (p1 + 1)) (j60 := 13) (v66 := nI 2) (v64 := 0 + J q1 (p1 + 0) * J 8 4 + J q1 (p1 + 1) * J 8 13) hq1 hn1 (by simp only [nI_lit, nI_mulE, nI_addE]) (by omega) rfl (by omega) (by simp only [sa_uJ_ne hz1] <;> rfl) rfl ?_
  refine bX4_matrixOf_28 hq1 hn1 (fun _ => ?_) (fun c => absurd c (by simp only [hd]; decide))
  refine bX4_matrixOf_72 (j81 := 4) (v85 := nI 2) hq1 hn1 rfl (by omega) rfl ?_
  refine bX4_matrixOf_13 hq1 hn1 (fun _ => ?_) (fun c => absurd c (by simp only [hd]; decide))
  refine bX4_matrixOf_91 (v91 := nI 2) hq1 hn1 rfl ?_
  refine bX4_matrixOf_2 hq1 hn1 (fun _ => ?_) (fun c => absurd c (by simp only [hd]; decide))
  exact bX4_matrixOf_97  ⟨rfl, rfl, rfl, rfl, rfl, rfl, fun q h => by simp only [sa_uJ_ne h]⟩
theorem c_multiply3 (hd : I 4 0 = nI 3) {a1 q1 n1 p1 : Nat} (hq1 : sa_iJ (EC l D aI aL ad) a1 q1 n1) (hn1 : n1 < 2 ^ 31) {a3 q3 n3 p3 : Nat} (hq3 : sa_iJ (EC l D aI aL ad) a3 q3 n3) (hn3 : n3 < 2 ^ 31) (hb1 : p1 + 3 ≤ n1) (hb3 : p3 + 3 ≤ n3) (hz1 : q1 ≠ 9) (hz3 : q3 ≠ 9) : Con (EC l D aI aL ad) M_X4_multiply yX4_multiply [.ref (ad 4), .ref a1, .int (nI p1), .ref a3, .int (nI p3)] I J (fun r I1 J1 => r = none ∧ I1 = I ∧ J1 9 0 = 0 + J q1 (p1 + 0) * J q3 (p3 + 0) * J 8 0 + J q1 (p1 + 0) * J q3 (p3 + 1) * J 8 3 + J q1 (p1 + 0) * J q3 (p3 + 2) * J 8 6 + J q1 (p1 + 1) * J q3 (p3 + 0) * J 8 9 + J q1 (p1 + 1) * J q3 (p3 + 1) * J 8 12 + J q1 (p1 + 1) * J q3 (p3 + 2) * J 8 15 + J q1 (p1 + 2) * J q3 (p3 + 0) * J 8 18 + J q1 (p1 + 2) * J q3 (p3 + 1) * J 8 21 + J q1 (p1 + 2) * J q3 (p3 + 2) * J 8 24 ∧ J1 9 1 = 0 + J q1 (p1 + 0) * J q3 (p3 + 0) * J 8 1 + J q1 (p1 + 0) * J q3 (p3 + 1) * J 8 4 + J q1 (p1 + 0) * J q3 (p3 + 2) * J 8 7 + J q1 (p1 + 1) * J q3 (p3 + 0) * J 8 10 + J q1 (p1 + 1) * J q3 (p3 + 1) * J 8 13 + J q1 (p1 + 1) * J q3 (p3 + 2) * J 8 16 + J q1 (p1 + 2) * J q3 (p3 + 0) * J 8 19 + J q1 (p1 + 2) * J q3 (p3 + 1) * J 8 22 + J q1 (p1 + 2) * J q3 (p3 + 2) * J 8 25 ∧ J1 9 2 = 0 + J q1 (p1 + 0) * J q3 (p3 + 0) * J 8 2 + J q1 (p1 + 0) * J q3 (p3 + 1) * J 8 5 + J q1 (p1 + 0) * J q3 (p3 + 2) * J 8 8 + J q1 (p1 + 1) * J q3 (p3 + 0) * J 8 11 + J q1 (p1 + 1) * J q3 (p3 + 1) * J 8 14 + J q1 (p1 + 1) * J q3 (p3 + 2) * J 8 17 + J q1 (p1 + 2) * J q3 (p3 + 0) * J 8 20 + J q1 (p1 + 2) * J q3 (p3 + 1) * J 8 23 + J q1 (p1 + 2) * J q3 (p3 + 2) * J 8 26 ∧ ∀ q, q ≠ 9 → J1 q = J q) := by
  refine Con.of (by decide +kernel) rfl (Nat.le_of_ble_eq_true rfl) ?_
  refine bX4_multiply_0 (v1 := nI 0) hq1 hn1 hq3 hn3 rfl ?_
  refine bX4_multiply_3 hq1 hn1 hq3 hn3 (fun c => absurd c (by decide)) (fun _ => ?_)
  refine bX4_multiply_9 (j13 := 0) (v17 := nI 1) hq1 hn1 hq3 hn3 rfl (by omega) rfl rfl ?_
  refine bX4_multiply_3 hq1 hn1 hq3 hn3 (fun c => absurd c (by decide)) (fun _ => ?_)
  refine bX4_multiply_9 (j13 := 1) (v17 := nI 2) hq1 hn1 hq3 hn3 rfl (by omega) rfl rfl ?_
  refine bX4_multiply_3 hq1 hn1 hq3 hn3 (fun c => absurd c (by decide)) (fun _ => ?_)
  refine bX4_multiply_9 (j13 := 2) (v17 := nI 3) hq1 hn1 hq3 hn3 rfl (by omega) rfl rfl ?_
  refine bX4_multiply_3 hq1 hn1 hq3 hn3 (fun _ => ?_) (fun c => absurd c (by decide))
  refine bX4_multiply_23 (v24 := nI 0) hq1 hn1 hq3 hn3 rfl ?_
  refine bX4_multiply_26 hq1 hn1 hq3 hn3 (fun c => absurd c (by simp only [hd]; decide)) (fun _ => ?_)
  refine bX4_multiply_35 (v36 := nI 0) hq1 hn1 hq3 hn3 rfl ?_
  refine bX4_multiply_38 hq1 hn1 hq3 hn3 (fun c => absurd c (by simp only [hd]; decide)) (fun _ => ?_)
  refine bX4_multiply_47 (j51 := (p1 + 0)) (j58 := (p3 + 0)) (v64 := nI 0) (v61 := J q1 (p1 + 0) * J q3 (p3 + 0)) hq1 hn1 hq3 hn3 (by simp only [nI_lit, nI_mulE, nI_addE]) (by omega) (by simp only [nI_lit, nI_mulE, nI_addE]) (by omega) (by simp only [sa_uJ_ne hz1, sa_uJ_ne hz3]) rfl ?_
  refine bX4_multiply_66 hq1 hn1 hq3 hn3 (fun c => absurd c (by simp only [hd]; decide)) (fun _ => ?_)
  refine bX4_multiply_75 (j79 := 0) (j101 := 0) (v106 := nI 1) (v105 := 0 + J q1 (p1 + 0) * J q3 (p3 + 0) * J 8 0) hq1 hn1 hq3 hn3 rfl (by omega) rfl (by omega) (by omega) rfl rfl ?_
  refine bX4_multiply_66 hq1 hn1 hq3 hn3 (fun c => absurd c (by simp only [hd]; decide)) (fun _ => ?_)
  refine bX4_multiply_75 (j79 := 1) (j101 := 1) (v106 := nI 2) (v105 := 0 + J q1 (p1 + 0) * J q3 (p3 + 0) * J 8 1) hq1 hn1 hq3 hn3 rfl (by omega) rfl (by omega) (by omega) rfl rfl ?_
  refine bX4_multiply_66 hq1 hn1 hq3 hn3 (fun c => absurd c (by simp only [hd]; decide)) (fun _ => ?_)
  refine bX4_multiply_75 (j79 := 2) (j101 := 2) (v106 := nI 3) (v105 := 0 + J q1 (p1 + 0) * J q3 (p3 + 0) * J 8 2) hq1 hn1 hq3 hn3 rfl (by omega) rfl (by omega) (by omega) rfl rfl ?_
  refine bX4_multiply_66 hq1 hn1 hq3 hn3 (fun _ => ?_) (fun c => absurd c (by simp only [hd]; decide))
  refine bX4_multiply_112 (v112 := nI 1) hq1 hn1 hq3 hn3 rfl ?_
  refine bX4_multiply_38 hq1 hn1 hq3 hn3 (fun c => absurd c (by simp only [hd]; decide)) (fun _ => ?_)
  refine bX4_multiply_47 (j51 := (p1 + 0)) (j58 := (p3 + 1)) (v64 := nI 0) (v61 := J q1 (p1 + 0) * J q3 (p3 + 1)) hq1 hn1 hq3 hn3 (by simp only [nI_lit, nI_mulE, nI_addE]) (by omega) (by simp only [nI_lit, nI_mulE, nI_addE]) (by omega) (by simp only [sa_uJ_ne hz1, sa_uJ_ne hz3]) rfl ?_
  refine bX4_multiply_66 hq1 hn1 hq3 hn3 (fun c => absurd c (by simp only [hd]; decide)) (fun _ => ?_)
  refine bX4_multiply_75 (j79 := 0) (j101 := 3) (v106 := nI 1) (v105 := 0 + J q1 (p1 + 0) * J q3 (p3 + 0) * J 8 0 + J q1 (p1 + 0) * J q3 (p3 + 1) * J 8 3) hq1 hn1 hq3 hn3 rfl (by omega) rfl (by omega) (by omega) rfl rfl ?_
  refine bX4_multiply_66 hq1 hn1 hq3 hn3 (fun c => absurd c (by simp only [hd]; decide)) (fun _ => ?_)
  refine bX4_multiply_75 (j79 := 1) (j101 := 4) (v106 := nI 2) (v105 := 0 + J q1 (p1 + 0) * J q3 (p3 + 0) * J 8 1 + J q1 (p1 + 0) * J q3 (p3 + 1) * J 8 4) hq1 hn1 hq3 hn3 rfl (by omega) rfl (by omega) (by omega) rfl rfl ?_
  refine bX4_multiply_66 hq1 hn1 hq3 hn3 (fun c => absurd c (by simp only [hd]; decide)) (fun _ => ?_)
  refine bX4_multiply_75 (j79 := 2) (j101 := 5) (v106 := nI 3) (v105 := 0 + J q1 (p1 + 0) * J q3 (p3 + 0) * J 8 2 + J q1 (p1 + 0) * J q3 (p3 + 1) * J 8 5) hq1 hn1 hq3 hn3 rfl (by omega) rfl (by omega) (by omega) rfl rfl ?_
  refine bX4_multiply_66 hq1 hn1 hq3 hn3 (fun _ => ?_) (fun c => absurd c (by simp only [hd]; decide))
  refine bX4_multiply_112 (v112 := nI 2) hq1 hn1 hq3 hn3 rfl ?_
  refine bX4_multiply_38 hq1 hn1 hq3 hn3 (fun c => absurd c (by simp only [hd]; decide)) (fun _ => ?_)
  refine bX4_multiply_47 (j51 := (p1 + 0)) (j58 := (p3 + 2)) (v64 := nI 0) (v61 := J q1 (p1 + 0) * J q3 (p3 + 2)) hq1 hn1 hq3 hn3 (by simp only [nI_lit, nI_mulE, nI_addE]) (by omega) (by simp only [nI_lit, nI_mulE, nI_addE]) (by omega) (by simp only [sa_uJ_ne hz1, sa_uJ_ne hz3]) rfl ?_
  refine bX4_multiply_66 hq1 hn1 hq3 hn3 (fun c => absurd c (by simp only [hd]; decide)) (fun _ => ?_)
  refine bX4_multiply_75 (j79 := 0) (j101 := 6) (v106 := nI 1) (v105 := 0 + J q1 (p1 + 0) * J q3 (p3 + 0) * J 8 0 + J q1 (p1 + 0) * J q3 (p3 + 1) * J 8 3 + J q1 (p1 + 0) * J q3 (p3 + 2) * J 8 6) hq1 hn1 hq3 hn3 rfl (by omega) rfl (by omega) (by omega) rfl rfl ?_
  refine bX4_multiply_66 hq1 hn1 hq3 hn3 (fun c => absurd c (by simp only [hd]; decide)) (fun _ => ?_)
  refine bX4_multiply_75 (j79 := 1) (j101 := 7) (v106 := nI 2) (v105 := 0 + J q1 (p1 + 0) * J q3 (p3 + 0) * J 8 1 + J q1 (p1 + 0) * J q3 (p3 + 1) * J 8 4 + J q1 (p1 + 0) * J q3 (p3 + 2) * J 8 7) hq1 hn1 hq3 hn3 rfl (by omega) rfl (by omega) (by omega) rfl rfl ?_
  refine bX4_multiply_66 hq1 hn1 hq3 hn3 (fun c => absurd c (by simp only [hd]; decide)) (fun _ => ?_)
  refine bX4_multiply_75 (j79 := 2) (j101 := 8) (v106 := nI 3) (v105 := 0 + J q1 (p1 + 0) * J q3 (p3 + 0) * J 8 2 + J q1 (p1 + 0) * J q3 (p3 + 1) * J 8 5 + J q1 (p1 + 0) * J q3 (p3 + 2) * J 8 8) hq1 hn1 hq3 hn3 rfl (by omega) rfl (by omega) (by omega) rfl rfl ?_
  refine bX4_multiply_66 hq1 hn1 hq3 hn3 (fun _ => ?_) (fun c => absurd c (by simp only [hd]; decide))
  refine bX4_multiply_112 (v112 := nI 3) hq1 hn1 hq3 hn3 rfl ?_
  refine bX4_multiply_38 hq1 hn1 hq3 hn3 (fun _ => ?_) (fun c => absurd c (by simp only [hd]; decide))
  refine bX4_multiply_118 (v118 := nI 1) hq1 hn1 hq3 hn3 rfl ?_
  refine bX4_multiply_26 hq1 hn1 hq3 hn3 (fun c => absurd c (by simp only [hd]; decide)) (fun _ => ?_)
  refine bX4_multiply_35 (v36 := nI 0) hq1 hn1 hq3 hn3 rfl ?_
  refine bX4_multiply_38 hq1 hn1 hq3 hn3 (fun c => absurd c (by simp only [hd]; decide)) (fun _ => ?_)
  refine bX4_multiply_47 (j51 := (p1 + 1)) (j58 := (p3 + 0)) (v64 := nI 0) (v61 := J q1 (p1 + 1) * J q3 (p3 + 0)) hq1 hn1 hq3 hn3 (by simp only [nI_lit, nI_mulE, nI_addE]) (by omega) (by simp only [nI_lit, nI_mulE, nI_addE]) (by omega) (by simp only [sa_uJ_ne hz1, sa_uJ_ne hz3]) rfl ?_
  refine bX4_multiply_66 hq1 hn1 hq3 hn3 (fun c => absurd c (by simp only [hd]; decide)) (fun _ => ?_)
  refine bX4_multiply_75 (j79 := 0) (j101 := 9) (v106 := nI 1) (v105 := 0 + J q1 (p1 + 0) * J q3 (p3 + 0) * J 8 0 + J q1 (p1 + 0) * J q3 (p3 + 1) * J 8 3 + J q1 (p1 + 0) * J q3 (p3 + 2) * J 8 6 + J q1 (p1 + 1) * J q3 (p3 + 0) * J 8 9) hq1 hn1 hq3 hn3 rfl (by omega) rfl (by omega) (by omega) rfl rfl ?_
  refine bX4_multiply_66 hq1 hn1 hq3 hn3 (fun c => absurd c (by simp only [hd]; decide)) (fun _ => ?_)
  refine bX4_multiply_75 (j79 := 1) (j101 := 10) (v106 := nI 2) (v105 := 0 + J q1 (p1 + 0) * J q3 (p3 + 0) * J 8 1 + J q1 (p1 + 0) * J q3 (p3 + 1) * J 8 4 + J q1 (p1 + 0) * J q3 (p3 + 2) * J 8 7 + J q1 (p1 + 1) * J q3 (p3 + 0) * J 8 10) hq1 hn1 hq3 hn3 rfl (by omega) rfl (by omega) (by omega) rfl rfl ?_
  refine bX4_multiply_66 hq1 hn1 hq3 hn3 (fun c => absurd c (by simp only [hd]; decide)) (fun _ => ?_)
  refine bX4_multiply_75 (j79 := 2) (j101 := 11) (v106 := nI 3) (v105 := 0 + J q1 (p1 + 0) * J q3 (p3 + 0) * J 8 2 + J q1 (p1 + 0) * J q3 (p3 + 1) * J 8 5 + J q1 (p1 + 0) * J q3 (p3 + 2) * J 8 8 + J q1 (p1 + 1) * J q3 (p3 + 0) * J 8 11) hq1 hn1 hq3 hn3 rfl (by omega) rfl (by omega) (by omega) rfl rfl ?_
  refine bX4_multiply_66 hq1 hn1 hq3 hn3 (fun _ => ?_) (fun c => absurd c (by simp only [hd]; decide))
  refine bX4_multiply_112 (v112 := nI 1) hq1 hn1 hq3 hn3 rfl ?_
  refine bX4_multiply_38 hq1 hn1 hq3 hn3 (fun c => absurd c (by simp only [hd]; decide)) (fun _ => ?_)
  refine bX4_multiply_47 (j51 := (p1 + 1)) (j58 := (p3 + 1)) (v64 := nI 0) (v61 := J q1 (p1 + 1) * J q3 (p3 + 1)) hq1 hn1 hq3 hn3 (by simp only [nI_lit, nI_mulE, nI_addE]) (by omega) (by simp only [nI_lit, nI_mulE, nI_addE]) (by omega) (by simp only [sa_uJ_ne hz1, sa_uJ_ne hz3]) rfl ?_
  refine bX4_multiply_66 hq1 hn1 hq3 hn3 (fun c => absurd c (by simp only [hd]; decide)) (fun _ => ?_)
  refine bX4_multiply_75 (j79 := 0) (j101 := 12) (v106 := nI 1) (v105 := 0 + J q1 (p1 + 0) * J q3 (p3 + 0) * J 8 0 + J q1 (p1 + 0) * J q3 (p3 + 1) * J 8 3 + J q1 (p1 + 0) * J q3 (p3 + 2) * J 8 6 + J q1 (p1 + 1) * J q3 (p3 + 0) * J 8 9 + J q1 (p1 + 1) * J q3 (p3 + 1) * J 8 12) hq1 hn1 hq3 hn3 rfl (by omega) rfl (by omega) (by omega) rfl rfl ?_
  refine bX4_multiply_66 hq1 hn1 hq3 hn3 (fun c => absurd c (by simp only [hd]; decide)) (fun _ => ?_)
  refine bX4_multiply_75 (j79 := 1) (j101 := 13) (v106 := nI 2) (v105 := 0 + J q1 (p1 + 0) * J q3 (p3 + 0) * J 8 1 + J q1 (p1 + 0) * J q3 (p3 + 1) * J 8 4 + J q1 (p1 + 0) * J q3 (p3 + 2) * J 8 7 + J q1 (p1 + 1) * J q3 (p3 + 0) * J 8 10 + J q1 (p1 + 1) * J q3 (p3 + 1) * J 8 13) hq1 hn1 hq3 hn3 rfl (by omega) rfl (by omega) (by omega) rfl rfl ?_
  refine bX4_multiply_66 hq1 hn1 hq3 hn3 (fun c => absurd c (by simp only [hd]; decide)) (fun _ => ?_)
  refine bX4_multiply_75 (j79 := 2) (j101 := 14) (v106 := nI 3) (v105 := 0 + J q1 (p1 + 0) * J q3 (p3 + 0) * J 8 2 + J q1 (p1 + 0) * J q3 (p3 + 1) * J 8 5 + J q1 (p1 + 0) * J q3 (p3 + 2) * J 8 8 + J q1 (p1 + 1) * J q3 (p3 + 0) * J 8 11 + J q1 (p1 + 1) * J q3 (p3 + 1) * J 8 14) hq1 hn1 hq3 hn3 rfl (by omega) rfl (by omega) (by omega) rfl rfl ?_
  refine bX4_multiply_66 hq1 hn1 hq3 hn3 (fun _ => ?_) (fun c => absurd c (by simp only [hd]; decide))
  refine bX4_multiply_112 (v112 := nI 2) hq1 hn1 hq3 hn3 rfl ?_
  refine bX4_multiply_38 hq1 hn1 hq3 hn3 (fun c => absurd c (by simp only [hd]; decide)) (fun _ => ?_)
  refine bX4_multiply_47 (j51 := (p1 + 1)) (j58 := (p3 + 2)) (v64 := nI 0) (v61 := J q1 (p1 + 1) * J q3 (p3 + 2)) hq1 hn1 hq3 hn3 (by simp only [nI_lit, nI_mulE, nI_addE]) (by omega) (by simp only [nI_lit, nI_mulE, nI_addE]) (by omega) (by simp only [sa_uJ_ne hz1, sa_uJ_ne hz3]) rfl ?_
  refine bX4_multiply_66 hq1 hn1 hq3 hn3 (fun c => absurd c (by simp only [hd]; decide)) (fun _ => ?_)
  refine bX4_multiply_75 (j79 := 0) (j101 := 15) (v106 := nI 1) (v105 := 0 + J q1 (p1 + 0) * J q3 (p3 + 0) * J 8 0 + J q1 (p1 + 0) * J q3 (p3 + 1) * J 8 3 + J q1 (p1 + 0) * J q3 (p3 + 2) * J 8 6 + J q1 (p1 + 1) * J q3 (p3 + 0) * J 8 9 + J q1 (p1 + 1) * J q3 (p3 + 1) * J 8 12 + J q1 (p1 + 1) * J q3 (p3 + 2) * J 8 15) hq1 hn1 hq3 hn3 rfl (by omega) rfl (by omega) (by omega) rfl rfl ?_
  refine bX4_multiply_66 hq1 hn1 hq3 hn3 (fun c => absurd c (by simp only [hd]; decide)) (fun _ => ?_)
  refine bX4_multiply_75 (j79 := 1) (j101 := 16) (v106 := nI 2) (v105 := 0 + J q1 (p1 + 0) * J q3 (p3 + 0) * J 8 1 + J q1 (p1 + 0) * J q3 (p3 + 1) * J 8 4 + J q1 (p1 + 0) * J q3 (p3 + 2) * J 8 7 + J q1 (p1 + 1) * J q3 (p3 + 0) * J 8 10 + J q1 (p1 + 1) * J q3 (p3 + 1) * J 8 13 + J q1 (p1 + 1) * J q3 (p3 + 2) * J 8 16) hq1 hn1 hq3 hn3 rfl (by omega) rfl (by omega) (by omega) rfl rfl ?_
  refine bX4_multiply_66 hq1 hn1 hq3 hn3 (fun c => absurd c (by simp only [hd]; decide)) (fun _ => ?_)
  refine bX4_multiply_75 (j79 := 2) (j101 := 17) (v106 := nI 3) (v105 := 0 + J q1 (p1 + 0) * J q3 (p3 + 0) * J 8 2 + J q1 (p1 + 0) * J q3 (p3 + 1) * J 8 5 + J q1 (p1 + 0) * J q3 (p3 + 2) * J 8 8 + J q1 (p1 + 1) * J q3 (p3 + 0) * J 8 11 + J q1 (p1 + 1) * J q3 (p3 + 1) * J 8 14 + J q1 (p1 + 1) * J q3 (p3 + 2) * J 8 17) hq1 hn1 hq3 hn3 rfl (by omega) rfl (by omega) (by omega) rfl rfl ?_
  refine bX4_multiply_66 hq1 hn1 hq3 hn3 (fun _ => ?_) (fun c => absurd c (by simp only [hd]; decide))
  refine bX4_multiply_112 (v112 := nI 3) hq1 hn1 hq3 hn3 rfl ?_
  refine bX4_multiply_38 hq1 hn1 hq3 hn3 (fun _ => ?_) (fun c => absurd c (by simp only [hd]; decide))
  refine bX4_multiply_118 (v118 := nI 2) hq1 hn1 hq3 hn3 rfl ?_
  refine bX4_multiply_26 hq1 hn1 hq3 hn3 (fun c => absurd c (by simp only [hd]; decide)) (fun _ => ?_)
  refine bX4_multiply_35 (v36 := nI 0) hq1 hn1 hq3 hn3 rfl ?_
  refine bX4_multiply_38 hq1 hn1 hq3 hn3 (fun c => absurd c (by simp only [hd]; decide)) (fun _ => ?_)
  refine bX4_multiply_47 (j51 := (p1 + 2)) (j58 := (p3 + 0)) (v64 := nI 0) (v61 := J q1 (p1 + 2) * J q3 (p3 + 0)) hq1 hn1 hq3 hn3 (by simp only [nI_lit, nI_mulE, nI_addE]) (by omega) (by simp only [nI_lit, nI_mulE, nI_addE]) (by omega) (by simp only [sa_uJ_ne hz1, sa_uJ_ne hz3]) rfl ?_
  refine bX4_multiply_66 hq1 hn1 hq3 hn3 (fun c => absurd c (by simp only [hd]; decide)) (fun _ => ?_)
  refine bX4_multiply_75 (j79 := 0) (j101 := 18) (v106 := nI 1) (v105 := 0 + J q1 (p1 + 0) * J q3 (p3 + 0) * J 8 0 + J q1 (p1 + 0) * J q3 (p3 + 1) * J 8 3 + J q1 (p1 + 0) * J q3 (p3 + 2) * J 8 6 + J q1 (p1 + 1) * J q3 (p3 + 0) * J 8 9 + J q1 (p1 + 1) * J q3 (p3 + 1) * J 8 12 + J q1 (p1 + 1) * J q3 (p3 + 2) * J 8 15 + J q1 (p1 + 2) * J q3 (p3 + 0) * J 8 18) hq1 hn1 hq3 hn3 rfl (by omega) rfl (by omega) (by omega) rfl rfl ?_
  refine bX4_multiply_66 hq1 hn1 hq3 hn3 (fun c => absurd c (by simp only [hd]; decide)) (fun _ => ?_)
  refine bX4_multiply_75 (j79 := 1) (j101 := 19) (v106 := nI 2) (v105 := 0 + J q1 (p1 + 0) * J q3 (p3 + 0) * J 8 1 + J q1 (p1 + 0) * J q3 (p3 + 1) * J 8 4 + J q1 (p1 + 0) * J q3 (p3 + 2) * J 8 7 + J q1 (p1 + 1) * J q3 (p3 + 0) * J 8 10 + J q1 (p1 + 1) * J q3 (p3 + 1) * J 8 13 + J q1 (p1 + 1) * J q3 (p3 + 2) * J 8 16 + J q1 (p1 + 2) * J q3 (p3 + 0) * J 8 19) hq1 hn1 hq3 hn3 rfl (by omega) rfl (by omega) (by omega) rfl rfl ?_
  refine bX4_multiply_66 hq1 hn1 hq3 hn3 (fun c => absurd c (by simp only [hd]; decide)) (fun _ => ?_)
  refine bX4_multiply_75 (j79 := 2) (j101 := 20) (v106 := nI 3) (v105 := 0 + J q1 (p1 + 0) * J q3 (p3 + 0) * J 8 2 + J q1 (p1 + 0) * J q3 (p3 + 1) * J 8 5 + J q1 (p1 + 0) * J q3 (p3 + 2) * J 8 8 + J q1 (p1 + 1) * J q3 (p3 + 0) * J 8 11 + J q1 (p1 + 1) * J q3 (p3 + 1) * J 8 14 + J q1 (p1 + 1) * J q3 (p3 + 2) * J 8 17 + J q1 (p1 + 2) * J q3 (p3 + 0) * J 8 20) hq1 hn1 hq3 hn3 rfl (by omega) rfl (by omega) (by omega) rfl rfl ?_
  refine bX4_multiply_66 hq1 hn1 hq3 hn3 (fun _ => ?_) (fun c => absurd c (by simp only [hd]; decide))
  refine bX4_multiply_112 (v112 := nI 1) hq1 hn1 hq3 hn3 rfl ?_
  refine bX4_multiply_38 hq1 hn1 hq3 hn3 (fun c => absurd c (by simp only [hd]; decide)) (fun _ => ?_)
  refine bX4_multiply_47 (j51 := (p1 + 2)) (j58 := (p3 + 1)) (v64 := nI 0) (v61 := J q1 (p1 + 2) * J q3 (p3 + 1)) hq1 hn1 hq3 hn3 (by simp only [nI_lit, nI_mulE, nI_addE]) (by omega) (by simp only [nI_lit, nI_mulE, nI_addE]) (by omega) (by simp only [sa_uJ_ne hz1, sa_uJ_ne hz3]) rfl ?_
  refine bX4_multiply_66 hq1 hn1 hq3 hn3 (fun c => absurd c (by simp only [hd]; decide)) (fun _ => ?_)
  refine bX4_multiply_75 (j79 := 0) (j101 := 21) (v106 := nI 1) (v105 := 0 + J q1 (p1 + 0) * J q3 (p3 + 0) * J 8 0 + J q1 (p1 + 0) * J q3 (p3 + 1) * J 8 3 + J q1 (p1 + 0) * J q3 (p3 + 2) * J 8 6 + J q1 (p1 + 1) * J q3 (p3 + 0) * J 8 9 + J q1 (p1 + 1) * J q3 (p3 + 1) * J 8 12 + J q1 (p1 + 1) * J q3 (p3 + 2) * J 8 15 + J q1 (p1 + 2) * J q3 (p3 + 0) * J 8 18 + J q1 (p1 + 2) * J q3 (p3 + 1) * J 8 21) hq1 hn1 hq3 hn3 rfl (by omega) rfl (by omega) (by omega) rfl rfl ?_
  refine bX4_multiply_66 hq1 hn1 hq3 hn3 (fun c => absurd c (by simp only [hd]; decide)) (fun _ => ?_)
  refine bX4_multiply_75 (j79 := 1) (j101 := 22) (v106 := nI 2) (v105 := 0 + J q1 (p1 + 0) * J q3 (p3 + 0) * J 8 1 + J q1 (p1 + 0) * J q3 (p3 + 1) * J 8 4 + J q1 (p1 + 0) * J q3 (p3 + 2) * J 8 7 + J q1 (p1 + 1) * J q3 (p3 + 0) * J 8 10 + J q1 (p1 + 1) * J q3 (p3 + 1) * J 8 13 + J q1 (p1 + 1) * J q3 (p3 + 2) * J 8 16 + J q1 (p1 + 2) * J q3 (p3 + 0) * J 8 19 + J q1 (p1 + 2) * J q3 (p3 + 1) * J 8 22) hq1 hn1 hq3 hn3 rfl (by omega) rfl (by omega) (by omega) rfl rfl ?_
  refine bX4_multiply_66 hq1 hn1 hq3 hn3 (fun c => absurd c (by simp only [hd]; decide)) (fun _ => ?_)
  refine bX4_multiply_75 (j79 := 2) (j101 := 23) (v106 := nI 3) (v105 := 0 + J q1 (p1 + 0) * J q3 (p3 + 0) * J 8 2 + J q1 (p1 + 0) * J q3 (p3 + 1) * J 8 5 + J q1 (p1 + 0) * J q3 (p3 + 2) * J 8 8 + J q1 (p1 + 1) * J q3 (p3 + 0) * J 8 11 + J q1 (p1 + 1) * J q3 (p3 + 1) * J 8 14 + J q1 (p1 + 1) * J q3 (p3 + 2) * J 8 17 + J q1 (p1 + 2) * J q3 (p3 + 0) * J 8 20 + J q1 (p1 + 2) * J q3 (p3 + 1) * J 8 23) hq1 hn1 hq3 hn3 rfl (by omega) rfl (by omega) (by omega) rfl rfl ?_
  refine bX4_multiply_66 hq1 hn1 hq3 hn3 (fun _ => ?_) (fun c => absurd c (by simp only [hd]; decide))
  refine bX4_multiply_112 (v112 := nI 2) hq1 hn1 hq3 hn3 rfl ?_
  refine bX4_multiply_38 hq1 hn1 hq3 hn3 (fun c => absurd c (by simp only [hd]; decide)) (fun _ => ?_)
  refine bX4_multiply_47 (j51 := (p1 + 2)) (j58 := (p3 + 2)) (v64 := nI 0) (v61 := J q1 (p1 + 2) * J q3 (p3 + 2)) hq1 hn1 hq3 hn3 (by simp only [nI_lit, nI_mulE, nI_addE]) (by omega) (by simp only [nI_lit, nI_mulE, nI_addE]) (by omega) (by simp only [sa_uJ_ne hz1, sa_uJ_ne hz3]) rfl ?_
  refine bX4_multiply_66 hq1 hn1 hq3 hn3 (fun c => absurd c (by simp only [hd]; decide)) (fun _ => ?_)
  refine bX4_multiply_75 (j79 := 0) (j101 := 24) (v106 := nI 1) (v105 := 0 + J q1 (p1 + 0) * J q3 (p3 + 0) * J 8 0 + J q1 (p1 + 0) * J q3 (p3 + 1) * J 8 3 + J q1 (p1 + 0) * J q3 (p3 + 2) * J 8 6 + J q1 (p1 + 1) * J q3 (p3 + 0) * J 8 9 + J q1 (p1 + 1) * J q3 (p3 + 1) * J 8 12 + J q1 (p1 + 1) * J q3 (p3 + 2) * J 8 15 + J q1 (p1 + 2) * J q3 (p3 + 0) * J 8 18 + J q1 (p1 + 2) * J q3 (p3 + 1) * J 8 21 + J q1 (p1 + 2) * J q3 (p3 + 2) * J 8 24) hq1 hn1 hq3 hn3 rfl (by omega) rfl (by omega) (by omega) rfl rfl ?_
  refine bX4_multiply_66 hq1 hn1 hq3 hn3 (fun c => absurd c (by simp only [hd]; decide)) (fun _ => ?_)
  refine bX4_multiply_75 (j79 := 1) (j101 := 25) (v106 := nI 2) (v105 := 0 + J q1 (p1 + 0) * J q3 (p3 + 0) * J 8 1 + J q1 (p1 + 0) * J q3 (p3 + 1) * J 8 4 + J q1 (p1 + 0) * J q3 (p3 + 2) * J 8 7 + J q1 (p1 + 1) * J q3 (p3 + 0) * J 8 10 + J q1 (p1 + 1) * J q3 (p3 + 1) * J 8 13 + J q1 (p1 + 1) * J q3 (p3 + 2) * J 8 16 + J q1 (p1 + 2) * J q3 (p3 + 0) * J 8 19 + J q1 (p1 + 2) * J q3 (p3 + 1) * J 8 22 + J q1 (p1 + 2) * J q3 (p3 + 2) * J 8 25) hq1 hn1 hq3 hn3 rfl (by omega) rfl (by omega) (by omega) rfl rfl ?_
  refine bX4_multiply_66 hq1 hn1 hq3 hn3 (fun c => absurd c (by simp only [hd]; decide)) (fun _ => ?_)
  refine bX4_multiply_75 (j79 := 2) (j101 := 26) (v106 := nI 3) (v105 := 0 + J q1 (p1 + 0) * J q3 (p3 + 0) * J 8 2 + J q1 (p1 + 0) * J q3 (p3 + 1) * J 8 5 + J q1 (p1 + 0) * J q3 (p3 + 2) * J 8 8 + J q1 (p1 + 1) * J q3 (p3 + 0) * J 8 11 + J q1 (p1 + 1) * J q3 (p3 + 1) * J 8 14 + J q1 (p1 + 1) * J q3 (p3 + 2) * J 8 17 + J q1 (p1 + 2) * J q3 (p3 + 0) * J 8 20 + J q1 (p1 + 2) * J q3 (p3 + 1) * J 8 23 + J q1 (p1 + 2) * J q3 (p3 + 2) * J 8 26) hq1 hn1 hq3 hn3 rfl (by omega) rfl (by omega) (by omega) rfl rfl ?_
  refine bX4_multiply_66 hq1 hn1 hq3 hn3 (fun _ => ?_) (fun c => absurd c (by simp only [hd]; decide))
  refine bX4_multiply_112 (v112 := nI 3) hq1 hn1 hq3 hn3 rfl ?_
  refine bX4_multiply_38 hq1 hn1 hq3 hn3 (fun _ => ?_) (fun c => absurd c (by simp only [hd]; decide))
  refine bX4_multiply_118 (v118 := nI 3) hq1 hn1 hq3 hn3 rfl ?_
  refine bX4_multiply_26 hq1 hn1 hq3 hn3 (fun _ => ?_) (fun c => absurd c (by simp only [hd]; decide))
  exact bX4_multiply_124  ⟨rfl, rfl, rfl, rfl, rfl, fun q h => by simp only [sa_uJ_ne h]⟩
theorem c_matrixOf3 (hd : I 4 0 = nI 3) {a1 q1 n1 p1 : Nat} (hq1 : sa_iJ (EC l D aI aL ad) a1 q1 n1) (hn1 : n1 < 2 ^ 31) (hb1 : p1 + 3 ≤ n1) (hz1 : q1 ≠ 10) : Con (EC l D aI aL ad) M_X4_matrixOf yX4_matrixOf [.ref (ad 4), .ref a1, .int (nI p1)] I J (fun r I1 J1 => r = none ∧ I1 = I ∧ J1 10 0 = 0 + J q1 (p1 + 0) * J 8 0 + J q1 (p1 + 1) * J 8 9 + J q1 (p1 + 2) * J 8 18 ∧ J1 10 1 = 0 + J q1 (p1 + 0) * J 8 1 + J q1 (p1 + 1) * J 8 10 + J q1 (p1 + 2) * J 8 19 ∧ J1 10 2 = 0 + J q1 (p1 + 0) * J 8 2 + J q1 (p1 + 1) * J 8 11 + J q1 (p1 + 2) * J 8 20 ∧ J1 10 3 = 0 + J q1 (p1 + 0) * J 8 3 + J q1 (p1 + 1) * J 8 12 + J q1 (p1 + 2) * J 8 21 ∧ J1 10 4 = 0 + J q1 (p1 + 0) * J 8 4 + J q1 (p1 + 1) * J 8 13 + J q1 (p1 + 2) * J 8 22 ∧ J1 10 5 = 0 + J q1 (p1 + 0) * J 8 5 + J q1 (p1 + 1) * J 8 14 + J q1 (p1 + 2) * J 8 23 ∧ J1 10 6 = 0 + J q1 (p1 + 0) * J 8 6 + J q1 (p1 + 1) * J 8 15 + J q1 (p1 + 2) * J 8 24 ∧ J1 10 7 = 0 + J q1 (p1 + 0) * J 8 7 + J q1 (p1 + 1) * J 8 16 + J q1 (p1 + 2) * J 8 25 ∧ J1 10 8 = 0 + J q1 (p1 + 0) * J 8 8 + J q1 (p1 + 1) * J 8 17 + J q1 (p1 + 2) * J 8 26 ∧ ∀ q, q ≠ 10 → J1 q = J q) := by
  refine Con.of (by decide +kernel) rfl (Nat.le_of_ble_eq_true rfl) ?_
  refine bX4_matrixOf_0 (v1 := nI 0) hq1 hn1 rfl ?_
  refine bX4_matrixOf_2 hq1 hn1 (fun c => absurd c (by simp only [hd]; decide)) (fun _ => ?_)
  refine bX4_matrixOf_10 (v11 := nI 0) hq1 hn1 rfl ?_
  refine bX4_matrixOf_13 hq1 hn1 (fun c => absurd c (by simp only [hd]; decide)) (fun _ => ?_)
  refine bX4_matrixOf_22 (v26 := nI 0) hq1 hn1 rfl rfl ?_
  refine bX4_matrixOf_28 hq1 hn1 (fun c => absurd c (by simp only [hd]; decide)) (fun _ => ?_)
  refine bX4_matrixOf_37 (j43 := (p1 + 0)) (j60 := 0) (v66 := nI 1) (v64 := 0 + J q1 (p1 + 0) * J 8 0) hq1 hn1 (by simp only [nI_lit, nI_mulE, nI_addE]) (by omega) rfl (by omega) (by simp only [sa_uJ_ne hz1] <;> rfl) rfl ?_
  refine bX4_matrixOf_28 hq1 hn1 (fun c => absurd c (by simp only [hd]; decide)) (fun _ => ?_)
  refine bX4_matrixOf_37 (j43 := (p1 + 1)) (j60 := 9) (v66 := nI 2) (v64 := 0 + J q1 (p1 + 0) * J 8 0 + J q1 (p1 + 1) * J 8 9) hq1 hn1 (by simp only [nI_lit, nI_mulE, nI_addE]) (by omega) rfl (by omega) (by simp only [sa_uJ_ne hz1] <;> rfl) rfl ?_
  refine bX4_matrixOf_28 hq1 hn1 (fun c => absurd c (by simp only [hd]; decide)) (fun _ => ?_)
  refine bX4_matrixOf_37 (j43 := (p1 + 2)) (j60 := 18) (v66 := nI 3) (v64 := 0 + J q1 (p1 + 0) * J 8 0 + J q1 (p1 + 1) * J 8 9 + J q1 (p1 + 2) * J 8 18) hq1 hn1 (by simp only [nI_lit, nI_mulE, nI_addE]) (by omega) rfl (by omega) (by simp only [sa_uJ_ne hz1] <;> rfl) rfl ?_
  refine bX4_matrixOf_28 hq1 hn1 (fun _ => ?_) (fun c => absurd c (by simp only [hd]; decide))
  refine bX4_matrixOf_72 (j81 := 0) (v85 := nI 1) hq1 hn1 rfl (by omega) rfl ?_
  refine bX4_matrixOf_13 hq1 hn1 (fun c => absurd c (by simp only [hd]; decide)) (fun _ => ?_)
  refine bX4_matrixOf_22 (v26 := nI 0) hq1 hn1 rfl rfl ?_
  refine bX4_matrixOf_28 hq1 hn1 (fun c => absurd c (by simp only [hd]; decide)) (fun _ => ?_)
  refine bX4_matrixOf_37 (j43 := (p1 + 0)) (j60 := 1) (v66 := nI 1) (v64 := 0 + J q1 (p1 + 0) * J 8 1) hq1 hn1 (by simp only [nI_lit, nI_mulE, nI_addE]) (by omega) rfl (by omega) (by simp only [sa_uJ_ne hz1] <;> rfl) rfl ?_
  refine bX4_matrixOf_28 hq1 hn1 (fun c => absurd c (by simp only [hd]; decide)) (fun _ => ?_)
  refine bX4_matrixOf_37 (j43 := (p1 + 1)) (j60 := 10) (v66 := nI 2) (v64 := 0 + J q1 (p1 + 0) * J 8 1 + J q1 (p1 + 1) * J 8 10) hq1 hn1 (by simp only [nI_lit, nI_mulE, nI_addE]) (by omega) rfl (by omega) (by simp only [sa_uJ_ne hz1] <;> rfl) rfl ?_
  refine bX4_matrixOf_28 hq1 hn1 (fun c => absurd c (by simp only [hd]; decide)) (fun _ => ?_)
  refine bX4_matrixOf_37 (j43 := (p1 + 2)) (j60 := 19) (v66 := nI 3) (v64 := 0 + J q1 (p1 + 0) * J 8 1 + J q1 (p1 + 1) * J 8 10 + J q1 (p1 + 2) * J 8 19) hq1 hn1 (by simp only [nI_lit, nI_mulE, nI_addE]) (by omega) rfl (by omega) (by simp only [sa_uJ_ne hz1] <;> rfl) rfl ?_
  refine bX4_matrixOf_28 hq1 hn1 (fun _ => ?_) (fun c => absurd c (by simp only [hd]; decide))
  refine bX4_matrixOf_72 (j81 := 1) (v85 := nI 2) hq1 hn1 rfl (by omega) rfl ?_
  refine bX4_matrixOf_13 hq1 hn1 (fun c => absurd c (by simp only [hd]; decide)) (fun _ => ?_)
  refine bX4_matrixOf_22 (v26 := nI 0) hq1 hn1 rfl rfl ?_
  refine bX4_matrixOf_28 hq1 hn1 (fun c => absurd c (by simp only [hd]; decide)) (fun _ => ?_)
  refine bX4_matrixOf_37 (j43 := (p1 + 0)) (j60 := 2) (v66 := nI 1) (v64 := 0 + J q1 (p1 + 0) * J 8 2) hq1 hn1 (by simp only [nI_lit, nI_mulE, nI_addE]) (by omega) rfl (by omega) (by simp only [sa_uJ_ne hz1] <;> rfl) rfl ?_
  refine bX4_matrixOf_28 hq1 hn1 (fun c => absurd c (by simp only [hd]; decide)) (fun _ => ?_)
  refine bX4_matrixOf_37 (j43 := (p1 + 1)) (j60 := 11) (v66 := nI 2) (v64 := 0 + J q1 (p1 + 0) * J 8 2 + J q1 (p1 + 1) * J 8 11) hq1 hn1 (by simp only [nI_lit, nI_mulE, nI_addE]) (by omega) rfl (by omega) (by simp only [sa_uJ_ne hz1] <;> rfl) rfl ?_
  refine bX4_matrixOf_28 hq1 hn1 (fun c => absurd c (by simp only [hd]; decide)) (fun _ => ?_)
  refine bX4_matrixOf_37 (j43 := (p1 + 2)) (j60 := 20) (v66 := nI 3) (v64 := 0 + J q1 (p1 + 0) * J 8 2 + J q1 (p1 + 1) * J 8 11 + J q1 (p1 + 2) * J 8 20) hq1 hn1 (by simp only [nI_lit, nI_mulE, nI_addE]) (by omega) rfl (by omega) (by simp only [sa_uJ_ne hz1] <;> rfl) rfl ?_
  refine bX4_matrixOf_28 hq1 hn1 (fun _ => ?_) (fun c => absurd c (by simp only [hd]; decide))
  refine bX4_matrixOf_72 (j81 := 2) (v85 := nI 3) hq1 hn1 rfl (by omega) rfl ?_
  refine bX4_matrixOf_13 hq1 hn1 (fun _ => ?_) (fun c => absurd c (by simp only [hd]; decide))
  refine bX4_matrixOf_91 (v91 := nI 1) hq1 hn1 rfl ?_
  refine bX4_matrixOf_2 hq1 hn1 (fun c => absurd c (by simp only [hd]; decide)) (fun _ => ?_)
  refine bX4_matrixOf_10 (v11 := nI 0) hq1 hn1 rfl ?_
  refine bX4_matrixOf_13 hq1 hn1 (fun c => absurd c (by simp only [hd]; decide)) (fun _ => ?_)
  refine bX4_matrixOf_22 (v26 := nI 0) hq1 hn1 rfl rfl ?_
  refine bX4_matrixOf_28 hq1 hn1 (fun c => absurd c (by simp only [hd]; decide)) (fun _ => ?_)
  refine bX4_matrixOf_37 (j43 := (p1 + 0)) (j60 := 3) (v66 := nI 1) (v64 := 0 + J q1 (p1 + 0) * J 8 3) hq1 hn1 (by simp only [nI_lit, nI_mulE, nI_addE]) (by omega) rfl (by omega) (by simp only [sa_uJ_ne hz1] <;> rfl) rfl ?_
  refine bX4_matrixOf_28 hq1 hn1 (fun c => absurd c (by simp only [hd]; decide)) (fun _ => ?_)
  refine bX4_matrixOf_37 (j43 := (p1 + 1)) (j60 := 12) (v66 := nI 2) (v64 := 0 + J q1 (p1 + 0) * J 8 3 + J q1 (p1 + 1) * J 8 12) hq1 hn1 (by simp only [nI_lit, nI_mulE, nI_addE]) (by omega) rfl (by omega) (by simp only [sa_uJ_ne hz1] <;> rfl) rfl ?_
  refine bX4_matrixOf_28 hq1 hn1 (fun c => absurd c (by simp only [hd]; decide)) (fun _ => ?_)
  refine bX4_matrixOf_37 (j43 := (p1 + 2)) (j60 := 21) (v66 := nI 3) (v64 := 0 + J q1 (p1 + 0) * J 8 3 + J q1 (p1 + 1) * J 8 12 + J q1 (p1 + 2) * J 8 21) hq1 hn1 (by simp only [nI_lit, nI_mulE, nI_addE]) (by omega) rfl (by omega) (by simp only [sa_uJ_ne hz1] <;> rfl) rfl ?_
  refine bX4_matrixOf_28 hq1 hn1 (fun _ => ?_) (fun c => absurd c (by simp only [hd]; decide))
  refine bX4_matrixOf_72 (j81 := 3) (v85 := nI 1) hq1 hn1 rfl (by omega) rfl ?_
  refine bX4_matrixOf_13 hq1 hn1 (fun c => absurd c (by simp only [hd]; decide)) (fun _ => ?_)
  refine bX4_matrixOf_22 (v26 := nI 0) hq1 hn1 rfl rfl ?_
  refine bX4_matrixOf_28 hq1 hn1 (fun c => absurd c (by simp only [hd]; decide)) (fun _ => ?_)
  refine bX4_matrixOf_37 (j43 := (p1 + 0)) (j60 := 4) (v66 := nI 1) (v64 := 0 + J q1 (p1 + 0) * J 8 4) hq1 hn1 (by simp only [nI_lit, nI_mulE, nI_addE]) (by omega) rfl (by omega) (by simp only [sa_uJ_ne hz1] <;> rfl) rfl ?_
  refine bX4_matrixOf_28 hq1 hn1 (fun c => absurd c (by simp only [hd]; decide)) (fun _ => ?_)
  refine bX4_matrixOf_37 (j43 := (p1 + 1)) (j60 := 13) (v66 := nI 2) (v64 := 0 + J q1 (p1 + 0) * J 8 4 + J q1 (p1 + 1) * J 8 13) hq1 hn1 (by simp only [nI_lit, nI_mulE, nI_addE]) (by omega) rfl (by omega) (by simp only [sa_uJ_ne hz1] <;> rfl) rfl ?_
  refine bX4_matrixOf_28 hq1 hn1 (fun c => absurd c (by simp only [hd]; decide)) (fun _ => ?_)
  refine bX4_matrixOf_37 (j43 := (p1 + 2)) (j60 := 22) (v66 := nI 3) (v64 := 0 + J q1 (p1 + 0) * J 8 4 + J q1 (p1 + 1) * J 8 13 + J q1 (p1 + 2) * J 8 22) hq1 hn1 (by simp only [nI_lit, nI_mulE, nI_addE]) (by omega) rfl (by omega) (by simp only [sa_uJ_ne hz1] <;> rfl) rfl ?_
  refine bX4_matrixOf_28 hq1 hn1 (fun _ => ?_) (fun c => absurd c (by simp only [hd]; decide))
  refine bX4_matrixOf_72 (j81 := 4) (v85 := nI 2) hq1 hn1 rfl (by omega) rfl ?_
  refine bX4_matrixOf_13 hq1 hn1 (fun c => absurd c (by simp only [hd]; decide)) (fun _ => ?_)
  refine bX4_matrixOf_22 (v26 := nI 0) hq1 hn1 rfl rfl ?_
  refine bX4_matrixOf_28 hq1 hn1 (fun c => absurd c (by simp only [hd]; decide)) (fun _ => ?_)
  refine bX4_matrixOf_37 (j43 := (p1 + 0)) (j60 := 5) (v66 := nI 1) (v64 := 0 + J q1 (p1 + 0) * J 8 5) hq1 hn1 (by simp only [nI_lit, nI_mulE, nI_addE]) (by omega) rfl (by omega) (by simp only [sa_uJ_ne hz1] <;> rfl) rfl ?_
  refine bX4_matrixOf_28 hq1 hn1 (fun c => absurd c (by simp only [hd]; decide)) (fun _ => ?_)
  refine bX4_matrixOf_37 (j43 := (p1 + 1)) (j60 := 14) (v66 := nI 2) (v64 := 0 + J q1 (p1 + 0) * J 8 5 + J q1 (p1 + 1) * J 8 14) hq1 hn1 (by simp only [nI_lit, nI_mulE, nI_addE]) (by omega) rfl (by omega) (by simp only [sa_uJ_ne hz1] <;> rfl) rfl ?_
  refine bX4_matrixOf_28 hq1 hn1 (fun c => absurd c (by simp only [hd]; decide)) (fun _ => ?_)
  refine bX4_matrixOf_37 (j43 := (p1 + 2)) (j60 := 23) (v66 := nI 3) (v64 := 0 + J q1 (p1 + 0) * J 8 5 + J q1 (p1 + 1) * J 8 14 + J q1 (p1 + 2) * J 8 23) hq1 hn1 (by simp only [nI_lit, nI_mulE, nI_addE]) (by omega) rfl (by omega) (by simp only [sa_uJ_ne hz1] <;> rfl) rfl ?_
  refine bX4_matrixOf_28 hq1 hn1 (fun _ => ?_) (fun c => absurd c (by simp only [hd]; decide))
  refine bX4_matrixOf_72 (j81 := 5) (v85 := nI 3) hq1 hn1 rfl (by omega) rfl ?_
  refine bX4_matrixOf_13 hq1 hn1 (fun _ => ?_) (fun c => absurd c (by simp only [hd]; decide))
  refine bX4_matrixOf_91 (v91 := nI 2) hq1 hn1 rfl ?_
  refine bX4_matrixOf_2 hq1 hn1 (fun c => absurd c (by simp only [hd]; decide)) (fun _ => ?_)
  refine bX4_matrixOf_10 (v11 := nI 0) hq1 hn1 rfl ?_
  refine bX4_matrixOf_13 hq1 hn1 (fun c => absurd c (by simp only [hd]; decide)) (fun _ => ?_)
  refine bX4_matrixOf_22 (v26 := nI 0) hq1 hn1 rfl rfl ?_
  refine bX4_matrixOf_28 hq1 hn1 (fun c => absurd c (by simp only [hd]; decide)) (fun _ => ?_)
  refine bX4_matrixOf_37 (j43 := (p1 + 0)) (j60 := 6) (v66 := nI 1) (v64 := 0 + J q1 (p1 + 0) * J 8 6) hq1 hn1 (by simp only [nI_lit, nI_mulE, nI_addE]) (by omega) rfl (by omega) (by simp only [sa_uJ_ne hz1] <;> rfl) rfl ?_
  refine bX4_matrixOf_28 hq1 hn1 (fun c => absurd c (by simp only [hd]; decide)) (fun _ => ?_)
  refine bX4_matrixOf_37 (j43 := (p1 + 1)) (j60 := 15) (v66 := nI 2) (v64 := 0 + J q1 (p1 + 0) * J 8 6 + J q1 (p1 + 1) * J 8 15) hq1 hn1 (by simp only [nI_lit, nI_mulE, nI_addE]) (by omega) rfl (by omega) (by simp only [sa_uJ_ne hz1] <;> rfl) rfl ?_
  refine bX4_matrixOf_28 hq1 hn1 (fun c => absurd c (by simp only [hd]; decide)) (fun _ => ?_)
  refine bX4_matrixOf_37 (j43 := (p1 + 2)) (j60 := 24) (v66 := nI 3) (v64 := 0 + J q1 (p1 + 0) * J 8 6 + J q1 (p1 + 1) * J 8 15 + J q1 (p1 + 2) * J 8 24) hq1 hn1 (by simp only [nI_lit, nI_mulE, nI_addE]) (by omega) rfl (by omega) (by simp only [sa_uJ_ne hz1] <;> rfl) rfl ?_
  refine bX4_matrixOf_28 hq1 hn1 (fun _ => ?_) (fun c => absurd c (by simp only [hd]; decide))
  refine bX4_matrixOf_72 (j81 := 6) (v85 := nI 1) hq1 hn1 rfl (by omega) rfl ?_
  refine bX4_matrixOf_13 hq1 hn1 (fun c => absurd c (by simp only [hd]; decide)) (fun _ => ?_)
  refine bX4_matrixOf_22 (v26 := nI 0) hq1 hn1 rfl rfl ?_
  refine bX4_matrixOf_28 hq1 hn1 (fun c => absurd c (by simp only [hd]; decide)) (fun _ => ?_)
  refine bX4_matrixOf_37 (j43 := (p1 + 0)) (j60 := 7) (v66 := nI 1) (v64 := 0 + J q1 (p1 + 0) * J 8 7) hq1 hn1 (by simp only [nI_lit, nI_mulE, nI_addE]) (by omega) rfl (by omega) (by simp only [sa_uJ_ne hz1] <;> rfl) rfl ?_
  refine bX4_matrixOf_28 hq1 hn1 (fun c => absurd c (by simp only [hd]; decide)) (fun _ => ?_)
  refine bX4_matrixOf_37 (j43 := (p1 + 1)) (j60 := 16) (v66 := nI 2) (v64 := 0 + J q1 (p1 + 0) * J 8 7 + J q1 (p1 + 1) * J 8 16) hq1 hn1 (by simp only [nI_lit, nI_mulE, nI_addE]) (by omega) rfl (by omega) (by simp only [sa_uJ_ne hz1] <;> rfl) rfl ?_
  refine bX4_matrixOf_28 hq1 hn1 (fun c => absurd c (by simp only [hd]; decide)) (fun _ => ?_)
  refine bX4_matrixOf_37 (j43 := (p1 + 2)) (j60 := 25) (v66 := nI 3) (v64 := 0 + J q1 (p1 + 0) * J 8 7 + J q1 (p1 + 1) * J 8 16 + J q1 (p1 + 2) * J 8 25) hq1 hn1 (by simp only [nI_lit, nI_mulE, nI_addE]) (by omega) rfl (by omega) (by simp only [sa_uJ_ne hz1] <;> rfl) rfl ?_
  refine bX4_matrixOf_28 hq1 hn1 (fun _ => ?_) (fun c => absurd c (by simp only [hd]; decide))
  refine bX4_matrixOf_72 (j81 := 7) (v85 := nI 2) hq1 hn1 rfl (by omega) rfl ?_
  refine bX4_matrixOf_13 hq1 hn1 (fun c => absurd c (by simp only [hd]; decide)) (fun _ => ?_)
  refine bX4_matrixOf_22 (v26 := nI 0) hq1 hn1 rfl rfl ?_
  refine bX4_matrixOf_28 hq1 hn1 (fun c => absurd c (by simp only [hd]; decide)) (fun _ => ?_)
  refine bX4_matrixOf_37 (j43 := (p1 + 0)) (j60 := 8) (v66 := nI 1) (v64 := 0 + J q1 (p1 + 0) * J 8 8) hq1 hn1 (by simp only [nI_lit, nI_mulE, nI_addE]) (by omega) rfl (by omega) (by simp only [sa_uJ_ne hz1] <;> rfl) rfl ?_
  refine bX4_matrixOf_28 hq1 hn1 (fun c => absurd c (by simp only [hd]; decide)) (fun _ => ?_)
  refine bX4_matrixOf_37 (j43 := (p1 + 1)) (j60 := 17) (v66 := nI 2) (v64 := 0 + J q1 (p1 + 0) * J 8 8 + J q1 (p1 + 1) * J 8 17) hq1 hn1 (by simp only [nI_lit, nI_mulE, nI_addE]) (by omega) rfl (by omega) (by simp only [sa_uJ_ne hz1] <;> rfl) rfl ?_
  refine bX4_matrixOf_28 hq1 hn1 (fun c => absurd c (by simp only [hd]; decide)) (fun _ => ?_)
  refine bX4_matrixOf_37 (j43 := (p1 + 2)) (j60 := 26) (v66 := nI 3) (v64 := 0 + J q1 (p1 + 0) * J 8 8 + J q1 (p1 + 1) * J 8 17 + J q1 (p1 + 2) * J 8 26) hq1 hn1 (by simp only [nI_lit, nI_mulE, nI_addE]) (by omega) rfl (by omega) (by simp only [sa_uJ_ne hz1] <;> rfl) rfl ?_
  refine bX4_matrixOf_28 hq1 hn1 (fun _ => ?_) (fun c => absurd c (by simp only [hd]; decide))
  refine bX4_matrixOf_72 (j81 := 8) (v85 := nI 3) hq1 hn1 rfl (by omega) rfl ?_
  refine bX4_matrixOf_13 hq1 hn1 (fun _ => ?_) (fun c => absurd c (by simp only [hd]; decide))
  refine bX4_matrixOf_91 (v91 := nI 3) hq1 hn1 rfl ?_
  refine bX4_matrixOf_2 hq1 hn1 (fun _ => ?_) (fun c => absurd c (by simp only [hd]; decide))
  exact bX4_matrixOf_97  ⟨rfl, rfl, rfl, rfl, rfl, rfl, rfl, rfl, rfl, rfl, rfl, fun q h => by simp only [sa_uJ_ne h]⟩
theorem c_addTimes {m : Int64} {a1 q1 n1 p1 : Nat} (hq1 : sa_iJ (EC l D aI aL ad) a1 q1 n1) (hn1 : n1 < 2 ^ 31) {p2 : Nat} (hb1 : p1 + 3 ≤ n1) (hb2 : p2 + 3 ≤ n1) (hz1 : q1 ≠ 9) : Con (EC l D aI aL ad) M_X4_addTimes yX4_addTimes [.ref (ad 4), .ref a1, .int (nI p1), .int (nI p2), .long m] I J (fun r I1 J1 => r = none ∧ I1 = I ∧ J1 9 0 = J q1 (p1 + 0) + m * J q1 (p2 + 0) ∧ J1 9 1 = J q1 (p1 + 1) + m * J q1 (p2 + 1) ∧ J1 9 2 = J q1 (p1 + 2) + m * J q1 (p2 + 2) ∧ ∀ q, q ≠ 9 → J1 q = J q) := by
  refine Con.of (by decide +kernel) rfl (Nat.le_of_ble_eq_true rfl) ?_
  refine bX4_addTimes_0 (v1 := nI 0) hq1 hn1 rfl ?_
  refine bX4_addTimes_3 hq1 hn1 (fun c => absurd c (by decide)) (fun _ => ?_)
  refine bX4_addTimes_9 (j13 := 0) (j19 := (p1 + 0)) (j27 := (p2 + 0)) (v32 := nI 1) (v31 := J q1 (p1 + 0) + m * J q1 (p2 + 0)) hq1 hn1 rfl (by simp only [nI_lit, nI_mulE, nI_addE]) (by omega) (by simp only [nI_lit, nI_mulE, nI_addE]) (by omega) (by omega) (by simp only [sa_uJ_ne hz1]) rfl ?_
  refine bX4_addTimes_3 hq1 hn1 (fun c => absurd c (by decide)) (fun _ => ?_)
  refine bX4_addTimes_9 (j13 := 1) (j19 := (p1 + 1)) (j27 := (p2 + 1)) (v32 := nI 2) (v31 := J q1 (p1 + 1) + m * J q1 (p2 + 1)) hq1 hn1 rfl (by simp only [nI_lit, nI_mulE, nI_addE]) (by omega) (by simp only [nI_lit, nI_mulE, nI_addE]) (by omega) (by omega) (by simp only [sa_uJ_ne hz1]) rfl ?_
  refine bX4_addTimes_3 hq1 hn1 (fun c => absurd c (by decide)) (fun _ => ?_)
  refine bX4_addTimes_9 (j13 := 2) (j19 := (p1 + 2)) (j27 := (p2 + 2)) (v32 := nI 3) (v31 := J q1 (p1 + 2) + m * J q1 (p2 + 2)) hq1 hn1 rfl (by simp only [nI_lit, nI_mulE, nI_addE]) (by omega) (by simp only [nI_lit, nI_mulE, nI_addE]) (by omega) (by omega) (by simp only [sa_uJ_ne hz1]) rfl ?_
  refine bX4_addTimes_3 hq1 hn1 (fun _ => ?_) (fun c => absurd c (by decide))
  exact bX4_addTimes_38  ⟨rfl, rfl, rfl, rfl, rfl, fun q h => by simp only [sa_uJ_ne h]⟩
end EL
