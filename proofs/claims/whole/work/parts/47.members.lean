/-- part as the class has it -/
def pt (a b : Int64) : Int64 := if b = 0 then 0 else a / b
/-- the wide number behind multiplyMembers -/
def wd2 (p a b : Nat → Int64) : Nat → Int64 := fun t => match t with
  | 0 => (0 + a 0 * b 0) - (0 + a 1 * b 1) * p 0
  | 1 => (0 + a 0 * b 1 + a 1 * b 0) - (0 + a 1 * b 1) * p 1
  | _ => 0
def wd3 (p a b : Nat → Int64) : Nat → Int64 := fun t => match t with
  | 0 => (0 + a 0 * b 0) - ((0 + a 1 * b 2 + a 2 * b 1) - (0 + a 2 * b 2) * p 2) * p 0
  | 1 => (0 + a 0 * b 1 + a 1 * b 0) - (0 + a 2 * b 2) * p 0 - ((0 + a 1 * b 2 + a 2 * b 1) - (0 + a 2 * b 2) * p 2) * p 1
  | 2 => (0 + a 0 * b 2 + a 1 * b 1 + a 2 * b 0) - (0 + a 2 * b 2) * p 1 - ((0 + a 1 * b 2 + a 2 * b 1) - (0 + a 2 * b 2) * p 2) * p 2
  | _ => 0
/-- a row of the basis' upper numbers -/
def ur (u : Nat → Int64) (i : Nat) : Nat → Int64 := fun s => u (3 * i + s)
/-- the coordinates by tellByBasis -/
def tl2 (u w : Nat → Int64) (l0 l1 ix be : Int64) : Int64 × Int64 :=
  let c1 := pt (w 1 * ix * l1) (be * ix)
  (pt ((w 0 * ix - c1 * u 3 * pt (be * ix) l1) * l0) (be * ix), c1)
def tl3 (u w : Nat → Int64) (l0 l1 l2 ix be : Int64) : Int64 × Int64 × Int64 :=
  let c2 := pt (w 2 * ix * l2) (be * ix)
  let c1 := pt ((w 1 * ix - c2 * u 7 * pt (be * ix) l2) * l1) (be * ix)
  (pt ((w 0 * ix - c2 * u 6 * pt (be * ix) l2 - c1 * u 3 * pt (be * ix) l1) * l0) (be * ix), c1, c2)
section MM
variable {E : sa_E} {l : Launch} {D : va_G} {aI aL : ClassId} {ad : Nat → Nat} {I : sa_I} {J : sa_J}
theorem c_partL {a b : Int64} : Con E M_X6_part yX6_part [.long a, .long b] I J (p_l (pt a b) I J) := by
  refine Con.of (by decide +kernel) rfl (Nat.le_of_ble_eq_true rfl) ?_
  exact bX6_part_0 (fun c => bX6_part_10 c (bX6_part_13 ⟨by rw [pt, if_neg c], rfl, rfl⟩)) (fun c => bX6_part_6 (bX6_part_13 ⟨by rw [pt, if_pos c], rfl, rfl⟩))
theorem c_partE {a b A B : Int64} (ha : a = A) (hb : b = B) : Con E M_X6_part yX6_part [.long a, .long b] I J (p_l (pt A B) I J) := by
  rw [ha, hb]; exact c_partL
theorem c_mm2_00 (hd : I 4 0 = nI 2) : Con (EC l D aI aL ad) M_X4_multiplyMembers yX4_multiplyMembers [.ref (ad 4), .int (nI 0), .int (nI 0)] I J (fun r I1 J1 => r = none ∧ I1 = I ∧ J1 11 0 = wd2 (J 5) (ur (J 6) 0) (ur (J 6) 0) 0 ∧ J1 11 1 = wd2 (J 5) (ur (J 6) 0) (ur (J 6) 0) 1 ∧ ∀ q, q ≠ 11 → J1 q = J q) := by
  refine Con.of (by decide +kernel) rfl (Nat.le_of_ble_eq_true rfl) ?_
  refine bX4_multiplyMembers_0 (v1 := nI 0) rfl ?_
  refine bX4_multiplyMembers_2  (fun c => absurd c (by decide)) (fun _ => ?_)
  refine bX4_multiplyMembers_7 (j11 := 0) (v14 := nI 1) rfl (by decide) rfl rfl ?_
  refine bX4_multiplyMembers_2  (fun c => absurd c (by decide)) (fun _ => ?_)
  refine bX4_multiplyMembers_7 (j11 := 1) (v14 := nI 2) rfl (by decide) rfl rfl ?_
  refine bX4_multiplyMembers_2  (fun c => absurd c (by decide)) (fun _ => ?_)
  refine bX4_multiplyMembers_7 (j11 := 2) (v14 := nI 3) rfl (by decide) rfl rfl ?_
  refine bX4_multiplyMembers_2  (fun c => absurd c (by decide)) (fun _ => ?_)
  refine bX4_multiplyMembers_7 (j11 := 3) (v14 := nI 4) rfl (by decide) rfl rfl ?_
  refine bX4_multiplyMembers_2  (fun c => absurd c (by decide)) (fun _ => ?_)
  refine bX4_multiplyMembers_7 (j11 := 4) (v14 := nI 5) rfl (by decide) rfl rfl ?_
  refine bX4_multiplyMembers_2  (fun _ => ?_) (fun c => absurd c (by decide))
  refine bX4_multiplyMembers_20 (v21 := nI 0) rfl ?_
  refine bX4_multiplyMembers_22  (fun c => absurd c (by simp only [hd]; decide)) (fun _ => ?_)
  refine bX4_multiplyMembers_30 (v31 := nI 0) rfl ?_
  refine bX4_multiplyMembers_33  (fun c => absurd c (by simp only [hd]; decide)) (fun _ => ?_)
  refine bX4_multiplyMembers_42 (j49 := 0) (j60 := 0) (j71 := 0) (v76 := nI 1) (v75 := 0 + J 6 0 * J 6 0) rfl (by decide) rfl (by decide) rfl (by decide) (by decide) rfl rfl ?_
  refine bX4_multiplyMembers_33  (fun c => absurd c (by simp only [hd]; decide)) (fun _ => ?_)
  refine bX4_multiplyMembers_42 (j49 := 1) (j60 := 0) (j71 := 1) (v76 := nI 2) (v75 := 0 + J 6 0 * J 6 1) rfl (by decide) rfl (by decide) rfl (by decide) (by decide) rfl rfl ?_
  refine bX4_multiplyMembers_33  (fun _ => ?_) (fun c => absurd c (by simp only [hd]; decide))
  refine bX4_multiplyMembers_82 (v82 := nI 1) rfl ?_
  refine bX4_multiplyMembers_22  (fun c => absurd c (by simp only [hd]; decide)) (fun _ => ?_)
  refine bX4_multiplyMembers_30 (v31 := nI 0) rfl ?_
  refine bX4_multiplyMembers_33  (fun c => absurd c (by simp only [hd]; decide)) (fun _ => ?_)
  refine bX4_multiplyMembers_42 (j49 := 1) (j60 := 1) (j71 := 0) (v76 := nI 1) (v75 := 0 + J 6 0 * J 6 1 + J 6 1 * J 6 0) rfl (by decide) rfl (by decide) rfl (by decide) (by decide) rfl rfl ?_
  refine bX4_multiplyMembers_33  (fun c => absurd c (by simp only [hd]; decide)) (fun _ => ?_)
  refine bX4_multiplyMembers_42 (j49 := 2) (j60 := 1) (j71 := 1) (v76 := nI 2) (v75 := 0 + J 6 1 * J 6 1) rfl (by decide) rfl (by decide) rfl (by decide) (by decide) rfl rfl ?_
  refine bX4_multiplyMembers_33  (fun _ => ?_) (fun c => absurd c (by simp only [hd]; decide))
  refine bX4_multiplyMembers_82 (v82 := nI 2) rfl ?_
  refine bX4_multiplyMembers_22  (fun _ => ?_) (fun c => absurd c (by simp only [hd]; decide))
  refine bX4_multiplyMembers_88 (v96 := nI 2) (by simp only [hd]; rfl) ?_
  refine bX4_multiplyMembers_97  (fun c => absurd c (by simp only [hd]; decide)) (fun _ => ?_)
  refine bX4_multiplyMembers_105 (v106 := nI 0) rfl ?_
  refine bX4_multiplyMembers_108  (fun c => absurd c (by simp only [hd]; decide)) (fun _ => ?_)
  refine bX4_multiplyMembers_117 (j129 := 0) (j136 := 2) (j142 := 0) (v148 := nI 1) (v147 := (0 + J 6 0 * J 6 0) - (0 + J 6 1 * J 6 1) * J 5 0) (by simp only [hd]; rfl) (by decide) rfl (by decide) rfl (by decide) (by decide) rfl rfl ?_
  refine bX4_multiplyMembers_108  (fun c => absurd c (by simp only [hd]; decide)) (fun _ => ?_)
  refine bX4_multiplyMembers_117 (j129 := 1) (j136 := 2) (j142 := 1) (v148 := nI 2) (v147 := (0 + J 6 0 * J 6 1 + J 6 1 * J 6 0) - (0 + J 6 1 * J 6 1) * J 5 1) (by simp only [hd]; rfl) (by decide) rfl (by decide) rfl (by decide) (by decide) rfl rfl ?_
  refine bX4_multiplyMembers_108  (fun _ => ?_) (fun c => absurd c (by simp only [hd]; decide))
  refine bX4_multiplyMembers_154 (v154 := nI 1) rfl ?_
  refine bX4_multiplyMembers_97  (fun _ => ?_) (fun c => absurd c (by simp only [hd]; decide))
  exact bX4_multiplyMembers_160  ⟨rfl, rfl, rfl, rfl, fun q h => by simp only [sa_uJ_ne h]⟩
theorem c_mm2_01 (hd : I 4 0 = nI 2) : Con (EC l D aI aL ad) M_X4_multiplyMembers yX4_multiplyMembers [.ref (ad 4), .int (nI 0), .int (nI 1)] I J (fun r I1 J1 => r = none ∧ I1 = I ∧ J1 11 0 = wd2 (J 5) (ur (J 6) 0) (ur (J 6) 1) 0 ∧ J1 11 1 = wd2 (J 5) (ur (J 6) 0) (ur (J 6) 1) 1 ∧ ∀ q, q ≠ 11 → J1 q = J q) := by
  refine Con.of (by decide +kernel) rfl (Nat.le_of_ble_eq_true rfl) ?_
  refine bX4_multiplyMembers_0 (v1 := nI 0) rfl ?_
  refine bX4_multiplyMembers_2  (fun c => absurd c (by decide)) (fun _ => ?_)
  refine bX4_multiplyMembers_7 (j11 := 0) (v14 := nI 1) rfl (by decide) rfl rfl ?_
  refine bX4_multiplyMembers_2  (fun c => absurd c (by decide)) (fun _ => ?_)
  refine bX4_multiplyMembers_7 (j11 := 1) (v14 := nI 2) rfl (by decide) rfl rfl ?_
  refine bX4_multiplyMembers_2  (fun c => absurd c (by decide)) (fun _ => ?_)
  refine bX4_multiplyMembers_7 (j11 := 2) (v14 := nI 3) rfl (by decide) rfl rfl ?_
  refine bX4_multiplyMembers_2  (fun c => absurd c (by decide)) (fun _ => ?_)
  refine bX4_multiplyMembers_7 (j11 := 3) (v14 := nI 4) rfl (by decide) rfl rfl ?_
  refine bX4_multiplyMembers_2  (fun c => absurd c (by decide)) (fun _ => ?_)
  refine bX4_multiplyMembers_7 (j11 := 4) (v14 := nI 5) rfl (by decide) rfl rfl ?_
  refine bX4_multiplyMembers_2  (fun _ => ?_) (fun c => absurd c (by decide))
  refine bX4_multiplyMembers_20 (v21 := nI 0) rfl ?_
  refine bX4_multiplyMembers_22  (fun c => absurd c (by simp only [hd]; decide)) (fun _ => ?_)
  refine bX4_multiplyMembers_30 (v31 := nI 0) rfl ?_
  refine bX4_multiplyMembers_33  (fun c => absurd c (by simp only [hd]; decide)) (fun _ => ?_)
  refine bX4_multiplyMembers_42 (j49 := 0) (j60 := 0) (j71 := 3) (v76 := nI 1) (v75 := 0 + J 6 0 * J 6 3) rfl (by decide) rfl (by decide) rfl (by decide) (by decide) rfl rfl ?_
  refine bX4_multiplyMembers_33  (fun c => absurd c (by simp only [hd]; decide)) (fun _ => ?_)
  refine bX4_multiplyMembers_42 (j49 := 1) (j60 := 0) (j71 := 4) (v76 := nI 2) (v75 := 0 + J 6 0 * J 6 4) rfl (by decide) rfl (by decide) rfl (by decide) (by decide) rfl rfl ?_
  refine bX4_multiplyMembers_33  (fun _ => ?_) (fun c => absurd c (by simp only [hd]; decide))
  refine bX4_multiplyMembers_82 (v82 := nI 1) rfl ?_
  refine bX4_multiplyMembers_22  (fun c => absurd c (by simp only [hd]; decide)) (fun _ => ?_)
  refine bX4_multiplyMembers_30 (v31 := nI 0) rfl ?_
  refine bX4_multiplyMembers_33  (fun c => absurd c (by simp only [hd]; decide)) (fun _ => ?_)
  refine bX4_multiplyMembers_42 (j49 := 1) (j60 := 1) (j71 := 3) (v76 := nI 1) (v75 := 0 + J 6 0 * J 6 4 + J 6 1 * J 6 3) rfl (by decide) rfl (by decide) rfl (by decide) (by decide) rfl rfl ?_
  refine bX4_multiplyMembers_33  (fun c => absurd c (by simp only [hd]; decide)) (fun _ => ?_)
  refine bX4_multiplyMembers_42 (j49 := 2) (j60 := 1) (j71 := 4) (v76 := nI 2) (v75 := 0 + J 6 1 * J 6 4) rfl (by decide) rfl (by decide) rfl (by decide) (by decide) rfl rfl ?_
  refine bX4_multiplyMembers_33  (fun _ => ?_) (fun c => absurd c (by simp only [hd]; decide))
  refine bX4_multiplyMembers_82 (v82 := nI 2) rfl ?_
  refine bX4_multiplyMembers_22  (fun _ => ?_) (fun c => absurd c (by simp only [hd]; decide))
  refine bX4_multiplyMembers_88 (v96 := nI 2) (by simp only [hd]; rfl) ?_
  refine bX4_multiplyMembers_97  (fun c => absurd c (by simp only [hd]; decide)) (fun _ => ?_)
  refine bX4_multiplyMembers_105 (v106 := nI 0) rfl ?_
  refine bX4_multiplyMembers_108  (fun c => absurd c (by simp only [hd]; decide)) (fun _ => ?_)
  refine bX4_multiplyMembers_117 (j129 := 0) (j136 := 2) (j142 := 0) (v148 := nI 1) (v147 := (0 + J 6 0 * J 6 3) - (0 + J 6 1 * J 6 4) * J 5 0) (by simp only [hd]; rfl) (by decide) rfl (by decide) rfl (by decide) (by decide) rfl rfl ?_
  refine bX4_multiplyMembers_108  (fun c => absurd c (by simp only [hd]; decide)) (fun _ => ?_)
  refine bX4_multiplyMembers_117 (j129 := 1) (j136 := 2) (j142 := 1) (v148 := nI 2) (v147 := (0 + J 6 0 * J 6 4 + J 6 1 * J 6 3) - (0 + J 6 1 * J 6 4) * J 5 1) (by simp only [hd]; rfl) (by decide) rfl (by decide) rfl (by decide) (by decide) rfl rfl ?_
  refine bX4_multiplyMembers_108  (fun _ => ?_) (fun c => absurd c (by simp only [hd]; decide))
  refine bX4_multiplyMembers_154 (v154 := nI 1) rfl ?_
  refine bX4_multiplyMembers_97  (fun _ => ?_) (fun c => absurd c (by simp only [hd]; decide))
  exact bX4_multiplyMembers_160  ⟨rfl, rfl, rfl, rfl, fun q h => by simp only [sa_uJ_ne h]⟩
theorem c_mm2_10 (hd : I 4 0 = nI 2) : Con (EC l D aI aL ad) M_X4_multiplyMembers yX4_multiplyMembers [.ref (ad 4), .int (nI 1), .int (nI 0)] I J (fun r I1 J1 => r = none ∧ I1 = I ∧ J1 11 0 = wd2 (J 5) (ur (J 6) 1) (ur (J 6) 0) 0 ∧ J1 11 1 = wd2 (J 5) (ur (J 6) 1) (ur (J 6) 0) 1 ∧ ∀ q, q ≠ 11 → J1 q = J q) := by
  refine Con.of (by decide +kernel) rfl (Nat.le_of_ble_eq_true rfl) ?_
  refine bX4_multiplyMembers_0 (v1 := nI 0) rfl ?_
  refine bX4_multiplyMembers_2  (fun c => absurd c (by decide)) (fun _ => ?_)
  refine bX4_multiplyMembers_7 (j11 := 0) (v14 := nI 1) rfl (by decide) rfl rfl ?_
  refine bX4_multiplyMembers_2  (fun c => absurd c (by decide)) (fun _ => ?_)
  refine bX4_multiplyMembers_7 (j11 := 1) (v14 := nI 2) rfl (by decide) rfl rfl ?_
  refine bX4_multiplyMembers_2  (fun c => absurd c (by decide)) (fun _ => ?_)
  refine bX4_multiplyMembers_7 (j11 := 2) (v14 := nI 3) rfl (by decide) rfl rfl ?_
  refine bX4_multiplyMembers_2  (fun c => absurd c (by decide)) (fun _ => ?_)
  refine bX4_multiplyMembers_7 (j11 := 3) (v14 := nI 4) rfl (by decide) rfl rfl ?_
  refine bX4_multiplyMembers_2  (fun c => absurd c (by decide)) (fun _ => ?_)
  refine bX4_multiplyMembers_7 (j11 := 4) (v14 := nI 5) rfl (by decide) rfl rfl ?_
  refine bX4_multiplyMembers_2  (fun _ => ?_) (fun c => absurd c (by decide))
  refine bX4_multiplyMembers_20 (v21 := nI 0) rfl ?_
  refine bX4_multiplyMembers_22  (fun c => absurd c (by simp only [hd]; decide)) (fun _ => ?_)
  refine bX4_multiplyMembers_30 (v31 := nI 0) rfl ?_
  refine bX4_multiplyMembers_33  (fun c => absurd c (by simp only [hd]; decide)) (fun _ => ?_)
  refine bX4_multiplyMembers_42 (j49 := 0) (j60 := 3) (j71 := 0) (v76 := nI 1) (v75 := 0 + J 6 3 * J 6 0) rfl (by decide) rfl (by decide) rfl (by decide) (by decide) rfl rfl ?_
  refine bX4_multiplyMembers_33  (fun c => absurd c (by simp only [hd]; decide)) (fun _ => ?_)
  refine bX4_multiplyMembers_42 (j49 := 1) (j60 := 3) (j71 := 1) (v76 := nI 2) (v75 := 0 + J 6 3 * J 6 1) rfl (by decide) rfl (by decide) rfl (by decide) (by decide) rfl rfl ?_
  refine bX4_multiplyMembers_33  (fun _ => ?_) (fun c => absurd c (by simp only [hd]; decide))
  refine bX4_multiplyMembers_82 (v82 := nI 1) rfl ?_
  refine bX4_multiplyMembers_22  (fun c => absurd c (by simp only [hd]; decide)) (fun _ => ?_)
  refine bX4_multiplyMembers_30 (v31 := nI 0) rfl ?_
  refine bX4_multiplyMembers_33  (fun c => absurd c (by simp only [hd]; decide)) (fun _ => ?_)
  refine bX4_multiplyMembers_42 (j49 := 1) (j60 := 4) (j71 := 0) (v76 := nI 1) (v75 := 0 + J 6 3 * J 6 1 + J 6 4 * J 6 0) rfl (by decide) rfl (by decide) rfl (by decide) (by decide) rfl rfl ?_
  refine bX4_multiplyMembers_33  (fun c => absurd c (by simp only [hd]; decide)) (fun _ => ?_)
  refine bX4_multiplyMembers_42 (j49 := 2) (j60 := 4) (j71 := 1) (v76 := nI 2) (v75 := 0 + J 6 4 * J 6 1) rfl (by decide) rfl (by decide) rfl (by decide) (by decide) rfl rfl ?_
  refine bX4_multiplyMembers_33  (fun _ => ?_) (fun c => absurd c (by simp only [hd]; decide))
  refine bX4_multiplyMembers_82 (v82 := nI 2) rfl ?_
  refine bX4_multiplyMembers_22  (fun _ => ?_) (fun c => absurd c (by simp only [hd]; decide))
  refine bX4_multiplyMembers_88 (v96 := nI 2) (by simp only [hd]; rfl) ?_
  refine bX4_multiplyMembers_97  (fun c => absurd c (by simp only [hd]; decide)) (fun _ => ?_)
  refine bX4_multiplyMembers_105 (v106 := nI 0) rfl ?_
  refine bX4_multiplyMembers_108  (fun c => absurd c (by simp only [hd]; decide)) (fun _ => ?_)
  refine bX4_multiplyMembers_117 (j129 := 0) (j136 := 2) (j142 := 0) (v148 := nI 1) (v147 := (0 + J 6 3 * J 6 0) - (0 + J 6 4 * J 6 1) * J 5 0) (by simp only [hd]; rfl) (by decide) rfl (by decide) rfl (by decide) (by decide) rfl rfl ?_
  refine bX4_multiplyMembers_108  (fun c => absurd c (by simp only [hd]; decide)) (fun _ => ?_)
  refine bX4_multiplyMembers_117 (j129 := 1) (j136 := 2) (j142 := 1) (v148 := nI 2) (v147 := (0 + J 6 3 * J 6 1 + J 6 4 * J 6 0) - (0 + J 6 4 * J 6 1) * J 5 1) (by simp only [hd]; rfl) (by decide) rfl (by decide) rfl (by decide) (by decide) rfl rfl ?_
  refine bX4_multiplyMembers_108  (fun _ => ?_) (fun c => absurd c (by simp only [hd]; decide))
  refine bX4_multiplyMembers_154 (v154 := nI 1) rfl ?_
  refine bX4_multiplyMembers_97  (fun _ => ?_) (fun c => absurd c (by simp only [hd]; decide))
  exact bX4_multiplyMembers_160  ⟨rfl, rfl, rfl, rfl, fun q h => by simp only [sa_uJ_ne h]⟩
theorem c_mm2_11 (hd : I 4 0 = nI 2) : Con (EC l D aI aL ad) M_X4_multiplyMembers yX4_multiplyMembers [.ref (ad 4), .int (nI 1), .int (nI 1)] I J (fun r I1 J1 => r = none ∧ I1 = I ∧ J1 11 0 = wd2 (J 5) (ur (J 6) 1) (ur (J 6) 1) 0 ∧ J1 11 1 = wd2 (J 5) (ur (J 6) 1) (ur (J 6) 1) 1 ∧ ∀ q, q ≠ 11 → J1 q = J q) := by
  refine Con.of (by decide +kernel) rfl (Nat.le_of_ble_eq_true rfl) ?_
  refine bX4_multiplyMembers_0 (v1 := nI 0) rfl ?_
  refine bX4_multiplyMembers_2  (fun c => absurd c (by decide)) (fun _ => ?_)
  refine bX4_multiplyMembers_7 (j11 := 0) (v14 := nI 1) rfl (by decide) rfl rfl ?_
  refine bX4_multiplyMembers_2  (fun c => absurd c (by decide)) (fun _ => ?_)
  refine bX4_multiplyMembers_7 (j11 := 1) (v14 := nI 2) rfl (by decide) rfl rfl ?_
  refine bX4_multiplyMembers_2  (fun c => absurd c (by decide)) (fun _ => ?_)
  refine bX4_multiplyMembers_7 (j11 := 2) (v14 := nI 3) rfl (by decide) rfl rfl ?_
  refine bX4_multiplyMembers_2  (fun c => absurd c (by decide)) (fun _ => ?_)
  refine bX4_multiplyMembers_7 (j11 := 3) (v14 := nI 4) rfl (by decide) rfl rfl ?_
  refine bX4_multiplyMembers_2  (fun c => absurd c (by decide)) (fun _ => ?_)
  refine bX4_multiplyMembers_7 (j11 := 4) (v14 := nI 5) rfl (by decide) rfl rfl ?_
  refine bX4_multiplyMembers_2  (fun _ => ?_) (fun c => absurd c (by decide))
  refine bX4_multiplyMembers_20 (v21 := nI 0) rfl ?_
  refine bX4_multiplyMembers_22  (fun c => absurd c (by simp only [hd]; decide)) (fun _ => ?_)
  refine bX4_multiplyMembers_30 (v31 := nI 0) rfl ?_
  refine bX4_multiplyMembers_33  (fun c => absurd c (by simp only [hd]; decide)) (fun _ => ?_)
  refine bX4_multiplyMembers_42 (j49 := 0) (j60 := 3) (j71 := 3) (v76 := nI 1) (v75 := 0 + J 6 3 * J 6 3) rfl (by decide) rfl (by decide) rfl (by decide) (by decide) rfl rfl ?_
  refine bX4_multiplyMembers_33  (fun c => absurd c (by simp only [hd]; decide)) (fun _ => ?_)
  refine bX4_multiplyMembers_42 (j49 := 1) (j60 := 3) (j71 := 4) (v76 := nI 2) (v75 := 0 + J 6 3 * J 6 4) rfl (by decide) rfl (by decide) rfl (by decide) (by decide) rfl rfl ?_
  refine bX4_multiplyMembers_33  (fun _ => ?_) (fun c => absurd c (by simp only [hd]; decide))
  refine bX4_multiplyMembers_82 (v82 := nI 1) rfl ?_
  refine bX4_multiplyMembers_22  (fun c => absurd c (by simp only [hd]; decide)) (fun _ => ?_)
  refine bX4_multiplyMembers_30 (v31 := nI 0) rfl ?_
  refine bX4_multiplyMembers_33  (fun c => absurd c (by simp only [hd]; decide)) (fun _ => ?_)
  refine bX4_multiplyMembers_42 (j49 := 1) (j60 := 4) (j71 := 3) (v76 := nI 1) (v75 := 0 + J 6 3 * J 6 4 + J 6 4 * J 6 3) rfl (by decide) rfl (by decide) rfl (by decide) (by decide) rfl rfl ?_
  refine bX4_multiplyMembers_33  (fun c => absurd c (by simp only [hd]; decide)) (fun _ => ?_)
  refine bX4_multiplyMembers_42 (j49 := 2) (j60 := 4) (j71 := 4) (v76 := nI 2) (v75 := 0 + J 6 4 * J 6 4) rfl (by decide) rfl (by decide) rfl (by decide) (by decide) rfl rfl ?_
  refine bX4_multiplyMembers_33  (fun _ => ?_) (fun c => absurd c (by simp only [hd]; decide))
  refine bX4_multiplyMembers_82 (v82 := nI 2) rfl ?_
  refine bX4_multiplyMembers_22  (fun _ => ?_) (fun c => absurd c (by simp only [hd]; decide))
  refine bX4_multiplyMembers_88 (v96 := nI 2) (by simp only [hd]; rfl) ?_
  refine bX4_multiplyMembers_97  (fun c => absurd c (by simp only [hd]; decide)) (fun _ => ?_)
  refine bX4_multiplyMembers_105 (v106 := nI 0) rfl ?_
  refine bX4_multiplyMembers_108  (fun c => absurd c (by simp only [hd]; decide)) (fun _ => ?_)
  refine bX4_multiplyMembers_117 (j129 := 0) (j136 := 2) (j142 := 0) (v148 := nI 1) (v147 := (0 + J 6 3 * J 6 3) - (0 + J 6 4 * J 6 4) * J 5 0) (by simp only [hd]; rfl) (by decide) rfl (by decide) rfl (by decide) (by decide) rfl rfl ?_
  refine bX4_multiplyMembers_108  (fun c => absurd c (by simp only [hd]; decide)) (fun _ => ?_)
  refine bX4_multiplyMembers_117 (j129 := 1) (j136 := 2) (j142 := 1) (v148 := nI 2) (v147 := (0 + J 6 3 * J 6 4 + J 6 4 * J 6 3) - (0 + J 6 4 * J 6 4) * J 5 1) (by simp only [hd]; rfl) (by decide) rfl (by decide) rfl (by decide) (by decide) rfl rfl ?_
  refine bX4_multiplyMembers_108  (fun _ => ?_) (fun c => absurd c (by simp only [hd]; decide))
  refine bX4_multiplyMembers_154 (v154 := nI 1) rfl ?_
  refine bX4_multiplyMembers_97  (fun _ => ?_) (fun c => absurd c (by simp only [hd]; decide))
  exact bX4_multiplyMembers_160  ⟨rfl, rfl, rfl, rfl, fun q h => by simp only [sa_uJ_ne h]⟩
theorem c_tb2_00 {be : Int64} (hd : I 4 0 = nI 2) : Con (EC l D aI aL ad) M_X4_tellByBasis yX4_tellByBasis [.ref (ad 4), .long be, .int (nI 0)] I J (fun r I1 J1 => r = none ∧ I1 = I ∧ J1 8 = vp_updL (vp_updL (J 8) 1 (tl2 (J 6) (J 11) (J 7 0) (J 7 1) (J 4 3) be).2) 0 (tl2 (J 6) (J 11) (J 7 0) (J 7 1) (J 4 3) be).1 ∧ ∀ q, q ≠ 8 → q ≠ 11 → J1 q = J q) := by
  refine Con.of (by decide +kernel) rfl (Nat.le_of_ble_eq_true rfl) ?_
  refine bX4_tellByBasis_0 (v1 := nI 0) rfl ?_
  refine bX4_tellByBasis_3  (fun c => absurd c (by simp only [hd]; decide)) (fun _ => ?_)
  refine bX4_tellByBasis_12 (j16 := 0) (v26 := nI 1) (v25 := J 11 0 * J 4 3) rfl (by decide) (by decide) rfl rfl ?_
  refine bX4_tellByBasis_3  (fun c => absurd c (by simp only [hd]; decide)) (fun _ => ?_)
  refine bX4_tellByBasis_12 (j16 := 1) (v26 := nI 2) (v25 := J 11 1 * J 4 3) rfl (by decide) (by decide) rfl rfl ?_
  refine bX4_tellByBasis_3  (fun _ => ?_) (fun c => absurd c (by simp only [hd]; decide))
  refine bX4_tellByBasis_32 (v46 := nI 1) (v38 := be * J 4 3) rfl (by simp only [hd]; rfl) ?_
  refine bX4_tellByBasis_48  (fun c => absurd c (by decide)) (fun _ => ?_)
  refine bX4_tellByBasis_53 (j57 := 1) (j64 := 1) rfl (by decide) rfl (by decide) ?_
  refine v_X4_88 dX4_tellByBasis_70 rfl ⟨rfl, rfl, Nat.le_of_ble_eq_true rfl, Nat.le_of_ble_eq_true rfl⟩ (c_partE (A := (J 11 1 * J 4 3) * J 7 1) (B := be * J 4 3) rfl rfl) rfl rfl (Nat.le_of_ble_eq_true rfl) (fun r I1 J1 hp => ?_)
  obtain ⟨rfl, e2, e3⟩ := hp
  obtain rfl := e2.symm
  obtain rfl := e3.symm
  refine bX4_tellByBasis_73 (j82 := 1) (v87 := nI 0) rfl (by decide) rfl ?_
  refine bX4_tellByBasis_89  (fun c => absurd c (by decide)) (fun _ => ?_)
  refine bX4_tellByBasis_96 (j100 := 0) (j116 := 3) (j125 := 1) rfl (by decide) rfl (by decide) rfl (by decide) ?_
  refine v_X4_88 dX4_tellByBasis_128 rfl ⟨rfl, rfl, Nat.le_of_ble_eq_true rfl, Nat.le_of_ble_eq_true rfl⟩ (c_partE (A := be * J 4 3) (B := J 7 1) rfl rfl) rfl rfl (Nat.le_of_ble_eq_true rfl) (fun r I1 J1 hp => ?_)
  obtain ⟨rfl, e2, e3⟩ := hp
  obtain rfl := e2.symm
  obtain rfl := e3.symm
  refine bX4_tellByBasis_131 (s1 := 0) (v134 := nI 1) (v133 := J 11 0 * J 4 3 - pt ((J 11 1 * J 4 3) * J 7 1) (be * J 4 3) * J 6 3 * pt (be * J 4 3) (J 7 1)) (by decide) rfl rfl ?_
  refine bX4_tellByBasis_89  (fun c => absurd c (by decide)) (fun _ => ?_)
  refine bX4_tellByBasis_96 (j100 := 1) (j116 := 4) (j125 := 1) rfl (by decide) rfl (by decide) rfl (by decide) ?_
  refine v_X4_88 dX4_tellByBasis_128 rfl ⟨rfl, rfl, Nat.le_of_ble_eq_true rfl, Nat.le_of_ble_eq_true rfl⟩ (c_partE (A := be * J 4 3) (B := J 7 1) rfl rfl) rfl rfl (Nat.le_of_ble_eq_true rfl) (fun r I1 J1 hp => ?_)
  obtain ⟨rfl, e2, e3⟩ := hp
  obtain rfl := e2.symm
  obtain rfl := e3.symm
  refine bX4_tellByBasis_131 (s1 := 1) (v134 := nI 2) (v133 := J 11 1 * J 4 3 - pt ((J 11 1 * J 4 3) * J 7 1) (be * J 4 3) * J 6 4 * pt (be * J 4 3) (J 7 1)) (by decide) rfl rfl ?_
  refine bX4_tellByBasis_89  (fun _ => ?_) (fun c => absurd c (by decide))
  refine bX4_tellByBasis_140 (v140 := nI 0) rfl ?_
  refine bX4_tellByBasis_48  (fun c => absurd c (by decide)) (fun _ => ?_)
  refine bX4_tellByBasis_53 (j57 := 0) (j64 := 0) rfl (by decide) rfl (by decide) ?_
  refine v_X4_88 dX4_tellByBasis_70 rfl ⟨rfl, rfl, Nat.le_of_ble_eq_true rfl, Nat.le_of_ble_eq_true rfl⟩ (c_partE (A := (J 11 0 * J 4 3 - pt ((J 11 1 * J 4 3) * J 7 1) (be * J 4 3) * J 6 3 * pt (be * J 4 3) (J 7 1)) * J 7 0) (B := be * J 4 3) rfl rfl) rfl rfl (Nat.le_of_ble_eq_true rfl) (fun r I1 J1 hp => ?_)
  obtain ⟨rfl, e2, e3⟩ := hp
  obtain rfl := e2.symm
  obtain rfl := e3.symm
  refine bX4_tellByBasis_73 (j82 := 0) (v87 := nI 0) rfl (by decide) rfl ?_
  refine bX4_tellByBasis_89  (fun c => absurd c (by decide)) (fun _ => ?_)
  refine bX4_tellByBasis_96 (j100 := 0) (j116 := 0) (j125 := 0) rfl (by decide) rfl (by decide) rfl (by decide) ?_
  refine v_X4_88 dX4_tellByBasis_128 rfl ⟨rfl, rfl, Nat.le_of_ble_eq_true rfl, Nat.le_of_ble_eq_true rfl⟩ (c_partE (A := be * J 4 3) (B := J 7 0) rfl rfl) rfl rfl (Nat.le_of_ble_eq_true rfl) (fun r I1 J1 hp => ?_)
  obtain ⟨rfl, e2, e3⟩ := hp
  obtain rfl := e2.symm
  obtain rfl := e3.symm
  refine bX4_tellByBasis_131 (s1 := 0) (v134 := nI 1) (v133 := J 11 0 * J 4 3 - pt ((J 11 1 * J 4 3) * J 7 1) (be * J 4 3) * J 6 3 * pt (be * J 4 3) (J 7 1) - pt ((J 11 0 * J 4 3 - pt ((J 11 1 * J 4 3) * J 7 1) (be * J 4 3) * J 6 3 * pt (be * J 4 3) (J 7 1)) * J 7 0) (be * J 4 3) * J 6 0 * pt (be * J 4 3) (J 7 0)) (by decide) rfl rfl ?_
  refine bX4_tellByBasis_89  (fun _ => ?_) (fun c => absurd c (by decide))
  refine bX4_tellByBasis_140 (v140 := (-1)) rfl ?_
  refine bX4_tellByBasis_48  (fun _ => ?_) (fun c => absurd c (by decide))
  exact bX4_tellByBasis_146  ⟨rfl, rfl, rfl, fun q h1 h2 => by simp only [sa_uJ_ne h1, sa_uJ_ne h2]⟩
theorem c_tb2_01 {be : Int64} (hd : I 4 0 = nI 2) : Con (EC l D aI aL ad) M_X4_tellByBasis yX4_tellByBasis [.ref (ad 4), .long be, .int (nI 3)] I J (fun r I1 J1 => r = none ∧ I1 = I ∧ J1 8 = vp_updL (vp_updL (J 8) 4 (tl2 (J 6) (J 11) (J 7 0) (J 7 1) (J 4 3) be).2) 3 (tl2 (J 6) (J 11) (J 7 0) (J 7 1) (J 4 3) be).1 ∧ ∀ q, q ≠ 8 → q ≠ 11 → J1 q = J q) := by
  refine Con.of (by decide +kernel) rfl (Nat.le_of_ble_eq_true rfl) ?_
  refine bX4_tellByBasis_0 (v1 := nI 0) rfl ?_
  refine bX4_tellByBasis_3  (fun c => absurd c (by simp only [hd]; decide)) (fun _ => ?_)
  refine bX4_tellByBasis_12 (j16 := 0) (v26 := nI 1) (v25 := J 11 0 * J 4 3) rfl (by decide) (by decide) rfl rfl ?_
  refine bX4_tellByBasis_3  (fun c => absurd c (by simp only [hd]; decide)) (fun _ => ?_)
  refine bX4_tellByBasis_12 (j16 := 1) (v26 := nI 2) (v25 := J 11 1 * J 4 3) rfl (by decide) (by decide) rfl rfl ?_
  refine bX4_tellByBasis_3  (fun _ => ?_) (fun c => absurd c (by simp only [hd]; decide))
  refine bX4_tellByBasis_32 (v46 := nI 1) (v38 := be * J 4 3) rfl (by simp only [hd]; rfl) ?_
  refine bX4_tellByBasis_48  (fun c => absurd c (by decide)) (fun _ => ?_)
  refine bX4_tellByBasis_53 (j57 := 1) (j64 := 1) rfl (by decide) rfl (by decide) ?_
  refine v_X4_88 dX4_tellByBasis_70 rfl ⟨rfl, rfl, Nat.le_of_ble_eq_true rfl, Nat.le_of_ble_eq_true rfl⟩ (c_partE (A := (J 11 1 * J 4 3) * J 7 1) (B := be * J 4 3) rfl rfl) rfl rfl (Nat.le_of_ble_eq_true rfl) (fun r I1 J1 hp => ?_)
  obtain ⟨rfl, e2, e3⟩ := hp
  obtain rfl := e2.symm
  obtain rfl := e3.symm
  refine bX4_tellByBasis_73 (j82 := 4) (v87 := nI 0) rfl (by decide) rfl ?_
  refine bX4_tellByBasis_89  (fun c => absurd c (by decide)) (fun _ => ?_)
  refine bX4_tellByBasis_96 (j100 := 0) (j116 := 3) (j125 := 1) rfl (by decide) rfl (by decide) rfl (by decide) ?_
  refine v_X4_88 dX4_tellByBasis_128 rfl ⟨rfl, rfl, Nat.le_of_ble_eq_true rfl, Nat.le_of_ble_eq_true rfl⟩ (c_partE (A := be * J 4 3) (B := J 7 1) rfl rfl) rfl rfl (Nat.le_of_ble_eq_true rfl) (fun r I1 J1 hp => ?_)
  obtain ⟨rfl, e2, e3⟩ := hp
  obtain rfl := e2.symm
  obtain rfl := e3.symm
  refine bX4_tellByBasis_131 (s1 := 0) (v134 := nI 1) (v133 := J 11 0 * J 4 3 - pt ((J 11 1 * J 4 3) * J 7 1) (be * J 4 3) * J 6 3 * pt (be * J 4 3) (J 7 1)) (by decide) rfl rfl ?_
  refine bX4_tellByBasis_89  (fun c => absurd c (by decide)) (fun _ => ?_)
  refine bX4_tellByBasis_96 (j100 := 1) (j116 := 4) (j125 := 1) rfl (by decide) rfl (by decide) rfl (by decide) ?_
  refine v_X4_88 dX4_tellByBasis_128 rfl ⟨rfl, rfl, Nat.le_of_ble_eq_true rfl, Nat.le_of_ble_eq_true rfl⟩ (c_partE (A := be * J 4 3) (B := J 7 1) rfl rfl) rfl rfl (Nat.le_of_ble_eq_true rfl) (fun r I1 J1 hp => ?_)
  obtain ⟨rfl, e2, e3⟩ := hp
  obtain rfl := e2.symm
  obtain rfl := e3.symm
  refine bX4_tellByBasis_131 (s1 := 1) (v134 := nI 2) (v133 := J 11 1 * J 4 3 - pt ((J 11 1 * J 4 3) * J 7 1) (be * J 4 3) * J 6 4 * pt (be * J 4 3) (J 7 1)) (by decide) rfl rfl ?_
  refine bX4_tellByBasis_89  (fun _ => ?_) (fun c => absurd c (by decide))
  refine bX4_tellByBasis_140 (v140 := nI 0) rfl ?_
  refine bX4_tellByBasis_48  (fun c => absurd c (by decide)) (fun _ => ?_)
  refine bX4_tellByBasis_53 (j57 := 0) (j64 := 0) rfl (by decide) rfl (by decide) ?_
  refine v_X4_88 dX4_tellByBasis_70 rfl ⟨rfl, rfl, Nat.le_of_ble_eq_true rfl, Nat.le_of_ble_eq_true rfl⟩ (c_partE (A := (J 11 0 * J 4 3 - pt ((J 11 1 * J 4 3) * J 7 1) (be * J 4 3) * J 6 3 * pt (be * J 4 3) (J 7 1)) * J 7 0) (B := be * J 4 3) rfl rfl) rfl rfl (Nat.le_of_ble_eq_true rfl) (fun r I1 J1 hp => ?_)
  obtain ⟨rfl, e2, e3⟩ := hp
  obtain rfl := e2.symm
  obtain rfl := e3.symm
  refine bX4_tellByBasis_73 (j82 := 3) (v87 := nI 0) rfl (by decide) rfl ?_
  refine bX4_tellByBasis_89  (fun c => absurd c (by decide)) (fun _ => ?_)
  refine bX4_tellByBasis_96 (j100 := 0) (j116 := 0) (j125 := 0) rfl (by decide) rfl (by decide) rfl (by decide) ?_
  refine v_X4_88 dX4_tellByBasis_128 rfl ⟨rfl, rfl, Nat.le_of_ble_eq_true rfl, Nat.le_of_ble_eq_true rfl⟩ (c_partE (A := be * J 4 3) (B := J 7 0) rfl rfl) rfl rfl (Nat.le_of_ble_eq_true rfl) (fun r I1 J1 hp => ?_)
  obtain ⟨rfl, e2, e3⟩ := hp
  obtain rfl := e2.symm
  obtain rfl := e3.symm
  refine bX4_tellByBasis_131 (s1 := 0) (v134 := nI 1) (v133 := J 11 0 * J 4 3 - pt ((J 11 1 * J 4 3) * J 7 1) (be * J 4 3) * J 6 3 * pt (be * J 4 3) (J 7 1) - pt ((J 11 0 * J 4 3 - pt ((J 11 1 * J 4 3) * J 7 1) (be * J 4 3) * J 6 3 * pt (be * J 4 3) (J 7 1)) * J 7 0) (be * J 4 3) * J 6 0 * pt (be * J 4 3) (J 7 0)) (by decide) rfl rfl ?_
  refine bX4_tellByBasis_89  (fun _ => ?_) (fun c => absurd c (by decide))
  refine bX4_tellByBasis_140 (v140 := (-1)) rfl ?_
  refine bX4_tellByBasis_48  (fun _ => ?_) (fun c => absurd c (by decide))
  exact bX4_tellByBasis_146  ⟨rfl, rfl, rfl, fun q h1 h2 => by simp only [sa_uJ_ne h1, sa_uJ_ne h2]⟩
theorem c_tb2_10 {be : Int64} (hd : I 4 0 = nI 2) : Con (EC l D aI aL ad) M_X4_tellByBasis yX4_tellByBasis [.ref (ad 4), .long be, .int (nI 9)] I J (fun r I1 J1 => r = none ∧ I1 = I ∧ J1 8 = vp_updL (vp_updL (J 8) 10 (tl2 (J 6) (J 11) (J 7 0) (J 7 1) (J 4 3) be).2) 9 (tl2 (J 6) (J 11) (J 7 0) (J 7 1) (J 4 3) be).1 ∧ ∀ q, q ≠ 8 → q ≠ 11 → J1 q = J q) := by
  refine Con.of (by decide +kernel) rfl (Nat.le_of_ble_eq_true rfl) ?_
  refine bX4_tellByBasis_0 (v1 := nI 0) rfl ?_
  refine bX4_tellByBasis_3  (fun c => absurd c (by simp only [hd]; decide)) (fun _ => ?_)
  refine bX4_tellByBasis_12 (j16 := 0) (v26 := nI 1) (v25 := J 11 0 * J 4 3) rfl (by decide) (by decide) rfl rfl ?_
  refine bX4_tellByBasis_3  (fun c => absurd c (by simp only [hd]; decide)) (fun _ => ?_)
  refine bX4_tellByBasis_12 (j16 := 1) (v26 := nI 2) (v25 := J 11 1 * J 4 3) rfl (by decide) (by decide) rfl rfl ?_
  refine bX4_tellByBasis_3  (fun _ => ?_) (fun c => absurd c (by simp only [hd]; decide))
  refine bX4_tellByBasis_32 (v46 := nI 1) (v38 := be * J 4 3) rfl (by simp only [hd]; rfl) ?_
  refine bX4_tellByBasis_48  (fun c => absurd c (by decide)) (fun _ => ?_)
  refine bX4_tellByBasis_53 (j57 := 1) (j64 := 1) rfl (by decide) rfl (by decide) ?_
  refine v_X4_88 dX4_tellByBasis_70 rfl ⟨rfl, rfl, Nat.le_of_ble_eq_true rfl, Nat.le_of_ble_eq_true rfl⟩ (c_partE (A := (J 11 1 * J 4 3) * J 7 1) (B := be * J 4 3) rfl rfl) rfl rfl (Nat.le_of_ble_eq_true rfl) (fun r I1 J1 hp => ?_)
  obtain ⟨rfl, e2, e3⟩ := hp
  obtain rfl := e2.symm
  obtain rfl := e3.symm
  refine bX4_tellByBasis_73 (j82 := 10) (v87 := nI 0) rfl (by decide) rfl ?_
  refine bX4_tellByBasis_89  (fun c => absurd c (by decide)) (fun _ => ?_)
  refine bX4_tellByBasis_96 (j100 := 0) (j116 := 3) (j125 := 1) rfl (by decide) rfl (by decide) rfl (by decide) ?_
  refine v_X4_88 dX4_tellByBasis_128 rfl ⟨rfl, rfl, Nat.le_of_ble_eq_true rfl, Nat.le_of_ble_eq_true rfl⟩ (c_partE (A := be * J 4 3) (B := J 7 1) rfl rfl) rfl rfl (Nat.le_of_ble_eq_true rfl) (fun r I1 J1 hp => ?_)
  obtain ⟨rfl, e2, e3⟩ := hp
  obtain rfl := e2.symm
  obtain rfl := e3.symm
  refine bX4_tellByBasis_131 (s1 := 0) (v134 := nI 1) (v133 := J 11 0 * J 4 3 - pt ((J 11 1 * J 4 3) * J 7 1) (be * J 4 3) * J 6 3 * pt (be * J 4 3) (J 7 1)) (by decide) rfl rfl ?_
  refine bX4_tellByBasis_89  (fun c => absurd c (by decide)) (fun _ => ?_)
  refine bX4_tellByBasis_96 (j100 := 1) (j116 := 4) (j125 := 1) rfl (by decide) rfl (by decide) rfl (by decide) ?_
  refine v_X4_88 dX4_tellByBasis_128 rfl ⟨rfl, rfl, Nat.le_of_ble_eq_true rfl, Nat.le_of_ble_eq_true rfl⟩ (c_partE (A := be * J 4 3) (B := J 7 1) rfl rfl) rfl rfl (Nat.le_of_ble_eq_true rfl) (fun r I1 J1 hp => ?_)
  obtain ⟨rfl, e2, e3⟩ := hp
  obtain rfl := e2.symm
  obtain rfl := e3.symm
  refine bX4_tellByBasis_131 (s1 := 1) (v134 := nI 2) (v133 := J 11 1 * J 4 3 - pt ((J 11 1 * J 4 3) * J 7 1) (be * J 4 3) * J 6 4 * pt (be * J 4 3) (J 7 1)) (by decide) rfl rfl ?_
  refine bX4_tellByBasis_89  (fun _ => ?_) (fun c => absurd c (by decide))
  refine bX4_tellByBasis_140 (v140 := nI 0) rfl ?_
  refine bX4_tellByBasis_48  (fun c => absurd c (by decide)) (fun _ => ?_)
  refine bX4_tellByBasis_53 (j57 := 0) (j64 := 0) rfl (by decide) rfl (by decide) ?_
  refine v_X4_88 dX4_tellByBasis_70 rfl ⟨rfl, rfl, Nat.le_of_ble_eq_true rfl, Nat.le_of_ble_eq_true rfl⟩ (c_partE (A := (J 11 0 * J 4 3 - pt ((J 11 1 * J 4 3) * J 7 1) (be * J 4 3) * J 6 3 * pt (be * J 4 3) (J 7 1)) * J 7 0) (B := be * J 4 3) rfl rfl) rfl rfl (Nat.le_of_ble_eq_true rfl) (fun r I1 J1 hp => ?_)
  obtain ⟨rfl, e2, e3⟩ := hp
  obtain rfl := e2.symm
  obtain rfl := e3.symm
  refine bX4_tellByBasis_73 (j82 := 9) (v87 := nI 0) rfl (by decide) rfl ?_
  refine bX4_tellByBasis_89  (fun c => absurd c (by decide)) (fun _ => ?_)
  refine bX4_tellByBasis_96 (j100 := 0) (j116 := 0) (j125 := 0) rfl (by decide) rfl (by decide) rfl (by decide) ?_
  refine v_X4_88 dX4_tellByBasis_128 rfl ⟨rfl, rfl, Nat.le_of_ble_eq_true rfl, Nat.le_of_ble_eq_true rfl⟩ (c_partE (A := be * J 4 3) (B := J 7 0) rfl rfl) rfl rfl (Nat.le_of_ble_eq_true rfl) (fun r I1 J1 hp => ?_)
  obtain ⟨rfl, e2, e3⟩ := hp
  obtain rfl := e2.symm
  obtain rfl := e3.symm
  refine bX4_tellByBasis_131 (s1 := 0) (v134 := nI 1) (v133 := J 11 0 * J 4 3 - pt ((J 11 1 * J 4 3) * J 7 1) (be * J 4 3) * J 6 3 * pt (be * J 4 3) (J 7 1) - pt ((J 11 0 * J 4 3 - pt ((J 11 1 * J 4 3) * J 7 1) (be * J 4 3) * J 6 3 * pt (be * J 4 3) (J 7 1)) * J 7 0) (be * J 4 3) * J 6 0 * pt (be * J 4 3) (J 7 0)) (by decide) rfl rfl ?_
  refine bX4_tellByBasis_89  (fun _ => ?_) (fun c => absurd c (by decide))
  refine bX4_tellByBasis_140 (v140 := (-1)) rfl ?_
  refine bX4_tellByBasis_48  (fun _ => ?_) (fun c => absurd c (by decide))
  exact bX4_tellByBasis_146  ⟨rfl, rfl, rfl, fun q h1 h2 => by simp only [sa_uJ_ne h1, sa_uJ_ne h2]⟩
theorem c_tb2_11 {be : Int64} (hd : I 4 0 = nI 2) : Con (EC l D aI aL ad) M_X4_tellByBasis yX4_tellByBasis [.ref (ad 4), .long be, .int (nI 12)] I J (fun r I1 J1 => r = none ∧ I1 = I ∧ J1 8 = vp_updL (vp_updL (J 8) 13 (tl2 (J 6) (J 11) (J 7 0) (J 7 1) (J 4 3) be).2) 12 (tl2 (J 6) (J 11) (J 7 0) (J 7 1) (J 4 3) be).1 ∧ ∀ q, q ≠ 8 → q ≠ 11 → J1 q = J q) := by
  refine Con.of (by decide +kernel) rfl (Nat.le_of_ble_eq_true rfl) ?_
  refine bX4_tellByBasis_0 (v1 := nI 0) rfl ?_
  refine bX4_tellByBasis_3  (fun c => absurd c (by simp only [hd]; decide)) (fun _ => ?_)
  refine bX4_tellByBasis_12 (j16 := 0) (v26 := nI 1) (v25 := J 11 0 * J 4 3) rfl (by decide) (by decide) rfl rfl ?_
  refine bX4_tellByBasis_3  (fun c => absurd c (by simp only [hd]; decide)) (fun _ => ?_)
  refine bX4_tellByBasis_12 (j16 := 1) (v26 := nI 2) (v25 := J 11 1 * J 4 3) rfl (by decide) (by decide) rfl rfl ?_
  refine bX4_tellByBasis_3  (fun _ => ?_) (fun c => absurd c (by simp only [hd]; decide))
  refine bX4_tellByBasis_32 (v46 := nI 1) (v38 := be * J 4 3) rfl (by simp only [hd]; rfl) ?_
  refine bX4_tellByBasis_48  (fun c => absurd c (by decide)) (fun _ => ?_)
  refine bX4_tellByBasis_53 (j57 := 1) (j64 := 1) rfl (by decide) rfl (by decide) ?_
  refine v_X4_88 dX4_tellByBasis_70 rfl ⟨rfl, rfl, Nat.le_of_ble_eq_true rfl, Nat.le_of_ble_eq_true rfl⟩ (c_partE (A := (J 11 1 * J 4 3) * J 7 1) (B := be * J 4 3) rfl rfl) rfl rfl (Nat.le_of_ble_eq_true rfl) (fun r I1 J1 hp => ?_)
  obtain ⟨rfl, e2, e3⟩ := hp
  obtain rfl := e2.symm
  obtain rfl := e3.symm
  refine bX4_tellByBasis_73 (j82 := 13) (v87 := nI 0) rfl (by decide) rfl ?_
  refine bX4_tellByBasis_89  (fun c => absurd c (by decide)) (fun _ => ?_)
  refine bX4_tellByBasis_96 (j100 := 0) (j116 := 3) (j125 := 1) rfl (by decide) rfl (by decide) rfl (by decide) ?_
  refine v_X4_88 dX4_tellByBasis_128 rfl ⟨rfl, rfl, Nat.le_of_ble_eq_true rfl, Nat.le_of_ble_eq_true rfl⟩ (c_partE (A := be * J 4 3) (B := J 7 1) rfl rfl) rfl rfl (Nat.le_of_ble_eq_true rfl) (fun r I1 J1 hp => ?_)
  obtain ⟨rfl, e2, e3⟩ := hp
  obtain rfl := e2.symm
  obtain rfl := e3.symm
  refine bX4_tellByBasis_131 (s1 := 0) (v134 := nI 1) (v133 := J 11 0 * J 4 3 - pt ((J 11 1 * J 4 3) * J 7 1) (be * J 4 3) * J 6 3 * pt (be * J 4 3) (J 7 1)) (by decide) rfl rfl ?_
  refine bX4_tellByBasis_89  (fun c => absurd c (by decide)) (fun _ => ?_)
  refine bX4_tellByBasis_96 (j100 := 1) (j116 := 4) (j125 := 1) rfl (by decide) rfl (by decide) rfl (by decide) ?_
  refine v_X4_88 dX4_tellByBasis_128 rfl ⟨rfl, rfl, Nat.le_of_ble_eq_true rfl, Nat.le_of_ble_eq_true rfl⟩ (c_partE (A := be * J 4 3) (B := J 7 1) rfl rfl) rfl rfl (Nat.le_of_ble_eq_true rfl) (fun r I1 J1 hp => ?_)
  obtain ⟨rfl, e2, e3⟩ := hp
  obtain rfl := e2.symm
  obtain rfl := e3.symm
  refine bX4_tellByBasis_131 (s1 := 1) (v134 := nI 2) (v133 := J 11 1 * J 4 3 - pt ((J 11 1 * J 4 3) * J 7 1) (be * J 4 3) * J 6 4 * pt (be * J 4 3) (J 7 1)) (by decide) rfl rfl ?_
  refine bX4_tellByBasis_89  (fun _ => ?_) (fun c => absurd c (by decide))
  refine bX4_tellByBasis_140 (v140 := nI 0) rfl ?_
  refine bX4_tellByBasis_48  (fun c => absurd c (by decide)) (fun _ => ?_)
  refine bX4_tellByBasis_53 (j57 := 0) (j64 := 0) rfl (by decide) rfl (by decide) ?_
  refine v_X4_88 dX4_tellByBasis_70 rfl ⟨rfl, rfl, Nat.le_of_ble_eq_true rfl, Nat.le_of_ble_eq_true rfl⟩ (c_partE (A := (J 11 0 * J 4 3 - pt ((J 11 1 * J 4 3) * J 7 1) (be * J 4 3) * J 6 3 * pt (be * J 4 3) (J 7 1)) * J 7 0) (B := be * J 4 3) rfl rfl) rfl rfl (Nat.le_of_ble_eq_true rfl) (fun r I1 J1 hp => ?_)
  obtain ⟨rfl, e2, e3⟩ := hp
  obtain rfl := e2.symm
  obtain rfl := e3.symm
  refine bX4_tellByBasis_73 (j82 := 12) (v87 := nI 0) rfl (by decide) rfl ?_
  refine bX4_tellByBasis_89  (fun c => absurd c (by decide)) (fun _ => ?_)
  refine bX4_tellByBasis_96 (j100 := 0) (j116 := 0) (j125 := 0) rfl (by decide) rfl (by decide) rfl (by decide) ?_
  refine v_X4_88 dX4_tellByBasis_128 rfl ⟨rfl, rfl, Nat.le_of_ble_eq_true rfl, Nat.le_of_ble_eq_true rfl⟩ (c_partE (A := be * J 4 3) (B := J 7 0) rfl rfl) rfl rfl (Nat.le_of_ble_eq_true rfl) (fun r I1 J1 hp => ?_)
  obtain ⟨rfl, e2, e3⟩ := hp
  obtain rfl := e2.symm
  obtain rfl := e3.symm
  refine bX4_tellByBasis_131 (s1 := 0) (v134 := nI 1) (v133 := J 11 0 * J 4 3 - pt ((J 11 1 * J 4 3) * J 7 1) (be * J 4 3) * J 6 3 * pt (be * J 4 3) (J 7 1) - pt ((J 11 0 * J 4 3 - pt ((J 11 1 * J 4 3) * J 7 1) (be * J 4 3) * J 6 3 * pt (be * J 4 3) (J 7 1)) * J 7 0) (be * J 4 3) * J 6 0 * pt (be * J 4 3) (J 7 0)) (by decide) rfl rfl ?_
  refine bX4_tellByBasis_89  (fun _ => ?_) (fun c => absurd c (by decide))
  refine bX4_tellByBasis_140 (v140 := (-1)) rfl ?_
  refine bX4_tellByBasis_48  (fun _ => ?_) (fun c => absurd c (by decide))
  exact bX4_tellByBasis_146  ⟨rfl, rfl, rfl, fun q h1 h2 => by simp only [sa_uJ_ne h1, sa_uJ_ne h2]⟩
theorem c_mm3_00 (hd : I 4 0 = nI 3) : Con (EC l D aI aL ad) M_X4_multiplyMembers yX4_multiplyMembers [.ref (ad 4), .int (nI 0), .int (nI 0)] I J (fun r I1 J1 => r = none ∧ I1 = I ∧ J1 11 0 = wd3 (J 5) (ur (J 6) 0) (ur (J 6) 0) 0 ∧ J1 11 1 = wd3 (J 5) (ur (J 6) 0) (ur (J 6) 0) 1 ∧ J1 11 2 = wd3 (J 5) (ur (J 6) 0) (ur (J 6) 0) 2 ∧ ∀ q, q ≠ 11 → J1 q = J q) := by
  refine Con.of (by decide +kernel) rfl (Nat.le_of_ble_eq_true rfl) ?_
  refine bX4_multiplyMembers_0 (v1 := nI 0) rfl ?_
  refine bX4_multiplyMembers_2  (fun c => absurd c (by decide)) (fun _ => ?_)
  refine bX4_multiplyMembers_7 (j11 := 0) (v14 := nI 1) rfl (by decide) rfl rfl ?_
  refine bX4_multiplyMembers_2  (fun c => absurd c (by decide)) (fun _ => ?_)
  refine bX4_multiplyMembers_7 (j11 := 1) (v14 := nI 2) rfl (by decide) rfl rfl ?_
  refine bX4_multiplyMembers_2  (fun c => absurd c (by decide)) (fun _ => ?_)
  refine bX4_multiplyMembers_7 (j11 := 2) (v14 := nI 3) rfl (by decide) rfl rfl ?_
  refine bX4_multiplyMembers_2  (fun c => absurd c (by decide)) (fun _ => ?_)
  refine bX4_multiplyMembers_7 (j11 := 3) (v14 := nI 4) rfl (by decide) rfl rfl ?_
  refine bX4_multiplyMembers_2  (fun c => absurd c (by decide)) (fun _ => ?_)
  refine bX4_multiplyMembers_7 (j11 := 4) (v14 := nI 5) rfl (by decide) rfl rfl ?_
  refine bX4_multiplyMembers_2  (fun _ => ?_) (fun c => absurd c (by decide))
  refine bX4_multiplyMembers_20 (v21 := nI 0) rfl ?_
  refine bX4_multiplyMembers_22  (fun c => absurd c (by simp only [hd]; decide)) (fun _ => ?_)
  refine bX4_multiplyMembers_30 (v31 := nI 0) rfl ?_
  refine bX4_multiplyMembers_33  (fun c => absurd c (by simp only [hd]; decide)) (fun _ => ?_)
  refine bX4_multiplyMembers_42 (j49 := 0) (j60 := 0) (j71 := 0) (v76 := nI 1) (v75 := 0 + J 6 0 * J 6 0) rfl (by decide) rfl (by decide) rfl (by decide) (by decide) rfl rfl ?_
  refine bX4_multiplyMembers_33  (fun c => absurd c (by simp only [hd]; decide)) (fun _ => ?_)
  refine bX4_multiplyMembers_42 (j49 := 1) (j60 := 0) (j71 := 1) (v76 := nI 2) (v75 := 0 + J 6 0 * J 6 1) rfl (by decide) rfl (by decide) rfl (by decide) (by decide) rfl rfl ?_
  refine bX4_multiplyMembers_33  (fun c => absurd c (by simp only [hd]; decide)) (fun _ => ?_)
  refine bX4_multiplyMembers_42 (j49 := 2) (j60 := 0) (j71 := 2) (v76 := nI 3) (v75 := 0 + J 6 0 * J 6 2) rfl (by decide) rfl (by decide) rfl (by decide) (by decide) rfl rfl ?_
  refine bX4_multiplyMembers_33  (fun _ => ?_) (fun c => absurd c (by simp only [hd]; decide))
  refine bX4_multiplyMembers_82 (v82 := nI 1) rfl ?_
  refine bX4_multiplyMembers_22  (fun c => absurd c (by simp only [hd]; decide)) (fun _ => ?_)
  refine bX4_multiplyMembers_30 (v31 := nI 0) rfl ?_
  refine bX4_multiplyMembers_33  (fun c => absurd c (by simp only [hd]; decide)) (fun _ => ?_)
  refine bX4_multiplyMembers_42 (j49 := 1) (j60 := 1) (j71 := 0) (v76 := nI 1) (v75 := 0 + J 6 0 * J 6 1 + J 6 1 * J 6 0) rfl (by decide) rfl (by decide) rfl (by decide) (by decide) rfl rfl ?_
  refine bX4_multiplyMembers_33  (fun c => absurd c (by simp only [hd]; decide)) (fun _ => ?_)
  refine bX4_multiplyMembers_42 (j49 := 2) (j60 := 1) (j71 := 1) (v76 := nI 2) (v75 := 0 + J 6 0 * J 6 2 + J 6 1 * J 6 1) rfl (by decide) rfl (by decide) rfl (by decide) (by decide) rfl rfl ?_
  refine bX4_multiplyMembers_33  (fun c => absurd c (by simp only [hd]; decide)) (fun _ => ?_)
  refine bX4_multiplyMembers_42 (j49 := 3) (j60 := 1) (j71 := 2) (v76 := nI 3) (v75 := 0 + J 6 1 * J 6 2) rfl (by decide) rfl (by decide) rfl (by decide) (by decide) rfl rfl ?_
  refine bX4_multiplyMembers_33  (fun _ => ?_) (fun c => absurd c (by simp only [hd]; decide))
  refine bX4_multiplyMembers_82 (v82 := nI 2) rfl ?_
  refine bX4_multiplyMembers_22  (fun c => absurd c (by simp only [hd]; decide)) (fun _ => ?_)
  refine bX4_multiplyMembers_30 (v31 := nI 0) rfl ?_
  refine bX4_multiplyMembers_33  (fun c => absurd c (by simp only [hd]; decide)) (fun _ => ?_)
  refine bX4_multiplyMembers_42 (j49 := 2) (j60 := 2) (j71 := 0) (v76 := nI 1) (v75 := 0 + J 6 0 * J 6 2 + J 6 1 * J 6 1 + J 6 2 * J 6 0) rfl (by decide) rfl (by decide) rfl (by decide) (by decide) rfl rfl ?_
  refine bX4_multiplyMembers_33  (fun c => absurd c (by simp only [hd]; decide)) (fun _ => ?_)
  refine bX4_multiplyMembers_42 (j49 := 3) (j60 := 2) (j71 := 1) (v76 := nI 2) (v75 := 0 + J 6 1 * J 6 2 + J 6 2 * J 6 1) rfl (by decide) rfl (by decide) rfl (by decide) (by decide) rfl rfl ?_
  refine bX4_multiplyMembers_33  (fun c => absurd c (by simp only [hd]; decide)) (fun _ => ?_)
  refine bX4_multiplyMembers_42 (j49 := 4) (j60 := 2) (j71 := 2) (v76 := nI 3) (v75 := 0 + J 6 2 * J 6 2) rfl (by decide) rfl (by decide) rfl (by decide) (by decide) rfl rfl ?_
  refine bX4_multiplyMembers_33  (fun _ => ?_) (fun c => absurd c (by simp only [hd]; decide))
  refine bX4_multiplyMembers_82 (v82 := nI 3) rfl ?_
  refine bX4_multiplyMembers_22  (fun _ => ?_) (fun c => absurd c (by simp only [hd]; decide))
  refine bX4_multiplyMembers_88 (v96 := nI 4) (by simp only [hd]; rfl) ?_
  refine bX4_multiplyMembers_97  (fun c => absurd c (by simp only [hd]; decide)) (fun _ => ?_)
  refine bX4_multiplyMembers_105 (v106 := nI 0) rfl ?_
  refine bX4_multiplyMembers_108  (fun c => absurd c (by simp only [hd]; decide)) (fun _ => ?_)
  refine bX4_multiplyMembers_117 (j129 := 1) (j136 := 4) (j142 := 0) (v148 := nI 1) (v147 := (0 + J 6 0 * J 6 1 + J 6 1 * J 6 0) - (0 + J 6 2 * J 6 2) * J 5 0) (by simp only [hd]; rfl) (by decide) rfl (by decide) rfl (by decide) (by decide) rfl rfl ?_
  refine bX4_multiplyMembers_108  (fun c => absurd c (by simp only [hd]; decide)) (fun _ => ?_)
  refine bX4_multiplyMembers_117 (j129 := 2) (j136 := 4) (j142 := 1) (v148 := nI 2) (v147 := (0 + J 6 0 * J 6 2 + J 6 1 * J 6 1 + J 6 2 * J 6 0) - (0 + J 6 2 * J 6 2) * J 5 1) (by simp only [hd]; rfl) (by decide) rfl (by decide) rfl (by decide) (by decide) rfl rfl ?_
  refine bX4_multiplyMembers_108  (fun c => absurd c (by simp only [hd]; decide)) (fun _ => ?_)
  refine bX4_multiplyMembers_117 (j129 := 3) (j136 := 4) (j142 := 2) (v148 := nI 3) (v147 := (0 + J 6 1 * J 6 2 + J 6 2 * J 6 1) - (0 + J 6 2 * J 6 2) * J 5 2) (by simp only [hd]; rfl) (by decide) rfl (by decide) rfl (by decide) (by decide) rfl rfl ?_
  refine bX4_multiplyMembers_108  (fun _ => ?_) (fun c => absurd c (by simp only [hd]; decide))
  refine bX4_multiplyMembers_154 (v154 := nI 3) rfl ?_
  refine bX4_multiplyMembers_97  (fun c => absurd c (by simp only [hd]; decide)) (fun _ => ?_)
  refine bX4_multiplyMembers_105 (v106 := nI 0) rfl ?_
  refine bX4_multiplyMembers_108  (fun c => absurd c (by simp only [hd]; decide)) (fun _ => ?_)
  refine bX4_multiplyMembers_117 (j129 := 0) (j136 := 3) (j142 := 0) (v148 := nI 1) (v147 := (0 + J 6 0 * J 6 0) - ((0 + J 6 1 * J 6 2 + J 6 2 * J 6 1) - (0 + J 6 2 * J 6 2) * J 5 2) * J 5 0) (by simp only [hd]; rfl) (by decide) rfl (by decide) rfl (by decide) (by decide) rfl rfl ?_
  refine bX4_multiplyMembers_108  (fun c => absurd c (by simp only [hd]; decide)) (fun _ => ?_)
  refine bX4_multiplyMembers_117 (j129 := 1) (j136 := 3) (j142 := 1) (v148 := nI 2) (v147 := ((0 + J 6 0 * J 6 1 + J 6 1 * J 6 0) - (0 + J 6 2 * J 6 2) * J 5 0) - ((0 + J 6 1 * J 6 2 + J 6 2 * J 6 1) - (0 + J 6 2 * J 6 2) * J 5 2) * J 5 1) (by simp only [hd]; rfl) (by decide) rfl (by decide) rfl (by decide) (by decide) rfl rfl ?_
  refine bX4_multiplyMembers_108  (fun c => absurd c (by simp only [hd]; decide)) (fun _ => ?_)
  refine bX4_multiplyMembers_117 (j129 := 2) (j136 := 3) (j142 := 2) (v148 := nI 3) (v147 := ((0 + J 6 0 * J 6 2 + J 6 1 * J 6 1 + J 6 2 * J 6 0) - (0 + J 6 2 * J 6 2) * J 5 1) - ((0 + J 6 1 * J 6 2 + J 6 2 * J 6 1) - (0 + J 6 2 * J 6 2) * J 5 2) * J 5 2) (by simp only [hd]; rfl) (by decide) rfl (by decide) rfl (by decide) (by decide) rfl rfl ?_
  refine bX4_multiplyMembers_108  (fun _ => ?_) (fun c => absurd c (by simp only [hd]; decide))
  refine bX4_multiplyMembers_154 (v154 := nI 2) rfl ?_
  refine bX4_multiplyMembers_97  (fun _ => ?_) (fun c => absurd c (by simp only [hd]; decide))
  exact bX4_multiplyMembers_160  ⟨rfl, rfl, rfl, rfl, rfl, fun q h => by simp only [sa_uJ_ne h]⟩
theorem c_mm3_01 (hd : I 4 0 = nI 3) : Con (EC l D aI aL ad) M_X4_multiplyMembers yX4_multiplyMembers [.ref (ad 4), .int (nI 0), .int (nI 1)] I J (fun r I1 J1 => r = none ∧ I1 = I ∧ J1 11 0 = wd3 (J 5) (ur (J 6) 0) (ur (J 6) 1) 0 ∧ J1 11 1 = wd3 (J 5) (ur (J 6) 0) (ur (J 6) 1) 1 ∧ J1 11 2 = wd3 (J 5) (ur (J 6) 0) (ur (J 6) 1) 2 ∧ ∀ q, q ≠ 11 → J1 q = J q) := by
  refine Con.of (by decide +kernel) rfl (Nat.le_of_ble_eq_true rfl) ?_
  refine bX4_multiplyMembers_0 (v1 := nI 0) rfl ?_
  refine bX4_multiplyMembers_2  (fun c => absurd c (by decide)) (fun _ => ?_)
  refine bX4_multiplyMembers_7 (j11 := 0) (v14 := nI 1) rfl (by decide) rfl rfl ?_
  refine bX4_multiplyMembers_2  (fun c => absurd c (by decide)) (fun _ => ?_)
  refine bX4_multiplyMembers_7 (j11 := 1) (v14 := nI 2) rfl (by decide) rfl rfl ?_
  refine bX4_multiplyMembers_2  (fun c => absurd c (by decide)) (fun _ => ?_)
  refine bX4_multiplyMembers_7 (j11 := 2) (v14 := nI 3) rfl (by decide) rfl rfl ?_
  refine bX4_multiplyMembers_2  (fun c => absurd c (by decide)) (fun _ => ?_)
  refine bX4_multiplyMembers_7 (j11 := 3) (v14 := nI 4) rfl (by decide) rfl rfl ?_
  refine bX4_multiplyMembers_2  (fun c => absurd c (by decide)) (fun _ => ?_)
  refine bX4_multiplyMembers_7 (j11 := 4) (v14 := nI 5) rfl (by decide) rfl rfl ?_
  refine bX4_multiplyMembers_2  (fun _ => ?_) (fun c => absurd c (by decide))
  refine bX4_multiplyMembers_20 (v21 := nI 0) rfl ?_
  refine bX4_multiplyMembers_22  (fun c => absurd c (by simp only [hd]; decide)) (fun _ => ?_)
  refine bX4_multiplyMembers_30 (v31 := nI 0) rfl ?_
  refine bX4_multiplyMembers_33  (fun c => absurd c (by simp only [hd]; decide)) (fun _ => ?_)
  refine bX4_multiplyMembers_42 (j49 := 0) (j60 := 0) (j71 := 3) (v76 := nI 1) (v75 := 0 + J 6 0 * J 6 3) rfl (by decide) rfl (by decide) rfl (by decide) (by decide) rfl rfl ?_
  refine bX4_multiplyMembers_33  (fun c => absurd c (by simp only [hd]; decide)) (fun _ => ?_)
  refine bX4_multiplyMembers_42 (j49 := 1) (j60 := 0) (j71 := 4) (v76 := nI 2) (v75 := 0 + J 6 0 * J 6 4) rfl (by decide) rfl (by decide) rfl (by decide) (by decide) rfl rfl ?_
  refine bX4_multiplyMembers_33  (fun c => absurd c (by simp only [hd]; decide)) (fun _ => ?_)
  refine bX4_multiplyMembers_42 (j49 := 2) (j60 := 0) (j71 := 5) (v76 := nI 3) (v75 := 0 + J 6 0 * J 6 5) rfl (by decide) rfl (by decide) rfl (by decide) (by decide) rfl rfl ?_
  refine bX4_multiplyMembers_33  (fun _ => ?_) (fun c => absurd c (by simp only [hd]; decide))
  refine bX4_multiplyMembers_82 (v82 := nI 1) rfl ?_
  refine bX4_multiplyMembers_22  (fun c => absurd c (by simp only [hd]; decide)) (fun _ => ?_)
  refine bX4_multiplyMembers_30 (v31 := nI 0) rfl ?_
  refine bX4_multiplyMembers_33  (fun c => absurd c (by simp only [hd]; decide)) (fun _ => ?_)
  refine bX4_multiplyMembers_42 (j49 := 1) (j60 := 1) (j71 := 3) (v76 := nI 1) (v75 := 0 + J 6 0 * J 6 4 + J 6 1 * J 6 3) rfl (by decide) rfl (by decide) rfl (by decide) (by decide) rfl rfl ?_
  refine bX4_multiplyMembers_33  (fun c => absurd c (by simp only [hd]; decide)) (fun _ => ?_)
  refine bX4_multiplyMembers_42 (j49 := 2) (j60 := 1) (j71 := 4) (v76 := nI 2) (v75 := 0 + J 6 0 * J 6 5 + J 6 1 * J 6 4) rfl (by decide) rfl (by decide) rfl (by decide) (by decide) rfl rfl ?_
  refine bX4_multiplyMembers_33  (fun c => absurd c (by simp only [hd]; decide)) (fun _ => ?_)
  refine bX4_multiplyMembers_42 (j49 := 3) (j60 := 1) (j71 := 5) (v76 := nI 3) (v75 := 0 + J 6 1 * J 6 5) rfl (by decide) rfl (by decide) rfl (by decide) (by decide) rfl rfl ?_
  refine bX4_multiplyMembers_33  (fun _ => ?_) (fun c => absurd c (by simp only [hd]; decide))
  refine bX4_multiplyMembers_82 (v82 := nI 2) rfl ?_
  refine bX4_multiplyMembers_22  (fun c => absurd c (by simp only [hd]; decide)) (fun _ => ?_)
  refine bX4_multiplyMembers_30 (v31 := nI 0) rfl ?_
  refine bX4_multiplyMembers_33  (fun c => absurd c (by simp only [hd]; decide)) (fun _ => ?_)
  refine bX4_multiplyMembers_42 (j49 := 2) (j60 := 2) (j71 := 3) (v76 := nI 1) (v75 := 0 + J 6 0 * J 6 5 + J 6 1 * J 6 4 + J 6 2 * J 6 3) rfl (by decide) rfl (by decide) rfl (by decide) (by decide) rfl rfl ?_
  refine bX4_multiplyMembers_33  (fun c => absurd c (by simp only [hd]; decide)) (fun _ => ?_)
  refine bX4_multiplyMembers_42 (j49 := 3) (j60 := 2) (j71 := 4) (v76 := nI 2) (v75 := 0 + J 6 1 * J 6 5 + J 6 2 * J 6 4) rfl (by decide) rfl (by decide) rfl (by decide) (by decide) rfl rfl ?_
  refine bX4_multiplyMembers_33  (fun c => absurd c (by simp only [hd]; decide)) (fun _ => ?_)
  refine bX4_multiplyMembers_42 (j49 := 4) (j60 := 2) (j71 := 5) (v76 := nI 3) (v75 := 0 + J 6 2 * J 6 5) rfl (by decide) rfl (by decide) rfl (by decide) (by decide) rfl rfl ?_
  refine bX4_multiplyMembers_33  (fun _ => ?_) (fun c => absurd c (by simp only [hd]; decide))
  refine bX4_multiplyMembers_82 (v82 := nI 3) rfl ?_
  refine bX4_multiplyMembers_22  (fun _ => ?_) (fun c => absurd c (by simp only [hd]; decide))
  refine bX4_multiplyMembers_88 (v96 := nI 4) (by simp only [hd]; rfl) ?_
  refine bX4_multiplyMembers_97  (fun c => absurd c (by simp only [hd]; decide)) (fun _ => ?_)
  refine bX4_multiplyMembers_105 (v106 := nI 0) rfl ?_
  refine bX4_multiplyMembers_108  (fun c => absurd c (by simp only [hd]; decide)) (fun _ => ?_)
  refine bX4_multiplyMembers_117 (j129 := 1) (j136 := 4) (j142 := 0) (v148 := nI 1) (v147 := (0 + J 6 0 * J 6 4 + J 6 1 * J 6 3) - (0 + J 6 2 * J 6 5) * J 5 0) (by simp only [hd]; rfl) (by decide) rfl (by decide) rfl (by decide) (by decide) rfl rfl ?_
  refine bX4_multiplyMembers_108  (fun c => absurd c (by simp only [hd]; decide)) (fun _ => ?_)
  refine bX4_multiplyMembers_117 (j129 := 2) (j136 := 4) (j142 := 1) (v148 := nI 2) (v147 := (0 + J 6 0 * J 6 5 + J 6 1 * J 6 4 + J 6 2 * J 6 3) - (0 + J 6 2 * J 6 5) * J 5 1) (by simp only [hd]; rfl) (by decide) rfl (by decide) rfl (by decide) (by decide) rfl rfl ?_
  refine bX4_multiplyMembers_108  (fun c => absurd c (by simp only [hd]; decide)) (fun _ => ?_)
  refine bX4_multiplyMembers_117 (j129 := 3) (j136 := 4) (j142 := 2) (v148 := nI 3) (v147 := (0 + J 6 1 * J 6 5 + J 6 2 * J 6 4) - (0 + J 6 2 * J 6 5) * J 5 2) (by simp only [hd]; rfl) (by decide) rfl (by decide) rfl (by decide) (by decide) rfl rfl ?_
  refine bX4_multiplyMembers_108  (fun _ => ?_) (fun c => absurd c (by simp only [hd]; decide))
  refine bX4_multiplyMembers_154 (v154 := nI 3) rfl ?_
  refine bX4_multiplyMembers_97  (fun c => absurd c (by simp only [hd]; decide)) (fun _ => ?_)
  refine bX4_multiplyMembers_105 (v106 := nI 0) rfl ?_
  refine bX4_multiplyMembers_108  (fun c => absurd c (by simp only [hd]; decide)) (fun _ => ?_)
  refine bX4_multiplyMembers_117 (j129 := 0) (j136 := 3) (j142 := 0) (v148 := nI 1) (v147 := (0 + J 6 0 * J 6 3) - ((0 + J 6 1 * J 6 5 + J 6 2 * J 6 4) - (0 + J 6 2 * J 6 5) * J 5 2) * J 5 0) (by simp only [hd]; rfl) (by decide) rfl (by decide) rfl (by decide) (by decide) rfl rfl ?_
  refine bX4_multiplyMembers_108  (fun c => absurd c (by simp only [hd]; decide)) (fun _ => ?_)
  refine bX4_multiplyMembers_117 (j129 := 1) (j136 := 3) (j142 := 1) (v148 := nI 2) (v147 := ((0 + J 6 0 * J 6 4 + J 6 1 * J 6 3) - (0 + J 6 2 * J 6 5) * J 5 0) - ((0 + J 6 1 * J 6 5 + J 6 2 * J 6 4) - (0 + J 6 2 * J 6 5) * J 5 2) * J 5 1) (by simp only [hd]; rfl) (by decide) rfl (by decide) rfl (by decide) (by decide) rfl rfl ?_
  refine bX4_multiplyMembers_108  (fun c => absurd c (by simp only [hd]; decide)) (fun _ => ?_)
  refine bX4_multiplyMembers_117 (j129 := 2) (j136 := 3) (j142 := 2) (v148 := nI 3) (v147 := ((0 + J 6 0 * J 6 5 + J 6 1 * J 6 4 + J 6 2 * J 6 3) - (0 + J 6 2 * J 6 5) * J 5 1) - ((0 + J 6 1 * J 6 5 + J 6 2 * J 6 4) - (0 + J 6 2 * J 6 5) * J 5 2) * J 5 2) (by simp only [hd]; rfl) (by decide) rfl (by decide) rfl (by decide) (by decide) rfl rfl ?_
  refine bX4_multiplyMembers_108  (fun _ => ?_) (fun c => absurd c (by simp only [hd]; decide))
  refine bX4_multiplyMembers_154 (v154 := nI 2) rfl ?_
  refine bX4_multiplyMembers_97  (fun _ => ?_) (fun c => absurd c (by simp only [hd]; decide))
  exact bX4_multiplyMembers_160  ⟨rfl, rfl, rfl, rfl, rfl, fun q h => by simp only [sa_uJ_ne h]⟩
theorem c_mm3_02 (hd : I 4 0 = nI 3) : Con (EC l D aI aL ad) M_X4_multiplyMembers yX4_multiplyMembers [.ref (ad 4), .int (nI 0), .int (nI 2)] I J (fun r I1 J1 => r = none ∧ I1 = I ∧ J1 11 0 = wd3 (J 5) (ur (J 6) 0) (ur (J 6) 2) 0 ∧ J1 11 1 = wd3 (J 5) (ur (J 6) 0) (ur (J 6) 2) 1 ∧ J1 11 2 = wd3 (J 5) (ur (J 6) 0) (ur (J 6) 2) 2 ∧ ∀ q, q ≠ 11 → J1 q = J q) := by
  refine Con.of (by decide +kernel) rfl (Nat.le_of_ble_eq_true rfl) ?_
  refine bX4_multiplyMembers_0 (v1 := nI 0) rfl ?_
  refine bX4_multiplyMembers_2  (fun c => absurd c (by decide)) (fun _ => ?_)
  refine bX4_multiplyMembers_7 (j11 := 0) (v14 := nI 1) rfl (by decide) rfl rfl ?_
  refine bX4_multiplyMembers_2  (fun c => absurd c (by decide)) (fun _ => ?_)
  refine bX4_multiplyMembers_7 (j11 := 1) (v14 := nI 2) rfl (by decide) rfl rfl ?_
  refine bX4_multiplyMembers_2  (fun c => absurd c (by decide)) (fun _ => ?_)
  refine bX4_multiplyMembers_7 (j11 := 2) (v14 := nI 3) rfl (by decide) rfl rfl ?_
  refine bX4_multiplyMembers_2  (fun c => absurd c (by decide)) (fun _ => ?_)
  refine bX4_multiplyMembers_7 (j11 := 3) (v14 := nI 4) rfl (by decide) rfl rfl ?_
  refine bX4_multiplyMembers_2  (fun c => absurd c (by decide)) (fun _ => ?_)
  refine bX4_multiplyMembers_7 (j11 := 4) (v14 := nI 5) rfl (by decide) rfl rfl ?_
  refine bX4_multiplyMembers_2  (fun _ => ?_) (fun c => absurd c (by decide))
  refine bX4_multiplyMembers_20 (v21 := nI 0) rfl ?_
  refine bX4_multiplyMembers_22  (fun c => absurd c (by simp only [hd]; decide)) (fun _ => ?_)
  refine bX4_multiplyMembers_30 (v31 := nI 0) rfl ?_
  refine bX4_multiplyMembers_33  (fun c => absurd c (by simp only [hd]; decide)) (fun _ => ?_)
  refine bX4_multiplyMembers_42 (j49 := 0) (j60 := 0) (j71 := 6) (v76 := nI 1) (v75 := 0 + J 6 0 * J 6 6) rfl (by decide) rfl (by decide) rfl (by decide) (by decide) rfl rfl ?_
  refine bX4_multiplyMembers_33  (fun c => absurd c (by simp only [hd]; decide)) (fun _ => ?_)
  refine bX4_multiplyMembers_42 (j49 := 1) (j60 := 0) (j71 := 7) (v76 := nI 2) (v75 := 0 + J 6 0 * J 6 7) rfl (by decide) rfl (by decide) rfl (by decide) (by decide) rfl rfl ?_
  refine bX4_multiplyMembers_33  (fun c => absurd c (by simp only [hd]; decide)) (fun _ => ?_)
  refine bX4_multiplyMembers_42 (j49 := 2) (j60 := 0) (j71 := 8) (v76 := nI 3) (v75 := 0 + J 6 0 * J 6 8) rfl (by decide) rfl (by decide) rfl (by decide) (by decide) rfl rfl ?_
  refine bX4_multiplyMembers_33  (fun _ => ?_) (fun c => absurd c (by simp only [hd]; decide))
  refine bX4_multiplyMembers_82 (v82 := nI 1) rfl ?_
  refine bX4_multiplyMembers_22  (fun c => absurd c (by simp only [hd]; decide)) (fun _ => ?_)
  refine bX4_multiplyMembers_30 (v31 := nI 0) rfl ?_
  refine bX4_multiplyMembers_33  (fun c => absurd c (by simp only [hd]; decide)) (fun _ => ?_)
  refine bX4_multiplyMembers_42 (j49 := 1) (j60 := 1) (j71 := 6) (v76 := nI 1) (v75 := 0 + J 6 0 * J 6 7 + J 6 1 * J 6 6) rfl (by decide) rfl (by decide) rfl (by decide) (by decide) rfl rfl ?_
  refine bX4_multiplyMembers_33  (fun c => absurd c (by simp only [hd]; decide)) (fun _ => ?_)
  refine bX4_multiplyMembers_42 (j49 := 2) (j60 := 1) (j71 := 7) (v76 := nI 2) (v75 := 0 + J 6 0 * J 6 8 + J 6 1 * J 6 7) rfl (by decide) rfl (by decide) rfl (by decide) (by decide) rfl rfl ?_
  refine bX4_multiplyMembers_33  (fun c => absurd c (by simp only [hd]; decide)) (fun _ => ?_)
  refine bX4_multiplyMembers_42 (j49 := 3) (j60 := 1) (j71 := 8) (v76 := nI 3) (v75 := 0 + J 6 1 * J 6 8) rfl (by decide) rfl (by decide) rfl (by decide) (by decide) rfl rfl ?_
  refine bX4_multiplyMembers_33  (fun _ => ?_) (fun c => absurd c (by simp only [hd]; decide))
  refine bX4_multiplyMembers_82 (v82 := nI 2) rfl ?_
  refine bX4_multiplyMembers_22  (fun c => absurd c (by simp only [hd]; decide)) (fun _ => ?_)
  refine bX4_multiplyMembers_30 (v31 := nI 0) rfl ?_
  refine bX4_multiplyMembers_33  (fun c => absurd c (by simp only [hd]; decide)) (fun _ => ?_)
  refine bX4_multiplyMembers_42 (j49 := 2) (j60 := 2) (j71 := 6) (v76 := nI 1) (v75 := 0 + J 6 0 * J 6 8 + J 6 1 * J 6 7 + J 6 2 * J 6 6) rfl (by decide) rfl (by decide) rfl (by decide) (by decide) rfl rfl ?_
  refine bX4_multiplyMembers_33  (fun c => absurd c (by simp only [hd]; decide)) (fun _ => ?_)
  refine bX4_multiplyMembers_42 (j49 := 3) (j60 := 2) (j71 := 7) (v76 := nI 2) (v75 := 0 + J 6 1 * J 6 8 + J 6 2 * J 6 7) rfl (by decide) rfl (by decide) rfl (by decide) (by decide) rfl rfl ?_
  refine bX4_multiplyMembers_33  (fun c => absurd c (by simp only [hd]; decide)) (fun _ => ?_)
  refine bX4_multiplyMembers_42 (j49 := 4) (j60 := 2) (j71 := 8) (v76 := nI 3) (v75 := 0 + J 6 2 * J 6 8) rfl (by decide) rfl (by decide) rfl (by decide) (by decide) rfl rfl ?_
  refine bX4_multiplyMembers_33  (fun _ => ?_) (fun c => absurd c (by simp only [hd]; decide))
  refine bX4_multiplyMembers_82 (v82 := nI 3) rfl ?_
  refine bX4_multiplyMembers_22  (fun _ => ?_) (fun c => absurd c (by simp only [hd]; decide))
  refine bX4_multiplyMembers_88 (v96 := nI 4) (by simp only [hd]; rfl) ?_
  refine bX4_multiplyMembers_97  (fun c => absurd c (by simp only [hd]; decide)) (fun _ => ?_)
  refine bX4_multiplyMembers_105 (v106 := nI 0) rfl ?_
  refine bX4_multiplyMembers_108  (fun c => absurd c (by simp only [hd]; decide)) (fun _ => ?_)
  refine bX4_multiplyMembers_117 (j129 := 1) (j136 := 4) (j142 := 0) (v148 := nI 1) (v147 := (0 + J 6 0 * J 6 7 + J 6 1 * J 6 6) - (0 + J 6 2 * J 6 8) * J 5 0) (by simp only [hd]; rfl) (by decide) rfl (by decide) rfl (by decide) (by decide) rfl rfl ?_
  refine bX4_multiplyMembers_108  (fun c => absurd c (by simp only [hd]; decide)) (fun _ => ?_)
  refine bX4_multiplyMembers_117 (j129 := 2) (j136 := 4) (j142 := 1) (v148 := nI 2) (v147 := (0 + J 6 0 * J 6 8 + J 6 1 * J 6 7 + J 6 2 * J 6 6) - (0 + J 6 2 * J 6 8) * J 5 1) (by simp only [hd]; rfl) (by decide) rfl (by decide) rfl (by decide) (by decide) rfl rfl ?_
  refine bX4_multiplyMembers_108  (fun c => absurd c (by simp only [hd]; decide)) (fun _ => ?_)
  refine bX4_multiplyMembers_117 (j129 := 3) (j136 := 4) (j142 := 2) (v148 := nI 3) (v147 := (0 + J 6 1 * J 6 8 + J 6 2 * J 6 7) - (0 + J 6 2 * J 6 8) * J 5 2) (by simp only [hd]; rfl) (by decide) rfl (by decide) rfl (by decide) (by decide) rfl rfl ?_
  refine bX4_multiplyMembers_108  (fun _ => ?_) (fun c => absurd c (by simp only [hd]; decide))
  refine bX4_multiplyMembers_154 (v154 := nI 3) rfl ?_
  refine bX4_multiplyMembers_97  (fun c => absurd c (by simp only [hd]; decide)) (fun _ => ?_)
  refine bX4_multiplyMembers_105 (v106 := nI 0) rfl ?_
  refine bX4_multiplyMembers_108  (fun c => absurd c (by simp only [hd]; decide)) (fun _ => ?_)
  refine bX4_multiplyMembers_117 (j129 := 0) (j136 := 3) (j142 := 0) (v148 := nI 1) (v147 := (0 + J 6 0 * J 6 6) - ((0 + J 6 1 * J 6 8 + J 6 2 * J 6 7) - (0 + J 6 2 * J 6 8) * J 5 2) * J 5 0) (by simp only [hd]; rfl) (by decide) rfl (by decide) rfl (by decide) (by decide) rfl rfl ?_
  refine bX4_multiplyMembers_108  (fun c => absurd c (by simp only [hd]; decide)) (fun _ => ?_)
  refine bX4_multiplyMembers_117 (j129 := 1) (j136 := 3) (j142 := 1) (v148 := nI 2) (v147 := ((0 + J 6 0 * J 6 7 + J 6 1 * J 6 6) - (0 + J 6 2 * J 6 8) * J 5 0) - ((0 + J 6 1 * J 6 8 + J 6 2 * J 6 7) - (0 + J 6 2 * J 6 8) * J 5 2) * J 5 1) (by simp only [hd]; rfl) (by decide) rfl (by decide) rfl (by decide) (by decide) rfl rfl ?_
  refine bX4_multiplyMembers_108  (fun c => absurd c (by simp only [hd]; decide)) (fun _ => ?_)
  refine bX4_multiplyMembers_117 (j129 := 2) (j136 := 3) (j142 := 2) (v148 := nI 3) (v147 := ((0 + J 6 0 * J 6 8 + J 6 1 * J 6 7 + J 6 2 * J 6 6) - (0 + J 6 2 * J 6 8) * J 5 1) - ((0 + J 6 1 * J 6 8 + J 6 2 * J 6 7) - (0 + J 6 2 * J 6 8) * J 5 2) * J 5 2) (by simp only [hd]; rfl) (by decide) rfl (by decide) rfl (by decide) (by decide) rfl rfl ?_
  refine bX4_multiplyMembers_108  (fun _ => ?_) (fun c => absurd c (by simp only [hd]; decide))
  refine bX4_multiplyMembers_154 (v154 := nI 2) rfl ?_
  refine bX4_multiplyMembers_97  (fun _ => ?_) (fun c => absurd c (by simp only [hd]; decide))
  exact bX4_multiplyMembers_160  ⟨rfl, rfl, rfl, rfl, rfl, fun q h => by simp only [sa_uJ_ne h]⟩
theorem c_mm3_10 (hd : I 4 0 = nI 3) : Con (EC l D aI aL ad) M_X4_multiplyMembers yX4_multiplyMembers [.ref (ad 4), .int (nI 1), .int (nI 0)] I J (fun r I1 J1 => r = none ∧ I1 = I ∧ J1 11 0 = wd3 (J 5) (ur (J 6) 1) (ur (J 6) 0) 0 ∧ J1 11 1 = wd3 (J 5) (ur (J 6) 1) (ur (J 6) 0) 1 ∧ J1 11 2 = wd3 (J 5) (ur (J 6) 1) (ur (J 6) 0) 2 ∧ ∀ q, q ≠ 11 → J1 q = J q) := by
  refine Con.of (by decide +kernel) rfl (Nat.le_of_ble_eq_true rfl) ?_
  refine bX4_multiplyMembers_0 (v1 := nI 0) rfl ?_
  refine bX4_multiplyMembers_2  (fun c => absurd c (by decide)) (fun _ => ?_)
  refine bX4_multiplyMembers_7 (j11 := 0) (v14 := nI 1) rfl (by decide) rfl rfl ?_
  refine bX4_multiplyMembers_2  (fun c => absurd c (by decide)) (fun _ => ?_)
  refine bX4_multiplyMembers_7 (j11 := 1) (v14 := nI 2) rfl (by decide) rfl rfl ?_
  refine bX4_multiplyMembers_2  (fun c => absurd c (by decide)) (fun _ => ?_)
  refine bX4_multiplyMembers_7 (j11 := 2) (v14 := nI 3) rfl (by decide) rfl rfl ?_
  refine bX4_multiplyMembers_2  (fun c => absurd c (by decide)) (fun _ => ?_)
  refine bX4_multiplyMembers_7 (j11 := 3) (v14 := nI 4) rfl (by decide) rfl rfl ?_
  refine bX4_multiplyMembers_2  (fun c => absurd c (by decide)) (fun _ => ?_)
  refine bX4_multiplyMembers_7 (j11 := 4) (v14 := nI 5) rfl (by decide) rfl rfl ?_
  refine bX4_multiplyMembers_2  (fun _ => ?_) (fun c => absurd c (by decide))
  refine bX4_multiplyMembers_20 (v21 := nI 0) rfl ?_
  refine bX4_multiplyMembers_22  (fun c => absurd c (by simp only [hd]; decide)) (fun _ => ?_)
  refine bX4_multiplyMembers_30 (v31 := nI 0) rfl ?_
  refine bX4_multiplyMembers_33  (fun c => absurd c (by simp only [hd]; decide)) (fun _ => ?_)
  refine bX4_multiplyMembers_42 (j49 := 0) (j60 := 3) (j71 := 0) (v76 := nI 1) (v75 := 0 + J 6 3 * J 6 0) rfl (by decide) rfl (by decide) rfl (by decide) (by decide) rfl rfl ?_
  refine bX4_multiplyMembers_33  (fun c => absurd c (by simp only [hd]; decide)) (fun _ => ?_)
  refine bX4_multiplyMembers_42 (j49 := 1) (j60 := 3) (j71 := 1) (v76 := nI 2) (v75 := 0 + J 6 3 * J 6 1) rfl (by decide) rfl (by decide) rfl (by decide) (by decide) rfl rfl ?_
  refine bX4_multiplyMembers_33  (fun c => absurd c (by simp only [hd]; decide)) (fun _ => ?_)
  refine bX4_multiplyMembers_42 (j49 := 2) (j60 := 3) (j71 := 2) (v76 := nI 3) (v75 := 0 + J 6 3 * J 6 2) rfl (by decide) rfl (by decide) rfl (by decide) (by decide) rfl rfl ?_
  refine bX4_multiplyMembers_33  (fun _ => ?_) (fun c => absurd c (by simp only [hd]; decide))
  refine bX4_multiplyMembers_82 (v82 := nI 1) rfl ?_
  refine bX4_multiplyMembers_22  (fun c => absurd c (by simp only [hd]; decide)) (fun _ => ?_)
  refine bX4_multiplyMembers_30 (v31 := nI 0) rfl ?_
  refine bX4_multiplyMembers_33  (fun c => absurd c (by simp only [hd]; decide)) (fun _ => ?_)
  refine bX4_multiplyMembers_42 (j49 := 1) (j60 := 4) (j71 := 0) (v76 := nI 1) (v75 := 0 + J 6 3 * J 6 1 + J 6 4 * J 6 0) rfl (by decide) rfl (by decide) rfl (by decide) (by decide) rfl rfl ?_
  refine bX4_multiplyMembers_33  (fun c => absurd c (by simp only [hd]; decide)) (fun _ => ?_)
  refine bX4_multiplyMembers_42 (j49 := 2) (j60 := 4) (j71 := 1) (v76 := nI 2) (v75 := 0 + J 6 3 * J 6 2 + J 6 4 * J 6 1) rfl (by decide) rfl (by decide) rfl (by decide) (by decide) rfl rfl ?_
  refine bX4_multiplyMembers_33  (fun c => absurd c (by simp only [hd]; decide)) (fun _ => ?_)
  refine bX4_multiplyMembers_42 (j49 := 3) (j60 := 4) (j71 := 2) (v76 := nI 3) (v75 := 0 + J 6 4 * J 6 2) rfl (by decide) rfl (by decide) rfl (by decide) (by decide) rfl rfl ?_
  refine bX4_multiplyMembers_33  (fun _ => ?_) (fun c => absurd c (by simp only [hd]; decide))
  refine bX4_multiplyMembers_82 (v82 := nI 2) rfl ?_
  refine bX4_multiplyMembers_22  (fun c => absurd c (by simp only [hd]; decide)) (fun _ => ?_)
  refine bX4_multiplyMembers_30 (v31 := nI 0) rfl ?_
  refine bX4_multiplyMembers_33  (fun c => absurd c (by simp only [hd]; decide)) (fun _ => ?_)
  refine bX4_multiplyMembers_42 (j49 := 2) (j60 := 5) (j71 := 0) (v76 := nI 1) (v75 := 0 + J 6 3 * J 6 2 + J 6 4 * J 6 1 + J 6 5 * J 6 0) rfl (by decide) rfl (by decide) rfl (by decide) (by decide) rfl rfl ?_
  refine bX4_multiplyMembers_33  (fun c => absurd c (by simp only [hd]; decide)) (fun _ => ?_)
  refine bX4_multiplyMembers_42 (j49 := 3) (j60 := 5) (j71 := 1) (v76 := nI 2) (v75 := 0 + J 6 4 * J 6 2 + J 6 5 * J 6 1) rfl (by decide) rfl (by decide) rfl (by decide) (by decide) rfl rfl ?_
  refine bX4_multiplyMembers_33  (fun c => absurd c (by simp only [hd]; decide)) (fun _ => ?_)
  refine bX4_multiplyMembers_42 (j49 := 4) (j60 := 5) (j71 := 2) (v76 := nI 3) (v75 := 0 + J 6 5 * J 6 2) rfl (by decide) rfl (by decide) rfl (by decide) (by decide) rfl rfl ?_
  refine bX4_multiplyMembers_33  (fun _ => ?_) (fun c => absurd c (by simp only [hd]; decide))
  refine bX4_multiplyMembers_82 (v82 := nI 3) rfl ?_
  refine bX4_multiplyMembers_22  (fun _ => ?_) (fun c => absurd c (by simp only [hd]; decide))
  refine bX4_multiplyMembers_88 (v96 := nI 4) (by simp only [hd]; rfl) ?_
  refine bX4_multiplyMembers_97  (fun c => absurd c (by simp only [hd]; decide)) (fun _ => ?_)
  refine bX4_multiplyMembers_105 (v106 := nI 0) rfl ?_
  refine bX4_multiplyMembers_108  (fun c => absurd c (by simp only [hd]; decide)) (fun _ => ?_)
  refine bX4_multiplyMembers_117 (j129 := 1) (j136 := 4) (j142 := 0) (v148 := nI 1) (v147 := (0 + J 6 3 * J 6 1 + J 6 4 * J 6 0) - (0 + J 6 5 * J 6 2) * J 5 0) (by simp only [hd]; rfl) (by decide) rfl (by decide) rfl (by decide) (by decide) rfl rfl ?_
  refine bX4_multiplyMembers_108  (fun c => absurd c (by simp only [hd]; decide)) (fun _ => ?_)
  refine bX4_multiplyMembers_117 (j129 := 2) (j136 := 4) (j142 := 1) (v148 := nI 2) (v147 := (0 + J 6 3 * J 6 2 + J 6 4 * J 6 1 + J 6 5 * J 6 0) - (0 + J 6 5 * J 6 2) * J 5 1) (by simp only [hd]; rfl) (by decide) rfl (by decide) rfl (by decide) (by decide) rfl rfl ?_
  refine bX4_multiplyMembers_108  (fun c => absurd c (by simp only [hd]; decide)) (fun _ => ?_)
  refine bX4_multiplyMembers_117 (j129 := 3) (j136 := 4) (j142 := 2) (v148 := nI 3) (v147 := (0 + J 6 4 * J 6 2 + J 6 5 * J 6 1) - (0 + J 6 5 * J 6 2) * J 5 2) (by simp only [hd]; rfl) (by decide) rfl (by decide) rfl (by decide) (by decide) rfl rfl ?_
  refine bX4_multiplyMembers_108  (fun _ => ?_) (fun c => absurd c (by simp only [hd]; decide))
  refine bX4_multiplyMembers_154 (v154 := nI 3) rfl ?_
  refine bX4_multiplyMembers_97  (fun c => absurd c (by simp only [hd]; decide)) (fun _ => ?_)
  refine bX4_multiplyMembers_105 (v106 := nI 0) rfl ?_
  refine bX4_multiplyMembers_108  (fun c => absurd c (by simp only [hd]; decide)) (fun _ => ?_)
  refine bX4_multiplyMembers_117 (j129 := 0) (j136 := 3) (j142 := 0) (v148 := nI 1) (v147 := (0 + J 6 3 * J 6 0) - ((0 + J 6 4 * J 6 2 + J 6 5 * J 6 1) - (0 + J 6 5 * J 6 2) * J 5 2) * J 5 0) (by simp only [hd]; rfl) (by decide) rfl (by decide) rfl (by decide) (by decide) rfl rfl ?_
  refine bX4_multiplyMembers_108  (fun c => absurd c (by simp only [hd]; decide)) (fun _ => ?_)
  refine bX4_multiplyMembers_117 (j129 := 1) (j136 := 3) (j142 := 1) (v148 := nI 2) (v147 := ((0 + J 6 3 * J 6 1 + J 6 4 * J 6 0) - (0 + J 6 5 * J 6 2) * J 5 0) - ((0 + J 6 4 * J 6 2 + J 6 5 * J 6 1) - (0 + J 6 5 * J 6 2) * J 5 2) * J 5 1) (by simp only [hd]; rfl) (by decide) rfl (by decide) rfl (by decide) (by decide) rfl rfl ?_
  refine bX4_multiplyMembers_108  (fun c => absurd c (by simp only [hd]; decide)) (fun _ => ?_)
  refine bX4_multiplyMembers_117 (j129 := 2) (j136 := 3) (j142 := 2) (v148 := nI 3) (v147 := ((0 + J 6 3 * J 6 2 + J 6 4 * J 6 1 + J 6 5 * J 6 0) - (0 + J 6 5 * J 6 2) * J 5 1) - ((0 + J 6 4 * J 6 2 + J 6 5 * J 6 1) - (0 + J 6 5 * J 6 2) * J 5 2) * J 5 2) (by simp only [hd]; rfl) (by decide) rfl (by decide) rfl (by decide) (by decide) rfl rfl ?_
  refine bX4_multiplyMembers_108  (fun _ => ?_) (fun c => absurd c (by simp only [hd]; decide))
  refine bX4_multiplyMembers_154 (v154 := nI 2) rfl ?_
  refine bX4_multiplyMembers_97  (fun _ => ?_) (fun c => absurd c (by simp only [hd]; decide))
  exact bX4_multiplyMembers_160  ⟨rfl, rfl, rfl, rfl, rfl, fun q h => by simp only [sa_uJ_ne h]⟩
theorem c_mm3_11 (hd : I 4 0 = nI 3) : Con (EC l D aI aL ad) M_X4_multiplyMembers yX4_multiplyMembers [.ref (ad 4), .int (nI 1), .int (nI 1)] I J (fun r I1 J1 => r = none ∧ I1 = I ∧ J1 11 0 = wd3 (J 5) (ur (J 6) 1) (ur (J 6) 1) 0 ∧ J1 11 1 = wd3 (J 5) (ur (J 6) 1) (ur (J 6) 1) 1 ∧ J1 11 2 = wd3 (J 5) (ur (J 6) 1) (ur (J 6) 1) 2 ∧ ∀ q, q ≠ 11 → J1 q = J q) := by
  refine Con.of (by decide +kernel) rfl (Nat.le_of_ble_eq_true rfl) ?_
  refine bX4_multiplyMembers_0 (v1 := nI 0) rfl ?_
  refine bX4_multiplyMembers_2  (fun c => absurd c (by decide)) (fun _ => ?_)
  refine bX4_multiplyMembers_7 (j11 := 0) (v14 := nI 1) rfl (by decide) rfl rfl ?_
  refine bX4_multiplyMembers_2  (fun c => absurd c (by decide)) (fun _ => ?_)
  refine bX4_multiplyMembers_7 (j11 := 1) (v14 := nI 2) rfl (by decide) rfl rfl ?_
  refine bX4_multiplyMembers_2  (fun c => absurd c (by decide)) (fun _ => ?_)
  refine bX4_multiplyMembers_7 (j11 := 2) (v14 := nI 3) rfl (by decide) rfl rfl ?_
  refine bX4_multiplyMembers_2  (fun c => absurd c (by decide)) (fun _ => ?_)
  refine bX4_multiplyMembers_7 (j11 := 3) (v14 := nI 4) rfl (by decide) rfl rfl ?_
  refine bX4_multiplyMembers_2  (fun c => absurd c (by decide)) (fun _ => ?_)
  refine bX4_multiplyMembers_7 (j11 := 4) (v14 := nI 5) rfl (by decide) rfl rfl ?_
  refine bX4_multiplyMembers_2  (fun _ => ?_) (fun c => absurd c (by decide))
  refine bX4_multiplyMembers_20 (v21 := nI 0) rfl ?_
  refine bX4_multiplyMembers_22  (fun c => absurd c (by simp only [hd]; decide)) (fun _ => ?_)
  refine bX4_multiplyMembers_30 (v31 := nI 0) rfl ?_
  refine bX4_multiplyMembers_33  (fun c => absurd c (by simp only [hd]; decide)) (fun _ => ?_)
  refine bX4_multiplyMembers_42 (j49 := 0) (j60 := 3) (j71 := 3) (v76 := nI 1) (v75 := 0 + J 6 3 * J 6 3) rfl (by decide) rfl (by decide) rfl (by decide) (by decide) rfl rfl ?_
  refine bX4_multiplyMembers_33  (fun c => absurd c (by simp only [hd]; decide)) (fun _ => ?_)
  refine bX4_multiplyMembers_42 (j49 := 1) (j60 := 3) (j71 := 4) (v76 := nI 2) (v75 := 0 + J 6 3 * J 6 4) rfl (by decide) rfl (by decide) rfl (by decide) (by decide) rfl rfl ?_
  refine bX4_multiplyMembers_33  (fun c => absurd c (by simp only [hd]; decide)) (fun _ => ?_)
  refine bX4_multiplyMembers_42 (j49 := 2) (j60 := 3) (j71 := 5) (v76 := nI 3) (v75 := 0 + J 6 3 * J 6 5) rfl (by decide) rfl (by decide) rfl (by decide) (by decide) rfl rfl ?_
  refine bX4_multiplyMembers_33  (fun _ => ?_) (fun c => absurd c (by simp only [hd]; decide))
  refine bX4_multiplyMembers_82 (v82 := nI 1) rfl ?_
  refine bX4_multiplyMembers_22  (fun c => absurd c (by simp only [hd]; decide)) (fun _ => ?_)
  refine bX4_multiplyMembers_30 (v31 := nI 0) rfl ?_
  refine bX4_multiplyMembers_33  (fun c => absurd c (by simp only [hd]; decide)) (fun _ => ?_)
  refine bX4_multiplyMembers_42 (j49 := 1) (j60 := 4) (j71 := 3) (v76 := nI 1) (v75 := 0 + J 6 3 * J 6 4 + J 6 4 * J 6 3) rfl (by decide) rfl (by decide) rfl (by decide) (by decide) rfl rfl ?_
  refine bX4_multiplyMembers_33  (fun c => absurd c (by simp only [hd]; decide)) (fun _ => ?_)
  refine bX4_multiplyMembers_42 (j49 := 2) (j60 := 4) (j71 := 4) (v76 := nI 2) (v75 := 0 + J 6 3 * J 6 5 + J 6 4 * J 6 4) rfl (by decide) rfl (by decide) rfl (by decide) (by decide) rfl rfl ?_
  refine bX4_multiplyMembers_33  (fun c => absurd c (by simp only [hd]; decide)) (fun _ => ?_)
  refine bX4_multiplyMembers_42 (j49 := 3) (j60 := 4) (j71 := 5) (v76 := nI 3) (v75 := 0 + J 6 4 * J 6 5) rfl (by decide) rfl (by decide) rfl (by decide) (by decide) rfl rfl ?_
  refine bX4_multiplyMembers_33  (fun _ => ?_) (fun c => absurd c (by simp only [hd]; decide))
  refine bX4_multiplyMembers_82 (v82 := nI 2) rfl ?_
  refine bX4_multiplyMembers_22  (fun c => absurd c (by simp only [hd]; decide)) (fun _ => ?_)
  refine bX4_multiplyMembers_30 (v31 := nI 0) rfl ?_
  refine bX4_multiplyMembers_33  (fun c => absurd c (by simp only [hd]; decide)) (fun _ => ?_)
  refine bX4_multiplyMembers_42 (j49 := 2) (j60 := 5) (j71 := 3) (v76 := nI 1) (v75 := 0 + J 6 3 * J 6 5 + J 6 4 * J 6 4 + J 6 5 * J 6 3) rfl (by decide) rfl (by decide) rfl (by decide) (by decide) rfl rfl ?_
  refine bX4_multiplyMembers_33  (fun c => absurd c (by simp only [hd]; decide)) (fun _ => ?_)
  refine bX4_multiplyMembers_42 (j49 := 3) (j60 := 5) (j71 := 4) (v76 := nI 2) (v75 := 0 + J 6 4 * J 6 5 + J 6 5 * J 6 4) rfl (by decide) rfl (by decide) rfl (by decide) (by decide) rfl rfl ?_
  refine bX4_multiplyMembers_33  (fun c => absurd c (by simp only [hd]; decide)) (fun _ => ?_)
  refine bX4_multiplyMembers_42 (j49 := 4) (j60 := 5) (j71 := 5) (v76 := nI 3) (v75 := 0 + J 6 5 * J 6 5) rfl (by decide) rfl (by decide) rfl (by decide) (by decide) rfl rfl ?_
  refine bX4_multiplyMembers_33  (fun _ => ?_) (fun c => absurd c (by simp only [hd]; decide))
  refine bX4_multiplyMembers_82 (v82 := nI 3) rfl ?_
  refine bX4_multiplyMembers_22  (fun _ => ?_) (fun c => absurd c (by simp only [hd]; decide))
  refine bX4_multiplyMembers_88 (v96 := nI 4) (by simp only [hd]; rfl) ?_
  refine bX4_multiplyMembers_97  (fun c => absurd c (by simp only [hd]; decide)) (fun _ => ?_)
  refine bX4_multiplyMembers_105 (v106 := nI 0) rfl ?_
  refine bX4_multiplyMembers_108  (fun c => absurd c (by simp only [hd]; decide)) (fun _ => ?_)
  refine bX4_multiplyMembers_117 (j129 := 1) (j136 := 4) (j142 := 0) (v148 := nI 1) (v147 := (0 + J 6 3 * J 6 4 + J 6 4 * J 6 3) - (0 + J 6 5 * J 6 5) * J 5 0) (by simp only [hd]; rfl) (by decide) rfl (by decide) rfl (by decide) (by decide) rfl rfl ?_
  refine bX4_multiplyMembers_108  (fun c => absurd c (by simp only [hd]; decide)) (fun _ => ?_)
  refine bX4_multiplyMembers_117 (j129 := 2) (j136 := 4) (j142 := 1) (v148 := nI 2) (v147 := (0 + J 6 3 * J 6 5 + J 6 4 * J 6 4 + J 6 5 * J 6 3) - (0 + J 6 5 * J 6 5) * J 5 1) (by simp only [hd]; rfl) (by decide) rfl (by decide) rfl (by decide) (by decide) rfl rfl ?_
  refine bX4_multiplyMembers_108  (fun c => absurd c (by simp only [hd]; decide)) (fun _ => ?_)
  refine bX4_multiplyMembers_117 (j129 := 3) (j136 := 4) (j142 := 2) (v148 := nI 3) (v147 := (0 + J 6 4 * J 6 5 + J 6 5 * J 6 4) - (0 + J 6 5 * J 6 5) * J 5 2) (by simp only [hd]; rfl) (by decide) rfl (by decide) rfl (by decide) (by decide) rfl rfl ?_
  refine bX4_multiplyMembers_108  (fun _ => ?_) (fun c => absurd c (by simp only [hd]; decide))
  refine bX4_multiplyMembers_154 (v154 := nI 3) rfl ?_
  refine bX4_multiplyMembers_97  (fun c => absurd c (by simp only [hd]; decide)) (fun _ => ?_)
  refine bX4_multiplyMembers_105 (v106 := nI 0) rfl ?_
  refine bX4_multiplyMembers_108  (fun c => absurd c (by simp only [hd]; decide)) (fun _ => ?_)
  refine bX4_multiplyMembers_117 (j129 := 0) (j136 := 3) (j142 := 0) (v148 := nI 1) (v147 := (0 + J 6 3 * J 6 3) - ((0 + J 6 4 * J 6 5 + J 6 5 * J 6 4) - (0 + J 6 5 * J 6 5) * J 5 2) * J 5 0) (by simp only [hd]; rfl) (by decide) rfl (by decide) rfl (by decide) (by decide) rfl rfl ?_
  refine bX4_multiplyMembers_108  (fun c => absurd c (by simp only [hd]; decide)) (fun _ => ?_)
  refine bX4_multiplyMembers_117 (j129 := 1) (j136 := 3) (j142 := 1) (v148 := nI 2) (v147 := ((0 + J 6 3 * J 6 4 + J 6 4 * J 6 3) - (0 + J 6 5 * J 6 5) * J 5 0) - ((0 + J 6 4 * J 6 5 + J 6 5 * J 6 4) - (0 + J 6 5 * J 6 5) * J 5 2) * J 5 1) (by simp only [hd]; rfl) (by decide) rfl (by decide) rfl (by decide) (by decide) rfl rfl ?_
  refine bX4_multiplyMembers_108  (fun c => absurd c (by simp only [hd]; decide)) (fun _ => ?_)
  refine bX4_multiplyMembers_117 (j129 := 2) (j136 := 3) (j142 := 2) (v148 := nI 3) (v147 := ((0 + J 6 3 * J 6 5 + J 6 4 * J 6 4 + J 6 5 * J 6 3) - (0 + J 6 5 * J 6 5) * J 5 1) - ((0 + J 6 4 * J 6 5 + J 6 5 * J 6 4) - (0 + J 6 5 * J 6 5) * J 5 2) * J 5 2) (by simp only [hd]; rfl) (by decide) rfl (by decide) rfl (by decide) (by decide) rfl rfl ?_
  refine bX4_multiplyMembers_108  (fun _ => ?_) (fun c => absurd c (by simp only [hd]; decide))
  refine bX4_multiplyMembers_154 (v154 := nI 2) rfl ?_
  refine bX4_multiplyMembers_97  (fun _ => ?_) (fun c => absurd c (by simp only [hd]; decide))
  exact bX4_multiplyMembers_160  ⟨rfl, rfl, rfl, rfl, rfl, fun q h => by simp only [sa_uJ_ne h]⟩
theorem c_mm3_12 (hd : I 4 0 = nI 3) : Con (EC l D aI aL ad) M_X4_multiplyMembers yX4_multiplyMembers [.ref (ad 4), .int (nI 1), .int (nI 2)] I J (fun r I1 J1 => r = none ∧ I1 = I ∧ J1 11 0 = wd3 (J 5) (ur (J 6) 1) (ur (J 6) 2) 0 ∧ J1 11 1 = wd3 (J 5) (ur (J 6) 1) (ur (J 6) 2) 1 ∧ J1 11 2 = wd3 (J 5) (ur (J 6) 1) (ur (J 6) 2) 2 ∧ ∀ q, q ≠ 11 → J1 q = J q) := by
  refine Con.of (by decide +kernel) rfl (Nat.le_of_ble_eq_true rfl) ?_
  refine bX4_multiplyMembers_0 (v1 := nI 0) rfl ?_
  refine bX4_multiplyMembers_2  (fun c => absurd c (by decide)) (fun _ => ?_)
  refine bX4_multiplyMembers_7 (j11 := 0) (v14 := nI 1) rfl (by decide) rfl rfl ?_
  refine bX4_multiplyMembers_2  (fun c => absurd c (by decide)) (fun _ => ?_)
  refine bX4_multiplyMembers_7 (j11 := 1) (v14 := nI 2) rfl (by decide) rfl rfl ?_
  refine bX4_multiplyMembers_2  (fun c => absurd c (by decide)) (fun _ => ?_)
  refine bX4_multiplyMembers_7 (j11 := 2) (v14 := nI 3) rfl (by decide) rfl rfl ?_
  refine bX4_multiplyMembers_2  (fun c => absurd c (by decide)) (fun _ => ?_)
  refine bX4_multiplyMembers_7 (j11 := 3) (v14 := nI 4) rfl (by decide) rfl rfl ?_
  refine bX4_multiplyMembers_2  (fun c => absurd c (by decide)) (fun _ => ?_)
  refine bX4_multiplyMembers_7 (j11 := 4) (v14 := nI 5) rfl (by decide) rfl rfl ?_
  refine bX4_multiplyMembers_2  (fun _ => ?_) (fun c => absurd c (by decide))
  refine bX4_multiplyMembers_20 (v21 := nI 0) rfl ?_
  refine bX4_multiplyMembers_22  (fun c => absurd c (by simp only [hd]; decide)) (fun _ => ?_)
  refine bX4_multiplyMembers_30 (v31 := nI 0) rfl ?_
  refine bX4_multiplyMembers_33  (fun c => absurd c (by simp only [hd]; decide)) (fun _ => ?_)
  refine bX4_multiplyMembers_42 (j49 := 0) (j60 := 3) (j71 := 6) (v76 := nI 1) (v75 := 0 + J 6 3 * J 6 6) rfl (by decide) rfl (by decide) rfl (by decide) (by decide) rfl rfl ?_
  refine bX4_multiplyMembers_33  (fun c => absurd c (by simp only [hd]; decide)) (fun _ => ?_)
  refine bX4_multiplyMembers_42 (j49 := 1) (j60 := 3) (j71 := 7) (v76 := nI 2) (v75 := 0 + J 6 3 * J 6 7) rfl (by decide) rfl (by decide) rfl (by decide) (by decide) rfl rfl ?_
  refine bX4_multiplyMembers_33  (fun c => absurd c (by simp only [hd]; decide)) (fun _ => ?_)
  refine bX4_multiplyMembers_42 (j49 := 2) (j60 := 3) (j71 := 8) (v76 := nI 3) (v75 := 0 + J 6 3 * J 6 8) rfl (by decide) rfl (by decide) rfl (by decide) (by decide) rfl rfl ?_
  refine bX4_multiplyMembers_33  (fun _ => ?_) (fun c => absurd c (by simp only [hd]; decide))
  refine bX4_multiplyMembers_82 (v82 := nI 1) rfl ?_
  refine bX4_multiplyMembers_22  (fun c => absurd c (by simp only [hd]; decide)) (fun _ => ?_)
  refine bX4_multiplyMembers_30 (v31 := nI 0) rfl ?_
  refine bX4_multiplyMembers_33  (fun c => absurd c (by simp only [hd]; decide)) (fun _ => ?_)
  refine bX4_multiplyMembers_42 (j49 := 1) (j60 := 4) (j71 := 6) (v76 := nI 1) (v75 := 0 + J 6 3 * J 6 7 + J 6 4 * J 6 6) rfl (by decide) rfl (by decide) rfl (by decide) (by decide) rfl rfl ?_
  refine bX4_multiplyMembers_33  (fun c => absurd c (by simp only [hd]; decide)) (fun _ => ?_)
  refine bX4_multiplyMembers_42 (j49 := 2) (j60 := 4) (j71 := 7) (v76 := nI 2) (v75 := 0 + J 6 3 * J 6 8 + J 6 4 * J 6 7) rfl (by decide) rfl (by decide) rfl (by decide) (by decide) rfl rfl ?_
  refine bX4_multiplyMembers_33  (fun c => absurd c (by simp only [hd]; decide)) (fun _ => ?_)
  refine bX4_multiplyMembers_42 (j49 := 3) (j60 := 4) (j71 := 8) (v76 := nI 3) (v75 := 0 + J 6 4 * J 6 8) rfl (by decide) rfl (by decide) rfl (by decide) (by decide) rfl rfl ?_
  refine bX4_multiplyMembers_33  (fun _ => ?_) (fun c => absurd c (by simp only [hd]; decide))
  refine bX4_multiplyMembers_82 (v82 := nI 2) rfl ?_
  refine bX4_multiplyMembers_22  (fun c => absurd c (by simp only [hd]; decide)) (fun _ => ?_)
  refine bX4_multiplyMembers_30 (v31 := nI 0) rfl ?_
  refine bX4_multiplyMembers_33  (fun c => absurd c (by simp only [hd]; decide)) (fun _ => ?_)
  refine bX4_multiplyMembers_42 (j49 := 2) (j60 := 5) (j71 := 6) (v76 := nI 1) (v75 := 0 + J 6 3 * J 6 8 + J 6 4 * J 6 7 + J 6 5 * J 6 6) rfl (by decide) rfl (by decide) rfl (by decide) (by decide) rfl rfl ?_
  refine bX4_multiplyMembers_33  (fun c => absurd c (by simp only [hd]; decide)) (fun _ => ?_)
  refine bX4_multiplyMembers_42 (j49 := 3) (j60 := 5) (j71 := 7) (v76 := nI 2) (v75 := 0 + J 6 4 * J 6 8 + J 6 5 * J 6 7) rfl (by decide) rfl (by decide) rfl (by decide) (by decide) rfl rfl ?_
  refine bX4_multiplyMembers_33  (fun c => absurd c (by simp only [hd]; decide)) (fun _ => ?_)
  refine bX4_multiplyMembers_42 (j49 := 4) (j60 := 5) (j71 := 8) (v76 := nI 3) (v75 := 0 + J 6 5 * J 6 8) rfl (by decide) rfl (by decide) rfl (by decide) (by decide) rfl rfl ?_
  refine bX4_multiplyMembers_33  (fun _ => ?_) (fun c => absurd c (by simp only [hd]; decide))
  refine bX4_multiplyMembers_82 (v82 := nI 3) rfl ?_
  refine bX4_multiplyMembers_22  (fun _ => ?_) (fun c => absurd c (by simp only [hd]; decide))
  refine bX4_multiplyMembers_88 (v96 := nI 4) (by simp only [hd]; rfl) ?_
  refine bX4_multiplyMembers_97  (fun c => absurd c (by simp only [hd]; decide)) (fun _ => ?_)
  refine bX4_multiplyMembers_105 (v106 := nI 0) rfl ?_
  refine bX4_multiplyMembers_108  (fun c => absurd c (by simp only [hd]; decide)) (fun _ => ?_)
  refine bX4_multiplyMembers_117 (j129 := 1) (j136 := 4) (j142 := 0) (v148 := nI 1) (v147 := (0 + J 6 3 * J 6 7 + J 6 4 * J 6 6) - (0 + J 6 5 * J 6 8) * J 5 0) (by simp only [hd]; rfl) (by decide) rfl (by decide) rfl (by decide) (by decide) rfl rfl ?_
  refine bX4_multiplyMembers_108  (fun c => absurd c (by simp only [hd]; decide)) (fun _ => ?_)
  refine bX4_multiplyMembers_117 (j129 := 2) (j136 := 4) (j142 := 1) (v148 := nI 2) (v147 := (0 + J 6 3 * J 6 8 + J 6 4 * J 6 7 + J 6 5 * J 6 6) - (0 + J 6 5 * J 6 8) * J 5 1) (by simp only [hd]; rfl) (by decide) rfl (by decide) rfl (by decide) (by decide) rfl rfl ?_
  refine bX4_multiplyMembers_108  (fun c => absurd c (by simp only [hd]; decide)) (fun _ => ?_)
  refine bX4_multiplyMembers_117 (j129 := 3) (j136 := 4) (j142 := 2) (v148 := nI 3) (v147 := (0 + J 6 4 * J 6 8 + J 6 5 * J 6 7) - (0 + J 6 5 * J 6 8) * J 5 2) (by simp only [hd]; rfl) (by decide) rfl (by decide) rfl (by decide) (by decide) rfl rfl ?_
  refine bX4_multiplyMembers_108  (fun _ => ?_) (fun c => absurd c (by simp only [hd]; decide))
  refine bX4_multiplyMembers_154 (v154 := nI 3) rfl ?_
  refine bX4_multiplyMembers_97  (fun c => absurd c (by simp only [hd]; decide)) (fun _ => ?_)
  refine bX4_multiplyMembers_105 (v106 := nI 0) rfl ?_
  refine bX4_multiplyMembers_108  (fun c => absurd c (by simp only [hd]; decide)) (fun _ => ?_)
  refine bX4_multiplyMembers_117 (j129 := 0) (j136 := 3) (j142 := 0) (v148 := nI 1) (v147 := (0 + J 6 3 * J 6 6) - ((0 + J 6 4 * J 6 8 + J 6 5 * J 6 7) - (0 + J 6 5 * J 6 8) * J 5 2) * J 5 0) (by simp only [hd]; rfl) (by decide) rfl (by decide) rfl (by decide) (by decide) rfl rfl ?_
  refine bX4_multiplyMembers_108  (fun c => absurd c (by simp only [hd]; decide)) (fun _ => ?_)
  refine bX4_multiplyMembers_117 (j129 := 1) (j136 := 3) (j142 := 1) (v148 := nI 2) (v147 := ((0 + J 6 3 * J 6 7 + J 6 4 * J 6 6) - (0 + J 6 5 * J 6 8) * J 5 0) - ((0 + J 6 4 * J 6 8 + J 6 5 * J 6 7) - (0 + J 6 5 * J 6 8) * J 5 2) * J 5 1) (by simp only [hd]; rfl) (by decide) rfl (by decide) rfl (by decide) (by decide) rfl rfl ?_
  refine bX4_multiplyMembers_108  (fun c => absurd c (by simp only [hd]; decide)) (fun _ => ?_)
  refine bX4_multiplyMembers_117 (j129 := 2) (j136 := 3) (j142 := 2) (v148 := nI 3) (v147 := ((0 + J 6 3 * J 6 8 + J 6 4 * J 6 7 + J 6 5 * J 6 6) - (0 + J 6 5 * J 6 8) * J 5 1) - ((0 + J 6 4 * J 6 8 + J 6 5 * J 6 7) - (0 + J 6 5 * J 6 8) * J 5 2) * J 5 2) (by simp only [hd]; rfl) (by decide) rfl (by decide) rfl (by decide) (by decide) rfl rfl ?_
  refine bX4_multiplyMembers_108  (fun _ => ?_) (fun c => absurd c (by simp only [hd]; decide))
  refine bX4_multiplyMembers_154 (v154 := nI 2) rfl ?_
  refine bX4_multiplyMembers_97  (fun _ => ?_) (fun c => absurd c (by simp only [hd]; decide))
  exact bX4_multiplyMembers_160  ⟨rfl, rfl, rfl, rfl, rfl, fun q h => by simp only [sa_uJ_ne h]⟩
theorem c_mm3_20 (hd : I 4 0 = nI 3) : Con (EC l D aI aL ad) M_X4_multiplyMembers yX4_multiplyMembers [.ref (ad 4), .int (nI 2), .int (nI 0)] I J (fun r I1 J1 => r = none ∧ I1 = I ∧ J1 11 0 = wd3 (J 5) (ur (J 6) 2) (ur (J 6) 0) 0 ∧ J1 11 1 = wd3 (J 5) (ur (J 6) 2) (ur (J 6) 0) 1 ∧ J1 11 2 = wd3 (J 5) (ur (J 6) 2) (ur (J 6) 0) 2 ∧ ∀ q, q ≠ 11 → J1 q = J q) := by
  refine Con.of (by decide +kernel) rfl (Nat.le_of_ble_eq_true rfl) ?_
  refine bX4_multiplyMembers_0 (v1 := nI 0) rfl ?_
  refine bX4_multiplyMembers_2  (fun c => absurd c (by decide)) (fun _ => ?_)
  refine bX4_multiplyMembers_7 (j11 := 0) (v14 := nI 1) rfl (by decide) rfl rfl ?_
  refine bX4_multiplyMembers_2  (fun c => absurd c (by decide)) (fun _ => ?_)
  refine bX4_multiplyMembers_7 (j11 := 1) (v14 := nI 2) rfl (by decide) rfl rfl ?_
  refine bX4_multiplyMembers_2  (fun c => absurd c (by decide)) (fun _ => ?_)
  refine bX4_multiplyMembers_7 (j11 := 2) (v14 := nI 3) rfl (by decide) rfl rfl ?_
  refine bX4_multiplyMembers_2  (fun c => absurd c (by decide)) (fun _ => ?_)
  refine bX4_multiplyMembers_7 (j11 := 3) (v14 := nI 4) rfl (by decide) rfl rfl ?_
  refine bX4_multiplyMembers_2  (fun c => absurd c (by decide)) (fun _ => ?_)
  refine bX4_multiplyMembers_7 (j11 := 4) (v14 := nI 5) rfl (by decide) rfl rfl ?_
  refine bX4_multiplyMembers_2  (fun _ => ?_) (fun c => absurd c (by decide))
  refine bX4_multiplyMembers_20 (v21 := nI 0) rfl ?_
  refine bX4_multiplyMembers_22  (fun c => absurd c (by simp only [hd]; decide)) (fun _ => ?_)
  refine bX4_multiplyMembers_30 (v31 := nI 0) rfl ?_
  refine bX4_multiplyMembers_33  (fun c => absurd c (by simp only [hd]; decide)) (fun _ => ?_)
  refine bX4_multiplyMembers_42 (j49 := 0) (j60 := 6) (j71 := 0) (v76 := nI 1) (v75 := 0 + J 6 6 * J 6 0) rfl (by decide) rfl (by decide) rfl (by decide) (by decide) rfl rfl ?_
  refine bX4_multiplyMembers_33  (fun c => absurd c (by simp only [hd]; decide)) (fun _ => ?_)
  refine bX4_multiplyMembers_42 (j49 := 1) (j60 := 6) (j71 := 1) (v76 := nI 2) (v75 := 0 + J 6 6 * J 6 1) rfl (by decide) rfl (by decide) rfl (by decide) (by decide) rfl rfl ?_
  refine bX4_multiplyMembers_33  (fun c => absurd c (by simp only [hd]; decide)) (fun _ => ?_)
  refine bX4_multiplyMembers_42 (j49 := 2) (j60 := 6) (j71 := 2) (v76 := nI 3) (v75 := 0 + J 6 6 * J 6 2) rfl (by decide) rfl (by decide) rfl (by decide) (by decide) rfl rfl ?_
  refine bX4_multiplyMembers_33  (fun _ => ?_) (fun c => absurd c (by simp only [hd]; decide))
  refine bX4_multiplyMembers_82 (v82 := nI 1) rfl ?_
  refine bX4_multiplyMembers_22  (fun c => absurd c (by simp only [hd]; decide)) (fun _ => ?_)
  refine bX4_multiplyMembers_30 (v31 := nI 0) rfl ?_
  refine bX4_multiplyMembers_33  (fun c => absurd c (by simp only [hd]; decide)) (fun _ => ?_)
  refine bX4_multiplyMembers_42 (j49 := 1) (j60 := 7) (j71 := 0) (v76 := nI 1) (v75 := 0 + J 6 6 * J 6 1 + J 6 7 * J 6 0) rfl (by decide) rfl (by decide) rfl (by decide) (by decide) rfl rfl ?_
  refine bX4_multiplyMembers_33  (fun c => absurd c (by simp only [hd]; decide)) (fun _ => ?_)
  refine bX4_multiplyMembers_42 (j49 := 2) (j60 := 7) (j71 := 1) (v76 := nI 2) (v75 := 0 + J 6 6 * J 6 2 + J 6 7 * J 6 1) rfl (by decide) rfl (by decide) rfl (by decide) (by decide) rfl rfl ?_
  refine bX4_multiplyMembers_33  (fun c => absurd c (by simp only [hd]; decide)) (fun _ => ?_)
  refine bX4_multiplyMembers_42 (j49 := 3) (j60 := 7) (j71 := 2) (v76 := nI 3) (v75 := 0 + J 6 7 * J 6 2) rfl (by decide) rfl (by decide) rfl (by decide) (by decide) rfl rfl ?_
  refine bX4_multiplyMembers_33  (fun _ => ?_) (fun c => absurd c (by simp only [hd]; decide))
  refine bX4_multiplyMembers_82 (v82 := nI 2) rfl ?_
  refine bX4_multiplyMembers_22  (fun c => absurd c (by simp only [hd]; decide)) (fun _ => ?_)
  refine bX4_multiplyMembers_30 (v31 := nI 0) rfl ?_
  refine bX4_multiplyMembers_33  (fun c => absurd c (by simp only [hd]; decide)) (fun _ => ?_)
  refine bX4_multiplyMembers_42 (j49 := 2) (j60 := 8) (j71 := 0) (v76 := nI 1) (v75 := 0 + J 6 6 * J 6 2 + J 6 7 * J 6 1 + J 6 8 * J 6 0) rfl (by decide) rfl (by decide) rfl (by decide) (by decide) rfl rfl ?_
  refine bX4_multiplyMembers_33  (fun c => absurd c (by simp only [hd]; decide)) (fun _ => ?_)
  refine bX4_multiplyMembers_42 (j49 := 3) (j60 := 8) (j71 := 1) (v76 := nI 2) (v75 := 0 + J 6 7 * J 6 2 + J 6 8 * J 6 1) rfl (by decide) rfl (by decide) rfl (by decide) (by decide) rfl rfl ?_
  refine bX4_multiplyMembers_33  (fun c => absurd c (by simp only [hd]; decide)) (fun _ => ?_)
  refine bX4_multiplyMembers_42 (j49 := 4) (j60 := 8) (j71 := 2) (v76 := nI 3) (v75 := 0 + J 6 8 * J 6 2) rfl (by decide) rfl (by decide) rfl (by decide) (by decide) rfl rfl ?_
  refine bX4_multiplyMembers_33  (fun _ => ?_) (fun c => absurd c (by simp only [hd]; decide))
  refine bX4_multiplyMembers_82 (v82 := nI 3) rfl ?_
  refine bX4_multiplyMembers_22  (fun _ => ?_) (fun c => absurd c (by simp only [hd]; decide))
  refine bX4_multiplyMembers_88 (v96 := nI 4) (by simp only [hd]; rfl) ?_
  refine bX4_multiplyMembers_97  (fun c => absurd c (by simp only [hd]; decide)) (fun _ => ?_)
  refine bX4_multiplyMembers_105 (v106 := nI 0) rfl ?_
  refine bX4_multiplyMembers_108  (fun c => absurd c (by simp only [hd]; decide)) (fun _ => ?_)
  refine bX4_multiplyMembers_117 (j129 := 1) (j136 := 4) (j142 := 0) (v148 := nI 1) (v147 := (0 + J 6 6 * J 6 1 + J 6 7 * J 6 0) - (0 + J 6 8 * J 6 2) * J 5 0) (by simp only [hd]; rfl) (by decide) rfl (by decide) rfl (by decide) (by decide) rfl rfl ?_
  refine bX4_multiplyMembers_108  (fun c => absurd c (by simp only [hd]; decide)) (fun _ => ?_)
  refine bX4_multiplyMembers_117 (j129 := 2) (j136 := 4) (j142 := 1) (v148 := nI 2) (v147 := (0 + J 6 6 * J 6 2 + J 6 7 * J 6 1 + J 6 8 * J 6 0) - (0 + J 6 8 * J 6 2) * J 5 1) (by simp only [hd]; rfl) (by decide) rfl (by decide) rfl (by decide) (by decide) rfl rfl ?_
  refine bX4_multiplyMembers_108  (fun c => absurd c (by simp only [hd]; decide)) (fun _ => ?_)
  refine bX4_multiplyMembers_117 (j129 := 3) (j136 := 4) (j142 := 2) (v148 := nI 3) (v147 := (0 + J 6 7 * J 6 2 + J 6 8 * J 6 1) - (0 + J 6 8 * J 6 2) * J 5 2) (by simp only [hd]; rfl) (by decide) rfl (by decide) rfl (by decide) (by decide) rfl rfl ?_
  refine bX4_multiplyMembers_108  (fun _ => ?_) (fun c => absurd c (by simp only [hd]; decide))
  refine bX4_multiplyMembers_154 (v154 := nI 3) rfl ?_
  refine bX4_multiplyMembers_97  (fun c => absurd c (by simp only [hd]; decide)) (fun _ => ?_)
  refine bX4_multiplyMembers_105 (v106 := nI 0) rfl ?_
  refine bX4_multiplyMembers_108  (fun c => absurd c (by simp only [hd]; decide)) (fun _ => ?_)
  refine bX4_multiplyMembers_117 (j129 := 0) (j136 := 3) (j142 := 0) (v148 := nI 1) (v147 := (0 + J 6 6 * J 6 0) - ((0 + J 6 7 * J 6 2 + J 6 8 * J 6 1) - (0 + J 6 8 * J 6 2) * J 5 2) * J 5 0) (by simp only [hd]; rfl) (by decide) rfl (by decide) rfl (by decide) (by decide) rfl rfl ?_
  refine bX4_multiplyMembers_108  (fun c => absurd c (by simp only [hd]; decide)) (fun _ => ?_)
  refine bX4_multiplyMembers_117 (j129 := 1) (j136 := 3) (j142 := 1) (v148 := nI 2) (v147 := ((0 + J 6 6 * J 6 1 + J 6 7 * J 6 0) - (0 + J 6 8 * J 6 2) * J 5 0) - ((0 + J 6 7 * J 6 2 + J 6 8 * J 6 1) - (0 + J 6 8 * J 6 2) * J 5 2) * J 5 1) (by simp only [hd]; rfl) (by decide) rfl (by decide) rfl (by decide) (by decide) rfl rfl ?_
  refine bX4_multiplyMembers_108  (fun c => absurd c (by simp only [hd]; decide)) (fun _ => ?_)
  refine bX4_multiplyMembers_117 (j129 := 2) (j136 := 3) (j142 := 2) (v148 := nI 3) (v147 := ((0 + J 6 6 * J 6 2 + J 6 7 * J 6 1 + J 6 8 * J 6 0) - (0 + J 6 8 * J 6 2) * J 5 1) - ((0 + J 6 7 * J 6 2 + J 6 8 * J 6 1) - (0 + J 6 8 * J 6 2) * J 5 2) * J 5 2) (by simp only [hd]; rfl) (by decide) rfl (by decide) rfl (by decide) (by decide) rfl rfl ?_
  refine bX4_multiplyMembers_108  (fun _ => ?_) (fun c => absurd c (by simp only [hd]; decide))
  refine bX4_multiplyMembers_154 (v154 := nI 2) rfl ?_
  refine bX4_multiplyMembers_97  (fun _ => ?_) (fun c => absurd c (by simp only [hd]; decide))
  exact bX4_multiplyMembers_160  ⟨rfl, rfl, rfl, rfl, rfl, fun q h => by simp only [sa_uJ_ne h]⟩
theorem c_mm3_21 (hd : I 4 0 = nI 3) : Con (EC l D aI aL ad) M_X4_multiplyMembers yX4_multiplyMembers [.ref (ad 4), .int (nI 2), .int (nI 1)] I J (fun r I1 J1 => r = none ∧ I1 = I ∧ J1 11 0 = wd3 (J 5) (ur (J 6) 2) (ur (J 6) 1) 0 ∧ J1 11 1 = wd3 (J 5) (ur (J 6) 2) (ur (J 6) 1) 1 ∧ J1 11 2 = wd3 (J 5) (ur (J 6) 2) (ur (J 6) 1) 2 ∧ ∀ q, q ≠ 11 → J1 q = J q) := by
  refine Con.of (by decide +kernel) rfl (Nat.le_of_ble_eq_true rfl) ?_
  refine bX4_multiplyMembers_0 (v1 := nI 0) rfl ?_
  refine bX4_multiplyMembers_2  (fun c => absurd c (by decide)) (fun _ => ?_)
  refine bX4_multiplyMembers_7 (j11 := 0) (v14 := nI 1) rfl (by decide) rfl rfl ?_
  refine bX4_multiplyMembers_2  (fun c => absurd c (by decide)) (fun _ => ?_)
  refine bX4_multiplyMembers_7 (j11 := 1) (v14 := nI 2) rfl (by decide) rfl rfl ?_
  refine bX4_multiplyMembers_2  (fun c => absurd c (by decide)) (fun _ => ?_)
  refine bX4_multiplyMembers_7 (j11 := 2) (v14 := nI 3) rfl (by decide) rfl rfl ?_
  refine bX4_multiplyMembers_2  (fun c => absurd c (by decide)) (fun _ => ?_)
  refine bX4_multiplyMembers_7 (j11 := 3) (v14 := nI 4) rfl (by decide) rfl rfl ?_
  refine bX4_multiplyMembers_2  (fun c => absurd c (by decide)) (fun _ => ?_)
  refine bX4_multiplyMembers_7 (j11 := 4) (v14 := nI 5) rfl (by decide) rfl rfl ?_
  refine bX4_multiplyMembers_2  (fun _ => ?_) (fun c => absurd c (by decide))
  refine bX4_multiplyMembers_20 (v21 := nI 0) rfl ?_
  refine bX4_multiplyMembers_22  (fun c => absurd c (by simp only [hd]; decide)) (fun _ => ?_)
  refine bX4_multiplyMembers_30 (v31 := nI 0) rfl ?_
  refine bX4_multiplyMembers_33  (fun c => absurd c (by simp only [hd]; decide)) (fun _ => ?_)
  refine bX4_multiplyMembers_42 (j49 := 0) (j60 := 6) (j71 := 3) (v76 := nI 1) (v75 := 0 + J 6 6 * J 6 3) rfl (by decide) rfl (by decide) rfl (by decide) (by decide) rfl rfl ?_
  refine bX4_multiplyMembers_33  (fun c => absurd c (by simp only [hd]; decide)) (fun _ => ?_)
  refine bX4_multiplyMembers_42 (j49 := 1) (j60 := 6) (j71 := 4) (v76 := nI 2) (v75 := 0 + J 6 6 * J 6 4) rfl (by decide) rfl (by decide) rfl (by decide) (by decide) rfl rfl ?_
  refine bX4_multiplyMembers_33  (fun c => absurd c (by simp only [hd]; decide)) (fun _ => ?_)
  refine bX4_multiplyMembers_42 (j49 := 2) (j60 := 6) (j71 := 5) (v76 := nI 3) (v75 := 0 + J 6 6 * J 6 5) rfl (by decide) rfl (by decide) rfl (by decide) (by decide) rfl rfl ?_
  refine bX4_multiplyMembers_33  (fun _ => ?_) (fun c => absurd c (by simp only [hd]; decide))
  refine bX4_multiplyMembers_82 (v82 := nI 1) rfl ?_
  refine bX4_multiplyMembers_22  (fun c => absurd c (by simp only [hd]; decide)) (fun _ => ?_)
  refine bX4_multiplyMembers_30 (v31 := nI 0) rfl ?_
  refine bX4_multiplyMembers_33  (fun c => absurd c (by simp only [hd]; decide)) (fun _ => ?_)
  refine bX4_multiplyMembers_42 (j49 := 1) (j60 := 7) (j71 := 3) (v76 := nI 1) (v75 := 0 + J 6 6 * J 6 4 + J 6 7 * J 6 3) rfl (by decide) rfl (by decide) rfl (by decide) (by decide) rfl rfl ?_
  refine bX4_multiplyMembers_33  (fun c => absurd c (by simp only [hd]; decide)) (fun _ => ?_)
  refine bX4_multiplyMembers_42 (j49 := 2) (j60 := 7) (j71 := 4) (v76 := nI 2) (v75 := 0 + J 6 6 * J 6 5 + J 6 7 * J 6 4) rfl (by decide) rfl (by decide) rfl (by decide) (by decide) rfl rfl ?_
  refine bX4_multiplyMembers_33  (fun c => absurd c (by simp only [hd]; decide)) (fun _ => ?_)
  refine bX4_multiplyMembers_42 (j49 := 3) (j60 := 7) (j71 := 5) (v76 := nI 3) (v75 := 0 + J 6 7 * J 6 5) rfl (by decide) rfl (by decide) rfl (by decide) (by decide) rfl rfl ?_
  refine bX4_multiplyMembers_33  (fun _ => ?_) (fun c => absurd c (by simp only [hd]; decide))
  refine bX4_multiplyMembers_82 (v82 := nI 2) rfl ?_
  refine bX4_multiplyMembers_22  (fun c => absurd c (by simp only [hd]; decide)) (fun _ => ?_)
  refine bX4_multiplyMembers_30 (v31 := nI 0) rfl ?_
  refine bX4_multiplyMembers_33  (fun c => absurd c (by simp only [hd]; decide)) (fun _ => ?_)
  refine bX4_multiplyMembers_42 (j49 := 2) (j60 := 8) (j71 := 3) (v76 := nI 1) (v75 := 0 + J 6 6 * J 6 5 + J 6 7 * J 6 4 + J 6 8 * J 6 3) rfl (by decide) rfl (by decide) rfl (by decide) (by decide) rfl rfl ?_
  refine bX4_multiplyMembers_33  (fun c => absurd c (by simp only [hd]; decide)) (fun _ => ?_)
  refine bX4_multiplyMembers_42 (j49 := 3) (j60 := 8) (j71 := 4) (v76 := nI 2) (v75 := 0 + J 6 7 * J 6 5 + J 6 8 * J 6 4) rfl (by decide) rfl (by decide) rfl (by decide) (by decide) rfl rfl ?_
  refine bX4_multiplyMembers_33  (fun c => absurd c (by simp only [hd]; decide)) (fun _ => ?_)
  refine bX4_multiplyMembers_42 (j49 := 4) (j60 := 8) (j71 := 5) (v76 := nI 3) (v75 := 0 + J 6 8 * J 6 5) rfl (by decide) rfl (by decide) rfl (by decide) (by decide) rfl rfl ?_
  refine bX4_multiplyMembers_33  (fun _ => ?_) (fun c => absurd c (by simp only [hd]; decide))
  refine bX4_multiplyMembers_82 (v82 := nI 3) rfl ?_
  refine bX4_multiplyMembers_22  (fun _ => ?_) (fun c => absurd c (by simp only [hd]; decide))
  refine bX4_multiplyMembers_88 (v96 := nI 4) (by simp only [hd]; rfl) ?_
  refine bX4_multiplyMembers_97  (fun c => absurd c (by simp only [hd]; decide)) (fun _ => ?_)
  refine bX4_multiplyMembers_105 (v106 := nI 0) rfl ?_
  refine bX4_multiplyMembers_108  (fun c => absurd c (by simp only [hd]; decide)) (fun _ => ?_)
  refine bX4_multiplyMembers_117 (j129 := 1) (j136 := 4) (j142 := 0) (v148 := nI 1) (v147 := (0 + J 6 6 * J 6 4 + J 6 7 * J 6 3) - (0 + J 6 8 * J 6 5) * J 5 0) (by simp only [hd]; rfl) (by decide) rfl (by decide) rfl (by decide) (by decide) rfl rfl ?_
  refine bX4_multiplyMembers_108  (fun c => absurd c (by simp only [hd]; decide)) (fun _ => ?_)
  refine bX4_multiplyMembers_117 (j129 := 2) (j136 := 4) (j142 := 1) (v148 := nI 2) (v147 := (0 + J 6 6 * J 6 5 + J 6 7 * J 6 4 + J 6 8 * J 6 3) - (0 + J 6 8 * J 6 5) * J 5 1) (by simp only [hd]; rfl) (by decide) rfl (by decide) rfl (by decide) (by decide) rfl rfl ?_
  refine bX4_multiplyMembers_108  (fun c => absurd c (by simp only [hd]; decide)) (fun _ => ?_)
  refine bX4_multiplyMembers_117 (j129 := 3) (j136 := 4) (j142 := 2) (v148 := nI 3) (v147 := (0 + J 6 7 * J 6 5 + J 6 8 * J 6 4) - (0 + J 6 8 * J 6 5) * J 5 2) (by simp only [hd]; rfl) (by decide) rfl (by decide) rfl (by decide) (by decide) rfl rfl ?_
  refine bX4_multiplyMembers_108  (fun _ => ?_) (fun c => absurd c (by simp only [hd]; decide))
  refine bX4_multiplyMembers_154 (v154 := nI 3) rfl ?_
  refine bX4_multiplyMembers_97  (fun c => absurd c (by simp only [hd]; decide)) (fun _ => ?_)
  refine bX4_multiplyMembers_105 (v106 := nI 0) rfl ?_
  refine bX4_multiplyMembers_108  (fun c => absurd c (by simp only [hd]; decide)) (fun _ => ?_)
  refine bX4_multiplyMembers_117 (j129 := 0) (j136 := 3) (j142 := 0) (v148 := nI 1) (v147 := (0 + J 6 6 * J 6 3) - ((0 + J 6 7 * J 6 5 + J 6 8 * J 6 4) - (0 + J 6 8 * J 6 5) * J 5 2) * J 5 0) (by simp only [hd]; rfl) (by decide) rfl (by decide) rfl (by decide) (by decide) rfl rfl ?_
  refine bX4_multiplyMembers_108  (fun c => absurd c (by simp only [hd]; decide)) (fun _ => ?_)
  refine bX4_multiplyMembers_117 (j129 := 1) (j136 := 3) (j142 := 1) (v148 := nI 2) (v147 := ((0 + J 6 6 * J 6 4 + J 6 7 * J 6 3) - (0 + J 6 8 * J 6 5) * J 5 0) - ((0 + J 6 7 * J 6 5 + J 6 8 * J 6 4) - (0 + J 6 8 * J 6 5) * J 5 2) * J 5 1) (by simp only [hd]; rfl) (by decide) rfl (by decide) rfl (by decide) (by decide) rfl rfl ?_
  refine bX4_multiplyMembers_108  (fun c => absurd c (by simp only [hd]; decide)) (fun _ => ?_)
  refine bX4_multiplyMembers_117 (j129 := 2) (j136 := 3) (j142 := 2) (v148 := nI 3) (v147 := ((0 + J 6 6 * J 6 5 + J 6 7 * J 6 4 + J 6 8 * J 6 3) - (0 + J 6 8 * J 6 5) * J 5 1) - ((0 + J 6 7 * J 6 5 + J 6 8 * J 6 4) - (0 + J 6 8 * J 6 5) * J 5 2) * J 5 2) (by simp only [hd]; rfl) (by decide) rfl (by decide) rfl (by decide) (by decide) rfl rfl ?_
  refine bX4_multiplyMembers_108  (fun _ => ?_) (fun c => absurd c (by simp only [hd]; decide))
  refine bX4_multiplyMembers_154 (v154 := nI 2) rfl ?_
  refine bX4_multiplyMembers_97  (fun _ => ?_) (fun c => absurd c (by simp only [hd]; decide))
  exact bX4_multiplyMembers_160  ⟨rfl, rfl, rfl, rfl, rfl, fun q h => by simp only [sa_uJ_ne h]⟩
theorem c_mm3_22 (hd : I 4 0 = nI 3) : Con (EC l D aI aL ad) M_X4_multiplyMembers yX4_multiplyMembers [.ref (ad 4), .int (nI 2), .int (nI 2)] I J (fun r I1 J1 => r = none ∧ I1 = I ∧ J1 11 0 = wd3 (J 5) (ur (J 6) 2) (ur (J 6) 2) 0 ∧ J1 11 1 = wd3 (J 5) (ur (J 6) 2) (ur (J 6) 2) 1 ∧ J1 11 2 = wd3 (J 5) (ur (J 6) 2) (ur (J 6) 2) 2 ∧ ∀ q, q ≠ 11 → J1 q = J q) := by
  refine Con.of (by decide +kernel) rfl (Nat.le_of_ble_eq_true rfl) ?_
  refine bX4_multiplyMembers_0 (v1 := nI 0) rfl ?_
  refine bX4_multiplyMembers_2  (fun c => absurd c (by decide)) (fun _ => ?_)
  refine bX4_multiplyMembers_7 (j11 := 0) (v14 := nI 1) rfl (by decide) rfl rfl ?_
  refine bX4_multiplyMembers_2  (fun c => absurd c (by decide)) (fun _ => ?_)
  refine bX4_multiplyMembers_7 (j11 := 1) (v14 := nI 2) rfl (by decide) rfl rfl ?_
  refine bX4_multiplyMembers_2  (fun c => absurd c (by decide)) (fun _ => ?_)
  refine bX4_multiplyMembers_7 (j11 := 2) (v14 := nI 3) rfl (by decide) rfl rfl ?_
  refine bX4_multiplyMembers_2  (fun c => absurd c (by decide)) (fun _ => ?_)
  refine bX4_multiplyMembers_7 (j11 := 3) (v14 := nI 4) rfl (by decide) rfl rfl ?_
  refine bX4_multiplyMembers_2  (fun c => absurd c (by decide)) (fun _ => ?_)
  refine bX4_multiplyMembers_7 (j11 := 4) (v14 := nI 5) rfl (by decide) rfl rfl ?_
  refine bX4_multiplyMembers_2  (fun _ => ?_) (fun c => absurd c (by decide))
  refine bX4_multiplyMembers_20 (v21 := nI 0) rfl ?_
  refine bX4_multiplyMembers_22  (fun c => absurd c (by simp only [hd]; decide)) (fun _ => ?_)
  refine bX4_multiplyMembers_30 (v31 := nI 0) rfl ?_
  refine bX4_multiplyMembers_33  (fun c => absurd c (by simp only [hd]; decide)) (fun _ => ?_)
  refine bX4_multiplyMembers_42 (j49 := 0) (j60 := 6) (j71 := 6) (v76 := nI 1) (v75 := 0 + J 6 6 * J 6 6) rfl (by decide) rfl (by decide) rfl (by decide) (by decide) rfl rfl ?_
  refine bX4_multiplyMembers_33  (fun c => absurd c (by simp only [hd]; decide)) (fun _ => ?_)
  refine bX4_multiplyMembers_42 (j49 := 1) (j60 := 6) (j71 := 7) (v76 := nI 2) (v75 := 0 + J 6 6 * J 6 7) rfl (by decide) rfl (by decide) rfl (by decide) (by decide) rfl rfl ?_
  refine bX4_multiplyMembers_33  (fun c => absurd c (by simp only [hd]; decide)) (fun _ => ?_)
  refine bX4_multiplyMembers_42 (j49 := 2) (j60 := 6) (j71 := 8) (v76 := nI 3) (v75 := 0 + J 6 6 * J 6 8) rfl (by decide) rfl (by decide) rfl (by decide) (by decide) rfl rfl ?_
  refine bX4_multiplyMembers_33  (fun _ => ?_) (fun c => absurd c (by simp only [hd]; decide))
  refine bX4_multiplyMembers_82 (v82 := nI 1) rfl ?_
  refine bX4_multiplyMembers_22  (fun c => absurd c (by simp only [hd]; decide)) (fun _ => ?_)
  refine bX4_multiplyMembers_30 (v31 := nI 0) rfl ?_
  refine bX4_multiplyMembers_33  (fun c => absurd c (by simp only [hd]; decide)) (fun _ => ?_)
  refine bX4_multiplyMembers_42 (j49 := 1) (j60 := 7) (j71 := 6) (v76 := nI 1) (v75 := 0 + J 6 6 * J 6 7 + J 6 7 * J 6 6) rfl (by decide) rfl (by decide) rfl (by decide) (by decide) rfl rfl ?_
  refine bX4_multiplyMembers_33  (fun c => absurd c (by simp only [hd]; decide)) (fun _ => ?_)
  refine bX4_multiplyMembers_42 (j49 := 2) (j60 := 7) (j71 := 7) (v76 := nI 2) (v75 := 0 + J 6 6 * J 6 8 + J 6 7 * J 6 7) rfl (by decide) rfl (by decide) rfl (by decide) (by decide) rfl rfl ?_
  refine bX4_multiplyMembers_33  (fun c => absurd c (by simp only [hd]; decide)) (fun _ => ?_)
  refine bX4_multiplyMembers_42 (j49 := 3) (j60 := 7) (j71 := 8) (v76 := nI 3) (v75 := 0 + J 6 7 * J 6 8) rfl (by decide) rfl (by decide) rfl (by decide) (by decide) rfl rfl ?_
  refine bX4_multiplyMembers_33  (fun _ => ?_) (fun c => absurd c (by simp only [hd]; decide))
  refine bX4_multiplyMembers_82 (v82 := nI 2) rfl ?_
  refine bX4_multiplyMembers_22  (fun c => absurd c (by simp only [hd]; decide)) (fun _ => ?_)
  refine bX4_multiplyMembers_30 (v31 := nI 0) rfl ?_
  refine bX4_multiplyMembers_33  (fun c => absurd c (by simp only [hd]; decide)) (fun _ => ?_)
  refine bX4_multiplyMembers_42 (j49 := 2) (j60 := 8) (j71 := 6) (v76 := nI 1) (v75 := 0 + J 6 6 * J 6 8 + J 6 7 * J 6 7 + J 6 8 * J 6 6) rfl (by decide) rfl (by decide) rfl (by decide) (by decide) rfl rfl ?_
  refine bX4_multiplyMembers_33  (fun c => absurd c (by simp only [hd]; decide)) (fun _ => ?_)
  refine bX4_multiplyMembers_42 (j49 := 3) (j60 := 8) (j71 := 7) (v76 := nI 2) (v75 := 0 + J 6 7 * J 6 8 + J 6 8 * J 6 7) rfl (by decide) rfl (by decide) rfl (by decide) (by decide) rfl rfl ?_
  refine bX4_multiplyMembers_33  (fun c => absurd c (by simp only [hd]; decide)) (fun _ => ?_)
  refine bX4_multiplyMembers_42 (j49 := 4) (j60 := 8) (j71 := 8) (v76 := nI 3) (v75 := 0 + J 6 8 * J 6 8) rfl (by decide) rfl (by decide) rfl (by decide) (by decide) rfl rfl ?_
  refine bX4_multiplyMembers_33  (fun _ => ?_) (fun c => absurd c (by simp only [hd]; decide))
  refine bX4_multiplyMembers_82 (v82 := nI 3) rfl ?_
  refine bX4_multiplyMembers_22  (fun _ => ?_) (fun c => absurd c (by simp only [hd]; decide))
  refine bX4_multiplyMembers_88 (v96 := nI 4) (by simp only [hd]; rfl) ?_
  refine bX4_multiplyMembers_97  (fun c => absurd c (by simp only [hd]; decide)) (fun _ => ?_)
  refine bX4_multiplyMembers_105 (v106 := nI 0) rfl ?_
  refine bX4_multiplyMembers_108  (fun c => absurd c (by simp only [hd]; decide)) (fun _ => ?_)
  refine bX4_multiplyMembers_117 (j129 := 1) (j136 := 4) (j142 := 0) (v148 := nI 1) (v147 := (0 + J 6 6 * J 6 7 + J 6 7 * J 6 6) - (0 + J 6 8 * J 6 8) * J 5 0) (by simp only [hd]; rfl) (by decide) rfl (by decide) rfl (by decide) (by decide) rfl rfl ?_
  refine bX4_multiplyMembers_108  (fun c => absurd c (by simp only [hd]; decide)) (fun _ => ?_)
  refine bX4_multiplyMembers_117 (j129 := 2) (j136 := 4) (j142 := 1) (v148 := nI 2) (v147 := (0 + J 6 6 * J 6 8 + J 6 7 * J 6 7 + J 6 8 * J 6 6) - (0 + J 6 8 * J 6 8) * J 5 1) (by simp only [hd]; rfl) (by decide) rfl (by decide) rfl (by decide) (by decide) rfl rfl ?_
  refine bX4_multiplyMembers_108  (fun c => absurd c (by simp only [hd]; decide)) (fun _ => ?_)
  refine bX4_multiplyMembers_117 (j129 := 3) (j136 := 4) (j142 := 2) (v148 := nI 3) (v147 := (0 + J 6 7 * J 6 8 + J 6 8 * J 6 7) - (0 + J 6 8 * J 6 8) * J 5 2) (by simp only [hd]; rfl) (by decide) rfl (by decide) rfl (by decide) (by decide) rfl rfl ?_
  refine bX4_multiplyMembers_108  (fun _ => ?_) (fun c => absurd c (by simp only [hd]; decide))
  refine bX4_multiplyMembers_154 (v154 := nI 3) rfl ?_
  refine bX4_multiplyMembers_97  (fun c => absurd c (by simp only [hd]; decide)) (fun _ => ?_)
  refine bX4_multiplyMembers_105 (v106 := nI 0) rfl ?_
  refine bX4_multiplyMembers_108  (fun c => absurd c (by simp only [hd]; decide)) (fun _ => ?_)
  refine bX4_multiplyMembers_117 (j129 := 0) (j136 := 3) (j142 := 0) (v148 := nI 1) (v147 := (0 + J 6 6 * J 6 6) - ((0 + J 6 7 * J 6 8 + J 6 8 * J 6 7) - (0 + J 6 8 * J 6 8) * J 5 2) * J 5 0) (by simp only [hd]; rfl) (by decide) rfl (by decide) rfl (by decide) (by decide) rfl rfl ?_
  refine bX4_multiplyMembers_108  (fun c => absurd c (by simp only [hd]; decide)) (fun _ => ?_)
  refine bX4_multiplyMembers_117 (j129 := 1) (j136 := 3) (j142 := 1) (v148 := nI 2) (v147 := ((0 + J 6 6 * J 6 7 + J 6 7 * J 6 6) - (0 + J 6 8 * J 6 8) * J 5 0) - ((0 + J 6 7 * J 6 8 + J 6 8 * J 6 7) - (0 + J 6 8 * J 6 8) * J 5 2) * J 5 1) (by simp only [hd]; rfl) (by decide) rfl (by decide) rfl (by decide) (by decide) rfl rfl ?_
  refine bX4_multiplyMembers_108  (fun c => absurd c (by simp only [hd]; decide)) (fun _ => ?_)
  refine bX4_multiplyMembers_117 (j129 := 2) (j136 := 3) (j142 := 2) (v148 := nI 3) (v147 := ((0 + J 6 6 * J 6 8 + J 6 7 * J 6 7 + J 6 8 * J 6 6) - (0 + J 6 8 * J 6 8) * J 5 1) - ((0 + J 6 7 * J 6 8 + J 6 8 * J 6 7) - (0 + J 6 8 * J 6 8) * J 5 2) * J 5 2) (by simp only [hd]; rfl) (by decide) rfl (by decide) rfl (by decide) (by decide) rfl rfl ?_
  refine bX4_multiplyMembers_108  (fun _ => ?_) (fun c => absurd c (by simp only [hd]; decide))
  refine bX4_multiplyMembers_154 (v154 := nI 2) rfl ?_
  refine bX4_multiplyMembers_97  (fun _ => ?_) (fun c => absurd c (by simp only [hd]; decide))
  exact bX4_multiplyMembers_160  ⟨rfl, rfl, rfl, rfl, rfl, fun q h => by simp only [sa_uJ_ne h]⟩
theorem c_tb3_00 {be : Int64} (hd : I 4 0 = nI 3) : Con (EC l D aI aL ad) M_X4_tellByBasis yX4_tellByBasis [.ref (ad 4), .long be, .int (nI 0)] I J (fun r I1 J1 => r = none ∧ I1 = I ∧ J1 8 = vp_updL (vp_updL (vp_updL (J 8) 2 (tl3 (J 6) (J 11) (J 7 0) (J 7 1) (J 7 2) (J 4 3) be).2.2) 1 (tl3 (J 6) (J 11) (J 7 0) (J 7 1) (J 7 2) (J 4 3) be).2.1) 0 (tl3 (J 6) (J 11) (J 7 0) (J 7 1) (J 7 2) (J 4 3) be).1 ∧ ∀ q, q ≠ 8 → q ≠ 11 → J1 q = J q) := by
  refine Con.of (by decide +kernel) rfl (Nat.le_of_ble_eq_true rfl) ?_
  refine bX4_tellByBasis_0 (v1 := nI 0) rfl ?_
  refine bX4_tellByBasis_3  (fun c => absurd c (by simp only [hd]; decide)) (fun _ => ?_)
  refine bX4_tellByBasis_12 (j16 := 0) (v26 := nI 1) (v25 := J 11 0 * J 4 3) rfl (by decide) (by decide) rfl rfl ?_
  refine bX4_tellByBasis_3  (fun c => absurd c (by simp only [hd]; decide)) (fun _ => ?_)
  refine bX4_tellByBasis_12 (j16 := 1) (v26 := nI 2) (v25 := J 11 1 * J 4 3) rfl (by decide) (by decide) rfl rfl ?_
  refine bX4_tellByBasis_3  (fun c => absurd c (by simp only [hd]; decide)) (fun _ => ?_)
  refine bX4_tellByBasis_12 (j16 := 2) (v26 := nI 3) (v25 := J 11 2 * J 4 3) rfl (by decide) (by decide) rfl rfl ?_
  refine bX4_tellByBasis_3  (fun _ => ?_) (fun c => absurd c (by simp only [hd]; decide))
  refine bX4_tellByBasis_32 (v46 := nI 2) (v38 := be * J 4 3) rfl (by simp only [hd]; rfl) ?_
  refine bX4_tellByBasis_48  (fun c => absurd c (by decide)) (fun _ => ?_)
  refine bX4_tellByBasis_53 (j57 := 2) (j64 := 2) rfl (by decide) rfl (by decide) ?_
  refine v_X4_88 dX4_tellByBasis_70 rfl ⟨rfl, rfl, Nat.le_of_ble_eq_true rfl, Nat.le_of_ble_eq_true rfl⟩ (c_partE (A := (J 11 2 * J 4 3) * J 7 2) (B := be * J 4 3) rfl rfl) rfl rfl (Nat.le_of_ble_eq_true rfl) (fun r I1 J1 hp => ?_)
  obtain ⟨rfl, e2, e3⟩ := hp
  obtain rfl := e2.symm
  obtain rfl := e3.symm
  refine bX4_tellByBasis_73 (j82 := 2) (v87 := nI 0) rfl (by decide) rfl ?_
  refine bX4_tellByBasis_89  (fun c => absurd c (by decide)) (fun _ => ?_)
  refine bX4_tellByBasis_96 (j100 := 0) (j116 := 6) (j125 := 2) rfl (by decide) rfl (by decide) rfl (by decide) ?_
  refine v_X4_88 dX4_tellByBasis_128 rfl ⟨rfl, rfl, Nat.le_of_ble_eq_true rfl, Nat.le_of_ble_eq_true rfl⟩ (c_partE (A := be * J 4 3) (B := J 7 2) rfl rfl) rfl rfl (Nat.le_of_ble_eq_true rfl) (fun r I1 J1 hp => ?_)
  obtain ⟨rfl, e2, e3⟩ := hp
  obtain rfl := e2.symm
  obtain rfl := e3.symm
  refine bX4_tellByBasis_131 (s1 := 0) (v134 := nI 1) (v133 := J 11 0 * J 4 3 - pt ((J 11 2 * J 4 3) * J 7 2) (be * J 4 3) * J 6 6 * pt (be * J 4 3) (J 7 2)) (by decide) rfl rfl ?_
  refine bX4_tellByBasis_89  (fun c => absurd c (by decide)) (fun _ => ?_)
  refine bX4_tellByBasis_96 (j100 := 1) (j116 := 7) (j125 := 2) rfl (by decide) rfl (by decide) rfl (by decide) ?_
  refine v_X4_88 dX4_tellByBasis_128 rfl ⟨rfl, rfl, Nat.le_of_ble_eq_true rfl, Nat.le_of_ble_eq_true rfl⟩ (c_partE (A := be * J 4 3) (B := J 7 2) rfl rfl) rfl rfl (Nat.le_of_ble_eq_true rfl) (fun r I1 J1 hp => ?_)
  obtain ⟨rfl, e2, e3⟩ := hp
  obtain rfl := e2.symm
  obtain rfl := e3.symm
  refine bX4_tellByBasis_131 (s1 := 1) (v134 := nI 2) (v133 := J 11 1 * J 4 3 - pt ((J 11 2 * J 4 3) * J 7 2) (be * J 4 3) * J 6 7 * pt (be * J 4 3) (J 7 2)) (by decide) rfl rfl ?_
  refine bX4_tellByBasis_89  (fun c => absurd c (by decide)) (fun _ => ?_)
  refine bX4_tellByBasis_96 (j100 := 2) (j116 := 8) (j125 := 2) rfl (by decide) rfl (by decide) rfl (by decide) ?_
  refine v_X4_88 dX4_tellByBasis_128 rfl ⟨rfl, rfl, Nat.le_of_ble_eq_true rfl, Nat.le_of_ble_eq_true rfl⟩ (c_partE (A := be * J 4 3) (B := J 7 2) rfl rfl) rfl rfl (Nat.le_of_ble_eq_true rfl) (fun r I1 J1 hp => ?_)
  obtain ⟨rfl, e2, e3⟩ := hp
  obtain rfl := e2.symm
  obtain rfl := e3.symm
  refine bX4_tellByBasis_131 (s1 := 2) (v134 := nI 3) (v133 := J 11 2 * J 4 3 - pt ((J 11 2 * J 4 3) * J 7 2) (be * J 4 3) * J 6 8 * pt (be * J 4 3) (J 7 2)) (by decide) rfl rfl ?_
  refine bX4_tellByBasis_89  (fun _ => ?_) (fun c => absurd c (by decide))
  refine bX4_tellByBasis_140 (v140 := nI 1) rfl ?_
  refine bX4_tellByBasis_48  (fun c => absurd c (by decide)) (fun _ => ?_)
  refine bX4_tellByBasis_53 (j57 := 1) (j64 := 1) rfl (by decide) rfl (by decide) ?_
  refine v_X4_88 dX4_tellByBasis_70 rfl ⟨rfl, rfl, Nat.le_of_ble_eq_true rfl, Nat.le_of_ble_eq_true rfl⟩ (c_partE (A := (J 11 1 * J 4 3 - pt ((J 11 2 * J 4 3) * J 7 2) (be * J 4 3) * J 6 7 * pt (be * J 4 3) (J 7 2)) * J 7 1) (B := be * J 4 3) rfl rfl) rfl rfl (Nat.le_of_ble_eq_true rfl) (fun r I1 J1 hp => ?_)
  obtain ⟨rfl, e2, e3⟩ := hp
  obtain rfl := e2.symm
  obtain rfl := e3.symm
  refine bX4_tellByBasis_73 (j82 := 1) (v87 := nI 0) rfl (by decide) rfl ?_
  refine bX4_tellByBasis_89  (fun c => absurd c (by decide)) (fun _ => ?_)
  refine bX4_tellByBasis_96 (j100 := 0) (j116 := 3) (j125 := 1) rfl (by decide) rfl (by decide) rfl (by decide) ?_
  refine v_X4_88 dX4_tellByBasis_128 rfl ⟨rfl, rfl, Nat.le_of_ble_eq_true rfl, Nat.le_of_ble_eq_true rfl⟩ (c_partE (A := be * J 4 3) (B := J 7 1) rfl rfl) rfl rfl (Nat.le_of_ble_eq_true rfl) (fun r I1 J1 hp => ?_)
  obtain ⟨rfl, e2, e3⟩ := hp
  obtain rfl := e2.symm
  obtain rfl := e3.symm
  refine bX4_tellByBasis_131 (s1 := 0) (v134 := nI 1) (v133 := J 11 0 * J 4 3 - pt ((J 11 2 * J 4 3) * J 7 2) (be * J 4 3) * J 6 6 * pt (be * J 4 3) (J 7 2) - pt ((J 11 1 * J 4 3 - pt ((J 11 2 * J 4 3) * J 7 2) (be * J 4 3) * J 6 7 * pt (be * J 4 3) (J 7 2)) * J 7 1) (be * J 4 3) * J 6 3 * pt (be * J 4 3) (J 7 1)) (by decide) rfl rfl ?_
  refine bX4_tellByBasis_89  (fun c => absurd c (by decide)) (fun _ => ?_)
  refine bX4_tellByBasis_96 (j100 := 1) (j116 := 4) (j125 := 1) rfl (by decide) rfl (by decide) rfl (by decide) ?_
  refine v_X4_88 dX4_tellByBasis_128 rfl ⟨rfl, rfl, Nat.le_of_ble_eq_true rfl, Nat.le_of_ble_eq_true rfl⟩ (c_partE (A := be * J 4 3) (B := J 7 1) rfl rfl) rfl rfl (Nat.le_of_ble_eq_true rfl) (fun r I1 J1 hp => ?_)
  obtain ⟨rfl, e2, e3⟩ := hp
  obtain rfl := e2.symm
  obtain rfl := e3.symm
  refine bX4_tellByBasis_131 (s1 := 1) (v134 := nI 2) (v133 := J 11 1 * J 4 3 - pt ((J 11 2 * J 4 3) * J 7 2) (be * J 4 3) * J 6 7 * pt (be * J 4 3) (J 7 2) - pt ((J 11 1 * J 4 3 - pt ((J 11 2 * J 4 3) * J 7 2) (be * J 4 3) * J 6 7 * pt (be * J 4 3) (J 7 2)) * J 7 1) (be * J 4 3) * J 6 4 * pt (be * J 4 3) (J 7 1)) (by decide) rfl rfl ?_
  refine bX4_tellByBasis_89  (fun _ => ?_) (fun c => absurd c (by decide))
  refine bX4_tellByBasis_140 (v140 := nI 0) rfl ?_
  refine bX4_tellByBasis_48  (fun c => absurd c (by decide)) (fun _ => ?_)
  refine bX4_tellByBasis_53 (j57 := 0) (j64 := 0) rfl (by decide) rfl (by decide) ?_
  refine v_X4_88 dX4_tellByBasis_70 rfl ⟨rfl, rfl, Nat.le_of_ble_eq_true rfl, Nat.le_of_ble_eq_true rfl⟩ (c_partE (A := (J 11 0 * J 4 3 - pt ((J 11 2 * J 4 3) * J 7 2) (be * J 4 3) * J 6 6 * pt (be * J 4 3) (J 7 2) - pt ((J 11 1 * J 4 3 - pt ((J 11 2 * J 4 3) * J 7 2) (be * J 4 3) * J 6 7 * pt (be * J 4 3) (J 7 2)) * J 7 1) (be * J 4 3) * J 6 3 * pt (be * J 4 3) (J 7 1)) * J 7 0) (B := be * J 4 3) rfl rfl) rfl rfl (Nat.le_of_ble_eq_true rfl) (fun r I1 J1 hp => ?_)
  obtain ⟨rfl, e2, e3⟩ := hp
  obtain rfl := e2.symm
  obtain rfl := e3.symm
  refine bX4_tellByBasis_73 (j82 := 0) (v87 := nI 0) rfl (by decide) rfl ?_
  refine bX4_tellByBasis_89  (fun c => absurd c (by decide)) (fun _ => ?_)
  refine bX4_tellByBasis_96 (j100 := 0) (j116 := 0) (j125 := 0) rfl (by decide) rfl (by decide) rfl (by decide) ?_
  refine v_X4_88 dX4_tellByBasis_128 rfl ⟨rfl, rfl, Nat.le_of_ble_eq_true rfl, Nat.le_of_ble_eq_true rfl⟩ (c_partE (A := be * J 4 3) (B := J 7 0) rfl rfl) rfl rfl (Nat.le_of_ble_eq_true rfl) (fun r I1 J1 hp => ?_)
  obtain ⟨rfl, e2, e3⟩ := hp
  obtain rfl := e2.symm
  obtain rfl := e3.symm
  refine bX4_tellByBasis_131 (s1 := 0) (v134 := nI 1) (v133 := J 11 0 * J 4 3 - pt ((J 11 2 * J 4 3) * J 7 2) (be * J 4 3) * J 6 6 * pt (be * J 4 3) (J 7 2) - pt ((J 11 1 * J 4 3 - pt ((J 11 2 * J 4 3) * J 7 2) (be * J 4 3) * J 6 7 * pt (be * J 4 3) (J 7 2)) * J 7 1) (be * J 4 3) * J 6 3 * pt (be * J 4 3) (J 7 1) - pt ((J 11 0 * J 4 3 - pt ((J 11 2 * J 4 3) * J 7 2) (be * J 4 3) * J 6 6 * pt (be * J 4 3) (J 7 2) - pt ((J 11 1 * J 4 3 - pt ((J 11 2 * J 4 3) * J 7 2) (be * J 4 3) * J 6 7 * pt (be * J 4 3) (J 7 2)) * J 7 1) (be * J 4 3) * J 6 3 * pt (be * J 4 3) (J 7 1)) * J 7 0) (be * J 4 3) * J 6 0 * pt (be * J 4 3) (J 7 0)) (by decide) rfl rfl ?_
  refine bX4_tellByBasis_89  (fun _ => ?_) (fun c => absurd c (by decide))
  refine bX4_tellByBasis_140 (v140 := (-1)) rfl ?_
  refine bX4_tellByBasis_48  (fun _ => ?_) (fun c => absurd c (by decide))
  exact bX4_tellByBasis_146  ⟨rfl, rfl, rfl, fun q h1 h2 => by simp only [sa_uJ_ne h1, sa_uJ_ne h2]⟩
theorem c_tb3_01 {be : Int64} (hd : I 4 0 = nI 3) : Con (EC l D aI aL ad) M_X4_tellByBasis yX4_tellByBasis [.ref (ad 4), .long be, .int (nI 3)] I J (fun r I1 J1 => r = none ∧ I1 = I ∧ J1 8 = vp_updL (vp_updL (vp_updL (J 8) 5 (tl3 (J 6) (J 11) (J 7 0) (J 7 1) (J 7 2) (J 4 3) be).2.2) 4 (tl3 (J 6) (J 11) (J 7 0) (J 7 1) (J 7 2) (J 4 3) be).2.1) 3 (tl3 (J 6) (J 11) (J 7 0) (J 7 1) (J 7 2) (J 4 3) be).1 ∧ ∀ q, q ≠ 8 → q ≠ 11 → J1 q = J q) := by
  refine Con.of (by decide +kernel) rfl (Nat.le_of_ble_eq_true rfl) ?_
  refine bX4_tellByBasis_0 (v1 := nI 0) rfl ?_
  refine bX4_tellByBasis_3  (fun c => absurd c (by simp only [hd]; decide)) (fun _ => ?_)
  refine bX4_tellByBasis_12 (j16 := 0) (v26 := nI 1) (v25 := J 11 0 * J 4 3) rfl (by decide) (by decide) rfl rfl ?_
  refine bX4_tellByBasis_3  (fun c => absurd c (by simp only [hd]; decide)) (fun _ => ?_)
  refine bX4_tellByBasis_12 (j16 := 1) (v26 := nI 2) (v25 := J 11 1 * J 4 3) rfl (by decide) (by decide) rfl rfl ?_
  refine bX4_tellByBasis_3  (fun c => absurd c (by simp only [hd]; decide)) (fun _ => ?_)
  refine bX4_tellByBasis_12 (j16 := 2) (v26 := nI 3) (v25 := J 11 2 * J 4 3) rfl (by decide) (by decide) rfl rfl ?_
  refine bX4_tellByBasis_3  (fun _ => ?_) (fun c => absurd c (by simp only [hd]; decide))
  refine bX4_tellByBasis_32 (v46 := nI 2) (v38 := be * J 4 3) rfl (by simp only [hd]; rfl) ?_
  refine bX4_tellByBasis_48  (fun c => absurd c (by decide)) (fun _ => ?_)
  refine bX4_tellByBasis_53 (j57 := 2) (j64 := 2) rfl (by decide) rfl (by decide) ?_
  refine v_X4_88 dX4_tellByBasis_70 rfl ⟨rfl, rfl, Nat.le_of_ble_eq_true rfl, Nat.le_of_ble_eq_true rfl⟩ (c_partE (A := (J 11 2 * J 4 3) * J 7 2) (B := be * J 4 3) rfl rfl) rfl rfl (Nat.le_of_ble_eq_true rfl) (fun r I1 J1 hp => ?_)
  obtain ⟨rfl, e2, e3⟩ := hp
  obtain rfl := e2.symm
  obtain rfl := e3.symm
  refine bX4_tellByBasis_73 (j82 := 5) (v87 := nI 0) rfl (by decide) rfl ?_
  refine bX4_tellByBasis_89  (fun c => absurd c (by decide)) (fun _ => ?_)
  refine bX4_tellByBasis_96 (j100 := 0) (j116 := 6) (j125 := 2) rfl (by decide) rfl (by decide) rfl (by decide) ?_
  refine v_X4_88 dX4_tellByBasis_128 rfl ⟨rfl, rfl, Nat.le_of_ble_eq_true rfl, Nat.le_of_ble_eq_true rfl⟩ (c_partE (A := be * J 4 3) (B := J 7 2) rfl rfl) rfl rfl (Nat.le_of_ble_eq_true rfl) (fun r I1 J1 hp => ?_)
  obtain ⟨rfl, e2, e3⟩ := hp
  obtain rfl := e2.symm
  obtain rfl := e3.symm
  refine bX4_tellByBasis_131 (s1 := 0) (v134 := nI 1) (v133 := J 11 0 * J 4 3 - pt ((J 11 2 * J 4 3) * J 7 2) (be * J 4 3) * J 6 6 * pt (be * J 4 3) (J 7 2)) (by decide) rfl rfl ?_
  refine bX4_tellByBasis_89  (fun c => absurd c (by decide)) (fun _ => ?_)
  refine bX4_tellByBasis_96 (j100 := 1) (j116 := 7) (j125 := 2) rfl (by decide) rfl (by decide) rfl (by decide) ?_
  refine v_X4_88 dX4_tellByBasis_128 rfl ⟨rfl, rfl, Nat.le_of_ble_eq_true rfl, Nat.le_of_ble_eq_true rfl⟩ (c_partE (A := be * J 4 3) (B := J 7 2) rfl rfl) rfl rfl (Nat.le_of_ble_eq_true rfl) (fun r I1 J1 hp => ?_)
  obtain ⟨rfl, e2, e3⟩ := hp
  obtain rfl := e2.symm
  obtain rfl := e3.symm
  refine bX4_tellByBasis_131 (s1 := 1) (v134 := nI 2) (v133 := J 11 1 * J 4 3 - pt ((J 11 2 * J 4 3) * J 7 2) (be * J 4 3) * J 6 7 * pt (be * J 4 3) (J 7 2)) (by decide) rfl rfl ?_
  refine bX4_tellByBasis_89  (fun c => absurd c (by decide)) (fun _ => ?_)
  refine bX4_tellByBasis_96 (j100 := 2) (j116 := 8) (j125 := 2) rfl (by decide) rfl (by decide) rfl (by decide) ?_
  refine v_X4_88 dX4_tellByBasis_128 rfl ⟨rfl, rfl, Nat.le_of_ble_eq_true rfl, Nat.le_of_ble_eq_true rfl⟩ (c_partE (A := be * J 4 3) (B := J 7 2) rfl rfl) rfl rfl (Nat.le_of_ble_eq_true rfl) (fun r I1 J1 hp => ?_)
  obtain ⟨rfl, e2, e3⟩ := hp
  obtain rfl := e2.symm
  obtain rfl := e3.symm
  refine bX4_tellByBasis_131 (s1 := 2) (v134 := nI 3) (v133 := J 11 2 * J 4 3 - pt ((J 11 2 * J 4 3) * J 7 2) (be * J 4 3) * J 6 8 * pt (be * J 4 3) (J 7 2)) (by decide) rfl rfl ?_
  refine bX4_tellByBasis_89  (fun _ => ?_) (fun c => absurd c (by decide))
  refine bX4_tellByBasis_140 (v140 := nI 1) rfl ?_
  refine bX4_tellByBasis_48  (fun c => absurd c (by decide)) (fun _ => ?_)
  refine bX4_tellByBasis_53 (j57 := 1) (j64 := 1) rfl (by decide) rfl (by decide) ?_
  refine v_X4_88 dX4_tellByBasis_70 rfl ⟨rfl, rfl, Nat.le_of_ble_eq_true rfl, Nat.le_of_ble_eq_true rfl⟩ (c_partE (A := (J 11 1 * J 4 3 - pt ((J 11 2 * J 4 3) * J 7 2) (be * J 4 3) * J 6 7 * pt (be * J 4 3) (J 7 2)) * J 7 1) (B := be * J 4 3) rfl rfl) rfl rfl (Nat.le_of_ble_eq_true rfl) (fun r I1 J1 hp => ?_)
  obtain ⟨rfl, e2, e3⟩ := hp
  obtain rfl := e2.symm
  obtain rfl := e3.symm
  refine bX4_tellByBasis_73 (j82 := 4) (v87 := nI 0) rfl (by decide) rfl ?_
  refine bX4_tellByBasis_89  (fun c => absurd c (by decide)) (fun _ => ?_)
  refine bX4_tellByBasis_96 (j100 := 0) (j116 := 3) (j125 := 1) rfl (by decide) rfl (by decide) rfl (by decide) ?_
  refine v_X4_88 dX4_tellByBasis_128 rfl ⟨rfl, rfl, Nat.le_of_ble_eq_true rfl, Nat.le_of_ble_eq_true rfl⟩ (c_partE (A := be * J 4 3) (B := J 7 1) rfl rfl) rfl rfl (Nat.le_of_ble_eq_true rfl) (fun r I1 J1 hp => ?_)
  obtain ⟨rfl, e2, e3⟩ := hp
  obtain rfl := e2.symm
  obtain rfl := e3.symm
  refine bX4_tellByBasis_131 (s1 := 0) (v134 := nI 1) (v133 := J 11 0 * J 4 3 - pt ((J 11 2 * J 4 3) * J 7 2) (be * J 4 3) * J 6 6 * pt (be * J 4 3) (J 7 2) - pt ((J 11 1 * J 4 3 - pt ((J 11 2 * J 4 3) * J 7 2) (be * J 4 3) * J 6 7 * pt (be * J 4 3) (J 7 2)) * J 7 1) (be * J 4 3) * J 6 3 * pt (be * J 4 3) (J 7 1)) (by decide) rfl rfl ?_
  refine bX4_tellByBasis_89  (fun c => absurd c (by decide)) (fun _ => ?_)
  refine bX4_tellByBasis_96 (j100 := 1) (j116 := 4) (j125 := 1) rfl (by decide) rfl (by decide) rfl (by decide) ?_
  refine v_X4_88 dX4_tellByBasis_128 rfl ⟨rfl, rfl, Nat.le_of_ble_eq_true rfl, Nat.le_of_ble_eq_true rfl⟩ (c_partE (A := be * J 4 3) (B := J 7 1) rfl rfl) rfl rfl (Nat.le_of_ble_eq_true rfl) (fun r I1 J1 hp => ?_)
  obtain ⟨rfl, e2, e3⟩ := hp
  obtain rfl := e2.symm
  obtain rfl := e3.symm
  refine bX4_tellByBasis_131 (s1 := 1) (v134 := nI 2) (v133 := J 11 1 * J 4 3 - pt ((J 11 2 * J 4 3) * J 7 2) (be * J 4 3) * J 6 7 * pt (be * J 4 3) (J 7 2) - pt ((J 11 1 * J 4 3 - pt ((J 11 2 * J 4 3) * J 7 2) (be * J 4 3) * J 6 7 * pt (be * J 4 3) (J 7 2)) * J 7 1) (be * J 4 3) * J 6 4 * pt (be * J 4 3) (J 7 1)) (by decide) rfl rfl ?_
  refine bX4_tellByBasis_89  (fun _ => ?_) (fun c => absurd c (by decide))
  refine bX4_tellByBasis_140 (v140 := nI 0) rfl ?_
  refine bX4_tellByBasis_48  (fun c => absurd c (by decide)) (fun _ => ?_)
  refine bX4_tellByBasis_53 (j57 := 0) (j64 := 0) rfl (by decide) rfl (by decide) ?_
  refine v_X4_88 dX4_tellByBasis_70 rfl ⟨rfl, rfl, Nat.le_of_ble_eq_true rfl, Nat.le_of_ble_eq_true rfl⟩ (c_partE (A := (J 11 0 * J 4 3 - pt ((J 11 2 * J 4 3) * J 7 2) (be * J 4 3) * J 6 6 * pt (be * J 4 3) (J 7 2) - pt ((J 11 1 * J 4 3 - pt ((J 11 2 * J 4 3) * J 7 2) (be * J 4 3) * J 6 7 * pt (be * J 4 3) (J 7 2)) * J 7 1) (be * J 4 3) * J 6 3 * pt (be * J 4 3) (J 7 1)) * J 7 0) (B := be * J 4 3) rfl rfl) rfl rfl (Nat.le_of_ble_eq_true rfl) (fun r I1 J1 hp => ?_)
  obtain ⟨rfl, e2, e3⟩ := hp
  obtain rfl := e2.symm
  obtain rfl := e3.symm
  refine bX4_tellByBasis_73 (j82 := 3) (v87 := nI 0) rfl (by decide) rfl ?_
  refine bX4_tellByBasis_89  (fun c => absurd c (by decide)) (fun _ => ?_)
  refine bX4_tellByBasis_96 (j100 := 0) (j116 := 0) (j125 := 0) rfl (by decide) rfl (by decide) rfl (by decide) ?_
  refine v_X4_88 dX4_tellByBasis_128 rfl ⟨rfl, rfl, Nat.le_of_ble_eq_true rfl, Nat.le_of_ble_eq_true rfl⟩ (c_partE (A := be * J 4 3) (B := J 7 0) rfl rfl) rfl rfl (Nat.le_of_ble_eq_true rfl) (fun r I1 J1 hp => ?_)
  obtain ⟨rfl, e2, e3⟩ := hp
  obtain rfl := e2.symm
  obtain rfl := e3.symm
  refine bX4_tellByBasis_131 (s1 := 0) (v134 := nI 1) (v133 := J 11 0 * J 4 3 - pt ((J 11 2 * J 4 3) * J 7 2) (be * J 4 3) * J 6 6 * pt (be * J 4 3) (J 7 2) - pt ((J 11 1 * J 4 3 - pt ((J 11 2 * J 4 3) * J 7 2) (be * J 4 3) * J 6 7 * pt (be * J 4 3) (J 7 2)) * J 7 1) (be * J 4 3) * J 6 3 * pt (be * J 4 3) (J 7 1) - pt ((J 11 0 * J 4 3 - pt ((J 11 2 * J 4 3) * J 7 2) (be * J 4 3) * J 6 6 * pt (be * J 4 3) (J 7 2) - pt ((J 11 1 * J 4 3 - pt ((J 11 2 * J 4 3) * J 7 2) (be * J 4 3) * J 6 7 * pt (be * J 4 3) (J 7 2)) * J 7 1) (be * J 4 3) * J 6 3 * pt (be * J 4 3) (J 7 1)) * J 7 0) (be * J 4 3) * J 6 0 * pt (be * J 4 3) (J 7 0)) (by decide) rfl rfl ?_
  refine bX4_tellByBasis_89  (fun _ => ?_) (fun c => absurd c (by decide))
  refine bX4_tellByBasis_140 (v140 := (-1)) rfl ?_
  refine bX4_tellByBasis_48  (fun _ => ?_) (fun c => absurd c (by decide))
  exact bX4_tellByBasis_146  ⟨rfl, rfl, rfl, fun q h1 h2 => by simp only [sa_uJ_ne h1, sa_uJ_ne h2]⟩
theorem c_tb3_02 {be : Int64} (hd : I 4 0 = nI 3) : Con (EC l D aI aL ad) M_X4_tellByBasis yX4_tellByBasis [.ref (ad 4), .long be, .int (nI 6)] I J (fun r I1 J1 => r = none ∧ I1 = I ∧ J1 8 = vp_updL (vp_updL (vp_updL (J 8) 8 (tl3 (J 6) (J 11) (J 7 0) (J 7 1) (J 7 2) (J 4 3) be).2.2) 7 (tl3 (J 6) (J 11) (J 7 0) (J 7 1) (J 7 2) (J 4 3) be).2.1) 6 (tl3 (J 6) (J 11) (J 7 0) (J 7 1) (J 7 2) (J 4 3) be).1 ∧ ∀ q, q ≠ 8 → q ≠ 11 → J1 q = J q) := by
  refine Con.of (by decide +kernel) rfl (Nat.le_of_ble_eq_true rfl) ?_
  refine bX4_tellByBasis_0 (v1 := nI 0) rfl ?_
  refine bX4_tellByBasis_3  (fun c => absurd c (by simp only [hd]; decide)) (fun _ => ?_)
  refine bX4_tellByBasis_12 (j16 := 0) (v26 := nI 1) (v25 := J 11 0 * J 4 3) rfl (by decide) (by decide) rfl rfl ?_
  refine bX4_tellByBasis_3  (fun c => absurd c (by simp only [hd]; decide)) (fun _ => ?_)
  refine bX4_tellByBasis_12 (j16 := 1) (v26 := nI 2) (v25 := J 11 1 * J 4 3) rfl (by decide) (by decide) rfl rfl ?_
  refine bX4_tellByBasis_3  (fun c => absurd c (by simp only [hd]; decide)) (fun _ => ?_)
  refine bX4_tellByBasis_12 (j16 := 2) (v26 := nI 3) (v25 := J 11 2 * J 4 3) rfl (by decide) (by decide) rfl rfl ?_
  refine bX4_tellByBasis_3  (fun _ => ?_) (fun c => absurd c (by simp only [hd]; decide))
  refine bX4_tellByBasis_32 (v46 := nI 2) (v38 := be * J 4 3) rfl (by simp only [hd]; rfl) ?_
  refine bX4_tellByBasis_48  (fun c => absurd c (by decide)) (fun _ => ?_)
  refine bX4_tellByBasis_53 (j57 := 2) (j64 := 2) rfl (by decide) rfl (by decide) ?_
  refine v_X4_88 dX4_tellByBasis_70 rfl ⟨rfl, rfl, Nat.le_of_ble_eq_true rfl, Nat.le_of_ble_eq_true rfl⟩ (c_partE (A := (J 11 2 * J 4 3) * J 7 2) (B := be * J 4 3) rfl rfl) rfl rfl (Nat.le_of_ble_eq_true rfl) (fun r I1 J1 hp => ?_)
  obtain ⟨rfl, e2, e3⟩ := hp
  obtain rfl := e2.symm
  obtain rfl := e3.symm
  refine bX4_tellByBasis_73 (j82 := 8) (v87 := nI 0) rfl (by decide) rfl ?_
  refine bX4_tellByBasis_89  (fun c => absurd c (by decide)) (fun _ => ?_)
  refine bX4_tellByBasis_96 (j100 := 0) (j116 := 6) (j125 := 2) rfl (by decide) rfl (by decide) rfl (by decide) ?_
  refine v_X4_88 dX4_tellByBasis_128 rfl ⟨rfl, rfl, Nat.le_of_ble_eq_true rfl, Nat.le_of_ble_eq_true rfl⟩ (c_partE (A := be * J 4 3) (B := J 7 2) rfl rfl) rfl rfl (Nat.le_of_ble_eq_true rfl) (fun r I1 J1 hp => ?_)
  obtain ⟨rfl, e2, e3⟩ := hp
  obtain rfl := e2.symm
  obtain rfl := e3.symm
  refine bX4_tellByBasis_131 (s1 := 0) (v134 := nI 1) (v133 := J 11 0 * J 4 3 - pt ((J 11 2 * J 4 3) * J 7 2) (be * J 4 3) * J 6 6 * pt (be * J 4 3) (J 7 2)) (by decide) rfl rfl ?_
  refine bX4_tellByBasis_89  (fun c => absurd c (by decide)) (fun _ => ?_)
  refine bX4_tellByBasis_96 (j100 := 1) (j116 := 7) (j125 := 2) rfl (by decide) rfl (by decide) rfl (by decide) ?_
  refine v_X4_88 dX4_tellByBasis_128 rfl ⟨rfl, rfl, Nat.le_of_ble_eq_true rfl, Nat.le_of_ble_eq_true rfl⟩ (c_partE (A := be * J 4 3) (B := J 7 2) rfl rfl) rfl rfl (Nat.le_of_ble_eq_true rfl) (fun r I1 J1 hp => ?_)
  obtain ⟨rfl, e2, e3⟩ := hp
  obtain rfl := e2.symm
  obtain rfl := e3.symm
  refine bX4_tellByBasis_131 (s1 := 1) (v134 := nI 2) (v133 := J 11 1 * J 4 3 - pt ((J 11 2 * J 4 3) * J 7 2) (be * J 4 3) * J 6 7 * pt (be * J 4 3) (J 7 2)) (by decide) rfl rfl ?_
  refine bX4_tellByBasis_89  (fun c => absurd c (by decide)) (fun _ => ?_)
  refine bX4_tellByBasis_96 (j100 := 2) (j116 := 8) (j125 := 2) rfl (by decide) rfl (by decide) rfl (by decide) ?_
  refine v_X4_88 dX4_tellByBasis_128 rfl ⟨rfl, rfl, Nat.le_of_ble_eq_true rfl, Nat.le_of_ble_eq_true rfl⟩ (c_partE (A := be * J 4 3) (B := J 7 2) rfl rfl) rfl rfl (Nat.le_of_ble_eq_true rfl) (fun r I1 J1 hp => ?_)
  obtain ⟨rfl, e2, e3⟩ := hp
  obtain rfl := e2.symm
  obtain rfl := e3.symm
  refine bX4_tellByBasis_131 (s1 := 2) (v134 := nI 3) (v133 := J 11 2 * J 4 3 - pt ((J 11 2 * J 4 3) * J 7 2) (be * J 4 3) * J 6 8 * pt (be * J 4 3) (J 7 2)) (by decide) rfl rfl ?_
  refine bX4_tellByBasis_89  (fun _ => ?_) (fun c => absurd c (by decide))
  refine bX4_tellByBasis_140 (v140 := nI 1) rfl ?_
  refine bX4_tellByBasis_48  (fun c => absurd c (by decide)) (fun _ => ?_)
  refine bX4_tellByBasis_53 (j57 := 1) (j64 := 1) rfl (by decide) rfl (by decide) ?_
  refine v_X4_88 dX4_tellByBasis_70 rfl ⟨rfl, rfl, Nat.le_of_ble_eq_true rfl, Nat.le_of_ble_eq_true rfl⟩ (c_partE (A := (J 11 1 * J 4 3 - pt ((J 11 2 * J 4 3) * J 7 2) (be * J 4 3) * J 6 7 * pt (be * J 4 3) (J 7 2)) * J 7 1) (B := be * J 4 3) rfl rfl) rfl rfl (Nat.le_of_ble_eq_true rfl) (fun r I1 J1 hp => ?_)
  obtain ⟨rfl, e2, e3⟩ := hp
  obtain rfl := e2.symm
  obtain rfl := e3.symm
  refine bX4_tellByBasis_73 (j82 := 7) (v87 := nI 0) rfl (by decide) rfl ?_
  refine bX4_tellByBasis_89  (fun c => absurd c (by decide)) (fun _ => ?_)
  refine bX4_tellByBasis_96 (j100 := 0) (j116 := 3) (j125 := 1) rfl (by decide) rfl (by decide) rfl (by decide) ?_
  refine v_X4_88 dX4_tellByBasis_128 rfl ⟨rfl, rfl, Nat.le_of_ble_eq_true rfl, Nat.le_of_ble_eq_true rfl⟩ (c_partE (A := be * J 4 3) (B := J 7 1) rfl rfl) rfl rfl (Nat.le_of_ble_eq_true rfl) (fun r I1 J1 hp => ?_)
  obtain ⟨rfl, e2, e3⟩ := hp
  obtain rfl := e2.symm
  obtain rfl := e3.symm
  refine bX4_tellByBasis_131 (s1 := 0) (v134 := nI 1) (v133 := J 11 0 * J 4 3 - pt ((J 11 2 * J 4 3) * J 7 2) (be * J 4 3) * J 6 6 * pt (be * J 4 3) (J 7 2) - pt ((J 11 1 * J 4 3 - pt ((J 11 2 * J 4 3) * J 7 2) (be * J 4 3) * J 6 7 * pt (be * J 4 3) (J 7 2)) * J 7 1) (be * J 4 3) * J 6 3 * pt (be * J 4 3) (J 7 1)) (by decide) rfl rfl ?_
  refine bX4_tellByBasis_89  (fun c => absurd c (by decide)) (fun _ => ?_)
  refine bX4_tellByBasis_96 (j100 := 1) (j116 := 4) (j125 := 1) rfl (by decide) rfl (by decide) rfl (by decide) ?_
  refine v_X4_88 dX4_tellByBasis_128 rfl ⟨rfl, rfl, Nat.le_of_ble_eq_true rfl, Nat.le_of_ble_eq_true rfl⟩ (c_partE (A := be * J 4 3) (B := J 7 1) rfl rfl) rfl rfl (Nat.le_of_ble_eq_true rfl) (fun r I1 J1 hp => ?_)
  obtain ⟨rfl, e2, e3⟩ := hp
  obtain rfl := e2.symm
  obtain rfl := e3.symm
  refine bX4_tellByBasis_131 (s1 := 1) (v134 := nI 2) (v133 := J 11 1 * J 4 3 - pt ((J 11 2 * J 4 3) * J 7 2) (be * J 4 3) * J 6 7 * pt (be * J 4 3) (J 7 2) - pt ((J 11 1 * J 4 3 - pt ((J 11 2 * J 4 3) * J 7 2) (be * J 4 3) * J 6 7 * pt (be * J 4 3) (J 7 2)) * J 7 1) (be * J 4 3) * J 6 4 * pt (be * J 4 3) (J 7 1)) (by decide) rfl rfl ?_
  refine bX4_tellByBasis_89  (fun _ => ?_) (fun c => absurd c (by decide))
  refine bX4_tellByBasis_140 (v140 := nI 0) rfl ?_
  refine bX4_tellByBasis_48  (fun c => absurd c (by decide)) (fun _ => ?_)
  refine bX4_tellByBasis_53 (j57 := 0) (j64 := 0) rfl (by decide) rfl (by decide) ?_
  refine v_X4_88 dX4_tellByBasis_70 rfl ⟨rfl, rfl, Nat.le_of_ble_eq_true rfl, Nat.le_of_ble_eq_true rfl⟩ (c_partE (A := (J 11 0 * J 4 3 - pt ((J 11 2 * J 4 3) * J 7 2) (be * J 4 3) * J 6 6 * pt (be * J 4 3) (J 7 2) - pt ((J 11 1 * J 4 3 - pt ((J 11 2 * J 4 3) * J 7 2) (be * J 4 3) * J 6 7 * pt (be * J 4 3) (J 7 2)) * J 7 1) (be * J 4 3) * J 6 3 * pt (be * J 4 3) (J 7 1)) * J 7 0) (B := be * J 4 3) rfl rfl) rfl rfl (Nat.le_of_ble_eq_true rfl) (fun r I1 J1 hp => ?_)
  obtain ⟨rfl, e2, e3⟩ := hp
  obtain rfl := e2.symm
  obtain rfl := e3.symm
  refine bX4_tellByBasis_73 (j82 := 6) (v87 := nI 0) rfl (by decide) rfl ?_
  refine bX4_tellByBasis_89  (fun c => absurd c (by decide)) (fun _ => ?_)
  refine bX4_tellByBasis_96 (j100 := 0) (j116 := 0) (j125 := 0) rfl (by decide) rfl (by decide) rfl (by decide) ?_
  refine v_X4_88 dX4_tellByBasis_128 rfl ⟨rfl, rfl, Nat.le_of_ble_eq_true rfl, Nat.le_of_ble_eq_true rfl⟩ (c_partE (A := be * J 4 3) (B := J 7 0) rfl rfl) rfl rfl (Nat.le_of_ble_eq_true rfl) (fun r I1 J1 hp => ?_)
  obtain ⟨rfl, e2, e3⟩ := hp
  obtain rfl := e2.symm
  obtain rfl := e3.symm
  refine bX4_tellByBasis_131 (s1 := 0) (v134 := nI 1) (v133 := J 11 0 * J 4 3 - pt ((J 11 2 * J 4 3) * J 7 2) (be * J 4 3) * J 6 6 * pt (be * J 4 3) (J 7 2) - pt ((J 11 1 * J 4 3 - pt ((J 11 2 * J 4 3) * J 7 2) (be * J 4 3) * J 6 7 * pt (be * J 4 3) (J 7 2)) * J 7 1) (be * J 4 3) * J 6 3 * pt (be * J 4 3) (J 7 1) - pt ((J 11 0 * J 4 3 - pt ((J 11 2 * J 4 3) * J 7 2) (be * J 4 3) * J 6 6 * pt (be * J 4 3) (J 7 2) - pt ((J 11 1 * J 4 3 - pt ((J 11 2 * J 4 3) * J 7 2) (be * J 4 3) * J 6 7 * pt (be * J 4 3) (J 7 2)) * J 7 1) (be * J 4 3) * J 6 3 * pt (be * J 4 3) (J 7 1)) * J 7 0) (be * J 4 3) * J 6 0 * pt (be * J 4 3) (J 7 0)) (by decide) rfl rfl ?_
  refine bX4_tellByBasis_89  (fun _ => ?_) (fun c => absurd c (by decide))
  refine bX4_tellByBasis_140 (v140 := (-1)) rfl ?_
  refine bX4_tellByBasis_48  (fun _ => ?_) (fun c => absurd c (by decide))
  exact bX4_tellByBasis_146  ⟨rfl, rfl, rfl, fun q h1 h2 => by simp only [sa_uJ_ne h1, sa_uJ_ne h2]⟩
theorem c_tb3_10 {be : Int64} (hd : I 4 0 = nI 3) : Con (EC l D aI aL ad) M_X4_tellByBasis yX4_tellByBasis [.ref (ad 4), .long be, .int (nI 9)] I J (fun r I1 J1 => r = none ∧ I1 = I ∧ J1 8 = vp_updL (vp_updL (vp_updL (J 8) 11 (tl3 (J 6) (J 11) (J 7 0) (J 7 1) (J 7 2) (J 4 3) be).2.2) 10 (tl3 (J 6) (J 11) (J 7 0) (J 7 1) (J 7 2) (J 4 3) be).2.1) 9 (tl3 (J 6) (J 11) (J 7 0) (J 7 1) (J 7 2) (J 4 3) be).1 ∧ ∀ q, q ≠ 8 → q ≠ 11 → J1 q = J q) := by
  refine Con.of (by decide +kernel) rfl (Nat.le_of_ble_eq_true rfl) ?_
  refine bX4_tellByBasis_0 (v1 := nI 0) rfl ?_
  refine bX4_tellByBasis_3  (fun c => absurd c (by simp only [hd]; decide)) (fun _ => ?_)
  refine bX4_tellByBasis_12 (j16 := 0) (v26 := nI 1) (v25 := J 11 0 * J 4 3) rfl (by decide) (by decide) rfl rfl ?_
  refine bX4_tellByBasis_3  (fun c => absurd c (by simp only [hd]; decide)) (fun _ => ?_)
  refine bX4_tellByBasis_12 (j16 := 1) (v26 := nI 2) (v25 := J 11 1 * J 4 3) rfl (by decide) (by decide) rfl rfl ?_
  refine bX4_tellByBasis_3  (fun c => absurd c (by simp only [hd]; decide)) (fun _ => ?_)
  refine bX4_tellByBasis_12 (j16 := 2) (v26 := nI 3) (v25 := J 11 2 * J 4 3) rfl (by decide) (by decide) rfl rfl ?_
  refine bX4_tellByBasis_3  (fun _ => ?_) (fun c => absurd c (by simp only [hd]; decide))
  refine bX4_tellByBasis_32 (v46 := nI 2) (v38 := be * J 4 3) rfl (by simp only [hd]; rfl) ?_
  refine bX4_tellByBasis_48  (fun c => absurd c (by decide)) (fun _ => ?_)
  refine bX4_tellByBasis_53 (j57 := 2) (j64 := 2) rfl (by decide) rfl (by decide) ?_
  refine v_X4_88 dX4_tellByBasis_70 rfl ⟨rfl, rfl, Nat.le_of_ble_eq_true rfl, Nat.le_of_ble_eq_true rfl⟩ (c_partE (A := (J 11 2 * J 4 3) * J 7 2) (B := be * J 4 3) rfl rfl) rfl rfl (Nat.le_of_ble_eq_true rfl) (fun r I1 J1 hp => ?_)
  obtain ⟨rfl, e2, e3⟩ := hp
  obtain rfl := e2.symm
  obtain rfl := e3.symm
  refine bX4_tellByBasis_73 (j82 := 11) (v87 := nI 0) rfl (by decide) rfl ?_
  refine bX4_tellByBasis_89  (fun c => absurd c (by decide)) (fun _ => ?_)
  refine bX4_tellByBasis_96 (j100 := 0) (j116 := 6) (j125 := 2) rfl (by decide) rfl (by decide) rfl (by decide) ?_
  refine v_X4_88 dX4_tellByBasis_128 rfl ⟨rfl, rfl, Nat.le_of_ble_eq_true rfl, Nat.le_of_ble_eq_true rfl⟩ (c_partE (A := be * J 4 3) (B := J 7 2) rfl rfl) rfl rfl (Nat.le_of_ble_eq_true rfl) (fun r I1 J1 hp => ?_)
  obtain ⟨rfl, e2, e3⟩ := hp
  obtain rfl := e2.symm
  obtain rfl := e3.symm
  refine bX4_tellByBasis_131 (s1 := 0) (v134 := nI 1) (v133 := J 11 0 * J 4 3 - pt ((J 11 2 * J 4 3) * J 7 2) (be * J 4 3) * J 6 6 * pt (be * J 4 3) (J 7 2)) (by decide) rfl rfl ?_
  refine bX4_tellByBasis_89  (fun c => absurd c (by decide)) (fun _ => ?_)
  refine bX4_tellByBasis_96 (j100 := 1) (j116 := 7) (j125 := 2) rfl (by decide) rfl (by decide) rfl (by decide) ?_
  refine v_X4_88 dX4_tellByBasis_128 rfl ⟨rfl, rfl, Nat.le_of_ble_eq_true rfl, Nat.le_of_ble_eq_true rfl⟩ (c_partE (A := be * J 4 3) (B := J 7 2) rfl rfl) rfl rfl (Nat.le_of_ble_eq_true rfl) (fun r I1 J1 hp => ?_)
  obtain ⟨rfl, e2, e3⟩ := hp
  obtain rfl := e2.symm
  obtain rfl := e3.symm
  refine bX4_tellByBasis_131 (s1 := 1) (v134 := nI 2) (v133 := J 11 1 * J 4 3 - pt ((J 11 2 * J 4 3) * J 7 2) (be * J 4 3) * J 6 7 * pt (be * J 4 3) (J 7 2)) (by decide) rfl rfl ?_
  refine bX4_tellByBasis_89  (fun c => absurd c (by decide)) (fun _ => ?_)
  refine bX4_tellByBasis_96 (j100 := 2) (j116 := 8) (j125 := 2) rfl (by decide) rfl (by decide) rfl (by decide) ?_
  refine v_X4_88 dX4_tellByBasis_128 rfl ⟨rfl, rfl, Nat.le_of_ble_eq_true rfl, Nat.le_of_ble_eq_true rfl⟩ (c_partE (A := be * J 4 3) (B := J 7 2) rfl rfl) rfl rfl (Nat.le_of_ble_eq_true rfl) (fun r I1 J1 hp => ?_)
  obtain ⟨rfl, e2, e3⟩ := hp
  obtain rfl := e2.symm
  obtain rfl := e3.symm
  refine bX4_tellByBasis_131 (s1 := 2) (v134 := nI 3) (v133 := J 11 2 * J 4 3 - pt ((J 11 2 * J 4 3) * J 7 2) (be * J 4 3) * J 6 8 * pt (be * J 4 3) (J 7 2)) (by decide) rfl rfl ?_
  refine bX4_tellByBasis_89  (fun _ => ?_) (fun c => absurd c (by decide))
  refine bX4_tellByBasis_140 (v140 := nI 1) rfl ?_
  refine bX4_tellByBasis_48  (fun c => absurd c (by decide)) (fun _ => ?_)
  refine bX4_tellByBasis_53 (j57 := 1) (j64 := 1) rfl (by decide) rfl (by decide) ?_
  refine v_X4_88 dX4_tellByBasis_70 rfl ⟨rfl, rfl, Nat.le_of_ble_eq_true rfl, Nat.le_of_ble_eq_true rfl⟩ (c_partE (A := (J 11 1 * J 4 3 - pt ((J 11 2 * J 4 3) * J 7 2) (be * J 4 3) * J 6 7 * pt (be * J 4 3) (J 7 2)) * J 7 1) (B := be * J 4 3) rfl rfl) rfl rfl (Nat.le_of_ble_eq_true rfl) (fun r I1 J1 hp => ?_)
  obtain ⟨rfl, e2, e3⟩ := hp
  obtain rfl := e2.symm
  obtain rfl := e3.symm
  refine bX4_tellByBasis_73 (j82 := 10) (v87 := nI 0) rfl (by decide) rfl ?_
  refine bX4_tellByBasis_89  (fun c => absurd c (by decide)) (fun _ => ?_)
  refine bX4_tellByBasis_96 (j100 := 0) (j116 := 3) (j125 := 1) rfl (by decide) rfl (by decide) rfl (by decide) ?_
  refine v_X4_88 dX4_tellByBasis_128 rfl ⟨rfl, rfl, Nat.le_of_ble_eq_true rfl, Nat.le_of_ble_eq_true rfl⟩ (c_partE (A := be * J 4 3) (B := J 7 1) rfl rfl) rfl rfl (Nat.le_of_ble_eq_true rfl) (fun r I1 J1 hp => ?_)
  obtain ⟨rfl, e2, e3⟩ := hp
  obtain rfl := e2.symm
  obtain rfl := e3.symm
  refine bX4_tellByBasis_131 (s1 := 0) (v134 := nI 1) (v133 := J 11 0 * J 4 3 - pt ((J 11 2 * J 4 3) * J 7 2) (be * J 4 3) * J 6 6 * pt (be * J 4 3) (J 7 2) - pt ((J 11 1 * J 4 3 - pt ((J 11 2 * J 4 3) * J 7 2) (be * J 4 3) * J 6 7 * pt (be * J 4 3) (J 7 2)) * J 7 1) (be * J 4 3) * J 6 3 * pt (be * J 4 3) (J 7 1)) (by decide) rfl rfl ?_
  refine bX4_tellByBasis_89  (fun c => absurd c (by decide)) (fun _ => ?_)
  refine bX4_tellByBasis_96 (j100 := 1) (j116 := 4) (j125 := 1) rfl (by decide) rfl (by decide) rfl (by decide) ?_
  refine v_X4_88 dX4_tellByBasis_128 rfl ⟨rfl, rfl, Nat.le_of_ble_eq_true rfl, Nat.le_of_ble_eq_true rfl⟩ (c_partE (A := be * J 4 3) (B := J 7 1) rfl rfl) rfl rfl (Nat.le_of_ble_eq_true rfl) (fun r I1 J1 hp => ?_)
  obtain ⟨rfl, e2, e3⟩ := hp
  obtain rfl := e2.symm
  obtain rfl := e3.symm
  refine bX4_tellByBasis_131 (s1 := 1) (v134 := nI 2) (v133 := J 11 1 * J 4 3 - pt ((J 11 2 * J 4 3) * J 7 2) (be * J 4 3) * J 6 7 * pt (be * J 4 3) (J 7 2) - pt ((J 11 1 * J 4 3 - pt ((J 11 2 * J 4 3) * J 7 2) (be * J 4 3) * J 6 7 * pt (be * J 4 3) (J 7 2)) * J 7 1) (be * J 4 3) * J 6 4 * pt (be * J 4 3) (J 7 1)) (by decide) rfl rfl ?_
  refine bX4_tellByBasis_89  (fun _ => ?_) (fun c => absurd c (by decide))
  refine bX4_tellByBasis_140 (v140 := nI 0) rfl ?_
  refine bX4_tellByBasis_48  (fun c => absurd c (by decide)) (fun _ => ?_)
  refine bX4_tellByBasis_53 (j57 := 0) (j64 := 0) rfl (by decide) rfl (by decide) ?_
  refine v_X4_88 dX4_tellByBasis_70 rfl ⟨rfl, rfl, Nat.le_of_ble_eq_true rfl, Nat.le_of_ble_eq_true rfl⟩ (c_partE (A := (J 11 0 * J 4 3 - pt ((J 11 2 * J 4 3) * J 7 2) (be * J 4 3) * J 6 6 * pt (be * J 4 3) (J 7 2) - pt ((J 11 1 * J 4 3 - pt ((J 11 2 * J 4 3) * J 7 2) (be * J 4 3) * J 6 7 * pt (be * J 4 3) (J 7 2)) * J 7 1) (be * J 4 3) * J 6 3 * pt (be * J 4 3) (J 7 1)) * J 7 0) (B := be * J 4 3) rfl rfl) rfl rfl (Nat.le_of_ble_eq_true rfl) (fun r I1 J1 hp => ?_)
  obtain ⟨rfl, e2, e3⟩ := hp
  obtain rfl := e2.symm
  obtain rfl := e3.symm
  refine bX4_tellByBasis_73 (j82 := 9) (v87 := nI 0) rfl (by decide) rfl ?_
  refine bX4_tellByBasis_89  (fun c => absurd c (by decide)) (fun _ => ?_)
  refine bX4_tellByBasis_96 (j100 := 0) (j116 := 0) (j125 := 0) rfl (by decide) rfl (by decide) rfl (by decide) ?_
  refine v_X4_88 dX4_tellByBasis_128 rfl ⟨rfl, rfl, Nat.le_of_ble_eq_true rfl, Nat.le_of_ble_eq_true rfl⟩ (c_partE (A := be * J 4 3) (B := J 7 0) rfl rfl) rfl rfl (Nat.le_of_ble_eq_true rfl) (fun r I1 J1 hp => ?_)
  obtain ⟨rfl, e2, e3⟩ := hp
  obtain rfl := e2.symm
  obtain rfl := e3.symm
  refine bX4_tellByBasis_131 (s1 := 0) (v134 := nI 1) (v133 := J 11 0 * J 4 3 - pt ((J 11 2 * J 4 3) * J 7 2) (be * J 4 3) * J 6 6 * pt (be * J 4 3) (J 7 2) - pt ((J 11 1 * J 4 3 - pt ((J 11 2 * J 4 3) * J 7 2) (be * J 4 3) * J 6 7 * pt (be * J 4 3) (J 7 2)) * J 7 1) (be * J 4 3) * J 6 3 * pt (be * J 4 3) (J 7 1) - pt ((J 11 0 * J 4 3 - pt ((J 11 2 * J 4 3) * J 7 2) (be * J 4 3) * J 6 6 * pt (be * J 4 3) (J 7 2) - pt ((J 11 1 * J 4 3 - pt ((J 11 2 * J 4 3) * J 7 2) (be * J 4 3) * J 6 7 * pt (be * J 4 3) (J 7 2)) * J 7 1) (be * J 4 3) * J 6 3 * pt (be * J 4 3) (J 7 1)) * J 7 0) (be * J 4 3) * J 6 0 * pt (be * J 4 3) (J 7 0)) (by decide) rfl rfl ?_
  refine bX4_tellByBasis_89  (fun _ => ?_) (fun c => absurd c (by decide))
  refine bX4_tellByBasis_140 (v140 := (-1)) rfl ?_
  refine bX4_tellByBasis_48  (fun _ => ?_) (fun c => absurd c (by decide))
  exact bX4_tellByBasis_146  ⟨rfl, rfl, rfl, fun q h1 h2 => by simp only [sa_uJ_ne h1, sa_uJ_ne h2]⟩
theorem c_tb3_11 {be : Int64} (hd : I 4 0 = nI 3) : Con (EC l D aI aL ad) M_X4_tellByBasis yX4_tellByBasis [.ref (ad 4), .long be, .int (nI 12)] I J (fun r I1 J1 => r = none ∧ I1 = I ∧ J1 8 = vp_updL (vp_updL (vp_updL (J 8) 14 (tl3 (J 6) (J 11) (J 7 0) (J 7 1) (J 7 2) (J 4 3) be).2.2) 13 (tl3 (J 6) (J 11) (J 7 0) (J 7 1) (J 7 2) (J 4 3) be).2.1) 12 (tl3 (J 6) (J 11) (J 7 0) (J 7 1) (J 7 2) (J 4 3) be).1 ∧ ∀ q, q ≠ 8 → q ≠ 11 → J1 q = J q) := by
  refine Con.of (by decide +kernel) rfl (Nat.le_of_ble_eq_true rfl) ?_
  refine bX4_tellByBasis_0 (v1 := nI 0) rfl ?_
  refine bX4_tellByBasis_3  (fun c => absurd c (by simp only [hd]; decide)) (fun _ => ?_)
  refine bX4_tellByBasis_12 (j16 := 0) (v26 := nI 1) (v25 := J 11 0 * J 4 3) rfl (by decide) (by decide) rfl rfl ?_
  refine bX4_tellByBasis_3  (fun c => absurd c (by simp only [hd]; decide)) (fun _ => ?_)
  refine bX4_tellByBasis_12 (j16 := 1) (v26 := nI 2) (v25 := J 11 1 * J 4 3) rfl (by decide) (by decide) rfl rfl ?_
  refine bX4_tellByBasis_3  (fun c => absurd c (by simp only [hd]; decide)) (fun _ => ?_)
  refine bX4_tellByBasis_12 (j16 := 2) (v26 := nI 3) (v25 := J 11 2 * J 4 3) rfl (by decide) (by decide) rfl rfl ?_
  refine bX4_tellByBasis_3  (fun _ => ?_) (fun c => absurd c (by simp only [hd]; decide))
  refine bX4_tellByBasis_32 (v46 := nI 2) (v38 := be * J 4 3) rfl (by simp only [hd]; rfl) ?_
  refine bX4_tellByBasis_48  (fun c => absurd c (by decide)) (fun _ => ?_)
  refine bX4_tellByBasis_53 (j57 := 2) (j64 := 2) rfl (by decide) rfl (by decide) ?_
  refine v_X4_88 dX4_tellByBasis_70 rfl ⟨rfl, rfl, Nat.le_of_ble_eq_true rfl, Nat.le_of_ble_eq_true rfl⟩ (c_partE (A := (J 11 2 * J 4 3) * J 7 2) (B := be * J 4 3) rfl rfl) rfl rfl (Nat.le_of_ble_eq_true rfl) (fun r I1 J1 hp => ?_)
  obtain ⟨rfl, e2, e3⟩ := hp
  obtain rfl := e2.symm
  obtain rfl := e3.symm
  refine bX4_tellByBasis_73 (j82 := 14) (v87 := nI 0) rfl (by decide) rfl ?_
  refine bX4_tellByBasis_89  (fun c => absurd c (by decide)) (fun _ => ?_)
  refine bX4_tellByBasis_96 (j100 := 0) (j116 := 6) (j125 := 2) rfl (by decide) rfl (by decide) rfl (by decide) ?_
  refine v_X4_88 dX4_tellByBasis_128 rfl ⟨rfl, rfl, Nat.le_of_ble_eq_true rfl, Nat.le_of_ble_eq_true rfl⟩ (c_partE (A := be * J 4 3) (B := J 7 2) rfl rfl) rfl rfl (Nat.le_of_ble_eq_true rfl) (fun r I1 J1 hp => ?_)
  obtain ⟨rfl, e2, e3⟩ := hp
  obtain rfl := e2.symm
  obtain rfl := e3.symm
  refine bX4_tellByBasis_131 (s1 := 0) (v134 := nI 1) (v133 := J 11 0 * J 4 3 - pt ((J 11 2 * J 4 3) * J 7 2) (be * J 4 3) * J 6 6 * pt (be * J 4 3) (J 7 2)) (by decide) rfl rfl ?_
  refine bX4_tellByBasis_89  (fun c => absurd c (by decide)) (fun _ => ?_)
  refine bX4_tellByBasis_96 (j100 := 1) (j116 := 7) (j125 := 2) rfl (by decide) rfl (by decide) rfl (by decide) ?_
  refine v_X4_88 dX4_tellByBasis_128 rfl ⟨rfl, rfl, Nat.le_of_ble_eq_true rfl, Nat.le_of_ble_eq_true rfl⟩ (c_partE (A := be * J 4 3) (B := J 7 2) rfl rfl) rfl rfl (Nat.le_of_ble_eq_true rfl) (fun r I1 J1 hp => ?_)
  obtain ⟨rfl, e2, e3⟩ := hp
  obtain rfl := e2.symm
  obtain rfl := e3.symm
  refine bX4_tellByBasis_131 (s1 := 1) (v134 := nI 2) (v133 := J 11 1 * J 4 3 - pt ((J 11 2 * J 4 3) * J 7 2) (be * J 4 3) * J 6 7 * pt (be * J 4 3) (J 7 2)) (by decide) rfl rfl ?_
  refine bX4_tellByBasis_89  (fun c => absurd c (by decide)) (fun _ => ?_)
  refine bX4_tellByBasis_96 (j100 := 2) (j116 := 8) (j125 := 2) rfl (by decide) rfl (by decide) rfl (by decide) ?_
  refine v_X4_88 dX4_tellByBasis_128 rfl ⟨rfl, rfl, Nat.le_of_ble_eq_true rfl, Nat.le_of_ble_eq_true rfl⟩ (c_partE (A := be * J 4 3) (B := J 7 2) rfl rfl) rfl rfl (Nat.le_of_ble_eq_true rfl) (fun r I1 J1 hp => ?_)
  obtain ⟨rfl, e2, e3⟩ := hp
  obtain rfl := e2.symm
  obtain rfl := e3.symm
  refine bX4_tellByBasis_131 (s1 := 2) (v134 := nI 3) (v133 := J 11 2 * J 4 3 - pt ((J 11 2 * J 4 3) * J 7 2) (be * J 4 3) * J 6 8 * pt (be * J 4 3) (J 7 2)) (by decide) rfl rfl ?_
  refine bX4_tellByBasis_89  (fun _ => ?_) (fun c => absurd c (by decide))
  refine bX4_tellByBasis_140 (v140 := nI 1) rfl ?_
  refine bX4_tellByBasis_48  (fun c => absurd c (by decide)) (fun _ => ?_)
  refine bX4_tellByBasis_53 (j57 := 1) (j64 := 1) rfl (by decide) rfl (by decide) ?_
  refine v_X4_88 dX4_tellByBasis_70 rfl ⟨rfl, rfl, Nat.le_of_ble_eq_true rfl, Nat.le_of_ble_eq_true rfl⟩ (c_partE (A := (J 11 1 * J 4 3 - pt ((J 11 2 * J 4 3) * J 7 2) (be * J 4 3) * J 6 7 * pt (be * J 4 3) (J 7 2)) * J 7 1) (B := be * J 4 3) rfl rfl) rfl rfl (Nat.le_of_ble_eq_true rfl) (fun r I1 J1 hp => ?_)
  obtain ⟨rfl, e2, e3⟩ := hp
  obtain rfl := e2.symm
  obtain rfl := e3.symm
  refine bX4_tellByBasis_73 (j82 := 13) (v87 := nI 0) rfl (by decide) rfl ?_
  refine bX4_tellByBasis_89  (fun c => absurd c (by decide)) (fun _ => ?_)
  refine bX4_tellByBasis_96 (j100 := 0) (j116 := 3) (j125 := 1) rfl (by decide) rfl (by decide) rfl (by decide) ?_
  refine v_X4_88 dX4_tellByBasis_128 rfl ⟨rfl, rfl, Nat.le_of_ble_eq_true rfl, Nat.le_of_ble_eq_true rfl⟩ (c_partE (A := be * J 4 3) (B := J 7 1) rfl rfl) rfl rfl (Nat.le_of_ble_eq_true rfl) (fun r I1 J1 hp => ?_)
  obtain ⟨rfl, e2, e3⟩ := hp
  obtain rfl := e2.symm
  obtain rfl := e3.symm
  refine bX4_tellByBasis_131 (s1 := 0) (v134 := nI 1) (v133 := J 11 0 * J 4 3 - pt ((J 11 2 * J 4 3) * J 7 2) (be * J 4 3) * J 6 6 * pt (be * J 4 3) (J 7 2) - pt ((J 11 1 * J 4 3 - pt ((J 11 2 * J 4 3) * J 7 2) (be * J 4 3) * J 6 7 * pt (be * J 4 3) (J 7 2)) * J 7 1) (be * J 4 3) * J 6 3 * pt (be * J 4 3) (J 7 1)) (by decide) rfl rfl ?_
  refine bX4_tellByBasis_89  (fun c => absurd c (by decide)) (fun _ => ?_)
  refine bX4_tellByBasis_96 (j100 := 1) (j116 := 4) (j125 := 1) rfl (by decide) rfl (by decide) rfl (by decide) ?_
  refine v_X4_88 dX4_tellByBasis_128 rfl ⟨rfl, rfl, Nat.le_of_ble_eq_true rfl, Nat.le_of_ble_eq_true rfl⟩ (c_partE (A := be * J 4 3) (B := J 7 1) rfl rfl) rfl rfl (Nat.le_of_ble_eq_true rfl) (fun r I1 J1 hp => ?_)
  obtain ⟨rfl, e2, e3⟩ := hp
  obtain rfl := e2.symm
  obtain rfl := e3.symm
  refine bX4_tellByBasis_131 (s1 := 1) (v134 := nI 2) (v133 := J 11 1 * J 4 3 - pt ((J 11 2 * J 4 3) * J 7 2) (be * J 4 3) * J 6 7 * pt (be * J 4 3) (J 7 2) - pt ((J 11 1 * J 4 3 - pt ((J 11 2 * J 4 3) * J 7 2) (be * J 4 3) * J 6 7 * pt (be * J 4 3) (J 7 2)) * J 7 1) (be * J 4 3) * J 6 4 * pt (be * J 4 3) (J 7 1)) (by decide) rfl rfl ?_
  refine bX4_tellByBasis_89  (fun _ => ?_) (fun c => absurd c (by decide))
  refine bX4_tellByBasis_140 (v140 := nI 0) rfl ?_
  refine bX4_tellByBasis_48  (fun c => absurd c (by decide)) (fun _ => ?_)
  refine bX4_tellByBasis_53 (j57 := 0) (j64 := 0) rfl (by decide) rfl (by decide) ?_
  refine v_X4_88 dX4_tellByBasis_70 rfl ⟨rfl, rfl, Nat.le_of_ble_eq_true rfl, Nat.le_of_ble_eq_true rfl⟩ (c_partE (A := (J 11 0 * J 4 3 - pt ((J 11 2 * J 4 3) * J 7 2) (be * J 4 3) * J 6 6 * pt (be * J 4 3) (J 7 2) - pt ((J 11 1 * J 4 3 - pt ((J 11 2 * J 4 3) * J 7 2) (be * J 4 3) * J 6 7 * pt (be * J 4 3) (J 7 2)) * J 7 1) (be * J 4 3) * J 6 3 * pt (be * J 4 3) (J 7 1)) * J 7 0) (B := be * J 4 3) rfl rfl) rfl rfl (Nat.le_of_ble_eq_true rfl) (fun r I1 J1 hp => ?_)
  obtain ⟨rfl, e2, e3⟩ := hp
  obtain rfl := e2.symm
  obtain rfl := e3.symm
  refine bX4_tellByBasis_73 (j82 := 12) (v87 := nI 0) rfl (by decide) rfl ?_
  refine bX4_tellByBasis_89  (fun c => absurd c (by decide)) (fun _ => ?_)
  refine bX4_tellByBasis_96 (j100 := 0) (j116 := 0) (j125 := 0) rfl (by decide) rfl (by decide) rfl (by decide) ?_
  refine v_X4_88 dX4_tellByBasis_128 rfl ⟨rfl, rfl, Nat.le_of_ble_eq_true rfl, Nat.le_of_ble_eq_true rfl⟩ (c_partE (A := be * J 4 3) (B := J 7 0) rfl rfl) rfl rfl (Nat.le_of_ble_eq_true rfl) (fun r I1 J1 hp => ?_)
  obtain ⟨rfl, e2, e3⟩ := hp
  obtain rfl := e2.symm
  obtain rfl := e3.symm
  refine bX4_tellByBasis_131 (s1 := 0) (v134 := nI 1) (v133 := J 11 0 * J 4 3 - pt ((J 11 2 * J 4 3) * J 7 2) (be * J 4 3) * J 6 6 * pt (be * J 4 3) (J 7 2) - pt ((J 11 1 * J 4 3 - pt ((J 11 2 * J 4 3) * J 7 2) (be * J 4 3) * J 6 7 * pt (be * J 4 3) (J 7 2)) * J 7 1) (be * J 4 3) * J 6 3 * pt (be * J 4 3) (J 7 1) - pt ((J 11 0 * J 4 3 - pt ((J 11 2 * J 4 3) * J 7 2) (be * J 4 3) * J 6 6 * pt (be * J 4 3) (J 7 2) - pt ((J 11 1 * J 4 3 - pt ((J 11 2 * J 4 3) * J 7 2) (be * J 4 3) * J 6 7 * pt (be * J 4 3) (J 7 2)) * J 7 1) (be * J 4 3) * J 6 3 * pt (be * J 4 3) (J 7 1)) * J 7 0) (be * J 4 3) * J 6 0 * pt (be * J 4 3) (J 7 0)) (by decide) rfl rfl ?_
  refine bX4_tellByBasis_89  (fun _ => ?_) (fun c => absurd c (by decide))
  refine bX4_tellByBasis_140 (v140 := (-1)) rfl ?_
  refine bX4_tellByBasis_48  (fun _ => ?_) (fun c => absurd c (by decide))
  exact bX4_tellByBasis_146  ⟨rfl, rfl, rfl, fun q h1 h2 => by simp only [sa_uJ_ne h1, sa_uJ_ne h2]⟩
theorem c_tb3_12 {be : Int64} (hd : I 4 0 = nI 3) : Con (EC l D aI aL ad) M_X4_tellByBasis yX4_tellByBasis [.ref (ad 4), .long be, .int (nI 15)] I J (fun r I1 J1 => r = none ∧ I1 = I ∧ J1 8 = vp_updL (vp_updL (vp_updL (J 8) 17 (tl3 (J 6) (J 11) (J 7 0) (J 7 1) (J 7 2) (J 4 3) be).2.2) 16 (tl3 (J 6) (J 11) (J 7 0) (J 7 1) (J 7 2) (J 4 3) be).2.1) 15 (tl3 (J 6) (J 11) (J 7 0) (J 7 1) (J 7 2) (J 4 3) be).1 ∧ ∀ q, q ≠ 8 → q ≠ 11 → J1 q = J q) := by
  refine Con.of (by decide +kernel) rfl (Nat.le_of_ble_eq_true rfl) ?_
  refine bX4_tellByBasis_0 (v1 := nI 0) rfl ?_
  refine bX4_tellByBasis_3  (fun c => absurd c (by simp only [hd]; decide)) (fun _ => ?_)
  refine bX4_tellByBasis_12 (j16 := 0) (v26 := nI 1) (v25 := J 11 0 * J 4 3) rfl (by decide) (by decide) rfl rfl ?_
  refine bX4_tellByBasis_3  (fun c => absurd c (by simp only [hd]; decide)) (fun _ => ?_)
  refine bX4_tellByBasis_12 (j16 := 1) (v26 := nI 2) (v25 := J 11 1 * J 4 3) rfl (by decide) (by decide) rfl rfl ?_
  refine bX4_tellByBasis_3  (fun c => absurd c (by simp only [hd]; decide)) (fun _ => ?_)
  refine bX4_tellByBasis_12 (j16 := 2) (v26 := nI 3) (v25 := J 11 2 * J 4 3) rfl (by decide) (by decide) rfl rfl ?_
  refine bX4_tellByBasis_3  (fun _ => ?_) (fun c => absurd c (by simp only [hd]; decide))
  refine bX4_tellByBasis_32 (v46 := nI 2) (v38 := be * J 4 3) rfl (by simp only [hd]; rfl) ?_
  refine bX4_tellByBasis_48  (fun c => absurd c (by decide)) (fun _ => ?_)
  refine bX4_tellByBasis_53 (j57 := 2) (j64 := 2) rfl (by decide) rfl (by decide) ?_
  refine v_X4_88 dX4_tellByBasis_70 rfl ⟨rfl, rfl, Nat.le_of_ble_eq_true rfl, Nat.le_of_ble_eq_true rfl⟩ (c_partE (A := (J 11 2 * J 4 3) * J 7 2) (B := be * J 4 3) rfl rfl) rfl rfl (Nat.le_of_ble_eq_true rfl) (fun r I1 J1 hp => ?_)
  obtain ⟨rfl, e2, e3⟩ := hp
  obtain rfl := e2.symm
  obtain rfl := e3.symm
  refine bX4_tellByBasis_73 (j82 := 17) (v87 := nI 0) rfl (by decide) rfl ?_
  refine bX4_tellByBasis_89  (fun c => absurd c (by decide)) (fun _ => ?_)
  refine bX4_tellByBasis_96 (j100 := 0) (j116 := 6) (j125 := 2) rfl (by decide) rfl (by decide) rfl (by decide) ?_
  refine v_X4_88 dX4_tellByBasis_128 rfl ⟨rfl, rfl, Nat.le_of_ble_eq_true rfl, Nat.le_of_ble_eq_true rfl⟩ (c_partE (A := be * J 4 3) (B := J 7 2) rfl rfl) rfl rfl (Nat.le_of_ble_eq_true rfl) (fun r I1 J1 hp => ?_)
  obtain ⟨rfl, e2, e3⟩ := hp
  obtain rfl := e2.symm
  obtain rfl := e3.symm
  refine bX4_tellByBasis_131 (s1 := 0) (v134 := nI 1) (v133 := J 11 0 * J 4 3 - pt ((J 11 2 * J 4 3) * J 7 2) (be * J 4 3) * J 6 6 * pt (be * J 4 3) (J 7 2)) (by decide) rfl rfl ?_
  refine bX4_tellByBasis_89  (fun c => absurd c (by decide)) (fun _ => ?_)
  refine bX4_tellByBasis_96 (j100 := 1) (j116 := 7) (j125 := 2) rfl (by decide) rfl (by decide) rfl (by decide) ?_
  refine v_X4_88 dX4_tellByBasis_128 rfl ⟨rfl, rfl, Nat.le_of_ble_eq_true rfl, Nat.le_of_ble_eq_true rfl⟩ (c_partE (A := be * J 4 3) (B := J 7 2) rfl rfl) rfl rfl (Nat.le_of_ble_eq_true rfl) (fun r I1 J1 hp => ?_)
  obtain ⟨rfl, e2, e3⟩ := hp
  obtain rfl := e2.symm
  obtain rfl := e3.symm
  refine bX4_tellByBasis_131 (s1 := 1) (v134 := nI 2) (v133 := J 11 1 * J 4 3 - pt ((J 11 2 * J 4 3) * J 7 2) (be * J 4 3) * J 6 7 * pt (be * J 4 3) (J 7 2)) (by decide) rfl rfl ?_
  refine bX4_tellByBasis_89  (fun c => absurd c (by decide)) (fun _ => ?_)
  refine bX4_tellByBasis_96 (j100 := 2) (j116 := 8) (j125 := 2) rfl (by decide) rfl (by decide) rfl (by decide) ?_
  refine v_X4_88 dX4_tellByBasis_128 rfl ⟨rfl, rfl, Nat.le_of_ble_eq_true rfl, Nat.le_of_ble_eq_true rfl⟩ (c_partE (A := be * J 4 3) (B := J 7 2) rfl rfl) rfl rfl (Nat.le_of_ble_eq_true rfl) (fun r I1 J1 hp => ?_)
  obtain ⟨rfl, e2, e3⟩ := hp
  obtain rfl := e2.symm
  obtain rfl := e3.symm
  refine bX4_tellByBasis_131 (s1 := 2) (v134 := nI 3) (v133 := J 11 2 * J 4 3 - pt ((J 11 2 * J 4 3) * J 7 2) (be * J 4 3) * J 6 8 * pt (be * J 4 3) (J 7 2)) (by decide) rfl rfl ?_
  refine bX4_tellByBasis_89  (fun _ => ?_) (fun c => absurd c (by decide))
  refine bX4_tellByBasis_140 (v140 := nI 1) rfl ?_
  refine bX4_tellByBasis_48  (fun c => absurd c (by decide)) (fun _ => ?_)
  refine bX4_tellByBasis_53 (j57 := 1) (j64 := 1) rfl (by decide) rfl (by decide) ?_
  refine v_X4_88 dX4_tellByBasis_70 rfl ⟨rfl, rfl, Nat.le_of_ble_eq_true rfl, Nat.le_of_ble_eq_true rfl⟩ (c_partE (A := (J 11 1 * J 4 3 - pt ((J 11 2 * J 4 3) * J 7 2) (be * J 4 3) * J 6 7 * pt (be * J 4 3) (J 7 2)) * J 7 1) (B := be * J 4 3) rfl rfl) rfl rfl (Nat.le_of_ble_eq_true rfl) (fun r I1 J1 hp => ?_)
  obtain ⟨rfl, e2, e3⟩ := hp
  obtain rfl := e2.symm
  obtain rfl := e3.symm
  refine bX4_tellByBasis_73 (j82 := 16) (v87 := nI 0) rfl (by decide) rfl ?_
  refine bX4_tellByBasis_89  (fun c => absurd c (by decide)) (fun _ => ?_)
  refine bX4_tellByBasis_96 (j100 := 0) (j116 := 3) (j125 := 1) rfl (by decide) rfl (by decide) rfl (by decide) ?_
  refine v_X4_88 dX4_tellByBasis_128 rfl ⟨rfl, rfl, Nat.le_of_ble_eq_true rfl, Nat.le_of_ble_eq_true rfl⟩ (c_partE (A := be * J 4 3) (B := J 7 1) rfl rfl) rfl rfl (Nat.le_of_ble_eq_true rfl) (fun r I1 J1 hp => ?_)
  obtain ⟨rfl, e2, e3⟩ := hp
  obtain rfl := e2.symm
  obtain rfl := e3.symm
  refine bX4_tellByBasis_131 (s1 := 0) (v134 := nI 1) (v133 := J 11 0 * J 4 3 - pt ((J 11 2 * J 4 3) * J 7 2) (be * J 4 3) * J 6 6 * pt (be * J 4 3) (J 7 2) - pt ((J 11 1 * J 4 3 - pt ((J 11 2 * J 4 3) * J 7 2) (be * J 4 3) * J 6 7 * pt (be * J 4 3) (J 7 2)) * J 7 1) (be * J 4 3) * J 6 3 * pt (be * J 4 3) (J 7 1)) (by decide) rfl rfl ?_
  refine bX4_tellByBasis_89  (fun c => absurd c (by decide)) (fun _ => ?_)
  refine bX4_tellByBasis_96 (j100 := 1) (j116 := 4) (j125 := 1) rfl (by decide) rfl (by decide) rfl (by decide) ?_
  refine v_X4_88 dX4_tellByBasis_128 rfl ⟨rfl, rfl, Nat.le_of_ble_eq_true rfl, Nat.le_of_ble_eq_true rfl⟩ (c_partE (A := be * J 4 3) (B := J 7 1) rfl rfl) rfl rfl (Nat.le_of_ble_eq_true rfl) (fun r I1 J1 hp => ?_)
  obtain ⟨rfl, e2, e3⟩ := hp
  obtain rfl := e2.symm
  obtain rfl := e3.symm
  refine bX4_tellByBasis_131 (s1 := 1) (v134 := nI 2) (v133 := J 11 1 * J 4 3 - pt ((J 11 2 * J 4 3) * J 7 2) (be * J 4 3) * J 6 7 * pt (be * J 4 3) (J 7 2) - pt ((J 11 1 * J 4 3 - pt ((J 11 2 * J 4 3) * J 7 2) (be * J 4 3) * J 6 7 * pt (be * J 4 3) (J 7 2)) * J 7 1) (be * J 4 3) * J 6 4 * pt (be * J 4 3) (J 7 1)) (by decide) rfl rfl ?_
  refine bX4_tellByBasis_89  (fun _ => ?_) (fun c => absurd c (by decide))
  refine bX4_tellByBasis_140 (v140 := nI 0) rfl ?_
  refine bX4_tellByBasis_48  (fun c => absurd c (by decide)) (fun _ => ?_)
  refine bX4_tellByBasis_53 (j57 := 0) (j64 := 0) rfl (by decide) rfl (by decide) ?_
  refine v_X4_88 dX4_tellByBasis_70 rfl ⟨rfl, rfl, Nat.le_of_ble_eq_true rfl, Nat.le_of_ble_eq_true rfl⟩ (c_partE (A := (J 11 0 * J 4 3 - pt ((J 11 2 * J 4 3) * J 7 2) (be * J 4 3) * J 6 6 * pt (be * J 4 3) (J 7 2) - pt ((J 11 1 * J 4 3 - pt ((J 11 2 * J 4 3) * J 7 2) (be * J 4 3) * J 6 7 * pt (be * J 4 3) (J 7 2)) * J 7 1) (be * J 4 3) * J 6 3 * pt (be * J 4 3) (J 7 1)) * J 7 0) (B := be * J 4 3) rfl rfl) rfl rfl (Nat.le_of_ble_eq_true rfl) (fun r I1 J1 hp => ?_)
  obtain ⟨rfl, e2, e3⟩ := hp
  obtain rfl := e2.symm
  obtain rfl := e3.symm
  refine bX4_tellByBasis_73 (j82 := 15) (v87 := nI 0) rfl (by decide) rfl ?_
  refine bX4_tellByBasis_89  (fun c => absurd c (by decide)) (fun _ => ?_)
  refine bX4_tellByBasis_96 (j100 := 0) (j116 := 0) (j125 := 0) rfl (by decide) rfl (by decide) rfl (by decide) ?_
  refine v_X4_88 dX4_tellByBasis_128 rfl ⟨rfl, rfl, Nat.le_of_ble_eq_true rfl, Nat.le_of_ble_eq_true rfl⟩ (c_partE (A := be * J 4 3) (B := J 7 0) rfl rfl) rfl rfl (Nat.le_of_ble_eq_true rfl) (fun r I1 J1 hp => ?_)
  obtain ⟨rfl, e2, e3⟩ := hp
  obtain rfl := e2.symm
  obtain rfl := e3.symm
  refine bX4_tellByBasis_131 (s1 := 0) (v134 := nI 1) (v133 := J 11 0 * J 4 3 - pt ((J 11 2 * J 4 3) * J 7 2) (be * J 4 3) * J 6 6 * pt (be * J 4 3) (J 7 2) - pt ((J 11 1 * J 4 3 - pt ((J 11 2 * J 4 3) * J 7 2) (be * J 4 3) * J 6 7 * pt (be * J 4 3) (J 7 2)) * J 7 1) (be * J 4 3) * J 6 3 * pt (be * J 4 3) (J 7 1) - pt ((J 11 0 * J 4 3 - pt ((J 11 2 * J 4 3) * J 7 2) (be * J 4 3) * J 6 6 * pt (be * J 4 3) (J 7 2) - pt ((J 11 1 * J 4 3 - pt ((J 11 2 * J 4 3) * J 7 2) (be * J 4 3) * J 6 7 * pt (be * J 4 3) (J 7 2)) * J 7 1) (be * J 4 3) * J 6 3 * pt (be * J 4 3) (J 7 1)) * J 7 0) (be * J 4 3) * J 6 0 * pt (be * J 4 3) (J 7 0)) (by decide) rfl rfl ?_
  refine bX4_tellByBasis_89  (fun _ => ?_) (fun c => absurd c (by decide))
  refine bX4_tellByBasis_140 (v140 := (-1)) rfl ?_
  refine bX4_tellByBasis_48  (fun _ => ?_) (fun c => absurd c (by decide))
  exact bX4_tellByBasis_146  ⟨rfl, rfl, rfl, fun q h1 h2 => by simp only [sa_uJ_ne h1, sa_uJ_ne h2]⟩
theorem c_tb3_20 {be : Int64} (hd : I 4 0 = nI 3) : Con (EC l D aI aL ad) M_X4_tellByBasis yX4_tellByBasis [.ref (ad 4), .long be, .int (nI 18)] I J (fun r I1 J1 => r = none ∧ I1 = I ∧ J1 8 = vp_updL (vp_updL (vp_updL (J 8) 20 (tl3 (J 6) (J 11) (J 7 0) (J 7 1) (J 7 2) (J 4 3) be).2.2) 19 (tl3 (J 6) (J 11) (J 7 0) (J 7 1) (J 7 2) (J 4 3) be).2.1) 18 (tl3 (J 6) (J 11) (J 7 0) (J 7 1) (J 7 2) (J 4 3) be).1 ∧ ∀ q, q ≠ 8 → q ≠ 11 → J1 q = J q) := by
  refine Con.of (by decide +kernel) rfl (Nat.le_of_ble_eq_true rfl) ?_
  refine bX4_tellByBasis_0 (v1 := nI 0) rfl ?_
  refine bX4_tellByBasis_3  (fun c => absurd c (by simp only [hd]; decide)) (fun _ => ?_)
  refine bX4_tellByBasis_12 (j16 := 0) (v26 := nI 1) (v25 := J 11 0 * J 4 3) rfl (by decide) (by decide) rfl rfl ?_
  refine bX4_tellByBasis_3  (fun c => absurd c (by simp only [hd]; decide)) (fun _ => ?_)
  refine bX4_tellByBasis_12 (j16 := 1) (v26 := nI 2) (v25 := J 11 1 * J 4 3) rfl (by decide) (by decide) rfl rfl ?_
  refine bX4_tellByBasis_3  (fun c => absurd c (by simp only [hd]; decide)) (fun _ => ?_)
  refine bX4_tellByBasis_12 (j16 := 2) (v26 := nI 3) (v25 := J 11 2 * J 4 3) rfl (by decide) (by decide) rfl rfl ?_
  refine bX4_tellByBasis_3  (fun _ => ?_) (fun c => absurd c (by simp only [hd]; decide))
  refine bX4_tellByBasis_32 (v46 := nI 2) (v38 := be * J 4 3) rfl (by simp only [hd]; rfl) ?_
  refine bX4_tellByBasis_48  (fun c => absurd c (by decide)) (fun _ => ?_)
  refine bX4_tellByBasis_53 (j57 := 2) (j64 := 2) rfl (by decide) rfl (by decide) ?_
  refine v_X4_88 dX4_tellByBasis_70 rfl ⟨rfl, rfl, Nat.le_of_ble_eq_true rfl, Nat.le_of_ble_eq_true rfl⟩ (c_partE (A := (J 11 2 * J 4 3) * J 7 2) (B := be * J 4 3) rfl rfl) rfl rfl (Nat.le_of_ble_eq_true rfl) (fun r I1 J1 hp => ?_)
  obtain ⟨rfl, e2, e3⟩ := hp
  obtain rfl := e2.symm
  obtain rfl := e3.symm
  refine bX4_tellByBasis_73 (j82 := 20) (v87 := nI 0) rfl (by decide) rfl ?_
  refine bX4_tellByBasis_89  (fun c => absurd c (by decide)) (fun _ => ?_)
  refine bX4_tellByBasis_96 (j100 := 0) (j116 := 6) (j125 := 2) rfl (by decide) rfl (by decide) rfl (by decide) ?_
  refine v_X4_88 dX4_tellByBasis_128 rfl ⟨rfl, rfl, Nat.le_of_ble_eq_true rfl, Nat.le_of_ble_eq_true rfl⟩ (c_partE (A := be * J 4 3) (B := J 7 2) rfl rfl) rfl rfl (Nat.le_of_ble_eq_true rfl) (fun r I1 J1 hp => ?_)
  obtain ⟨rfl, e2, e3⟩ := hp
  obtain rfl := e2.symm
  obtain rfl := e3.symm
  refine bX4_tellByBasis_131 (s1 := 0) (v134 := nI 1) (v133 := J 11 0 * J 4 3 - pt ((J 11 2 * J 4 3) * J 7 2) (be * J 4 3) * J 6 6 * pt (be * J 4 3) (J 7 2)) (by decide) rfl rfl ?_
  refine bX4_tellByBasis_89  (fun c => absurd c (by decide)) (fun _ => ?_)
  refine bX4_tellByBasis_96 (j100 := 1) (j116 := 7) (j125 := 2) rfl (by decide) rfl (by decide) rfl (by decide) ?_
  refine v_X4_88 dX4_tellByBasis_128 rfl ⟨rfl, rfl, Nat.le_of_ble_eq_true rfl, Nat.le_of_ble_eq_true rfl⟩ (c_partE (A := be * J 4 3) (B := J 7 2) rfl rfl) rfl rfl (Nat.le_of_ble_eq_true rfl) (fun r I1 J1 hp => ?_)
  obtain ⟨rfl, e2, e3⟩ := hp
  obtain rfl := e2.symm
  obtain rfl := e3.symm
  refine bX4_tellByBasis_131 (s1 := 1) (v134 := nI 2) (v133 := J 11 1 * J 4 3 - pt ((J 11 2 * J 4 3) * J 7 2) (be * J 4 3) * J 6 7 * pt (be * J 4 3) (J 7 2)) (by decide) rfl rfl ?_
  refine bX4_tellByBasis_89  (fun c => absurd c (by decide)) (fun _ => ?_)
  refine bX4_tellByBasis_96 (j100 := 2) (j116 := 8) (j125 := 2) rfl (by decide) rfl (by decide) rfl (by decide) ?_
  refine v_X4_88 dX4_tellByBasis_128 rfl ⟨rfl, rfl, Nat.le_of_ble_eq_true rfl, Nat.le_of_ble_eq_true rfl⟩ (c_partE (A := be * J 4 3) (B := J 7 2) rfl rfl) rfl rfl (Nat.le_of_ble_eq_true rfl) (fun r I1 J1 hp => ?_)
  obtain ⟨rfl, e2, e3⟩ := hp
  obtain rfl := e2.symm
  obtain rfl := e3.symm
  refine bX4_tellByBasis_131 (s1 := 2) (v134 := nI 3) (v133 := J 11 2 * J 4 3 - pt ((J 11 2 * J 4 3) * J 7 2) (be * J 4 3) * J 6 8 * pt (be * J 4 3) (J 7 2)) (by decide) rfl rfl ?_
  refine bX4_tellByBasis_89  (fun _ => ?_) (fun c => absurd c (by decide))
  refine bX4_tellByBasis_140 (v140 := nI 1) rfl ?_
  refine bX4_tellByBasis_48  (fun c => absurd c (by decide)) (fun _ => ?_)
  refine bX4_tellByBasis_53 (j57 := 1) (j64 := 1) rfl (by decide) rfl (by decide) ?_
  refine v_X4_88 dX4_tellByBasis_70 rfl ⟨rfl, rfl, Nat.le_of_ble_eq_true rfl, Nat.le_of_ble_eq_true rfl⟩ (c_partE (A := (J 11 1 * J 4 3 - pt ((J 11 2 * J 4 3) * J 7 2) (be * J 4 3) * J 6 7 * pt (be * J 4 3) (J 7 2)) * J 7 1) (B := be * J 4 3) rfl rfl) rfl rfl (Nat.le_of_ble_eq_true rfl) (fun r I1 J1 hp => ?_)
  obtain ⟨rfl, e2, e3⟩ := hp
  obtain rfl := e2.symm
  obtain rfl := e3.symm
  refine bX4_tellByBasis_73 (j82 := 19) (v87 := nI 0) rfl (by decide) rfl ?_
  refine bX4_tellByBasis_89  (fun c => absurd c (by decide)) (fun _ => ?_)
  refine bX4_tellByBasis_96 (j100 := 0) (j116 := 3) (j125 := 1) rfl (by decide) rfl (by decide) rfl (by decide) ?_
  refine v_X4_88 dX4_tellByBasis_128 rfl ⟨rfl, rfl, Nat.le_of_ble_eq_true rfl, Nat.le_of_ble_eq_true rfl⟩ (c_partE (A := be * J 4 3) (B := J 7 1) rfl rfl) rfl rfl (Nat.le_of_ble_eq_true rfl) (fun r I1 J1 hp => ?_)
  obtain ⟨rfl, e2, e3⟩ := hp
  obtain rfl := e2.symm
  obtain rfl := e3.symm
  refine bX4_tellByBasis_131 (s1 := 0) (v134 := nI 1) (v133 := J 11 0 * J 4 3 - pt ((J 11 2 * J 4 3) * J 7 2) (be * J 4 3) * J 6 6 * pt (be * J 4 3) (J 7 2) - pt ((J 11 1 * J 4 3 - pt ((J 11 2 * J 4 3) * J 7 2) (be * J 4 3) * J 6 7 * pt (be * J 4 3) (J 7 2)) * J 7 1) (be * J 4 3) * J 6 3 * pt (be * J 4 3) (J 7 1)) (by decide) rfl rfl ?_
  refine bX4_tellByBasis_89  (fun c => absurd c (by decide)) (fun _ => ?_)
  refine bX4_tellByBasis_96 (j100 := 1) (j116 := 4) (j125 := 1) rfl (by decide) rfl (by decide) rfl (by decide) ?_
  refine v_X4_88 dX4_tellByBasis_128 rfl ⟨rfl, rfl, Nat.le_of_ble_eq_true rfl, Nat.le_of_ble_eq_true rfl⟩ (c_partE (A := be * J 4 3) (B := J 7 1) rfl rfl) rfl rfl (Nat.le_of_ble_eq_true rfl) (fun r I1 J1 hp => ?_)
  obtain ⟨rfl, e2, e3⟩ := hp
  obtain rfl := e2.symm
  obtain rfl := e3.symm
  refine bX4_tellByBasis_131 (s1 := 1) (v134 := nI 2) (v133 := J 11 1 * J 4 3 - pt ((J 11 2 * J 4 3) * J 7 2) (be * J 4 3) * J 6 7 * pt (be * J 4 3) (J 7 2) - pt ((J 11 1 * J 4 3 - pt ((J 11 2 * J 4 3) * J 7 2) (be * J 4 3) * J 6 7 * pt (be * J 4 3) (J 7 2)) * J 7 1) (be * J 4 3) * J 6 4 * pt (be * J 4 3) (J 7 1)) (by decide) rfl rfl ?_
  refine bX4_tellByBasis_89  (fun _ => ?_) (fun c => absurd c (by decide))
  refine bX4_tellByBasis_140 (v140 := nI 0) rfl ?_
  refine bX4_tellByBasis_48  (fun c => absurd c (by decide)) (fun _ => ?_)
  refine bX4_tellByBasis_53 (j57 := 0) (j64 := 0) rfl (by decide) rfl (by decide) ?_
  refine v_X4_88 dX4_tellByBasis_70 rfl ⟨rfl, rfl, Nat.le_of_ble_eq_true rfl, Nat.le_of_ble_eq_true rfl⟩ (c_partE (A := (J 11 0 * J 4 3 - pt ((J 11 2 * J 4 3) * J 7 2) (be * J 4 3) * J 6 6 * pt (be * J 4 3) (J 7 2) - pt ((J 11 1 * J 4 3 - pt ((J 11 2 * J 4 3) * J 7 2) (be * J 4 3) * J 6 7 * pt (be * J 4 3) (J 7 2)) * J 7 1) (be * J 4 3) * J 6 3 * pt (be * J 4 3) (J 7 1)) * J 7 0) (B := be * J 4 3) rfl rfl) rfl rfl (Nat.le_of_ble_eq_true rfl) (fun r I1 J1 hp => ?_)
  obtain ⟨rfl, e2, e3⟩ := hp
  obtain rfl := e2.symm
  obtain rfl := e3.symm
  refine bX4_tellByBasis_73 (j82 := 18) (v87 := nI 0) rfl (by decide) rfl ?_
  refine bX4_tellByBasis_89  (fun c => absurd c (by decide)) (fun _ => ?_)
  refine bX4_tellByBasis_96 (j100 := 0) (j116 := 0) (j125 := 0) rfl (by decide) rfl (by decide) rfl (by decide) ?_
  refine v_X4_88 dX4_tellByBasis_128 rfl ⟨rfl, rfl, Nat.le_of_ble_eq_true rfl, Nat.le_of_ble_eq_true rfl⟩ (c_partE (A := be * J 4 3) (B := J 7 0) rfl rfl) rfl rfl (Nat.le_of_ble_eq_true rfl) (fun r I1 J1 hp => ?_)
  obtain ⟨rfl, e2, e3⟩ := hp
  obtain rfl := e2.symm
  obtain rfl := e3.symm
  refine bX4_tellByBasis_131 (s1 := 0) (v134 := nI 1) (v133 := J 11 0 * J 4 3 - pt ((J 11 2 * J 4 3) * J 7 2) (be * J 4 3) * J 6 6 * pt (be * J 4 3) (J 7 2) - pt ((J 11 1 * J 4 3 - pt ((J 11 2 * J 4 3) * J 7 2) (be * J 4 3) * J 6 7 * pt (be * J 4 3) (J 7 2)) * J 7 1) (be * J 4 3) * J 6 3 * pt (be * J 4 3) (J 7 1) - pt ((J 11 0 * J 4 3 - pt ((J 11 2 * J 4 3) * J 7 2) (be * J 4 3) * J 6 6 * pt (be * J 4 3) (J 7 2) - pt ((J 11 1 * J 4 3 - pt ((J 11 2 * J 4 3) * J 7 2) (be * J 4 3) * J 6 7 * pt (be * J 4 3) (J 7 2)) * J 7 1) (be * J 4 3) * J 6 3 * pt (be * J 4 3) (J 7 1)) * J 7 0) (be * J 4 3) * J 6 0 * pt (be * J 4 3) (J 7 0)) (by decide) rfl rfl ?_
  refine bX4_tellByBasis_89  (fun _ => ?_) (fun c => absurd c (by decide))
  refine bX4_tellByBasis_140 (v140 := (-1)) rfl ?_
  refine bX4_tellByBasis_48  (fun _ => ?_) (fun c => absurd c (by decide))
  exact bX4_tellByBasis_146  ⟨rfl, rfl, rfl, fun q h1 h2 => by simp only [sa_uJ_ne h1, sa_uJ_ne h2]⟩
theorem c_tb3_21 {be : Int64} (hd : I 4 0 = nI 3) : Con (EC l D aI aL ad) M_X4_tellByBasis yX4_tellByBasis [.ref (ad 4), .long be, .int (nI 21)] I J (fun r I1 J1 => r = none ∧ I1 = I ∧ J1 8 = vp_updL (vp_updL (vp_updL (J 8) 23 (tl3 (J 6) (J 11) (J 7 0) (J 7 1) (J 7 2) (J 4 3) be).2.2) 22 (tl3 (J 6) (J 11) (J 7 0) (J 7 1) (J 7 2) (J 4 3) be).2.1) 21 (tl3 (J 6) (J 11) (J 7 0) (J 7 1) (J 7 2) (J 4 3) be).1 ∧ ∀ q, q ≠ 8 → q ≠ 11 → J1 q = J q) := by
  refine Con.of (by decide +kernel) rfl (Nat.le_of_ble_eq_true rfl) ?_
  refine bX4_tellByBasis_0 (v1 := nI 0) rfl ?_
  refine bX4_tellByBasis_3  (fun c => absurd c (by simp only [hd]; decide)) (fun _ => ?_)
  refine bX4_tellByBasis_12 (j16 := 0) (v26 := nI 1) (v25 := J 11 0 * J 4 3) rfl (by decide) (by decide) rfl rfl ?_
  refine bX4_tellByBasis_3  (fun c => absurd c (by simp only [hd]; decide)) (fun _ => ?_)
  refine bX4_tellByBasis_12 (j16 := 1) (v26 := nI 2) (v25 := J 11 1 * J 4 3) rfl (by decide) (by decide) rfl rfl ?_
  refine bX4_tellByBasis_3  (fun c => absurd c (by simp only [hd]; decide)) (fun _ => ?_)
  refine bX4_tellByBasis_12 (j16 := 2) (v26 := nI 3) (v25 := J 11 2 * J 4 3) rfl (by decide) (by decide) rfl rfl ?_
  refine bX4_tellByBasis_3  (fun _ => ?_) (fun c => absurd c (by simp only [hd]; decide))
  refine bX4_tellByBasis_32 (v46 := nI 2) (v38 := be * J 4 3) rfl (by simp only [hd]; rfl) ?_
  refine bX4_tellByBasis_48  (fun c => absurd c (by decide)) (fun _ => ?_)
  refine bX4_tellByBasis_53 (j57 := 2) (j64 := 2) rfl (by decide) rfl (by decide) ?_
  refine v_X4_88 dX4_tellByBasis_70 rfl ⟨rfl, rfl, Nat.le_of_ble_eq_true rfl, Nat.le_of_ble_eq_true rfl⟩ (c_partE (A := (J 11 2 * J 4 3) * J 7 2) (B := be * J 4 3) rfl rfl) rfl rfl (Nat.le_of_ble_eq_true rfl) (fun r I1 J1 hp => ?_)
  obtain ⟨rfl, e2, e3⟩ := hp
  obtain rfl := e2.symm
  obtain rfl := e3.symm
  refine bX4_tellByBasis_73 (j82 := 23) (v87 := nI 0) rfl (by decide) rfl ?_
  refine bX4_tellByBasis_89  (fun c => absurd c (by decide)) (fun _ => ?_)
  refine bX4_tellByBasis_96 (j100 := 0) (j116 := 6) (j125 := 2) rfl (by decide) rfl (by decide) rfl (by decide) ?_
  refine v_X4_88 dX4_tellByBasis_128 rfl ⟨rfl, rfl, Nat.le_of_ble_eq_true rfl, Nat.le_of_ble_eq_true rfl⟩ (c_partE (A := be * J 4 3) (B := J 7 2) rfl rfl) rfl rfl (Nat.le_of_ble_eq_true rfl) (fun r I1 J1 hp => ?_)
  obtain ⟨rfl, e2, e3⟩ := hp
  obtain rfl := e2.symm
  obtain rfl := e3.symm
  refine bX4_tellByBasis_131 (s1 := 0) (v134 := nI 1) (v133 := J 11 0 * J 4 3 - pt ((J 11 2 * J 4 3) * J 7 2) (be * J 4 3) * J 6 6 * pt (be * J 4 3) (J 7 2)) (by decide) rfl rfl ?_
  refine bX4_tellByBasis_89  (fun c => absurd c (by decide)) (fun _ => ?_)
  refine bX4_tellByBasis_96 (j100 := 1) (j116 := 7) (j125 := 2) rfl (by decide) rfl (by decide) rfl (by decide) ?_
  refine v_X4_88 dX4_tellByBasis_128 rfl ⟨rfl, rfl, Nat.le_of_ble_eq_true rfl, Nat.le_of_ble_eq_true rfl⟩ (c_partE (A := be * J 4 3) (B := J 7 2) rfl rfl) rfl rfl (Nat.le_of_ble_eq_true rfl) (fun r I1 J1 hp => ?_)
  obtain ⟨rfl, e2, e3⟩ := hp
  obtain rfl := e2.symm
  obtain rfl := e3.symm
  refine bX4_tellByBasis_131 (s1 := 1) (v134 := nI 2) (v133 := J 11 1 * J 4 3 - pt ((J 11 2 * J 4 3) * J 7 2) (be * J 4 3) * J 6 7 * pt (be * J 4 3) (J 7 2)) (by decide) rfl rfl ?_
  refine bX4_tellByBasis_89  (fun c => absurd c (by decide)) (fun _ => ?_)
  refine bX4_tellByBasis_96 (j100 := 2) (j116 := 8) (j125 := 2) rfl (by decide) rfl (by decide) rfl (by decide) ?_
  refine v_X4_88 dX4_tellByBasis_128 rfl ⟨rfl, rfl, Nat.le_of_ble_eq_true rfl, Nat.le_of_ble_eq_true rfl⟩ (c_partE (A := be * J 4 3) (B := J 7 2) rfl rfl) rfl rfl (Nat.le_of_ble_eq_true rfl) (fun r I1 J1 hp => ?_)
  obtain ⟨rfl, e2, e3⟩ := hp
  obtain rfl := e2.symm
  obtain rfl := e3.symm
  refine bX4_tellByBasis_131 (s1 := 2) (v134 := nI 3) (v133 := J 11 2 * J 4 3 - pt ((J 11 2 * J 4 3) * J 7 2) (be * J 4 3) * J 6 8 * pt (be * J 4 3) (J 7 2)) (by decide) rfl rfl ?_
  refine bX4_tellByBasis_89  (fun _ => ?_) (fun c => absurd c (by decide))
  refine bX4_tellByBasis_140 (v140 := nI 1) rfl ?_
  refine bX4_tellByBasis_48  (fun c => absurd c (by decide)) (fun _ => ?_)
  refine bX4_tellByBasis_53 (j57 := 1) (j64 := 1) rfl (by decide) rfl (by decide) ?_
  refine v_X4_88 dX4_tellByBasis_70 rfl ⟨rfl, rfl, Nat.le_of_ble_eq_true rfl, Nat.le_of_ble_eq_true rfl⟩ (c_partE (A := (J 11 1 * J 4 3 - pt ((J 11 2 * J 4 3) * J 7 2) (be * J 4 3) * J 6 7 * pt (be * J 4 3) (J 7 2)) * J 7 1) (B := be * J 4 3) rfl rfl) rfl rfl (Nat.le_of_ble_eq_true rfl) (fun r I1 J1 hp => ?_)
  obtain ⟨rfl, e2, e3⟩ := hp
  obtain rfl := e2.symm
  obtain rfl := e3.symm
  refine bX4_tellByBasis_73 (j82 := 22) (v87 := nI 0) rfl (by decide) rfl ?_
  refine bX4_tellByBasis_89  (fun c => absurd c (by decide)) (fun _ => ?_)
  refine bX4_tellByBasis_96 (j100 := 0) (j116 := 3) (j125 := 1) rfl (by decide) rfl (by decide) rfl (by decide) ?_
  refine v_X4_88 dX4_tellByBasis_128 rfl ⟨rfl, rfl, Nat.le_of_ble_eq_true rfl, Nat.le_of_ble_eq_true rfl⟩ (c_partE (A := be * J 4 3) (B := J 7 1) rfl rfl) rfl rfl (Nat.le_of_ble_eq_true rfl) (fun r I1 J1 hp => ?_)
  obtain ⟨rfl, e2, e3⟩ := hp
  obtain rfl := e2.symm
  obtain rfl := e3.symm
  refine bX4_tellByBasis_131 (s1 := 0) (v134 := nI 1) (v133 := J 11 0 * J 4 3 - pt ((J 11 2 * J 4 3) * J 7 2) (be * J 4 3) * J 6 6 * pt (be * J 4 3) (J 7 2) - pt ((J 11 1 * J 4 3 - pt ((J 11 2 * J 4 3) * J 7 2) (be * J 4 3) * J 6 7 * pt (be * J 4 3) (J 7 2)) * J 7 1) (be * J 4 3) * J 6 3 * pt (be * J 4 3) (J 7 1)) (by decide) rfl rfl ?_
  refine bX4_tellByBasis_89  (fun c => absurd c (by decide)) (fun _ => ?_)
  refine bX4_tellByBasis_96 (j100 := 1) (j116 := 4) (j125 := 1) rfl (by decide) rfl (by decide) rfl (by decide) ?_
  refine v_X4_88 dX4_tellByBasis_128 rfl ⟨rfl, rfl, Nat.le_of_ble_eq_true rfl, Nat.le_of_ble_eq_true rfl⟩ (c_partE (A := be * J 4 3) (B := J 7 1) rfl rfl) rfl rfl (Nat.le_of_ble_eq_true rfl) (fun r I1 J1 hp => ?_)
  obtain ⟨rfl, e2, e3⟩ := hp
  obtain rfl := e2.symm
  obtain rfl := e3.symm
  refine bX4_tellByBasis_131 (s1 := 1) (v134 := nI 2) (v133 := J 11 1 * J 4 3 - pt ((J 11 2 * J 4 3) * J 7 2) (be * J 4 3) * J 6 7 * pt (be * J 4 3) (J 7 2) - pt ((J 11 1 * J 4 3 - pt ((J 11 2 * J 4 3) * J 7 2) (be * J 4 3) * J 6 7 * pt (be * J 4 3) (J 7 2)) * J 7 1) (be * J 4 3) * J 6 4 * pt (be * J 4 3) (J 7 1)) (by decide) rfl rfl ?_
  refine bX4_tellByBasis_89  (fun _ => ?_) (fun c => absurd c (by decide))
  refine bX4_tellByBasis_140 (v140 := nI 0) rfl ?_
  refine bX4_tellByBasis_48  (fun c => absurd c (by decide)) (fun _ => ?_)
  refine bX4_tellByBasis_53 (j57 := 0) (j64 := 0) rfl (by decide) rfl (by decide) ?_
  refine v_X4_88 dX4_tellByBasis_70 rfl ⟨rfl, rfl, Nat.le_of_ble_eq_true rfl, Nat.le_of_ble_eq_true rfl⟩ (c_partE (A := (J 11 0 * J 4 3 - pt ((J 11 2 * J 4 3) * J 7 2) (be * J 4 3) * J 6 6 * pt (be * J 4 3) (J 7 2) - pt ((J 11 1 * J 4 3 - pt ((J 11 2 * J 4 3) * J 7 2) (be * J 4 3) * J 6 7 * pt (be * J 4 3) (J 7 2)) * J 7 1) (be * J 4 3) * J 6 3 * pt (be * J 4 3) (J 7 1)) * J 7 0) (B := be * J 4 3) rfl rfl) rfl rfl (Nat.le_of_ble_eq_true rfl) (fun r I1 J1 hp => ?_)
  obtain ⟨rfl, e2, e3⟩ := hp
  obtain rfl := e2.symm
  obtain rfl := e3.symm
  refine bX4_tellByBasis_73 (j82 := 21) (v87 := nI 0) rfl (by decide) rfl ?_
  refine bX4_tellByBasis_89  (fun c => absurd c (by decide)) (fun _ => ?_)
  refine bX4_tellByBasis_96 (j100 := 0) (j116 := 0) (j125 := 0) rfl (by decide) rfl (by decide) rfl (by decide) ?_
  refine v_X4_88 dX4_tellByBasis_128 rfl ⟨rfl, rfl, Nat.le_of_ble_eq_true rfl, Nat.le_of_ble_eq_true rfl⟩ (c_partE (A := be * J 4 3) (B := J 7 0) rfl rfl) rfl rfl (Nat.le_of_ble_eq_true rfl) (fun r I1 J1 hp => ?_)
  obtain ⟨rfl, e2, e3⟩ := hp
  obtain rfl := e2.symm
  obtain rfl := e3.symm
  refine bX4_tellByBasis_131 (s1 := 0) (v134 := nI 1) (v133 := J 11 0 * J 4 3 - pt ((J 11 2 * J 4 3) * J 7 2) (be * J 4 3) * J 6 6 * pt (be * J 4 3) (J 7 2) - pt ((J 11 1 * J 4 3 - pt ((J 11 2 * J 4 3) * J 7 2) (be * J 4 3) * J 6 7 * pt (be * J 4 3) (J 7 2)) * J 7 1) (be * J 4 3) * J 6 3 * pt (be * J 4 3) (J 7 1) - pt ((J 11 0 * J 4 3 - pt ((J 11 2 * J 4 3) * J 7 2) (be * J 4 3) * J 6 6 * pt (be * J 4 3) (J 7 2) - pt ((J 11 1 * J 4 3 - pt ((J 11 2 * J 4 3) * J 7 2) (be * J 4 3) * J 6 7 * pt (be * J 4 3) (J 7 2)) * J 7 1) (be * J 4 3) * J 6 3 * pt (be * J 4 3) (J 7 1)) * J 7 0) (be * J 4 3) * J 6 0 * pt (be * J 4 3) (J 7 0)) (by decide) rfl rfl ?_
  refine bX4_tellByBasis_89  (fun _ => ?_) (fun c => absurd c (by decide))
  refine bX4_tellByBasis_140 (v140 := (-1)) rfl ?_
  refine bX4_tellByBasis_48  (fun _ => ?_) (fun c => absurd c (by decide))
  exact bX4_tellByBasis_146  ⟨rfl, rfl, rfl, fun q h1 h2 => by simp only [sa_uJ_ne h1, sa_uJ_ne h2]⟩
theorem c_tb3_22 {be : Int64} (hd : I 4 0 = nI 3) : Con (EC l D aI aL ad) M_X4_tellByBasis yX4_tellByBasis [.ref (ad 4), .long be, .int (nI 24)] I J (fun r I1 J1 => r = none ∧ I1 = I ∧ J1 8 = vp_updL (vp_updL (vp_updL (J 8) 26 (tl3 (J 6) (J 11) (J 7 0) (J 7 1) (J 7 2) (J 4 3) be).2.2) 25 (tl3 (J 6) (J 11) (J 7 0) (J 7 1) (J 7 2) (J 4 3) be).2.1) 24 (tl3 (J 6) (J 11) (J 7 0) (J 7 1) (J 7 2) (J 4 3) be).1 ∧ ∀ q, q ≠ 8 → q ≠ 11 → J1 q = J q) := by
  refine Con.of (by decide +kernel) rfl (Nat.le_of_ble_eq_true rfl) ?_
  refine bX4_tellByBasis_0 (v1 := nI 0) rfl ?_
  refine bX4_tellByBasis_3  (fun c => absurd c (by simp only [hd]; decide)) (fun _ => ?_)
  refine bX4_tellByBasis_12 (j16 := 0) (v26 := nI 1) (v25 := J 11 0 * J 4 3) rfl (by decide) (by decide) rfl rfl ?_
  refine bX4_tellByBasis_3  (fun c => absurd c (by simp only [hd]; decide)) (fun _ => ?_)
  refine bX4_tellByBasis_12 (j16 := 1) (v26 := nI 2) (v25 := J 11 1 * J 4 3) rfl (by decide) (by decide) rfl rfl ?_
  refine bX4_tellByBasis_3  (fun c => absurd c (by simp only [hd]; decide)) (fun _ => ?_)
  refine bX4_tellByBasis_12 (j16 := 2) (v26 := nI 3) (v25 := J 11 2 * J 4 3) rfl (by decide) (by decide) rfl rfl ?_
  refine bX4_tellByBasis_3  (fun _ => ?_) (fun c => absurd c (by simp only [hd]; decide))
  refine bX4_tellByBasis_32 (v46 := nI 2) (v38 := be * J 4 3) rfl (by simp only [hd]; rfl) ?_
  refine bX4_tellByBasis_48  (fun c => absurd c (by decide)) (fun _ => ?_)
  refine bX4_tellByBasis_53 (j57 := 2) (j64 := 2) rfl (by decide) rfl (by decide) ?_
  refine v_X4_88 dX4_tellByBasis_70 rfl ⟨rfl, rfl, Nat.le_of_ble_eq_true rfl, Nat.le_of_ble_eq_true rfl⟩ (c_partE (A := (J 11 2 * J 4 3) * J 7 2) (B := be * J 4 3) rfl rfl) rfl rfl (Nat.le_of_ble_eq_true rfl) (fun r I1 J1 hp => ?_)
  obtain ⟨rfl, e2, e3⟩ := hp
  obtain rfl := e2.symm
  obtain rfl := e3.symm
  refine bX4_tellByBasis_73 (j82 := 26) (v87 := nI 0) rfl (by decide) rfl ?_
  refine bX4_tellByBasis_89  (fun c => absurd c (by decide)) (fun _ => ?_)
  refine bX4_tellByBasis_96 (j100 := 0) (j116 := 6) (j125 := 2) rfl (by decide) rfl (by decide) rfl (by decide) ?_
  refine v_X4_88 dX4_tellByBasis_128 rfl ⟨rfl, rfl, Nat.le_of_ble_eq_true rfl, Nat.le_of_ble_eq_true rfl⟩ (c_partE (A := be * J 4 3) (B := J 7 2) rfl rfl) rfl rfl (Nat.le_of_ble_eq_true rfl) (fun r I1 J1 hp => ?_)
  obtain ⟨rfl, e2, e3⟩ := hp
  obtain rfl := e2.symm
  obtain rfl := e3.symm
  refine bX4_tellByBasis_131 (s1 := 0) (v134 := nI 1) (v133 := J 11 0 * J 4 3 - pt ((J 11 2 * J 4 3) * J 7 2) (be * J 4 3) * J 6 6 * pt (be * J 4 3) (J 7 2)) (by decide) rfl rfl ?_
  refine bX4_tellByBasis_89  (fun c => absurd c (by decide)) (fun _ => ?_)
  refine bX4_tellByBasis_96 (j100 := 1) (j116 := 7) (j125 := 2) rfl (by decide) rfl (by decide) rfl (by decide) ?_
  refine v_X4_88 dX4_tellByBasis_128 rfl ⟨rfl, rfl, Nat.le_of_ble_eq_true rfl, Nat.le_of_ble_eq_true rfl⟩ (c_partE (A := be * J 4 3) (B := J 7 2) rfl rfl) rfl rfl (Nat.le_of_ble_eq_true rfl) (fun r I1 J1 hp => ?_)
  obtain ⟨rfl, e2, e3⟩ := hp
  obtain rfl := e2.symm
  obtain rfl := e3.symm
  refine bX4_tellByBasis_131 (s1 := 1) (v134 := nI 2) (v133 := J 11 1 * J 4 3 - pt ((J 11 2 * J 4 3) * J 7 2) (be * J 4 3) * J 6 7 * pt (be * J 4 3) (J 7 2)) (by decide) rfl rfl ?_
  refine bX4_tellByBasis_89  (fun c => absurd c (by decide)) (fun _ => ?_)
  refine bX4_tellByBasis_96 (j100 := 2) (j116 := 8) (j125 := 2) rfl (by decide) rfl (by decide) rfl (by decide) ?_
  refine v_X4_88 dX4_tellByBasis_128 rfl ⟨rfl, rfl, Nat.le_of_ble_eq_true rfl, Nat.le_of_ble_eq_true rfl⟩ (c_partE (A := be * J 4 3) (B := J 7 2) rfl rfl) rfl rfl (Nat.le_of_ble_eq_true rfl) (fun r I1 J1 hp => ?_)
  obtain ⟨rfl, e2, e3⟩ := hp
  obtain rfl := e2.symm
  obtain rfl := e3.symm
  refine bX4_tellByBasis_131 (s1 := 2) (v134 := nI 3) (v133 := J 11 2 * J 4 3 - pt ((J 11 2 * J 4 3) * J 7 2) (be * J 4 3) * J 6 8 * pt (be * J 4 3) (J 7 2)) (by decide) rfl rfl ?_
  refine bX4_tellByBasis_89  (fun _ => ?_) (fun c => absurd c (by decide))
  refine bX4_tellByBasis_140 (v140 := nI 1) rfl ?_
  refine bX4_tellByBasis_48  (fun c => absurd c (by decide)) (fun _ => ?_)
  refine bX4_tellByBasis_53 (j57 := 1) (j64 := 1) rfl (by decide) rfl (by decide) ?_
  refine v_X4_88 dX4_tellByBasis_70 rfl ⟨rfl, rfl, Nat.le_of_ble_eq_true rfl, Nat.le_of_ble_eq_true rfl⟩ (c_partE (A := (J 11 1 * J 4 3 - pt ((J 11 2 * J 4 3) * J 7 2) (be * J 4 3) * J 6 7 * pt (be * J 4 3) (J 7 2)) * J 7 1) (B := be * J 4 3) rfl rfl) rfl rfl (Nat.le_of_ble_eq_true rfl) (fun r I1 J1 hp => ?_)
  obtain ⟨rfl, e2, e3⟩ := hp
  obtain rfl := e2.symm
  obtain rfl := e3.symm
  refine bX4_tellByBasis_73 (j82 := 25) (v87 := nI 0) rfl (by decide) rfl ?_
  refine bX4_tellByBasis_89  (fun c => absurd c (by decide)) (fun _ => ?_)
  refine bX4_tellByBasis_96 (j100 := 0) (j116 := 3) (j125 := 1) rfl (by decide) rfl (by decide) rfl (by decide) ?_
  refine v_X4_88 dX4_tellByBasis_128 rfl ⟨rfl, rfl, Nat.le_of_ble_eq_true rfl, Nat.le_of_ble_eq_true rfl⟩ (c_partE (A := be * J 4 3) (B := J 7 1) rfl rfl) rfl rfl (Nat.le_of_ble_eq_true rfl) (fun r I1 J1 hp => ?_)
  obtain ⟨rfl, e2, e3⟩ := hp
  obtain rfl := e2.symm
  obtain rfl := e3.symm
  refine bX4_tellByBasis_131 (s1 := 0) (v134 := nI 1) (v133 := J 11 0 * J 4 3 - pt ((J 11 2 * J 4 3) * J 7 2) (be * J 4 3) * J 6 6 * pt (be * J 4 3) (J 7 2) - pt ((J 11 1 * J 4 3 - pt ((J 11 2 * J 4 3) * J 7 2) (be * J 4 3) * J 6 7 * pt (be * J 4 3) (J 7 2)) * J 7 1) (be * J 4 3) * J 6 3 * pt (be * J 4 3) (J 7 1)) (by decide) rfl rfl ?_
  refine bX4_tellByBasis_89  (fun c => absurd c (by decide)) (fun _ => ?_)
  refine bX4_tellByBasis_96 (j100 := 1) (j116 := 4) (j125 := 1) rfl (by decide) rfl (by decide) rfl (by decide) ?_
  refine v_X4_88 dX4_tellByBasis_128 rfl ⟨rfl, rfl, Nat.le_of_ble_eq_true rfl, Nat.le_of_ble_eq_true rfl⟩ (c_partE (A := be * J 4 3) (B := J 7 1) rfl rfl) rfl rfl (Nat.le_of_ble_eq_true rfl) (fun r I1 J1 hp => ?_)
  obtain ⟨rfl, e2, e3⟩ := hp
  obtain rfl := e2.symm
  obtain rfl := e3.symm
  refine bX4_tellByBasis_131 (s1 := 1) (v134 := nI 2) (v133 := J 11 1 * J 4 3 - pt ((J 11 2 * J 4 3) * J 7 2) (be * J 4 3) * J 6 7 * pt (be * J 4 3) (J 7 2) - pt ((J 11 1 * J 4 3 - pt ((J 11 2 * J 4 3) * J 7 2) (be * J 4 3) * J 6 7 * pt (be * J 4 3) (J 7 2)) * J 7 1) (be * J 4 3) * J 6 4 * pt (be * J 4 3) (J 7 1)) (by decide) rfl rfl ?_
  refine bX4_tellByBasis_89  (fun _ => ?_) (fun c => absurd c (by decide))
  refine bX4_tellByBasis_140 (v140 := nI 0) rfl ?_
  refine bX4_tellByBasis_48  (fun c => absurd c (by decide)) (fun _ => ?_)
  refine bX4_tellByBasis_53 (j57 := 0) (j64 := 0) rfl (by decide) rfl (by decide) ?_
  refine v_X4_88 dX4_tellByBasis_70 rfl ⟨rfl, rfl, Nat.le_of_ble_eq_true rfl, Nat.le_of_ble_eq_true rfl⟩ (c_partE (A := (J 11 0 * J 4 3 - pt ((J 11 2 * J 4 3) * J 7 2) (be * J 4 3) * J 6 6 * pt (be * J 4 3) (J 7 2) - pt ((J 11 1 * J 4 3 - pt ((J 11 2 * J 4 3) * J 7 2) (be * J 4 3) * J 6 7 * pt (be * J 4 3) (J 7 2)) * J 7 1) (be * J 4 3) * J 6 3 * pt (be * J 4 3) (J 7 1)) * J 7 0) (B := be * J 4 3) rfl rfl) rfl rfl (Nat.le_of_ble_eq_true rfl) (fun r I1 J1 hp => ?_)
  obtain ⟨rfl, e2, e3⟩ := hp
  obtain rfl := e2.symm
  obtain rfl := e3.symm
  refine bX4_tellByBasis_73 (j82 := 24) (v87 := nI 0) rfl (by decide) rfl ?_
  refine bX4_tellByBasis_89  (fun c => absurd c (by decide)) (fun _ => ?_)
  refine bX4_tellByBasis_96 (j100 := 0) (j116 := 0) (j125 := 0) rfl (by decide) rfl (by decide) rfl (by decide) ?_
  refine v_X4_88 dX4_tellByBasis_128 rfl ⟨rfl, rfl, Nat.le_of_ble_eq_true rfl, Nat.le_of_ble_eq_true rfl⟩ (c_partE (A := be * J 4 3) (B := J 7 0) rfl rfl) rfl rfl (Nat.le_of_ble_eq_true rfl) (fun r I1 J1 hp => ?_)
  obtain ⟨rfl, e2, e3⟩ := hp
  obtain rfl := e2.symm
  obtain rfl := e3.symm
  refine bX4_tellByBasis_131 (s1 := 0) (v134 := nI 1) (v133 := J 11 0 * J 4 3 - pt ((J 11 2 * J 4 3) * J 7 2) (be * J 4 3) * J 6 6 * pt (be * J 4 3) (J 7 2) - pt ((J 11 1 * J 4 3 - pt ((J 11 2 * J 4 3) * J 7 2) (be * J 4 3) * J 6 7 * pt (be * J 4 3) (J 7 2)) * J 7 1) (be * J 4 3) * J 6 3 * pt (be * J 4 3) (J 7 1) - pt ((J 11 0 * J 4 3 - pt ((J 11 2 * J 4 3) * J 7 2) (be * J 4 3) * J 6 6 * pt (be * J 4 3) (J 7 2) - pt ((J 11 1 * J 4 3 - pt ((J 11 2 * J 4 3) * J 7 2) (be * J 4 3) * J 6 7 * pt (be * J 4 3) (J 7 2)) * J 7 1) (be * J 4 3) * J 6 3 * pt (be * J 4 3) (J 7 1)) * J 7 0) (be * J 4 3) * J 6 0 * pt (be * J 4 3) (J 7 0)) (by decide) rfl rfl ?_
  refine bX4_tellByBasis_89  (fun _ => ?_) (fun c => absurd c (by decide))
  refine bX4_tellByBasis_140 (v140 := (-1)) rfl ?_
  refine bX4_tellByBasis_48  (fun _ => ?_) (fun c => absurd c (by decide))
  exact bX4_tellByBasis_146  ⟨rfl, rfl, rfl, fun q h1 h2 => by simp only [sa_uJ_ne h1, sa_uJ_ne h2]⟩
end MM
