/-- whether v is from 0 up to m less 1, as 1 or 0 -/
def inB (v m : Int32) : Int32 := if v < 0 then 0 else if m ≤ v then 0 else 1
theorem inB_nar (v m : Int32) : narrow .boolean (.int (inB v m)) = .int (inB v m) := by
  unfold inB
  split
  · rfl
  · split <;> rfl
section SM
variable {E : sa_E} {l : Launch} {D : va_G} {aI aL : ClassId} {ad : Nat → Nat} {I : sa_I} {J : sa_J}
theorem c_isPlace6 {x : Int32} : Con (EC l D aI aL ad) M_X6_isPlace yX6_isPlace [.ref (ad 0), .int x] I J (p_i (inB x (I 4 0)) I J) := by
  refine Con.of (by decide +kernel) rfl (Nat.le_of_ble_eq_true rfl) ?_
  refine bX6_isPlace_0 (fun c => bX6_isPlace_19 (bX6_isPlace_20 rfl ⟨by rw [inB, if_pos c], rfl, rfl⟩)) (fun c => ?_)
  exact bX6_isPlace_4 (fun c2 => bX6_isPlace_19 (bX6_isPlace_20 rfl ⟨by rw [inB, if_neg c, if_pos c2], rfl, rfl⟩)) (fun c2 => bX6_isPlace_15 (bX6_isPlace_20 rfl ⟨by rw [inB, if_neg c, if_neg c2], rfl, rfl⟩))
theorem c_isElement6 {x : Int32} : Con (EC l D aI aL ad) M_X6_isElement yX6_isElement [.ref (ad 0), .int x] I J (p_i (inB x (I 0 8)) I J) := by
  refine Con.of (by decide +kernel) rfl (Nat.le_of_ble_eq_true rfl) ?_
  refine bX6_isElement_0 (fun c => bX6_isElement_16 (bX6_isElement_17 rfl ⟨by rw [inB, if_pos c], rfl, rfl⟩)) (fun c => ?_)
  exact bX6_isElement_4 (fun c2 => bX6_isElement_16 (bX6_isElement_17 rfl ⟨by rw [inB, if_neg c, if_pos c2], rfl, rfl⟩)) (fun c2 => bX6_isElement_12 (bX6_isElement_17 rfl ⟨by rw [inB, if_neg c, if_neg c2], rfl, rfl⟩))
theorem c_isIdeal6 {x : Int32} : Con (EC l D aI aL ad) M_X6_isIdeal yX6_isIdeal [.ref (ad 0), .int x] I J (p_i (inB x (I 0 9)) I J) := by
  refine Con.of (by decide +kernel) rfl (Nat.le_of_ble_eq_true rfl) ?_
  refine bX6_isIdeal_0 (fun c => bX6_isIdeal_16 (bX6_isIdeal_17 rfl ⟨by rw [inB, if_pos c], rfl, rfl⟩)) (fun c => ?_)
  exact bX6_isIdeal_4 (fun c2 => bX6_isIdeal_16 (bX6_isIdeal_17 rfl ⟨by rw [inB, if_neg c, if_pos c2], rfl, rfl⟩)) (fun c2 => bX6_isIdeal_12 (bX6_isIdeal_17 rfl ⟨by rw [inB, if_neg c, if_neg c2], rfl, rfl⟩))
theorem c_isIn {x m : Int32} : Con E M_X7_isIn yX7_isIn [.int x, .int m] I J (p_i (inB x m) I J) := by
  refine Con.of (by decide +kernel) rfl (Nat.le_of_ble_eq_true rfl) ?_
  refine bX7_isIn_0 (fun c => bX7_isIn_13 (bX7_isIn_14 rfl ⟨by rw [inB, if_pos c], rfl, rfl⟩)) (fun c => ?_)
  exact bX7_isIn_4 (fun c2 => bX7_isIn_13 (bX7_isIn_14 rfl ⟨by rw [inB, if_neg c, if_pos c2], rfl, rfl⟩)) (fun c2 => bX7_isIn_9 (bX7_isIn_14 rfl ⟨by rw [inB, if_neg c, if_neg c2], rfl, rfl⟩))
theorem c_isElement7 {x : Int32} : Con (ER l D aI aL ad) M_X7_isElement yX7_isElement [.ref (ad 0), .int x] I J (p_i (inB x (I 0 13)) I J) := by
  refine Con.of (by decide +kernel) rfl (Nat.le_of_ble_eq_true rfl) ?_
  refine bX7_isElement_0 (v_X7_210 dX7_isElement_5 rfl ⟨rfl, rfl, Nat.le_of_ble_eq_true rfl, Nat.le_of_ble_eq_true rfl⟩ c_isIn rfl rfl (Nat.le_of_ble_eq_true rfl) (fun r I1 J1 hp => ?_))
  obtain ⟨rfl, rfl, rfl⟩ := hp
  exact bX7_isElement_8 (inB_nar _ _) ⟨rfl, rfl, rfl⟩
theorem c_isIdeal7 {x : Int32} : Con (ER l D aI aL ad) M_X7_isIdeal yX7_isIdeal [.ref (ad 0), .int x] I J (p_i (inB x (I 0 14)) I J) := by
  refine Con.of (by decide +kernel) rfl (Nat.le_of_ble_eq_true rfl) ?_
  refine bX7_isIdeal_0 (v_X7_210 dX7_isIdeal_5 rfl ⟨rfl, rfl, Nat.le_of_ble_eq_true rfl, Nat.le_of_ble_eq_true rfl⟩ c_isIn rfl rfl (Nat.le_of_ble_eq_true rfl) (fun r I1 J1 hp => ?_))
  obtain ⟨rfl, rfl, rfl⟩ := hp
  exact bX7_isIdeal_8 (inB_nar _ _) ⟨rfl, rfl, rfl⟩
theorem c_isSmallPrime {p : Int} (hr : rgi p) : Con E M_X6_isSmallPrime yX6_isSmallPrime [.int (iI p)] I J (p_i (if p ≤ 97 ∧ ipr p = true then 1 else 0) I J) := by
  refine Con.of (by decide +kernel) rfl (Nat.le_of_ble_eq_true rfl) ?_
  have r97 : rgi 97 := ⟨by omega, by omega⟩
  refine bX6_isSmallPrime_0 (fun c => ?_) (fun c => ?_)
  · rw [iI_clt hr r97 (by decide)] at c
    exact bX6_isSmallPrime_18 (bX6_isSmallPrime_19 rfl ⟨by rw [if_neg (fun q => by omega)], rfl, rfl⟩)
  · rw [iI_clt hr r97 (by decide)] at c
    refine bX6_isSmallPrime_6 ?_
    rw [iI_lI hr]
    refine v_X6_289 dX6_isSmallPrime_8 rfl ⟨rfl, rfl, Nat.le_of_ble_eq_true rfl, Nat.le_of_ble_eq_true rfl⟩ (c_isPrimeNumber (p := p) ⟨by have := hr.1; omega, by have := hr.2; omega⟩ (by omega)) rfl rfl (Nat.le_of_ble_eq_true rfl) (fun r I1 J1 hp => ?_)
    obtain ⟨rfl, rfl, rfl⟩ := hp
    by_cases hi : ipr p = true
    · rw [if_pos hi]
      exact bX6_isSmallPrime_11 (fun q => absurd q (by decide)) (fun _ => bX6_isSmallPrime_14 (bX6_isSmallPrime_19 rfl ⟨by rw [if_pos ⟨by omega, hi⟩], rfl, rfl⟩))
    · rw [if_neg hi]
      exact bX6_isSmallPrime_11 (fun _ => bX6_isSmallPrime_18 (bX6_isSmallPrime_19 rfl ⟨by rw [if_neg (fun q => hi q.2)], rfl, rfl⟩)) (fun q => absurd rfl q)
end SM
