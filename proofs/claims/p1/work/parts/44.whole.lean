section RH
variable {l : Launch} {D : va_G} {aI aL : ClassId} {ad : Nat → Nat} {I : sa_I} {J : sa_J}
theorem c_matrixByPowers2 {u0 u1 u2 : Int64} (hd : I 4 0 = nI 2) : Con (EC l D aI aL ad) M_X4_matrixByPowers yX4_matrixByPowers [.ref (ad 4), .long u0, .long u1, .long u2] I J (fun r I1 J1 => r = none ∧ I1 = I ∧ J1 10 0 = u0 ∧ J1 10 1 = u1 ∧ J1 10 2 = u2 ∧ J1 10 3 = 0 - u1 * J 5 0 ∧ J1 10 4 = u0 - u1 * J 5 1 ∧ ∀ q, q ≠ 10 → J1 q = J q) := by
  refine Con.of (by decide +kernel) rfl (Nat.le_of_ble_eq_true rfl) ?_
  refine bX4_matrixByPowers_0 (v23 := nI 1) (by first | rfl | (simp only [hd]; rfl)) ?_
  refine bX4_matrixByPowers_25  (fun c => absurd c (by first | decide | (simp only [hd]; decide))) (fun _ => ?_)
  refine bX4_matrixByPowers_34 (j48 := 1) (v53 := nI 0) (by first | rfl | (simp only [hd]; rfl)) (by decide) rfl (by first | rfl | (simp only [hd]; rfl)) ?_
  refine bX4_matrixByPowers_55  (fun c => absurd c (by first | decide | (simp only [hd]; decide))) (fun _ => ?_)
  refine bX4_matrixByPowers_64  (fun c => absurd c (by first | decide | (simp only [hd]; decide))) (fun _ => ?_)
  refine bX4_matrixByPowers_69  ?_
  refine bX4_matrixByPowers_87 (j99 := 3) (j108 := 0) (v114 := nI 1) (by first | rfl | (simp only [hd]; rfl)) (by first | rfl | (simp only [hd]; rfl)) (by decide) (by decide) rfl (by first | rfl | (simp only [hd]; rfl)) ?_
  refine bX4_matrixByPowers_55  (fun c => absurd c (by first | decide | (simp only [hd]; decide))) (fun _ => ?_)
  refine bX4_matrixByPowers_64  (fun _ => ?_) (fun c => absurd c (by first | decide | (simp only [hd]; decide)))
  refine bX4_matrixByPowers_73 (j85 := 0) (by first | rfl | (simp only [hd]; rfl)) (by decide) ?_
  refine bX4_matrixByPowers_87 (j99 := 4) (j108 := 1) (v114 := nI 2) (by first | rfl | (simp only [hd]; rfl)) (by first | rfl | (simp only [hd]; rfl)) (by decide) (by decide) rfl (by first | rfl | (simp only [hd]; rfl)) ?_
  refine bX4_matrixByPowers_55  (fun _ => ?_) (fun c => absurd c (by first | decide | (simp only [hd]; decide)))
  refine bX4_matrixByPowers_120 (v120 := nI 2) (by first | rfl | (simp only [hd]; rfl)) ?_
  refine bX4_matrixByPowers_25  (fun _ => ?_) (fun c => absurd c (by first | decide | (simp only [hd]; decide)))
  exact bX4_matrixByPowers_126  ⟨rfl, rfl, rfl, rfl, rfl, rfl, rfl, fun q h => by simp only [sa_uJ_ne h]⟩
theorem c_matrixByPowers3 {u0 u1 u2 : Int64} (hd : I 4 0 = nI 3) : Con (EC l D aI aL ad) M_X4_matrixByPowers yX4_matrixByPowers [.ref (ad 4), .long u0, .long u1, .long u2] I J (fun r I1 J1 => r = none ∧ I1 = I ∧ J1 10 0 = u0 ∧ J1 10 1 = u1 ∧ J1 10 2 = u2 ∧ J1 10 3 = 0 - u2 * J 5 0 ∧ J1 10 4 = u0 - u2 * J 5 1 ∧ J1 10 5 = u1 - u2 * J 5 2 ∧ J1 10 6 = 0 - (u1 - u2 * J 5 2) * J 5 0 ∧ J1 10 7 = (0 - u2 * J 5 0) - (u1 - u2 * J 5 2) * J 5 1 ∧ J1 10 8 = (u0 - u2 * J 5 1) - (u1 - u2 * J 5 2) * J 5 2 ∧ ∀ q, q ≠ 10 → J1 q = J q) := by
  refine Con.of (by decide +kernel) rfl (Nat.le_of_ble_eq_true rfl) ?_
  refine bX4_matrixByPowers_0 (v23 := nI 1) (by first | rfl | (simp only [hd]; rfl)) ?_
  refine bX4_matrixByPowers_25  (fun c => absurd c (by first | decide | (simp only [hd]; decide))) (fun _ => ?_)
  refine bX4_matrixByPowers_34 (j48 := 2) (v53 := nI 0) (by first | rfl | (simp only [hd]; rfl)) (by decide) rfl (by first | rfl | (simp only [hd]; rfl)) ?_
  refine bX4_matrixByPowers_55  (fun c => absurd c (by first | decide | (simp only [hd]; decide))) (fun _ => ?_)
  refine bX4_matrixByPowers_64  (fun c => absurd c (by first | decide | (simp only [hd]; decide))) (fun _ => ?_)
  refine bX4_matrixByPowers_69  ?_
  refine bX4_matrixByPowers_87 (j99 := 3) (j108 := 0) (v114 := nI 1) (by first | rfl | (simp only [hd]; rfl)) (by first | rfl | (simp only [hd]; rfl)) (by decide) (by decide) rfl (by first | rfl | (simp only [hd]; rfl)) ?_
  refine bX4_matrixByPowers_55  (fun c => absurd c (by first | decide | (simp only [hd]; decide))) (fun _ => ?_)
  refine bX4_matrixByPowers_64  (fun _ => ?_) (fun c => absurd c (by first | decide | (simp only [hd]; decide)))
  refine bX4_matrixByPowers_73 (j85 := 0) (by first | rfl | (simp only [hd]; rfl)) (by decide) ?_
  refine bX4_matrixByPowers_87 (j99 := 4) (j108 := 1) (v114 := nI 2) (by first | rfl | (simp only [hd]; rfl)) (by first | rfl | (simp only [hd]; rfl)) (by decide) (by decide) rfl (by first | rfl | (simp only [hd]; rfl)) ?_
  refine bX4_matrixByPowers_55  (fun c => absurd c (by first | decide | (simp only [hd]; decide))) (fun _ => ?_)
  refine bX4_matrixByPowers_64  (fun _ => ?_) (fun c => absurd c (by first | decide | (simp only [hd]; decide)))
  refine bX4_matrixByPowers_73 (j85 := 1) (by first | rfl | (simp only [hd]; rfl)) (by decide) ?_
  refine bX4_matrixByPowers_87 (j99 := 5) (j108 := 2) (v114 := nI 3) (by first | rfl | (simp only [hd]; rfl)) (by first | rfl | (simp only [hd]; rfl)) (by decide) (by decide) rfl (by first | rfl | (simp only [hd]; rfl)) ?_
  refine bX4_matrixByPowers_55  (fun _ => ?_) (fun c => absurd c (by first | decide | (simp only [hd]; decide)))
  refine bX4_matrixByPowers_120 (v120 := nI 2) (by first | rfl | (simp only [hd]; rfl)) ?_
  refine bX4_matrixByPowers_25  (fun c => absurd c (by first | decide | (simp only [hd]; decide))) (fun _ => ?_)
  refine bX4_matrixByPowers_34 (j48 := 5) (v53 := nI 0) (by first | rfl | (simp only [hd]; rfl)) (by decide) rfl (by first | rfl | (simp only [hd]; rfl)) ?_
  refine bX4_matrixByPowers_55  (fun c => absurd c (by first | decide | (simp only [hd]; decide))) (fun _ => ?_)
  refine bX4_matrixByPowers_64  (fun c => absurd c (by first | decide | (simp only [hd]; decide))) (fun _ => ?_)
  refine bX4_matrixByPowers_69  ?_
  refine bX4_matrixByPowers_87 (j99 := 6) (j108 := 0) (v114 := nI 1) (by first | rfl | (simp only [hd]; rfl)) (by first | rfl | (simp only [hd]; rfl)) (by decide) (by decide) rfl (by first | rfl | (simp only [hd]; rfl)) ?_
  refine bX4_matrixByPowers_55  (fun c => absurd c (by first | decide | (simp only [hd]; decide))) (fun _ => ?_)
  refine bX4_matrixByPowers_64  (fun _ => ?_) (fun c => absurd c (by first | decide | (simp only [hd]; decide)))
  refine bX4_matrixByPowers_73 (j85 := 3) (by first | rfl | (simp only [hd]; rfl)) (by decide) ?_
  refine bX4_matrixByPowers_87 (j99 := 7) (j108 := 1) (v114 := nI 2) (by first | rfl | (simp only [hd]; rfl)) (by first | rfl | (simp only [hd]; rfl)) (by decide) (by decide) rfl (by first | rfl | (simp only [hd]; rfl)) ?_
  refine bX4_matrixByPowers_55  (fun c => absurd c (by first | decide | (simp only [hd]; decide))) (fun _ => ?_)
  refine bX4_matrixByPowers_64  (fun _ => ?_) (fun c => absurd c (by first | decide | (simp only [hd]; decide)))
  refine bX4_matrixByPowers_73 (j85 := 4) (by first | rfl | (simp only [hd]; rfl)) (by decide) ?_
  refine bX4_matrixByPowers_87 (j99 := 8) (j108 := 2) (v114 := nI 3) (by first | rfl | (simp only [hd]; rfl)) (by first | rfl | (simp only [hd]; rfl)) (by decide) (by decide) rfl (by first | rfl | (simp only [hd]; rfl)) ?_
  refine bX4_matrixByPowers_55  (fun _ => ?_) (fun c => absurd c (by first | decide | (simp only [hd]; decide)))
  refine bX4_matrixByPowers_120 (v120 := nI 3) (by first | rfl | (simp only [hd]; rfl)) ?_
  refine bX4_matrixByPowers_25  (fun _ => ?_) (fun c => absurd c (by first | decide | (simp only [hd]; decide)))
  exact bX4_matrixByPowers_126  ⟨rfl, rfl, rfl, rfl, rfl, rfl, rfl, rfl, rfl, rfl, rfl, fun q h => by simp only [sa_uJ_ne h]⟩
/-- what Java's % leaves -/
def rm (x y : Int64) : Int64 := x - x / y * y
def isW2 (p : Nat → Int64) (u0 u1 u2 d : Int64) : Bool := decide (rm (2 * u0 + u1 * -p 1 + u2 * (-p 1 * -p 1 - 2 * p 0)) d = 0) && decide (rm (u0 * (u0 - u1 * p 1) - u1 * (0 - u1 * p 0)) (d * d) = 0)
def m3 (p : Nat → Int64) (u0 u1 u2 : Int64) : Nat → Int64 := fun j => match j with
  | 0 => u0 | 1 => u1 | 2 => u2 | 3 => 0 - u2 * p 0 | 4 => u0 - u2 * p 1 | 5 => u1 - u2 * p 2 | 6 => 0 - (u1 - u2 * p 2) * p 0 | 7 => (0 - u2 * p 0) - (u1 - u2 * p 2) * p 1 | _ => (u0 - u2 * p 1) - (u1 - u2 * p 2) * p 2
def nm3 (m : Nat → Int64) : Int64 := m 0 * (m 4 * m 8 - m 5 * m 7) - m 1 * (m 3 * m 8 - m 5 * m 6) + m 2 * (m 3 * m 7 - m 4 * m 6)
def md3 (m : Nat → Int64) : Int64 := m 0 * m 4 - m 1 * m 3 + (m 0 * m 8 - m 2 * m 6) + (m 4 * m 8 - m 5 * m 7)
def isW3 (p : Nat → Int64) (u0 u1 u2 d : Int64) : Bool := decide (rm (3 * u0 + u1 * -p 2 + u2 * (-p 2 * -p 2 - 2 * p 1)) d = 0) && (decide (rm (md3 (m3 p u0 u1 u2)) (d * d) = 0) && decide (rm (nm3 (m3 p u0 u1 u2)) (d * d * d) = 0))
def isW (n : Nat) (p : Nat → Int64) (u0 u1 u2 d : Int64) : Bool := if n = 2 then isW2 p u0 u1 u2 d else isW3 p u0 u1 u2 d
theorem nz1 {d : Int} (h1 : 1 ≤ d) (h2 : d ≤ 90) : ¬ lI d = 0 := fun q => by have := (lI_eq (b := 0) ⟨by omega, by omega⟩ ⟨by omega, by omega⟩).mp q; omega
theorem sq_le {d : Int} (h1 : 1 ≤ d) (h2 : d ≤ 90) : 1 ≤ d * d ∧ d * d ≤ 8100 := ⟨Int.mul_le_mul (b := 1) (d := d) (a := 1) (c := d) (by omega) (by omega) (by omega) (by omega) |> (by simpa using ·), by have := Int.mul_le_mul h2 h2 (by omega) (by omega : (0:Int) ≤ 90); omega⟩
theorem nz2 {d : Int} (h1 : 1 ≤ d) (h2 : d ≤ 90) : ¬ lI d * lI d = 0 := fun q => by
  have hs := sq_le h1 h2
  rw [lI_mul] at q
  have := (lI_eq (b := 0) ⟨by omega, by omega⟩ ⟨by omega, by omega⟩).mp q
  omega
theorem nz3 {d : Int} (h1 : 1 ≤ d) (h2 : d ≤ 90) : ¬ lI d * lI d * lI d = 0 := fun q => by
  have hs := sq_le h1 h2
  have h4 : d * d * d ≤ 8100 * 90 := Int.mul_le_mul hs.2 h2 (by omega) (by omega)
  have h5 : 1 * 1 ≤ d * d * d := Int.mul_le_mul hs.1 h1 (by omega) (by omega)
  rw [lI_mul, lI_mul] at q
  have := (lI_eq (b := 0) ⟨by omega, by omega⟩ ⟨by omega, by omega⟩).mp q
  omega
theorem c_isWhole2 {u0 u1 u2 : Int64} {d : Int} (hd : I 4 0 = nI 2) (h1 : 1 ≤ d) (h2 : d ≤ 90) : Con (EC l D aI aL ad) M_X4_isWhole yX4_isWhole [.ref (ad 4), .long u0, .long u1, .long u2, .long (lI d)] I J (fun r I1 J1 => r = some (.int (if isW 2 (J 5) u0 u1 u2 (lI d) then 1 else 0)) ∧ I1 = I ∧ ∀ q, q ≠ 10 → J1 q = J q) := by
  refine Con.of (by decide +kernel) rfl (Nat.le_of_ble_eq_true rfl) ?_
  refine bX4_isWhole_0 (j9 := 1) (j31 := 0) (by rw [hd]; rfl) (by decide) (by rw [hd]; rfl) (by decide) rfl rfl (fun c => ?_) (fun _ => ?_)
  · exact absurd ((lI_le (b := 0) ⟨by omega, by omega⟩ ⟨by omega, by omega⟩).mp c) (by omega)
  refine bX4_isWhole_44 (nz1 h1 h2) (fun c => ?_) (fun c => ?_)
  · rw [hd] at c
    refine bX4_isWhole_72 (v_X4_74 dX4_isWhole_77 rfl ⟨rfl, rfl, Nat.le_of_ble_eq_true rfl, Nat.le_of_ble_eq_true rfl⟩ (c_matrixByPowers2 hd) rfl rfl (Nat.le_of_ble_eq_true rfl) (fun r I1 J1 hp => ?_))
    obtain ⟨rfl, rfl, e0, e1, e2, e3, e4, hf⟩ := hp
    refine bX4_isWhole_80 (fun c2 => absurd hd c2) (fun _ => bX4_isWhole_88 (v_X4_78 dX4_isWhole_89 rfl ⟨rfl, rfl, Nat.le_of_ble_eq_true rfl, Nat.le_of_ble_eq_true rfl⟩ (c_matrixNorm2 hd) rfl rfl (Nat.le_of_ble_eq_true rfl) (fun r I2 J2 hp => ?_)))
    obtain ⟨rfl, rfl, rfl⟩ := hp
    rw [e0, e1, e3, e4]
    refine bX4_isWhole_92 (nz2 h1 h2) (fun c3 => ?_) (fun c3 => ?_)
    · refine bX4_isWhole_107 (bX4_isWhole_108 rfl ⟨?_, rfl, hf⟩)
      rw [if_neg]
      intro q
      simp only [isW, if_true, isW2, Bool.and_eq_true, decide_eq_true_eq] at q
      exact c3 q.2
    · refine bX4_isWhole_103 (bX4_isWhole_108 rfl ⟨?_, rfl, hf⟩)
      rw [if_pos]
      simp only [isW, if_true, isW2, Bool.and_eq_true, decide_eq_true_eq]
      exact ⟨c, c3⟩
  · rw [hd] at c
    refine bX4_isWhole_70 ⟨?_, rfl, fun _ _ => rfl⟩
    rw [if_neg]
    intro q
    simp only [isW, if_true, isW2, Bool.and_eq_true, decide_eq_true_eq] at q
    exact c q.1
theorem c_isWhole3 {u0 u1 u2 : Int64} {d : Int} (hd : I 4 0 = nI 3) (h1 : 1 ≤ d) (h2 : d ≤ 90) : Con (EC l D aI aL ad) M_X4_isWhole yX4_isWhole [.ref (ad 4), .long u0, .long u1, .long u2, .long (lI d)] I J (fun r I1 J1 => r = some (.int (if isW 3 (J 5) u0 u1 u2 (lI d) then 1 else 0)) ∧ I1 = I ∧ ∀ q, q ≠ 10 → J1 q = J q) := by
  refine Con.of (by decide +kernel) rfl (Nat.le_of_ble_eq_true rfl) ?_
  refine bX4_isWhole_0 (j9 := 2) (j31 := 1) (by rw [hd]; rfl) (by decide) (by rw [hd]; rfl) (by decide) rfl rfl (fun c => ?_) (fun _ => ?_)
  · exact absurd ((lI_le (b := 0) ⟨by omega, by omega⟩ ⟨by omega, by omega⟩).mp c) (by omega)
  refine bX4_isWhole_44 (nz1 h1 h2) (fun c => ?_) (fun c => ?_)
  · rw [hd] at c
    refine bX4_isWhole_72 (v_X4_74 dX4_isWhole_77 rfl ⟨rfl, rfl, Nat.le_of_ble_eq_true rfl, Nat.le_of_ble_eq_true rfl⟩ (c_matrixByPowers3 hd) rfl rfl (Nat.le_of_ble_eq_true rfl) (fun r I1 J1 hp => ?_))
    obtain ⟨rfl, rfl, e0, e1, e2, e3, e4, e5, e6, e7, e8, hf⟩ := hp
    refine bX4_isWhole_80 (fun _ => ?_) (fun c2 => absurd (hd.symm.trans c2) (by decide))
    refine bX4_isWhole_109 (v_X4_82 dX4_isWhole_110 rfl ⟨rfl, rfl, Nat.le_of_ble_eq_true rfl, Nat.le_of_ble_eq_true rfl⟩ (c_matrixMiddle3 hd) rfl rfl (Nat.le_of_ble_eq_true rfl) (fun r I2 J2 hp => ?_))
    obtain ⟨rfl, rfl, rfl⟩ := hp
    refine bX4_isWhole_113 (nz2 h1 h2) (fun c3 => ?_) (fun c3 => ?_)
    · refine bX4_isWhole_146 (bX4_isWhole_147 rfl ⟨?_, rfl, hf⟩)
      rw [e0, e1, e2, e3, e4, e5, e6, e7, e8] at c3
      rw [if_neg]
      intro q
      simp only [isW, isW3, Bool.and_eq_true, decide_eq_true_eq, show ((3 : Nat) = 2) = False by simp, if_false] at q
      exact c3 q.2.1
    · refine bX4_isWhole_124 (v_X4_78 dX4_isWhole_125 rfl ⟨rfl, rfl, Nat.le_of_ble_eq_true rfl, Nat.le_of_ble_eq_true rfl⟩ (c_matrixNorm3 hd) rfl rfl (Nat.le_of_ble_eq_true rfl) (fun r I2 J2 hp => ?_))
      obtain ⟨rfl, rfl, rfl⟩ := hp
      refine bX4_isWhole_128 (nz3 h1 h2) (fun c4 => ?_) (fun c4 => ?_)
      · refine bX4_isWhole_146 (bX4_isWhole_147 rfl ⟨?_, rfl, hf⟩)
        rw [e0, e1, e2, e3, e4, e5, e6, e7, e8] at c4
        rw [if_neg]
        intro q
        simp only [isW, isW3, Bool.and_eq_true, decide_eq_true_eq, show ((3 : Nat) = 2) = False by simp, if_false] at q
        exact c4 q.2.2
      · refine bX4_isWhole_142 (bX4_isWhole_147 rfl ⟨?_, rfl, hf⟩)
        rw [e0, e1, e2, e3, e4, e5, e6, e7, e8] at c3 c4
        rw [if_pos]
        simp only [isW, isW3, Bool.and_eq_true, decide_eq_true_eq, show ((3 : Nat) = 2) = False by simp, if_false]
        exact ⟨c, c3, c4⟩
  · rw [hd] at c
    refine bX4_isWhole_70 ⟨?_, rfl, fun _ _ => rfl⟩
    rw [if_neg]
    intro q
    simp only [isW, isW3, Bool.and_eq_true, decide_eq_true_eq, show ((3 : Nat) = 2) = False by simp, if_false] at q
    exact c q.1
theorem c_isWhole {n : Nat} {u0 u1 u2 : Int64} {d : Int} (hn : n = 2 ∨ n = 3) (hd : I 4 0 = nI n) (h1 : 1 ≤ d) (h2 : d ≤ 90) : Con (EC l D aI aL ad) M_X4_isWhole yX4_isWhole [.ref (ad 4), .long u0, .long u1, .long u2, .long (lI d)] I J (fun r I1 J1 => r = some (.int (if isW n (J 5) u0 u1 u2 (lI d) then 1 else 0)) ∧ I1 = I ∧ ∀ q, q ≠ 10 → J1 q = J q) := by
  rcases hn with rfl | rfl
  · exact c_isWhole2 hd h1 h2
  · exact c_isWhole3 hd h1 h2
end RH
