theorem fsD_rng {pd : Int64} {W : Int → Int → Bool} : ∀ {n : Nat} {d h : Int}, fsD pd W n = some (d, h) → 1 ≤ d ∧ d ≤ n := by
  intro n
  induction n with
  | zero => intro d h e; cases e
  | succ n ih =>
    intro d h e
    rw [fsD] at e
    split at e
    · split at e
      · cases e; omega
      · have := ih e; omega
    · have := ih e; omega
/-- behind findSecond lower[1] is from 1 to 90 -/
theorem fsJ_low {J J1 : sa_J} {n : Nat} (h : fsJ J n J1) (h7 : J 7 1 = 1) : ∃ d : Int, J1 7 1 = lI d ∧ 1 ≤ d ∧ d ≤ 90 := by
  unfold fsJ at h
  split at h
  · rename_i d g e
    obtain ⟨Jx, -, rfl⟩ := h
    have := fsD_rng e
    exact ⟨d, sa_uJ_at, by omega, by omega⟩
  · exact ⟨1, by rw [h 7 (by decide), h7]; rfl, by omega, by omega⟩
section OC
variable {l : Launch} {D : va_G} {aI aL : ClassId} {ad : Nat → Nat} {P : sa_P} {I : sa_I} {J : sa_J}
def pd3 (a b c : Int64) : Int64 := a * a * b * b - 4 * b * b * b - 4 * a * a * a * c - 27 * c * c + 18 * a * b * c
def cuJ (J : sa_J) (a b c : Int64) : sa_J := sa_uJ (sa_uJ (sa_uJ (sa_uJ J 5 0 c) 5 1 b) 5 2 a) 4 1 (pd3 a b c)
theorem c_openCube {a b c : Int64} : Con (EC l D aI aL ad) M_X4_openCube yX4_openCube [.ref (ad 4), .long a, .long b, .long c] I J (fun r I1 J1 => r = none ∧ I1 = sa_uI I 4 0 (nI 3) ∧ ∃ Ja Jb Jc d, sbJ (cuJ J a b c) Ja ∧ fsJ Ja 3 Jb ∧ Jb 7 1 = lI d ∧ (1 ≤ d ∧ d ≤ 90) ∧ ftJ Jb d Jc ∧ fiJ 3 Jc J1) := by
  refine Con.of (by decide +kernel) rfl (Nat.le_of_ble_eq_true rfl) ?_
  have hd : sa_uI I 4 0 (nI 3) 4 0 = nI 3 := rfl
  refine bX4_openCube_0 (v2 := nI 3) rfl rfl (v_X4_46 dX4_openCube_83 rfl ⟨rfl, rfl, Nat.le_of_ble_eq_true rfl, Nat.le_of_ble_eq_true rfl⟩ c_startBasis rfl rfl (Nat.le_of_ble_eq_true rfl) (fun r I1 Ja hp => ?_))
  obtain ⟨rfl, rfl, hs⟩ := hp
  refine bX4_openCube_86 (v_X4_49 dX4_openCube_87 rfl ⟨rfl, rfl, Nat.le_of_ble_eq_true rfl, Nat.le_of_ble_eq_true rfl⟩ (c_findSecond (n := 3) (Or.inr rfl) hd) rfl rfl (Nat.le_of_ble_eq_true rfl) (fun r I1 Jb hp => ?_))
  obtain ⟨rfl, rfl, hb⟩ := hp
  obtain ⟨d, e7, d1, d2⟩ := fsJ_low hb (hs.2.1 1 (by decide))
  refine bX4_openCube_90 (v_X4_59 dX4_openCube_91 rfl ⟨rfl, rfl, Nat.le_of_ble_eq_true rfl, Nat.le_of_ble_eq_true rfl⟩ (c_findThird hd e7 d1 d2) rfl rfl (Nat.le_of_ble_eq_true rfl) (fun r I1 Jc hp => ?_))
  obtain ⟨rfl, rfl, hc⟩ := hp
  refine bX4_openCube_94 (v_X4_52 dX4_openCube_95 rfl ⟨rfl, rfl, Nat.le_of_ble_eq_true rfl, Nat.le_of_ble_eq_true rfl⟩ (c_finishRing3 hd) rfl rfl (Nat.le_of_ble_eq_true rfl) (fun r I1 J1 hp => ?_))
  obtain ⟨rfl, rfl, hf⟩ := hp
  exact bX4_openCube_98 ⟨rfl, rfl, Ja, Jb, Jc, d, hs, hb, e7, ⟨d1, d2⟩, hc, hf⟩
/-- square of the class, all roads -/
def sqP (I : sa_I) (J : sa_J) (a b : Int) : sa_P := fun r I1 J1 =>
  if a < -20 ∨ b < -200 then r = some (.int (-4)) ∧ I1 = rf I 4 ∧ J1 = J
  else if 20 < a ∨ 200 < b then r = some (.int (-6)) ∧ I1 = rf I 6 ∧ J1 = J
  else if psq (a * a - 4 * b) then r = some (.int (-3)) ∧ I1 = rf I 3 ∧ J1 = J
  else r = some (.int 1) ∧ I1 = eh (sa_uI I 4 0 (nI 2)) ∧ ∃ Ja Jb, sbJ (sqJ J (lI a) (lI b)) Ja ∧ fsJ Ja 2 Jb ∧ fiJ 2 Jb J1
theorem c_square {a b : Int} (ha : rgi a) (hb : rgi b) : Con (EC l D aI aL ad) M_X6_square yX6_square [.ref (ad 0), .int (iI a), .int (iI b)] I J (sqP I J a b) := by
  refine Con.of (by decide +kernel) rfl (Nat.le_of_ble_eq_true rfl) ?_
  have below : (a < -20 ∨ b < -200) → Sat (EC l D aI aL ad) M_X6_square (sqP I J a b) 13 [(0, .ref (ad 0))] [] I J := by
    intro h
    refine bX6_square_13 (v_X6_59 dX6_square_16 rfl ⟨rfl, rfl, Nat.le_of_ble_eq_true rfl, Nat.le_of_ble_eq_true rfl⟩ (c_refused 4 (by decide) rfl) rfl rfl (Nat.le_of_ble_eq_true rfl) (fun r I1 J1 hp => ?_))
    obtain ⟨rfl, rfl, rfl⟩ := hp
    refine bX6_square_19 ?_
    unfold sqP; rw [if_pos h]; exact ⟨rfl, rfl, rfl⟩
  have above : ¬ (a < -20 ∨ b < -200) → (20 < a ∨ 200 < b) → Sat (EC l D aI aL ad) M_X6_square (sqP I J a b) 33 [(0, .ref (ad 0))] [] I J := by
    intro h0 h
    refine bX6_square_33 (v_X6_59 dX6_square_36 rfl ⟨rfl, rfl, Nat.le_of_ble_eq_true rfl, Nat.le_of_ble_eq_true rfl⟩ (c_refused 6 (by decide) rfl) rfl rfl (Nat.le_of_ble_eq_true rfl) (fun r I1 J1 hp => ?_))
    obtain ⟨rfl, rfl, rfl⟩ := hp
    refine bX6_square_39 ?_
    unfold sqP; rw [if_neg h0, if_pos h]; exact ⟨rfl, rfl, rfl⟩
  refine bX6_square_0 (fun c => below (Or.inl ((iI_lt ha (b := -20) ⟨by omega, by omega⟩).mp c))) (fun c1 => ?_)
  have c1 : ¬ a < -20 := fun q => c1 ((iI_lt ha (b := -20) ⟨by omega, by omega⟩).mpr q)
  refine bX6_square_6 (fun c2 => ?_) (fun c2 => below (Or.inr (by have : ¬ -200 ≤ b := fun q => c2 (by rw [show (-200 : Int32) = iI (-200) by decide]; exact (iI_le (a := -200) ⟨by omega, by omega⟩ hb).mpr q); omega)))
  have e200 : (-200 : Int32) = iI (-200) := by decide
  rw [e200] at c2
  have c2 := (iI_le (a := -200) ⟨by omega, by omega⟩ hb).mp c2
  refine bX6_square_20 (fun c => above (by omega) (Or.inl ((iI_lt (a := 20) ⟨by omega, by omega⟩ ha).mp c))) (fun c3 => ?_)
  have c3 : ¬ 20 < a := fun q => c3 ((iI_lt (a := 20) ⟨by omega, by omega⟩ ha).mpr q)
  refine bX6_square_26 (fun c4 => ?_) (fun c4 => above (by omega) (Or.inr (by have : ¬ b ≤ 200 := fun q => c4 ((iI_le hb (b := 200) ⟨by omega, by omega⟩).mpr q); omega)))
  have c4 := (iI_le hb (b := 200) ⟨by omega, by omega⟩).mp c4
  have n0 : ¬ (a < -20 ∨ b < -200) := by omega
  have n1 : ¬ (20 < a ∨ 200 < b) := by omega
  have am : -20 * 20 ≤ a * a ∧ a * a ≤ 20 * 20 := by
    have h1 : a.natAbs * a.natAbs ≤ 20 * 20 := Nat.mul_le_mul (by omega) (by omega)
    have h2 : ((a.natAbs * a.natAbs : Nat) : Int) = a * a := Int.natAbs_mul_self
    omega
  refine bX6_square_40 ?_
  rw [iI_lI ha, iI_lI hb, lI_mul, show (4 : Int64) = lI 4 from rfl, lI_mul, lI_sub]
  refine v_X6_65 dX6_square_52 rfl ⟨rfl, rfl, Nat.le_of_ble_eq_true rfl, Nat.le_of_ble_eq_true rfl⟩ (c_isPerfectSquare (x := a * a - 4 * b) ⟨by omega, by omega⟩) rfl rfl (Nat.le_of_ble_eq_true rfl) (fun r I1 J1 hp => ?_)
  obtain ⟨rfl, rfl, rfl⟩ := hp
  by_cases hp : psq (a * a - 4 * b) = true
  · rw [if_pos hp]
    refine bX6_square_55 (fun c => absurd c (by decide)) (fun _ => bX6_square_58 (v_X6_59 dX6_square_61 rfl ⟨rfl, rfl, Nat.le_of_ble_eq_true rfl, Nat.le_of_ble_eq_true rfl⟩ (c_refused 3 (by decide) rfl) rfl rfl (Nat.le_of_ble_eq_true rfl) (fun r I1 J1 hq => ?_)))
    obtain ⟨rfl, rfl, rfl⟩ := hq
    refine bX6_square_64 ?_
    unfold sqP; rw [if_neg n0, if_neg n1, if_pos hp]; exact ⟨rfl, rfl, rfl⟩
  · rw [if_neg hp]
    refine bX6_square_55 (fun _ => bX6_square_65 ?_) (fun c => absurd rfl c)
    rw [iI_lI ha, iI_lI hb]
    refine v_X6_69 dX6_square_73 rfl ⟨rfl, rfl, Nat.le_of_ble_eq_true rfl, Nat.le_of_ble_eq_true rfl⟩ c_openSquare rfl rfl (Nat.le_of_ble_eq_true rfl) (fun r I1 J1 hq => ?_)
    obtain ⟨rfl, rfl, Ja, Jb, q1, q2, q3⟩ := hq
    refine bX6_square_76 (v_X6_73 dX6_square_77 rfl ⟨rfl, rfl, Nat.le_of_ble_eq_true rfl, Nat.le_of_ble_eq_true rfl⟩ c_emptyHouse rfl rfl (Nat.le_of_ble_eq_true rfl) (fun r I1 J2 hq => ?_))
    obtain ⟨rfl, rfl, rfl⟩ := hq
    refine bX6_square_80 ?_
    unfold sqP; rw [if_neg n0, if_neg n1, if_neg hp]; exact ⟨rfl, rfl, Ja, Jb, q1, q2, q3⟩
end OC
