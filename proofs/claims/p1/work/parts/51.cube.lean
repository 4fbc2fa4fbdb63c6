section CU
variable {l : Launch} {D : va_G} {aI aL : ClassId} {ad : Nat → Nat} {I : sa_I} {J : sa_J}
/-- cube of the class, all roads -/
def cuP (I : sa_I) (J : sa_J) (a b c : Int) : sa_P := fun r I1 J1 =>
  if a < -3 ∨ b < -9 ∨ c < -9 then r = some (.int (-4)) ∧ I1 = rf I 4 ∧ J1 = J
  else if 3 < a ∨ 9 < b ∨ 9 < c then r = some (.int (-6)) ∧ I1 = rf I 6 ∧ J1 = J
  else if hwF (iI a) (iI b) (iI c) 19 (-9) then r = some (.int (-3)) ∧ I1 = rf I 3 ∧ J1 = J
  else r = some (.int 1) ∧ I1 = eh (sa_uI I 4 0 (nI 3)) ∧ ∃ Ja Jb Jc d, sbJ (cuJ J (lI a) (lI b) (lI c)) Ja ∧ fsJ Ja 3 Jb ∧ Jb 7 1 = lI d ∧ (1 ≤ d ∧ d ≤ 90) ∧ ftJ Jb d Jc ∧ fiJ 3 Jc J1
theorem iI_ltc {a : Int} {k : Int} {v : Int32} (ha : rgi a) (hk : rgi k) (hv : v = iI k) : iI a < v ↔ a < k := by rw [hv, iI_lt ha hk]
theorem iI_clt {a : Int} {k : Int} {v : Int32} (ha : rgi a) (hk : rgi k) (hv : v = iI k) : v < iI a ↔ k < a := by rw [hv, iI_lt hk ha]
theorem iI_lec {a : Int} {k : Int} {v : Int32} (ha : rgi a) (hk : rgi k) (hv : v = iI k) : iI a ≤ v ↔ a ≤ k := by rw [hv, iI_le ha hk]
theorem iI_cle {a : Int} {k : Int} {v : Int32} (ha : rgi a) (hk : rgi k) (hv : v = iI k) : v ≤ iI a ↔ k ≤ a := by rw [hv, iI_le hk ha]
theorem c_cube {a b c : Int} (ha : rgi a) (hb : rgi b) (hc : rgi c) : Con (EC l D aI aL ad) M_X6_cube yX6_cube [.ref (ad 0), .int (iI a), .int (iI b), .int (iI c)] I J (cuP I J a b c) := by
  refine Con.of (by decide +kernel) rfl (Nat.le_of_ble_eq_true rfl) ?_
  have k9 : rgi (-9) := ⟨by omega, by omega⟩
  have k3 : rgi (-3) := ⟨by omega, by omega⟩
  have q9 : rgi 9 := ⟨by omega, by omega⟩
  have q3 : rgi 3 := ⟨by omega, by omega⟩
  have below : (a < -3 ∨ b < -9 ∨ c < -9) → Sat (EC l D aI aL ad) M_X6_cube (cuP I J a b c) 18 [(0, .ref (ad 0))] [] I J := by
    intro h
    refine bX6_cube_18 (v_X6_59 dX6_cube_21 rfl ⟨rfl, rfl, Nat.le_of_ble_eq_true rfl, Nat.le_of_ble_eq_true rfl⟩ (c_refused 4 (by decide) rfl) rfl rfl (Nat.le_of_ble_eq_true rfl) (fun r I1 J1 hp => ?_))
    obtain ⟨rfl, rfl, rfl⟩ := hp
    refine bX6_cube_24 ?_
    unfold cuP; rw [if_pos h]; exact ⟨rfl, rfl, rfl⟩
  have above : ¬ (a < -3 ∨ b < -9 ∨ c < -9) → (3 < a ∨ 9 < b ∨ 9 < c) → Sat (EC l D aI aL ad) M_X6_cube (cuP I J a b c) 42 [(0, .ref (ad 0))] [] I J := by
    intro h0 h
    refine bX6_cube_42 (v_X6_59 dX6_cube_45 rfl ⟨rfl, rfl, Nat.le_of_ble_eq_true rfl, Nat.le_of_ble_eq_true rfl⟩ (c_refused 6 (by decide) rfl) rfl rfl (Nat.le_of_ble_eq_true rfl) (fun r I1 J1 hp => ?_))
    obtain ⟨rfl, rfl, rfl⟩ := hp
    refine bX6_cube_48 ?_
    unfold cuP; rw [if_neg h0, if_pos h]; exact ⟨rfl, rfl, rfl⟩
  refine bX6_cube_0 (fun q => below (Or.inl ((iI_ltc ha k3 (by decide)).mp q))) (fun c1 => ?_)
  rw [iI_ltc ha k3 (by decide)] at c1
  refine bX6_cube_6 (fun q => below (Or.inr (Or.inl ((iI_ltc hb k9 (by decide)).mp q)))) (fun c2 => ?_)
  rw [iI_ltc hb k9 (by decide)] at c2
  refine bX6_cube_12 (fun c3 => ?_) (fun q => below (Or.inr (Or.inr (by rw [iI_cle hc k9 (by decide)] at q; omega))))
  rw [iI_cle hc k9 (by decide)] at c3
  refine bX6_cube_25 (fun q => above (by omega) (Or.inl ((iI_clt ha q3 (by decide)).mp q))) (fun c4 => ?_)
  rw [iI_clt ha q3 (by decide)] at c4
  refine bX6_cube_30 (fun q => above (by omega) (Or.inr (Or.inl ((iI_clt hb q9 (by decide)).mp q)))) (fun c5 => ?_)
  rw [iI_clt hb q9 (by decide)] at c5
  refine bX6_cube_36 (fun c6 => ?_) (fun q => above (by omega) (Or.inr (Or.inr (by rw [iI_lec hc q9 (by decide)] at q; omega))))
  rw [iI_lec hc q9 (by decide)] at c6
  have n0 : ¬ (a < -3 ∨ b < -9 ∨ c < -9) := by omega
  have n1 : ¬ (3 < a ∨ 9 < b ∨ 9 < c) := by omega
  refine bX6_cube_49 (v_X6_77 dX6_cube_52 rfl ⟨rfl, rfl, Nat.le_of_ble_eq_true rfl, Nat.le_of_ble_eq_true rfl⟩ c_hasWholeRoot rfl rfl (Nat.le_of_ble_eq_true rfl) (fun r I1 J1 hp => ?_))
  obtain ⟨rfl, rfl, rfl⟩ := hp
  by_cases hp : hwF (iI a) (iI b) (iI c) 19 (-9) = true
  · rw [if_pos hp]
    refine bX6_cube_55 (fun q => absurd q (by decide)) (fun _ => bX6_cube_58 (v_X6_59 dX6_cube_61 rfl ⟨rfl, rfl, Nat.le_of_ble_eq_true rfl, Nat.le_of_ble_eq_true rfl⟩ (c_refused 3 (by decide) rfl) rfl rfl (Nat.le_of_ble_eq_true rfl) (fun r I1 J1 hq => ?_)))
    obtain ⟨rfl, rfl, rfl⟩ := hq
    refine bX6_cube_64 ?_
    unfold cuP; rw [if_neg n0, if_neg n1, if_pos hp]; exact ⟨rfl, rfl, rfl⟩
  · rw [if_neg hp]
    refine bX6_cube_55 (fun _ => bX6_cube_65 ?_) (fun q => absurd rfl q)
    rw [iI_lI ha, iI_lI hb, iI_lI hc]
    refine v_X6_81 dX6_cube_75 rfl ⟨rfl, rfl, Nat.le_of_ble_eq_true rfl, Nat.le_of_ble_eq_true rfl⟩ c_openCube rfl rfl (Nat.le_of_ble_eq_true rfl) (fun r I1 J1 hq => ?_)
    obtain ⟨rfl, rfl, Ja, Jb, Jc, d, q1⟩ := hq
    refine bX6_cube_78 (v_X6_73 dX6_cube_79 rfl ⟨rfl, rfl, Nat.le_of_ble_eq_true rfl, Nat.le_of_ble_eq_true rfl⟩ c_emptyHouse rfl rfl (Nat.le_of_ble_eq_true rfl) (fun r I1 J2 hq => ?_))
    obtain ⟨rfl, rfl, rfl⟩ := hq
    refine bX6_cube_82 ?_
    unfold cuP; rw [if_neg n0, if_neg n1, if_neg hp]; exact ⟨rfl, rfl, Ja, Jb, Jc, d, q1⟩
/-- count of the class -/
def ctC (I : sa_I) (x : Int32) : Int32 := if x = 0 then I 0 8 else if x = 1 then I 0 9 else if x < 11 then -9 else if 16 < x then -9 else I 1 (x - 10).toNatClampNeg
end CU
