/-- count's answer -/
def ctv (e i : Int32) (r : Nat → Int32) (x : Int) : Int32 := if x = 0 then e else if x = 1 then i else if 11 ≤ x ∧ x ≤ 16 then r (x - 10).toNat else -9
section CT
variable {l : Launch} {D : va_G} {aI aL : ClassId} {ad : Nat → Nat} {I : sa_I} {J : sa_J}
theorem ct_ix {x : Int} (h1 : 11 ≤ x) (h2 : x ≤ 16) : iI x - (10 : Int32) = nI (x - 10).toNat := by
  rw [show (10 : Int32) = iI 10 from rfl, iI_sub, nI_iI]
  congr 1
  omega
theorem c_count6 {x : Int} (hx : rgi x) : Con (EC l D aI aL ad) M_X6_count yX6_count [.ref (ad 0), .int (iI x)] I J (p_i (ctv (I 0 8) (I 0 9) (I 1) x) I J) := by
  refine Con.of (by decide +kernel) rfl (Nat.le_of_ble_eq_true rfl) ?_
  have r0 : rgi 0 := ⟨by omega, by omega⟩
  have r1 : rgi 1 := ⟨by omega, by omega⟩
  have r11 : rgi 11 := ⟨by omega, by omega⟩
  have r16 : rgi 16 := ⟨by omega, by omega⟩
  have e0 : iI x = 0 ↔ x = 0 := iI_eq hx r0
  have e1 : iI x = 1 ↔ x = 1 := iI_eq hx r1
  refine bX6_count_0 (fun c => ?_) (fun c => ?_)
  · rw [e0] at c
    refine bX6_count_9 (fun c2 => ?_) (fun c2 => ?_)
    · rw [e1] at c2
      refine bX6_count_19 (fun c3 => ?_) (fun c3 => ?_)
      · rw [iI_ltc hx r11 (by decide)] at c3
        refine bX6_count_41 ⟨?_, rfl, rfl⟩
        rw [ctv, if_neg c, if_neg c2, if_neg (by omega)]
      · rw [iI_ltc hx r11 (by decide)] at c3
        refine bX6_count_25 (fun c4 => ?_) (fun c4 => ?_)
        · rw [iI_clt hx r16 (by decide)] at c4
          refine bX6_count_41 ⟨?_, rfl, rfl⟩
          rw [ctv, if_neg c, if_neg c2, if_neg (by omega)]
        · rw [iI_clt hx r16 (by decide)] at c4
          refine bX6_count_31 (ct_ix (by omega) (by omega)) (by omega) ⟨?_, rfl, rfl⟩
          rw [ctv, if_neg c, if_neg c2, if_pos ⟨by omega, by omega⟩]
    · rw [e1] at c2
      refine bX6_count_14 ⟨?_, rfl, rfl⟩
      rw [ctv, if_neg c, if_pos c2]
  · rw [e0] at c
    refine bX6_count_4 ⟨?_, rfl, rfl⟩
    rw [ctv, if_pos c]
theorem c_count7 {x : Int} (hx : rgi x) : Con (ER l D aI aL ad) M_X7_count yX7_count [.ref (ad 0), .int (iI x)] I J (p_i (ctv (I 0 13) (I 0 14) (I 1) x) I J) := by
  refine Con.of (by decide +kernel) rfl (Nat.le_of_ble_eq_true rfl) ?_
  have r0 : rgi 0 := ⟨by omega, by omega⟩
  have r1 : rgi 1 := ⟨by omega, by omega⟩
  have r10 : rgi 10 := ⟨by omega, by omega⟩
  have r17 : rgi 17 := ⟨by omega, by omega⟩
  have e0 : iI x = 0 ↔ x = 0 := iI_eq hx r0
  have e1 : iI x = 1 ↔ x = 1 := iI_eq hx r1
  have low : ¬ (11 ≤ x ∧ x ≤ 16) → Sat (ER l D aI aL ad) M_X7_count (p_i (ctv (I 0 13) (I 0 14) (I 1) x) I J) 22 [(0, .ref (ad 0)), (1, .int (iI x))] [] I J := by
    intro h
    refine bX7_count_22 (fun c => ?_) (fun c => ?_)
    · rw [e0] at c
      refine bX7_count_33 (fun c2 => ?_) (fun c2 => ?_)
      · rw [e1] at c2
        refine bX7_count_45 (bX7_count_47 ⟨?_, rfl, rfl⟩)
        rw [ctv, if_neg c, if_neg c2, if_neg h]
      · rw [e1] at c2
        refine bX7_count_38 (bX7_count_47 ⟨?_, rfl, rfl⟩)
        rw [ctv, if_neg c, if_pos c2]
    · rw [e0] at c
      refine bX7_count_26 (bX7_count_47 ⟨?_, rfl, rfl⟩)
      rw [ctv, if_pos c]
  refine bX7_count_0 (fun c => ?_) (fun c => ?_)
  · rw [iI_lec hx r10 (by decide)] at c
    exact low (by omega)
  · rw [iI_lec hx r10 (by decide)] at c
    refine bX7_count_6 (fun c2 => ?_) (fun c2 => ?_)
    · rw [iI_cle hx r17 (by decide)] at c2
      exact low (by omega)
    · rw [iI_cle hx r17 (by decide)] at c2
      refine bX7_count_12 (ct_ix (by omega) (by omega)) (by omega) ⟨?_, rfl, rfl⟩
      rw [ctv, if_neg (by omega), if_neg (by omega), if_pos ⟨by omega, by omega⟩]
end CT
