section FD
variable {E : sa_E} {I : sa_I} {J : sa_J}
theorem neg_div_cases {a b : Int} (h0 : 0 < b) : a / b = -((-a) / b) - (if (-a) % b = 0 then 0 else 1) := by
  have h1 := Int.emod_nonneg (-a) (show b ≠ 0 by omega)
  have h2 := Int.emod_lt_of_pos (-a) h0
  have h3 := Int.mul_ediv_add_emod (-a) b
  by_cases c : (-a) % b = 0
  · rw [if_pos c]
    have := (Int.ediv_emod_unique (a := a) (b := b) (r := 0) (q := -((-a) / b)) h0).mpr ⟨by rw [Int.mul_neg]; omega, by omega, h0⟩
    rw [this.1]; omega
  · rw [if_neg c]
    have := (Int.ediv_emod_unique (a := a) (b := b) (r := b - (-a) % b) (q := -((-a) / b) - 1) h0).mpr ⟨by rw [Int.mul_sub, Int.mul_neg, Int.mul_one]; omega, by omega, by omega⟩
    rw [this.1]
theorem c_floorDiv {a b : Int} (ha : rg a) (hb : rg b) (h0 : 0 < b) : Con E M_J9_floorDiv_f86c9 yJ9_floorDiv_f86c9 [.long (lI a), .long (lI b)] I J (p_l (lI (a / b)) I J) := by
  refine Con.ofF (by decide +kernel) rfl (Nat.le_of_ble_eq_true rfl) ?_
  have hz : ¬ lI b = 0 := fun q => by have := (lI_eq hb (b := 0) ⟨by omega, by omega⟩).mp q; omega
  refine bJ9_floorDiv_f86c9_0 hz (lI_div ha hb h0) (fun c => ?_) (fun c => ?_)
  · have hp := (lI_xor ha hb (by omega)).mp c
    refine bJ9_floorDiv_f86c9_27 ⟨?_, rfl, rfl⟩
    rw [Int.tdiv_eq_ediv_of_nonneg hp]
  · have hp : ¬ 0 ≤ a := fun q => c ((lI_xor ha hb (by omega)).mpr q)
    have e1 : a.tdiv b = -((-a) / b) := by
      have h3 := Int.tdiv_eq_ediv_of_nonneg (b := b) (show 0 ≤ -a by omega)
      rw [← h3, Int.neg_tdiv, Int.neg_neg]
    have e2 := neg_div_cases (a := a) h0
    have h3 := Int.mul_ediv_add_emod (-a) b
    have h4 := Int.emod_nonneg (-a) (show b ≠ 0 by omega)
    have e3 : a.tdiv b * b = a + (-a) % b := by
      rw [e1, Int.neg_mul, Int.mul_comm ((-a) / b) b]; omega
    have h5 := Int.emod_lt_of_pos (-a) h0
    have h6 := ha.1
    have h7 := hb.2
    have r1 : rg (a.tdiv b * b) := by rw [e3]; exact ⟨by omega, by omega⟩
    refine bJ9_floorDiv_f86c9_13 (fun c2 => ?_) (fun c2 => ?_)
    · rw [lI_mul] at c2
      have h8 := (lI_eq r1 ha).mp c2
      have h9 : (-a) % b = 0 := by omega
      rw [if_pos h9] at e2
      exact bJ9_floorDiv_f86c9_27 ⟨by rw [e1, e2, Int.sub_zero], rfl, rfl⟩
    · have h9 : ¬ (-a) % b = 0 := fun e => c2 (by rw [lI_mul, e3, e, Int.add_zero])
      rw [if_neg h9] at e2
      refine bJ9_floorDiv_f86c9_22 ⟨?_, rfl, rfl⟩
      rw [show (1 : Int64) = lI 1 from rfl, lI_sub, e1, e2]
theorem c_floorModI {a b : Int} (ha : rgi a) (hb : rgi b) (h0 : 0 < b) : Con E M_J9_floorMod_7cf53 yJ9_floorMod_7cf53 [.int (iI a), .int (iI b)] I J (p_i (iI (a % b)) I J) := by
  refine Con.ofF (by decide +kernel) rfl (Nat.le_of_ble_eq_true rfl) ?_
  have hz : ¬ iI b = 0 := fun q => by have := (iI_eq hb (b := 0) ⟨by omega, by omega⟩).mp q; omega
  have hm : rgi (a.tmod b) := by
    have := hb.2
    have h1 := Int.emod_nonneg a (show b ≠ 0 by omega)
    have h2 := Int.emod_lt_of_pos a h0
    have h3 := Int.emod_nonneg (-a) (show b ≠ 0 by omega)
    have h4 := Int.emod_lt_of_pos (-a) h0
    rcases Int.le_total 0 a with q | q
    · rw [Int.tmod_eq_emod_of_nonneg q]; exact ⟨by omega, by omega⟩
    · have h5 := Int.tmod_eq_emod_of_nonneg (b := b) (show 0 ≤ -a by omega)
      rw [Int.neg_tmod] at h5
      exact ⟨by omega, by omega⟩
  refine bJ9_floorMod_7cf53_0 hz (iI_rem ha hb h0) (fun c => ?_) (fun c => ?_)
  · have hp := (iI_xor ha hb (by omega)).mp c
    refine bJ9_floorMod_7cf53_18 ⟨?_, rfl, rfl⟩
    rw [Int.tmod_eq_emod_of_nonneg hp]
  · have hp : ¬ 0 ≤ a := fun q => c ((iI_xor ha hb (by omega)).mpr q)
    have e1 : a.tmod b = -((-a) % b) := by
      have h3 := Int.tmod_eq_emod_of_nonneg (b := b) (show 0 ≤ -a by omega)
      rw [← h3, Int.neg_tmod, Int.neg_neg]
    refine bJ9_floorMod_7cf53_10 (fun c2 => ?_) (fun c2 => ?_)
    · refine bJ9_floorMod_7cf53_18 ⟨?_, rfl, rfl⟩
      have h4 := (iI_eq hm (b := 0) ⟨by omega, by omega⟩).mp c2
      rw [h4]
      have h5 : (-a) % b = 0 := by omega
      have h6 : b ∣ a := (Int.dvd_neg).mp (Int.dvd_of_emod_eq_zero h5)
      rw [Int.emod_eq_zero_of_dvd h6]
    · refine bJ9_floorMod_7cf53_14 ⟨?_, rfl, rfl⟩
      have h4 : a.tmod b ≠ 0 := fun q => c2 ((iI_eq hm (b := 0) ⟨by omega, by omega⟩).mpr q)
      rw [iI_add]
      have h7 := Int.emod_nonneg (-a) (show b ≠ 0 by omega)
      have h8 := Int.emod_lt_of_pos (-a) h0
      have h9 : (a.tmod b + b) % b = a % b := by
        rw [Int.add_emod_right, Int.tmod_def, Int.sub_eq_add_neg, Int.add_comm, ← Int.mul_neg, Int.add_comm, Int.add_mul_emod_self_left]
      rw [← h9, Int.emod_eq_of_lt (by omega) (by omega)]
/-- floorDiv on any longs, the second above 0 -/
def fd (a b : Int64) : Int64 := lI (a.toInt / b.toInt)
theorem c_fd {a b : Int64} (hb : 0 < b.toInt) : Con E M_J9_floorDiv_f86c9 yJ9_floorDiv_f86c9 [.long a, .long b] I J (p_l (fd a b) I J) := by
  have h := c_floorDiv (E := E) (I := I) (J := J) (rg_toInt a) (rg_toInt b) hb
  rw [show lI a.toInt = a from Int64.ofInt_toInt a, show lI b.toInt = b from Int64.ofInt_toInt b] at h
  exact h
end FD
