/-! square roots, refusals, small tests -/
def isqF : Nat → Nat → Int → Nat
  | 0, k, _ => k
  | f + 1, k, x => if ((k : Int) + 1) * (k + 1) ≤ x then isqF f (k + 1) x else k
section LG
variable {E : sa_E} {P : sa_P} {I : sa_I} {J : sa_J}
theorem wr_loop {x : Int} (hx : rg x) : ∀ (f k : Nat), k + f = 1000 → P (some (.long (lI (isqF f k x)))) I J → Sat E M_X6_wholeRoot P 2 [(0, .long (lI x)), (2, .long (lI k))] [] I J := by
  intro f
  induction f with
  | zero =>
    intro k hk hp
    obtain rfl : k = 1000 := by omega
    exact bX6_wholeRoot_2 (fun _ => bX6_wholeRoot_29 hp) (fun c => absurd (show (1000 : Int64) ≤ lI (1000 : Nat) by decide) c)
  | succ f ih =>
    intro k hk hp
    have hm : (((k : Int) + 1) * (k + 1)) ≤ 1000 * 1000 := Int.mul_le_mul (by omega) (by omega) (by omega) (by omega)
    have hm0 : 0 ≤ (((k : Int) + 1) * (k + 1)) := Int.mul_nonneg (by omega) (by omega)
    have e1 : (lI (k : Int) + (1 : Int64)) = lI ((k : Int) + 1) := lI_add k 1
    refine bX6_wholeRoot_2 (fun c => ?_) (fun _ => ?_)
    · exact absurd ((lI_le (a := 1000) ⟨by omega, by omega⟩ ⟨by omega, by omega⟩).mp c) (by omega)
    · refine bX6_wholeRoot_10 (fun c => ?_) (fun c => ?_)
      · rw [e1, lI_mul, lI_lt hx ⟨by omega, by omega⟩] at c
        refine bX6_wholeRoot_29 ?_
        rw [isqF, if_neg (by omega)] at hp
        exact hp
      · rw [e1, lI_mul, lI_lt hx ⟨by omega, by omega⟩] at c
        rw [isqF, if_pos (by omega)] at hp
        exact bX6_wholeRoot_22 (v25 := lI ((k + 1 : Nat) : Int)) (by rw [e1]; rfl) (ih (k + 1) (by omega) hp)
theorem c_wholeRoot {x : Int} (hx : rg x) : Con E M_X6_wholeRoot yX6_wholeRoot [.long (lI x)] I J (p_l (lI (isqF 1000 0 x)) I J) := by
  refine Con.of (by decide +kernel) rfl (Nat.le_of_ble_eq_true rfl) ?_
  exact bX6_wholeRoot_0 (v1 := lI (0 : Nat)) rfl (wr_loop hx 1000 0 rfl ⟨rfl, rfl, rfl⟩)
theorem ro_loop {x : Int} (hx : x < 1000000) (hx0 : rg x) : ∀ (f k : Nat), k + f = 1000 → P (some (.long (lI (isqF f k x)))) I J → Sat E M_X7_rootOf P 2 [(0, .long (lI x)), (2, .long (lI k))] [] I J := by
  intro f
  induction f with
  | zero =>
    intro k hk hp
    obtain rfl : k = 1000 := by omega
    refine bX7_rootOf_2 (fun _ => bX7_rootOf_21 hp) (fun c => absurd ?_ c)
    show lI x < lI (1002001 : Int)
    rw [lI_lt hx0 ⟨by omega, by omega⟩]; omega
  | succ f ih =>
    intro k hk hp
    have hm : (((k : Int) + 1) * (k + 1)) ≤ 1000 * 1000 := Int.mul_le_mul (by omega) (by omega) (by omega) (by omega)
    have hm0 : 0 ≤ (((k : Int) + 1) * (k + 1)) := Int.mul_nonneg (by omega) (by omega)
    have e1 : (lI (k : Int) + (1 : Int64)) = lI ((k : Int) + 1) := lI_add k 1
    refine bX7_rootOf_2 (fun c => ?_) (fun c => ?_)
    · rw [e1, lI_mul, lI_lt hx0 ⟨by omega, by omega⟩] at c
      refine bX7_rootOf_21 ?_
      rw [isqF, if_neg (by omega)] at hp
      exact hp
    · rw [e1, lI_mul, lI_lt hx0 ⟨by omega, by omega⟩] at c
      rw [isqF, if_pos (by omega)] at hp
      exact bX7_rootOf_14 (v17 := lI ((k + 1 : Nat) : Int)) (by rw [e1]; rfl) (ih (k + 1) (by omega) hp)
theorem c_rootOf {x : Int} (hx : x < 1000000) (hx0 : rg x) : Con E M_X7_rootOf yX7_rootOf [.long (lI x)] I J (p_l (lI (isqF 1000 0 x)) I J) := by
  refine Con.of (by decide +kernel) rfl (Nat.le_of_ble_eq_true rfl) ?_
  exact bX7_rootOf_0 (v1 := lI (0 : Nat)) rfl (ro_loop hx hx0 1000 0 rfl ⟨rfl, rfl, rfl⟩)
theorem c_part {a b : Int} (ha : rg a) (hb : rg b) (h0 : 0 < b) : Con E M_X6_part yX6_part [.long (lI a), .long (lI b)] I J (p_l (lI (a.tdiv b)) I J) := by
  refine Con.of (by decide +kernel) rfl (Nat.le_of_ble_eq_true rfl) ?_
  have hz : ¬ lI b = 0 := fun q => by have := (lI_eq hb (b := 0) ⟨by omega, by omega⟩).mp q; omega
  exact bX6_part_0 (fun _ => bX6_part_10 hz (bX6_part_13 ⟨by rw [lI_div ha hb h0], rfl, rfl⟩)) (fun c => absurd c hz)
/-- one refusal more of number j -/
def rf (I : sa_I) (j : Nat) : sa_I := sa_uI I 1 j (I 1 j + 1)
end LG
section LH
variable {l : Launch} {D : va_G} {aI aL : ClassId} {ad : Nat → Nat} {P : sa_P} {I : sa_I} {J : sa_J}
theorem c_refused (j : Nat) (hj : j < 7) {x : Int32} (hx : -x = nI j) : Con (EC l D aI aL ad) M_X6_refused yX6_refused [.ref (ad 0), .int x] I J (p_i x (rf I j) J) := by
  refine Con.of (by decide +kernel) rfl (Nat.le_of_ble_eq_true rfl) ?_
  exact bX6_refused_0 hx hj hj rfl ⟨rfl, rfl, rfl⟩
theorem c_told (j : Nat) (hj : j < 7) {x : Int32} (hx : -x = nI j) : Con (EC l D aI aL ad) M_X6_told yX6_told [.ref (ad 0), .int x] I J (p_i (2000000000 - x) (rf I j) J) := by
  refine Con.of (by decide +kernel) rfl (Nat.le_of_ble_eq_true rfl) ?_
  refine bX6_told_0 (v_X6_59 dX6_told_5 rfl ⟨rfl, rfl, Nat.le_of_ble_eq_true rfl, Nat.le_of_ble_eq_true rfl⟩ (c_refused j hj hx) rfl rfl (Nat.le_of_ble_eq_true rfl) (fun r I1 J1 hp => ?_))
  obtain ⟨rfl, rfl, rfl⟩ := hp
  exact bX6_told_8 ⟨rfl, rfl, rfl⟩
theorem c_toldLong (j : Nat) (hj : j < 7) {x : Int32} (hx : -x = nI j) : Con (EC l D aI aL ad) M_X6_toldLong yX6_toldLong [.ref (ad 0), .int x] I J (p_l (4000000000000000000 - x.toInt64) (rf I j) J) := by
  refine Con.of (by decide +kernel) rfl (Nat.le_of_ble_eq_true rfl) ?_
  refine bX6_toldLong_0 (v_X6_59 dX6_toldLong_5 rfl ⟨rfl, rfl, Nat.le_of_ble_eq_true rfl, Nat.le_of_ble_eq_true rfl⟩ (c_refused j hj hx) rfl rfl (Nat.le_of_ble_eq_true rfl) (fun r I1 J1 hp => ?_))
  obtain ⟨rfl, rfl, rfl⟩ := hp
  exact bX6_toldLong_8 ⟨rfl, rfl, rfl⟩
theorem c_refuse (j : Nat) (hj : j < 7) {x : Int32} (hx : -x = nI j) : Con (ER l D aI aL ad) M_X7_refuse yX7_refuse [.ref (ad 0), .int x] I J (p_i x (rf I j) J) := by
  refine Con.of (by decide +kernel) rfl (Nat.le_of_ble_eq_true rfl) ?_
  exact bX7_refuse_0 hx hj hj rfl ⟨rfl, rfl, rfl⟩
theorem c_isField : Con (ER l D aI aL ad) M_X7_isField yX7_isField [.ref (ad 0)] I J (p_i (if I 0 1 ≤ 0 then 0 else 1) I J) := by
  refine Con.of (by decide +kernel) rfl (Nat.le_of_ble_eq_true rfl) ?_
  refine bX7_isField_0 (fun c => ?_) (fun c => ?_)
  · exact bX7_isField_11 (bX7_isField_12 rfl ⟨by rw [if_pos c], rfl, rfl⟩)
  · exact bX7_isField_7 (bX7_isField_12 rfl ⟨by rw [if_neg c], rfl, rfl⟩)
end LH
