/-- whether the reference's field comes out, by whole numbers -/
def okS (a b : Int) : Bool := match rgo 2 b a 0 (a * a - 4 * b) with
  | none => false
  | some (h, d, k, l, e) => tbC 2 b a 0 h d k l e 0 0 && tbC 2 b a 0 h d k l e 0 1 && tbC 2 b a 0 h d k l e 1 0 && tbC 2 b a 0 h d k l e 1 1
theorem okS_of {a b : Int} (h : okS a b = true) : ∃ h d k l e, rgo 2 b a 0 (a * a - 4 * b) = some (h, d, k, l, e) ∧ ∀ i j, i < 2 → j < 2 → tbC 2 b a 0 h d k l e i j = true := by
  unfold okS at h
  rcases hr : rgo 2 b a 0 (a * a - 4 * b) with _ | ⟨h1, d, k, l, e⟩
  · rw [hr] at h; exact absurd h Bool.false_ne_true
  · rw [hr] at h
    simp only [Bool.and_eq_true] at h
    refine ⟨h1, d, k, l, e, rfl, ?_⟩
    intro i j hi hj
    match i, j with
    | 0, 0 => exact h.1.1.1
    | 0, 1 => exact h.1.1.2
    | 1, 0 => exact h.1.2
    | 1, 1 => exact h.2
    | 0, _ + 2 => exact absurd hj (by omega)
    | 1, _ + 2 => exact absurd hj (by omega)
    | _ + 2, _ => exact absurd hi (by omega)
def sqI (I : sa_I) (a b : Int) : sa_I := sa_uI (sa_uI (sa_uI (sa_uI I 0 1 2) 0 2 (iI b)) 0 3 (iI a)) 0 4 0
/-- the reference's square: all roads -/
def sqR (I : sa_I) (J : sa_J) (a b : Int) : sa_P := fun r I1 J1 =>
  if a < -20 ∨ b < -200 then r = some (.int (-4)) ∧ I1 = rf I 4 ∧ J1 = J
  else if 20 < a ∨ 200 < b then r = some (.int (-6)) ∧ I1 = rf I 6 ∧ J1 = J
  else if psq (a * a - 4 * b) then r = some (.int (-3)) ∧ I1 = rf I 3 ∧ J1 = J
  else r = some (.int 1) ∧ ∃ h d k l e, rgo 2 b a 0 (a * a - 4 * b) = some (h, d, k, l, e) ∧ rbS 2 b a 0 h d k l e (a * a - 4 * b) (sqI I a b) (sa_uJ J 0 11 (lI (a * a - 4 * b))) I1 J1
section S7
variable {l : Launch} {D : va_G} {aI aL : ClassId} {ad : Nat → Nat} {I : sa_I} {J : sa_J}
theorem c_square7 {a b : Int} (ha : rgi a) (hb : rgi b) (hk : -20 ≤ a → a ≤ 20 → -200 ≤ b → b ≤ 200 → psq (a * a - 4 * b) = false → okS a b = true) : Con (ER l D aI aL ad) M_X7_square yX7_square [.ref (ad 0), .int (iI a), .int (iI b)] I J (sqR I J a b) := by
  refine Con.of (by decide +kernel) rfl (Nat.le_of_ble_eq_true rfl) ?_
  have below : (a < -20 ∨ b < -200) → Sat (ER l D aI aL ad) M_X7_square (sqR I J a b) 13 [(0, .ref (ad 0))] [] I J := by
    intro h
    refine bX7_square_13 (v_X7_84 dX7_square_16 rfl ⟨rfl, rfl, Nat.le_of_ble_eq_true rfl, Nat.le_of_ble_eq_true rfl⟩ (c_refuse 4 (by decide) rfl) rfl rfl (Nat.le_of_ble_eq_true rfl) (fun r I1 J1 hp => ?_))
    obtain ⟨rfl, rfl, rfl⟩ := hp
    refine bX7_square_19 ?_
    unfold sqR; rw [if_pos h]; exact ⟨rfl, rfl, rfl⟩
  have above : ¬ (a < -20 ∨ b < -200) → (20 < a ∨ 200 < b) → Sat (ER l D aI aL ad) M_X7_square (sqR I J a b) 33 [(0, .ref (ad 0))] [] I J := by
    intro h0 h
    refine bX7_square_33 (v_X7_84 dX7_square_36 rfl ⟨rfl, rfl, Nat.le_of_ble_eq_true rfl, Nat.le_of_ble_eq_true rfl⟩ (c_refuse 6 (by decide) rfl) rfl rfl (Nat.le_of_ble_eq_true rfl) (fun r I1 J1 hp => ?_))
    obtain ⟨rfl, rfl, rfl⟩ := hp
    refine bX7_square_39 ?_
    unfold sqR; rw [if_neg h0, if_pos h]; exact ⟨rfl, rfl, rfl⟩
  refine bX7_square_0 (fun c => below (Or.inl ((iI_ltc ha (k := -20) ⟨by omega, by omega⟩ rfl).mp c))) (fun c1 => ?_)
  have c1 : ¬ a < -20 := fun q => c1 ((iI_ltc ha (k := -20) ⟨by omega, by omega⟩ rfl).mpr q)
  refine bX7_square_6 (fun c2 => ?_) (fun c2 => below (Or.inr (by have : ¬ -200 ≤ b := fun q => c2 ((iI_cle (v := (-200 : Int32)) hb (k := -200) ⟨by omega, by omega⟩ (by decide)).mpr q); omega)))
  have c2 := (iI_cle (v := (-200 : Int32)) hb (k := -200) ⟨by omega, by omega⟩ (by decide)).mp c2
  refine bX7_square_20 (fun c => above (by omega) (Or.inl ((iI_clt ha (k := 20) ⟨by omega, by omega⟩ rfl).mp c))) (fun c3 => ?_)
  have c3 : ¬ 20 < a := fun q => c3 ((iI_clt ha (k := 20) ⟨by omega, by omega⟩ rfl).mpr q)
  refine bX7_square_26 (fun c4 => ?_) (fun c4 => above (by omega) (Or.inr (by have : ¬ b ≤ 200 := fun q => c4 ((iI_lec hb (k := 200) ⟨by omega, by omega⟩ rfl).mpr q); omega)))
  have c4 := (iI_lec hb (k := 200) ⟨by omega, by omega⟩ rfl).mp c4
  have n0 : ¬ (a < -20 ∨ b < -200) := by omega
  have n1 : ¬ (20 < a ∨ 200 < b) := by omega
  have am : 0 ≤ a * a ∧ a * a ≤ 400 := by
    have h1 : a.natAbs * a.natAbs ≤ 20 * 20 := Nat.mul_le_mul (by omega) (by omega)
    have h2 : ((a.natAbs * a.natAbs : Nat) : Int) = a * a := Int.natAbs_mul_self
    omega
  have rx : rg (a * a - 4 * b) := ⟨by omega, by omega⟩
  have good : psq (a * a - 4 * b) = false → Sat (ER l D aI aL ad) M_X7_square (sqR I J a b) 80 [(0, .ref (ad 0)), (1, .int (iI a)), (2, .int (iI b)), (3, .long (lI (a * a - 4 * b)))] [] I J := by
    intro hq
    obtain ⟨h, d, k, l', e, hr, hc⟩ := okS_of (hk (by omega) (by omega) (by omega) (by omega) hq)
    refine bX7_square_80 rfl rfl (v_X7_118 dX7_square_106 rfl ⟨rfl, rfl, Nat.le_of_ble_eq_true rfl, Nat.le_of_ble_eq_true rfl⟩ (c_begins2 (f0 := b) (f1 := a) (Di := a * a - 4 * b) rfl ⟨by omega, by omega⟩ ⟨rfl, rfl, rfl, rfl, Or.inl ⟨rfl, ⟨by omega, by omega⟩, ⟨by omega, by omega⟩⟩⟩ hr hc) rfl rfl (Nat.le_of_ble_eq_true rfl) (fun r I1 J1 hp => ?_))
    obtain ⟨rfl, hp⟩ := hp
    refine bX7_square_109 ?_
    unfold sqR; rw [if_neg n0, if_neg n1, hq]
    exact ⟨rfl, h, d, k, l', e, hr, hp⟩
  refine bX7_square_40 (v52 := lI (a * a - 4 * b)) (by rw [iI_lI ha, iI_lI hb, lI_mul, show (4 : Int64) = lI 4 from rfl, lI_mul, lI_sub]) (fun c => ?_) (fun c => ?_)
  · have c := (lI_lt rx (b := 0) ⟨by omega, by omega⟩).mp c
    exact good (by unfold psq; rw [decide_eq_false (by omega)]; rfl)
  · have c : ¬ a * a - 4 * b < 0 := fun q => c ((lI_lt rx (b := 0) ⟨by omega, by omega⟩).mpr q)
    refine bX7_square_59 (v_X7_98 dX7_square_60 rfl ⟨rfl, rfl, Nat.le_of_ble_eq_true rfl, Nat.le_of_ble_eq_true rfl⟩ (c_rootOf (by omega) rx) rfl rfl (Nat.le_of_ble_eq_true rfl) (fun r I1 J1 hp => ?_))
    obtain ⟨rfl, rfl, rfl⟩ := hp
    refine bX7_square_63 (v_X7_98 dX7_square_64 rfl ⟨rfl, rfl, Nat.le_of_ble_eq_true rfl, Nat.le_of_ble_eq_true rfl⟩ (c_rootOf (by omega) rx) rfl rfl (Nat.le_of_ble_eq_true rfl) (fun r I1 J1 hp => ?_))
    obtain ⟨rfl, rfl, rfl⟩ := hp
    have hle := isqF_le (a * a - 4 * b) 1000 0
    have r2 : rg ((isqF 1000 0 (a * a - 4 * b) : Nat) * (isqF 1000 0 (a * a - 4 * b) : Nat) : Int) := by
      have h1 := Int.natCast_mul (isqF 1000 0 (a * a - 4 * b)) (isqF 1000 0 (a * a - 4 * b))
      have h2 : isqF 1000 0 (a * a - 4 * b) * isqF 1000 0 (a * a - 4 * b) ≤ 1000 * 1000 := Nat.mul_le_mul (by omega) (by omega)
      rw [← h1]; exact ⟨by omega, by omega⟩
    refine bX7_square_67 (fun q => good ?_) (fun q => bX7_square_73 (v_X7_84 dX7_square_76 rfl ⟨rfl, rfl, Nat.le_of_ble_eq_true rfl, Nat.le_of_ble_eq_true rfl⟩ (c_refuse 3 (by decide) rfl) rfl rfl (Nat.le_of_ble_eq_true rfl) (fun r I1 J1 hp => ?_)))
    · unfold psq; rw [decide_eq_false (p := _ = _) (fun e => q (by rw [lI_mul, e]))]; simp
    · obtain ⟨rfl, rfl, rfl⟩ := hp
      rw [lI_mul] at q
      have q := (lI_eq r2 rx).mp q
      refine bX7_square_79 ?_
      have hps : psq (a * a - 4 * b) = true := by unfold psq; rw [decide_eq_true (by omega), decide_eq_true q]; rfl
      unfold sqR; rw [if_neg n0, if_neg n1, hps]; exact ⟨rfl, rfl, rfl⟩
end S7
