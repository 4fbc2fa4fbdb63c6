def okC (a b c : Int) : Bool := match rgo 3 c b a (a * a * b * b - 4 * b * b * b - 4 * a * a * a * c - 27 * c * c + 18 * a * b * c) with
  | none => false
  | some (h, d, k, l, e) => tbC 3 c b a h d k l e 0 0 && tbC 3 c b a h d k l e 0 1 && tbC 3 c b a h d k l e 0 2 && tbC 3 c b a h d k l e 1 0 && tbC 3 c b a h d k l e 1 1 && tbC 3 c b a h d k l e 1 2 && tbC 3 c b a h d k l e 2 0 && tbC 3 c b a h d k l e 2 1 && tbC 3 c b a h d k l e 2 2
def pdI (a b c : Int) : Int := a * a * b * b - 4 * b * b * b - 4 * a * a * a * c - 27 * c * c + 18 * a * b * c
theorem okC_of {a b c : Int} (h : okC a b c = true) : ∃ h d k l e, rgo 3 c b a (pdI a b c) = some (h, d, k, l, e) ∧ ∀ i j, i < 3 → j < 3 → tbC 3 c b a h d k l e i j = true := by
  unfold okC at h
  unfold pdI
  rcases hr : rgo 3 c b a (a * a * b * b - 4 * b * b * b - 4 * a * a * a * c - 27 * c * c + 18 * a * b * c) with _ | ⟨h1, d, k, l, e⟩
  · rw [hr] at h; exact absurd h Bool.false_ne_true
  · rw [hr] at h
    simp only [Bool.and_eq_true] at h
    refine ⟨h1, d, k, l, e, rfl, ?_⟩
    obtain ⟨⟨⟨⟨⟨⟨⟨⟨h0, h1⟩, h2⟩, h3⟩, h4⟩, h5⟩, h6⟩, h7⟩, h8⟩ := h
    intro i j hi hj
    match i, j with
    | 0, 0 => exact h0
    | 0, 1 => exact h1
    | 0, 2 => exact h2
    | 1, 0 => exact h3
    | 1, 1 => exact h4
    | 1, 2 => exact h5
    | 2, 0 => exact h6
    | 2, 1 => exact h7
    | 2, 2 => exact h8
    | 0, _ + 3 => exact absurd hj (by omega)
    | 1, _ + 3 => exact absurd hj (by omega)
    | 2, _ + 3 => exact absurd hj (by omega)
    | _ + 3, _ => exact absurd hi (by omega)
def cuI (I : sa_I) (a b c : Int) : sa_I := sa_uI (sa_uI (sa_uI (sa_uI I 0 1 3) 0 2 (iI c)) 0 3 (iI b)) 0 4 (iI a)
/-- the reference's search for a whole root -/
def hw7 (a b c : Int) : Nat → Int → Bool
  | 0, _ => false
  | f + 1, x => if x * x * x + a * x * x + b * x + c = 0 then true else hw7 a b c f (x + 1)
def cuR (I : sa_I) (J : sa_J) (a b c : Int) : sa_P := fun r I1 J1 =>
  if a < -3 ∨ b < -9 ∨ c < -9 then r = some (.int (-4)) ∧ I1 = rf I 4 ∧ J1 = J
  else if 3 < a ∨ 9 < b ∨ 9 < c then r = some (.int (-6)) ∧ I1 = rf I 6 ∧ J1 = J
  else if hw7 a b c 41 (-20) then r = some (.int (-3)) ∧ I1 = rf I 3 ∧ J1 = J
  else r = some (.int 1) ∧ ∃ h d k l e, rgo 3 c b a (pdI a b c) = some (h, d, k, l, e) ∧ rbS 3 c b a h d k l e (pdI a b c) (cuI I a b c) (sa_uJ J 0 11 (lI (pdI a b c))) I1 J1
section C7
variable {l : Launch} {D : va_G} {aI aL : ClassId} {ad : Nat → Nat} {P : sa_P} {I : sa_I} {J : sa_J}
theorem hw7_loop {a b c : Int} (ha : bd a 3) (hb : bd b 9) (hc : bd c 9) (kr : hw7 a b c 41 (-20) = true → Sat (ER l D aI aL ad) M_X7_cube P 86 [(0, .ref (ad 0))] [] I J) (kg : hw7 a b c 41 (-20) = false → Sat (ER l D aI aL ad) M_X7_cube P 99 [(0, .ref (ad 0)), (1, .int (iI a)), (2, .int (iI b)), (3, .int (iI c))] [] I J) : ∀ (f : Nat) (x : Int), x + f = 21 → -20 ≤ x → hw7 a b c 41 (-20) = hw7 a b c f x → Sat (ER l D aI aL ad) M_X7_cube P 53 [(0, .ref (ad 0)), (1, .int (iI a)), (2, .int (iI b)), (3, .int (iI c)), (4, .int (iI x))] [] I J := by
  intro f
  induction f with
  | zero =>
    intro x hx h0 hh
    obtain rfl : x = 21 := by omega
    exact bX7_cube_53 (fun _ => kg hh) (fun c => absurd (show (20 : Int32) < iI 21 by decide) c)
  | succ f ih =>
    intro x hx h0 hh
    have rx : rgi x := ⟨by omega, by omega⟩
    have bx : bd x 20 := ⟨by omega, by omega⟩
    have hv : bd (x * x * x + a * x * x + b * x + c) 100000 := bd_mono (bd_add (bd_add (bd_add (bd_mul (bd_mul bx bx) bx) (bd_mul (bd_mul ha bx) bx)) (bd_mul hb bx)) hc) (by decide)
    refine bX7_cube_53 (fun c => absurd ((iI_clt rx (k := 20) ⟨by omega, by omega⟩ rfl).mp c) (by omega)) (fun _ => bX7_cube_60 (fun q => ?_) (fun q => ?_))
    · simp only [iI_mul, iI_add] at q
      have q : ¬ x * x * x + a * x * x + b * x + c = 0 := fun e => q (by rw [e]; rfl)
      unfold hw7 at hh
      rw [if_neg q] at hh
      exact bX7_cube_93 (v93 := iI (x + 1)) (iI_add x 1) (ih (x + 1) (by omega) (by omega) (by rw [← hh]; rfl))
    · simp only [iI_mul, iI_add] at q
      have q := (iI_eq (bd_i hv (by decide)) (b := 0) ⟨by omega, by omega⟩).mp q
      have hh2 : hw7 a b c 41 (-20) = true := by rw [hh]; unfold hw7; rw [if_pos q]
      exact kr hh2
theorem c_cube7 {a b c : Int} (ha : rgi a) (hb : rgi b) (hc : rgi c) (hk : -3 ≤ a → a ≤ 3 → -9 ≤ b → b ≤ 9 → -9 ≤ c → c ≤ 9 → hw7 a b c 41 (-20) = false → okC a b c = true) : Con (ER l D aI aL ad) M_X7_cube yX7_cube [.ref (ad 0), .int (iI a), .int (iI b), .int (iI c)] I J (cuR I J a b c) := by
  refine Con.of (by decide +kernel) rfl (Nat.le_of_ble_eq_true rfl) ?_
  have k9 : rgi (-9) := ⟨by omega, by omega⟩
  have k3 : rgi (-3) := ⟨by omega, by omega⟩
  have q9 : rgi 9 := ⟨by omega, by omega⟩
  have q3 : rgi 3 := ⟨by omega, by omega⟩
  have below : (a < -3 ∨ b < -9 ∨ c < -9) → Sat (ER l D aI aL ad) M_X7_cube (cuR I J a b c) 18 [(0, .ref (ad 0))] [] I J := by
    intro h
    refine bX7_cube_18 (v_X7_84 dX7_cube_21 rfl ⟨rfl, rfl, Nat.le_of_ble_eq_true rfl, Nat.le_of_ble_eq_true rfl⟩ (c_refuse 4 (by decide) rfl) rfl rfl (Nat.le_of_ble_eq_true rfl) (fun r I1 J1 hp => ?_))
    obtain ⟨rfl, rfl, rfl⟩ := hp
    refine bX7_cube_24 ?_
    unfold cuR; rw [if_pos h]; exact ⟨rfl, rfl, rfl⟩
  have above : ¬ (a < -3 ∨ b < -9 ∨ c < -9) → (3 < a ∨ 9 < b ∨ 9 < c) → Sat (ER l D aI aL ad) M_X7_cube (cuR I J a b c) 42 [(0, .ref (ad 0))] [] I J := by
    intro h0 h
    refine bX7_cube_42 (v_X7_84 dX7_cube_45 rfl ⟨rfl, rfl, Nat.le_of_ble_eq_true rfl, Nat.le_of_ble_eq_true rfl⟩ (c_refuse 6 (by decide) rfl) rfl rfl (Nat.le_of_ble_eq_true rfl) (fun r I1 J1 hp => ?_))
    obtain ⟨rfl, rfl, rfl⟩ := hp
    refine bX7_cube_48 ?_
    unfold cuR; rw [if_neg h0, if_pos h]; exact ⟨rfl, rfl, rfl⟩
  refine bX7_cube_0 (fun q => below (Or.inl ((iI_ltc ha k3 rfl).mp q))) (fun c1 => ?_)
  have c1 : ¬ a < -3 := fun q => c1 ((iI_ltc ha k3 rfl).mpr q)
  refine bX7_cube_6 (fun q => below (Or.inr (Or.inl ((iI_ltc hb k9 rfl).mp q)))) (fun c2 => ?_)
  have c2 : ¬ b < -9 := fun q => c2 ((iI_ltc hb k9 rfl).mpr q)
  refine bX7_cube_12 (fun c3 => ?_) (fun c3 => below (Or.inr (Or.inr (by have : ¬ -9 ≤ c := fun q => c3 ((iI_cle hc k9 rfl).mpr q); omega))))
  have c3 := (iI_cle hc k9 rfl).mp c3
  refine bX7_cube_25 (fun q => above (by omega) (Or.inl ((iI_clt ha q3 rfl).mp q))) (fun c4 => ?_)
  have c4 : ¬ 3 < a := fun q => c4 ((iI_clt ha q3 rfl).mpr q)
  refine bX7_cube_30 (fun q => above (by omega) (Or.inr (Or.inl ((iI_clt hb q9 rfl).mp q)))) (fun c5 => ?_)
  have c5 : ¬ 9 < b := fun q => c5 ((iI_clt hb q9 rfl).mpr q)
  refine bX7_cube_36 (fun c6 => ?_) (fun c6 => above (by omega) (Or.inr (Or.inr (by have : ¬ c ≤ 9 := fun q => c6 ((iI_lec hc q9 rfl).mpr q); omega))))
  have c6 := (iI_lec hc q9 rfl).mp c6
  have n0 : ¬ (a < -3 ∨ b < -9 ∨ c < -9) := by omega
  have n1 : ¬ (3 < a ∨ 9 < b ∨ 9 < c) := by omega
  have ba : bd a 3 := ⟨by omega, by omega⟩
  have bb : bd b 9 := ⟨by omega, by omega⟩
  have bc : bd c 9 := ⟨by omega, by omega⟩
  refine bX7_cube_49 (v51 := iI (-20)) rfl (hw7_loop ba bb bc (fun hq => ?_) (fun hq => ?_) 41 (-20) (by decide) (by decide) rfl)
  · refine bX7_cube_86 (v_X7_84 dX7_cube_89 rfl ⟨rfl, rfl, Nat.le_of_ble_eq_true rfl, Nat.le_of_ble_eq_true rfl⟩ (c_refuse 3 (by decide) rfl) rfl rfl (Nat.le_of_ble_eq_true rfl) (fun r I1 J1 hp => ?_))
    obtain ⟨rfl, rfl, rfl⟩ := hp
    refine bX7_cube_92 ?_
    unfold cuR; rw [if_neg n0, if_neg n1, hq]; exact ⟨rfl, rfl, rfl⟩
  · obtain ⟨h, d, k, l', e, hr, hcc⟩ := okC_of (hk (by omega) (by omega) (by omega) (by omega) (by omega) (by omega) hq)
    have hpd : bd (pdI a b c) 12000 := bd_mono (bd_add (bd_sub (bd_sub (bd_sub (bd_mul (bd_mul (bd_mul ba ba) bb) bb) (bd_mul (bd_mul (bd_mul (A := 4) ⟨by decide, by decide⟩ bb) bb) bb)) (bd_mul (bd_mul (bd_mul (bd_mul (A := 4) ⟨by decide, by decide⟩ ba) ba) ba) bc)) (bd_mul (bd_mul (A := 27) ⟨by decide, by decide⟩ bc) bc)) (bd_mul (bd_mul (bd_mul (A := 18) ⟨by decide, by decide⟩ ba) bb) bc)) (by decide)
    have hab : rgi (a * a * b * b) := bd_i (bd_mul (bd_mul (bd_mul ba ba) bb) bb) (by decide)
    refine bX7_cube_99 (v180 := lI (pdI a b c)) rfl ?_ (v_X7_118 dX7_cube_184 rfl ⟨rfl, rfl, Nat.le_of_ble_eq_true rfl, Nat.le_of_ble_eq_true rfl⟩ (c_begins3 (f0 := c) (f1 := b) (f2 := a) (Di := pdI a b c) rfl hpd ⟨rfl, rfl, rfl, rfl, Or.inr ⟨rfl, bd_mono bc (by decide), bd_mono bb (by decide), bd_mono ba (by decide)⟩⟩ hr hcc) rfl rfl (Nat.le_of_ble_eq_true rfl) (fun r I1 J1 hp => ?_))
    · rw [show (4 : Int64) = lI 4 from rfl, show (27 : Int64) = lI 27 from rfl, show (18 : Int64) = lI 18 from rfl, iI_mul, iI_mul, iI_mul, iI_lI hab, iI_lI ha, iI_lI hb, iI_lI hc]
      simp only [lI_mul, lI_sub, lI_add, pdI]
    · obtain ⟨rfl, hp⟩ := hp
      refine bX7_cube_187 ?_
      unfold cuR; rw [if_neg n0, if_neg n1, hq]
      exact ⟨rfl, h, d, k, l', e, hr, hp⟩
end C7
