def fmQC (n : Nat) (D k w : Int) (I : sa_I) (J : sa_J) : sa_P := fun r I1 J1 => ((n ≠ 2 ∨ ¬ (0 ≤ w ∧ w < 3)) ∧ r = some (.int (2000000000 - -2)) ∧ I1 = rf I 2 ∧ J1 = J) ∨ (n = 2 ∧ (0 ≤ w ∧ w < 3) ∧ ∃ Ia, fxC I Ia J J1 ∧ fcC D Ia J1 ∧ ((¬ (0 ≤ k ∧ k < (LF D).length) ∧ r = some (.int (2000000000 - -1)) ∧ I1 = rf Ia 1) ∨ ((0 ≤ k ∧ k < (LF D).length) ∧ I1 = Ia ∧ ∃ f, (LF D)[k.toNat]? = some f ∧ r = some (.int (iI (vk f w.toNat))))))
def fmQR (n : Nat) (D k w : Int) (I : sa_I) (J : sa_J) : sa_P := fun r I1 J1 => ((n ≠ 2 ∨ ¬ (0 ≤ w ∧ w < 3)) ∧ r = some (.int (2000000000 - -2)) ∧ I1 = rf I 2 ∧ J1 = J) ∨ (n = 2 ∧ (0 ≤ w ∧ w < 3) ∧ ∃ Ia, fxR I Ia J J1 ∧ fcR D Ia J1 ∧ ((¬ (0 ≤ k ∧ k < (LF D).length) ∧ r = some (.int (2000000000 - -1)) ∧ I1 = rf Ia 1) ∨ ((0 ≤ k ∧ k < (LF D).length) ∧ I1 = Ia ∧ ∃ f, (LF D)[k.toNat]? = some f ∧ r = some (.int (iI (vk f w.toNat))))))
section FX
variable {l : Launch} {DD : va_G} {aI aL : ClassId} {ad : Nat → Nat} {P : sa_P} {I : sa_I} {J : sa_J}
theorem c_form6 {n : Nat} {D k w : Int} (hk : rgi k) (hw : rgi w) (h0 : n = 2 ∨ n = 3) (hF : FOK n D) (hI : I 4 0 = nI n) (h42 : n = 2 → J 4 2 = lI D) (hc : n = 2 → fcC D I J) : Con (EC l DD aI aL ad) M_X6_form yX6_form [.ref (ad 0), .int (iI k), .int (iI w)] I J (fmQC n D k w I J) := by
  refine Con.of (by decide +kernel) rfl (Nat.le_of_ble_eq_true rfl) ?_
  have no : (n ≠ 2 ∨ ¬ (0 ≤ w ∧ w < 3)) → Sat (EC l DD aI aL ad) M_X6_form (fmQC n D k w I J) 37 [(0, .ref (ad 0))] [] I J := by
    intro h
    refine bX6_form_37 ?_
    refine v_X6_116 dX6_form_40 rfl ⟨rfl, rfl, Nat.le_of_ble_eq_true rfl, Nat.le_of_ble_eq_true rfl⟩ (c_told 2 (by decide) (x := -2) rfl) rfl rfl (Nat.le_of_ble_eq_true rfl) (fun r I1 J1 hq => ?_)
    obtain ⟨rfl, rfl, rfl⟩ := hq
    exact bX6_form_43 (Or.inl ⟨h, rfl, rfl, rfl⟩)
  refine bX6_form_0 (fun _ => ?_) (fun c => absurd c (by rw [hI, nI_lit 0, nJ_eq (by omega) (by omega)]; omega))
  rcases h0 with rfl | rfl
  rotate_left
  · exact bX6_form_17 (fun _ => no (Or.inl (by decide))) (fun c => absurd c (by rw [hI]; decide))
  obtain ⟨hD, hL, _⟩ := hF rfl
  have h160 := hL.1
  refine bX6_form_17 (fun c => absurd (by rw [hI]; rfl) c) (fun _ => ?_)
  refine bX6_form_28 (fun c => no ?_) (fun c => ?_)
  · rw [show (0 : Int32) = iI 0 from rfl, iI_lt hw ⟨by omega, by omega⟩] at c; exact Or.inr (by omega)
  rw [show (0 : Int32) = iI 0 from rfl, iI_lt hw ⟨by omega, by omega⟩] at c
  refine bX6_form_32 (fun c2 => bX6_form_44 ?_) (fun c2 => no ?_)
  rotate_left
  · rw [show (2 : Int32) = iI 2 from rfl, iI_le hw ⟨by omega, by omega⟩] at c2; exact Or.inr (by omega)
  rw [show (2 : Int32) = iI 2 from rfl, iI_le hw ⟨by omega, by omega⟩] at c2
  have w3 : 0 ≤ w ∧ w < 3 := ⟨by omega, by omega⟩
  refine v_X6_226 dX6_form_48 rfl ⟨rfl, rfl, Nat.le_of_ble_eq_true rfl, Nat.le_of_ble_eq_true rfl⟩ (c_list hD hL (h42 rfl) (hc rfl)) rfl rfl (Nat.le_of_ble_eq_true rfl) (fun r I1 J1 hq => ?_)
  obtain ⟨rfl, hr, f1, f2, f3⟩ := hq
  have fx : fxC I I1 J J1 := ⟨fun q a b c d => f1 q b c d, fun q _ a => f3 q a⟩
  have none' : ¬ (0 ≤ k ∧ k < (LF D).length) → Sat (EC l DD aI aL ad) M_X6_form (fmQC 2 D k w I J) 66 [(0, .ref (ad 0))] [] I1 J1 := by
    intro h
    refine bX6_form_66 ?_
    refine v_X6_116 dX6_form_68 rfl ⟨rfl, rfl, Nat.le_of_ble_eq_true rfl, Nat.le_of_ble_eq_true rfl⟩ (c_told 1 (by decide) (x := -1) rfl) rfl rfl (Nat.le_of_ble_eq_true rfl) (fun r I2 J2 hq => ?_)
    obtain ⟨rfl, rfl, rfl⟩ := hq
    exact bX6_form_71 (Or.inr ⟨rfl, w3, I1, fx, Or.inr hr, Or.inl ⟨h, rfl, rfl⟩⟩)
  have gl : rgi ((LF D).length : Int) := ⟨by omega, by omega⟩
  refine bX6_form_51 (fun q => none' ?_) (fun q => ?_)
  · rw [show (0 : Int32) = iI 0 from rfl, iI_lt hk ⟨by omega, by omega⟩] at q; omega
  rw [show (0 : Int32) = iI 0 from rfl, iI_lt hk ⟨by omega, by omega⟩] at q
  refine bX6_form_55 (fun q2 => ?_) (fun q2 => none' ?_)
  rotate_left
  · rw [hr.1.1, nI_iI, iI_lt hk gl] at q2; omega
  rw [hr.1.1, nI_iI, iI_lt hk gl] at q2
  have kl : k.toNat < (LF D).length := by omega
  obtain ⟨f, hf⟩ : ∃ f, (LF D)[k.toNat]? = some f := ⟨_, List.getElem?_eq_getElem kl⟩
  obtain ⟨n1, n2, n3⟩ := hr.1.2 k.toNat f hf
  refine bX6_form_72 (j83 := 3 * k.toNat + w.toNat) (by rw [iI_nat (by omega : 0 ≤ k), iI_nat w3.1, nI_lit 3, nI_mulE, nI_addE]) (by omega) (Or.inr ⟨rfl, w3, I1, fx, Or.inr hr, Or.inr ⟨⟨by omega, by omega⟩, rfl, f, hf, ?_⟩⟩)
  have hw3 : w.toNat = 0 ∨ w.toNat = 1 ∨ w.toNat = 2 := by omega
  rcases hw3 with e | e | e <;> rw [e]
  · rw [Nat.add_zero, n1]; rfl
  · rw [n2]; rfl
  · rw [n3]; rfl
theorem c_form7 {n : Nat} {D k w : Int} (hk : rgi k) (hw : rgi w) (h0 : n = 2 ∨ n = 3) (hF : FOK n D) (hI : I 0 1 = nI n) (h10 : n = 2 → J 0 10 = lI D) (hc : n = 2 → fcR D I J) : Con (ER l DD aI aL ad) M_X7_form yX7_form [.ref (ad 0), .int (iI k), .int (iI w)] I J (fmQR n D k w I J) := by
  refine Con.of (by decide +kernel) rfl (Nat.le_of_ble_eq_true rfl) ?_
  have no : (n ≠ 2 ∨ ¬ (0 ≤ w ∧ w < 3)) → Sat (ER l DD aI aL ad) M_X7_form (fmQR n D k w I J) 20 [(0, .ref (ad 0)), (1, .int (iI k)), (2, .int (iI w)), (3, .int (-2))] [] I J := by
    intro h
    refine bX7_form_20 (fun c => absurd c (by decide)) (fun _ => bX7_form_24 ?_)
    refine v_X7_214 dX7_form_26 rfl ⟨rfl, rfl, Nat.le_of_ble_eq_true rfl, Nat.le_of_ble_eq_true rfl⟩ (c_refuseFar 2 (by decide) (x := -2) rfl) rfl rfl (Nat.le_of_ble_eq_true rfl) (fun r I1 J1 hq => ?_)
    obtain ⟨rfl, rfl, rfl⟩ := hq
    exact bX7_form_29 (Or.inl ⟨h, rfl, rfl, rfl⟩)
  refine bX7_form_0 ?_
  refine v_X7_369 dX7_form_1 rfl ⟨rfl, rfl, Nat.le_of_ble_eq_true rfl, Nat.le_of_ble_eq_true rfl⟩ (c_wrongForms h0 hI) rfl rfl (Nat.le_of_ble_eq_true rfl) (fun r I1 J1 hq => ?_)
  obtain ⟨rfl, e1, e2⟩ := hq
  obtain rfl := e1.symm
  obtain rfl := e2.symm
  rcases h0 with rfl | rfl
  rotate_left
  · exact bX7_form_4 (fun _ => no (Or.inl (by decide))) (fun c => absurd c (by decide))
  obtain ⟨hD, hL, _⟩ := hF rfl
  have h160 := hL.1
  refine bX7_form_4 (fun c => absurd rfl c) (fun _ => bX7_form_9 ?_)
  refine v_X7_210 dX7_form_11 rfl ⟨rfl, rfl, Nat.le_of_ble_eq_true rfl, Nat.le_of_ble_eq_true rfl⟩ (c_isIn) rfl rfl (Nat.le_of_ble_eq_true rfl) (fun r I1 J1 hq => ?_)
  obtain ⟨rfl, e1, e2⟩ := hq
  obtain rfl := e1.symm
  obtain rfl := e2.symm
  rw [nI_lit 3, inB_I hw (m := 3) (by decide)]
  by_cases w3 : 0 ≤ w ∧ w < ((3 : Nat) : Int)
  rotate_left
  · rw [if_neg w3]
    exact bX7_form_14 (fun c => absurd rfl c) (fun _ => bX7_form_17 rfl (no (Or.inr w3)))
  rw [if_pos w3]
  have w3' : 0 ≤ w ∧ w < 3 := w3
  refine bX7_form_14 (fun _ => bX7_form_20 (fun _ => bX7_form_30 ?_) (fun c => absurd rfl c)) (fun c => absurd c (by decide))
  refine v_X7_360 dX7_form_31 rfl ⟨rfl, rfl, Nat.le_of_ble_eq_true rfl, Nat.le_of_ble_eq_true rfl⟩ (c_findForms hD hL (h10 rfl) (hc rfl)) rfl rfl (Nat.le_of_ble_eq_true rfl) (fun r I1 J1 hq => ?_)
  obtain ⟨rfl, hr, f1, f2, f3, f4⟩ := hq
  have fx : fxR I I1 J J1 := fxR_of (D := D) f1 f2 f3 f4
  refine bX7_form_34 ?_
  refine v_X7_210 dX7_form_39 rfl ⟨rfl, rfl, Nat.le_of_ble_eq_true rfl, Nat.le_of_ble_eq_true rfl⟩ (c_isIn) rfl rfl (Nat.le_of_ble_eq_true rfl) (fun r I2 J2 hq => ?_)
  obtain ⟨rfl, e1, e2⟩ := hq
  obtain rfl := e1.symm
  obtain rfl := e2.symm
  rw [hr.1.1, inB_I hk (m := (LF D).length) (by omega)]
  by_cases c : 0 ≤ k ∧ k < ((LF D).length : Nat)
  rotate_left
  · rw [if_neg c]
    refine bX7_form_42 (fun q => absurd rfl q) (fun _ => bX7_form_45 ?_)
    refine v_X7_214 dX7_form_47 rfl ⟨rfl, rfl, Nat.le_of_ble_eq_true rfl, Nat.le_of_ble_eq_true rfl⟩ (c_refuseFar 1 (by decide) (x := -1) rfl) rfl rfl (Nat.le_of_ble_eq_true rfl) (fun r I2 J2 hq => ?_)
    obtain ⟨rfl, rfl, rfl⟩ := hq
    exact bX7_form_50 (Or.inr ⟨rfl, w3', I1, fx, Or.inr hr, Or.inl ⟨c, rfl, rfl⟩⟩)
  rw [if_pos c]
  have kl : k.toNat < (LF D).length := by omega
  obtain ⟨f, hf⟩ : ∃ f, (LF D)[k.toNat]? = some f := ⟨_, List.getElem?_eq_getElem kl⟩
  obtain ⟨n1, n2, n3⟩ := hr.1.2 k.toNat f hf
  have fin : ∀ {v : Int32}, v = iI (vk f w.toNat) → Sat (ER l DD aI aL ad) M_X7_form (fmQR 2 D k w I J) 84 [] [.int v] I1 J1 := by
    intro v hv
    exact bX7_form_84 (Or.inr ⟨rfl, w3', I1, fx, Or.inr hr, Or.inr ⟨c, rfl, f, hf, by rw [hv]⟩⟩)
  refine bX7_form_42 (fun _ => ?_) (fun q => absurd q (by decide))
  refine bX7_form_51 (fun q => ?_) (fun q => bX7_form_55 (j59 := k.toNat) (iI_nat c.1) (by omega) (fin ?_))
  rotate_left
  · have e : w = 0 := (iI_eq hw (b := 0) ⟨by omega, by omega⟩).mp q
    rw [n1, e]; rfl
  have e0 : w ≠ 0 := fun z => q (by rw [z]; rfl)
  refine bX7_form_64 (fun q => bX7_form_78 (j82 := k.toNat) (iI_nat c.1) (by omega) (fin ?_)) (fun q => bX7_form_69 (j73 := k.toNat) (iI_nat c.1) (by omega) (fin ?_))
  · have e1 : w ≠ 1 := fun z => q (by rw [z]; rfl)
    have e2 : w = 2 := by omega
    rw [n3, e2]; rfl
  · have e1 : w = 1 := (iI_eq hw (b := 1) ⟨by omega, by omega⟩).mp q
    rw [n2, e1]; rfl
end FX
section FY
variable {l0 : Launch} {DD : va_G} {aI aL : ClassId} {ad ad' : Nat → Nat} {I I' : sa_I} {J J' : sa_J} {N : sa_I → sa_J → sa_I → sa_J → Prop} {a1 a2 a3 : Int32} {n : Nat} {D : Int}
theorem st_form (h0 : n = 2 ∨ n = 3) (hF : FOK n D) (hI : I 4 0 = nI n) (hI' : I' 0 1 = nI n) (h42 : n = 2 → J 4 2 = lI D) (h10 : n = 2 → J' 0 10 = lI D) (hc : n = 2 → fcC D I J) (hc' : n = 2 → fcR D I' J') (hR : N (rf I 2) J (rf I' 2) J') (hN : n = 2 → Nfo D N I J I' J') : la_Step l0 DD aI aL ad ad' N 22 a1 a2 a3 I J I' J' := by
  obtain ⟨k, hk, rfl⟩ := iI_of a1
  obtain ⟨w, hw, rfl⟩ := iI_of a2
  refine ⟨_, _, c_form6 hk hw h0 hF hI h42 hc, c_form7 hk hw h0 hF hI' h10 hc', fun r1 I1 J1 r2 I2 J2 P Q => ?_⟩
  rcases P with ⟨p, rfl, rfl, rfl⟩ | ⟨p, pw, Ia, f, g, P⟩
  · rcases Q with ⟨_, rfl, rfl, rfl⟩ | ⟨q, qw, _⟩
    · exact ⟨⟨_, rfl, rfl⟩, hR⟩
    · rcases p with p | p
      · exact absurd q p
      · exact absurd qw p
  · rcases Q with ⟨q, _⟩ | ⟨_, _, Ib, f', g', Q⟩
    · rcases q with q | q
      · exact absurd p q
      · exact absurd pw q
    · have nn := hN p _ _ _ _ f g f' g'
      rcases P with ⟨c, rfl, rfl⟩ | ⟨c, rfl, x, hx, rfl⟩
      · rcases Q with ⟨_, rfl, rfl⟩ | ⟨c', _⟩
        · exact ⟨⟨_, rfl, rfl⟩, nn.2 1⟩
        · exact absurd c' c
      · rcases Q with ⟨c', _⟩ | ⟨_, rfl, y, hy, rfl⟩
        · exact absurd c c'
        · rw [hx] at hy
          have := Option.some.inj hy
          subst this
          exact ⟨⟨_, rfl, rfl⟩, nn.1⟩
end FY
