/-- what is known of the forms, with the table: degree 2 -/
def FOT (n : Nat) (T : Nat → Int) (D : Int) : Prop := FOK n D ∧ (n = 2 → ∃ x y, T = T2 x y ∧ bd x 200 ∧ bd y 20 ∧ D = y * y + 4 * x)
def coC (n ni : Nat) (T Rv : Nat → Int) (D x : Int) (I : sa_I) (J : sa_J) : sa_P := fun r I1 J1 => (n ≠ 2 ∧ r = some (.int (-2)) ∧ I1 = rf I 2 ∧ J1 = J) ∨ (n = 2 ∧ ¬ (0 ≤ x ∧ x < ni) ∧ r = some (.int (-1)) ∧ I1 = rf I 1 ∧ J1 = J) ∨ (n = 2 ∧ (0 ≤ x ∧ x < ni) ∧ r = some (.int (iI (clsZ D (pfR T (fun t => Rv (9 * x.toNat + t)))))) ∧ fxC I I1 J J1 ∧ fcC D I1 J1)
def coR (n ni : Nat) (T Rv : Nat → Int) (D x : Int) (I : sa_I) (J : sa_J) : sa_P := fun r I1 J1 => (n ≠ 2 ∧ r = some (.int (-2)) ∧ I1 = rf I 2 ∧ J1 = J) ∨ (n = 2 ∧ ¬ (0 ≤ x ∧ x < ni) ∧ r = some (.int (-1)) ∧ I1 = rf I 1 ∧ J1 = J) ∨ (n = 2 ∧ (0 ≤ x ∧ x < ni) ∧ r = some (.int (iI (clsZ D (pfR T (fun t => Rv (9 * x.toNat + t)))))) ∧ fxR I I1 J J1 ∧ fcR D I1 J1)
section GF
variable {l : Launch} {DD : va_G} {aI aL : ClassId} {ad : Nat → Nat} {P : sa_P} {I : sa_I} {J : sa_J}
theorem c_classOf6 {n ni : Nat} {T Rv : Nat → Int} {D x : Int} (hx : rgi x) (h0 : n = 2 ∨ n = 3) (hF : FOT n T D) (hI : I 4 0 = nI n) (hT : ∀ t, t < 27 → J 8 t = lI (T t)) (h42 : n = 2 → J 4 2 = lI D) (hc : n = 2 → fcC D I J) (hni : I 0 9 = nI ni) (h80 : ni ≤ 80) (HI : ∀ i, i < ni → IdR n T (fun t => Rv (9 * i + t)) ∧ ∀ t, t < 9 → J 3 (9 * i + t) = lI (Rv (9 * i + t))) : Con (EC l DD aI aL ad) M_X6_classOf yX6_classOf [.ref (ad 0), .int (iI x)] I J (coC n ni T Rv D x I J) := by
  refine Con.of (by decide +kernel) rfl (Nat.le_of_ble_eq_true rfl) ?_
  refine bX6_classOf_0 (fun _ => ?_) (fun c => absurd c (by rw [hI, nI_lit 0, nJ_eq (by omega) (by omega)]; omega))
  rcases h0 with rfl | rfl
  rotate_left
  · refine bX6_classOf_17 (fun c => absurd c (by rw [hI]; decide)) (fun _ => bX6_classOf_28 ?_)
    refine v_X6_59 dX6_classOf_31 rfl ⟨rfl, rfl, Nat.le_of_ble_eq_true rfl, Nat.le_of_ble_eq_true rfl⟩ (c_refused 2 (by decide) (x := -2) rfl) rfl rfl (Nat.le_of_ble_eq_true rfl) (fun r I1 J1 hq => ?_)
    obtain ⟨rfl, rfl, rfl⟩ := hq
    exact bX6_classOf_34 (Or.inl ⟨by decide, rfl, rfl, rfl⟩)
  obtain ⟨hD, hL, _⟩ := hF.1 rfl
  obtain ⟨p, q, rfl, bp, bq, eD⟩ := hF.2 rfl
  refine bX6_classOf_17 (fun _ => bX6_classOf_35 ?_) (fun c => absurd (by rw [hI]; rfl) c)
  refine v_X6_172 dX6_classOf_37 rfl ⟨rfl, rfl, Nat.le_of_ble_eq_true rfl, Nat.le_of_ble_eq_true rfl⟩ (c_isIdeal6) rfl rfl (Nat.le_of_ble_eq_true rfl) (fun r I1 J1 hq => ?_)
  obtain ⟨rfl, e1, e2⟩ := hq
  obtain rfl := e1.symm
  obtain rfl := e2.symm
  rw [hni, inB_I hx (m := ni) (by omega)]
  by_cases cx : 0 ≤ x ∧ x < ni
  rotate_left
  · rw [if_neg cx]
    refine bX6_classOf_40 (fun c => absurd rfl c) (fun _ => bX6_classOf_43 ?_)
    refine v_X6_59 dX6_classOf_45 rfl ⟨rfl, rfl, Nat.le_of_ble_eq_true rfl, Nat.le_of_ble_eq_true rfl⟩ (c_refused 1 (by decide) (x := -1) rfl) rfl rfl (Nat.le_of_ble_eq_true rfl) (fun r I1 J1 hq => ?_)
    obtain ⟨rfl, rfl, rfl⟩ := hq
    exact bX6_classOf_48 (Or.inr (Or.inl ⟨rfl, cx, rfl, rfl, rfl⟩))
  rw [if_pos cx]
  obtain ⟨idX, memX⟩ := HI x.toNat (by omega)
  refine bX6_classOf_40 (fun _ => bX6_classOf_49 ?_) (fun c => absurd c (by decide))
  refine v_X6_226 dX6_classOf_53 rfl ⟨rfl, rfl, Nat.le_of_ble_eq_true rfl, Nat.le_of_ble_eq_true rfl⟩ (c_list hD hL (h42 rfl) (hc rfl)) rfl rfl (Nat.le_of_ble_eq_true rfl) (fun r I1 J1 hq => ?_)
  obtain ⟨rfl, hr, f1, f2, f3⟩ := hq
  refine bX6_classOf_56 ?_
  rw [iI_nat cx.1, nI_lit 9, nI_mulE]
  subst eD
  refine v_X6_236 dX6_classOf_68 rfl ⟨rfl, rfl, Nat.le_of_ble_eq_true rfl, Nat.le_of_ble_eq_true rfl⟩ (c_classOfRows6 ⟨bp, bq⟩ idX hD hL hr (by rw [f3 8 (by decide)]; exact hT 12 (by decide)) (by rw [f3 8 (by decide)]; exact hT 13 (by decide)) (p1 := 9 * x.toNat) aJ_C3 (by decide) (by omega) (by decide) (fun t ht => by rw [f3 3 (by decide)]; exact memX t ht)) rfl rfl (Nat.le_of_ble_eq_true rfl) (fun r I2 J2 hq => ?_)
  obtain ⟨rfl, e1, h1, h2⟩ := hq
  obtain rfl := e1.symm
  refine bX6_classOf_71 (Or.inr (Or.inr ⟨rfl, cx, rfl, ⟨fun q a b c d => f1 q b c d, fun q _ a => (h2.1 q a).trans (f3 q a)⟩, Or.inr ⟨hr.1, hr.2.1, hr.2.2.1, h1.1, h1.2.1⟩⟩))
theorem c_classOf7 {n ni : Nat} {T Rv : Nat → Int} {D x : Int} (hx : rgi x) (h0 : n = 2 ∨ n = 3) (hF : FOT n T D) (hI : I 0 1 = nI n) (hT : ∀ i j c, i < n → j < n → c < 3 → J 2 (9 * i + 3 * j + c) = lI (T (9 * i + 3 * j + c))) (h10 : n = 2 → J 0 10 = lI D) (hc : n = 2 → fcR D I J) (hni : I 0 14 = nI ni) (h80 : ni ≤ 80) (HI : ∀ i, i < ni → IdR n T (fun t => Rv (9 * i + t)) ∧ ∀ t, t < 3 * n → I 4 (9 * i + t) = iI (Rv (9 * i + t))) : Con (ER l DD aI aL ad) M_X7_classOf yX7_classOf [.ref (ad 0), .int (iI x)] I J (coR n ni T Rv D x I J) := by
  refine Con.of (by decide +kernel) rfl (Nat.le_of_ble_eq_true rfl) ?_
  refine bX7_classOf_0 ?_
  refine v_X7_369 dX7_classOf_1 rfl ⟨rfl, rfl, Nat.le_of_ble_eq_true rfl, Nat.le_of_ble_eq_true rfl⟩ (c_wrongForms h0 hI) rfl rfl (Nat.le_of_ble_eq_true rfl) (fun r I1 J1 hq => ?_)
  obtain ⟨rfl, e1, e2⟩ := hq
  obtain rfl := e1.symm
  obtain rfl := e2.symm
  rcases h0 with rfl | rfl
  rotate_left
  · refine bX7_classOf_4 (fun _ => bX7_classOf_19 (fun c => absurd c (by decide)) (fun _ => bX7_classOf_23 ?_)) (fun c => absurd c (by decide))
    refine v_X7_84 dX7_classOf_25 rfl ⟨rfl, rfl, Nat.le_of_ble_eq_true rfl, Nat.le_of_ble_eq_true rfl⟩ (c_refuse 2 (by decide) (x := -2) rfl) rfl rfl (Nat.le_of_ble_eq_true rfl) (fun r I1 J1 hq => ?_)
    obtain ⟨rfl, rfl, rfl⟩ := hq
    exact bX7_classOf_28 (Or.inl ⟨by decide, rfl, rfl, rfl⟩)
  obtain ⟨hD, hL, _⟩ := hF.1 rfl
  obtain ⟨p, q, rfl, bp, bq, eD⟩ := hF.2 rfl
  refine bX7_classOf_4 (fun c => absurd rfl c) (fun _ => bX7_classOf_9 ?_)
  refine v_X7_282 dX7_classOf_11 rfl ⟨rfl, rfl, Nat.le_of_ble_eq_true rfl, Nat.le_of_ble_eq_true rfl⟩ (c_isIdeal7) rfl rfl (Nat.le_of_ble_eq_true rfl) (fun r I1 J1 hq => ?_)
  obtain ⟨rfl, e1, e2⟩ := hq
  obtain rfl := e1.symm
  obtain rfl := e2.symm
  rw [hni, inB_I hx (m := ni) (by omega)]
  by_cases cx : 0 ≤ x ∧ x < ni
  rotate_left
  · rw [if_neg cx]
    refine bX7_classOf_14 (fun c => absurd rfl c) (fun _ => bX7_classOf_17 rfl (bX7_classOf_19 (fun c => absurd c (by decide)) (fun _ => bX7_classOf_23 ?_)))
    refine v_X7_84 dX7_classOf_25 rfl ⟨rfl, rfl, Nat.le_of_ble_eq_true rfl, Nat.le_of_ble_eq_true rfl⟩ (c_refuse 1 (by decide) (x := -1) rfl) rfl rfl (Nat.le_of_ble_eq_true rfl) (fun r I1 J1 hq => ?_)
    obtain ⟨rfl, rfl, rfl⟩ := hq
    exact bX7_classOf_28 (Or.inr (Or.inl ⟨rfl, cx, rfl, rfl, rfl⟩))
  rw [if_pos cx]
  obtain ⟨idX, memX⟩ := HI x.toNat (by omega)
  have bR := idX.1.bd idX.2.2.2
  refine bX7_classOf_14 (fun _ => bX7_classOf_19 (fun _ => bX7_classOf_29 ?_) (fun c => absurd rfl c)) (fun c => absurd c (by decide))
  rw [iI_nat cx.1]
  refine v_X7_285 dX7_classOf_35 rfl ⟨rfl, rfl, Nat.le_of_ble_eq_true rfl, Nat.le_of_ble_eq_true rfl⟩ (c_loadR (Or.inl rfl) bR (x := x.toNat) (by omega) memX) rfl rfl (Nat.le_of_ble_eq_true rfl) (fun r I1 J1 hq => ?_)
  obtain ⟨rfl, e1, ww, f⟩ := hq
  obtain rfl := e1.symm
  refine bX7_classOf_38 ?_
  subst eD
  have hc1 : fcR (q * q + 4 * p) I J1 := (hc rfl).imp id (fun z => ⟨z.1, z.2.1, fun y => by rw [f 0 (by decide)]; exact z.2.2 y⟩)
  refine v_X7_372 dX7_classOf_39 rfl ⟨rfl, rfl, Nat.le_of_ble_eq_true rfl, Nat.le_of_ble_eq_true rfl⟩ (c_classOfRows7 ⟨bp, bq⟩ idX hD hL (by rw [f 0 (by decide)]; exact h10 rfl) hc1 (by rw [f 2 (by decide)]; exact hT 1 1 1 (by decide) (by decide) (by decide)) (fun t ht => ww t (by omega))) rfl rfl (Nat.le_of_ble_eq_true rfl) (fun r I2 J2 hq => ?_)
  obtain ⟨rfl, hr, f1, f2, f3, f4⟩ := hq
  refine bX7_classOf_42 (Or.inr (Or.inr ⟨rfl, cx, rfl, ⟨f1, fun t _ a => f2 t a, fun q h => by rw [f3 q (by omega), f q (by omega)], fun t h => by rw [f4 t (by omega) (by omega) (by omega) (by omega), f 0 (by decide)]⟩, Or.inr hr⟩))
end GF
section GG
variable {l0 : Launch} {DD : va_G} {aI aL : ClassId} {ad ad' : Nat → Nat} {I I' : sa_I} {J J' : sa_J} {N : sa_I → sa_J → sa_I → sa_J → Prop} {a1 a2 a3 : Int32} {n ni : Nat} {T Rv : Nat → Int} {D : Int}
theorem st_classOf (h0 : n = 2 ∨ n = 3) (hF : FOT n T D) (hI : I 4 0 = nI n) (hT : ∀ t, t < 27 → J 8 t = lI (T t)) (hI' : I' 0 1 = nI n) (hT' : ∀ i j c, i < n → j < n → c < 3 → J' 2 (9 * i + 3 * j + c) = lI (T (9 * i + 3 * j + c))) (h42 : n = 2 → J 4 2 = lI D) (h10 : n = 2 → J' 0 10 = lI D) (hc : n = 2 → fcC D I J) (hc' : n = 2 → fcR D I' J') (HI : IdS n ni T Rv I J I') (hR1 : N (rf I 1) J (rf I' 1) J') (hR2 : N (rf I 2) J (rf I' 2) J') (hN : n = 2 → Nfo D N I J I' J') : la_Step l0 DD aI aL ad ad' N 23 a1 a2 a3 I J I' J' := by
  obtain ⟨x, hx, rfl⟩ := iI_of a1
  refine ⟨_, _, c_classOf6 hx h0 hF hI hT h42 hc HI.2.1 HI.1 HI.c, c_classOf7 hx h0 hF hI' hT' h10 hc' HI.2.2.1 HI.1 HI.r, fun r1 I1 J1 r2 I2 J2 P Q => ?_⟩
  rcases P with ⟨p, rfl, rfl, rfl⟩ | ⟨p, c, rfl, rfl, rfl⟩ | ⟨p, c, rfl, f, g⟩
  · rcases Q with ⟨_, rfl, rfl, rfl⟩ | ⟨q, _⟩ | ⟨q, _⟩
    · exact ⟨⟨_, rfl, rfl⟩, hR2⟩
    · exact absurd q p
    · exact absurd q p
  · rcases Q with ⟨q, _⟩ | ⟨_, _, rfl, rfl, rfl⟩ | ⟨_, c', _⟩
    · exact absurd p q
    · exact ⟨⟨_, rfl, rfl⟩, hR1⟩
    · exact absurd c' c
  · rcases Q with ⟨q, _⟩ | ⟨_, c', _⟩ | ⟨_, _, rfl, f', g'⟩
    · exact absurd p q
    · exact absurd c c'
    · exact ⟨⟨_, rfl, rfl⟩, (hN p _ _ _ _ f g f' g').1⟩
end GG
