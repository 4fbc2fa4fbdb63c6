/-! the calls order of both -/
def ooC (n ni : Nat) (T Rv : Nat → Int) (D x : Int) (I : sa_I) (J : sa_J) : sa_P := fun r I1 J1 => (n ≠ 2 ∧ r = some (.int (-2)) ∧ I1 = rf I 2 ∧ J1 = J) ∨ (n = 2 ∧ ¬ (0 ≤ x ∧ x < ni) ∧ r = some (.int (-1)) ∧ I1 = rf I 1 ∧ J1 = J) ∨ (n = 2 ∧ (0 ≤ x ∧ x < ni) ∧ (∃ m : Nat, r = some (.int (nI m)) ∧ ∃ p q fb, T = T2 p q ∧ D = q * q + 4 * p ∧ 0 ≤ clsZ D (pfR T (fun t => Rv (9 * x.toNat + t))) ∧ (LF D)[(clsZ D (pfR T (fun t => Rv (9 * x.toNat + t)))).toNat]? = some fb ∧ ordR D p q (clsZ D (pfR T (smI 1 0))) (posF D fb) 160 (clsZ D (pfR T (fun t => Rv (9 * x.toNat + t)))) 1 = some m) ∧ fxC I I1 J J1 ∧ fcC D I1 J1)
def ooR (n ni : Nat) (T Rv : Nat → Int) (D x : Int) (I : sa_I) (J : sa_J) : sa_P := fun r I1 J1 => (n ≠ 2 ∧ r = some (.int (-2)) ∧ I1 = rf I 2 ∧ J1 = J) ∨ (n = 2 ∧ ¬ (0 ≤ x ∧ x < ni) ∧ r = some (.int (-1)) ∧ I1 = rf I 1 ∧ J1 = J) ∨ (n = 2 ∧ (0 ≤ x ∧ x < ni) ∧ (∃ m : Nat, r = some (.int (nI m)) ∧ ∃ p q fb, T = T2 p q ∧ D = q * q + 4 * p ∧ 0 ≤ clsZ D (pfR T (fun t => Rv (9 * x.toNat + t))) ∧ (LF D)[(clsZ D (pfR T (fun t => Rv (9 * x.toNat + t)))).toNat]? = some fb ∧ ordR D p q (clsZ D (pfR T (smI 1 0))) (posF D fb) 160 (clsZ D (pfR T (fun t => Rv (9 * x.toNat + t)))) 1 = some m) ∧ fxR I I1 J J1 ∧ fcR D I1 J1)
def OrT (n : Nat) (T : Nat → Int) : Prop := n = 2 → ∀ x y, T = T2 x y → OrP x y
section OF
variable {l : Launch} {DD : va_G} {aI aL : ClassId} {ad : Nat → Nat} {P : sa_P} {I : sa_I} {J : sa_J}
theorem c_order6 {n ni : Nat} {T Rv : Nat → Int} {D x : Int} (hx : rgi x) (h0 : n = 2 ∨ n = 3) (hF : FOT n T D) (hO : OrT n T) (hI : I 4 0 = nI n) (hT : ∀ t, t < 27 → J 8 t = lI (T t)) (h42 : n = 2 → J 4 2 = lI D) (hc : n = 2 → fcC D I J) (hni : I 0 9 = nI ni) (h80 : ni ≤ 80) (HI : ∀ i, i < ni → IdR n T (fun t => Rv (9 * i + t)) ∧ ∀ t, t < 9 → J 3 (9 * i + t) = lI (Rv (9 * i + t))) : Con (EC l DD aI aL ad) M_X6_order yX6_order [.ref (ad 0), .int (iI x)] I J (ooC n ni T Rv D x I J) := by
  refine Con.of (by decide +kernel) rfl (Nat.le_of_ble_eq_true rfl) ?_
  refine bX6_order_0 (fun _ => ?_) (fun c => absurd c (by rw [hI, nI_lit 0, nJ_eq (by omega) (by omega)]; omega))
  rcases h0 with rfl | rfl
  rotate_left
  · refine bX6_order_17 (fun c => absurd c (by rw [hI]; decide)) (fun _ => bX6_order_28 ?_)
    refine v_X6_59 dX6_order_31 rfl ⟨rfl, rfl, Nat.le_of_ble_eq_true rfl, Nat.le_of_ble_eq_true rfl⟩ (c_refused 2 (by decide) (x := -2) rfl) rfl rfl (Nat.le_of_ble_eq_true rfl) (fun r I1 J1 hq => ?_)
    obtain ⟨rfl, rfl, rfl⟩ := hq
    exact bX6_order_34 (Or.inl ⟨by decide, rfl, rfl, rfl⟩)
  obtain ⟨hD, hL, _⟩ := hF.1 rfl
  obtain ⟨p, q, rfl, bp, bq, eD⟩ := hF.2 rfl
  refine bX6_order_17 (fun _ => bX6_order_35 ?_) (fun c => absurd (by rw [hI]; rfl) c)
  refine v_X6_172 dX6_order_37 rfl ⟨rfl, rfl, Nat.le_of_ble_eq_true rfl, Nat.le_of_ble_eq_true rfl⟩ (c_isIdeal6) rfl rfl (Nat.le_of_ble_eq_true rfl) (fun r I1 J1 hq => ?_)
  obtain ⟨rfl, e1, e2⟩ := hq
  obtain rfl := e1.symm
  obtain rfl := e2.symm
  rw [hni, inB_I hx (m := ni) (by omega)]
  by_cases cx : 0 ≤ x ∧ x < ni
  rotate_left
  · rw [if_neg cx]
    refine bX6_order_40 (fun c => absurd rfl c) (fun _ => bX6_order_43 ?_)
    refine v_X6_59 dX6_order_45 rfl ⟨rfl, rfl, Nat.le_of_ble_eq_true rfl, Nat.le_of_ble_eq_true rfl⟩ (c_refused 1 (by decide) (x := -1) rfl) rfl rfl (Nat.le_of_ble_eq_true rfl) (fun r I1 J1 hq => ?_)
    obtain ⟨rfl, rfl, rfl⟩ := hq
    exact bX6_order_48 (Or.inr (Or.inl ⟨rfl, cx, rfl, rfl, rfl⟩))
  rw [if_pos cx]
  obtain ⟨idX, memX⟩ := HI x.toNat (by omega)
  refine bX6_order_40 (fun _ => bX6_order_49 ?_) (fun c => absurd c (by decide))
  refine v_X6_226 dX6_order_53 rfl ⟨rfl, rfl, Nat.le_of_ble_eq_true rfl, Nat.le_of_ble_eq_true rfl⟩ (c_list hD hL (h42 rfl) (hc rfl)) rfl rfl (Nat.le_of_ble_eq_true rfl) (fun r I1 J1 hq => ?_)
  obtain ⟨rfl, hr, f1, f2, f3⟩ := hq
  refine bX6_order_56 ?_
  rw [iI_nat cx.1, nI_lit 9, nI_mulE]
  subst eD
  obtain ⟨m, fb, o1, o2, o3, o4⟩ := hO rfl p q rfl _ idX
  refine v_X6_240 dX6_order_68 rfl ⟨rfl, rfl, Nat.le_of_ble_eq_true rfl, Nat.le_of_ble_eq_true rfl⟩ (c_orderOfRows ⟨bp, bq⟩ idX hD hL hr (by rw [f1 4 (by decide) (by decide) (by decide)]; exact hI) (fun t ht => by rw [f3 8 (by decide)]; exact hT t ht) (i := x.toNat) (by omega) (fun t ht => by rw [f3 3 (by decide)]; exact memX t ht) o3) rfl rfl (Nat.le_of_ble_eq_true rfl) (fun r I2 J2 hq => ?_)
  obtain ⟨rfl, h1, h2⟩ := hq
  refine bX6_order_71 (Or.inr (Or.inr ⟨rfl, cx, ⟨m, rfl, p, q, fb, rfl, rfl, o1, o2, o4⟩, ⟨fun q a b c d => (h1.1 q a).trans (f1 q b c d), fun q kq a => (h1.2 q ?_ ?_ ?_ ?_ ?_ ?_ ?_).trans (f3 q a)⟩, Or.inr h2⟩)) <;> (unfold kC at kq; omega)
theorem c_order7 {n ni : Nat} {T Rv : Nat → Int} {D x : Int} (hx : rgi x) (h0 : n = 2 ∨ n = 3) (hF : FOT n T D) (hO : OrT n T) (hI : I 0 1 = nI n) (hT : ∀ i j c, i < n → j < n → c < 3 → J 2 (9 * i + 3 * j + c) = lI (T (9 * i + 3 * j + c))) (h10 : n = 2 → J 0 10 = lI D) (hc : n = 2 → fcR D I J) (hni : I 0 14 = nI ni) (h80 : ni ≤ 80) (HI : ∀ i, i < ni → IdR n T (fun t => Rv (9 * i + t)) ∧ ∀ t, t < 3 * n → I 4 (9 * i + t) = iI (Rv (9 * i + t))) : Con (ER l DD aI aL ad) M_X7_order yX7_order [.ref (ad 0), .int (iI x)] I J (ooR n ni T Rv D x I J) := by
  refine Con.of (by decide +kernel) rfl (Nat.le_of_ble_eq_true rfl) ?_
  refine bX7_order_0 ?_
  refine v_X7_369 dX7_order_1 rfl ⟨rfl, rfl, Nat.le_of_ble_eq_true rfl, Nat.le_of_ble_eq_true rfl⟩ (c_wrongForms h0 hI) rfl rfl (Nat.le_of_ble_eq_true rfl) (fun r I1 J1 hq => ?_)
  obtain ⟨rfl, e1, e2⟩ := hq
  obtain rfl := e1.symm
  obtain rfl := e2.symm
  rcases h0 with rfl | rfl
  rotate_left
  · refine bX7_order_4 (fun _ => bX7_order_19 (fun c => absurd c (by decide)) (fun _ => bX7_order_23 ?_)) (fun c => absurd c (by decide))
    refine v_X7_84 dX7_order_25 rfl ⟨rfl, rfl, Nat.le_of_ble_eq_true rfl, Nat.le_of_ble_eq_true rfl⟩ (c_refuse 2 (by decide) (x := -2) rfl) rfl rfl (Nat.le_of_ble_eq_true rfl) (fun r I1 J1 hq => ?_)
    obtain ⟨rfl, rfl, rfl⟩ := hq
    exact bX7_order_28 (Or.inl ⟨by decide, rfl, rfl, rfl⟩)
  obtain ⟨hD, hL, _⟩ := hF.1 rfl
  obtain ⟨p, q, rfl, bp, bq, eD⟩ := hF.2 rfl
  refine bX7_order_4 (fun c => absurd rfl c) (fun _ => bX7_order_9 ?_)
  refine v_X7_282 dX7_order_11 rfl ⟨rfl, rfl, Nat.le_of_ble_eq_true rfl, Nat.le_of_ble_eq_true rfl⟩ (c_isIdeal7) rfl rfl (Nat.le_of_ble_eq_true rfl) (fun r I1 J1 hq => ?_)
  obtain ⟨rfl, e1, e2⟩ := hq
  obtain rfl := e1.symm
  obtain rfl := e2.symm
  rw [hni, inB_I hx (m := ni) (by omega)]
  by_cases cx : 0 ≤ x ∧ x < ni
  rotate_left
  · rw [if_neg cx]
    refine bX7_order_14 (fun c => absurd rfl c) (fun _ => bX7_order_17 rfl (bX7_order_19 (fun c => absurd c (by decide)) (fun _ => bX7_order_23 ?_)))
    refine v_X7_84 dX7_order_25 rfl ⟨rfl, rfl, Nat.le_of_ble_eq_true rfl, Nat.le_of_ble_eq_true rfl⟩ (c_refuse 1 (by decide) (x := -1) rfl) rfl rfl (Nat.le_of_ble_eq_true rfl) (fun r I1 J1 hq => ?_)
    obtain ⟨rfl, rfl, rfl⟩ := hq
    exact bX7_order_28 (Or.inr (Or.inl ⟨rfl, cx, rfl, rfl, rfl⟩))
  rw [if_pos cx]
  obtain ⟨idX, memX⟩ := HI x.toNat (by omega)
  have bR := idX.1.bd idX.2.2.2
  refine bX7_order_14 (fun _ => bX7_order_19 (fun _ => bX7_order_29 ?_) (fun c => absurd rfl c)) (fun c => absurd c (by decide))
  refine v_X7_310 dX7_order_35 rfl ⟨rfl, rfl, Nat.le_of_ble_eq_true rfl, Nat.le_of_ble_eq_true rfl⟩ (c_wholeRows2 (m := 1) hI aJ_R15 (by decide) (by decide)) rfl rfl (Nat.le_of_ble_eq_true rfl) (fun r I1 J1 hq => ?_)
  obtain ⟨rfl, e1, g1, w1⟩ := hq
  obtain rfl := e1.symm
  refine bX7_order_38 ?_
  subst eD
  have hc1 : fcR (q * q + 4 * p) I J1 := (hc rfl).imp id (fun z => ⟨z.1, z.2.1, fun y => by rw [g1 0 (by decide)]; exact z.2.2 y⟩)
  refine v_X7_372 dX7_order_39 rfl ⟨rfl, rfl, Nat.le_of_ble_eq_true rfl, Nat.le_of_ble_eq_true rfl⟩ (c_classOfRows7 (R := smI 1 0) ⟨bp, bq⟩ uni_idr hD hL (by rw [g1 0 (by decide)]; exact h10 rfl) hc1 (by rw [g1 2 (by decide)]; exact hT 1 1 1 (by decide) (by decide) (by decide)) (fun t ht => by rw [w1 t ht, uni_rows t (by omega)])) rfl rfl (Nat.le_of_ble_eq_true rfl) (fun r I2 J2 hq => ?_)
  obtain ⟨rfl, hr2, f1, f2, f3, f4⟩ := hq
  refine bX7_order_42 ?_
  rw [iI_nat cx.1]
  refine v_X7_285 dX7_order_49 rfl ⟨rfl, rfl, Nat.le_of_ble_eq_true rfl, Nat.le_of_ble_eq_true rfl⟩ (c_loadR (Or.inl rfl) bR (x := x.toNat) (by omega) (fun t ht => by rw [f1 4 (by decide) (by decide) (by decide) (by decide) (by decide)]; exact memX t ht)) rfl rfl (Nat.le_of_ble_eq_true rfl) (fun r I3 J3 hq => ?_)
  obtain ⟨rfl, e1, w3, g3⟩ := hq
  obtain rfl := e1.symm
  refine bX7_order_52 ?_
  have hr3 : rdyR (q * q + 4 * p) I2 J3 := hr2.keep rfl (fun _ _ => rfl) (by rw [g3 0 (by decide)])
  have n10 : J3 0 10 = lI (q * q + 4 * p) := by rw [g3 0 (by decide), f4 10 (by decide) (by decide) (by decide) (by decide), g1 0 (by decide)]; exact h10 rfl
  have n2 : J3 2 = J 2 := by rw [g3 2 (by decide), f3 2 (by decide), g1 2 (by decide)]
  refine v_X7_372 dX7_order_53 rfl ⟨rfl, rfl, Nat.le_of_ble_eq_true rfl, Nat.le_of_ble_eq_true rfl⟩ (c_classOfRows7 (R := fun t => Rv (9 * x.toNat + t)) ⟨bp, bq⟩ idX hD hL n10 (Or.inr hr3) (by rw [n2]; exact hT 1 1 1 (by decide) (by decide) (by decide)) (fun t ht => w3 t (by omega))) rfl rfl (Nat.le_of_ble_eq_true rfl) (fun r I4 J4 hq => ?_)
  obtain ⟨rfl, hr4, k1, k2, k3, k4⟩ := hq
  obtain ⟨m, fb, o1, o2, o3, o4⟩ := hO rfl p q rfl _ idX
  refine bX7_order_56 (v63 := nI 1) rfl ?_
  have cr := cls_rg hL.1 (pfR (T2 p q) (fun t => Rv (9 * x.toNat + t)))
  have q2 : J4 2 = J 2 := by rw [k3 2 (by decide), n2]
  have q10 : J4 0 10 = lI (q * q + 4 * p) := by rw [k4 10 (by decide) (by decide) (by decide) (by decide)]; exact n10
  have qI : I4 0 1 = nI 2 := by rw [k2 1 (by decide), f2 1 (by decide)]; exact hI
  have loop := or_loop (l := l) (DD := DD) (aI := aI) (aL := aL) (ad := ad) (P := ooR 2 ni (T2 p q) Rv (q * q + 4 * p) x I J) ⟨bp, bq⟩ hD hL (goal := clsZ (q * q + 4 * p) (pfR (T2 p q) (smI 1 0))) (cls_rg hL.1 _) o2 (r := m) (I0 := I4) (J0 := J4) qI q10 (fun i j c a b d => by rw [q2]; exact hT i j c a b d) (fun Ia Ja ga ra => Or.inr (Or.inr ⟨rfl, cx, ⟨m, rfl, p, q, fb, rfl, rfl, o1, o2, o4⟩, ⟨fun z a b c d e => by rw [ga.1 z a b c d e, k1 z a b c d e, f1 z a b c d e], fun t a b => by rw [ga.2.1 t a b, k2 t b, f2 t b], fun z hz => by rw [ga.2.2.1 z (by omega) (by omega) (by omega) (by omega) (by omega) (by omega) (by omega) (by omega), k3 z (by omega), g3 z (by omega), f3 z (by omega), g1 z (by omega)], fun t ht => by rw [ga.2.2.2 t ht, k4 t (by omega) (by omega) (by omega) (by omega), g3 0 (by decide), f4 t (by omega) (by omega) (by omega) (by omega), g1 0 (by decide)]⟩, Or.inr ra⟩)) 160 1 (clsZ (q * q + 4 * p) (pfR (T2 p q) (fun t => Rv (9 * x.toNat + t)))) I4 J4 o4 cr hr4 ⟨fun _ _ _ _ _ _ => rfl, fun _ _ _ => rfl, fun _ _ _ _ _ _ _ _ _ => rfl, fun _ _ => rfl⟩
  rw [← iI_nat o1] at loop
  exact loop
end OF
section OG
variable {l0 : Launch} {DD : va_G} {aI aL : ClassId} {ad ad' : Nat → Nat} {I I' : sa_I} {J J' : sa_J} {N : sa_I → sa_J → sa_I → sa_J → Prop} {a1 a2 a3 : Int32} {n ni : Nat} {T Rv : Nat → Int} {D : Int}
theorem T2_inj {p q p' q' : Int} (h : T2 p q = T2 p' q') : p = p' ∧ q = q' := ⟨congrFun h 12, congrFun h 13⟩
theorem st_order (h0 : n = 2 ∨ n = 3) (hF : FOT n T D) (hO : OrT n T) (hI : I 4 0 = nI n) (hT : ∀ t, t < 27 → J 8 t = lI (T t)) (hI' : I' 0 1 = nI n) (hT' : ∀ i j c, i < n → j < n → c < 3 → J' 2 (9 * i + 3 * j + c) = lI (T (9 * i + 3 * j + c))) (h42 : n = 2 → J 4 2 = lI D) (h10 : n = 2 → J' 0 10 = lI D) (hc : n = 2 → fcC D I J) (hc' : n = 2 → fcR D I' J') (HI : IdS n ni T Rv I J I') (hR1 : N (rf I 1) J (rf I' 1) J') (hR2 : N (rf I 2) J (rf I' 2) J') (hN : n = 2 → Nfo D N I J I' J') : la_Step l0 DD aI aL ad ad' N 24 a1 a2 a3 I J I' J' := by
  obtain ⟨x, hx, rfl⟩ := iI_of a1
  refine ⟨_, _, c_order6 hx h0 hF hO hI hT h42 hc HI.2.1 HI.1 HI.c, c_order7 hx h0 hF hO hI' hT' h10 hc' HI.2.2.1 HI.1 HI.r, fun r1 I1 J1 r2 I2 J2 P Q => ?_⟩
  rcases P with ⟨p, rfl, rfl, rfl⟩ | ⟨p, c, rfl, rfl, rfl⟩ | ⟨p, c, ⟨m, rfl, x1, y1, fb, t1, t2, t3, t4, t5⟩, f, g⟩
  · rcases Q with ⟨_, rfl, rfl, rfl⟩ | ⟨q, _⟩ | ⟨q, _⟩
    · exact ⟨⟨_, rfl, rfl⟩, hR2⟩
    · exact absurd q p
    · exact absurd q p
  · rcases Q with ⟨q, _⟩ | ⟨_, _, rfl, rfl, rfl⟩ | ⟨_, c', _⟩
    · exact absurd p q
    · exact ⟨⟨_, rfl, rfl⟩, hR1⟩
    · exact absurd c' c
  · rcases Q with ⟨q, _⟩ | ⟨_, c', _⟩ | ⟨_, _, ⟨m', rfl, x2, y2, fb', s1, s2, s3, s4, s5⟩, f', g'⟩
    · exact absurd p q
    · exact absurd c c'
    · obtain ⟨rfl, rfl⟩ := T2_inj (t1.symm.trans s1)
      rw [t4] at s4
      obtain rfl := Option.some.inj s4
      rw [t5] at s5
      obtain rfl := Option.some.inj s5
      exact ⟨⟨_, rfl, rfl⟩, (hN p _ _ _ _ f g f' g').1⟩
end OG
