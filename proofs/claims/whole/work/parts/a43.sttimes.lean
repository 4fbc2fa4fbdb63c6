/-- norms fall at every prime over p -/
def NLa (n : Nat) (T : Nat → Int) : Prop := ∀ p : Nat, p ≤ 97 → ipr (p : Int) = true → ∀ E, Spc n T p E → ∀ e ∈ E, NL n T e.2.2 ∧ 2 ≤ nmR e.2.2
theorem fst_nm {R : Nat → Int} (h : Hm R) : R 0 ≤ nmR R := by
  obtain ⟨⟨_, _, _, p0, p4, p8⟩, _⟩ := h
  have a : R 0 * 1 ≤ R 0 * R 4 := Int.mul_le_mul_of_nonneg_left (by omega) (by omega)
  have b : R 0 * R 4 * 1 ≤ R 0 * R 4 * R 8 := Int.mul_le_mul_of_nonneg_left (by omega) (by omega)
  unfold nmR; omega
theorem cnt_congr {n : Nat} {T P P' : Nat → Int} (h : ∀ v, Sp P v ↔ Sp P' v) : ∀ (m : Nat) (B : Nat → Int), cnt n T P m B → cnt n T P' m B := by
  intro m
  induction m with
  | zero => intro B hc hi; exact hc (fun v s => (h v).mpr (hi v s))
  | succ m ih =>
    intro B hc
    obtain ⟨a, M, ⟨q1, q2, q3⟩, c⟩ := hc
    exact ⟨fun v s => (h v).mp (a v s), M, ⟨q1, q2, fun b => (q3 b).trans ⟨fun g x hx => g x ((h x).mpr hx), fun g x hx => g x ((h x).mp hx)⟩⟩, ih M c⟩
def tsC (n ni : Nat) (T Rv : Nat → Int) (x p k : Int) (I : sa_I) (J : sa_J) : sa_P := fun r I1 J1 => ((¬ (0 ≤ x ∧ x < ni) ∨ ¬ small p) ∧ r = some (.int (-1)) ∧ I1 = rf I 1 ∧ J1 = J) ∨ ((0 ≤ x ∧ x < ni) ∧ small p ∧ ∃ E Ia Ja, qC n T p I J E Ia Ja ∧ ((¬ (0 ≤ k ∧ k < E.length) ∧ r = some (.int (-1)) ∧ I1 = rf Ia 1 ∧ J1 = Ja) ∨ ((0 ≤ k ∧ k < E.length) ∧ ∃ e m, E[k.toNat]? = some e ∧ tmC n T e.2.2 (fun t => Rv (9 * x.toNat + t)) m ∧ r = some (.int (nI m)) ∧ tmF Ia I1 Ja J1)))
def tsD (n ni : Nat) (T Rv : Nat → Int) (x p k : Int) (I : sa_I) (J : sa_J) : sa_P := fun r I1 J1 => ((¬ (0 ≤ x ∧ x < ni) ∨ ¬ small p) ∧ r = some (.int (-1)) ∧ I1 = rf I 1 ∧ J1 = J) ∨ ((0 ≤ x ∧ x < ni) ∧ small p ∧ ∃ E Ia Ja, qD n T p I J E Ia Ja ∧ ((¬ (0 ≤ k ∧ k < E.length) ∧ r = some (.int (-1)) ∧ I1 = rf Ia 1 ∧ J1 = Ja) ∨ ((0 ≤ k ∧ k < E.length) ∧ ∃ e m, E[k.toNat]? = some e ∧ cnt n T e.2.2 m (fun t => Rv (9 * x.toNat + t)) ∧ r = some (.int (nI m)) ∧ knG Ia I1 Ja J1)))
section TN
variable {l : Launch} {D : va_G} {aI aL : ClassId} {ad : Nat → Nat} {I : sa_I} {J : sa_J}
theorem c_times6 {n ni : Nat} {T Rv : Nat → Int} (rr : Rg n T) (hm : MxA n T) (hNL : NLa n T) {x p k : Int} (hx : rgi x) (hp : rgi p) (hk : rgi k) (hs : prC n T I J) (hni : I 0 9 = nI ni) (h80 : ni ≤ 80) (HI : ∀ i, i < ni → IdR n T (fun t => Rv (9 * i + t)) ∧ ∀ t, t < 9 → J 3 (9 * i + t) = lI (Rv (9 * i + t))) : Con (EC l D aI aL ad) M_X6_times yX6_times [.ref (ad 0), .int (iI x), .int (iI p), .int (iI k)] I J (tsC n ni T Rv x p k I J) := by
  refine Con.of (by decide +kernel) rfl (Nat.le_of_ble_eq_true rfl) ?_
  have h0 := rr.n
  have hI := hs.1
  have no : ∀ (Ia : sa_I) (Ja : sa_J), tsC n ni T Rv x p k I J (some (.int (-1))) (rf Ia 1) Ja → Sat (EC l D aI aL ad) M_X6_times (tsC n ni T Rv x p k I J) 34 [(0, .ref (ad 0))] [] Ia Ja := by
    intro Ia Ja hh
    refine bX6_times_34 ?_
    refine v_X6_59 dX6_times_36 rfl ⟨rfl, rfl, Nat.le_of_ble_eq_true rfl, Nat.le_of_ble_eq_true rfl⟩ (c_refused 1 (by decide) (x := -1) rfl) rfl rfl (Nat.le_of_ble_eq_true rfl) (fun r I1 J1 hq => ?_)
    obtain ⟨rfl, rfl, rfl⟩ := hq
    exact bX6_times_39 hh
  refine bX6_times_0 (fun _ => bX6_times_17 ?_) (fun c => absurd c (by rw [hI, nI_lit 0, nJ_eq (by omega) (by omega)]; omega))
  refine v_X6_172 dX6_times_19 rfl ⟨rfl, rfl, Nat.le_of_ble_eq_true rfl, Nat.le_of_ble_eq_true rfl⟩ (c_isIdeal6) rfl rfl (Nat.le_of_ble_eq_true rfl) (fun r I1 J1 hq => ?_)
  obtain ⟨rfl, e1, e2⟩ := hq
  obtain rfl := e1.symm
  obtain rfl := e2.symm
  rw [hni, inB_I hx (m := ni) (by omega)]
  by_cases cx : 0 ≤ x ∧ x < ni
  rotate_left
  · rw [if_neg cx]
    exact bX6_times_22 (fun _ => no I J (Or.inl ⟨Or.inl cx, rfl, rfl, rfl⟩)) (fun c => absurd rfl c)
  rw [if_pos cx]
  refine bX6_times_22 (fun c => absurd c (by decide)) (fun _ => bX6_times_25 ?_)
  refine v_X6_208 dX6_times_28 rfl ⟨rfl, rfl, Nat.le_of_ble_eq_true rfl, Nat.le_of_ble_eq_true rfl⟩ (c_hasPrime rr hm.1 hp hk hs) rfl rfl (Nat.le_of_ble_eq_true rfl) (fun r I1 J1 hq => ?_)
  rcases hq with ⟨a, rfl, rfl, rfl⟩ | ⟨a, E0, q, hb⟩
  · exact bX6_times_31 (fun c => absurd rfl c) (fun _ => no _ _ (Or.inl ⟨Or.inr a, rfl, rfl, rfl⟩))
  rcases hb with ⟨b, rfl⟩ | ⟨b, rfl⟩
  · refine bX6_times_31 (fun _ => bX6_times_40 ?_) (fun c => absurd c (by decide))
    have len := spc_len h0 q.1
    have hI1 : I1 4 0 = nI n := by rw [q.2.2.2.1 4 (by decide) (by decide) (by decide) (by decide)]; exact hI
    have fJ : ∀ q', q' = 3 ∨ q' = 8 → J1 q' = J q' := fun q' h => q.2.2.2.2.2.1 q' (by omega) (by omega) (by omega) (by omega) (by omega) (by omega) (by omega) (by omega) (by omega) (by omega) (by omega)
    have kl : k.toNat < E0.length := by omega
    obtain ⟨e, he⟩ : ∃ e, E0[k.toNat]? = some e := ⟨_, List.getElem?_eq_getElem kl⟩
    obtain ⟨m1, m2, m3⟩ := q.2.1.2 k.toNat e he
    have idr := spc_idr rr (by have := a.n.2.2.2; omega) a.n.2.1 q.1 e (List.mem_of_getElem? he)
    have nl := hNL _ a.n.2.1 a.n.2.2.1 E0 q.1 e (List.mem_of_getElem? he)
    obtain ⟨idX, memX⟩ := HI x.toNat (by omega)
    rw [iI_nat b.1, iI_nat cx.1, nI_lit 9, nI_mulE, nI_mulE]
    refine v_X6_222 dX6_times_63 rfl ⟨rfl, rfl, Nat.le_of_ble_eq_true rfl, Nat.le_of_ble_eq_true rfl⟩ (c_timesIn rr idr nl.2 (fst_nm idr.1) idX (p1 := 9 * k.toNat) (p3 := 9 * x.toNat) aJ_C24 (by decide) aJ_C3 (by decide) (by omega) (by omega) (by decide) (by decide) hI1 (fun t ht => by rw [fJ 8 (Or.inr rfl)]; exact hs.2.1 t ht) m3 (fun t ht => by rw [fJ 3 (Or.inl rfl)]; exact memX t ht)) rfl rfl (Nat.le_of_ble_eq_true rfl) (fun r I2 J2 hq => ?_)
    obtain ⟨m, hm', rfl, f⟩ := hq
    exact bX6_times_66 (Or.inr ⟨cx, a, E0, I1, J1, q, Or.inr ⟨b, e, m, he, hm', rfl, f⟩⟩)
  · exact bX6_times_31 (fun c => absurd rfl c) (fun _ => no _ _ (Or.inr ⟨cx, a, E0, I1, J1, q, Or.inl ⟨b, rfl, rfl, rfl⟩⟩))
theorem c_times7 {n ni : Nat} {T Rv : Nat → Int} (rr : Rg n T) (hNL : NLa n T) {x p k : Int} (hx : rgi x) (hp : rgi p) (hk : rgi k) (hs : prD n T I J) (hni : I 0 14 = nI ni) (h80 : ni ≤ 80) (HI : ∀ i, i < ni → IdR n T (fun t => Rv (9 * i + t)) ∧ ∀ t, t < 3 * n → I 4 (9 * i + t) = iI (Rv (9 * i + t))) : Con (ER l D aI aL ad) M_X7_times yX7_times [.ref (ad 0), .int (iI x), .int (iI p), .int (iI k)] I J (tsD n ni T Rv x p k I J) := by
  refine Con.of (by decide +kernel) rfl (Nat.le_of_ble_eq_true rfl) ?_
  have h0 := rr.n
  have hI := hs.1
  have no : ∀ (Ia : sa_I) (Ja : sa_J), tsD n ni T Rv x p k I J (some (.int (-1))) (rf Ia 1) Ja → Sat (ER l D aI aL ad) M_X7_times (tsD n ni T Rv x p k I J) 31 [(0, .ref (ad 0))] [] Ia Ja := by
    intro Ia Ja hh
    refine bX7_times_31 ?_
    refine v_X7_84 dX7_times_33 rfl ⟨rfl, rfl, Nat.le_of_ble_eq_true rfl, Nat.le_of_ble_eq_true rfl⟩ (c_refuse 1 (by decide) (x := -1) rfl) rfl rfl (Nat.le_of_ble_eq_true rfl) (fun r I1 J1 hq => ?_)
    obtain ⟨rfl, rfl, rfl⟩ := hq
    exact bX7_times_36 hh
  refine bX7_times_0 ?_
  refine v_X7_203 dX7_times_1 rfl ⟨rfl, rfl, Nat.le_of_ble_eq_true rfl, Nat.le_of_ble_eq_true rfl⟩ (c_isField) rfl rfl (Nat.le_of_ble_eq_true rfl) (fun r I1 J1 hq => ?_)
  obtain ⟨rfl, e1, e2⟩ := hq
  obtain rfl := e1.symm
  obtain rfl := e2.symm
  rw [fld_pos h0 hI]
  refine bX7_times_4 (fun _ => bX7_times_14 ?_) (fun c => absurd c (by decide))
  refine v_X7_282 dX7_times_16 rfl ⟨rfl, rfl, Nat.le_of_ble_eq_true rfl, Nat.le_of_ble_eq_true rfl⟩ (c_isIdeal7) rfl rfl (Nat.le_of_ble_eq_true rfl) (fun r I1 J1 hq => ?_)
  obtain ⟨rfl, e1, e2⟩ := hq
  obtain rfl := e1.symm
  obtain rfl := e2.symm
  rw [hni, inB_I hx (m := ni) (by omega)]
  by_cases cx : 0 ≤ x ∧ x < ni
  rotate_left
  · rw [if_neg cx]
    exact bX7_times_19 (fun _ => no I J (Or.inl ⟨Or.inl cx, rfl, rfl, rfl⟩)) (fun c => absurd rfl c)
  rw [if_pos cx]
  refine bX7_times_19 (fun c => absurd c (by decide)) (fun _ => bX7_times_22 ?_)
  refine v_X7_328 dX7_times_25 rfl ⟨rfl, rfl, Nat.le_of_ble_eq_true rfl, Nat.le_of_ble_eq_true rfl⟩ (c_isPrimeOver rr hp hk hs) rfl rfl (Nat.le_of_ble_eq_true rfl) (fun r I1 J1 hq => ?_)
  rcases hq with ⟨a, rfl, rfl, rfl⟩ | ⟨a, E0, q, hb⟩
  · exact bX7_times_28 (fun c => absurd rfl c) (fun _ => no _ _ (Or.inl ⟨Or.inr a, rfl, rfl, rfl⟩))
  rcases hb with ⟨b, rfl⟩ | ⟨b, rfl⟩
  · refine bX7_times_28 (fun _ => bX7_times_37 (v38 := nI 0) rfl ?_) (fun c => absurd c (by decide))
    have len := spc_len h0 q.1
    have hI1 : I1 0 1 = nI n := by rw [q.2.2.2.2.1 1 (by decide) (by decide) (by decide)]; exact hI
    have kl : k.toNat < E0.length := by omega
    obtain ⟨e, he⟩ : ∃ e, E0[k.toNat]? = some e := ⟨_, List.getElem?_eq_getElem kl⟩
    obtain ⟨m1, m2, m3⟩ := q.2.1.2 k.toNat e he
    have idr := spc_idr rr (by have := a.n.2.2.2; omega) a.n.2.1 q.1 e (List.mem_of_getElem? he)
    have nl := hNL _ a.n.2.1 a.n.2.2.1 E0 q.1 e (List.mem_of_getElem? he)
    obtain ⟨idX, memX⟩ := HI x.toNat (by omega)
    rw [iI_nat b.1, iI_nat cx.1]
    refine v_X7_285 dX7_times_46 rfl ⟨rfl, rfl, Nat.le_of_ble_eq_true rfl, Nat.le_of_ble_eq_true rfl⟩ (c_load15 (i := x.toNat) (by omega)) rfl rfl (Nat.le_of_ble_eq_true rfl) (fun r I2 Ja hq => ?_)
    obtain ⟨rfl, e2, w0, w1, w2, w3, w4, w5, w6, w7, w8, ga⟩ := hq
    obtain rfl := e2.symm
    have bX := idX.1.bd idX.2.2.2
    have h15 : ∀ t, t < 3 * n → Ja 15 t = lI (Rv (9 * x.toNat + t)) := by
      intro t ht
      have q9 : ∀ t, t < 9 → t < 3 * n → (I1 4 (9 * x.toNat + t)).toInt64 = lI (Rv (9 * x.toNat + t)) := by
        intro t h9 ht
        have hb := bX t h9
        rw [q.2.2.2.1 4 (by decide) (by decide) (by decide), memX t ht]
        exact iI_lI ⟨by omega, by omega⟩
      have t9 : t < 9 := by omega
      rcases below9 t9 with rfl | rfl | rfl | rfl | rfl | rfl | rfl | rfl | rfl
      · rw [w0]; exact q9 0 (by decide) ht
      · rw [w1]; exact q9 1 (by decide) ht
      · rw [w2]; exact q9 2 (by decide) ht
      · rw [w3]; exact q9 3 (by decide) ht
      · rw [w4]; exact q9 4 (by decide) ht
      · rw [w5]; exact q9 5 (by decide) ht
      · rw [w6]; exact q9 6 (by decide) ht
      · rw [w7]; exact q9 7 (by decide) ht
      · rw [w8]; exact q9 8 (by decide) ht
    refine bX7_times_49 ?_
    refine v_X7_318 dX7_times_55 rfl ⟨rfl, rfl, Nat.le_of_ble_eq_true rfl, Nat.le_of_ble_eq_true rfl⟩ (c_loadPrime (i := k.toNat) (by omega) aJ_R16 (by decide) (by decide) (by decide)) rfl rfl (Nat.le_of_ble_eq_true rfl) (fun r I2 J2 hq => ?_)
    obtain ⟨rfl, e2, f2, w16⟩ := hq
    obtain rfl := e2.symm
    refine tm7_loop rr idr nl.2 nl.1 (nmR (fun t => Rv (9 * x.toNat + t))).toNat (fun t => Rv (9 * x.toNat + t)) 0 _ _ (by have := nm_pos idX.1; omega) idX hI1 (fun i j c a b d => by rw [f2 2 (by decide), ga 2 (by decide), q.2.2.2.2.2 2 (by decide) (by decide) (by decide) (by decide) (by decide) (by decide) (by decide)]; exact hs.2.1 i j c a b d) (fun t ht => by rw [f2 15 (by decide)]; exact h15 t ht) (fun t ht => by rw [w16 t (by omega), ga 18 (by decide)]; exact m3 t ht) (fun m I3 J3 hc g => ?_)
    rw [Nat.zero_add]
    exact Or.inr ⟨cx, a, E0, I1, J1, q, Or.inr ⟨b, e, m, he, hc, rfl, g.1, fun q' a b c d e' f => by rw [g.2 q' a b c d e' f, f2 q' e', ga q' d]⟩⟩
  · exact bX7_times_28 (fun c => absurd rfl c) (fun _ => no _ _ (Or.inr ⟨cx, a, E0, I1, J1, q, Or.inl ⟨b, rfl, rfl, rfl⟩⟩))
end TN
section TO
variable {l0 : Launch} {D : va_G} {aI aL : ClassId} {ad ad' : Nat → Nat} {I I' : sa_I} {J J' : sa_J} {N : sa_I → sa_J → sa_I → sa_J → Prop} {a1 a2 a3 : Int32} {n ni : Nat} {T Rv : Nat → Int}
theorem tmF.sc {I1 : sa_I} {J1 : sa_J} (h : tmF I I1 J J1) : SC J J1 := fun q hk => by unfold kC at hk; exact h.2 q (by omega) (by omega) (by omega) (by omega) (by omega) (by omega)
theorem knG.sr {I1 : sa_I} {J1 : sa_J} (h : knG I I1 J J1) : SR J J1 := ⟨fun q hq => h.2 q (by omega) (by omega) (by omega) (by omega) (by omega) (by omega), fun t _ => by rw [h.2 0 (by decide) (by decide) (by decide) (by decide) (by decide) (by decide)]⟩
theorem st_times (rr : Rg n T) (hm : MxA n T) (hNL : NLa n T) (hc : prC n T I J) (hd : prD n T I' J') (HI : IdS n ni T Rv I J I') (hN : Npi n ni T N I J I' J') : la_Step l0 D aI aL ad ad' N 20 a1 a2 a3 I J I' J' := by
  obtain ⟨x, hx, rfl⟩ := iI_of a1
  obtain ⟨p, hp, rfl⟩ := iI_of a2
  obtain ⟨k, hk, rfl⟩ := iI_of a3
  refine ⟨_, _, c_times6 rr hm hNL hx hp hk hc HI.2.1 HI.1 HI.c, c_times7 rr hNL hx hp hk hd HI.2.2.1 HI.1 HI.r, fun r1 I1 J1 r2 I2 J2 P Q => ?_⟩
  have hN0 := hN _ _ _ _ spF.rfl' hc.2.2.2.2 knW.rfl' hd.2.2
  rcases P with ⟨a, rfl, rfl, rfl⟩ | ⟨cx, a, E0, Ia, Ja, q, P⟩
  · rcases Q with ⟨b, rfl, rfl, rfl⟩ | ⟨cx', b, _⟩
    · exact ⟨⟨_, rfl, rfl⟩, hN0.2.1 1 _ _ _ _ SCI.rfl' SC.rfl' SRI.rfl' SR.rfl'⟩
    · exact absurd b (a.resolve_left (fun h => h cx'))
  · rcases Q with ⟨b, _⟩ | ⟨cx', b, E1, Ib, Jb, q', Q⟩
    · exact absurd a (b.resolve_left (fun h => h cx))
    · have hNN := hN _ _ _ _ q.2.2.2 (q.pc a) q'.2.2.2 (q'.pc b)
      obtain ⟨hl, he⟩ := spc_ent rr.n q.1 q'.1
      rw [← hl] at Q
      rcases P with ⟨c, rfl, rfl, rfl⟩ | ⟨c, e, m, ee, hm', rfl, f⟩
      · rcases Q with ⟨c', rfl, rfl, rfl⟩ | ⟨c', _⟩
        · exact ⟨⟨_, rfl, rfl⟩, hNN.2.1 1 _ _ _ _ SCI.rfl' SC.rfl' SRI.rfl' SR.rfl'⟩
        · exact absurd c' c
      · rcases Q with ⟨c', _⟩ | ⟨c', e', m', ee', hc', rfl, g⟩
        · exact absurd c c'
        · have hent := he _ _ _ ee ee'
          have mem := List.mem_of_getElem? ee
          have p2 : 2 ≤ p.toNat := by have := a.n.2.2.2; omega
          have idr := spc_idr rr p2 a.n.2.1 q.1 e mem
          have nl := hNL _ a.n.2.1 a.n.2.2.1 E0 q.1 e mem
          have inv := spc_inv rr hm a.n.2.1 a.n.2.2.1 q.1 e mem
          have hc2 := cnt_congr (fun v => ((alike_eq hent.2.2).sp v).symm) m' _ hc'
          have := tm_two rr (p := (p.toNat : Int)) (by omega) idr.1.1 idr.2.1 inv nl.2 nl.1 (HI.c x.toNat (by omega)).1 hm' hc2
          subst this
          exact ⟨⟨_, rfl, rfl⟩, hNN.1 _ _ _ _ f.1 f.sc g.1 g.sr⟩
end TO
