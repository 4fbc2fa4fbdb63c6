theorem qv_WL {n : Nat} {T : Nat → Int} (h0 : n = 2 ∨ n = 3) {p : Nat} {x : Nat × Nat} {R : Nat → Int} (hS : ∀ v, Sp R v ↔ qv n T p x v) : WL R p := by
  have e : ∀ a b c : Int, (((p : Int) * a, (p : Int) * b, (p : Int) * c) : V3) = vmu (p : Int) (a, b, c) := fun _ _ _ => rfl
  refine ⟨(hS _).mpr ?_, (hS _).mpr ?_, (hS _).mpr ?_⟩
  · have := qv_p h0 T p x (1, 0, 0); rw [← e, Int.mul_one, Int.mul_zero] at this; exact this
  · have := qv_p h0 T p x (0, 1, 0); rw [← e, Int.mul_one, Int.mul_zero] at this; exact this
  · have := qv_p h0 T p x (0, 0, 1); rw [← e, Int.mul_one, Int.mul_zero] at this; exact this
theorem le_of_fac {a b i : Int} (ha : 0 < a) (hb : 0 < b) (h : a = i * b) : b ≤ a := by
  have hi : 0 < i := by
    apply Classical.byContradiction
    intro c
    have : i * b ≤ 0 * b := Int.mul_le_mul_of_nonneg_right (by omega) (by omega)
    omega
  have : 1 * b ≤ i * b := Int.mul_le_mul_of_nonneg_right (by omega) (by omega)
  omega
theorem WL_nm {R : Nat → Int} (h : Hm R) {p : Nat} (hp : 2 ≤ p) (hp2 : p ≤ 97) (w : WL R p) : nmR R ≤ 1000000 := by
  obtain ⟨⟨_, _, _, p0, p4, p8⟩, _⟩ := h
  obtain ⟨⟨i, j, k, a, b, c⟩, ⟨i1, j1, k1, a1, b1, c1⟩, ⟨i2, j2, k2, a2, b2, c2⟩⟩ := w
  dsimp only at a b c a1 b1 c1 a2 b2 c2
  have k0 : k = 0 := mul_zero_pos p8 c.symm
  subst k0
  have j0 : j = 0 := mul_zero_pos p4 (by omega)
  subst j0
  have k10 : k1 = 0 := mul_zero_pos p8 c1.symm
  subst k10
  have h0 : R 0 ≤ p := le_of_fac (by omega) p0 (show (p : Int) = i * R 0 by omega)
  have h4 : R 4 ≤ p := le_of_fac (by omega) p4 (show (p : Int) = j1 * R 4 by omega)
  have h8 : R 8 ≤ p := le_of_fac (by omega) p8 c2
  have q1 : R 0 * R 4 ≤ 97 * 97 := Int.mul_le_mul (by omega) (by omega) (by omega) (by omega)
  have q2 : R 0 * R 4 * R 8 ≤ 97 * 97 * 97 := Int.mul_le_mul q1 (by omega) (by omega) (by omega)
  unfold nmR; omega
theorem qv_mul {n : Nat} {T : Nat → Int} (rr : Rg n T) {p : Nat} {x : Nat × Nat} {v : V3} (h : qv n T p x v) (w : V3) : qv n T p x (muv n T w v) := by
  intro y hy
  rw [muv_assoc rr]; exact smR_mul rr.n T w (h y hy)
/-- each prime's rows are an ideal's -/
theorem spc_idr {n : Nat} {T : Nat → Int} (rr : Rg n T) {p : Nat} (hp : 2 ≤ p) (hp2 : p ≤ 97) {E : List PE} (h : Spc n T p E) : ∀ e ∈ E, IdR n T e.2.2 := by
  have w : ∀ x, x ∈ wu n T p p → IdR n T (prR p x.1 x.2) := fun x hx => isw_IdR rr hp2 (wu_isw hx)
  rcases h with ⟨h1, rfl⟩ | ⟨h1, rfl⟩ | ⟨hn, x, h1, rfl⟩ | ⟨hn, x, h1, hr, rfl⟩ | ⟨hn, x, h1, hr, R, hH, hR2, hS, rfl⟩ | ⟨hn, x, y, h1, hr, rfl⟩ | ⟨hn, x, y, h1, hr, rfl⟩
  · intro e he
    rw [List.mem_singleton] at he
    subst he; exact smR_IdR rr.n T hp hp2
  · intro e he
    rw [List.mem_map] at he
    obtain ⟨x, hx, rfl⟩ := he
    exact w x hx
  · intro e he
    rw [List.mem_singleton] at he
    subst he; exact w x (by rw [h1]; simp)
  · intro e he
    rw [List.mem_singleton] at he
    subst he; exact w x (by rw [h1]; simp)
  · intro e he
    simp only [List.mem_cons, List.not_mem_nil, or_false] at he
    rcases he with rfl | rfl
    · exact w x (by rw [h1]; simp)
    · exact ⟨hH, hR2, fun w v s => (hS _).mpr (qv_mul rr ((hS v).mp s) w), WL_nm hH hp hp2 (qv_WL rr.n hS)⟩
  · intro e he
    simp only [List.mem_cons, List.not_mem_nil, or_false] at he
    rcases he with rfl | rfl
    · exact w x (by rw [h1]; simp)
    · exact w y (by rw [h1]; simp)
  · intro e he
    simp only [List.mem_cons, List.not_mem_nil, or_false] at he
    rcases he with rfl | rfl
    · exact w x (by rw [h1]; simp)
    · exact w y (by rw [h1]; simp)
def tkC (n ni : Nat) (T : Nat → Int) (p k : Int) (I : sa_I) (J : sa_J) : sa_P := fun r I1 J1 => (¬ small p ∧ r = some (.int (-1)) ∧ I1 = rf I 1 ∧ J1 = J) ∨ (small p ∧ ∃ E Ia Ja, qC n T p I J E Ia Ja ∧ ((¬ (0 ≤ k ∧ k < E.length) ∧ r = some (.int (-1)) ∧ I1 = rf Ia 1 ∧ J1 = Ja) ∨ ((0 ≤ k ∧ k < E.length) ∧ ∃ e Ib Jb, E[k.toNat]? = some e ∧ SCI Ia Ib ∧ SC Ja Jb ∧ (∀ t, t < 9 → Jb 15 t = lI (e.2.2 t)) ∧ kiC Ib Jb ni (nmR e.2.2) r I1 J1)))
def tkD (n ni : Nat) (T : Nat → Int) (p k : Int) (I : sa_I) (J : sa_J) : sa_P := fun r I1 J1 => (¬ small p ∧ r = some (.int (-1)) ∧ I1 = rf I 1 ∧ J1 = J) ∨ (small p ∧ ∃ E Ia Ja, qD n T p I J E Ia Ja ∧ ((¬ (0 ≤ k ∧ k < E.length) ∧ r = some (.int (-1)) ∧ I1 = rf Ia 1 ∧ J1 = Ja) ∨ ((0 ≤ k ∧ k < E.length) ∧ ∃ e Jb, E[k.toNat]? = some e ∧ SR Ja Jb ∧ (∀ t, t < 3 * n → Jb 14 t = lI (e.2.2 t)) ∧ kiR Ia Jb ni (nmR e.2.2) r I1 J1)))
section QC
variable {l : Launch} {D : va_G} {aI aL : ClassId} {ad : Nat → Nat} {P : sa_P} {I : sa_I} {J : sa_J}
theorem c_take6 {n ni : Nat} {T : Nat → Int} (rr : Rg n T) (hm : MxT n T) {p k : Int} (hp : rgi p) (hk : rgi k) (hs : prC n T I J) (hni : I 0 9 = nI ni) (h80 : ni ≤ 80) : Con (EC l D aI aL ad) M_X6_take yX6_take [.ref (ad 0), .int (iI p), .int (iI k)] I J (tkC n ni T p k I J) := by
  refine Con.of (by decide +kernel) rfl (Nat.le_of_ble_eq_true rfl) ?_
  have h0 := rr.n
  have hI := hs.1
  refine bX6_take_0 (fun _ => bX6_take_17 ?_) (fun c => absurd c (by rw [hI, nI_lit 0, nJ_eq (by omega) (by omega)]; omega))
  refine v_X6_208 dX6_take_20 rfl ⟨rfl, rfl, Nat.le_of_ble_eq_true rfl, Nat.le_of_ble_eq_true rfl⟩ (c_hasPrime rr hm hp hk hs) rfl rfl (Nat.le_of_ble_eq_true rfl) (fun r I1 J1 hq => ?_)
  rcases hq with ⟨a, rfl, rfl, rfl⟩ | ⟨a, E0, q, hb⟩
  · refine bX6_take_23 (fun c => absurd rfl c) (fun _ => bX6_take_26 ?_)
    refine v_X6_59 dX6_take_28 rfl ⟨rfl, rfl, Nat.le_of_ble_eq_true rfl, Nat.le_of_ble_eq_true rfl⟩ (c_refused 1 (by decide) (x := -1) rfl) rfl rfl (Nat.le_of_ble_eq_true rfl) (fun r I1 J1 hq => ?_)
    obtain ⟨rfl, rfl, rfl⟩ := hq
    exact bX6_take_31 (Or.inl ⟨a, rfl, rfl, rfl⟩)
  rcases hb with ⟨b, rfl⟩ | ⟨b, rfl⟩
  · refine bX6_take_23 (fun _ => bX6_take_32 ?_) (fun c => absurd c (by decide))
    have len := spc_len h0 q.1
    have hI1 : I1 4 0 = nI n := by rw [q.2.2.2.1 4 (by decide) (by decide) (by decide) (by decide)]; exact hI
    have kl : k.toNat < E0.length := by omega
    obtain ⟨e, he⟩ : ∃ e, E0[k.toNat]? = some e := ⟨_, List.getElem?_eq_getElem kl⟩
    obtain ⟨m1, m2, m3⟩ := q.2.1.2 k.toNat e he
    have idr := spc_idr rr (by have := a.n.2.2.2; omega) a.n.2.1 q.1 e (List.mem_of_getElem? he)
    rw [iI_nat b.1, nI_lit 9, nI_mulE]
    refine v_X6_219 dX6_take_47 rfl ⟨rfl, rfl, Nat.le_of_ble_eq_true rfl, Nat.le_of_ble_eq_true rfl⟩ (c_makeCopy hI1 (IdR.ok rr idr) (p := 9 * k.toNat) aJ_C24 (by decide) (by omega) (by decide) m3) rfl rfl (Nat.le_of_ble_eq_true rfl) (fun r I2 J2 hq => ?_)
    obtain ⟨rfl, sI, sJ, hLS⟩ := hq
    refine bX6_take_50 ?_
    refine v_X6_169 dX6_take_51 rfl ⟨rfl, rfl, Nat.le_of_ble_eq_true rfl, Nat.le_of_ble_eq_true rfl⟩ (c_keepIdeal (R := e.2.2) (ni := ni) (fun t ht => (hLS.2.2.1 t ht).1) (idr.1.bd idr.2.2.2) (by rw [sI 0 (by decide), q.2.2.2.1 0 (by decide) (by decide) (by decide) (by decide)]; exact hni) h80) rfl rfl (Nat.le_of_ble_eq_true rfl) (fun r I3 J3 hq => ?_)
    obtain ⟨v, rfl⟩ := hq.r
    refine bX6_take_54 (Or.inr ⟨a, E0, I1, J1, q, Or.inr ⟨b, e, I2, J2, he, sI, fun q hk => ?_, fun t ht => (hLS.2.2.1 t ht).1, hq⟩⟩)
    unfold kC at hk
    exact sJ q (by omega) (by omega)
  · refine bX6_take_23 (fun c => absurd rfl c) (fun _ => bX6_take_26 ?_)
    refine v_X6_59 dX6_take_28 rfl ⟨rfl, rfl, Nat.le_of_ble_eq_true rfl, Nat.le_of_ble_eq_true rfl⟩ (c_refused 1 (by decide) (x := -1) rfl) rfl rfl (Nat.le_of_ble_eq_true rfl) (fun r I2 J2 hq => ?_)
    obtain ⟨rfl, rfl, rfl⟩ := hq
    exact bX6_take_31 (Or.inr ⟨a, E0, I1, _, q, Or.inl ⟨b, rfl, rfl, rfl⟩⟩)
theorem c_take7 {n ni : Nat} {T : Nat → Int} (rr : Rg n T) {p k : Int} (hp : rgi p) (hk : rgi k) (hs : prD n T I J) (hni : I 0 14 = nI ni) (h80 : ni ≤ 80) : Con (ER l D aI aL ad) M_X7_take yX7_take [.ref (ad 0), .int (iI p), .int (iI k)] I J (tkD n ni T p k I J) := by
  refine Con.of (by decide +kernel) rfl (Nat.le_of_ble_eq_true rfl) ?_
  have h0 := rr.n
  have hI := hs.1
  refine bX7_take_0 ?_
  refine v_X7_203 dX7_take_1 rfl ⟨rfl, rfl, Nat.le_of_ble_eq_true rfl, Nat.le_of_ble_eq_true rfl⟩ (c_isField) rfl rfl (Nat.le_of_ble_eq_true rfl) (fun r I1 J1 hq => ?_)
  obtain ⟨rfl, e1, e2⟩ := hq
  obtain rfl := e1.symm
  obtain rfl := e2.symm
  rw [fld_pos h0 hI]
  refine bX7_take_4 (fun _ => bX7_take_14 ?_) (fun c => absurd c (by decide))
  refine v_X7_328 dX7_take_17 rfl ⟨rfl, rfl, Nat.le_of_ble_eq_true rfl, Nat.le_of_ble_eq_true rfl⟩ (c_isPrimeOver rr hp hk hs) rfl rfl (Nat.le_of_ble_eq_true rfl) (fun r I1 J1 hq => ?_)
  rcases hq with ⟨a, rfl, rfl, rfl⟩ | ⟨a, E0, q, hb⟩
  · refine bX7_take_20 (fun c => absurd rfl c) (fun _ => bX7_take_23 ?_)
    refine v_X7_84 dX7_take_25 rfl ⟨rfl, rfl, Nat.le_of_ble_eq_true rfl, Nat.le_of_ble_eq_true rfl⟩ (c_refuse 1 (by decide) (x := -1) rfl) rfl rfl (Nat.le_of_ble_eq_true rfl) (fun r I1 J1 hq => ?_)
    obtain ⟨rfl, rfl, rfl⟩ := hq
    exact bX7_take_28 (Or.inl ⟨a, rfl, rfl, rfl⟩)
  rcases hb with ⟨b, rfl⟩ | ⟨b, rfl⟩
  · refine bX7_take_20 (fun _ => bX7_take_29 ?_) (fun c => absurd c (by decide))
    have len := spc_len h0 q.1
    have hI1 : I1 0 1 = nI n := by rw [q.2.2.2.2.1 1 (by decide) (by decide) (by decide)]; exact hI
    have kl : k.toNat < E0.length := by omega
    obtain ⟨e, he⟩ : ∃ e, E0[k.toNat]? = some e := ⟨_, List.getElem?_eq_getElem kl⟩
    obtain ⟨m1, m2, m3⟩ := q.2.1.2 k.toNat e he
    have idr := spc_idr rr (by have := a.n.2.2.2; omega) a.n.2.1 q.1 e (List.mem_of_getElem? he)
    rw [iI_nat b.1]
    refine v_X7_318 dX7_take_35 rfl ⟨rfl, rfl, Nat.le_of_ble_eq_true rfl, Nat.le_of_ble_eq_true rfl⟩ (c_loadPrime (i := k.toNat) (by omega) aJ_R14 (by decide) (by decide) (by decide)) rfl rfl (Nat.le_of_ble_eq_true rfl) (fun r I2 J2 hq => ?_)
    obtain ⟨rfl, g1, f2, w14⟩ := hq
    obtain rfl := g1.symm
    have h14 : ∀ t, t < 3 * n → J2 14 t = lI (e.2.2 t) := fun t ht => by rw [w14 t (by omega)]; exact m3 t ht
    refine bX7_take_38 ?_
    refine v_X7_263 dX7_take_39 rfl ⟨rfl, rfl, Nat.le_of_ble_eq_true rfl, Nat.le_of_ble_eq_true rfl⟩ (c_keeps (R := e.2.2) (ni := ni) h0 hI1 h14 idr.2.1 (idr.1.bd idr.2.2.2) (by rw [q.2.2.2.2.1 14 (by decide) (by decide) (by decide)]; exact hni) h80) rfl rfl (Nat.le_of_ble_eq_true rfl) (fun r I3 J3 hq => ?_)
    obtain ⟨v, rfl⟩ := hq.r
    refine bX7_take_42 (Or.inr ⟨a, E0, I1, J1, q, Or.inr ⟨b, e, J2, he, ⟨fun q hq => f2 q (by omega), fun t _ => by rw [f2 0 (by decide)]⟩, h14, hq⟩⟩)
  · refine bX7_take_20 (fun c => absurd rfl c) (fun _ => bX7_take_23 ?_)
    refine v_X7_84 dX7_take_25 rfl ⟨rfl, rfl, Nat.le_of_ble_eq_true rfl, Nat.le_of_ble_eq_true rfl⟩ (c_refuse 1 (by decide) (x := -1) rfl) rfl rfl (Nat.le_of_ble_eq_true rfl) (fun r I2 J2 hq => ?_)
    obtain ⟨rfl, rfl, rfl⟩ := hq
    exact bX7_take_28 (Or.inr ⟨a, E0, I1, _, q, Or.inl ⟨b, rfl, rfl, rfl⟩⟩)
end QC
section QD
variable {l0 : Launch} {D : va_G} {aI aL : ClassId} {ad ad' : Nat → Nat} {I I' : sa_I} {J J' : sa_J} {N : sa_I → sa_J → sa_I → sa_J → Prop} {a1 a2 a3 : Int32} {n ni : Nat} {T Rv : Nat → Int}
/-- and an ideal may be added behind it -/
def Npi (n ni : Nat) (T : Nat → Int) (N : sa_I → sa_J → sa_I → sa_J → Prop) (I : sa_I) (J : sa_J) (I' : sa_I) (J' : sa_J) : Prop :=
  ∀ Ia Ja Ib Jb, spF I Ia J Ja → PCc n T Ia Ja → knW I' Ib J' Jb → PCr n T Ib Jb → Nid n ni T N Ia Ja Ib Jb
theorem IdS.pr {Ia Ib : sa_I} {Ja Jb : sa_J} (H : IdS n ni T Rv I J I') (f : spF I Ia J Ja) (g : knW I' Ib J' Jb) : IdS n ni T Rv Ia Ja Ib := by
  obtain ⟨a, b, c, d⟩ := H
  refine ⟨a, by rw [f.1 0 (by decide) (by decide) (by decide) (by decide)]; exact b, by rw [g.2.1 14 (by decide) (by decide) (by decide)]; exact c, fun i hi => ?_⟩
  rw [f.2.2.1 3 (by decide) (by decide) (by decide) (by decide) (by decide) (by decide) (by decide) (by decide) (by decide) (by decide) (by decide), g.1 4 (by decide) (by decide) (by decide)]
  exact d i hi
theorem alike_eq {R R' : Nat → Int} (h : ∀ t, t < 9 → R t = R' t) : Alike R R' := by
  intro H _
  unfold In3
  rw [h 0 (by decide), h 3 (by decide), h 4 (by decide), h 6 (by decide), h 7 (by decide), h 8 (by decide)]
theorem st_take (rr : Rg n T) (hm : MxT n T) (hc : prC n T I J) (hd : prD n T I' J') (HI : IdS n ni T Rv I J I') (hN : Npi n ni T N I J I' J') : la_Step l0 D aI aL ad ad' N 19 a1 a2 a3 I J I' J' := by
  obtain ⟨p, hp, rfl⟩ := iI_of a1
  obtain ⟨k, hk, rfl⟩ := iI_of a2
  refine ⟨_, _, c_take6 rr hm hp hk hc HI.2.1 HI.1, c_take7 rr hp hk hd HI.2.2.1 HI.1, fun r1 I1 J1 r2 I2 J2 P Q => ?_⟩
  rcases P with ⟨a, rfl, rfl, rfl⟩ | ⟨a, E0, Ia, Ja, q, P⟩
  · rcases Q with ⟨b, rfl, rfl, rfl⟩ | ⟨b, _⟩
    · exact ⟨⟨_, rfl, rfl⟩, (hN _ _ _ _ spF.rfl' hc.2.2.2.2 knW.rfl' hd.2.2).2.1 1 _ _ _ _ SCI.rfl' SC.rfl' SRI.rfl' SR.rfl'⟩
    · exact absurd b a
  · rcases Q with ⟨b, _⟩ | ⟨b, E1, Ib, Jb, q', Q⟩
    · exact absurd a b
    · have hNN := hN _ _ _ _ q.2.2.2 (q.pc a) q'.2.2.2 (q'.pc b)
      obtain ⟨hl, he⟩ := spc_ent rr.n q.1 q'.1
      rw [← hl] at Q
      rcases P with ⟨c, rfl, rfl, rfl⟩ | ⟨c, e, Ic, Jc, ee, s1, s2, h15, P⟩
      · rcases Q with ⟨c', rfl, rfl, rfl⟩ | ⟨c', _⟩
        · exact ⟨⟨_, rfl, rfl⟩, hNN.2.1 1 _ _ _ _ SCI.rfl' SC.rfl' SRI.rfl' SR.rfl'⟩
        · exact absurd c' c
      · rcases Q with ⟨c', _⟩ | ⟨c', e', Jd, ee', s3, h14, Q⟩
        · exact absurd c c'
        · have hent := he _ _ _ ee ee'
          have idr := spc_idr rr (by have := a.n.2.2.2; omega) a.n.2.1 q.1 e (List.mem_of_getElem? ee)
          have idr' := spc_idr rr (by have := a.n.2.2.2; omega) a.n.2.1 q'.1 e' (List.mem_of_getElem? ee')
          exact ki_two rr.n (HI.pr q.2.2.2 q'.2.2.2) s1 s2 SRI.rfl' h15 h14 idr.1 idr'.1 idr.2.1 (alike_eq hent.2.2) idr.2.2.1 P Q (hNN.2.1 6 _ _ _ _ s1 s2 SRI.rfl' s3) (fun Rv' I3 J3 I4 g1 g2 g3 g4 g5 g6 => hNN.2.2 Rv' I3 J3 I4 _ g1 g2 g3 g4 g5 g6 s3)
end QD
