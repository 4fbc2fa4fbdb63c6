/-! a field opens -/
theorem sq4_mod (x y : Int) : (y * y + 4 * x) % 4 = 0 ∨ (y * y + 4 * x) % 4 = 1 := by
  obtain ⟨k, hk⟩ : ∃ k : Int, y = 2 * k ∨ y = 2 * k + 1 := ⟨y / 2, by omega⟩
  rcases hk with rfl | rfl
  · have e : 2 * k * (2 * k) = 4 * (k * k) := by grind
    rw [e]; omega
  · have e : (2 * k + 1) * (2 * k + 1) = 4 * (k * k + k) + 1 := by grind
    rw [e]; omega
theorem st_two {h d Di dd : Int} {T : Nat → Int} (F : Fld 2 h d 0 0 1 Di dd T) (hf : fundB dd = true) (l1 : -800 ≤ Di) (l2 : Di ≤ 1200) : StF 2 h d 0 0 1 Di dd T := by
  obtain ⟨q1, _, _⟩ := F.q
  obtain ⟨_, _, _, _, eD, f2, _⟩ := id F
  obtain ⟨_, _, _, x, y, eT, bx, b_y, ed, hp⟩ := f2 rfl
  have mx : MxA 2 T := ⟨fun z => absurd z (by decide), fun _ => ⟨x, y, eT, bx, b_y, by rw [ed]; exact hf⟩⟩
  have up : dd ≤ 1200 := by
    rcases Int.lt_or_le 1200 dd with c | c
    · have : dd * 1 ≤ dd * (d * 1 * d * 1) := Int.mul_le_mul_of_nonneg_left q1 (by omega)
      omega
    · exact c
  have lo : -800 ≤ dd := by
    rcases Int.lt_or_le dd (-800) with c | c
    · have m : -dd * 1 ≤ -dd * (d * 1 * d * 1) := Int.mul_le_mul_of_nonneg_left q1 (by omega)
      rw [Int.neg_mul, Int.neg_mul, eD] at m
      omega
    · exact c
  have hD : DOK dd := ⟨lo, up, by rw [← ed]; exact sq4_mod x y, hp⟩
  obtain ⟨k1, k2⟩ := chkO_of hD (ord_all hD hf)
  obtain ⟨l3, l4⟩ := LOK_of hD k1
  refine ⟨F, mx, nla F.rg mx, fun v hv => ?_, ⟨fun _ => ⟨hD, l3, l4⟩, fun _ => ⟨x, y, eT, bx, b_y, ed.symm⟩⟩, fun _ x' y' eT' => ?_⟩
  · rw [eT] at hv ⊢
    refine us_two b_y ⟨fun z => ?_, fun z => ?_, fun z => ?_⟩ hv
    · rw [ed] at z; rw [z] at hp; exact absurd hp (by decide)
    · rw [ed] at z; rw [z] at hp; exact absurd hp (by decide)
    · rw [ed] at z; rw [z] at hp; exact absurd hp (by decide)
  · obtain ⟨rfl, rfl⟩ := T2_inj (eT.symm.trans eT')
    exact k2 _ _ bx b_y ed.symm
theorem st_three {h d k l e Di dd : Int} {s : Nat → Int} (F : Fld 3 h d k l e Di dd (T3 s)) (hm : mxK s = true) (hd : dmK s = true) : StF 3 h d k l e Di dd (T3 s) := by
  have mx : MxA 3 (T3 s) := ⟨fun _ => ⟨s, rfl, hm⟩, fun z => absurd z (by decide)⟩
  exact ⟨F, mx, nla F.rg mx, fun v hv => us_three (dom_of hd) hv, ⟨fun z => absurd z (by decide), fun z => absurd z (by decide)⟩, fun z => absurd z (by decide)⟩
/-- behind the opening: no elements, no ideals, nothing kept -/
theorem op_RF {n : Nat} {h d k l e Di dd : Int} {T : Nat → Int} {I1 I2 : sa_I} {J1 J2 : sa_J} (hA : ∀ t, I1 1 t = I2 1 t) (z : J1 26 0 = 0 ∧ J1 26 2 = 0) (hc : clS n h d k l e Di dd T I1 J1) (hr : rfS n h d k l e Di dd T I2 J2) (i8 : I1 0 8 = 0) (i9 : I1 0 9 = 0) (i21 : I1 21 8 = 0) (i27 : I1 27 8 = 0) (r13 : I2 0 13 = 0) (r14 : I2 0 14 = 0) (r36 : I2 0 36 = -1) (r31 : I2 0 31 = 0) : RF n h d k l e Di dd T 0 0 (fun _ => 0) (fun _ => 0) I1 J1 I2 J2 := by
  have z0 : ∀ p : Nat, p ≤ 97 → ipr (p : Int) = true → ¬ (0 : Int32) = nI p := by
    intro p hp hq e
    rw [nI_lit 0, nJ_eq (by omega) (by omega)] at e
    subst e
    exact absurd hq (by decide)
  refine ⟨hA, z, hc, hr, ⟨by decide, i8, r13, fun t ht => absurd ht (by omega), fun _ i hi => absurd hi (by omega)⟩, ⟨by decide, i9, r14, fun i hi => absurd hi (by omega)⟩, fun p hp hq e => ?_, fun p hp hq e => ?_, fun _ => Or.inl i27, fun _ => Or.inl (by rw [r36]; decide)⟩
  · rw [i21] at e; exact absurd e (z0 p hp hq)
  · rw [r31] at e; exact absurd e (z0 p hp hq)
section OH
variable {l : Launch} {D : va_G} {aI aL : ClassId} {ad ad' : Nat → Nat} {I I' : sa_I} {J J' : sa_J} {N : sa_I → sa_J → sa_I → sa_J → Prop} {a3 : Int32}
theorem op_square {a b h d : Int} {I2 : sa_I} {J1 J2 : sa_J} (hA : ∀ t, I 1 t = I' 1 t) (z : J 26 0 = 0 ∧ J 26 2 = 0) (a1 : -20 ≤ a) (a2 : a ≤ 20) (b1 : -200 ≤ b) (b2 : b ≤ 200) (hp : psq (a * a - 4 * b) = false) (hc : fc2 a b h d = true) (hJ : ∃ Ja Jb, sbJ (sqJ J (lI a) (lI b)) Ja ∧ fsJ Ja 2 Jb ∧ fiJ 2 Jb J1) (hr : rbS 2 b a 0 h d 0 0 1 (a * a - 4 * b) (sqI I' a b) (sa_uJ J' 0 11 (lI (a * a - 4 * b))) I2 J2) : Rel0 (eh (sa_uI I 4 0 (nI 2))) J1 I2 J2 := by
  obtain ⟨c1, c2⟩ := cl_square (I := eh (sa_uI I 4 0 (nI 2))) a1 a2 b1 b2 hp hc hJ rfl
  have r1 := rf_square hc hr
  have j26 : J1 26 = J 26 := c2 26 (by decide) (by decide) (by decide) (by decide) (by decide) (by decide) (by decide)
  have q0 := sq_nn a
  have q1 := sq_le_of (x := a) (s := 20) (by omega) (by omega)
  have S := st_two (fld_square a1 a2 b1 b2 hc) (fu_square a1 a2 b1 b2 hp hc) (by omega) (by omega)
  obtain ⟨_, _, r13, r14, r36, r31, rq, _⟩ := hr
  refine (op_RF (fun t => ?_) ⟨by rw [j26]; exact z.1, by rw [j26]; exact z.2⟩ c1 r1 rfl rfl rfl rfl r13 r14 r36 r31).mk S
  rw [rq 1 (by decide)]
  exact hA t
theorem op_cube {a b c h d k l e : Int} {I2 : sa_I} {J1 J2 : sa_J} (hA : ∀ t, I 1 t = I' 1 t) (z : J 26 0 = 0 ∧ J 26 2 = 0) (a1 : -3 ≤ a) (a2 : a ≤ 3) (b1 : -9 ≤ b) (b2 : b ≤ 9) (c1 : -9 ≤ c) (c2 : c ≤ 9) (hp : hw7 a b c 41 (-20) = false) (hc : fc3 a b c h d k l e = true) (hJ : ∃ Ja Jb Jc d, sbJ (cuJ J (lI a) (lI b) (lI c)) Ja ∧ fsJ Ja 3 Jb ∧ Jb 7 1 = lI d ∧ (1 ≤ d ∧ d ≤ 90) ∧ ftJ Jb d Jc ∧ fiJ 3 Jc J1) (hr : rbS 3 c b a h d k l e (pdI a b c) (cuI I' a b c) (sa_uJ J' 0 11 (lI (pdI a b c))) I2 J2) : Rel0 (eh (sa_uI I 4 0 (nI 3))) J1 I2 J2 := by
  obtain ⟨x1, x2⟩ := cl_cube (I := eh (sa_uI I 4 0 (nI 3))) a1 a2 b1 b2 c1 c2 hc hJ rfl
  have r1 := rf_cube hc hr
  have j26 : J1 26 = J 26 := x2 26 (by decide) (by decide) (by decide) (by decide) (by decide) (by decide) (by decide)
  have S := st_three (fld_cube a1 a2 b1 b2 c1 c2 hc) (mx_cube a1 a2 b1 b2 c1 c2 hp hc) (dm_cube a1 a2 b1 b2 c1 c2 hp hc)
  obtain ⟨_, _, r13, r14, r36, r31, rq, _⟩ := hr
  refine (op_RF (fun t => ?_) ⟨by rw [j26]; exact z.1, by rw [j26]; exact z.2⟩ x1 r1 rfl rfl rfl rfl r13 r14 r36 r31).mk S
  rw [rq 1 (by decide)]
  exact hA t
/-- cube once more, with what is known where the field opens -/
theorem st_cubeW {a b c : Int} (ha : rgi a) (hb : rgi b) (hc : rgi c) (hN4 : N (rf I 4) J (rf I' 4) J') (hN6 : N (rf I 6) J (rf I' 6) J') (hN3 : N (rf I 3) J (rf I' 3) J') (hF : ∀ J1 I2 J2 h d k l0 e, -3 ≤ a → a ≤ 3 → -9 ≤ b → b ≤ 9 → -9 ≤ c → c ≤ 9 → hw7 a b c 41 (-20) = false → fc3 a b c h d k l0 e = true → (∃ Ja Jb Jc d, sbJ (cuJ J (lI a) (lI b) (lI c)) Ja ∧ fsJ Ja 3 Jb ∧ Jb 7 1 = lI d ∧ (1 ≤ d ∧ d ≤ 90) ∧ ftJ Jb d Jc ∧ fiJ 3 Jc J1) → rbS 3 c b a h d k l0 e (pdI a b c) (cuI I' a b c) (sa_uJ J' 0 11 (lI (pdI a b c))) I2 J2 → N (eh (sa_uI I 4 0 (nI 3))) J1 I2 J2) : la_Step l D aI aL ad ad' N 1 (iI a) (iI b) (iI c) I J I' J' := by
  refine ⟨_, _, c_cube ha hb hc, c_cube7 ha hb hc (fun h1 h2 h3 h4 h5 h6 hp => fck3_okC (allC h1 h2 h3 h4 h5 h6 hp)), fun r1 I1 J1 r2 I2 J2 p q => ?_⟩
  unfold cuP at p
  unfold cuR at q
  by_cases c1 : a < -3 ∨ b < -9 ∨ c < -9
  · rw [if_pos c1] at p q
    obtain ⟨rfl, rfl, rfl⟩ := p
    obtain ⟨rfl, rfl, rfl⟩ := q
    exact ⟨⟨_, rfl, rfl⟩, hN4⟩
  rw [if_neg c1] at p q
  by_cases c2 : 3 < a ∨ 9 < b ∨ 9 < c
  · rw [if_pos c2] at p q
    obtain ⟨rfl, rfl, rfl⟩ := p
    obtain ⟨rfl, rfl, rfl⟩ := q
    exact ⟨⟨_, rfl, rfl⟩, hN6⟩
  rw [if_neg c2] at p q
  rw [hw_eq ⟨by omega, by omega⟩ ⟨by omega, by omega⟩ ⟨by omega, by omega⟩] at p
  rcases c3 : hw7 a b c 41 (-20) with _ | _
  · rw [c3] at p q
    rw [if_neg (by decide)] at p q
    obtain ⟨rfl, rfl, hp⟩ := p
    obtain ⟨rfl, h, d, k, l', e, hr, hq⟩ := q
    obtain ⟨h', d', k', l2, e', hr', hf⟩ := fck3_of (allC (a := a) (b := b) (c := c) (by omega) (by omega) (by omega) (by omega) (by omega) (by omega) c3)
    rw [hr] at hr'
    obtain ⟨rfl, rfl, rfl, rfl, rfl⟩ : h = h' ∧ d = d' ∧ k = k' ∧ l' = l2 ∧ e = e' := by simpa using hr'
    exact ⟨⟨_, rfl, rfl⟩, hF J1 I2 J2 h d k l' e (by omega) (by omega) (by omega) (by omega) (by omega) (by omega) c3 hf hp hq⟩
  · rw [c3] at p q
    rw [if_pos rfl] at p q
    obtain ⟨rfl, rfl, rfl⟩ := p
    obtain ⟨rfl, rfl, rfl⟩ := q
    exact ⟨⟨_, rfl, rfl⟩, hN3⟩
end OH
