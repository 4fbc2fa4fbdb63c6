theorem rgo2_shape {f0 f1 f2 Di h d k l e : Int} (hg : rgo 2 f0 f1 f2 Di = some (h, d, k, l, e)) : k = 0 ∧ l = 0 ∧ e = 1 := by
  unfold rgo at hg
  rcases hb : bgP (wI 2 f0 f1 f2) 2 Di 108 2 (0, 1, 0, 1) (0, 0, 1, 1) with _ | ⟨f, s⟩
  · rw [hb] at hg; simp at hg
  · rw [hb] at hg; simp only [if_true, Option.some.injEq, Prod.mk.injEq] at hg
    exact ⟨hg.2.2.1.symm, hg.2.2.2.1.symm, hg.2.2.2.2.symm⟩
theorem fck2_of {a b : Int} (h : fck2 a b = true) : ∃ h d, rgo 2 b a 0 (a * a - 4 * b) = some (h, d, 0, 0, 1) ∧ fc2 a b h d = true := by
  unfold fck2 at h
  rcases hr : rgo 2 b a 0 (a * a - 4 * b) with _ | ⟨h1, d, k, l, e⟩
  · rw [hr] at h; exact absurd h Bool.false_ne_true
  · rw [hr] at h
    obtain ⟨rfl, rfl, rfl⟩ := rgo2_shape hr
    exact ⟨h1, d, rfl, h⟩
theorem fck3_of {a b c : Int} (h : fck3 a b c = true) : ∃ h d k l e, rgo 3 c b a (pdI a b c) = some (h, d, k, l, e) ∧ fc3 a b c h d k l e = true := by
  unfold fck3 at h
  rcases hr : rgo 3 c b a (pdI a b c) with _ | ⟨h1, d, k, l, e⟩
  · rw [hr] at h; exact absurd h Bool.false_ne_true
  · rw [hr] at h
    exact ⟨h1, d, k, l, e, rfl, h⟩
/-- what fc2 says, one by one -/
theorem fc2_of {a b h d : Int} (H : fc2 a b h d = true) : (1 ≤ d ∧ d ≤ 90 ∧ 0 ≤ h ∧ h < d) ∧ fsI (a * a - 4 * b) (cW2 b a) 34 = some (d, h) ∧ (tbC2 b a h d 0 0 1 0 0 = true ∧ tbC2 b a h d 0 0 1 0 1 = true ∧ tbC2 b a h d 0 0 1 1 0 = true ∧ tbC2 b a h d 0 0 1 1 1 = true) ∧ (tbI2 b a h d 0 0 1 0 0 = (1, 0, 0) ∧ tbI2 b a h d 0 0 1 0 1 = (0, 1, 0) ∧ tbI2 b a h d 0 0 1 1 0 = (0, 1, 0)) ∧ (clC2 b a h d 0 0 = true ∧ clC2 b a h d 0 1 = true ∧ clC2 b a h d 1 0 = true ∧ clC2 b a h d 1 1 = true) ∧ (clI2 b a h d 0 0 = (1, 0) ∧ clI2 b a h d 0 1 = (0, 1) ∧ clI2 b a h d 1 0 = (0, 1) ∧ clI2 b a h d 1 1 = ((tbI2 b a h d 0 0 1 1 1).1, (tbI2 b a h d 0 0 1 1 1).2.1)) ∧ (bd (tbI2 b a h d 0 0 1 1 1).1 200 ∧ bd (tbI2 b a h d 0 0 1 1 1).2.1 20) ∧ (tbI2 b a h d 0 0 1 1 1).2.1 * (tbI2 b a h d 0 0 1 1 1).2.1 + 4 * (tbI2 b a h d 0 0 1 1 1).1 = (a * a - 4 * b).tdiv (d * d) ∧ (a * a - 4 * b).tdiv (d * d) * (d * d) = a * a - 4 * b ∧ psq ((a * a - 4 * b).tdiv (d * d)) = false := by
  simp only [fc2, Bool.and_eq_true, decide_eq_true_eq, Bool.not_eq_true'] at H
  obtain ⟨⟨⟨⟨⟨⟨⟨⟨⟨⟨⟨⟨⟨⟨⟨⟨⟨⟨⟨⟨⟨⟨⟨⟨x1, x2⟩, x3⟩, x4⟩, x5⟩, x6⟩, x7⟩, x8⟩, x9⟩, y1⟩, y2⟩, y3⟩, y4⟩, y5⟩, y6⟩, y7⟩, y8⟩, y9⟩, z1⟩, z2⟩, z3⟩, z4⟩, z5⟩, z6⟩, z7⟩ := H
  exact ⟨⟨x1, x2, x3, x4⟩, x5, ⟨x6, x7, x8, x9⟩, ⟨y1, y2, y3⟩, ⟨y4, y5, y6, y7⟩, ⟨y8, y9, z1, z2⟩, ⟨bb_bd z3, bb_bd z4⟩, z5, z6, z7⟩
theorem fck2_okS {a b : Int} (h : fck2 a b = true) : okS a b = true := by
  obtain ⟨h1, d, hr, hf⟩ := fck2_of h
  obtain ⟨_, _, ⟨c1, c2, c3, c4⟩, _⟩ := fc2_of hf
  unfold okS; rw [hr]
  show (tbC2 b a h1 d 0 0 1 0 0 && tbC2 b a h1 d 0 0 1 0 1 && tbC2 b a h1 d 0 0 1 1 0 && tbC2 b a h1 d 0 0 1 1 1) = true
  rw [c1, c2, c3, c4]; rfl
theorem fck3_okC {a b c : Int} (h : fck3 a b c = true) : okC a b c = true := by
  obtain ⟨h1, d, k, l, e, hr, hf⟩ := fck3_of h
  unfold okC
  rw [show (a * a * b * b - 4 * b * b * b - 4 * a * a * a * c - 27 * c * c + 18 * a * b * c) = pdI a b c from rfl, hr]
  simp only [fc3, fc3b, Bool.and_eq_true] at hf
  have hb := hf.1.1.1.1.1.1.2
  show (tbC3 c b a h1 d k l e 0 0 && tbC3 c b a h1 d k l e 0 1 && tbC3 c b a h1 d k l e 0 2 && tbC3 c b a h1 d k l e 1 0 && tbC3 c b a h1 d k l e 1 1 && tbC3 c b a h1 d k l e 1 2 && tbC3 c b a h1 d k l e 2 0 && tbC3 c b a h1 d k l e 2 1 && tbC3 c b a h1 d k l e 2 2) = true
  simp only [Bool.and_eq_true]
  exact hb.1.1.1.1.1.1
section OS
variable {l : Launch} {D : va_G} {aI aL : ClassId} {ad ad' : Nat → Nat} {I I' : sa_I} {J J' : sa_J} {N : sa_I → sa_J → sa_I → sa_J → Prop} {a3 : Int32}
theorem st_square {a b : Int} (ha : rgi a) (hb : rgi b) (hN4 : N (rf I 4) J (rf I' 4) J') (hN6 : N (rf I 6) J (rf I' 6) J') (hN3 : N (rf I 3) J (rf I' 3) J') (hF : ∀ J1 I2 J2 h d, -20 ≤ a → a ≤ 20 → -200 ≤ b → b ≤ 200 → psq (a * a - 4 * b) = false → fc2 a b h d = true → (∃ Ja Jb, sbJ (sqJ J (lI a) (lI b)) Ja ∧ fsJ Ja 2 Jb ∧ fiJ 2 Jb J1) → rbS 2 b a 0 h d 0 0 1 (a * a - 4 * b) (sqI I' a b) (sa_uJ J' 0 11 (lI (a * a - 4 * b))) I2 J2 → N (eh (sa_uI I 4 0 (nI 2))) J1 I2 J2) : la_Step l D aI aL ad ad' N 0 (iI a) (iI b) a3 I J I' J' := by
  refine ⟨_, _, c_square ha hb, c_square7 ha hb (fun h1 h2 h3 h4 hp => fck2_okS (allS h1 h2 h3 h4 hp)), fun r1 I1 J1 r2 I2 J2 p q => ?_⟩
  unfold sqP at p
  unfold sqR at q
  by_cases c1 : a < -20 ∨ b < -200
  · rw [if_pos c1] at p q
    obtain ⟨rfl, rfl, rfl⟩ := p
    obtain ⟨rfl, rfl, rfl⟩ := q
    exact ⟨⟨_, rfl, rfl⟩, hN4⟩
  rw [if_neg c1] at p q
  by_cases c2 : 20 < a ∨ 200 < b
  · rw [if_pos c2] at p q
    obtain ⟨rfl, rfl, rfl⟩ := p
    obtain ⟨rfl, rfl, rfl⟩ := q
    exact ⟨⟨_, rfl, rfl⟩, hN6⟩
  rw [if_neg c2] at p q
  rcases c3 : psq (a * a - 4 * b) with _ | _
  · rw [c3] at p q
    rw [if_neg (by decide)] at p q
    obtain ⟨rfl, rfl, hp⟩ := p
    obtain ⟨rfl, h, d, k, l', e, hr, hq⟩ := q
    obtain ⟨h', d', hr', hf⟩ := fck2_of (allS (a := a) (b := b) (by omega) (by omega) (by omega) (by omega) c3)
    rw [hr] at hr'
    obtain ⟨rfl, rfl, rfl, rfl, rfl⟩ : h = h' ∧ d = d' ∧ k = 0 ∧ l' = 0 ∧ e = 1 := by simpa using hr'
    exact ⟨⟨_, rfl, rfl⟩, hF J1 I2 J2 h d (by omega) (by omega) (by omega) (by omega) c3 hf hp hq⟩
  · rw [c3] at p q
    rw [if_pos rfl] at p q
    obtain ⟨rfl, rfl, rfl⟩ := p
    obtain ⟨rfl, rfl, rfl⟩ := q
    exact ⟨⟨_, rfl, rfl⟩, hN3⟩
theorem st_cube {a b c : Int} (ha : rgi a) (hb : rgi b) (hc : rgi c) (hN4 : N (rf I 4) J (rf I' 4) J') (hN6 : N (rf I 6) J (rf I' 6) J') (hN3 : N (rf I 3) J (rf I' 3) J') (hF : ∀ J1 I2 J2 h d k l0 e, -3 ≤ a → a ≤ 3 → -9 ≤ b → b ≤ 9 → -9 ≤ c → c ≤ 9 → fc3 a b c h d k l0 e = true → (∃ Ja Jb Jc d, sbJ (cuJ J (lI a) (lI b) (lI c)) Ja ∧ fsJ Ja 3 Jb ∧ Jb 7 1 = lI d ∧ (1 ≤ d ∧ d ≤ 90) ∧ ftJ Jb d Jc ∧ fiJ 3 Jc J1) → rbS 3 c b a h d k l0 e (pdI a b c) (cuI I' a b c) (sa_uJ J' 0 11 (lI (pdI a b c))) I2 J2 → N (eh (sa_uI I 4 0 (nI 3))) J1 I2 J2) : la_Step l D aI aL ad ad' N 1 (iI a) (iI b) (iI c) I J I' J' := by
  refine ⟨_, _, c_cube ha hb hc, c_cube7 ha hb hc (fun h1 h2 h3 h4 h5 h6 hp => fck3_okC (allC h1 h2 h3 h4 h5 h6 hp)), fun r1 I1 J1 r2 I2 J2 p q => ?_⟩
  unfold cuP at p
  unfold cuR at q
  by_cases c1 : a < -3 ∨ b < -9 ∨ c < -9
  · rw [if_pos c1] at p q
    obtain ⟨rfl, rfl, rfl⟩ := p
    obtain ⟨rfl, rfl, rfl⟩ := q
    exact ⟨⟨_, rfl, rfl⟩, hN4⟩
  rw [if_neg c1] at p q
  by_cases c2 : 3 < a ∨ 9 < b ∨ 9 < c
  · rw [if_pos c2] at p q
    obtain ⟨rfl, rfl, rfl⟩ := p
    obtain ⟨rfl, rfl, rfl⟩ := q
    exact ⟨⟨_, rfl, rfl⟩, hN6⟩
  rw [if_neg c2] at p q
  rw [hw_eq ⟨by omega, by omega⟩ ⟨by omega, by omega⟩ ⟨by omega, by omega⟩] at p
  rcases c3 : hw7 a b c 41 (-20) with _ | _
  · rw [c3] at p q
    rw [if_neg (by decide)] at p q
    obtain ⟨rfl, rfl, hp⟩ := p
    obtain ⟨rfl, h, d, k, l', e, hr, hq⟩ := q
    obtain ⟨h', d', k', l2, e', hr', hf⟩ := fck3_of (allC (a := a) (b := b) (c := c) (by omega) (by omega) (by omega) (by omega) (by omega) (by omega) c3)
    rw [hr] at hr'
    obtain ⟨rfl, rfl, rfl, rfl, rfl⟩ : h = h' ∧ d = d' ∧ k = k' ∧ l' = l2 ∧ e = e' := by simpa using hr'
    exact ⟨⟨_, rfl, rfl⟩, hF J1 I2 J2 h d k l' e (by omega) (by omega) (by omega) (by omega) (by omega) (by omega) hf hp hq⟩
  · rw [c3] at p q
    rw [if_pos rfl] at p q
    obtain ⟨rfl, rfl, rfl⟩ := p
    obtain ⟨rfl, rfl, rfl⟩ := q
    exact ⟨⟨_, rfl, rfl⟩, hN3⟩
end OS
