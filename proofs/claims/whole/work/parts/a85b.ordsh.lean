/-! D below 0: the run of orders does not depend on the trace -/
theorem sq4_par (y : Int) : (y * y) % 4 = 0 ∧ y % 2 = 0 ∨ (y * y) % 4 = 1 ∧ y % 2 = 1 := by
  obtain ⟨k, hk⟩ : ∃ k : Int, y = 2 * k ∨ y = 2 * k + 1 := ⟨y / 2, by omega⟩
  rcases hk with rfl | rfl
  · have e : 2 * k * (2 * k) = 4 * (k * k) := by grind
    rw [e]; omega
  · have e : (2 * k + 1) * (2 * k + 1) = 4 * (k * k + k) + 1 := by grind
    rw [e]; omega
theorem egN_some {N : Nat} : ∀ (k f u v u' v' : Nat), v' < 2 ^ k → 2 * k + 1 ≤ f → ∃ a b w, egN N f u v u' v' = some ((a, b), w) := by
  intro k
  induction k with
  | zero =>
    intro f u v u' v' h hf
    obtain ⟨f, rfl⟩ : ∃ g, f = g + 1 := ⟨f - 1, by omega⟩
    have z : v' = 0 := by omega
    rw [egN, if_pos z]; exact ⟨_, _, _, rfl⟩
  | succ k ih =>
    intro f u v u' v' h hf
    obtain ⟨f, rfl⟩ : ∃ g, f = g + 1 + 1 := ⟨f - 2, by omega⟩
    rw [egN]
    by_cases z : v' = 0
    · rw [if_pos z]; exact ⟨_, _, _, rfl⟩
    rw [if_neg z, egN]
    by_cases z2 : v % v' = 0
    · rw [if_pos z2]; exact ⟨_, _, _, rfl⟩
    rw [if_neg z2]
    refine ih f _ _ _ _ ?_ (by omega)
    have l1 := Nat.mod_lt v (show 0 < v' by omega)
    have l2 := Nat.mod_lt v' (show 0 < v % v' by omega)
    have l3 := Nat.div_add_mod v' (v % v')
    have l4 : 0 < v' / (v % v') := Nat.div_pos (by omega) (by omega)
    have l5 : v % v' * 1 ≤ v % v' * (v' / (v % v')) := Nat.mul_le_mul_left _ l4
    rw [Nat.pow_succ] at h
    omega
theorem egN_gcd {N : Nat} : ∀ (f u v u' v' : Nat) {a b w : Nat}, egN N f u v u' v' = some ((a, b), w) → b = Nat.gcd v v' := by
  intro f
  induction f with
  | zero => intro u v u' v' a b w h; exact absurd h (by simp [egN])
  | succ f ih =>
    intro u v u' v' a b w h
    rw [egN] at h
    by_cases c : v' = 0
    · rw [if_pos c] at h
      have := Option.some.inj h
      obtain ⟨⟨rfl, rfl⟩, rfl⟩ : ((u = a ∧ v = b) ∧ u' = w) := by simpa using this
      subst c; rw [Nat.gcd_zero_right]
    · rw [if_neg c] at h
      rw [ih _ _ _ _ h, Nat.gcd_comm v' (v % v'), ← Nat.gcd_rec v' v, Nat.gcd_comm]
theorem prdZ_some {x y a e c d : Int} (ha : 0 < a ∧ a ≤ 90) (hc : 0 < c ∧ c ≤ 90) (he : 0 ≤ e) (hd : 0 ≤ d) (hx : -200 ≤ x) (hy : -20 ≤ y) : ∃ r0 r3 r4, prdZ x y a e c d = some (r0, r3, r4) := by
  unfold prdZ
  rw [if_pos ⟨ha.1, hc.1, he, hd, hx, hy⟩]
  unfold prdN
  obtain ⟨u, v, w, h1⟩ := egN_some (N := a.toNat * c.toNat) 7 60 (a.toNat * d.toNat % (a.toNat * c.toNat)) a.toNat (c.toNat * e.toNat % (a.toNat * c.toNat)) c.toNat (by omega) (by decide)
  have g1 := egN_gcd _ _ _ _ _ h1
  have p1 : 0 < v := by rw [g1]; exact Nat.gcd_pos_of_pos_left _ (by omega)
  have p2 : v ≤ a.toNat := by rw [g1]; exact Nat.gcd_le_left _ (by omega)
  rw [h1]
  dsimp only
  obtain ⟨u2, v2, w2, h2⟩ := egN_some (N := a.toNat * c.toNat) 7 60 ((e.toNat * d.toNat + (x + 200).toNat + (20 * (a.toNat * d.toNat) + 200 * (a.toNat * c.toNat)) - 200) % (a.toNat * c.toNat)) (e.toNat + d.toNat + ((y + 20).toNat + 20 * a.toNat) - 20) u v (by omega) (by decide)
  have g2 := egN_gcd _ _ _ _ _ h2
  have p3 : 0 < v2 := by rw [g2]; exact Nat.gcd_pos_of_pos_right _ p1
  rw [h2]
  dsimp only
  rw [if_neg (by omega)]
  exact ⟨_, _, _, rfl⟩
/-- the same ideal's coordinates with another w1 -/
theorem Grp.sh {H : V3 → Prop} (g : Grp H) (t : Int) : Grp (fun v => H (v.1 + t * v.2.1, v.2.1, v.2.2)) := by
  constructor
  · show H (0 + t * 0, 0, 0)
    rw [Int.mul_zero, Int.add_zero]; exact g.1
  · intro u v hu hv
    have := g.2 _ _ hu hv
    have e : vsu (u.1 + t * u.2.1, u.2.1, u.2.2) (v.1 + t * v.2.1, v.2.1, v.2.2) = ((vsu u v).1 + t * (vsu u v).2.1, (vsu u v).2.1, (vsu u v).2.2) := v3_eq (by show u.1 + t * u.2.1 - (v.1 + t * v.2.1) = u.1 - v.1 + t * (u.2.1 - v.2.1); rw [Int.mul_sub]; omega) rfl rfl
    rw [e] at this; exact this
theorem gens_sh {H : V3 → Prop} (g : Grp H) {x y x0 y0 t a e e0 m c d d0 n : Int} (hy : y = y0 + 2 * t) (hx : x0 = x + t * y - t * t) (he : e0 = e + t + a * m) (hd : d0 = d + t + c * n) : ((H (a * c + t * 0, 0, 0) ∧ H (a * d + t * a, a, 0) ∧ H (c * e + t * c, c, 0) ∧ H (e * d + x + t * (e + d + y), e + d + y, 0)) ↔ (H (a * c, 0, 0) ∧ H (a * d0, a, 0) ∧ H (c * e0, c, 0) ∧ H (e0 * d0 + x0, e0 + d0 + y0, 0))) := by
  rw [Int.mul_zero, Int.add_zero]
  subst he; subst hd; subst hy; subst hx
  constructor
  · rintro ⟨h1, h2, h3, h4⟩
    refine ⟨h1, g.co n 0 0 h2 h1 g.1 g.1 ?_ ?_ ?_, g.co m 0 0 h3 h1 g.1 g.1 ?_ ?_ ?_, g.co m n (m * n) h4 h2 h3 h1 ?_ ?_ ?_⟩ <;> dsimp only <;> grind
  · rintro ⟨h1, h2, h3, h4⟩
    refine ⟨h1, g.co (-n) 0 0 h2 h1 g.1 g.1 ?_ ?_ ?_, g.co (-m) 0 0 h3 h1 g.1 g.1 ?_ ?_ ?_, g.co (-m) (-n) (m * n) h4 h2 h3 h1 ?_ ?_ ?_⟩ <;> dsimp only <;> grind
theorem prF_sh {x y x0 y0 : Int} (hb : bd x 200 ∧ bd y 20) (hb0 : bd x0 200 ∧ bd y0 20) (E : y0 * y0 + 4 * x0 = y * y + 4 * x) (hD : DOK (y * y + 4 * x)) {g h q : F3} (gG : gdF (y * y + 4 * x) g) (gH : gdF (y * y + 4 * x) h) (hq : prF x y g h = some q) : ∃ q0 k, prF x0 y0 g h = some q0 ∧ FI (y * y + 4 * x) q ∧ FI (y * y + 4 * x) q0 ∧ 0 < q.1 ∧ q0.1 = q.1 ∧ q0.2.1 = q.2.1 + 2 * q.1 * k := by
  obtain ⟨t, ht⟩ : ∃ t, y = y0 + 2 * t := by
    have s1 := sq4_par y
    have s2 := sq4_par y0
    exact ⟨(y - y0) / 2, by omega⟩
  have hx : x0 = x + t * y - t * t := by
    subst ht
    have e1 : (y0 + 2 * t) * (y0 + 2 * t) = y0 * y0 + 4 * (t * y0 + t * t) := by grind
    have e2 : t * (y0 + 2 * t) = t * y0 + 2 * (t * t) := by grind
    rw [e1] at E
    rw [e2]; omega
  have gG0 : gdF (y0 * y0 + 4 * x0) g := by rw [E]; exact gG
  have gH0 : gdF (y0 * y0 + 4 * x0) h := by rw [E]; exact gH
  have hD0 : DOK (y0 * y0 + 4 * x0) := by rw [E]; exact hD
  obtain ⟨⟨a1, a2⟩, _, k1, e1⟩ := smE_of gG.1 gG.2.1
  obtain ⟨⟨b1, b2⟩, _, k2, e2⟩ := smE_of gG0.1 gG0.2.1
  obtain ⟨⟨c1, c2⟩, _, k3, e3⟩ := smE_of gH.1 gH.2.1
  obtain ⟨⟨d1, d2⟩, _, k4, e4⟩ := smE_of gH0.1 gH0.2.1
  have he : smE y0 g = smE y g + t + g.1 * (k2 - k1) := by rw [Int.mul_sub]; have : 2 * g.1 * k1 = 2 * (g.1 * k1) := Int.mul_assoc ..; have : 2 * g.1 * k2 = 2 * (g.1 * k2) := Int.mul_assoc ..; omega
  have hd : smE y0 h = smE y h + t + h.1 * (k4 - k3) := by rw [Int.mul_sub]; have : 2 * h.1 * k3 = 2 * (h.1 * k3) := Int.mul_assoc ..; have : 2 * h.1 * k4 = 2 * (h.1 * k4) := Int.mul_assoc ..; omega
  unfold prF at hq
  cases hz : prdZ x y g.1 (smE y g) h.1 (smE y h) with
  | none => rw [hz] at hq; exact absurd hq (by simp)
  | some z =>
    obtain ⟨r0, r3, r4⟩ := z
    rw [hz] at hq
    have eq := Option.some.inj hq
    obtain ⟨s0, s3, s4, hz0⟩ := prdZ_some (x := x0) (y := y0) (a := g.1) (c := h.1) (e := smE y0 g) (d := smE y0 h) ⟨gG.2.1, gG.2.2⟩ ⟨gH.2.1, gH.2.2⟩ b1 d1 hb0.1.1 hb0.2.1
    obtain ⟨p, key⟩ := prdZ_of hz
    obtain ⟨p0, key0⟩ := prdZ_of hz0
    have iR := prd_ideal hb (gdF_idr gG) (gdF_idr gH) ⟨gG.2.1, gG.2.2⟩ ⟨gH.2.1, gH.2.2⟩ hz
    have iR0 := prd_ideal hb0 (gdF_idr gG0) (gdF_idr gH0) ⟨gG.2.1, gG.2.2⟩ ⟨gH.2.1, gH.2.2⟩ hz0
    have al : ∀ H, Grp H → ((H (s0, 0, 0) ∧ H (s3, s4, 0)) ↔ (H (r0, 0, 0) ∧ H ((r3 + t * r4) % r0, r4, 0))) := by
      intro H g'
      rw [← key0 H g', ← gens_sh g' ht hx he hd]
      have := key _ (g'.sh t)
      dsimp only at this
      rw [this, Int.mul_zero, Int.add_zero]
      exact H_cut g'
    have un := Hm_uniq (rwI_Hm p0) (rwI_Hm (r0 := r0) (r3 := (r3 + t * r4) % r0) (r4 := r4) ⟨p.1, p.2.1, Int.emod_nonneg _ (by omega), Int.emod_lt_of_pos _ p.1⟩) (fun H g' => by
      show (H (s0, 0, 0) ∧ H (s3, s4, 0) ∧ H (0, 0, 1)) ↔ (H (r0, 0, 0) ∧ H ((r3 + t * r4) % r0, r4, 0) ∧ H (0, 0, 1))
      rw [← and_assoc, ← and_assoc, al H g'])
    have u0 : s0 = r0 := un 0 (by decide)
    have u3 : s3 = (r3 + t * r4) % r0 := un 3 (by decide)
    have u4 : s4 = r4 := un 4 (by decide)
    obtain ⟨a, e, c, f0, f3, ap, _, _, _, _, epf, hF, _⟩ := pfR_of hb iR (fun b => hD.nsq b)
    obtain ⟨a', e', c', f0', f3', ap', _, _, _, _, epf', hF', _⟩ := pfR_of hb0 iR0 (fun b => hD0.nsq b)
    have f0 : r0 = a * r4 := f0
    have f3 : r3 = e * r4 := f3
    have f0' : s0 = a' * s4 := f0'
    have f3' : s3 = e' * s4 := f3'
    rw [u0, u4, f0] at f0'
    have ea : a' = a := (Int.eq_of_mul_eq_mul_right (by have := p.2.1; omega) f0').symm
    have em := Int.mul_ediv_add_emod (r3 + t * r4) r0
    have ee : e' = e + t - a * ((r3 + t * r4) / r0) := by
      refine Int.eq_of_mul_eq_mul_right (a := r4) (by have := p.2.1; omega) ?_
      rw [u4] at f3'
      rw [← f3', u3]
      have t1 : (e + t - a * ((r3 + t * r4) / r0)) * r4 = e * r4 + t * r4 - a * r4 * ((r3 + t * r4) / r0) := by grind
      rw [t1, ← f0, ← f3]; omega
    subst ea
    refine ⟨(a', 2 * e' + y0, c'), -((r3 + t * r4) / r0), ?_, ?_, ?_, ?_, ?_, ?_⟩
    · unfold prF; rw [hz0]; dsimp only; rw [epf']
    · rw [← eq, epf]; exact hF
    · rw [← E]; exact hF'
    · rw [← eq, epf]; exact ap
    · rw [← eq, epf]
    · rw [← eq, epf]
      show 2 * e' + y0 = 2 * e + y + 2 * a' * -((r3 + t * r4) / r0)
      rw [ee, ht]; grind
/-- D below 0: forms that differ by turning x to x + k y come to the same -/
theorem RD_sh {D : Int} (hD : DOK D) (hn : D < 0) {q q0 : F3} (hF : FI D q) (hF0 : FI D q0) (a0 : 0 < q.1) (h1 : q0.1 = q.1) {k : Int} (h2 : q0.2.1 = q.2.1 + 2 * q.1 * k) : RD D q0 = RD D q := by
  have stay : ∀ f, FI D f → 0 < f.1 → rdB D f.1 f.2.1 f.2.2 = true → trnF D f = f := by
    intro f hF a0 hr
    rw [rdB_neg hn] at hr
    obtain ⟨r1, r2, r3⟩ := hr
    have en : nrmB f.1 f.2.1 = f.2.1 := nrm_id a0 (by rcases r3 with z | z <;> omega) (by omega)
    unfold trnF
    dsimp only
    rw [en, hF.tdiv, if_neg (by rintro (z | z) <;> omega)]
  have en : nrmB q0.1 q0.2.1 = nrmB q.1 q.2.1 := by
    have e : (q.2.1 + 2 * q.1 * k) % (2 * q.1) = q.2.1 % (2 * q.1) := Int.add_mul_emod_self_left ..
    unfold nrmB
    rw [h1, h2, e]
  have et : trnF D q0 = trnF D q := by
    unfold trnF
    dsimp only
    rw [en, h1]
  have one : ∀ f, FI D f → 0 < f.1 → RD D f = rdN D 60 (trnF D f) := by
    intro f hf fa
    unfold RD
    rw [rdN]
    by_cases c : rdB D f.1 f.2.1 f.2.2 = true
    · rw [if_pos c, stay f hf fa c, rdN, if_pos c]
    · rw [if_neg c]
      unfold stpF; rw [if_neg (by omega)]
  rw [one q0 hF0 (by omega), one q hF a0, et]
theorem ordC_sh {x y x0 y0 : Int} (hb : bd x 200 ∧ bd y 20) (hb0 : bd x0 200 ∧ bd y0 20) (E : y0 * y0 + 4 * x0 = y * y + 4 * x) (hD : DOK (y * y + 4 * x)) (hn : y * y + 4 * x < 0) {goal : Int} {base : F3} (gB : gdF (y * y + 4 * x) base) : ∀ (k : Nat) (pw : F3) (rc : Int) (m r : Nat), gdF (y * y + 4 * x) pw → ordC (y * y + 4 * x) x0 y0 goal base k pw rc m = some r → ordC (y * y + 4 * x) x y goal base k pw rc m = some r := by
  have gB0 : gdF (y0 * y0 + 4 * x0) base := by rw [E]; exact gB
  have hD0 : DOK (y0 * y0 + 4 * x0) := by rw [E]; exact hD
  intro k
  induction k with
  | zero => intro pw rc m r _ h; exact absurd h (by simp [ordC])
  | succ k ih =>
    intro pw rc m r gP h
    have gP0 : gdF (y0 * y0 + 4 * x0) pw := by rw [E]; exact gP
    rw [ordC] at h ⊢
    by_cases c : rc = goal
    · rw [if_pos c] at h ⊢; exact h
    rw [if_neg c] at h ⊢
    cases hq : prF x0 y0 pw base with
    | none => rw [hq] at h; exact absurd h (by simp)
    | some q =>
      rw [hq] at h
      dsimp only at h
      obtain ⟨q', j, hq', f1, f2, ap, ea, eb⟩ := prF_sh hb0 hb E.symm hD0 gP0 gB0 hq
      rw [hq']
      dsimp only
      rw [E] at f1 f2
      have er := RD_sh hD hn f1 f2 ap ea eb
      have ec : clsZ (y * y + 4 * x) q' = clsZ (y * y + 4 * x) q := by rw [clsZ_I, clsZ_I, er]
      rw [er, ec]
      obtain ⟨pa, pc⟩ := prF_of hb hD gP gB hq'
      rw [er] at pa pc
      exact ih _ _ _ _ (gd_pos hD pa pc) h
theorem goal_sh {x y x0 y0 : Int} (hb : bd x 200 ∧ bd y 20) (hb0 : bd x0 200 ∧ bd y0 20) (E : y0 * y0 + 4 * x0 = y * y + 4 * x) (hD : DOK (y * y + 4 * x)) (hn : y * y + 4 * x < 0) : clsZ (y * y + 4 * x) (1, y0, -x0) = clsZ (y * y + 4 * x) (1, y, -x) := by
  have fi : ∀ u v : Int, v * v + 4 * u = y * y + 4 * x → FI (y * y + 4 * x) (1, v, -u) := by
    intro u v e
    refine ⟨by show v * v - 4 * 1 * -u = y * y + 4 * x; omega, by show (1 : Int) ≠ 0; decide, ?_⟩
    show -u ≠ 0
    intro z
    exact hD.nsq v (by omega)
  obtain ⟨t, ht⟩ : ∃ t, y = y0 + 2 * t := by
    have s1 := sq4_par y
    have s2 := sq4_par y0
    exact ⟨(y - y0) / 2, by omega⟩
  rw [clsZ_I, clsZ_I, RD_sh hD hn (fi x y rfl) (fi x0 y0 E) (by show (0 : Int) < 1; decide) rfl (k := -t) (by show y0 = y + 2 * 1 * -t; omega)]
