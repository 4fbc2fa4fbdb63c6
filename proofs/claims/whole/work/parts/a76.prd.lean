/-! the product of two ideals of degree 2 by numbers alone -/
/-- Euclid's way on numbers -/
def egO : Nat → Int → Int → Option Int
  | 0, _, _ => none
  | f + 1, p, q => if q = 0 then some p else egO f q (p - p / q * q)
theorem egO_H {H : V3 → Prop} (g : Grp H) : ∀ (f : Nat) (p q : Int) {r : Int}, egO f p q = some r → ((H (p, 0, 0) ∧ H (q, 0, 0)) ↔ H (r, 0, 0)) := by
  intro f
  induction f with
  | zero => intro p q r h; exact absurd h (by simp [egO])
  | succ f ih =>
    intro p q r h
    rw [egO] at h
    by_cases c : q = 0
    · rw [if_pos c] at h
      have := Option.some.inj h
      subst this; subst c
      exact ⟨fun z => z.1, fun z => ⟨z, g.1⟩⟩
    · rw [if_neg c] at h
      rw [← ih q (p - p / q * q) h]
      exact st_H0 g
/-- Euclid's way on the second places: a row, and what is left of the other -/
def egT : Nat → Int → Int → Int → Int → Option ((Int × Int) × Int)
  | 0, _, _, _, _ => none
  | f + 1, u, v, u', v' => if v' = 0 then some ((u, v), u') else egT f u' v' (u - v / v' * u') (v - v / v' * v')
theorem egT_H {H : V3 → Prop} (g : Grp H) : ∀ (f : Nat) (u v u' v' : Int) {a b w : Int}, egT f u v u' v' = some ((a, b), w) → ((H (u, v, 0) ∧ H (u', v', 0)) ↔ (H (a, b, 0) ∧ H (w, 0, 0))) := by
  intro f
  induction f with
  | zero => intro u v u' v' a b w h; exact absurd h (by simp [egT])
  | succ f ih =>
    intro u v u' v' a b w h
    rw [egT] at h
    by_cases c : v' = 0
    · rw [if_pos c] at h
      have := Option.some.inj h
      obtain ⟨⟨rfl, rfl⟩, rfl⟩ : ((u = a ∧ v = b) ∧ u' = w) := by simpa using this
      subst c
      exact Iff.rfl
    · rw [if_neg c] at h
      rw [← ih u' v' (u - v / v' * u') (v - v / v' * v') h]
      constructor
      · rintro ⟨h1, h2⟩
        refine ⟨h2, ?_⟩
        have := g.2 _ _ h1 (g.mul h2 (v / v'))
        have e : vsu (u, v, 0) (vmu (v / v') (u', v', 0)) = (u - v / v' * u', v - v / v' * v', 0) := v3_eq rfl rfl (by show (0 : Int) - v / v' * 0 = 0; omega)
        rw [e] at this; exact this
      · rintro ⟨h1, h2⟩
        refine ⟨?_, h1⟩
        have := g.add h2 (g.mul h1 (v / v'))
        have e : vad (u - v / v' * u', v - v / v' * v', 0) (vmu (v / v') (u', v', 0)) = (u, v, 0) := v3_eq (by show u - v / v' * u' + v / v' * u' = u; omega) (by show v - v / v' * v' + v / v' * v' = v; omega) (by show 0 + v / v' * 0 = 0; omega)
        rw [e] at this; exact this
/-- rows of the product of (a, e + w) and (c, d + w), w w = x + y w -/
def prdZ (x y a e c d : Int) : Option (Int × Int × Int) :=
  match egT 60 (a * d) a (c * e) c with
  | none => none
  | some ((u, v), w) => match egT 60 (e * d + x) (e + d + y) u v with
    | none => none
    | some ((u2, v2), w2) => match egO 60 w w2 with
      | none => none
      | some r => match egO 60 (a * c) r with
        | none => none
        | some r0 => if r0 ≤ 0 then (if v2 = 0 then none else if v2 < 0 then (if r0 = 0 then none else some (-r0, (-u2) % (-r0), -v2)) else (if r0 = 0 then none else some (-r0, u2 % (-r0), v2))) else (if v2 = 0 then none else if v2 < 0 then some (r0, (-u2) % r0, -v2) else some (r0, u2 % r0, v2))
theorem H_neg {H : V3 → Prop} (g : Grp H) {a b c : Int} : H (a, b, c) ↔ H (-a, -b, -c) := by
  have e : ∀ a b c : Int, vmu (-1) (a, b, c) = (-a, -b, -c) := fun a b c => v3_eq (by show -1 * a = -a; omega) (by show -1 * b = -b; omega) (by show -1 * c = -c; omega)
  constructor
  · intro h; have := g.neg h; rw [e] at this; exact this
  · intro h; have := g.neg h; rw [e, Int.neg_neg, Int.neg_neg, Int.neg_neg] at this; exact this
theorem H_cut {H : V3 → Prop} (g : Grp H) {r u v : Int} : (H (r, 0, 0) ∧ H (u, v, 0)) ↔ (H (r, 0, 0) ∧ H (u % r, v, 0)) := by
  have e := Int.mul_ediv_add_emod u r
  constructor
  · rintro ⟨h1, h2⟩
    refine ⟨h1, ?_⟩
    have := g.2 _ _ h2 (g.mul h1 (u / r))
    have e2 : vsu (u, v, 0) (vmu (u / r) (r, 0, 0)) = (u % r, v, 0) := v3_eq (by show u - u / r * r = u % r; rw [Int.mul_comm]; omega) (by show v - u / r * 0 = v; omega) (by show (0 : Int) - u / r * 0 = 0; omega)
    rw [e2] at this; exact this
  · rintro ⟨h1, h2⟩
    refine ⟨h1, ?_⟩
    have := g.add h2 (g.mul h1 (u / r))
    have e2 : vad (u % r, v, 0) (vmu (u / r) (r, 0, 0)) = (u, v, 0) := v3_eq (by show u % r + u / r * r = u; rw [Int.mul_comm]; omega) (by show v + u / r * 0 = v; omega) (by show (0 : Int) + u / r * 0 = 0; omega)
    rw [e2] at this; exact this
theorem prdZ_of {x y a e c d r0 r3 r4 : Int} (h : prdZ x y a e c d = some (r0, r3, r4)) : (0 < r0 ∧ 0 < r4 ∧ 0 ≤ r3 ∧ r3 < r0) ∧ ∀ H, Grp H → ((H (a * c, 0, 0) ∧ H (a * d, a, 0) ∧ H (c * e, c, 0) ∧ H (e * d + x, e + d + y, 0)) ↔ (H (r0, 0, 0) ∧ H (r3, r4, 0))) := by
  unfold prdZ at h
  cases h1 : egT 60 (a * d) a (c * e) c with
  | none => rw [h1] at h; exact absurd h (by simp)
  | some z1 =>
    obtain ⟨⟨u, v⟩, w⟩ := z1
    rw [h1] at h
    dsimp only at h
    cases h2 : egT 60 (e * d + x) (e + d + y) u v with
    | none => rw [h2] at h; exact absurd h (by simp)
    | some z2 =>
      obtain ⟨⟨u2, v2⟩, w2⟩ := z2
      rw [h2] at h
      dsimp only at h
      cases h3 : egO 60 w w2 with
      | none => rw [h3] at h; exact absurd h (by simp)
      | some r =>
        rw [h3] at h
        dsimp only at h
        cases h4 : egO 60 (a * c) r with
        | none => rw [h4] at h; exact absurd h (by simp)
        | some s =>
          rw [h4] at h
          dsimp only at h
          have key : ∀ H, Grp H → ((H (a * c, 0, 0) ∧ H (a * d, a, 0) ∧ H (c * e, c, 0) ∧ H (e * d + x, e + d + y, 0)) ↔ (H (s, 0, 0) ∧ H (u2, v2, 0))) := by
            intro H g
            have k1 := egT_H g 60 _ _ _ _ h1
            have k2 := egT_H g 60 _ _ _ _ h2
            have k3 := egO_H g 60 _ _ h3
            have k4 := egO_H g 60 _ _ h4
            constructor
            · rintro ⟨p1, p2, p3, p4⟩
              obtain ⟨q1, q2⟩ := k1.mp ⟨p2, p3⟩
              obtain ⟨q3, q4⟩ := k2.mp ⟨p4, q1⟩
              exact ⟨k4.mp ⟨p1, k3.mp ⟨q2, q4⟩⟩, q3⟩
            · rintro ⟨p1, p2⟩
              obtain ⟨q1, q2⟩ := k4.mpr p1
              obtain ⟨q3, q4⟩ := k3.mpr q2
              obtain ⟨q5, q6⟩ := k2.mpr ⟨p2, q4⟩
              obtain ⟨q7, q8⟩ := k1.mpr ⟨q6, q3⟩
              exact ⟨q1, q7, q8, q5⟩
          have neg0 : ∀ H, Grp H → (H (s, 0, 0) ↔ H (-s, 0, 0)) := fun H g => by have := H_neg g (a := s) (b := 0) (c := 0); simpa using this
          have neg1 : ∀ H, Grp H → (H (u2, v2, 0) ↔ H (-u2, -v2, 0)) := fun H g => by have := H_neg g (a := u2) (b := v2) (c := 0); simpa using this
          have fin : ∀ {R0 U V : Int}, 0 < R0 → 0 < V → (∀ H, Grp H → (H (s, 0, 0) ↔ H (R0, 0, 0))) → (∀ H, Grp H → (H (u2, v2, 0) ↔ H (U, V, 0))) → some (R0, U % R0, V) = some (r0, r3, r4) → (0 < r0 ∧ 0 < r4 ∧ 0 ≤ r3 ∧ r3 < r0) ∧ ∀ H, Grp H → ((H (a * c, 0, 0) ∧ H (a * d, a, 0) ∧ H (c * e, c, 0) ∧ H (e * d + x, e + d + y, 0)) ↔ (H (r0, 0, 0) ∧ H (r3, r4, 0))) := by
            intro R0 U V p1 p2 p3 p4 p5
            obtain ⟨rfl, rfl, rfl⟩ : R0 = r0 ∧ U % R0 = r3 ∧ V = r4 := by simpa using p5
            refine ⟨⟨p1, p2, Int.emod_nonneg _ (by omega), Int.emod_lt_of_pos _ p1⟩, fun H g => ?_⟩
            rw [key H g, p3 H g, p4 H g]
            exact H_cut g
          by_cases c1 : s ≤ 0
          · rw [if_pos c1] at h
            by_cases c2 : v2 = 0
            · rw [if_pos c2] at h; exact absurd h (by simp)
            · rw [if_neg c2] at h
              by_cases c4 : s = 0
              · simp only [c4, if_true] at h
                by_cases c3 : v2 < 0
                · rw [if_pos c3] at h; exact absurd h (by simp)
                · rw [if_neg c3] at h; exact absurd h (by simp)
              · by_cases c3 : v2 < 0
                · rw [if_pos c3, if_neg c4] at h
                  exact fin (by omega) (by omega) neg0 neg1 h
                · rw [if_neg c3, if_neg c4] at h
                  exact fin (by omega) (by omega) neg0 (fun _ _ => Iff.rfl) h
          · rw [if_neg c1] at h
            by_cases c2 : v2 = 0
            · rw [if_pos c2] at h; exact absurd h (by simp)
            · rw [if_neg c2] at h
              by_cases c3 : v2 < 0
              · rw [if_pos c3] at h
                exact fin (by omega) (by omega) (fun _ _ => Iff.rfl) neg1 h
              · rw [if_neg c3] at h
                exact fin (by omega) (by omega) (fun _ _ => Iff.rfl) (fun _ _ => Iff.rfl) h
/-- rows of an ideal of content 1 -/
def smI (a e : Int) (t : Nat) : Int := match t with | 0 => a | 3 => e | 4 => 1 | 8 => 1 | _ => 0
def rwI (r0 r3 r4 : Int) (t : Nat) : Int := match t with | 0 => r0 | 3 => r3 | 4 => r4 | 8 => 1 | _ => 0
theorem rwI_Hm {r0 r3 r4 : Int} (h : 0 < r0 ∧ 0 < r4 ∧ 0 ≤ r3 ∧ r3 < r0) : Hm (rwI r0 r3 r4) := ⟨⟨rfl, rfl, rfl, h.1, h.2.1, by show (0 : Int) < 1; decide⟩, ⟨h.2.2.1, h.2.2.2⟩, ⟨by show (0 : Int) ≤ 0; decide, h.1⟩, by show (0 : Int) ≤ 0; decide, h.2.1⟩
/-- the rows that both make of a product -/
theorem prd_rows {x y a e c d r0 r3 r4 : Int} (h : prdZ x y a e c d = some (r0, r3, r4)) {R : Nat → Int} (hm : Hm R) (hR : ∀ H, Grp H → (In3 H R ↔ (In3 H (smR 2 (a * c)) ∧ ∀ i, i < 2 → ∀ j, j < 2 → H (muv 2 (T2 x y) (rowV (smI a e) i) (rowV (smI c d) j))))) : ∀ t, t < 9 → R t = rwI r0 r3 r4 t := by
  obtain ⟨hp, key⟩ := prdZ_of h
  refine Hm_uniq hm (rwI_Hm hp) (fun H g => ?_)
  rw [hR H g]
  have m00 : muv 2 (T2 x y) (rowV (smI a e) 0) (rowV (smI c d) 0) = (a * c, 0, 0) := by rw [muv2]; exact v3_eq (by show a * c + 0 * 0 * x = a * c; omega) (by show a * 0 + 0 * c + 0 * 0 * y = 0; omega) (by show (0 : Int) * 0 = 0; rfl)
  have m01 : muv 2 (T2 x y) (rowV (smI a e) 0) (rowV (smI c d) 1) = (a * d, a, 0) := by rw [muv2]; exact v3_eq (by show a * d + 0 * 1 * x = a * d; omega) (by show a * 1 + 0 * d + 0 * 1 * y = a; omega) (by show (0 : Int) * 0 = 0; rfl)
  have m10 : muv 2 (T2 x y) (rowV (smI a e) 1) (rowV (smI c d) 0) = (c * e, c, 0) := by rw [muv2]; exact v3_eq (by show e * c + 1 * 0 * x = c * e; rw [Int.mul_comm e c]; omega) (by show e * 0 + 1 * c + 1 * 0 * y = c; omega) (by show (0 : Int) * 0 = 0; rfl)
  have m11 : muv 2 (T2 x y) (rowV (smI a e) 1) (rowV (smI c d) 1) = (e * d + x, e + d + y, 0) := by rw [muv2]; exact v3_eq (by show e * d + 1 * 1 * x = e * d + x; omega) (by show e * 1 + 1 * d + 1 * 1 * y = e + d + y; omega) (by show (0 : Int) * 0 = 0; rfl)
  have pairs : (∀ i, i < 2 → ∀ j, j < 2 → H (muv 2 (T2 x y) (rowV (smI a e) i) (rowV (smI c d) j))) ↔ (H (a * c, 0, 0) ∧ H (a * d, a, 0) ∧ H (c * e, c, 0) ∧ H (e * d + x, e + d + y, 0)) := by
    constructor
    · intro q
      refine ⟨?_, ?_, ?_, ?_⟩
      · rw [← m00]; exact q 0 (by decide) 0 (by decide)
      · rw [← m01]; exact q 0 (by decide) 1 (by decide)
      · rw [← m10]; exact q 1 (by decide) 0 (by decide)
      · rw [← m11]; exact q 1 (by decide) 1 (by decide)
    · rintro ⟨q1, q2, q3, q4⟩ i hi j hj
      have hi' : i = 0 ∨ i = 1 := by omega
      have hj' : j = 0 ∨ j = 1 := by omega
      rcases hi' with rfl | rfl <;> rcases hj' with rfl | rfl
      · rw [m00]; exact q1
      · rw [m01]; exact q2
      · rw [m10]; exact q3
      · rw [m11]; exact q4
  rw [pairs, key H g]
  have eR : In3 H (rwI r0 r3 r4) ↔ (H (r0, 0, 0) ∧ H (r3, r4, 0) ∧ H (0, 0, 1)) := Iff.rfl
  have eS : In3 H (smR 2 (a * c)) ↔ (H (a * c, 0, 0) ∧ H (0, a * c, 0) ∧ H (0, 0, 1)) := Iff.rfl
  rw [eR, eS]
  constructor
  · rintro ⟨⟨_, _, q⟩, p1, p2⟩; exact ⟨p1, p2, q⟩
  · rintro ⟨p1, p2, q⟩
    obtain ⟨g1, g2, g3, g4⟩ := (key H g).mpr ⟨p1, p2⟩
    refine ⟨⟨g1, ?_, q⟩, p1, p2⟩
    have := g.2 _ _ (g.mul g3 a) (g.mul g1 e)
    have e2 : vsu (vmu a (c * e, c, 0)) (vmu e (a * c, 0, 0)) = (0, a * c, 0) := v3_eq (by show a * (c * e) - e * (a * c) = 0; rw [← Int.mul_assoc, Int.mul_comm e]; omega) (by show a * c - e * 0 = a * c; omega) (by show a * 0 - e * 0 = 0; omega)
    rw [e2] at this; exact this
