/-! the product of two ideals of degree 2 by numbers alone -/
theorem gcd_H {H : V3 → Prop} (g : Grp H) (m n : Nat) : (H ((m : Int), 0, 0) ∧ H ((n : Int), 0, 0)) ↔ H (((Nat.gcd m n : Nat) : Int), 0, 0) := by
  refine Nat.gcd.induction (P := fun m n => (H ((m : Int), 0, 0) ∧ H ((n : Int), 0, 0)) ↔ H (((Nat.gcd m n : Nat) : Int), 0, 0)) m n (fun n => ?_) (fun m n h ih => ?_)
  · rw [Nat.gcd_zero_left]; exact ⟨fun z => z.2, fun z => ⟨g.1, z⟩⟩
  · rw [Nat.gcd_rec m n, ← ih]
    have e : (((n % m : Nat) : Nat) : Int) = (n : Int) - (n : Int) / m * m := by
      have := Int.mul_ediv_add_emod (n : Int) m
      rw [Int.natCast_emod, Int.mul_comm]; omega
    rw [e]
    have s := st_H0 g (a := (n : Int)) (x := (m : Int)) (q := (n : Int) / m)
    exact ⟨fun z => (s.mp ⟨z.2, z.1⟩).symm, fun z => (s.mpr z.symm).symm⟩
/-- Euclid's way on the second places, the first ones by what is left at N -/
def egN (N : Nat) : Nat → Nat → Nat → Nat → Nat → Option ((Nat × Nat) × Nat)
  | 0, _, _, _, _ => none
  | f + 1, u, v, u', v' => if v' = 0 then some ((u, v), u') else egN N f u' v' ((u + (N - v / v' * u' % N)) % N) (v % v')
theorem egN_st {N : Nat} (h0 : 0 < N) (u q u' : Nat) : ∃ m : Int, (((u + (N - q * u' % N)) % N : Nat) : Int) = (u : Int) - q * u' + m * N := by
  have h1 := Nat.div_add_mod (q * u') N
  have h2 := Nat.mod_lt (q * u') h0
  have h3 := Nat.div_add_mod (u + (N - q * u' % N)) N
  generalize hw : (u + (N - q * u' % N)) % N = w at *
  generalize hr : q * u' % N = r at *
  generalize q * u' / N = k1 at *
  generalize (u + (N - r)) / N = k2 at *
  have e0 : ((q : Int) * u') = ((q * u' : Nat) : Int) := by push_cast; rfl
  refine ⟨1 + k1 - k2, ?_⟩
  have e1 : ((1 : Int) + k1 - k2) * N = N + ((N * k1 : Nat) : Int) - ((N * k2 : Nat) : Int) := by push_cast; grind
  rw [e0, e1]
  omega
theorem egN_H {H : V3 → Prop} (g : Grp H) {N : Nat} (h0 : 0 < N) (hN : H ((N : Int), 0, 0)) : ∀ (f u v u' v' : Nat) {a b w : Nat}, egN N f u v u' v' = some ((a, b), w) → ((H ((u : Int), (v : Int), 0) ∧ H ((u' : Int), (v' : Int), 0)) ↔ (H ((a : Int), (b : Int), 0) ∧ H ((w : Int), 0, 0))) := by
  intro f
  induction f with
  | zero => intro u v u' v' a b w h; exact absurd h (by simp [egN])
  | succ f ih =>
    intro u v u' v' a b w h
    rw [egN] at h
    by_cases c : v' = 0
    · rw [if_pos c] at h
      have := Option.some.inj h
      obtain ⟨⟨rfl, rfl⟩, rfl⟩ : ((u = a ∧ v = b) ∧ u' = w) := by simpa using this
      subst c
      exact Iff.rfl
    · rw [if_neg c] at h
      rw [← ih u' v' _ _ h]
      obtain ⟨m, hm⟩ := egN_st h0 u (v / v') u'
      have e2 : ((v % v' : Nat) : Int) = (v : Int) - ((v / v' : Nat) : Int) * v' := by
        have h1 := Nat.div_add_mod v v'
        have e3 : ((v / v' : Nat) : Int) * v' = ((v' * (v / v') : Nat) : Int) := by push_cast; rw [Int.mul_comm]
        rw [e3]; omega
      rw [hm, e2]
      generalize ((v / v' : Nat) : Int) = q
      constructor
      · rintro ⟨h1, h2⟩
        refine ⟨h2, ?_⟩
        have := g.add (g.2 _ _ h1 (g.mul h2 q)) (g.mul hN m)
        have e : vad (vsu ((u : Int), (v : Int), 0) (vmu q ((u' : Int), (v' : Int), 0))) (vmu m ((N : Int), 0, 0)) = ((u : Int) - q * u' + m * N, (v : Int) - q * v', 0) := v3_eq rfl (by show (v : Int) - q * v' + m * 0 = (v : Int) - q * v'; omega) (by show (0 : Int) - q * 0 + m * 0 = 0; omega)
        rw [e] at this; exact this
      · rintro ⟨h1, h2⟩
        refine ⟨?_, h1⟩
        have := g.2 _ _ (g.add h2 (g.mul h1 q)) (g.mul hN m)
        have e : vsu (vad ((u : Int) - q * u' + m * N, (v : Int) - q * v', 0) (vmu q ((u' : Int), (v' : Int), 0))) (vmu m ((N : Int), 0, 0)) = ((u : Int), (v : Int), 0) := v3_eq (by show (u : Int) - q * u' + m * N + q * u' - m * N = u; omega) (by show (v : Int) - q * v' + q * v' - m * 0 = v; omega) (by show (0 : Int) + q * 0 - m * 0 = 0; omega)
        rw [e] at this; exact this
/-- rows of the product of (a, e + w) and (c, d + w), w w = x + y w; x2 = x + 200, y2 = y + 20 -/
def prdN (x2 y2 a e c d : Nat) : Option (Nat × Nat × Nat) :=
  match egN (a * c) 60 (a * d % (a * c)) a (c * e % (a * c)) c with
  | none => none
  | some ((u, v), w) => match egN (a * c) 60 ((e * d + x2 + (20 * (a * d) + 200 * (a * c)) - 200) % (a * c)) (e + d + (y2 + 20 * a) - 20) u v with
    | none => none
    | some ((u2, v2), w2) => if v2 = 0 then none else some (Nat.gcd (a * c) (Nat.gcd w w2), u2 % Nat.gcd (a * c) (Nat.gcd w w2), v2)
def prdZ (x y a e c d : Int) : Option (Int × Int × Int) := if 0 < a ∧ 0 < c ∧ 0 ≤ e ∧ 0 ≤ d ∧ -200 ≤ x ∧ -20 ≤ y then (match prdN (x + 200).toNat (y + 20).toNat a.toNat e.toNat c.toNat d.toNat with
  | none => none
  | some (p, q, r) => some ((p : Int), (q : Int), (r : Int))) else none
theorem H_neg {H : V3 → Prop} (g : Grp H) {a b c : Int} : H (a, b, c) ↔ H (-a, -b, -c) := by
  have e : ∀ a b c : Int, vmu (-1) (a, b, c) = (-a, -b, -c) := fun a b c => v3_eq (by show -1 * a = -a; omega) (by show -1 * b = -b; omega) (by show -1 * c = -c; omega)
  constructor
  · intro h; have := g.neg h; rw [e] at this; exact this
  · intro h; have := g.neg h; rw [e, Int.neg_neg, Int.neg_neg, Int.neg_neg] at this; exact this
theorem H_cut {H : V3 → Prop} (g : Grp H) {r u v : Int} : (H (r, 0, 0) ∧ H (u, v, 0)) ↔ (H (r, 0, 0) ∧ H (u % r, v, 0)) := by
  have e := Int.mul_ediv_add_emod u r
  constructor
  · rintro ⟨h1, h2⟩
    refine ⟨h1, ?_⟩
    have := g.2 _ _ h2 (g.mul h1 (u / r))
    have e2 : vsu (u, v, 0) (vmu (u / r) (r, 0, 0)) = (u % r, v, 0) := v3_eq (by show u - u / r * r = u % r; rw [Int.mul_comm]; omega) (by show v - u / r * 0 = v; omega) (by show (0 : Int) - u / r * 0 = 0; omega)
    rw [e2] at this; exact this
  · rintro ⟨h1, h2⟩
    refine ⟨h1, ?_⟩
    have := g.add h2 (g.mul h1 (u / r))
    have e2 : vad (u % r, v, 0) (vmu (u / r) (r, 0, 0)) = (u, v, 0) := v3_eq (by show u % r + u / r * r = u; rw [Int.mul_comm]; omega) (by show v + u / r * 0 = v; omega) (by show (0 : Int) + u / r * 0 = 0; omega)
    rw [e2] at this; exact this
theorem prdZ_of {x y a e c d r0 r3 r4 : Int} (h : prdZ x y a e c d = some (r0, r3, r4)) : (0 < r0 ∧ 0 < r4 ∧ 0 ≤ r3 ∧ r3 < r0) ∧ ∀ H, Grp H → ((H (a * c, 0, 0) ∧ H (a * d, a, 0) ∧ H (c * e, c, 0) ∧ H (e * d + x, e + d + y, 0)) ↔ (H (r0, 0, 0) ∧ H (r3, r4, 0))) := by
  unfold prdZ at h
  by_cases cc : 0 < a ∧ 0 < c ∧ 0 ≤ e ∧ 0 ≤ d ∧ -200 ≤ x ∧ -20 ≤ y
  rotate_left
  · rw [if_neg cc] at h; exact absurd h (by simp)
  rw [if_pos cc] at h
  obtain ⟨a0, c0, e0, d0, x0, y0⟩ := cc
  obtain ⟨A, rfl⟩ := Int.eq_ofNat_of_zero_le (show 0 ≤ a by omega)
  obtain ⟨C, rfl⟩ := Int.eq_ofNat_of_zero_le (show 0 ≤ c by omega)
  obtain ⟨E, rfl⟩ := Int.eq_ofNat_of_zero_le e0
  obtain ⟨B, rfl⟩ := Int.eq_ofNat_of_zero_le d0
  obtain ⟨X, hX⟩ := Int.eq_ofNat_of_zero_le (show 0 ≤ x + 200 by omega)
  obtain ⟨Y, hY⟩ := Int.eq_ofNat_of_zero_le (show 0 ≤ y + 20 by omega)
  rw [hX, hY] at h
  simp only [Int.toNat_natCast] at h
  have hA : 0 < A := by omega
  have hC : 0 < C := by omega
  have h0 : 0 < A * C := Nat.mul_pos hA hC
  unfold prdN at h
  cases h1 : egN (A * C) 60 (A * B % (A * C)) A (C * E % (A * C)) C with
  | none => rw [h1] at h; exact absurd h (by simp)
  | some z1 =>
    obtain ⟨⟨u, v⟩, w⟩ := z1
    rw [h1] at h
    dsimp only at h
    cases h2 : egN (A * C) 60 ((E * B + X + (20 * (A * B) + 200 * (A * C)) - 200) % (A * C)) (E + B + (Y + 20 * A) - 20) u v with
    | none => rw [h2] at h; exact absurd h (by simp)
    | some z2 =>
      obtain ⟨⟨u2, v2⟩, w2⟩ := z2
      rw [h2] at h
      dsimp only at h
      by_cases cv : v2 = 0
      · rw [if_pos cv] at h; exact absurd h (by simp)
      rw [if_neg cv] at h
      dsimp only at h
      generalize hr : Nat.gcd (A * C) (Nat.gcd w w2) = r at h
      have hr0 : 0 < r := by rw [← hr]; exact Nat.gcd_pos_of_pos_left _ h0
      obtain ⟨rfl, rfl, rfl⟩ : (r : Int) = r0 ∧ (u2 : Int) % (r : Int) = r3 ∧ (v2 : Int) = r4 := by simpa using h
      refine ⟨⟨by omega, by omega, Int.emod_nonneg _ (by omega), Int.emod_lt_of_pos _ (by omega)⟩, fun H g => ?_⟩
      have eN : ((A : Int) * C) = ((A * C : Nat) : Int) := by push_cast; rfl
      rw [eN]
      have kg : (H (((A * C : Nat) : Int), 0, 0) ∧ H ((w : Int), 0, 0) ∧ H ((w2 : Int), 0, 0)) ↔ H ((r : Int), 0, 0) := by rw [← hr, ← gcd_H g, ← gcd_H g]
      have cut1 : ∀ (p : Nat) (q : Int), H (((A * C : Nat) : Int), 0, 0) → (H ((p : Int), q, 0) ↔ H (((p % (A * C) : Nat) : Int), q, 0)) := by
        intro p q hN
        have := H_cut g (r := ((A * C : Nat) : Int)) (u := (p : Int)) (v := q)
        rw [Int.natCast_emod]
        exact ⟨fun z => (this.mp ⟨hN, z⟩).2, fun z => (this.mpr ⟨hN, z⟩).2⟩
      have sh : H ((A : Int) * B, (A : Int), 0) → (H ((E : Int) * B + x, (E : Int) + B + y, 0) ↔ H (((E * B + X + (20 * (A * B)) + 200 * (A * C) - 200 : Nat) : Int) - 200 * ((A * C : Nat) : Int), ((E + B + (Y + 20 * A) - 20 : Nat) : Int), 0)) := by
        intro hh
        have f1 : ((E * B + X + (20 * (A * B)) + 200 * (A * C) - 200 : Nat) : Int) - 200 * ((A * C : Nat) : Int) = (E : Int) * B + x + 20 * ((A : Int) * B) := by
          have t1 : ((E : Int) * B) = ((E * B : Nat) : Int) := by push_cast; rfl
          have t2 : ((A : Int) * B) = ((A * B : Nat) : Int) := by push_cast; rfl
          rw [t1, t2]; omega
        have f2 : ((E + B + (Y + 20 * A) - 20 : Nat) : Int) = (E : Int) + B + y + 20 * A := by omega
        rw [f1, f2]
        generalize (E : Int) * B + x = P at *
        generalize (A : Int) * B = Q at *
        generalize (E : Int) + B + y = R at *
        constructor
        · intro z
          have := g.add z (g.mul hh 20)
          have e : vad (P, R, 0) (vmu 20 (Q, (A : Int), 0)) = (P + 20 * Q, R + 20 * A, 0) := v3_eq rfl rfl (by show (0 : Int) + 20 * 0 = 0; omega)
          rw [e] at this; exact this
        · intro z
          have := g.2 _ _ z (g.mul hh 20)
          have e : vsu (P + 20 * Q, R + 20 * (A : Int), 0) (vmu 20 (Q, (A : Int), 0)) = (P, R, 0) := v3_eq (by show P + 20 * Q - 20 * Q = P; omega) (by show R + 20 * (A : Int) - 20 * A = R; omega) (by show (0 : Int) - 20 * 0 = 0; omega)
          rw [e] at this; exact this
      have sh2 : ∀ (p : Nat) (q : Int), H (((A * C : Nat) : Int), 0, 0) → (H ((p : Int) - 200 * ((A * C : Nat) : Int), q, 0) ↔ H ((p : Int), q, 0)) := by
        intro p q hN
        constructor
        · intro z
          have := g.add z (g.mul hN 200)
          have e : vad ((p : Int) - 200 * ((A * C : Nat) : Int), q, 0) (vmu 200 (((A * C : Nat) : Int), 0, 0)) = ((p : Int), q, 0) := v3_eq (by show (p : Int) - 200 * ((A * C : Nat) : Int) + 200 * ((A * C : Nat) : Int) = p; omega) (by show q + 200 * 0 = q; omega) (by show (0 : Int) + 200 * 0 = 0; omega)
          rw [e] at this; exact this
        · intro z
          have := g.2 _ _ z (g.mul hN 200)
          have e : vsu ((p : Int), q, 0) (vmu 200 (((A * C : Nat) : Int), 0, 0)) = ((p : Int) - 200 * ((A * C : Nat) : Int), q, 0) := v3_eq rfl (by show q - 200 * 0 = q; omega) (by show (0 : Int) - 200 * 0 = 0; omega)
          rw [e] at this; exact this
      have eAB : ((A : Int) * B) = ((A * B : Nat) : Int) := by push_cast; rfl
      have eCE : ((C : Int) * E) = ((C * E : Nat) : Int) := by push_cast; rfl
      have e5 : E * B + X + (20 * (A * B)) + 200 * (A * C) - 200 = E * B + X + (20 * (A * B) + 200 * (A * C)) - 200 := by omega
      rw [e5] at sh
      constructor
      · rintro ⟨p1, p2, p3, p4⟩
        have q4 := (cut1 _ _ p1).mp ((sh2 _ _ p1).mp ((sh p2).mp p4))
        rw [eAB] at p2
        rw [eCE] at p3
        obtain ⟨q1, q2⟩ := (egN_H g h0 p1 60 _ _ _ _ h1).mp ⟨(cut1 _ _ p1).mp p2, (cut1 _ _ p1).mp p3⟩
        obtain ⟨q5, q6⟩ := (egN_H g h0 p1 60 _ _ _ _ h2).mp ⟨q4, q1⟩
        exact (H_cut g).mp ⟨kg.mp ⟨p1, q2, q6⟩, q5⟩
      · intro z
        obtain ⟨z1, z2⟩ := (H_cut g).mpr z
        obtain ⟨p1, q2, q6⟩ := kg.mpr z1
        obtain ⟨q4, q1⟩ := (egN_H g h0 p1 60 _ _ _ _ h2).mpr ⟨z2, q6⟩
        obtain ⟨w1, w3⟩ := (egN_H g h0 p1 60 _ _ _ _ h1).mpr ⟨q1, q2⟩
        have p2 := (cut1 _ _ p1).mpr w1
        have p3 := (cut1 _ _ p1).mpr w3
        rw [← eAB] at p2
        rw [← eCE] at p3
        exact ⟨p1, p2, p3, (sh p2).mpr ((sh2 _ _ p1).mpr ((cut1 _ _ p1).mpr q4))⟩
/-- rows of an ideal of content 1 -/
def smI (a e : Int) (t : Nat) : Int := match t with | 0 => a | 3 => e | 4 => 1 | 8 => 1 | _ => 0
def rwI (r0 r3 r4 : Int) (t : Nat) : Int := match t with | 0 => r0 | 3 => r3 | 4 => r4 | 8 => 1 | _ => 0
theorem rwI_Hm {r0 r3 r4 : Int} (h : 0 < r0 ∧ 0 < r4 ∧ 0 ≤ r3 ∧ r3 < r0) : Hm (rwI r0 r3 r4) := ⟨⟨rfl, rfl, rfl, h.1, h.2.1, by show (0 : Int) < 1; decide⟩, ⟨h.2.2.1, h.2.2.2⟩, ⟨by show (0 : Int) ≤ 0; decide, h.1⟩, by show (0 : Int) ≤ 0; decide, h.2.1⟩
/-- the rows that both make of a product -/
theorem prd_rows {x y a e c d r0 r3 r4 : Int} (h : prdZ x y a e c d = some (r0, r3, r4)) {R : Nat → Int} (hm : Hm R) (hR : ∀ H, Grp H → (In3 H R ↔ (In3 H (smR 2 (a * c)) ∧ ∀ i, i < 2 → ∀ j, j < 2 → H (muv 2 (T2 x y) (rowV (smI a e) i) (rowV (smI c d) j))))) : ∀ t, t < 9 → R t = rwI r0 r3 r4 t := by
  obtain ⟨hp, key⟩ := prdZ_of h
  refine Hm_uniq hm (rwI_Hm hp) (fun H g => ?_)
  rw [hR H g]
  have m00 : muv 2 (T2 x y) (rowV (smI a e) 0) (rowV (smI c d) 0) = (a * c, 0, 0) := by rw [muv2]; exact v3_eq (by show a * c + 0 * 0 * x = a * c; omega) (by show a * 0 + 0 * c + 0 * 0 * y = 0; omega) (by show (0 : Int) * 0 = 0; rfl)
  have m01 : muv 2 (T2 x y) (rowV (smI a e) 0) (rowV (smI c d) 1) = (a * d, a, 0) := by rw [muv2]; exact v3_eq (by show a * d + 0 * 1 * x = a * d; omega) (by show a * 1 + 0 * d + 0 * 1 * y = a; omega) (by show (0 : Int) * 0 = 0; rfl)
  have m10 : muv 2 (T2 x y) (rowV (smI a e) 1) (rowV (smI c d) 0) = (c * e, c, 0) := by rw [muv2]; exact v3_eq (by show e * c + 1 * 0 * x = c * e; rw [Int.mul_comm e c]; omega) (by show e * 0 + 1 * c + 1 * 0 * y = c; omega) (by show (0 : Int) * 0 = 0; rfl)
  have m11 : muv 2 (T2 x y) (rowV (smI a e) 1) (rowV (smI c d) 1) = (e * d + x, e + d + y, 0) := by rw [muv2]; exact v3_eq (by show e * d + 1 * 1 * x = e * d + x; omega) (by show e * 1 + 1 * d + 1 * 1 * y = e + d + y; omega) (by show (0 : Int) * 0 = 0; rfl)
  have pairs : (∀ i, i < 2 → ∀ j, j < 2 → H (muv 2 (T2 x y) (rowV (smI a e) i) (rowV (smI c d) j))) ↔ (H (a * c, 0, 0) ∧ H (a * d, a, 0) ∧ H (c * e, c, 0) ∧ H (e * d + x, e + d + y, 0)) := by
    constructor
    · intro q
      refine ⟨?_, ?_, ?_, ?_⟩
      · rw [← m00]; exact q 0 (by decide) 0 (by decide)
      · rw [← m01]; exact q 0 (by decide) 1 (by decide)
      · rw [← m10]; exact q 1 (by decide) 0 (by decide)
      · rw [← m11]; exact q 1 (by decide) 1 (by decide)
    · rintro ⟨q1, q2, q3, q4⟩ i hi j hj
      have hi' : i = 0 ∨ i = 1 := by omega
      have hj' : j = 0 ∨ j = 1 := by omega
      rcases hi' with rfl | rfl <;> rcases hj' with rfl | rfl
      · rw [m00]; exact q1
      · rw [m01]; exact q2
      · rw [m10]; exact q3
      · rw [m11]; exact q4
  rw [pairs, key H g]
  have eR : In3 H (rwI r0 r3 r4) ↔ (H (r0, 0, 0) ∧ H (r3, r4, 0) ∧ H (0, 0, 1)) := Iff.rfl
  have eS : In3 H (smR 2 (a * c)) ↔ (H (a * c, 0, 0) ∧ H (0, a * c, 0) ∧ H (0, 0, 1)) := Iff.rfl
  rw [eR, eS]
  constructor
  · rintro ⟨⟨_, _, q⟩, p1, p2⟩; exact ⟨p1, p2, q⟩
  · rintro ⟨p1, p2, q⟩
    obtain ⟨g1, g2, g3, g4⟩ := (key H g).mpr ⟨p1, p2⟩
    refine ⟨⟨g1, ?_, q⟩, p1, p2⟩
    have := g.2 _ _ (g.mul g3 a) (g.mul g1 e)
    have e2 : vsu (vmu a (c * e, c, 0)) (vmu e (a * c, 0, 0)) = (0, a * c, 0) := v3_eq (by show a * (c * e) - e * (a * c) = 0; rw [← Int.mul_assoc, Int.mul_comm e]; omega) (by show a * c - e * 0 = a * c; omega) (by show a * 0 - e * 0 = 0; omega)
    rw [e2] at this; exact this
