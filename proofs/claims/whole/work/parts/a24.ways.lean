/-! ways to put numbers modulo p for w1, w2 -/
def wy (n : Nat) (T : Nat → Int) (p u v : Int) : Prop := p ∣ (T 12 + T 13 * u + (if n = 2 then 0 else T 14 * v) - u * u) ∧ (n = 3 → p ∣ (T 15 + T 16 * u + T 17 * v - u * v) ∧ p ∣ (T 24 + T 25 * u + T 26 * v - v * v))
def ph (u v : Int) (z : V3) : Int := z.1 + z.2.1 * u + z.2.2 * v
/-- a prime number -/
def Prm (p : Int) : Prop := 2 ≤ p ∧ ∀ a b, p ∣ a * b → p ∣ a ∨ p ∣ b
theorem prm_div : ∀ p : Nat, p < 98 → ipr (p : Int) = true → ∀ d : Nat, d < 98 → p % d = 0 → d = 1 ∨ d = p := by decide +kernel
theorem prm_small {p : Int} (h : p ≤ 97) (hp : ipr p = true) : Prm p := by
  have h2 : 2 ≤ p := by
    unfold ipr at hp
    rw [Bool.and_eq_true, decide_eq_true_eq] at hp
    exact hp.1
  refine ⟨h2, fun a b hab => ?_⟩
  by_cases c : p ∣ a
  · exact Or.inl c
  · refine Or.inr ?_
    have hd := prm_div p.toNat (by omega) (by rw [Int.toNat_of_nonneg (by omega)]; exact hp) (Nat.gcd p.natAbs a.natAbs)
    have g1 : Nat.gcd p.natAbs a.natAbs ∣ p.natAbs := Nat.gcd_dvd_left _ _
    have g2 : Nat.gcd p.natAbs a.natAbs ∣ a.natAbs := Nat.gcd_dvd_right _ _
    have gl : Nat.gcd p.natAbs a.natAbs ≤ p.natAbs := Nat.le_of_dvd (by omega) g1
    have e : p.toNat = p.natAbs := by omega
    rw [e] at hd
    rcases hd (by omega) (Nat.mod_eq_zero_of_dvd g1) with g | g
    · have hc : Nat.Coprime p.natAbs a.natAbs := g
      have h3 : p.natAbs ∣ a.natAbs * b.natAbs := by rw [← Int.natAbs_mul]; exact Int.natAbs_dvd_natAbs.mpr hab
      exact Int.natAbs_dvd_natAbs.mp (hc.dvd_of_dvd_mul_left h3)
    · rw [g] at g2
      exact absurd (Int.natAbs_dvd_natAbs.mp g2) c
theorem Prm.mul {p a b : Int} (h : Prm p) (ha : ¬ p ∣ a) (hb : ¬ p ∣ b) : ¬ p ∣ a * b := fun q => (h.2 a b q).elim ha hb
/-- degree 3: a way goes with products -/
theorem ph_mul {s : Nat → Int} {p u v : Int} (h : wy 3 (T3 s) p u v) (x y : V3) : p ∣ (ph u v (muv 3 (T3 s) x y) - ph u v x * ph u v y) := by
  obtain ⟨a, b⟩ := h
  obtain ⟨b, c⟩ := b rfl
  have a' : p ∣ (s 0 + s 1 * u + s 2 * v - u * u) := a
  have b' : p ∣ (s 3 + s 4 * u + s 5 * v - u * v) := b
  have c' : p ∣ (s 6 + s 7 * u + s 8 * v - v * v) := c
  obtain ⟨x0, x1, x2⟩ := x
  obtain ⟨y0, y1, y2⟩ := y
  have e : ph u v (muv 3 (T3 s) (x0, x1, x2) (y0, y1, y2)) - ph u v (x0, x1, x2) * ph u v (y0, y1, y2) = x1 * y1 * (s 0 + s 1 * u + s 2 * v - u * u) + (x1 * y2 + x2 * y1) * (s 3 + s 4 * u + s 5 * v - u * v) + x2 * y2 * (s 6 + s 7 * u + s 8 * v - v * v) := by
    rw [muv3]; unfold ph; simp only [mu3]; grind
  rw [e]
  exact Int.dvd_add (Int.dvd_add (Int.dvd_mul_of_dvd_right a') (Int.dvd_mul_of_dvd_right b')) (Int.dvd_mul_of_dvd_right c')
/-- two ways are other -/
def oth (p : Int) (a b : Int × Int) : Prop := ¬ (p ∣ (a.1 - b.1) ∧ p ∣ (a.2 - b.2))
theorem sep1 {p : Int} {a b : Int × Int} (h : oth p a b) : ∃ z : V3, p ∣ ph b.1 b.2 z ∧ ¬ p ∣ ph a.1 a.2 z := by
  by_cases c : p ∣ (a.1 - b.1)
  · refine ⟨(-b.2, 0, 1), ?_, fun q => h ⟨c, ?_⟩⟩
    · have e : ph b.1 b.2 (-b.2, 0, 1) = 0 := by unfold ph; dsimp only; omega
      rw [e]; exact Int.dvd_zero _
    · have e : ph a.1 a.2 (-b.2, 0, 1) = a.2 - b.2 := by unfold ph; dsimp only; omega
      rw [e] at q; exact q
  · refine ⟨(-b.1, 1, 0), ?_, fun q => c ?_⟩
    · have e : ph b.1 b.2 (-b.1, 1, 0) = 0 := by unfold ph; dsimp only; omega
      rw [e]; exact Int.dvd_zero _
    · have e : ph a.1 a.2 (-b.1, 1, 0) = a.1 - b.1 := by unfold ph; dsimp only; omega
      rw [e] at q; exact q
theorem ph_zero {s : Nat → Int} {p u v : Int} (h : wy 3 (T3 s) p u v) {x y : V3} (hx : p ∣ ph u v x) : p ∣ ph u v (muv 3 (T3 s) x y) := by
  have := Int.dvd_add (ph_mul h x y) (Int.dvd_mul_of_dvd_left (c := ph u v y) hx)
  rw [Int.sub_add_cancel] at this; exact this
theorem ph_non {s : Nat → Int} {p u v : Int} (hp : Prm p) (h : wy 3 (T3 s) p u v) {x y : V3} (hx : ¬ p ∣ ph u v x) (hy : ¬ p ∣ ph u v y) : ¬ p ∣ ph u v (muv 3 (T3 s) x y) := by
  intro q
  have := Int.dvd_sub q (ph_mul h x y)
  rw [Int.sub_sub_self] at this
  exact hp.mul hx hy this
theorem sep2 {s : Nat → Int} {p : Int} (hp : Prm p) {a b c : Int × Int} (wa : wy 3 (T3 s) p a.1 a.2) (wb : wy 3 (T3 s) p b.1 b.2) (wc : wy 3 (T3 s) p c.1 c.2) (hb : oth p a b) (hc : oth p a c) : ∃ z : V3, p ∣ ph b.1 b.2 z ∧ p ∣ ph c.1 c.2 z ∧ ¬ p ∣ ph a.1 a.2 z := by
  obtain ⟨x, x1, x2⟩ := sep1 hb
  obtain ⟨y, y1, y2⟩ := sep1 hc
  refine ⟨muv 3 (T3 s) x y, ph_zero wb x1, ?_, ph_non hp wa x2 y2⟩
  rw [muv_comm]; exact ph_zero wc y1
theorem sep3 {s : Nat → Int} {p : Int} (hp : Prm p) {a b c d : Int × Int} (wa : wy 3 (T3 s) p a.1 a.2) (wb : wy 3 (T3 s) p b.1 b.2) (wc : wy 3 (T3 s) p c.1 c.2) (wd : wy 3 (T3 s) p d.1 d.2) (hb : oth p a b) (hc : oth p a c) (hd : oth p a d) : ∃ z : V3, p ∣ ph b.1 b.2 z ∧ p ∣ ph c.1 c.2 z ∧ p ∣ ph d.1 d.2 z ∧ ¬ p ∣ ph a.1 a.2 z := by
  obtain ⟨x, x1, x2, x3⟩ := sep2 hp wa wb wc hb hc
  obtain ⟨y, y1, y2⟩ := sep1 hd
  refine ⟨muv 3 (T3 s) x y, ph_zero wb x1, ph_zero wc x2, ?_, ph_non hp wa x3 y2⟩
  rw [muv_comm]; exact ph_zero wd y1
def dt (a b c : Int × Int) : Int := (b.1 - a.1) * (c.2 - a.2) - (c.1 - a.1) * (b.2 - a.2)
theorem oth.symm {p : Int} {a b : Int × Int} (h : oth p a b) : oth p b a := fun q => h ⟨by have := (Int.dvd_neg).mpr q.1; rw [Int.neg_sub] at this; exact this, by have := (Int.dvd_neg).mpr q.2; rw [Int.neg_sub] at this; exact this⟩
/-- three ways that differ are independent -/
theorem dt_three {s : Nat → Int} {p : Int} (hp : Prm p) {a b c : Int × Int} (wa : wy 3 (T3 s) p a.1 a.2) (wb : wy 3 (T3 s) p b.1 b.2) (wc : wy 3 (T3 s) p c.1 c.2) (hab : oth p a b) (hac : oth p a c) (hbc : oth p b c) : ¬ p ∣ dt a b c := by
  intro hd
  obtain ⟨x, x1, x2, x3⟩ := sep2 hp wa wb wc hab hac
  obtain ⟨y, y1, y2, y3⟩ := sep2 hp wb wa wc hab.symm hbc
  have key : ∀ z : V3, p ∣ ((c.1 - b.1) * ph a.1 a.2 z + (a.1 - c.1) * ph b.1 b.2 z + (b.1 - a.1) * ph c.1 c.2 z) := by
    intro z
    have e : (c.1 - b.1) * ph a.1 a.2 z + (a.1 - c.1) * ph b.1 b.2 z + (b.1 - a.1) * ph c.1 c.2 z = z.2.2 * dt a b c := by unfold ph dt; grind
    rw [e]; exact Int.dvd_mul_of_dvd_right hd
  have pick : ∀ {A B C P Q R : Int}, p ∣ (A * P + B * Q + C * R) → p ∣ Q → p ∣ R → ¬ p ∣ P → p ∣ A := by
    intro A B C P Q R h hQ hR hP
    have := Int.dvd_sub (Int.dvd_sub h (Int.dvd_mul_of_dvd_right (b := B) hQ)) (Int.dvd_mul_of_dvd_right (b := C) hR)
    have e : A * P + B * Q + C * R - B * Q - C * R = A * P := by omega
    rw [e] at this
    exact (hp.2 _ _ this).resolve_right hP
  have u1 : p ∣ (c.1 - b.1) := pick (key x) x1 x2 x3
  have u2 : p ∣ (a.1 - c.1) := by
    have k := key y
    have e : (c.1 - b.1) * ph a.1 a.2 y + (a.1 - c.1) * ph b.1 b.2 y + (b.1 - a.1) * ph c.1 c.2 y = (a.1 - c.1) * ph b.1 b.2 y + (c.1 - b.1) * ph a.1 a.2 y + (b.1 - a.1) * ph c.1 c.2 y := by omega
    rw [e] at k
    exact pick k y1 y2 y3
  have key2 : ∀ z : V3, p ∣ ((c.2 - b.2) * ph a.1 a.2 z + (a.2 - c.2) * ph b.1 b.2 z + (b.2 - a.2) * ph c.1 c.2 z) := by
    intro z
    have e : (c.2 - b.2) * ph a.1 a.2 z + (a.2 - c.2) * ph b.1 b.2 z + (b.2 - a.2) * ph c.1 c.2 z = z.2.1 * (-(a.2 - c.2) * (c.1 - b.1) + (c.2 - b.2) * (a.1 - c.1)) := by unfold ph; grind
    rw [e]
    exact Int.dvd_mul_of_dvd_right (Int.dvd_add (Int.dvd_mul_of_dvd_right u1) (Int.dvd_mul_of_dvd_right u2))
  have v1 : p ∣ (c.2 - b.2) := pick (key2 x) x1 x2 x3
  exact hbc ⟨by have := (Int.dvd_neg).mpr u1; rw [Int.neg_sub] at this; exact this, by have := (Int.dvd_neg).mpr v1; rw [Int.neg_sub] at this; exact this⟩
/-- there are no four ways -/
theorem no_four {s : Nat → Int} {p : Int} (hp : Prm p) {a b c d : Int × Int} (wa : wy 3 (T3 s) p a.1 a.2) (wb : wy 3 (T3 s) p b.1 b.2) (wc : wy 3 (T3 s) p c.1 c.2) (wd : wy 3 (T3 s) p d.1 d.2) (hab : oth p a b) (hac : oth p a c) (had : oth p a d) (hbc : oth p b c) (hbd : oth p b d) (hcd : oth p c d) : False := by
  obtain ⟨z, z1, z2, z3, z4⟩ := sep3 hp wa wb wc wd hab hac had
  have e : dt b c d * ph a.1 a.2 z = dt a c d * ph b.1 b.2 z - dt a b d * ph c.1 c.2 z + dt a b c * ph d.1 d.2 z := by unfold dt ph; grind
  have h1 : p ∣ dt b c d * ph a.1 a.2 z := by
    rw [e]
    exact Int.dvd_add (Int.dvd_sub (Int.dvd_mul_of_dvd_right z1) (Int.dvd_mul_of_dvd_right z2)) (Int.dvd_mul_of_dvd_right z3)
  exact hp.mul (dt_three hp wb wc wd hbc hbd hcd) z4 h1
/-- degree 2: there are no three -/
theorem no_three {T : Nat → Int} {p : Int} (hp : Prm p) {a b c v : Int} (wa : wy 2 T p a v) (wb : wy 2 T p b v) (wc : wy 2 T p c v) (hab : ¬ p ∣ (a - b)) (hac : ¬ p ∣ (a - c)) (hbc : ¬ p ∣ (b - c)) : False := by
  have q : ∀ {x y : Int}, wy 2 T p x v → wy 2 T p y v → ¬ p ∣ (x - y) → p ∣ (T 13 - x - y) := by
    intro x y hx hy hn
    have h1 : p ∣ (T 12 + T 13 * x + 0 - x * x) := hx.1
    have h2 : p ∣ (T 12 + T 13 * y + 0 - y * y) := hy.1
    have := Int.dvd_sub h1 h2
    have e : T 12 + T 13 * x + 0 - x * x - (T 12 + T 13 * y + 0 - y * y) = (x - y) * (T 13 - x - y) := by grind
    rw [e] at this
    exact (hp.2 _ _ this).resolve_left hn
  have := Int.dvd_sub (q wa wc hac) (q wa wb hab)
  have e : T 13 - a - c - (T 13 - a - b) = b - c := by omega
  rw [e] at this
  exact hbc this
theorem oth_of {p : Int} {a b : Int × Int} (ha : (0 ≤ a.1 ∧ a.1 < p) ∧ 0 ≤ a.2 ∧ a.2 < p) (hb : (0 ≤ b.1 ∧ b.1 < p) ∧ 0 ≤ b.2 ∧ b.2 < p) (h : a ≠ b) : oth p (-a.1, -a.2) (-b.1, -b.2) := by
  rintro ⟨h1, h2⟩
  dsimp only at h1 h2
  have z : ∀ {x y : Int}, 0 ≤ x → x < p → 0 ≤ y → y < p → p ∣ (-x - -y) → x = y := by
    intro x y a1 a2 b1 b2 hd
    obtain ⟨k, e⟩ := hd
    exact (eq_of_rest (i := k) (b := p) b1 b2 a1 a2 (by rw [Int.mul_comm]; omega)).symm
  exact h (Prod.ext (z ha.1.1 ha.1.2 hb.1.1 hb.1.2 h1) (z ha.2.1 ha.2.2 hb.2.1 hb.2.2 h2))
/-- a list of ways that differ is short -/
theorem ways_len {n : Nat} {T : Nat → Int} (rr : Rg n T) {p : Int} (hp : Prm p) {L : List (Int × Int)} (hd : L.Pairwise (· ≠ ·)) (hw : ∀ x ∈ L, ((0 ≤ x.1 ∧ x.1 < p) ∧ 0 ≤ x.2 ∧ x.2 < p) ∧ (n = 2 → x.2 = 0) ∧ wy n T p (-x.1) (-x.2)) : L.length ≤ n := by
  rcases rr with ⟨rfl, p', q', rfl, _, _⟩ | ⟨rfl, s, rfl, _, _⟩
  · match L, hd, hw with
    | [], _, _ => decide
    | [_], _, _ => simp
    | [_, _], _, _ => simp
    | a :: b :: c :: L, hd, hw =>
      exfalso
      have ha := hw a (by simp)
      have hb := hw b (by simp)
      have hc := hw c (by simp)
      simp only [List.pairwise_cons, List.mem_cons] at hd
      have ab := oth_of ha.1 hb.1 (hd.1 b (Or.inl rfl))
      have ac := oth_of ha.1 hc.1 (hd.1 c (Or.inr (Or.inl rfl)))
      have bc := oth_of hb.1 hc.1 (hd.2.1 c (Or.inl rfl))
      have z2 := ha.2.1 rfl
      have w2 := hb.2.1 rfl
      have y2 := hc.2.1 rfl
      have wa := ha.2.2
      have wb := hb.2.2
      have wc := hc.2.2
      rw [z2] at wa ab ac
      rw [w2] at wb ab bc
      rw [y2] at wc ac bc
      exact no_three hp wa wb wc (fun q => ab ⟨q, by simp⟩) (fun q => ac ⟨q, by simp⟩) (fun q => bc ⟨q, by simp⟩)
  · match L, hd, hw with
    | [], _, _ => decide
    | [_], _, _ => simp
    | [_, _], _, _ => simp
    | [_, _, _], _, _ => simp
    | a :: b :: c :: d :: L, hd, hw =>
      exfalso
      have ha := hw a (by simp)
      have hb := hw b (by simp)
      have hc := hw c (by simp)
      have hdd := hw d (by simp)
      simp only [List.pairwise_cons, List.mem_cons] at hd
      exact no_four hp (a := (-a.1, -a.2)) (b := (-b.1, -b.2)) (c := (-c.1, -c.2)) (d := (-d.1, -d.2)) ha.2.2 hb.2.2 hc.2.2 hdd.2.2 (oth_of ha.1 hb.1 (hd.1 b (Or.inl rfl))) (oth_of ha.1 hc.1 (hd.1 c (Or.inr (Or.inl rfl)))) (oth_of ha.1 hdd.1 (hd.1 d (Or.inr (Or.inr (Or.inl rfl))))) (oth_of hb.1 hc.1 (hd.2.1 c (Or.inl rfl))) (oth_of hb.1 hdd.1 (hd.2.1 d (Or.inr (Or.inl rfl)))) (oth_of hc.1 hdd.1 (hd.2.2.1 d (Or.inl rfl)))
/-- a way's number for w1 is a root of w1's polynomial -/
theorem wy_char {s : Nat → Int} {p u v : Int} (h : wy 3 (T3 s) p u v) : p ∣ (((u - (s 1 + s 5)) * u + (s 1 * s 5 - s 2 * s 4 - s 0)) * u - (s 2 * s 3 - s 0 * s 5)) := by
  obtain ⟨a, b⟩ := h
  obtain ⟨b, _⟩ := b rfl
  have a' : p ∣ (s 0 + s 1 * u + s 2 * v - u * u) := a
  have b' : p ∣ (s 3 + s 4 * u + s 5 * v - u * v) := b
  have e : ((u - (s 1 + s 5)) * u + (s 1 * s 5 - s 2 * s 4 - s 0)) * u - (s 2 * s 3 - s 0 * s 5) = (s 5 - u) * (s 0 + s 1 * u + s 2 * v - u * u) + -s 2 * (s 3 + s 4 * u + s 5 * v - u * v) := by grind
  rw [e]
  exact Int.dvd_add (Int.dvd_mul_of_dvd_right a') (Int.dvd_mul_of_dvd_right b')
/-- a way depends on the residues alone -/
theorem wy_mod {n : Nat} {T : Nat → Int} {p u v u' v' : Int} (hu : p ∣ (u - u')) (hv : p ∣ (v - v')) : wy n T p u v ↔ wy n T p u' v' := by
  have one : ∀ {u v u' v' : Int}, p ∣ (u - u') → p ∣ (v - v') → wy n T p u v → wy n T p u' v' := by
    intro u v u' v' hu hv ⟨a, b⟩
    have lin : ∀ {x y : Int}, p ∣ x → x - y = x - y → p ∣ (x - y) → p ∣ y := by
      intro x y hx _ hxy
      have := Int.dvd_sub hx hxy
      rw [Int.sub_sub_self] at this; exact this
    refine ⟨?_, fun h3 => ?_⟩
    · refine lin a rfl ?_
      by_cases h : n = 2
      · rw [if_pos h, if_pos h]
        have e : T 12 + T 13 * u + 0 - u * u - (T 12 + T 13 * u' + 0 - u' * u') = (T 13 - u - u') * (u - u') := by grind
        rw [e]; exact Int.dvd_mul_of_dvd_right hu
      · rw [if_neg h, if_neg h]
        have e : T 12 + T 13 * u + T 14 * v - u * u - (T 12 + T 13 * u' + T 14 * v' - u' * u') = (T 13 - u - u') * (u - u') + T 14 * (v - v') := by grind
        rw [e]; exact Int.dvd_add (Int.dvd_mul_of_dvd_right hu) (Int.dvd_mul_of_dvd_right hv)
    · obtain ⟨b, c⟩ := b h3
      refine ⟨lin b rfl ?_, lin c rfl ?_⟩
      · have e : T 15 + T 16 * u + T 17 * v - u * v - (T 15 + T 16 * u' + T 17 * v' - u' * v') = (T 16 - v) * (u - u') + (T 17 - u') * (v - v') := by grind
        rw [e]; exact Int.dvd_add (Int.dvd_mul_of_dvd_right hu) (Int.dvd_mul_of_dvd_right hv)
      · have e : T 24 + T 25 * u + T 26 * v - v * v - (T 24 + T 25 * u' + T 26 * v' - v' * v') = T 25 * (u - u') + (T 26 - v - v') * (v - v') := by grind
        rw [e]; exact Int.dvd_add (Int.dvd_mul_of_dvd_right hu) (Int.dvd_mul_of_dvd_right hv)
  have neg : ∀ {x y : Int}, p ∣ (x - y) → p ∣ (y - x) := fun h => by have := (Int.dvd_neg).mpr h; rw [Int.neg_sub] at this; exact this
  exact ⟨one hu hv, one (neg hu) (neg hv)⟩
