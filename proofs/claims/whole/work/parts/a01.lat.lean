/-! lattices of numbers by coordinates, by the groups that hold their rows -/
def vad (x y : V3) : V3 := (x.1 + y.1, x.2.1 + y.2.1, x.2.2 + y.2.2)
def vsu (x y : V3) : V3 := (x.1 - y.1, x.2.1 - y.2.1, x.2.2 - y.2.2)
def vmu (k : Int) (x : V3) : V3 := (k * x.1, k * x.2.1, k * x.2.2)
def Grp (H : V3 → Prop) : Prop := H (0, 0, 0) ∧ ∀ x y, H x → H y → H (vsu x y)
theorem v3_eq {a b c a' b' c' : Int} (h0 : a = a') (h1 : b = b') (h2 : c = c') : ((a, b, c) : V3) = (a', b', c') := by rw [h0, h1, h2]
theorem v3_ext {x y : V3} (h0 : x.1 = y.1) (h1 : x.2.1 = y.2.1) (h2 : x.2.2 = y.2.2) : x = y := Prod.ext h0 (Prod.ext h1 h2)
theorem Grp.neg {H : V3 → Prop} (g : Grp H) {x : V3} (h : H x) : H (vmu (-1) x) := by
  have := g.2 (0, 0, 0) x g.1 h
  have e : vsu (0, 0, 0) x = vmu (-1) x := v3_eq (by dsimp only; omega) (by dsimp only; omega) (by dsimp only; omega)
  rw [e] at this; exact this
theorem Grp.add {H : V3 → Prop} (g : Grp H) {x y : V3} (h : H x) (h2 : H y) : H (vad x y) := by
  have := g.2 x (vmu (-1) y) h (g.neg h2)
  have e : vsu x (vmu (-1) y) = vad x y := v3_eq (by show x.1 - -1 * y.1 = _; omega) (by show x.2.1 - -1 * y.2.1 = _; omega) (by show x.2.2 - -1 * y.2.2 = _; omega)
  rw [e] at this; exact this
theorem Grp.nat {H : V3 → Prop} (g : Grp H) {x : V3} (h : H x) (n : Nat) : H (vmu (n : Int) x) := by
  induction n with
  | zero =>
    have e : vmu ((0 : Nat) : Int) x = (0, 0, 0) := v3_eq (by simp) (by simp) (by simp)
    rw [e]; exact g.1
  | succ n ih =>
    have := g.add ih h
    have e : vad (vmu (n : Int) x) x = vmu ((n + 1 : Nat) : Int) x := v3_eq (by show (n : Int) * x.1 + x.1 = ((n + 1 : Nat) : Int) * x.1; rw [Int.natCast_succ, Int.add_mul, Int.one_mul]) (by show (n : Int) * x.2.1 + x.2.1 = ((n + 1 : Nat) : Int) * x.2.1; rw [Int.natCast_succ, Int.add_mul, Int.one_mul]) (by show (n : Int) * x.2.2 + x.2.2 = ((n + 1 : Nat) : Int) * x.2.2; rw [Int.natCast_succ, Int.add_mul, Int.one_mul])
    rw [e] at this; exact this
theorem Grp.mul {H : V3 → Prop} (g : Grp H) {x : V3} (h : H x) (k : Int) : H (vmu k x) := by
  obtain ⟨n, e | e⟩ := Int.eq_nat_or_neg k
  · rw [e]; exact g.nat h n
  · have := g.neg (g.nat h n)
    have e2 : vmu (-1) (vmu (n : Int) x) = vmu k x := v3_eq (by show -1 * ((n : Int) * x.1) = k * x.1; rw [e]; grind) (by show -1 * ((n : Int) * x.2.1) = k * x.2.1; rw [e]; grind) (by show -1 * ((n : Int) * x.2.2) = k * x.2.2; rw [e]; grind)
    rw [e2] at this; exact this
/-- a sum of multiples -/
theorem Grp.co {H : V3 → Prop} (g : Grp H) {x y z w : V3} (k l m : Int) (hx : H x) (hy : H y) (hz : H z) (hw : H w) {v : V3} (h0 : v.1 = x.1 + k * y.1 + l * z.1 + m * w.1) (h1 : v.2.1 = x.2.1 + k * y.2.1 + l * z.2.1 + m * w.2.1) (h2 : v.2.2 = x.2.2 + k * y.2.2 + l * z.2.2 + m * w.2.2) : H v := by
  have := g.add (g.add (g.add hx (g.mul hy k)) (g.mul hz l)) (g.mul hw m)
  have e : vad (vad (vad x (vmu k y)) (vmu l z)) (vmu m w) = v := v3_ext h0.symm h1.symm h2.symm
  rw [e] at this; exact this
def In3 (H : V3 → Prop) (R : Nat → Int) : Prop := H (R 0, 0, 0) ∧ H (R 3, R 4, 0) ∧ H (R 6, R 7, R 8)
def Sp (R : Nat → Int) (v : V3) : Prop := ∃ i j k : Int, v.1 = i * R 0 + j * R 3 + k * R 6 ∧ v.2.1 = j * R 4 + k * R 7 ∧ v.2.2 = k * R 8
theorem Sp_grp (R : Nat → Int) : Grp (Sp R) := by
  refine ⟨⟨0, 0, 0, by simp, by simp, by simp⟩, ?_⟩
  rintro x y ⟨i, j, k, a0, a1, a2⟩ ⟨i', j', k', b0, b1, b2⟩
  refine ⟨i - i', j - j', k - k', ?_, ?_, ?_⟩
  · show x.1 - y.1 = _; rw [a0, b0]; grind
  · show x.2.1 - y.2.1 = _; rw [a1, b1]; grind
  · show x.2.2 - y.2.2 = _; rw [a2, b2]; grind
theorem Sp_in (R : Nat → Int) : In3 (Sp R) R := ⟨⟨1, 0, 0, by simp, by simp, by simp⟩, ⟨0, 1, 0, by simp, by simp, by simp⟩, ⟨0, 0, 1, by simp, by simp, by simp⟩⟩
theorem In3.sp {H : V3 → Prop} (g : Grp H) {R : Nat → Int} (h : In3 H R) {v : V3} (s : Sp R v) : H v := by
  obtain ⟨i, j, k, a0, a1, a2⟩ := s
  exact g.co i j k g.1 h.1 h.2.1 h.2.2 (by rw [a0]; dsimp only; omega) (by rw [a1]; dsimp only; omega) (by rw [a2]; dsimp only; omega)
/-- row i has 0 behind place i, above 0 at place i -/
def Tri (R : Nat → Int) : Prop := R 1 = 0 ∧ R 2 = 0 ∧ R 5 = 0 ∧ 0 < R 0 ∧ 0 < R 4 ∧ 0 < R 8
def Hm (R : Nat → Int) : Prop := Tri R ∧ (0 ≤ R 3 ∧ R 3 < R 0) ∧ (0 ≤ R 6 ∧ R 6 < R 0) ∧ 0 ≤ R 7 ∧ R 7 < R 4
/-- two lattices are alike -/
def Alike (R R' : Nat → Int) : Prop := ∀ H, Grp H → (In3 H R ↔ In3 H R')
theorem Alike.sp {R R' : Nat → Int} (h : Alike R R') (v : V3) : Sp R v ↔ Sp R' v := ⟨fun s => In3.sp (Sp_grp R') ((h _ (Sp_grp R')).mpr (Sp_in R')) s, fun s => In3.sp (Sp_grp R) ((h _ (Sp_grp R)).mp (Sp_in R)) s⟩
theorem alike_of_sp {R R' : Nat → Int} (h : ∀ v, Sp R v ↔ Sp R' v) : Alike R R' := by
  intro H g
  constructor
  · intro i
    exact ⟨In3.sp g i ((h _).mpr (Sp_in R').1), In3.sp g i ((h _).mpr (Sp_in R').2.1), In3.sp g i ((h _).mpr (Sp_in R').2.2)⟩
  · intro i
    exact ⟨In3.sp g i ((h _).mp (Sp_in R).1), In3.sp g i ((h _).mp (Sp_in R).2.1), In3.sp g i ((h _).mp (Sp_in R).2.2)⟩
theorem mul_zero_pos {k a : Int} (h : 0 < a) (e : k * a = 0) : k = 0 := by
  rcases Int.mul_eq_zero.mp e with h1 | h1
  · exact h1
  · omega
theorem eq_of_mul {a b i j : Int} (ha : 0 < a) (hb : 0 < b) (h1 : a = i * b) (h2 : b = j * a) : a = b ∧ i = 1 := by
  have e : a = b := Int.dvd_antisymm (by omega) (by omega) ⟨j, by rw [h2, Int.mul_comm]⟩ ⟨i, by rw [h1, Int.mul_comm]⟩
  refine ⟨e, ?_⟩
  subst e
  have : (i - 1) * a = 0 := by rw [Int.sub_mul, Int.one_mul]; omega
  have := mul_zero_pos ha this
  omega
theorem eq_of_rest {x y i b : Int} (hx : 0 ≤ x) (hx2 : x < b) (hy : 0 ≤ y) (hy2 : y < b) (h : x = i * b + y) : x = y := by
  have e1 : x % b = x := Int.emod_eq_of_lt hx hx2
  have e2 : y % b = y := Int.emod_eq_of_lt hy hy2
  have e3 : (i * b + y) % b = y % b := by rw [Int.add_comm, Int.add_mul_emod_self_right]
  rw [← h, e1, e2] at e3; exact e3
theorem rest_zero {x y i b : Int} (hx : 0 ≤ x) (hx2 : x < b) (hy : 0 ≤ y) (hy2 : y < b) (h : x = i * b + y) : i = 0 := by
  have e := eq_of_rest hx hx2 hy hy2 h
  exact mul_zero_pos (a := b) (by omega) (by omega)
/-- a lattice has just one Hermite's form -/
theorem Hm_uniq {R R' : Nat → Int} (h : Hm R) (h' : Hm R') (a : Alike R R') : ∀ t, t < 9 → R t = R' t := by
  obtain ⟨⟨z1, z2, z5, p0, p4, p8⟩, ⟨l3, u3⟩, ⟨l6, u6⟩, l7, u7⟩ := h
  obtain ⟨⟨z1', z2', z5', p0', p4', p8'⟩, ⟨l3', u3'⟩, ⟨l6', u6'⟩, l7', u7'⟩ := h'
  obtain ⟨⟨i0, j0, k0, a0, b0, c0⟩, ⟨i1, j1, k1, a1, b1, c1⟩, ⟨i2, j2, k2, a2, b2, c2⟩⟩ := (a _ (Sp_grp R')).mpr (Sp_in R')
  obtain ⟨⟨i0', j0', k0', a0', b0', c0'⟩, ⟨i1', j1', k1', a1', b1', c1'⟩, ⟨i2', j2', k2', a2', b2', c2'⟩⟩ := (a _ (Sp_grp R)).mp (Sp_in R)
  dsimp only at a0 b0 c0 a1 b1 c1 a2 b2 c2 a0' b0' c0' a1' b1' c1' a2' b2' c2'
  obtain rfl := mul_zero_pos p8' c0.symm
  obtain rfl := mul_zero_pos p8' c1.symm
  obtain rfl := mul_zero_pos p8 c0'.symm
  obtain rfl := mul_zero_pos p8 c1'.symm
  obtain rfl := mul_zero_pos p4' (show j0 * R' 4 = 0 by omega)
  obtain rfl := mul_zero_pos p4 (show j0' * R 4 = 0 by omega)
  have e0 := (eq_of_mul p0 p0' (i := i0) (j := i0') (by omega) (by omega)).1
  obtain ⟨e4, rfl⟩ := eq_of_mul p4 p4' (i := j1) (j := j1') (by omega) (by omega)
  obtain ⟨e8, rfl⟩ := eq_of_mul p8 p8' (i := k2) (j := k2') (by omega) (by omega)
  have e3 : R 3 = R' 3 := eq_of_rest (i := i1) (b := R' 0) l3 (by omega) l3' u3' (by omega)
  have q7 : j2 = 0 := rest_zero (i := j2) (b := R' 4) l7 (by omega) l7' u7' (by omega)
  have e7 : R 7 = R' 7 := eq_of_rest (i := j2) (b := R' 4) l7 (by omega) l7' u7' (by omega)
  subst q7
  have e6 : R 6 = R' 6 := eq_of_rest (i := i2) (b := R' 0) l6 (by omega) l6' u6' (by omega)
  intro t ht
  have : t = 0 ∨ t = 1 ∨ t = 2 ∨ t = 3 ∨ t = 4 ∨ t = 5 ∨ t = 6 ∨ t = 7 ∨ t = 8 := by omega
  rcases this with rfl | rfl | rfl | rfl | rfl | rfl | rfl | rfl | rfl <;> omega
/-- the lattice has all multiples of W -/
def WL (R : Nat → Int) (W : Int) : Prop := Sp R (W, 0, 0) ∧ Sp R (0, W, 0) ∧ Sp R (0, 0, W)
theorem WL_of {R : Nat → Int} {W : Int} (h : ∀ H, Grp H → In3 H R → H (W, 0, 0) ∧ H (0, W, 0) ∧ H (0, 0, W)) : WL R W := h _ (Sp_grp R) (Sp_in R)
theorem WL.w0 {R : Nat → Int} {W : Int} (h : WL R W) (t : Tri R) : ∃ i, W = i * R 0 := by
  obtain ⟨⟨i, j, k, a, b, c⟩, _⟩ := h
  dsimp only at a b c
  obtain rfl := mul_zero_pos t.2.2.2.2.2 c.symm
  obtain rfl := mul_zero_pos t.2.2.2.2.1 (show j * R 4 = 0 by omega)
  exact ⟨i, by omega⟩
theorem WL.w1 {R : Nat → Int} {W : Int} (h : WL R W) (t : Tri R) : ∃ i j, 0 = i * R 0 + j * R 3 ∧ W = j * R 4 := by
  obtain ⟨_, ⟨i, j, k, a, b, c⟩, _⟩ := h
  dsimp only at a b c
  obtain rfl := mul_zero_pos t.2.2.2.2.2 c.symm
  exact ⟨i, j, by omega, by omega⟩
theorem WL.h0 {R : Nat → Int} {W : Int} (h : WL R W) (t : Tri R) {H : V3 → Prop} (g : Grp H) (r : H (R 0, 0, 0)) : H (W, 0, 0) := by
  obtain ⟨i, e⟩ := h.w0 t
  exact g.co i 0 0 g.1 r g.1 g.1 (by dsimp only; omega) (by dsimp only; omega) (by dsimp only; omega)
theorem WL.h1 {R : Nat → Int} {W : Int} (h : WL R W) (t : Tri R) {H : V3 → Prop} (g : Grp H) (r : H (R 0, 0, 0)) (r2 : H (R 3, R 4, 0)) : H (0, W, 0) := by
  obtain ⟨i, j, e, e2⟩ := h.w1 t
  exact g.co i j 0 g.1 r r2 g.1 (by dsimp only; omega) (by dsimp only; omega) (by dsimp only; omega)
theorem WL.all {R : Nat → Int} {W : Int} (h : WL R W) {H : V3 → Prop} (g : Grp H) (i : In3 H R) : H (W, 0, 0) ∧ H (0, W, 0) ∧ H (0, 0, W) := ⟨i.sp g h.1, i.sp g h.2.1, i.sp g h.2.2⟩
/-- Euclid's way from x and y is through in f steps -/
def eu : Nat → Int → Int → Prop
  | 0, _, y => y = 0
  | f + 1, x, y => y = 0 ∨ eu f y (x % y)
theorem eu_of : ∀ (k : Nat) (x y : Int), 0 ≤ y → y < 2 ^ k → eu (2 * k) x y := by
  intro k
  induction k with
  | zero => intro x y h h2; show y = 0; simp at h2; omega
  | succ k ih =>
    intro x y h h2
    show y = 0 ∨ (x % y = 0 ∨ eu (2 * k) (x % y) (y % (x % y)))
    by_cases c : y = 0
    · exact Or.inl c
    · refine Or.inr ?_
      by_cases c2 : x % y = 0
      · exact Or.inl c2
      · refine Or.inr ?_
        have r0 := Int.emod_nonneg x c
        have r1 := Int.emod_lt_of_pos x (show 0 < y by omega)
        generalize x % y = r at *
        have s0 := Int.emod_nonneg y c2
        have s1 := Int.emod_lt_of_pos y (show 0 < r by omega)
        refine ih r _ s0 ?_
        have e := Int.mul_ediv_add_emod y r
        have q1 : 1 ≤ y / r := Int.le_ediv_of_mul_le (by omega) (by omega)
        have m1 : r * 1 ≤ r * (y / r) := Int.mul_le_mul_of_nonneg_left q1 (by omega)
        have p2 : (2 : Int) ^ (k + 1) = 2 ^ k * 2 := Int.pow_succ 2 k
        omega
theorem eu_mono : ∀ {f g : Nat} {x y : Int}, eu f x y → f ≤ g → eu g x y := by
  intro f
  induction f with
  | zero =>
    intro g x y h _
    cases g with
    | zero => exact h
    | succ g => exact Or.inl h
  | succ f ih =>
    intro g x y h hg
    cases g with
    | zero => omega
    | succ g =>
      rcases h with h | h
      · exact Or.inl h
      · exact Or.inr (ih h (by omega))
theorem eu40 {x y : Int} (h : 0 ≤ y) (h2 : y ≤ 1000000) : eu 40 x y := eu_of 20 x y h (by omega)
/-! one step of Euclid's way between two rows, cut down by W -/
theorem st_H2 {H : V3 → Prop} (g : Grp H) {W a b c x y z q : Int} (w0 : H (W, 0, 0)) (w1 : H (0, W, 0)) : (H (a, b, c) ∧ H (x, y, z)) ↔ (H (x, y, z) ∧ H ((a - q * x) % W, (b - q * y) % W, c - q * z)) := by
  have e0 := Int.mul_ediv_add_emod (a - q * x) W
  have e1 := Int.mul_ediv_add_emod (b - q * y) W
  have m0 := Int.mul_comm W ((a - q * x) / W)
  have m1 := Int.mul_comm W ((b - q * y) / W)
  constructor
  · rintro ⟨h1, h2⟩
    refine ⟨h2, g.co (-q) (-((a - q * x) / W)) (-((b - q * y) / W)) h1 h2 w0 w1 ?_ ?_ ?_⟩ <;> dsimp only <;> simp only [Int.neg_mul, Int.mul_zero] <;> omega
  · rintro ⟨h1, h2⟩
    refine ⟨g.co q ((a - q * x) / W) ((b - q * y) / W) h2 h1 w0 w1 ?_ ?_ ?_, h1⟩ <;> dsimp only <;> simp only [Int.mul_zero] <;> omega
theorem st_H1 {H : V3 → Prop} (g : Grp H) {W a b x y q : Int} (w0 : H (W, 0, 0)) : (H (a, b, 0) ∧ H (x, y, 0)) ↔ (H (x, y, 0) ∧ H ((a - q * x) % W, b - q * y, 0)) := by
  have e0 := Int.mul_ediv_add_emod (a - q * x) W
  have m0 := Int.mul_comm W ((a - q * x) / W)
  constructor
  · rintro ⟨h1, h2⟩
    refine ⟨h2, g.co (-q) (-((a - q * x) / W)) 0 h1 h2 w0 g.1 ?_ ?_ ?_⟩ <;> dsimp only <;> simp only [Int.neg_mul, Int.mul_zero] <;> omega
  · rintro ⟨h1, h2⟩
    refine ⟨g.co q ((a - q * x) / W) 0 h2 h1 w0 g.1 ?_ ?_ ?_, h1⟩ <;> dsimp only <;> simp only [Int.mul_zero] <;> omega
theorem st_H0 {H : V3 → Prop} (g : Grp H) {a x q : Int} : (H (a, 0, 0) ∧ H (x, 0, 0)) ↔ (H (x, 0, 0) ∧ H (a - q * x, 0, 0)) := by
  constructor
  · rintro ⟨h1, h2⟩
    refine ⟨h2, g.co (-q) 0 0 h1 h2 g.1 g.1 ?_ ?_ ?_⟩ <;> dsimp only <;> simp only [Int.neg_mul, Int.mul_zero] <;> omega
  · rintro ⟨h1, h2⟩
    refine ⟨g.co q 0 0 h2 h1 g.1 g.1 ?_ ?_ ?_, h1⟩ <;> dsimp only <;> simp only [Int.mul_zero] <;> omega
/-- a number cut down by W -/
theorem cut_H {H : V3 → Prop} (g : Grp H) {W x y z : Int} (w : H (W, 0, 0) ∧ H (0, W, 0) ∧ H (0, 0, W)) : H (x, y, z) ↔ H (x % W, y % W, z % W) := by
  have e0 := Int.mul_ediv_add_emod x W
  have e1 := Int.mul_ediv_add_emod y W
  have e2 := Int.mul_ediv_add_emod z W
  have m0 := Int.mul_comm W (x / W)
  have m1 := Int.mul_comm W (y / W)
  have m2 := Int.mul_comm W (z / W)
  constructor
  · intro h
    refine g.co (-(x / W)) (-(y / W)) (-(z / W)) h w.1 w.2.1 w.2.2 ?_ ?_ ?_ <;> dsimp only <;> simp only [Int.neg_mul, Int.mul_zero] <;> omega
  · intro h
    refine g.co (x / W) (y / W) (z / W) h w.1 w.2.1 w.2.2 ?_ ?_ ?_ <;> dsimp only <;> simp only [Int.mul_zero] <;> omega
/-- for degree 2 the third place is free -/
theorem cut_H2 {H : V3 → Prop} (g : Grp H) {W x y z z' : Int} (w0 : H (W, 0, 0)) (w1 : H (0, W, 0)) (w2 : H (0, 0, 1)) : H (x, y, z) ↔ H (x % W, y % W, z') := by
  have e0 := Int.mul_ediv_add_emod x W
  have e1 := Int.mul_ediv_add_emod y W
  have m0 := Int.mul_comm W (x / W)
  have m1 := Int.mul_comm W (y / W)
  constructor
  · intro h
    refine g.co (-(x / W)) (-(y / W)) (z' - z) h w0 w1 w2 ?_ ?_ ?_ <;> dsimp only <;> simp only [Int.neg_mul, Int.mul_zero] <;> omega
  · intro h
    refine g.co (x / W) (y / W) (z - z') h w0 w1 w2 ?_ ?_ ?_ <;> dsimp only <;> simp only [Int.mul_zero] <;> omega
