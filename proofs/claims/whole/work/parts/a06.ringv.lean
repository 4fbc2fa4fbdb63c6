/-! the ring of whole numbers by coordinates, for both degrees: for degree 2 the third place is a place of its own -/
def idx9 (t : Nat) : Nat := match t with | 0 => 12 | 1 => 13 | 2 => 14 | 3 => 15 | 4 => 16 | 5 => 17 | 6 => 24 | 7 => 25 | _ => 26
def muv (n : Nat) (T : Nat → Int) (x y : V3) : V3 := if n = 2 then (x.1 * y.1 + x.2.1 * y.2.1 * T 12, x.1 * y.2.1 + x.2.1 * y.1 + x.2.1 * y.2.1 * T 13, x.2.2 * y.2.2) else mu3 (fun t => T (idx9 t)) x y
def eV (i : Nat) : V3 := match i with | 0 => (1, 0, 0) | 1 => (0, 1, 0) | _ => (0, 0, 1)
def oneV (n : Nat) : V3 := if n = 2 then (1, 0, 1) else (1, 0, 0)
def Rg (n : Nat) (T : Nat → Int) : Prop := (n = 2 ∧ ∃ x y, T = T2 x y ∧ bd x 200 ∧ bd y 20) ∨ (n = 3 ∧ ∃ s : Nat → Int, T = T3 s ∧ (∀ t, t < 9 → bd (s t) 40) ∧ asc (s 0) (s 1) (s 2) (s 3) (s 4) (s 5) (s 6) (s 7) (s 8) = true)
theorem Fld.rg {n : Nat} {h d k l e Di dd : Int} {T : Nat → Int} (F : Fld n h d k l e Di dd T) : Rg n T := by
  obtain ⟨hn, _, _, _, _, h2, h3⟩ := F
  rcases hn with rfl | rfl
  · obtain ⟨_, _, _, x, y, e, b1, b2, _⟩ := h2 rfl
    exact Or.inl ⟨rfl, x, y, e, b1, b2⟩
  · exact Or.inr ⟨rfl, h3 rfl⟩
theorem Rg.n {n : Nat} {T : Nat → Int} (r : Rg n T) : n = 2 ∨ n = 3 := r.elim (fun h => Or.inl h.1) (fun h => Or.inr h.1)
theorem muv2 (T : Nat → Int) (x y : V3) : muv 2 T x y = (x.1 * y.1 + x.2.1 * y.2.1 * T 12, x.1 * y.2.1 + x.2.1 * y.1 + x.2.1 * y.2.1 * T 13, x.2.2 * y.2.2) := rfl
theorem muv3 (s : Nat → Int) (x y : V3) : muv 3 (T3 s) x y = mu3 s x y := rfl
theorem muv_comm (n : Nat) (T : Nat → Int) (x y : V3) : muv n T x y = muv n T y x := by
  unfold muv
  by_cases h : n = 2
  · rw [if_pos h, if_pos h]; refine v3_eq ?_ ?_ ?_ <;> grind
  · rw [if_neg h, if_neg h]; exact mu3_comm _ x y
theorem muv_add (n : Nat) (T : Nat → Int) (x y z : V3) : muv n T x (vad y z) = vad (muv n T x y) (muv n T x z) := by
  obtain ⟨x0, x1, x2⟩ := x
  obtain ⟨y0, y1, y2⟩ := y
  obtain ⟨z0, z1, z2⟩ := z
  unfold muv
  by_cases h : n = 2
  · rw [if_pos h, if_pos h, if_pos h]; simp only [vad]; refine v3_eq ?_ ?_ ?_ <;> grind
  · rw [if_neg h, if_neg h, if_neg h]; simp only [vad, mu3]; refine v3_eq ?_ ?_ ?_ <;> grind
theorem muv_sub (n : Nat) (T : Nat → Int) (x y z : V3) : muv n T x (vsu y z) = vsu (muv n T x y) (muv n T x z) := by
  obtain ⟨x0, x1, x2⟩ := x
  obtain ⟨y0, y1, y2⟩ := y
  obtain ⟨z0, z1, z2⟩ := z
  unfold muv
  by_cases h : n = 2
  · rw [if_pos h, if_pos h, if_pos h]; simp only [vsu]; refine v3_eq ?_ ?_ ?_ <;> grind
  · rw [if_neg h, if_neg h, if_neg h]; simp only [vsu, mu3]; refine v3_eq ?_ ?_ ?_ <;> grind
theorem muv_mul (n : Nat) (T : Nat → Int) (k : Int) (x y : V3) : muv n T x (vmu k y) = vmu k (muv n T x y) := by
  obtain ⟨x0, x1, x2⟩ := x
  obtain ⟨y0, y1, y2⟩ := y
  unfold muv
  by_cases h : n = 2
  · rw [if_pos h, if_pos h]; simp only [vmu]; refine v3_eq ?_ ?_ ?_ <;> grind
  · rw [if_neg h, if_neg h]; simp only [vmu, mu3]; refine v3_eq ?_ ?_ ?_ <;> grind
theorem muv_zero (n : Nat) (T : Nat → Int) (x : V3) : muv n T x (0, 0, 0) = (0, 0, 0) := by
  unfold muv
  by_cases h : n = 2
  · rw [if_pos h]; refine v3_eq ?_ ?_ ?_ <;> dsimp only <;> grind
  · rw [if_neg h]; simp only [mu3]; refine v3_eq ?_ ?_ ?_ <;> grind
theorem muv_assoc {n : Nat} {T : Nat → Int} (r : Rg n T) (x y z : V3) : muv n T (muv n T x y) z = muv n T x (muv n T y z) := by
  rcases r with ⟨rfl, p, q, rfl, _, _⟩ | ⟨rfl, s, rfl, _, h⟩
  · obtain ⟨x0, x1, x2⟩ := x
    obtain ⟨y0, y1, y2⟩ := y
    obtain ⟨z0, z1, z2⟩ := z
    simp only [muv2]; refine v3_eq ?_ ?_ ?_ <;> grind
  · simp only [muv3]; exact mu3_assoc h x y z
theorem muv_one {n : Nat} (h0 : n = 2 ∨ n = 3) (T : Nat → Int) (x : V3) : muv n T (oneV n) x = x := by
  obtain ⟨x0, x1, x2⟩ := x
  rcases h0 with rfl | rfl
  · rw [muv2]; show ((1 * x0 + 0 * x1 * T 12, 1 * x1 + 0 * x0 + 0 * x1 * T 13, 1 * x2) : V3) = _
    refine v3_eq ?_ ?_ ?_ <;> grind
  · show mu3 (fun t => T (idx9 t)) (1, 0, 0) (x0, x1, x2) = (x0, x1, x2)
    simp only [mu3]; refine v3_eq ?_ ?_ ?_ <;> grind
theorem muv_one_r {n : Nat} (h0 : n = 2 ∨ n = 3) (T : Nat → Int) (x : V3) : muv n T x (oneV n) = x := by rw [muv_comm]; exact muv_one h0 T x
/-- a number by the first, second, third -/
theorem eV_sum (v : V3) : v = vad (vad (vmu v.1 (eV 0)) (vmu v.2.1 (eV 1))) (vmu v.2.2 (eV 2)) := by
  obtain ⟨a, b, c⟩ := v
  refine v3_eq ?_ ?_ ?_
  · show a = a * 1 + b * 0 + c * 0; omega
  · show b = a * 0 + b * 1 + c * 0; omega
  · show c = a * 0 + b * 0 + c * 1; omega
/-- a group with the numbers whose products with w are in H -/
theorem Grp.div {H : V3 → Prop} (g : Grp H) (n : Nat) (T : Nat → Int) (w : V3) : Grp (fun v => H (muv n T w v)) := by
  refine ⟨by show H (muv n T w (0, 0, 0)); rw [muv_zero]; exact g.1, fun x y hx hy => ?_⟩
  show H (muv n T w (vsu x y))
  rw [muv_sub]; exact g.2 _ _ hx hy
/-- if H has the products of the three with x, it has all products with x -/
theorem Grp.gen {H : V3 → Prop} (g : Grp H) {n : Nat} {T : Nat → Int} {x : V3} (h : ∀ i, i < 3 → H (muv n T (eV i) x)) (w : V3) : H (muv n T w x) := by
  rw [muv_comm, eV_sum w, muv_add, muv_add, muv_mul, muv_mul, muv_mul, muv_comm n T x (eV 0), muv_comm n T x (eV 1), muv_comm n T x (eV 2)]
  exact g.add (g.add (g.mul (h 0 (by decide)) _) (g.mul (h 1 (by decide)) _)) (g.mul (h 2 (by decide)) _)
/-- rows of an ideal -/
def Idl (n : Nat) (T : Nat → Int) (R : Nat → Int) : Prop := ∀ w v, Sp R v → Sp R (muv n T w v)
theorem idl_of {n : Nat} {T R : Nat → Int} (h : ∀ w, In3 (fun v => Sp R (muv n T w v)) R) : Idl n T R := fun w v s => In3.sp ((Sp_grp R).div n T w) (h w) s
/-- rows for degree 2 have 0, 0, 1 as the third -/
def R2 (n : Nat) (R : Nat → Int) : Prop := n = 2 → R 6 = 0 ∧ R 7 = 0 ∧ R 8 = 1
theorem pr2_I {X Y T : Nat → Int64} {x y : V3} {p q : Int} (hX : ∀ i, i < 2 → X i = lI (vk x i)) (hY : ∀ i, i < 2 → Y i = lI (vk y i)) (hT : ∀ t, t < 27 → T t = lI (T2 p q t)) : (0 + X 0 * Y 0 * T 0 + X 0 * Y 1 * T 3 + X 1 * Y 0 * T 9 + X 1 * Y 1 * T 12 = lI (muv 2 (T2 p q) x y).1) ∧ (0 + X 0 * Y 0 * T 1 + X 0 * Y 1 * T 4 + X 1 * Y 0 * T 10 + X 1 * Y 1 * T 13 = lI (muv 2 (T2 p q) x y).2.1) := by
  have e0 : (0 : Int64) = lI 0 := rfl
  rw [hX 0 (by decide), hX 1 (by decide), hY 0 (by decide), hY 1 (by decide), hT 0 (by decide), hT 1 (by decide), hT 3 (by decide), hT 4 (by decide), hT 9 (by decide), hT 10 (by decide), hT 12 (by decide), hT 13 (by decide), e0]
  simp only [lI_mul, lI_add]
  obtain ⟨x0, x1, x2⟩ := x
  obtain ⟨y0, y1, y2⟩ := y
  constructor <;> congr 1
  · show 0 + x0 * y0 * 1 + x0 * y1 * 0 + x1 * y0 * 0 + x1 * y1 * p = x0 * y0 + x1 * y1 * p
    grind
  · show 0 + x0 * y0 * 0 + x0 * y1 * 1 + x1 * y0 * 1 + x1 * y1 * q = x0 * y1 + x1 * y0 + x1 * y1 * q
    grind
section RV
variable {l : Launch} {D : va_G} {aI aL : ClassId} {ad : Nat → Nat} {I : sa_I} {J : sa_J}
/-- the class's multiply, by whole numbers -/
theorem c_mulI {n : Nat} {T : Nat → Int} (r : Rg n T) (hd : I 4 0 = nI n) (hT : ∀ t, t < 27 → J 8 t = lI (T t)) {a1 q1 n1 p1 : Nat} (hq1 : sa_iJ (EC l D aI aL ad) a1 q1 n1) (hn1 : n1 < 2 ^ 31) {a3 q3 n3 p3 : Nat} (hq3 : sa_iJ (EC l D aI aL ad) a3 q3 n3) (hn3 : n3 < 2 ^ 31) (hb1 : p1 + n ≤ n1) (hb3 : p3 + n ≤ n3) (hz1 : q1 ≠ 9) (hz3 : q3 ≠ 9) {x y : V3} (hx : ∀ i, i < n → J q1 (p1 + i) = lI (vk x i)) (hy : ∀ i, i < n → J q3 (p3 + i) = lI (vk y i)) : Con (EC l D aI aL ad) M_X4_multiply yX4_multiply [.ref (ad 4), .ref a1, .int (nI p1), .ref a3, .int (nI p3)] I J (fun r I1 J1 => r = none ∧ I1 = I ∧ (∀ c, c < n → J1 9 c = lI (vk (muv n T x y) c)) ∧ (n = 2 → J1 9 2 = 0) ∧ ∀ q, q ≠ 9 → J1 q = J q) := by
  rcases r with ⟨rfl, p, q, rfl, _, _⟩ | ⟨rfl, s, rfl, _, h⟩
  · refine (c_multiply2 hd hq1 hn1 hq3 hn3 hb1 hb3 hz1 hz3).mono ?_
    rintro r I1 J1 ⟨a, b, c, d, e, f⟩
    have hh := pr2_I (X := fun i => J q1 (p1 + i)) (Y := fun i => J q3 (p3 + i)) (T := J 8) hx hy hT
    refine ⟨a, b, ?_, fun _ => e, f⟩
    intro i hi
    have : i = 0 ∨ i = 1 := by omega
    rcases this with rfl | rfl
    · rw [c]; exact hh.1
    · rw [d]; exact hh.2
  · refine (c_multiply3 hd hq1 hn1 hq3 hn3 hb1 hb3 hz1 hz3).mono ?_
    rintro r I1 J1 ⟨a, b, c0, c1, c2, f⟩
    have hh := fun {c : Nat} (hc : c < 3) => pr3_I (X := fun i => J q1 (p1 + i)) (Y := fun i => J q3 (p3 + i)) (T := J 8) hx hy hT hc
    refine ⟨a, b, ?_, fun h => absurd h (by decide), f⟩
    intro i hi
    rcases below3 hi with rfl | rfl | rfl
    · rw [c0]; exact hh (by decide)
    · rw [c1]; exact hh (by decide)
    · rw [c2]; exact hh (by decide)
/-- the reference's product, by whole numbers -/
theorem c_prodI {n : Nat} {T : Nat → Int} (r : Rg n T) (hd : I 0 1 = nI n) (hT : ∀ i j c, i < n → j < n → c < 3 → J 2 (9 * i + 3 * j + c) = lI (T (9 * i + 3 * j + c))) {x y : V3} (hx : ∀ i, i < n → J 10 i = lI (vk x i)) (hy : ∀ i, i < n → J 11 i = lI (vk y i)) : Con (ER l D aI aL ad) M_X7_product yX7_product [.ref (ad 0)] I J (fun r I1 J1 => r = none ∧ I1 = I ∧ (∀ c, c < n → J1 12 c = lI (vk (muv n T x y) c)) ∧ (n = 2 → J1 12 2 = 0) ∧ ∀ q, q ≠ 12 → J1 q = J q) := by
  have hT' : ∀ i j c, i < n → j < n → c < 3 → J 2 (9 * i + 3 * j + c) = lI (T (9 * i + 3 * j + c)) := hT
  rcases r with ⟨rfl, p, q, rfl, _, _⟩ | ⟨rfl, s, rfl, _, h⟩
  · refine (c_product2 hd).mono ?_
    rintro r I1 J1 ⟨a, b, c, d, e, f⟩
    have hh := pr2_I (X := J 10) (Y := J 11) (T := fun t => lI (T2 p q t)) hx hy (fun t _ => rfl)
    have t0 := hT 0 0 0 (by decide) (by decide) (by decide)
    have t1 := hT 0 0 1 (by decide) (by decide) (by decide)
    have t3 := hT 0 1 0 (by decide) (by decide) (by decide)
    have t4 := hT 0 1 1 (by decide) (by decide) (by decide)
    have t9 := hT 1 0 0 (by decide) (by decide) (by decide)
    have t10 := hT 1 0 1 (by decide) (by decide) (by decide)
    have t12 := hT 1 1 0 (by decide) (by decide) (by decide)
    have t13 := hT 1 1 1 (by decide) (by decide) (by decide)
    refine ⟨a, b, ?_, fun _ => e, f⟩
    intro i hi
    have : i = 0 ∨ i = 1 := by omega
    rcases this with rfl | rfl
    · rw [c, show J 2 0 = _ from t0, show J 2 3 = _ from t3, show J 2 9 = _ from t9, show J 2 12 = _ from t12]; exact hh.1
    · rw [d, show J 2 1 = _ from t1, show J 2 4 = _ from t4, show J 2 10 = _ from t10, show J 2 13 = _ from t13]; exact hh.2
  · refine (c_product3 hd).mono ?_
    rintro r I1 J1 ⟨a, b, c0, c1, c2, f⟩
    have hT27 : ∀ t, t < 27 → J 2 t = lI (T3 s t) := by
      intro t ht
      have := hT (t / 9) (t % 9 / 3) (t % 3) (by omega) (by omega) (by omega)
      rw [show 9 * (t / 9) + 3 * (t % 9 / 3) + t % 3 = t by omega] at this
      exact this
    have hh := fun {c : Nat} (hc : c < 3) => pr3_I (X := J 10) (Y := J 11) (T := J 2) hx hy hT27 hc
    refine ⟨a, b, ?_, fun h => absurd h (by decide), f⟩
    intro i hi
    rcases below3 hi with rfl | rfl | rfl
    · rw [c0]; exact hh (by decide)
    · rw [c1]; exact hh (by decide)
    · rw [c2]; exact hh (by decide)
end RV
