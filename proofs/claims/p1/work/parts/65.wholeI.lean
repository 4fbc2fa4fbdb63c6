theorem rm_I {a b : Int} (ha : rg a) (hb : rg b) (h0 : 0 < b) : (rm (lI a) (lI b) = 0) ↔ (a.tmod b = 0) := by
  unfold rm
  rw [lI_rem ha hb h0]
  have h1 : rg (a.tmod b) := by
    have h2 := Int.tmod_lt_of_pos a h0
    have h3 := hb.2
    have h4 : -b < a.tmod b := by
      have h5 := Int.emod_lt_of_pos (-a) h0
      have h6 := Int.emod_nonneg a (show b ≠ 0 by omega)
      rcases Int.le_total 0 a with q | q
      · rw [Int.tmod_eq_emod_of_nonneg q]; omega
      · have h7 := Int.tmod_eq_emod_of_nonneg (b := b) (show 0 ≤ -a by omega)
        rw [Int.neg_tmod] at h7
        omega
    exact ⟨by omega, by omega⟩
  exact lI_eq h1 (b := 0) ⟨by omega, by omega⟩
/-- the reference's test, by whole numbers -/
def w2I (f0 f1 : Int) (t : Q4) : Bool :=
  let q := t.2.2.2
  let x0 := t.1 % q
  let x1 := t.2.1 % q
  let y1 := x0 - x1 * f1
  decide ((x0 + y1).tmod q = 0) && decide ((x0 * y1 - x1 * (-(x1 * f0))).tmod (q * q) = 0)
def n3I (a b c d e f g h i : Int) : Int := a * (e * i - f * h) - b * (d * i - f * g) + c * (d * h - e * g)
def w3I (f0 f1 f2 : Int) (t : Q4) : Bool :=
  let q := t.2.2.2
  let x0 := t.1 % q
  let x1 := t.2.1 % q
  let x2 := t.2.2.1 % q
  let a := -(x2 * f0)
  let b := x0 - x2 * f1
  let c := x1 - x2 * f2
  let u := -(c * f0)
  let v := a - c * f1
  let w := b - c * f2
  decide ((x0 + b + w).tmod q = 0) && (decide ((x0 * b - x1 * a + x0 * w - x2 * u + b * w - c * v).tmod (q * q) = 0) && decide ((n3I x0 x1 x2 a b c u v w).tmod (q * q * q) = 0))
theorem fm_I {a q : Int} (ha : bd a 1000) (hq : bd q 1000) (h1 : 1 ≤ q) : fm (lI a) (lI q) = lI (a % q) ∧ bd (a % q) 1000 := by
  unfold fm
  rw [lI_toInt (bd_rg ha (by decide)), lI_toInt (bd_rg hq (by decide))]
  have h2 := Int.emod_nonneg a (b := q) (by omega)
  have h3 := Int.emod_lt_of_pos a (b := q) (by omega)
  have h4 := hq.2
  exact ⟨rfl, ⟨by omega, by omega⟩⟩
theorem and_dec {a b c d : Prop} [Decidable a] [Decidable b] [Decidable c] [Decidable d] (h1 : a ↔ c) (h2 : b ↔ d) : (decide a && decide b) = (decide c && decide d) := by
  rw [decide_eq_decide.mpr h1, decide_eq_decide.mpr h2]
def loI2 (a b : Int) (w : Nat → Int) : Int × Int :=
  let c3 := w 3 - w 4 * b
  let c2 := w 2 - w 4 * a - c3 * b
  (w 0 - c2 * a, w 1 - c3 * a - c2 * b)
def loI3 (a b c : Int) (w : Nat → Int) : Int × Int × Int :=
  let c3 := w 3 - w 4 * c
  (w 0 - c3 * a, w 1 - w 4 * a - c3 * b, w 2 - w 4 * b - c3 * c)
theorem lo2_I {a b : Int} {w : Nat → Int64} {v : Nat → Int} (h : ∀ t, w t = lI (v t)) : (lo2 (lI a) (lI b) w).1 = lI (loI2 a b v).1 ∧ (lo2 (lI a) (lI b) w).2 = lI (loI2 a b v).2 := by
  constructor <;> simp only [lo2, loI2, h, lI_mul, lI_sub]
theorem lo3_I {a b c : Int} {w : Nat → Int64} {v : Nat → Int} (h : ∀ t, w t = lI (v t)) : (lo3 (lI a) (lI b) (lI c) w).1 = lI (loI3 a b c v).1 ∧ (lo3 (lI a) (lI b) (lI c) w).2.1 = lI (loI3 a b c v).2.1 ∧ (lo3 (lI a) (lI b) (lI c) w).2.2 = lI (loI3 a b c v).2.2 := by
  refine ⟨?_, ?_, ?_⟩ <;> simp only [lo3, loI3, h, lI_mul, lI_sub]
def pwI2 (i : Nat) (x0 x1 : Int) : Nat → Int := fun t => if t = i then x0 else if t = i + 1 then x1 else 0
def pwI3 (i : Nat) (x0 x1 x2 : Int) : Nat → Int := fun t => if t = i then x0 else if t = i + 1 then x1 else if t = i + 2 then x2 else 0
theorem pw2_I {i : Nat} {x : Nat → Int64} {x0 x1 : Int} (h0 : x 0 = lI x0) (h1 : x 1 = lI x1) (t : Nat) : pw2 i x t = lI (pwI2 i x0 x1 t) := by
  unfold pw2 pwI2
  by_cases c : t = i
  · rw [if_pos c, if_pos c, h0]
  · rw [if_neg c, if_neg c]
    by_cases d : t = i + 1
    · rw [if_pos d, if_pos d, h1]
    · rw [if_neg d, if_neg d]; rfl
theorem pw3_I {i : Nat} {x : Nat → Int64} {x0 x1 x2 : Int} (h0 : x 0 = lI x0) (h1 : x 1 = lI x1) (h2 : x 2 = lI x2) (t : Nat) : pw3 i x t = lI (pwI3 i x0 x1 x2 t) := by
  unfold pw3 pwI3
  by_cases c : t = i
  · rw [if_pos c, if_pos c, h0]
  · rw [if_neg c, if_neg c]
    by_cases d : t = i + 1
    · rw [if_pos d, if_pos d, h1]
    · rw [if_neg d, if_neg d]
      by_cases e : t = i + 2
      · rw [if_pos e, if_pos e, h2]
      · rw [if_neg e, if_neg e]; rfl
theorem l2_0 (a b x y : Int) : loI2 a b (pwI2 0 x y) = (x, y) := by simp [loI2, pwI2]
theorem l2_1 (a b x y : Int) : loI2 a b (pwI2 1 x y) = (-(y * a), x - y * b) := by simp [loI2, pwI2]
theorem l3_0 (a b c x y z : Int) : loI3 a b c (pwI3 0 x y z) = (x, y, z) := by simp [loI3, pwI3]
theorem l3_1 (a b c x y z : Int) : loI3 a b c (pwI3 1 x y z) = (-(z * a), x - z * b, y - z * c) := by simp [loI3, pwI3]
theorem l3_2 (a b c x y z : Int) : loI3 a b c (pwI3 2 x y z) = (-((y - z * c) * a), -(z * a) - (y - z * c) * b, x - z * b - (y - z * c) * c) := by simp [loI3, pwI3]
set_option maxHeartbeats 100000 in
theorem w2_I {J : sa_J} {t : Q4} {f0 f1 : Int} (ht : at4 J 7 t) (ok : ok4 t = true) (h0 : bd f0 1000) (h1 : bd f1 1000) : w7b2 (mx2 (lI f0) (lI f1) (fun j => fm (J 7 j) (J 7 3))) (J 7 3) = w2I f0 f1 t := by
  obtain ⟨a0, a1, a2, a3⟩ := ht
  obtain ⟨b0, b1, b2, b3, b4⟩ := ok4_bd ok
  obtain ⟨x0, y0⟩ := fm_I b0 b3 b4
  obtain ⟨x1, y1⟩ := fm_I b1 b3 b4
  have g0 : (fun j => fm (J 7 j) (J 7 3)) 0 = lI (t.1 % t.2.2.2) := by show fm (J 7 0) (J 7 3) = _; rw [a0, a3, x0]
  have g1 : (fun j => fm (J 7 j) (J 7 3)) 1 = lI (t.2.1 % t.2.2.2) := by show fm (J 7 1) (J 7 3) = _; rw [a1, a3, x1]
  generalize (fun j => fm (J 7 j) (J 7 3)) = x at g0 g1
  obtain ⟨u0, u1⟩ := lo2_I (a := f0) (b := f1) (pw2_I (i := 0) g0 g1)
  obtain ⟨u2, u3⟩ := lo2_I (a := f0) (b := f1) (pw2_I (i := 1) g0 g1)
  rw [l2_0] at u0 u1
  rw [l2_1] at u2 u3
  have e0 : mx2 (lI f0) (lI f1) x 0 = lI (t.1 % t.2.2.2) := u0
  have e1 : mx2 (lI f0) (lI f1) x 1 = lI (t.2.1 % t.2.2.2) := u1
  have e2 : mx2 (lI f0) (lI f1) x 3 = lI (-(t.2.1 % t.2.2.2 * f0)) := u2
  have e3 : mx2 (lI f0) (lI f1) x 4 = lI (t.1 % t.2.2.2 - t.2.1 % t.2.2.2 * f1) := u3
  unfold w7b2
  rw [e0, e1, e2, e3, a3, Int64.zero_add, lI_add, lI_mul, lI_mul, lI_sub, lI_mul]
  unfold w2I
  exact and_dec (rm_I (bd_rg (bd_add y0 (bd_sub y0 (bd_mul y1 h1))) (by decide)) (bd_rg b3 (by decide)) (by omega)) (rm_I (bd_rg (bd_sub (bd_mul y0 (bd_sub y0 (bd_mul y1 h1))) (bd_mul y1 (bd_neg (bd_mul y1 h0)))) (by decide)) (bd_rg (bd_mul b3 b3) (by decide)) (Int.mul_pos (by omega) (by omega)))
set_option maxHeartbeats 100000 in
theorem w3_I {J : sa_J} {t : Q4} {f0 f1 f2 : Int} (ht : at4 J 7 t) (ok : ok4 t = true) (h0 : bd f0 10) (h1 : bd f1 10) (h2 : bd f2 10) : w7b3 (mx3 (lI f0) (lI f1) (lI f2) (fun j => fm (J 7 j) (J 7 3))) (J 7 3) = w3I f0 f1 f2 t := by
  obtain ⟨a0, a1, a2, a3⟩ := ht
  obtain ⟨b0, b1, b2, b3, b4⟩ := ok4_bd ok
  obtain ⟨x0, y0⟩ := fm_I b0 b3 b4
  obtain ⟨x1, y1⟩ := fm_I b1 b3 b4
  obtain ⟨x2, y2⟩ := fm_I b2 b3 b4
  have g0 : (fun j => fm (J 7 j) (J 7 3)) 0 = lI (t.1 % t.2.2.2) := by show fm (J 7 0) (J 7 3) = _; rw [a0, a3, x0]
  have g1 : (fun j => fm (J 7 j) (J 7 3)) 1 = lI (t.2.1 % t.2.2.2) := by show fm (J 7 1) (J 7 3) = _; rw [a1, a3, x1]
  have g2 : (fun j => fm (J 7 j) (J 7 3)) 2 = lI (t.2.2.1 % t.2.2.2) := by show fm (J 7 2) (J 7 3) = _; rw [a2, a3, x2]
  generalize (fun j => fm (J 7 j) (J 7 3)) = x at g0 g1 g2
  obtain ⟨p0, p1, p2⟩ := lo3_I (a := f0) (b := f1) (c := f2) (pw3_I (i := 0) g0 g1 g2)
  obtain ⟨q0, q1, q2⟩ := lo3_I (a := f0) (b := f1) (c := f2) (pw3_I (i := 1) g0 g1 g2)
  obtain ⟨r0, r1, r2⟩ := lo3_I (a := f0) (b := f1) (c := f2) (pw3_I (i := 2) g0 g1 g2)
  rw [l3_0] at p0 p1 p2
  rw [l3_1] at q0 q1 q2
  rw [l3_2] at r0 r1 r2
  unfold w3I
  dsimp only
  generalize t.1 % t.2.2.2 = X at *
  generalize t.2.1 % t.2.2.2 = Y at *
  generalize t.2.2.1 % t.2.2.2 = Z at *
  have e0 : mx3 (lI f0) (lI f1) (lI f2) x 0 = lI X := p0
  have e1 : mx3 (lI f0) (lI f1) (lI f2) x 1 = lI Y := p1
  have e2 : mx3 (lI f0) (lI f1) (lI f2) x 2 = lI Z := p2
  have e3 : mx3 (lI f0) (lI f1) (lI f2) x 3 = lI (-(Z * f0)) := q0
  have e4 : mx3 (lI f0) (lI f1) (lI f2) x 4 = lI (X - Z * f1) := q1
  have e5 : mx3 (lI f0) (lI f1) (lI f2) x 5 = lI (Y - Z * f2) := q2
  have e6 : mx3 (lI f0) (lI f1) (lI f2) x 6 = lI (-((Y - Z * f2) * f0)) := r0
  have e7 : mx3 (lI f0) (lI f1) (lI f2) x 7 = lI (-(Z * f0) - (Y - Z * f2) * f1) := r1
  have e8 : mx3 (lI f0) (lI f1) (lI f2) x 8 = lI (X - Z * f1 - (Y - Z * f2) * f2) := r2
  have hA := bd_neg (bd_mul y2 h0)
  have hB := bd_sub y0 (bd_mul y2 h1)
  have hC := bd_sub y1 (bd_mul y2 h2)
  have hU := bd_neg (bd_mul hC h0)
  have hV := bd_sub hA (bd_mul hC h1)
  have hW := bd_sub hB (bd_mul hC h2)
  have qq : 0 < t.2.2.2 * t.2.2.2 := Int.mul_pos (by omega) (by omega)
  unfold w7b3 nm3
  rw [e0, e1, e2, e3, e4, e5, e6, e7, e8, a3, Int64.zero_add]
  clear p0 p1 p2 q0 q1 q2 r0 r1 r2 e0 e1 e2 e3 e4 e5 e6 e7 e8
  generalize -(Z * f0) = A at *
  generalize X - Z * f1 = B at *
  generalize Y - Z * f2 = C at *
  generalize -(C * f0) = U at *
  generalize A - C * f1 = V at *
  generalize B - C * f2 = W at *
  simp only [lI_add, lI_mul, lI_sub]
  unfold n3I
  exact congr (congrArg and (decide_eq_decide.mpr (rm_I (bd_rg (bd_add (bd_add y0 hB) hW) (by decide)) (bd_rg b3 (by decide)) (by omega)))) (and_dec (rm_I (bd_rg (bd_sub (bd_add (bd_sub (bd_add (bd_sub (bd_mul y0 hB) (bd_mul y1 hA)) (bd_mul y0 hW)) (bd_mul y2 hU)) (bd_mul hB hW)) (bd_mul hC hV)) (by decide)) (bd_rg (bd_mul b3 b3) (by decide)) qq) (rm_I (bd_rg (bd_add (bd_sub (bd_mul y0 (bd_sub (bd_mul hB hW) (bd_mul hC hV))) (bd_mul y1 (bd_sub (bd_mul hA hW) (bd_mul hC hU)))) (bd_mul y2 (bd_sub (bd_mul hA hV) (bd_mul hB hU)))) (by decide)) (bd_rg (bd_mul (bd_mul b3 b3) b3) (by decide)) (Int.mul_pos qq (by omega))))
section WI
variable {l : Launch} {D : va_G} {aI aL : ClassId} {ad : Nat → Nat} {I : sa_I} {J : sa_J}
/-- the reference's field: degree and polynomial -/
def pol (I : sa_I) (n : Nat) (f0 f1 f2 : Int) : Prop := I 0 1 = nI n ∧ I 0 2 = iI f0 ∧ I 0 3 = iI f1 ∧ I 0 4 = iI f2 ∧ ((n = 2 ∧ bd f0 1000 ∧ bd f1 1000) ∨ (n = 3 ∧ bd f0 10 ∧ bd f1 10 ∧ bd f2 10))
def wI (n : Nat) (f0 f1 f2 : Int) (t : Q4) : Bool := if n = 2 then w2I f0 f1 t else w3I f0 f1 f2 t
theorem bd_i {a A : Int} (h : bd a A) (hA : A < 2147483648) : rgi a := ⟨by have := h.1; omega, by have := h.2; omega⟩
theorem c_isWholeI {n : Nat} {f0 f1 f2 : Int} {t : Q4} (hp : pol I n f0 f1 f2) (ht : at4 J 7 t) (ok : ok4 t = true) : Con (ER l D aI aL ad) M_X7_isWhole yX7_isWhole [.ref (ad 0)] I J (fun r I1 J1 => r = some (.int (if wI n f0 f1 f2 t then 1 else 0)) ∧ I1 = I ∧ ∀ q, q ≠ 8 → q ≠ 9 → J1 q = J q) := by
  obtain ⟨hn, e0, e1, e2, hp⟩ := hp
  obtain ⟨b0, b1, b2, b3, b4⟩ := ok4_bd ok
  have hq : 0 < (J 7 3).toInt := by rw [ht.2.2.2, lI_toInt (bd_rg b3 (by decide))]; omega
  have q1 : 0 < t.2.2.2 * t.2.2.2 := Int.mul_pos (by omega) (by omega)
  have hz2 : ¬ J 7 3 * J 7 3 = 0 := by
    rw [ht.2.2.2, lI_mul]; exact fun e => by have := (lI_eq (bd_rg (bd_mul b3 b3) (by decide)) (b := 0) ⟨by omega, by omega⟩).mp e; omega
  have q2 : 0 < t.2.2.2 * t.2.2.2 * t.2.2.2 := Int.mul_pos q1 (by omega)
  have hz3 : ¬ J 7 3 * J 7 3 * J 7 3 = 0 := by
    rw [ht.2.2.2, lI_mul, lI_mul]; exact fun e => by have := (lI_eq (bd_rg (bd_mul (bd_mul b3 b3) b3) (by decide)) (b := 0) ⟨by omega, by omega⟩).mp e; omega
  rcases hp with ⟨rfl, h0, h1⟩ | ⟨rfl, h0, h1, h2⟩
  · have h := c_isWhole7_2 (l := l) (D := D) (aI := aI) (aL := aL) (ad := ad) hn hq hz2
    rw [e0, e1, iI_lI (bd_i h0 (by decide)), iI_lI (bd_i h1 (by decide)), w2_I ht ok h0 h1] at h
    exact h
  · have h := c_isWhole7_3 (l := l) (D := D) (aI := aI) (aL := aL) (ad := ad) hn hq hz2 hz3
    rw [e0, e1, e2, iI_lI (bd_i h0 (by decide)), iI_lI (bd_i h1 (by decide)), iI_lI (bd_i h2 (by decide)), w3_I ht ok h0 h1 h2] at h
    exact h
end WI
