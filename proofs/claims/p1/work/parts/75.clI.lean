/-! the class's table by whole numbers -/
theorem dv_pt {a b : Int} (h : dv a b = true) : pt (lI a) (lI b) = lI (a.tdiv b) := by
  unfold pt; rw [if_neg (dv_ne h), dv_div h]
def uI (h k l : Int) (t : Nat) : Int := match t with
  | 0 => 1 | 3 => h | 4 => 1 | 6 => k | 7 => l | 8 => 1 | _ => 0
def wdI2 (f0 f1 a0 a1 b0 b1 : Int) : Int × Int := (a0 * b0 - a1 * b1 * f0, a0 * b1 + a1 * b0 - a1 * b1 * f1)
def wdI3 (f0 f1 f2 a0 a1 a2 b0 b1 b2 : Int) : Int × Int × Int :=
  (a0 * b0 - (a1 * b2 + a2 * b1 - a2 * b2 * f2) * f0,
   a0 * b1 + a1 * b0 - a2 * b2 * f0 - (a1 * b2 + a2 * b1 - a2 * b2 * f2) * f1,
   a0 * b2 + a1 * b1 + a2 * b0 - a2 * b2 * f1 - (a1 * b2 + a2 * b1 - a2 * b2 * f2) * f2)
def tlI2 (h d : Int) (w : Int × Int) (be : Int) : Int × Int :=
  let c1 := (w.2 * d * d).tdiv (be * d)
  (((w.1 * d - c1 * h * (be * d).tdiv d) * 1).tdiv (be * d), c1)
def tlC2 (h d : Int) (w : Int × Int) (be : Int) : Bool :=
  let c1 := (w.2 * d * d).tdiv (be * d)
  dv (w.2 * d * d) (be * d) && dv (be * d) d && dv ((w.1 * d - c1 * h * (be * d).tdiv d) * 1) (be * d)
def tlI3 (h d k l e : Int) (w : Int × Int × Int) (be : Int) : Int × Int × Int :=
  let c2 := (w.2.2 * (d * e) * e).tdiv (be * (d * e))
  let c1 := ((w.2.1 * (d * e) - c2 * l * (be * (d * e)).tdiv e) * d).tdiv (be * (d * e))
  (((w.1 * (d * e) - c2 * k * (be * (d * e)).tdiv e - c1 * h * (be * (d * e)).tdiv d) * 1).tdiv (be * (d * e)), c1, c2)
def tlC3 (h d k l e : Int) (w : Int × Int × Int) (be : Int) : Bool :=
  let c2 := (w.2.2 * (d * e) * e).tdiv (be * (d * e))
  let c1 := ((w.2.1 * (d * e) - c2 * l * (be * (d * e)).tdiv e) * d).tdiv (be * (d * e))
  dv (w.2.2 * (d * e) * e) (be * (d * e)) && dv (be * (d * e)) e && dv (be * (d * e)) d && dv ((w.2.1 * (d * e) - c2 * l * (be * (d * e)).tdiv e) * d) (be * (d * e)) && dv ((w.1 * (d * e) - c2 * k * (be * (d * e)).tdiv e - c1 * h * (be * (d * e)).tdiv d) * 1) (be * (d * e))
def loI (d e : Int) (i : Nat) : Int := match i with | 0 => 1 | 1 => d | _ => e
def cwI2 (f0 f1 h : Int) (i j : Nat) : Int × Int := wdI2 f0 f1 (uI h 0 0 (3 * i)) (uI h 0 0 (3 * i + 1)) (uI h 0 0 (3 * j)) (uI h 0 0 (3 * j + 1))
def cwI3 (f0 f1 f2 h k l : Int) (i j : Nat) : Int × Int × Int := wdI3 f0 f1 f2 (uI h k l (3 * i)) (uI h k l (3 * i + 1)) (uI h k l (3 * i + 2)) (uI h k l (3 * j)) (uI h k l (3 * j + 1)) (uI h k l (3 * j + 2))
def clI2 (f0 f1 h d : Int) (i j : Nat) : Int × Int := tlI2 h d (cwI2 f0 f1 h i j) (loI d 1 i * loI d 1 j)
def clC2 (f0 f1 h d : Int) (i j : Nat) : Bool := tlC2 h d (cwI2 f0 f1 h i j) (loI d 1 i * loI d 1 j)
def clI3 (f0 f1 f2 h d k l e : Int) (i j : Nat) : Int × Int × Int := tlI3 h d k l e (cwI3 f0 f1 f2 h k l i j) (loI d e i * loI d e j)
def clC3 (f0 f1 f2 h d k l e : Int) (i j : Nat) : Bool := tlC3 h d k l e (cwI3 f0 f1 f2 h k l i j) (loI d e i * loI d e j)
/-- what the class's basis is told by -/
def cfd (J : sa_J) (f0 f1 f2 h d k l e : Int) : Prop := J 5 0 = lI f0 ∧ J 5 1 = lI f1 ∧ J 5 2 = lI f2 ∧ (∀ t, t < 9 → J 6 t = lI (uI h k l t)) ∧ J 7 0 = lI 1 ∧ J 7 1 = lI d ∧ J 7 2 = lI e ∧ J 4 3 = lI (d * e)
theorem loI_J {J : sa_J} {f0 f1 f2 h d k l e : Int} (H : cfd J f0 f1 f2 h d k l e) {i : Nat} (hi : i < 3) : J 7 i = lI (loI d e i) := by
  obtain ⟨_, _, _, _, a, b, c, _⟩ := H
  match i with
  | 0 => exact a
  | 1 => exact b
  | 2 => exact c
  | _ + 3 => exact absurd hi (by omega)
set_option maxHeartbeats 200000 in
theorem cc2_I {J : sa_J} {f0 f1 f2 h d : Int} (H : cfd J f0 f1 f2 h d 0 0 1) {i j : Nat} (hi : i < 2) (hj : j < 2) (c : clC2 f0 f1 h d i j = true) : cc2 J i j = (lI (clI2 f0 f1 h d i j).1, lI (clI2 f0 f1 h d i j).2) := by
  have li := loI_J H (i := i) (by omega)
  have lj := loI_J H (i := j) (by omega)
  obtain ⟨p0, p1, p2, hu, l0, l1, l2, ix⟩ := H
  have u1 := hu (3 * i) (by omega)
  have u2 := hu (3 * i + 1) (by omega)
  have u3 := hu (3 * j) (by omega)
  have u4 := hu (3 * j + 1) (by omega)
  have u5 : J 6 3 = lI h := hu 3 (by decide)
  have z : ∀ a : Int64, (0 : Int64) + a = a := Int64.zero_add
  have w0 : wd2 (J 5) (ur (J 6) i) (ur (J 6) j) 0 = lI (cwI2 f0 f1 h i j).1 := by
    show (0 + J 6 (3 * i) * J 6 (3 * j)) - (0 + J 6 (3 * i + 1) * J 6 (3 * j + 1)) * J 5 0 = _
    rw [z, z, u1, u2, u3, u4, p0]; simp only [lI_mul, lI_sub]; rfl
  have w1 : wd2 (J 5) (ur (J 6) i) (ur (J 6) j) 1 = lI (cwI2 f0 f1 h i j).2 := by
    show (0 + J 6 (3 * i) * J 6 (3 * j + 1) + J 6 (3 * i + 1) * J 6 (3 * j)) - (0 + J 6 (3 * i + 1) * J 6 (3 * j + 1)) * J 5 1 = _
    rw [z, z, u1, u2, u3, u4, p1]; simp only [lI_mul, lI_sub, lI_add]; rfl
  rw [Int.mul_one] at ix
  unfold clC2 at c
  unfold cc2 clI2
  generalize wd2 (J 5) (ur (J 6) i) (ur (J 6) j) = w at *
  generalize cwI2 f0 f1 h i j = v at *
  rw [li, lj, lI_mul]
  generalize loI d 1 i * loI d 1 j = be at *
  simp only [tlC2, Bool.and_eq_true] at c
  obtain ⟨⟨c1, c2⟩, c3⟩ := c
  have k1 : pt (w 1 * J 4 3 * J 7 1) (lI be * J 4 3) = lI ((v.2 * d * d).tdiv (be * d)) := by
    rw [w1, ix, l1, lI_mul, lI_mul, lI_mul, dv_pt c1]
  have k2 : pt (lI be * J 4 3) (J 7 1) = lI ((be * d).tdiv d) := by rw [ix, l1, lI_mul, dv_pt c2]
  unfold tl2 tlI2
  dsimp only
  rw [k1, k2, w0, u5, l0, ix]
  refine Prod.ext ?_ rfl
  show pt ((lI v.1 * lI d - lI ((v.2 * d * d).tdiv (be * d)) * lI h * lI ((be * d).tdiv d)) * lI 1) (lI be * lI d) = _
  rw [lI_mul, lI_mul, lI_mul, lI_sub, lI_mul, lI_mul, dv_pt c3]
set_option maxHeartbeats 400000 in
theorem cc3_I {J : sa_J} {f0 f1 f2 h d k l e : Int} (H : cfd J f0 f1 f2 h d k l e) {i j : Nat} (hi : i < 3) (hj : j < 3) (c : clC3 f0 f1 f2 h d k l e i j = true) : cc3 J i j = (lI (clI3 f0 f1 f2 h d k l e i j).1, lI (clI3 f0 f1 f2 h d k l e i j).2.1, lI (clI3 f0 f1 f2 h d k l e i j).2.2) := by
  have li := loI_J H (i := i) (by omega)
  have lj := loI_J H (i := j) (by omega)
  obtain ⟨p0, p1, p2, hu, l0, l1, l2, ix⟩ := H
  have u1 := hu (3 * i) (by omega)
  have u2 := hu (3 * i + 1) (by omega)
  have u3 := hu (3 * i + 2) (by omega)
  have v1 := hu (3 * j) (by omega)
  have v2 := hu (3 * j + 1) (by omega)
  have v3 := hu (3 * j + 2) (by omega)
  have u6 : J 6 3 = lI h := hu 3 (by decide)
  have u7 : J 6 6 = lI k := hu 6 (by decide)
  have u8 : J 6 7 = lI l := hu 7 (by decide)
  have z : ∀ a : Int64, (0 : Int64) + a = a := Int64.zero_add
  have w0 : wd3 (J 5) (ur (J 6) i) (ur (J 6) j) 0 = lI (cwI3 f0 f1 f2 h k l i j).1 := by
    show (0 + J 6 (3 * i) * J 6 (3 * j)) - ((0 + J 6 (3 * i + 1) * J 6 (3 * j + 2) + J 6 (3 * i + 2) * J 6 (3 * j + 1)) - (0 + J 6 (3 * i + 2) * J 6 (3 * j + 2)) * J 5 2) * J 5 0 = _
    simp only [z, u1, u2, u3, v1, v2, v3, p0, p1, p2, lI_mul, lI_sub, lI_add]; rfl
  have w1 : wd3 (J 5) (ur (J 6) i) (ur (J 6) j) 1 = lI (cwI3 f0 f1 f2 h k l i j).2.1 := by
    show (0 + J 6 (3 * i) * J 6 (3 * j + 1) + J 6 (3 * i + 1) * J 6 (3 * j)) - (0 + J 6 (3 * i + 2) * J 6 (3 * j + 2)) * J 5 0 - ((0 + J 6 (3 * i + 1) * J 6 (3 * j + 2) + J 6 (3 * i + 2) * J 6 (3 * j + 1)) - (0 + J 6 (3 * i + 2) * J 6 (3 * j + 2)) * J 5 2) * J 5 1 = _
    simp only [z, u1, u2, u3, v1, v2, v3, p0, p1, p2, lI_mul, lI_sub, lI_add]; rfl
  have w2 : wd3 (J 5) (ur (J 6) i) (ur (J 6) j) 2 = lI (cwI3 f0 f1 f2 h k l i j).2.2 := by
    show (0 + J 6 (3 * i) * J 6 (3 * j + 2) + J 6 (3 * i + 1) * J 6 (3 * j + 1) + J 6 (3 * i + 2) * J 6 (3 * j)) - (0 + J 6 (3 * i + 2) * J 6 (3 * j + 2)) * J 5 1 - ((0 + J 6 (3 * i + 1) * J 6 (3 * j + 2) + J 6 (3 * i + 2) * J 6 (3 * j + 1)) - (0 + J 6 (3 * i + 2) * J 6 (3 * j + 2)) * J 5 2) * J 5 2 = _
    simp only [z, u1, u2, u3, v1, v2, v3, p0, p1, p2, lI_mul, lI_sub, lI_add]; rfl
  unfold clC3 at c
  unfold cc3 clI3
  generalize wd3 (J 5) (ur (J 6) i) (ur (J 6) j) = w at *
  generalize cwI3 f0 f1 f2 h k l i j = v at *
  rw [li, lj, lI_mul]
  generalize loI d e i * loI d e j = be at *
  simp only [tlC3, Bool.and_eq_true] at c
  obtain ⟨⟨⟨⟨c1, c2⟩, c3⟩, c4⟩, c5⟩ := c
  unfold tl3 tlI3
  dsimp only
  rw [w0, w1, w2, u6, u7, u8, l0, l1, l2, ix]
  have k1 : pt (lI v.2.2 * lI (d * e) * lI e) (lI be * lI (d * e)) = lI ((v.2.2 * (d * e) * e).tdiv (be * (d * e))) := by
    rw [lI_mul, lI_mul, lI_mul, dv_pt c1]
  have k2 : pt (lI be * lI (d * e)) (lI e) = lI ((be * (d * e)).tdiv e) := by rw [lI_mul, dv_pt c2]
  have k3 : pt (lI be * lI (d * e)) (lI d) = lI ((be * (d * e)).tdiv d) := by rw [lI_mul, dv_pt c3]
  rw [k1, k2, k3]
  have k4 : pt ((lI v.2.1 * lI (d * e) - lI ((v.2.2 * (d * e) * e).tdiv (be * (d * e))) * lI l * lI ((be * (d * e)).tdiv e)) * lI d) (lI be * lI (d * e)) = lI (((v.2.1 * (d * e) - (v.2.2 * (d * e) * e).tdiv (be * (d * e)) * l * (be * (d * e)).tdiv e) * d).tdiv (be * (d * e))) := by
    rw [lI_mul, lI_mul, lI_mul, lI_sub, lI_mul, lI_mul, dv_pt c4]
  rw [k4]
  refine Prod.ext ?_ rfl
  show pt ((lI v.1 * lI (d * e) - lI _ * lI k * lI _ - lI _ * lI h * lI _) * lI 1) (lI be * lI (d * e)) = _
  simp only [lI_mul, lI_sub]
  rw [dv_pt c5]
