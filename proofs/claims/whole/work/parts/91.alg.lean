/-! numbers of a field by coordinates, over the whole numbers -/
abbrev V3 := Int × Int × Int
/-- the product by the table of degree 3 -/
def mu3 (s : Nat → Int) (x y : V3) : V3 :=
  (x.1 * y.1 + x.2.1 * y.2.1 * s 0 + (x.2.1 * y.2.2 + x.2.2 * y.2.1) * s 3 + x.2.2 * y.2.2 * s 6,
   x.1 * y.2.1 + x.2.1 * y.1 + x.2.1 * y.2.1 * s 1 + (x.2.1 * y.2.2 + x.2.2 * y.2.1) * s 4 + x.2.2 * y.2.2 * s 7,
   x.1 * y.2.2 + x.2.2 * y.1 + x.2.1 * y.2.1 * s 2 + (x.2.1 * y.2.2 + x.2.2 * y.2.1) * s 5 + x.2.2 * y.2.2 * s 8)
def mu2 (p q : Int) (x y : Int × Int) : Int × Int := (x.1 * y.1 + x.2 * y.2 * p, x.1 * y.2 + x.2 * y.1 + x.2 * y.2 * q)
theorem mu2_comm (p q : Int) (x y : Int × Int) : mu2 p q x y = mu2 p q y x := by
  unfold mu2; refine Prod.ext ?_ ?_ <;> dsimp only <;> grind
theorem mu2_assoc (p q : Int) (x y z : Int × Int) : mu2 p q (mu2 p q x y) z = mu2 p q x (mu2 p q y z) := by
  unfold mu2; refine Prod.ext ?_ ?_ <;> dsimp only <;> grind
theorem mu3_comm (s : Nat → Int) (x y : V3) : mu3 s x y = mu3 s y x := by
  unfold mu3; refine Prod.ext ?_ (Prod.ext ?_ ?_) <;> dsimp only <;> grind
theorem asc_of {x0 x1 x2 y0 y1 y2 z0 z1 z2 : Int} (h : asc x0 x1 x2 y0 y1 y2 z0 z1 z2 = true) : (y1 * x0 + y2 * y0 = x1 * y0 + x2 * z0) ∧ (y0 + y1 * x1 + y2 * y1 = x1 * y1 + x2 * z1) ∧ (y1 * x2 + y2 * y2 = x0 + x1 * y2 + x2 * z2) ∧ (z1 * x0 + z2 * y0 = y1 * y0 + y2 * z0) ∧ (z0 + z1 * x1 + z2 * y1 = y1 * y1 + y2 * z1) ∧ (z1 * x2 + z2 * y2 = y0 + y1 * y2 + y2 * z2) := by
  simp only [asc, Bool.and_eq_true, decide_eq_true_eq] at h
  exact ⟨h.1.1.1.1.1, h.1.1.1.1.2, h.1.1.1.2, h.1.1.2, h.1.2, h.2⟩
theorem mu3_assoc {s : Nat → Int} (h : asc (s 0) (s 1) (s 2) (s 3) (s 4) (s 5) (s 6) (s 7) (s 8) = true) (x y z : V3) : mu3 s (mu3 s x y) z = mu3 s x (mu3 s y z) := by
  obtain ⟨h1, h2, h3, h4, h5, h6⟩ := asc_of h
  obtain ⟨x0, x1, x2⟩ := x
  obtain ⟨y0, y1, y2⟩ := y
  obtain ⟨z0, z1, z2⟩ := z
  unfold mu3
  generalize s 0 = a at *
  generalize s 1 = b at *
  generalize s 2 = c at *
  generalize s 3 = d at *
  generalize s 4 = e at *
  generalize s 5 = f at *
  generalize s 6 = g at *
  generalize s 7 = i at *
  generalize s 8 = j at *
  refine Prod.ext ?_ (Prod.ext ?_ ?_) <;> dsimp only
  · have k : ((x1 * y1 * z2 - x2 * y1 * z1) * (b * d + c * g - (e * a + f * d)) + (x1 * y2 * z2 - x2 * y2 * z1) * (e * d + f * g - (i * a + j * d))) = 0 := by rw [h1, h4]; grind
    grind
  · have k : ((x1 * y1 * z2 - x2 * y1 * z1) * (b * e + c * i - (d + e * b + f * e)) + (x1 * y2 * z2 - x2 * y2 * z1) * (e * e + f * i - (g + i * b + j * e))) = 0 := by rw [h2, h5]; grind
    grind
  · have k : ((x1 * y1 * z2 - x2 * y1 * z1) * (a + b * f + c * j - (e * c + f * f)) + (x1 * y2 * z2 - x2 * y2 * z1) * (d + e * f + f * j - (i * c + j * f))) = 0 := by rw [h3, h6]; grind
    grind
