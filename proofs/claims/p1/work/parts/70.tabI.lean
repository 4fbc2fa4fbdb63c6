/-- a division that stays in range, by a divisor above 0 -/
def dv (a b : Int) : Bool := decide (-4611686018427387904 ≤ a) && decide (a ≤ 4611686018427387904) && decide (1 ≤ b) && decide (b ≤ 4611686018427387904)
theorem dv_div {a b : Int} (h : dv a b = true) : lI a / lI b = lI (a.tdiv b) := by
  simp only [dv, Bool.and_eq_true, decide_eq_true_eq] at h
  exact lI_div ⟨by omega, by omega⟩ ⟨by omega, by omega⟩ (by omega)
theorem dv_ne {a b : Int} (h : dv a b = true) : ¬ lI b = 0 := by
  simp only [dv, Bool.and_eq_true, decide_eq_true_eq] at h
  intro e
  have := (lI_eq (a := b) (b := 0) ⟨by omega, by omega⟩ ⟨by omega, by omega⟩).mp e
  omega
def bsI (h d k l e : Int) (i j : Nat) : Int := match i, j with
  | 0, 0 => d * e
  | 0, _ => 0
  | 1, 0 => h * e
  | 1, 1 => e
  | 1, _ => 0
  | _, 0 => k * d
  | _, 1 => l * d
  | _, _ => d
def twI2 (b : Nat → Nat → Int) (i j t : Nat) : Int := match t with
  | 0 => 0 + b i 0 * b j 0
  | 1 => 0 + b i 0 * b j 1 + b i 1 * b j 0
  | 2 => 0 + b i 1 * b j 1
  | _ => 0
def twI3 (b : Nat → Nat → Int) (i j t : Nat) : Int := match t with
  | 0 => 0 + b i 0 * b j 0
  | 1 => 0 + b i 0 * b j 1 + b i 1 * b j 0
  | 2 => 0 + b i 0 * b j 2 + b i 1 * b j 1 + b i 2 * b j 0
  | 3 => 0 + b i 1 * b j 2 + b i 2 * b j 1
  | 4 => 0 + b i 2 * b j 2
  | _ => 0
/-- what the reference's field is told by -/
def rfd (I : sa_I) (f0 f1 f2 h d k l e : Int) : Prop := I 0 2 = iI f0 ∧ I 0 3 = iI f1 ∧ I 0 4 = iI f2 ∧ I 0 5 = iI h ∧ I 0 6 = iI d ∧ I 0 7 = iI k ∧ I 0 8 = iI l ∧ I 0 9 = iI e ∧ rgi f0 ∧ rgi f1 ∧ rgi f2 ∧ rgi h ∧ rgi d ∧ rgi k ∧ rgi l ∧ rgi e
theorem bsL_I {I : sa_I} {f0 f1 f2 h d k l e : Int} (H : rfd I f0 f1 f2 h d k l e) (i j : Nat) : bsL I i j = lI (bsI h d k l e i j) := by
  obtain ⟨_, _, _, e5, e6, e7, e8, e9, _, _, _, r5, r6, r7, r8, r9⟩ := H
  match i, j with
  | 0, 0 => show (I 0 6).toInt64 * (I 0 9).toInt64 = lI (d * e); rw [e6, e9, iI_lI r6, iI_lI r9, lI_mul]
  | 0, 1 => rfl
  | 0, _ + 2 => rfl
  | 1, 0 => show (I 0 5).toInt64 * (I 0 9).toInt64 = lI (h * e); rw [e5, e9, iI_lI r5, iI_lI r9, lI_mul]
  | 1, 1 => show (I 0 9).toInt64 = lI e; rw [e9, iI_lI r9]
  | 1, _ + 2 => rfl
  | _ + 2, 0 => show (I 0 7).toInt64 * (I 0 6).toInt64 = lI (k * d); rw [e7, e6, iI_lI r7, iI_lI r6, lI_mul]
  | _ + 2, 1 => show (I 0 8).toInt64 * (I 0 6).toInt64 = lI (l * d); rw [e8, e6, iI_lI r8, iI_lI r6, lI_mul]
  | _ + 2, _ + 2 => show (I 0 6).toInt64 = lI d; rw [e6, iI_lI r6]
theorem tw2_I {b : Nat → Nat → Int64} {c : Nat → Nat → Int} (h : ∀ i j, b i j = lI (c i j)) (i j t : Nat) : tw2 b i j t = lI (twI2 c i j t) := by
  have z : (0 : Int64) = lI 0 := rfl
  match t with
  | 0 => simp only [tw2, twI2, h, z, lI_mul, lI_add]
  | 1 => simp only [tw2, twI2, h, z, lI_mul, lI_add]
  | 2 => simp only [tw2, twI2, h, z, lI_mul, lI_add]
  | _ + 3 => rfl
theorem tw3_I {b : Nat → Nat → Int64} {c : Nat → Nat → Int} (h : ∀ i j, b i j = lI (c i j)) (i j t : Nat) : tw3 b i j t = lI (twI3 c i j t) := by
  have z : (0 : Int64) = lI 0 := rfl
  match t with
  | 0 => simp only [tw3, twI3, h, z, lI_mul, lI_add]
  | 1 => simp only [tw3, twI3, h, z, lI_mul, lI_add]
  | 2 => simp only [tw3, twI3, h, z, lI_mul, lI_add]
  | 3 => simp only [tw3, twI3, h, z, lI_mul, lI_add]
  | 4 => simp only [tw3, twI3, h, z, lI_mul, lI_add]
  | _ + 5 => rfl
def lwI2 (f0 f1 h d k l e : Int) (i j : Nat) := loI2 f0 f1 (twI2 (bsI h d k l e) i j)
def lwI3 (f0 f1 f2 h d k l e : Int) (i j : Nat) := loI3 f0 f1 f2 (twI3 (bsI h d k l e) i j)
def tzI (e q p2 : Int) : Int := (p2 * e).tdiv q
def tyI (d l e q p1 z : Int) : Int := ((p1 - z * l * q.tdiv e) * d).tdiv q
def txI (h d k e q p0 y z : Int) : Int := (p0 - y * h * q.tdiv d - z * k * q.tdiv e).tdiv q
/-- the reference's table by whole numbers, and whether each division stays in range -/
def tbI2 (f0 f1 h d k l e : Int) (i j : Nat) : Int × Int × Int :=
  let q := d * e * (d * e)
  let p := lwI2 f0 f1 h d k l e i j
  let y := tyI d l e q p.2 0
  (txI h d k e q p.1 y 0, y, 0)
def tbC2 (f0 f1 h d k l e : Int) (i j : Nat) : Bool :=
  let q := d * e * (d * e)
  let p := lwI2 f0 f1 h d k l e i j
  let y := tyI d l e q p.2 0
  dv q e && dv q d && dv ((p.2 - 0 * l * q.tdiv e) * d) q && dv (p.1 - y * h * q.tdiv d - 0 * k * q.tdiv e) q
def tbI3 (f0 f1 f2 h d k l e : Int) (i j : Nat) : Int × Int × Int :=
  let q := d * e * (d * e)
  let p := lwI3 f0 f1 f2 h d k l e i j
  let z := tzI e q p.2.2
  let y := tyI d l e q p.2.1 z
  (txI h d k e q p.1 y z, y, z)
def tbC3 (f0 f1 f2 h d k l e : Int) (i j : Nat) : Bool :=
  let q := d * e * (d * e)
  let p := lwI3 f0 f1 f2 h d k l e i j
  let z := tzI e q p.2.2
  let y := tyI d l e q p.2.1 z
  dv q e && dv q d && dv (p.2.2 * e) q && dv ((p.2.1 - z * l * q.tdiv e) * d) q && dv (p.1 - y * h * q.tdiv d - z * k * q.tdiv e) q
theorem tb2_I {I : sa_I} {f0 f1 f2 h d k l e : Int} (H : rfd I f0 f1 f2 h d k l e) {i j : Nat} (c : tbC2 f0 f1 h d k l e i j = true) : (tb2L I ((I 0 6).toInt64 * (I 0 9).toInt64 * ((I 0 6).toInt64 * (I 0 9).toInt64)) i j).1 = lI (tbI2 f0 f1 h d k l e i j).1 ∧ (tb2L I ((I 0 6).toInt64 * (I 0 9).toInt64 * ((I 0 6).toInt64 * (I 0 9).toInt64)) i j).2.1 = lI (tbI2 f0 f1 h d k l e i j).2.1 ∧ (tb2L I ((I 0 6).toInt64 * (I 0 9).toInt64 * ((I 0 6).toInt64 * (I 0 9).toInt64)) i j).2.2 = 0 := by
  have hb := bsL_I H
  obtain ⟨e2, e3, e4, e5, e6, e7, e8, e9, r2, r3, r4, r5, r6, r7, r8, r9⟩ := H
  obtain ⟨w1, w2⟩ := lo2_I (a := f0) (b := f1) (tw2_I hb i j)
  have w1 : (lw2 I i j).1 = lI (lwI2 f0 f1 h d k l e i j).1 := by rw [lw2, e2, e3, iI_lI r2, iI_lI r3]; exact w1
  have w2 : (lw2 I i j).2 = lI (lwI2 f0 f1 h d k l e i j).2 := by rw [lw2, e2, e3, iI_lI r2, iI_lI r3]; exact w2
  simp only [tbC2, Bool.and_eq_true] at c
  obtain ⟨⟨⟨c1, c2⟩, c3⟩, c4⟩ := c
  have z : (0 : Int64) = lI 0 := rfl
  have hY : tvY I (lI (d * e * (d * e))) (lI (lwI2 f0 f1 h d k l e i j).2) 0 = lI (tyI d l e (d * e * (d * e)) (lwI2 f0 f1 h d k l e i j).2 0) := by
    simp only [tvY, tyI, e8, e9, e6, iI_lI r8, iI_lI r9, iI_lI r6, z, dv_div c1, lI_mul, lI_sub, dv_div c3]
  simp only [tb2L, tbI2, e6, e9, iI_lI r6, iI_lI r9, lI_mul, w1, w2, hY]
  refine ⟨?_, trivial, trivial⟩
  simp only [tvX, txI, e5, e6, e7, e9, iI_lI r5, iI_lI r6, iI_lI r7, iI_lI r9, z, dv_div c1, dv_div c2, lI_mul, lI_sub, dv_div c4]
theorem tb3_I {I : sa_I} {f0 f1 f2 h d k l e : Int} (H : rfd I f0 f1 f2 h d k l e) {i j : Nat} (c : tbC3 f0 f1 f2 h d k l e i j = true) : (tb3L I ((I 0 6).toInt64 * (I 0 9).toInt64 * ((I 0 6).toInt64 * (I 0 9).toInt64)) i j).1 = lI (tbI3 f0 f1 f2 h d k l e i j).1 ∧ (tb3L I ((I 0 6).toInt64 * (I 0 9).toInt64 * ((I 0 6).toInt64 * (I 0 9).toInt64)) i j).2.1 = lI (tbI3 f0 f1 f2 h d k l e i j).2.1 ∧ (tb3L I ((I 0 6).toInt64 * (I 0 9).toInt64 * ((I 0 6).toInt64 * (I 0 9).toInt64)) i j).2.2 = lI (tbI3 f0 f1 f2 h d k l e i j).2.2 := by
  have hb := bsL_I H
  obtain ⟨e2, e3, e4, e5, e6, e7, e8, e9, r2, r3, r4, r5, r6, r7, r8, r9⟩ := H
  obtain ⟨w1, w2, w3⟩ := lo3_I (a := f0) (b := f1) (c := f2) (tw3_I hb i j)
  have w1 : (lw3 I i j).1 = lI (lwI3 f0 f1 f2 h d k l e i j).1 := by rw [lw3, e2, e3, e4, iI_lI r2, iI_lI r3, iI_lI r4]; exact w1
  have w2 : (lw3 I i j).2.1 = lI (lwI3 f0 f1 f2 h d k l e i j).2.1 := by rw [lw3, e2, e3, e4, iI_lI r2, iI_lI r3, iI_lI r4]; exact w2
  have w3 : (lw3 I i j).2.2 = lI (lwI3 f0 f1 f2 h d k l e i j).2.2 := by rw [lw3, e2, e3, e4, iI_lI r2, iI_lI r3, iI_lI r4]; exact w3
  simp only [tbC3, Bool.and_eq_true] at c
  obtain ⟨⟨⟨⟨c1, c2⟩, c5⟩, c3⟩, c4⟩ := c
  have hZ : tvZ I (lI (d * e * (d * e))) (lI (lwI3 f0 f1 f2 h d k l e i j).2.2) = lI (tzI e (d * e * (d * e)) (lwI3 f0 f1 f2 h d k l e i j).2.2) := by
    simp only [tvZ, tzI, e9, iI_lI r9, lI_mul, dv_div c5]
  have hY : tvY I (lI (d * e * (d * e))) (lI (lwI3 f0 f1 f2 h d k l e i j).2.1) (lI (tzI e (d * e * (d * e)) (lwI3 f0 f1 f2 h d k l e i j).2.2)) = lI (tyI d l e (d * e * (d * e)) (lwI3 f0 f1 f2 h d k l e i j).2.1 (tzI e (d * e * (d * e)) (lwI3 f0 f1 f2 h d k l e i j).2.2)) := by
    simp only [tvY, tyI, e8, e9, e6, iI_lI r8, iI_lI r9, iI_lI r6, dv_div c1, lI_mul, lI_sub, dv_div c3]
  simp only [tb3L, tbI3, e6, e9, iI_lI r6, iI_lI r9, lI_mul, w1, w2, w3, hZ, hY]
  refine ⟨?_, trivial, trivial⟩
  simp only [tvX, txI, e5, e6, e7, e9, iI_lI r5, iI_lI r6, iI_lI r7, iI_lI r9, dv_div c1, dv_div c2, lI_mul, lI_sub, dv_div c4]
