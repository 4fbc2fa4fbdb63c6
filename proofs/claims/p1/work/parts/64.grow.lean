/-- a number between two bounds -/
def bd (a A : Int) : Prop := -A ≤ a ∧ a ≤ A
theorem bd_add {a b A B : Int} (ha : bd a A) (hb : bd b B) : bd (a + b) (A + B) := ⟨by have := ha.1; have := hb.1; omega, by have := ha.2; have := hb.2; omega⟩
theorem bd_sub {a b A B : Int} (ha : bd a A) (hb : bd b B) : bd (a - b) (A + B) := ⟨by have := ha.1; have := hb.2; omega, by have := ha.2; have := hb.1; omega⟩
theorem bd_neg {a A : Int} (ha : bd a A) : bd (-a) A := ⟨by have := ha.2; omega, by have := ha.1; omega⟩
theorem bd_mono {a A B : Int} (ha : bd a A) (h : A ≤ B) : bd a B := ⟨by have := ha.1; omega, by have := ha.2; omega⟩
theorem bd_abs {a A : Int} : bd a A ↔ (a.natAbs : Int) ≤ A := by unfold bd; omega
theorem bd_mul {a b A B : Int} (ha : bd a A) (hb : bd b B) : bd (a * b) (A * B) := by
  rw [bd_abs] at *
  rw [Int.natAbs_mul]
  have h := Int.mul_le_mul ha hb (by omega) (by omega)
  simpa using h
theorem bd_rg {a A : Int} (h : bd a A) (hA : A < 9223372036854775808) : rg a := ⟨by have := h.1; omega, by have := h.2; omega⟩
theorem bd_of {a A : Int} (h0 : 0 ≤ a) (h : a ≤ A) : bd a A := ⟨by omega, h⟩
/-- rows of the reference's search: three numbers and what they are by -/
abbrev Q4 := Int × Int × Int × Int
def at4 (J : sa_J) (q : Nat) (t : Q4) : Prop := J q 0 = lI t.1 ∧ J q 1 = lI t.2.1 ∧ J q 2 = lI t.2.2.1 ∧ J q 3 = lI t.2.2.2
def sm (a : Int) : Bool := decide (-1000 ≤ a) && decide (a ≤ 1000)
def ok4 (t : Q4) : Bool := sm t.1 && sm t.2.1 && sm t.2.2.1 && sm t.2.2.2 && decide (1 ≤ t.2.2.2)
theorem sm_bd {a : Int} (h : sm a = true) : bd a 1000 := by
  simp only [sm, Bool.and_eq_true, decide_eq_true_eq] at h; exact h
theorem ok4_bd {t : Q4} (h : ok4 t = true) : bd t.1 1000 ∧ bd t.2.1 1000 ∧ bd t.2.2.1 1000 ∧ bd t.2.2.2 1000 ∧ 1 ≤ t.2.2.2 := by
  simp only [ok4, Bool.and_eq_true, decide_eq_true_eq] at h
  exact ⟨sm_bd h.1.1.1.1, sm_bd h.1.1.1.2, sm_bd h.1.1.2, sm_bd h.1.2, h.2⟩
def mxA (r f : Q4) (y x p : Int) : Q4 := (r.1 * f.2.2.2 + y * f.1 * r.2.2.2 + x * (r.2.2.2 * f.2.2.2), r.2.1 * f.2.2.2 + y * f.2.1 * r.2.2.2, r.2.2.1 * f.2.2.2 + y * f.2.2.1 * r.2.2.2, r.2.2.2 * f.2.2.2 * p)
def mxG (t : Q4) : Nat := Nat.gcd (Nat.gcd (Nat.gcd t.2.2.2.natAbs t.1.natAbs) t.2.1.natAbs) t.2.2.1.natAbs
def mxC (t : Q4) (g : Int) : Q4 := (t.1.tdiv g, t.2.1.tdiv g, t.2.2.1.tdiv g, t.2.2.2.tdiv g)
def mxI (r f : Q4) (y x p : Int) : Q4 := mxC (mxA r f y x p) (mxG (mxA r f y x p))
theorem mT_I {J : sa_J} {q : Nat} {r f : Q4} {y x : Int} (hr : at4 J q r) (hf : at4 J 5 f) (p : Int) : mT (J q) (J 5) (lI y) (lI x) 0 = lI (mxA r f y x p).1 ∧ mT (J q) (J 5) (lI y) (lI x) 1 = lI (mxA r f y x p).2.1 ∧ mT (J q) (J 5) (lI y) (lI x) 2 = lI (mxA r f y x p).2.2.1 := by
  obtain ⟨a0, a1, a2, a3⟩ := hr
  obtain ⟨b0, b1, b2, b3⟩ := hf
  refine ⟨?_, ?_, ?_⟩
  · simp only [mT, a0, a3, b0, b3, lI_mul, lI_add, if_true, mxA]
  · simp only [mT, a1, a3, b1, b3, lI_mul, lI_add, mxA]
    rw [if_neg (by decide)]; exact Int64.add_zero _
  · simp only [mT, a2, a3, b2, b3, lI_mul, lI_add, mxA]
    rw [if_neg (by decide)]; exact Int64.add_zero _
theorem mU_I {J : sa_J} {q : Nat} {r f : Q4} {y x p : Int} (hr : at4 J q r) (hf : at4 J 5 f) (hp : rgi p) : mU (J q) (J 5) (iI p) = lI (mxA r f y x p).2.2.2 := by
  obtain ⟨a0, a1, a2, a3⟩ := hr
  obtain ⟨b0, b1, b2, b3⟩ := hf
  simp only [mU, a3, b3, iI_lI hp, lI_mul, mxA]
theorem mxA_bd {r f : Q4} {y x p : Int} (hr : ok4 r = true) (hf : ok4 f = true) (hy : bd y 20000) (hx : bd x 20000) (hp : bd p 20000) : bd (mxA r f y x p).1 100000000000 ∧ bd (mxA r f y x p).2.1 100000000000 ∧ bd (mxA r f y x p).2.2.1 100000000000 ∧ bd (mxA r f y x p).2.2.2 100000000000 := by
  obtain ⟨a0, a1, a2, a3, _⟩ := ok4_bd hr
  obtain ⟨b0, b1, b2, b3, _⟩ := ok4_bd hf
  refine ⟨?_, ?_, ?_, ?_⟩
  · exact bd_mono (bd_add (bd_add (bd_mul a0 b3) (bd_mul (bd_mul hy b0) a3)) (bd_mul hx (bd_mul a3 b3))) (by decide)
  · exact bd_mono (bd_add (bd_mul a1 b3) (bd_mul (bd_mul hy b1) a3)) (by decide)
  · exact bd_mono (bd_add (bd_mul a2 b3) (bd_mul (bd_mul hy b2) a3)) (by decide)
  · exact bd_mono (bd_mul (bd_mul a3 b3) hp) (by decide)
theorem gL_I {a b : Int} (ha : bd a 100000000000) (hb : bd b 100000000000) : gL (lI a) (lI b) = lI (Nat.gcd a.natAbs b.natAbs : Nat) := by
  unfold gL
  rw [lI_toInt (bd_rg ha (by decide)), lI_toInt (bd_rg hb (by decide))]; rfl
theorem gcd_bd {a b : Int} (ha : bd a 100000000000) (h0 : 0 < a) : bd (Nat.gcd a.natAbs b.natAbs : Nat) 100000000000 ∧ 0 < ((Nat.gcd a.natAbs b.natAbs : Nat) : Int) := by
  have h1 : Nat.gcd a.natAbs b.natAbs ≤ a.natAbs := Nat.le_of_dvd (by omega) (Nat.gcd_dvd_left _ _)
  have h2 : 0 < Nat.gcd a.natAbs b.natAbs := Nat.gcd_pos_of_pos_left _ (by omega)
  have h3 := ha.2
  exact ⟨⟨by omega, by omega⟩, by omega⟩
theorem mxA_pos {r f : Q4} {y x p : Int} (hr : ok4 r = true) (hf : ok4 f = true) (hp : 1 ≤ p) : 0 < (mxA r f y x p).2.2.2 := by
  have a := (ok4_bd hr).2.2.2.2
  have b := (ok4_bd hf).2.2.2.2
  exact Int.mul_pos (Int.mul_pos (by omega) (by omega)) (by omega)
theorem mG_I {J : sa_J} {q : Nat} {r f : Q4} {y x p : Int} (hr : at4 J q r) (hf : at4 J 5 f) (or : ok4 r = true) (of : ok4 f = true) (hy : bd y 20000) (hx : bd x 20000) (hp : bd p 20000) (h1 : 1 ≤ p) : mG (J q) (J 5) (lI y) (lI x) (iI p) = lI (mxG (mxA r f y x p)) ∧ bd (mxG (mxA r f y x p)) 100000000000 ∧ 0 < (mxG (mxA r f y x p) : Int) := by
  have rp : rgi p := ⟨by have := hp.1; omega, by have := hp.2; omega⟩
  obtain ⟨t0, t1, t2⟩ := mT_I (y := y) (x := x) hr hf p
  have t3 := mU_I (y := y) (x := x) hr hf rp
  obtain ⟨b0, b1, b2, b3⟩ := mxA_bd (y := y) (x := x) or of hy hx hp
  have hpos := mxA_pos (y := y) (x := x) or of h1
  unfold mG
  rw [t0, t1, t2, t3, gL_I b3 b0]
  obtain ⟨c0, d0⟩ := gcd_bd (b := (mxA r f y x p).1) b3 hpos
  rw [gL_I c0 b1]
  obtain ⟨c1, d1⟩ := gcd_bd (b := (mxA r f y x p).2.1) c0 d0
  rw [gL_I c1 b2]
  obtain ⟨c2, d2⟩ := gcd_bd (b := (mxA r f y x p).2.2.1) c1 d1
  exact ⟨rfl, c2, d2⟩
section MX
variable {l : Launch} {D : va_G} {aI aL : ClassId} {ad : Nat → Nat} {I : sa_I} {J : sa_J}
def mxP (I : sa_I) (J : sa_J) (t : Q4) : sa_P := fun r I1 J1 => r = none ∧ I1 = I ∧ at4 J1 7 t ∧ ∀ q, q ≠ 7 → J1 q = J q
theorem c_mixI5 {f : Q4} {y x p : Int} (hf : at4 J 5 f) (of : ok4 f = true) (hy : bd y 20000) (hx : bd x 20000) (hp : bd p 20000) (h1 : 1 ≤ p) : Con (ER l D aI aL ad) M_X7_mix yX7_mix [.ref (ad 0), .ref (ad 5), .long (lI y), .long (lI x), .int (iI p)] I J (mxP I J (mxI f f y x p)) := by
  have rp : rgi p := ⟨by have := hp.1; omega, by have := hp.2; omega⟩
  obtain ⟨t0, t1, t2⟩ := mT_I (y := y) (x := x) hf hf p
  have t3 := mU_I (y := y) (x := x) hf hf rp
  obtain ⟨b0, b1, b2, b3⟩ := mxA_bd (y := y) (x := x) of of hy hx hp
  obtain ⟨g0, g1, g2⟩ := mG_I hf hf of of hy hx hp h1
  have ne : ∀ {a : Int}, bd a 100000000000 → (lI a).toInt ≠ -9223372036854775808 := by
    intro a h; rw [lI_toInt (bd_rg h (by decide))]; have := h.1; omega
  refine Con.mono ?_ (c_mix5 (by rw [t3]; exact ne b3) (by rw [t0]; exact ne b0) (by rw [t1]; exact ne b1) (by rw [t2]; exact ne b2) (by rw [g0]; exact fun e => by have := (lI_eq (bd_rg g1 (by decide)) (b := 0) ⟨by omega, by omega⟩).mp e; omega))
  rintro r I1 J1 ⟨e1, e2, e3, e4, e5, e6, e7⟩
  refine ⟨e1, e2, ⟨?_, ?_, ?_, ?_⟩, e7⟩
  · rw [e3, t0, g0, lI_div (bd_rg b0 (by decide)) (bd_rg g1 (by decide)) g2]; rfl
  · rw [e4, t1, g0, lI_div (bd_rg b1 (by decide)) (bd_rg g1 (by decide)) g2]; rfl
  · rw [e5, t2, g0, lI_div (bd_rg b2 (by decide)) (bd_rg g1 (by decide)) g2]; rfl
  · rw [e6, t3, g0, lI_div (bd_rg b3 (by decide)) (bd_rg g1 (by decide)) g2]; rfl
theorem c_mixI6 {s f : Q4} {y x p : Int} (hs : at4 J 6 s) (os : ok4 s = true) (hf : at4 J 5 f) (of : ok4 f = true) (hy : bd y 20000) (hx : bd x 20000) (hp : bd p 20000) (h1 : 1 ≤ p) : Con (ER l D aI aL ad) M_X7_mix yX7_mix [.ref (ad 0), .ref (ad 6), .long (lI y), .long (lI x), .int (iI p)] I J (mxP I J (mxI s f y x p)) := by
  have rp : rgi p := ⟨by have := hp.1; omega, by have := hp.2; omega⟩
  obtain ⟨t0, t1, t2⟩ := mT_I (y := y) (x := x) hs hf p
  have t3 := mU_I (y := y) (x := x) hs hf rp
  obtain ⟨b0, b1, b2, b3⟩ := mxA_bd (y := y) (x := x) os of hy hx hp
  obtain ⟨g0, g1, g2⟩ := mG_I hs hf os of hy hx hp h1
  have ne : ∀ {a : Int}, bd a 100000000000 → (lI a).toInt ≠ -9223372036854775808 := by
    intro a h; rw [lI_toInt (bd_rg h (by decide))]; have := h.1; omega
  refine Con.mono ?_ (c_mix6 (by rw [t3]; exact ne b3) (by rw [t0]; exact ne b0) (by rw [t1]; exact ne b1) (by rw [t2]; exact ne b2) (by rw [g0]; exact fun e => by have := (lI_eq (bd_rg g1 (by decide)) (b := 0) ⟨by omega, by omega⟩).mp e; omega))
  rintro r I1 J1 ⟨e1, e2, e3, e4, e5, e6, e7⟩
  refine ⟨e1, e2, ⟨?_, ?_, ?_, ?_⟩, e7⟩
  · rw [e3, t0, g0, lI_div (bd_rg b0 (by decide)) (bd_rg g1 (by decide)) g2]; rfl
  · rw [e4, t1, g0, lI_div (bd_rg b1 (by decide)) (bd_rg g1 (by decide)) g2]; rfl
  · rw [e5, t2, g0, lI_div (bd_rg b2 (by decide)) (bd_rg g1 (by decide)) g2]; rfl
  · rw [e6, t3, g0, lI_div (bd_rg b3 (by decide)) (bd_rg g1 (by decide)) g2]; rfl
end MX
