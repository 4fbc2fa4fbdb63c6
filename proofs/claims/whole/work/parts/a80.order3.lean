/-! the run of orders by forms alone -/
theorem prs_iff {x y a e c d : Int} {H : V3 → Prop} : (∀ i, i < 2 → ∀ j, j < 2 → H (muv 2 (T2 x y) (rowV (smI a e) i) (rowV (smI c d) j))) ↔ (H (a * c, 0, 0) ∧ H (a * d, a, 0) ∧ H (c * e, c, 0) ∧ H (e * d + x, e + d + y, 0)) := by
  have m00 : muv 2 (T2 x y) (rowV (smI a e) 0) (rowV (smI c d) 0) = (a * c, 0, 0) := by rw [muv2]; exact v3_eq (by show a * c + 0 * 0 * x = a * c; omega) (by show a * 0 + 0 * c + 0 * 0 * y = 0; omega) (by show (0 : Int) * 0 = 0; rfl)
  have m01 : muv 2 (T2 x y) (rowV (smI a e) 0) (rowV (smI c d) 1) = (a * d, a, 0) := by rw [muv2]; exact v3_eq (by show a * d + 0 * 1 * x = a * d; omega) (by show a * 1 + 0 * d + 0 * 1 * y = a; omega) (by show (0 : Int) * 0 = 0; rfl)
  have m10 : muv 2 (T2 x y) (rowV (smI a e) 1) (rowV (smI c d) 0) = (c * e, c, 0) := by rw [muv2]; exact v3_eq (by show e * c + 1 * 0 * x = c * e; rw [Int.mul_comm e c]; omega) (by show e * 0 + 1 * c + 1 * 0 * y = c; omega) (by show (0 : Int) * 0 = 0; rfl)
  have m11 : muv 2 (T2 x y) (rowV (smI a e) 1) (rowV (smI c d) 1) = (e * d + x, e + d + y, 0) := by rw [muv2]; exact v3_eq (by show e * d + 1 * 1 * x = e * d + x; omega) (by show e * 1 + 1 * d + 1 * 1 * y = e + d + y; omega) (by show (0 : Int) * 0 = 0; rfl)
  constructor
  · intro q
    refine ⟨?_, ?_, ?_, ?_⟩
    · rw [← m00]; exact q 0 (by decide) 0 (by decide)
    · rw [← m01]; exact q 0 (by decide) 1 (by decide)
    · rw [← m10]; exact q 1 (by decide) 0 (by decide)
    · rw [← m11]; exact q 1 (by decide) 1 (by decide)
  · rintro ⟨q1, q2, q3, q4⟩ i hi j hj
    have hi' : i = 0 ∨ i = 1 := by omega
    have hj' : j = 0 ∨ j = 1 := by omega
    rcases hi' with rfl | rfl <;> rcases hj' with rfl | rfl
    · rw [m00]; exact q1
    · rw [m01]; exact q2
    · rw [m10]; exact q3
    · rw [m11]; exact q4
/-- the product's rows are an ideal's -/
theorem prd_ideal {x y a e c d r0 r3 r4 : Int} (hb : bd x 200 ∧ bd y 20) (hX : IdR 2 (T2 x y) (smI a e)) (hY : IdR 2 (T2 x y) (smI c d)) (ha : 0 < a ∧ a ≤ 90) (hc : 0 < c ∧ c ≤ 90) (h : prdZ x y a e c d = some (r0, r3, r4)) : IdR 2 (T2 x y) (rwI r0 r3 r4) := by
  have rr : Rg 2 (T2 x y) := Or.inl ⟨rfl, x, y, rfl, hb.1, hb.2⟩
  obtain ⟨hp, key⟩ := prdZ_of h
  have P2 : Prod2 2 (T2 x y) (smI a e) (smI c d) (rwI r0 r3 r4) := by
    intro H g
    rw [prs_iff, key H g]
    have eR : In3 H (rwI r0 r3 r4) ↔ (H (r0, 0, 0) ∧ H (r3, r4, 0) ∧ H (0, 0, 1)) := Iff.rfl
    rw [eR]
    exact ⟨fun ⟨p1, p2, q⟩ => ⟨fun _ => q, p1, p2⟩, fun ⟨q, p1, p2⟩ => ⟨p1, p2, q rfl⟩⟩
  refine ⟨rwI_Hm hp, fun _ => ⟨rfl, rfl, rfl⟩, P2.idl rr (hX.ok rr) (hY.ok rr) hX.2.2.1, ?_⟩
  obtain ⟨g1, g2, _, _⟩ := (key _ (Sp_grp (rwI r0 r3 r4))).mpr ⟨(Sp_in (rwI r0 r3 r4)).1, (Sp_in (rwI r0 r3 r4)).2.1⟩
  have l0 : r0 ≤ a * c := by
    obtain ⟨i, j, k, e1, e2, e3⟩ := g1
    have e1 : a * c = i * r0 + j * r3 + k * 0 := e1
    have e2 : 0 = j * r4 + k * 0 := e2
    have j0 : j = 0 := mul_zero_pos hp.2.1 (by omega)
    rw [j0] at e1
    have ac : 0 < a * c := Int.mul_pos ha.1 hc.1
    refine pos_le_of_mul hp.1 ac (j := i) (by omega)
  have l4 : r4 ≤ a := by
    obtain ⟨i, j, k, e1, e2, e3⟩ := g2
    have e2 : a = j * r4 + k * 0 := e2
    exact pos_le_of_mul hp.2.1 ha.1 (j := j) (by omega)
  show r0 * r4 * 1 ≤ 1000000
  have m1 : a * c ≤ 90 * 90 := Int.mul_le_mul ha.2 hc.2 (by omega) (by omega)
  have m2 : r0 * r4 ≤ 90 * 90 * 90 := Int.mul_le_mul (by omega) (by omega) (by omega) (by omega)
  omega
/-- the form of the product of the ideals of two forms with a above 0 -/
def prF (x y : Int) (g h : F3) : Option F3 := match prdZ x y g.1 (smE y g) h.1 (smE y h) with
  | none => none
  | some (r0, r3, r4) => some (pfR (T2 x y) (rwI r0 r3 r4))
/-- the class's run: many, or none if it does not end -/
def ordC (D x y goal : Int) (base : F3) : Nat → F3 → Int → Nat → Option Nat
  | 0, _, _, _ => none
  | k + 1, pw, rc, m => if rc = goal then some m else match prF x y pw base with
    | none => none
    | some q => ordC D x y goal base k (posF D (RD D q)) (clsZ D q) (m + 1)
/-- the reference's run -/
def ordR (D x y goal : Int) (base : F3) : Nat → Int → Nat → Option Nat
  | 0, _, _ => none
  | k + 1, now, m => if now = goal then some m else if now < 0 then none else match (LF D)[now.toNat]? with
    | none => none
    | some g => match prF x y (posF D g) base with
      | none => none
      | some q => ordR D x y goal base k (clsZ D q) (m + 1)
/-- reduced forms have a small a -/
theorem red_a {D : Int} (hD : DOK D) {f : F3} (hF : FI D f) (hr : rdB D f.1 f.2.1 f.2.2 = true) : (posF D f).1 ≤ 90 := by
  have nz : D ≠ 0 := fun q => hD.nsq 0 (by rw [q]; rfl)
  have hs := rt_of hD
  have d1 := hD.1
  rcases Int.lt_or_le 0 D with hp | hn
  · have eD : ((D.natAbs : Nat) : Int) = D := by omega
    rw [eD] at hs
    have small : ∀ g : F3, FI D g → rdB D g.1 g.2.1 g.2.2 = true → ((g.1.natAbs : Nat) : Int) ≤ 34 ∧ ((g.2.2.natAbs : Nat) : Int) ≤ 300 := by
      intro g gF gr
      rw [rdB_pos hp] at gr
      obtain ⟨_, r2, r3, r4⟩ := gr
      constructor
      · rcases Int.lt_or_le (rtZ D) ((g.1.natAbs : Nat) : Int) with c | c
        · exfalso
          have bs : g.2.1 ≤ rtZ D := by
            rcases Int.lt_or_le (rtZ D) g.2.1 with c | c
            · have : (rtZ D + 1) * (rtZ D + 1) ≤ g.2.1 * g.2.1 := Int.mul_le_mul (by omega) (by omega) (by omega) (by omega)
              omega
            · exact c
          rcases r2 with k | k
          · omega
          · have : (rtZ D + 1) * (rtZ D + 1) ≤ (2 * ((g.1.natAbs : Nat) : Int) - g.2.1) * (2 * ((g.1.natAbs : Nat) : Int) - g.2.1) := Int.mul_le_mul (by omega) (by omega) (by omega) (by omega)
            omega
        · omega
      · have e := gF.1
        have q0 := sq_nn g.2.1
        have a0 := gF.2.1
        have e5 : ((4 * g.1 * g.2.2).natAbs : Int) = 4 * ((g.1.natAbs : Nat) : Int) * ((g.2.2.natAbs : Nat) : Int) := by rw [Int.natAbs_mul, Int.natAbs_mul]; push_cast; rfl
        have m : 4 * ((g.2.2.natAbs : Nat) : Int) * 1 ≤ 4 * ((g.2.2.natAbs : Nat) : Int) * ((g.1.natAbs : Nat) : Int) := Int.mul_le_mul_of_nonneg_left (by omega) (by omega)
        have e6 : 4 * ((g.2.2.natAbs : Nat) : Int) * ((g.1.natAbs : Nat) : Int) = 4 * ((g.1.natAbs : Nat) : Int) * ((g.2.2.natAbs : Nat) : Int) := by grind
        have d2 := hD.2.1
        omega
    obtain ⟨s1, s2⟩ := small f hF hr
    unfold posF
    by_cases c : f.1 < 0
    · rw [if_pos c]
      show f.2.2 ≤ 90
      have e := hF.1
      rw [rdB_pos hp] at hr
      obtain ⟨r1, r2, r3, r4⟩ := hr
      have c0 : 0 < f.2.2 := by
        rcases Int.lt_or_le 0 f.2.2 with z | z
        · exact z
        · exfalso
          have m := Int.mul_nonneg (show 0 ≤ 4 * -f.1 by omega) (show 0 ≤ -f.2.2 by omega)
          have e3 : 4 * -f.1 * -f.2.2 = 4 * f.1 * f.2.2 := by grind
          omega
      rcases Int.lt_or_le 90 f.2.2 with z | z
      · exfalso
        have n1 : ((f.1.natAbs : Nat) : Int) = -f.1 := by omega
        rw [n1] at r1
        have d2 := hD.2.1
        have h91 : 91 ≤ f.2.2 := by omega
        have m4 : 4 * -f.1 * 91 ≤ 4 * -f.1 * f.2.2 := Int.mul_le_mul_of_nonneg_left h91 (by omega)
        have e3 : 4 * -f.1 * f.2.2 = -(4 * f.1 * f.2.2) := by grind
        have q0 := sq_nn f.2.1
        have a3 : -f.1 ≤ 3 := by omega
        have b6 : (2 * -f.1 + f.2.1) * (2 * -f.1 + f.2.1) = 4 * (f.1 * f.1) - 4 * f.1 * f.2.1 + f.2.1 * f.2.1 := by grind
        have a1 : -f.1 = 1 ∨ -f.1 = 2 ∨ -f.1 = 3 := by omega
        have b35 : f.2.1 ≤ 34 := by
          rcases Int.lt_or_le (rtZ D) f.2.1 with c | c
          · have : (rtZ D + 1) * (rtZ D + 1) ≤ f.2.1 * f.2.1 := Int.mul_le_mul (by omega) (by omega) (by omega) (by omega)
            omega
          · omega
        rcases a1 with z1 | z1 | z1
        · have f1 : f.1 = -1 := by omega
          rw [f1] at b6 e3 r1 e; omega
        · have f1 : f.1 = -2 := by omega
          rw [f1] at b6 e3 r1 e; omega
        · have f1 : f.1 = -3 := by omega
          rw [f1] at b6 e3 r1 e; omega
      · exact z
    · rw [if_neg c]; omega
  · have dn : D < 0 := by omega
    rw [rdB_neg dn] at hr
    obtain ⟨r1, r2, r3⟩ := hr
    unfold posF
    rw [if_neg (by omega)]
    rcases Int.lt_or_le 90 f.1 with z | z
    · exfalso
      have e := hF.1
      have m1 : 4 * f.1 * f.1 ≤ 4 * f.1 * f.2.2 := Int.mul_le_mul_of_nonneg_left r2 (by omega)
      have q := sq_le_of (x := f.2.1) (s := f.1) (by omega) (by omega)
      have m2 : 90 * f.1 ≤ f.1 * f.1 := Int.mul_le_mul_of_nonneg_right (by omega) (by omega)
      have e4 : 4 * f.1 * f.1 = 4 * (f.1 * f.1) := by rw [Int.mul_assoc]
      omega
    · exact z
