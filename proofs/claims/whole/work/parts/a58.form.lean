/-! forms: the list of reduced forms, the next form, numbers of forms, cycles -/
abbrev F3 := Int × Int × Int
def rtZ (D : Int) : Int := ((isqF 1000 0 ((D.natAbs : Nat) : Int) : Nat) : Int)
/-- reduced -/
def rdB (D a b c : Int) : Bool := if D < 0 then decide (((b.natAbs : Nat) : Int) ≤ a) && decide (a ≤ c) && (decide (0 ≤ b) || (!decide (-b = a) && !decide (a = c)))
  else decide (D < (2 * ((a.natAbs : Nat) : Int) + b) * (2 * ((a.natAbs : Nat) : Int) + b)) && (decide (2 * ((a.natAbs : Nat) : Int) ≤ b) || decide ((2 * ((a.natAbs : Nat) : Int) - b) * (2 * ((a.natAbs : Nat) : Int) - b) < D)) && decide (0 < b) && decide (b * b < D)
def frm (D a b : Int) : F3 := (a, b, (b * b - D).tdiv (4 * a))
def okF (D a b : Int) : Bool := !decide (a = 0) && decide ((b * b - D).tmod (4 * a) = 0) && rdB D a b ((b * b - D).tdiv (4 * a))
def fB (D a : Int) : Int → Nat → List F3
  | _, 0 => []
  | b, n + 1 => (if okF D a b then [frm D a b] else []) ++ fB D a (b + 1) n
def fA (D s : Int) : Int → Nat → List F3
  | _, 0 => []
  | a, n + 1 => fB D a (if 0 < D then 1 else -a) (if 0 < D then s.toNat else (2 * a + 1).toNat) ++ fA D s (a + 1) n
def LF (D : Int) : List F3 := fA D (rtZ D) (if 0 < D then -rtZ D else 1) (if 0 < D then (2 * rtZ D + 1).toNat else (rtZ D).toNat)
/-- the next form's middle -/
def nxB (D s b c : Int) : Int := if ((c.natAbs : Nat) : Int) * ((c.natAbs : Nat) : Int) < D then s - (s + b) % (2 * ((c.natAbs : Nat) : Int)) else (if ((c.natAbs : Nat) : Int) < (-b) % (2 * ((c.natAbs : Nat) : Int)) then (-b) % (2 * ((c.natAbs : Nat) : Int)) - 2 * ((c.natAbs : Nat) : Int) else (-b) % (2 * ((c.natAbs : Nat) : Int)))
def nxF (D s : Int) (f : F3) : F3 := (f.2.2, nxB D s f.2.1 f.2.2, (nxB D s f.2.1 f.2.2 * nxB D s f.2.1 f.2.2 - D).tdiv (4 * f.2.2))
/-- the number of a form, or -1 -/
def fdF (a b : Int) : Nat → List F3 → Int
  | _, [] => -1
  | k, f :: L => if f.1 = a ∧ f.2.1 = b then (k : Int) else fdF a b (k + 1) L
/-- a form of discriminant D -/
def FI (D : Int) (f : F3) : Prop := f.2.1 * f.2.1 - 4 * f.1 * f.2.2 = D ∧ f.1 ≠ 0 ∧ f.2.2 ≠ 0
theorem FI.tdiv {D : Int} {f : F3} (h : FI D f) : (f.2.1 * f.2.1 - D).tdiv (4 * f.1) = f.2.2 := by
  have e : f.2.1 * f.2.1 - D = 4 * f.1 * f.2.2 := by have := h.1; omega
  rw [e]; exact Int.mul_tdiv_cancel_left _ (by have := h.2.1; omega)
theorem isq_up {x : Int} : ∀ (f k : Nat), x < ((k : Int) + f + 1) * (k + f + 1) → x < (((isqF f k x : Nat) : Int) + 1) * (((isqF f k x : Nat) : Int) + 1) := by
  intro f
  induction f with
  | zero => intro k h; show x < ((k : Int) + 1) * (k + 1); simpa using h
  | succ f ih =>
    intro k h
    unfold isqF
    by_cases c : ((k : Int) + 1) * (k + 1) ≤ x
    · rw [if_pos c]
      refine ih (k + 1) ?_
      have e : (((k + 1 : Nat) : Int) + f + 1) = (k : Int) + ((f + 1 : Nat) : Int) + 1 := by push_cast; omega
      rw [e]; exact h
    · rw [if_neg c]; omega
theorem isq_lo {x : Int} : ∀ (f k : Nat), (k : Int) * k ≤ x → ((isqF f k x : Nat) : Int) * ((isqF f k x : Nat) : Int) ≤ x := by
  intro f
  induction f with
  | zero => intro k h; exact h
  | succ f ih =>
    intro k h
    unfold isqF
    by_cases c : ((k : Int) + 1) * (k + 1) ≤ x
    · rw [if_pos c]; exact ih (k + 1) (by push_cast; exact c)
    · rw [if_neg c]; exact h
/-- what is known of a discriminant -/
def DOK (D : Int) : Prop := -800 ≤ D ∧ D ≤ 1200 ∧ (D % 4 = 0 ∨ D % 4 = 1) ∧ psq D = false
theorem rt_of {D : Int} (h : DOK D) : rtZ D * rtZ D ≤ ((D.natAbs : Nat) : Int) ∧ ((D.natAbs : Nat) : Int) < (rtZ D + 1) * (rtZ D + 1) ∧ 0 ≤ rtZ D ∧ rtZ D ≤ 34 := by
  have hb : ((D.natAbs : Nat) : Int) ≤ 1200 := by have := h.1; have := h.2.1; omega
  have up := isq_up (x := ((D.natAbs : Nat) : Int)) 1000 0 (by show _ < ((0 : Int) + 1000 + 1) * (0 + 1000 + 1); omega)
  have lo := isq_lo (x := ((D.natAbs : Nat) : Int)) 1000 0 (by show (0 : Int) * 0 ≤ _; omega)
  refine ⟨lo, up, by unfold rtZ; omega, ?_⟩
  rcases Int.lt_or_le 34 (rtZ D) with c | c
  · have : 35 * 35 ≤ rtZ D * rtZ D := Int.mul_le_mul (by omega) (by omega) (by omega) (by omega)
    have lo' : rtZ D * rtZ D ≤ ((D.natAbs : Nat) : Int) := lo
    omega
  · exact c
theorem DOK.nsq {D : Int} (h : DOK D) (b : Int) : b * b ≠ D := by
  intro e
  have hs := h.2.2.2
  have nn := sq_nn b
  have hr := rt_of h
  have eD : ((D.natAbs : Nat) : Int) = D := by omega
  have r : ((b.natAbs : Nat) : Int) = rtZ D := by
    have e2 : ((b.natAbs : Nat) : Int) * ((b.natAbs : Nat) : Int) = D := by rw [← e]; exact Int.natAbs_mul_self
    rcases Int.lt_trichotomy ((b.natAbs : Nat) : Int) (rtZ D) with c | c | c
    · have : (((b.natAbs : Nat) : Int) + 1) * (((b.natAbs : Nat) : Int) + 1) ≤ rtZ D * rtZ D := Int.mul_le_mul (by omega) (by omega) (by omega) (by omega)
      have g : (((b.natAbs : Nat) : Int) + 1) * (((b.natAbs : Nat) : Int) + 1) = ((b.natAbs : Nat) : Int) * ((b.natAbs : Nat) : Int) + 2 * ((b.natAbs : Nat) : Int) + 1 := by grind
      omega
    · exact c
    · have : (rtZ D + 1) * (rtZ D + 1) ≤ ((b.natAbs : Nat) : Int) * ((b.natAbs : Nat) : Int) := Int.mul_le_mul (by omega) (by omega) (by omega) (by omega)
      omega
  have : psq D = true := by
    unfold psq
    have e2 : ((b.natAbs : Nat) : Int) * ((b.natAbs : Nat) : Int) = D := by rw [← e]; exact Int.natAbs_mul_self
    rw [r] at e2
    unfold rtZ at e2
    rw [eD] at e2
    simp only [Bool.and_eq_true, decide_eq_true_eq]
    exact ⟨by omega, e2⟩
  rw [hs] at this
  exact absurd this (by decide)
/-- the next middle: -b and a multiple of 2 c -/
theorem nxB_k (D s b : Int) {c : Int} (hc : c ≠ 0) : ∃ k, nxB D s b c = -b + 2 * c * k := by
  have hm : ∀ z : Int, ∃ k, z % (2 * ((c.natAbs : Nat) : Int)) = z + 2 * c * k := by
    intro z
    have e := Int.mul_ediv_add_emod z (2 * ((c.natAbs : Nat) : Int))
    rcases Int.le_total 0 c with g | g
    · have : ((c.natAbs : Nat) : Int) = c := by omega
      rw [this] at e ⊢
      exact ⟨-(z / (2 * c)), by rw [Int.mul_neg]; omega⟩
    · have : ((c.natAbs : Nat) : Int) = -c := by omega
      rw [this] at e ⊢
      refine ⟨z / (2 * -c), ?_⟩
      have e2 : 2 * -c * (z / (2 * -c)) = -(2 * c * (z / (2 * -c))) := by grind
      omega
  unfold nxB
  by_cases c1 : ((c.natAbs : Nat) : Int) * ((c.natAbs : Nat) : Int) < D
  · rw [if_pos c1]
    obtain ⟨k, hk⟩ := hm (s + b)
    exact ⟨-k, by rw [hk, Int.mul_neg]; omega⟩
  · rw [if_neg c1]
    obtain ⟨k, hk⟩ := hm (-b)
    by_cases c2 : ((c.natAbs : Nat) : Int) < (-b) % (2 * ((c.natAbs : Nat) : Int))
    · rw [if_pos c2]
      rcases Int.le_total 0 c with g | g
      · exact ⟨k - 1, by rw [hk, Int.mul_sub]; omega⟩
      · exact ⟨k + 1, by rw [hk, Int.mul_add]; omega⟩
    · rw [if_neg c2]; exact ⟨k, hk⟩
theorem nxF_FI {D : Int} (hD : DOK D) {f : F3} (h : FI D f) (s : Int) : FI D (nxF D s f) := by
  obtain ⟨a, b, c⟩ := f
  obtain ⟨h1, h2, h3⟩ := h
  dsimp only at h1 h2 h3
  obtain ⟨k, hk⟩ := nxB_k D s b h3
  have e : nxB D s b c * nxB D s b c - D = 4 * c * (a - b * k + c * k * k) := by rw [hk, ← h1]; grind
  have et : (nxB D s b c * nxB D s b c - D).tdiv (4 * c) = a - b * k + c * k * k := by rw [e]; exact Int.mul_tdiv_cancel_left _ (by omega)
  refine ⟨?_, h3, ?_⟩
  · show nxB D s b c * nxB D s b c - 4 * c * (nxB D s b c * nxB D s b c - D).tdiv (4 * c) = D
    rw [et]; omega
  · show (nxB D s b c * nxB D s b c - D).tdiv (4 * c) ≠ 0
    rw [et]
    intro z
    rw [z, Int.mul_zero] at e
    exact hD.nsq (nxB D s b c) (by omega)
