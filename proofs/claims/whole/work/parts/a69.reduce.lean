/-! forms brought to reduced ones -/
theorem rdB_pos {D a b c : Int} (hD : 0 < D) : rdB D a b c = true ↔ (D < (2 * ((a.natAbs : Nat) : Int) + b) * (2 * ((a.natAbs : Nat) : Int) + b) ∧ (2 * ((a.natAbs : Nat) : Int) ≤ b ∨ (2 * ((a.natAbs : Nat) : Int) - b) * (2 * ((a.natAbs : Nat) : Int) - b) < D) ∧ 0 < b ∧ b * b < D) := by
  unfold rdB
  rw [if_neg (by omega)]
  simp only [Bool.and_eq_true, Bool.or_eq_true, decide_eq_true_eq, and_assoc]
theorem rdB_neg {D a b c : Int} (hD : D < 0) : rdB D a b c = true ↔ (((b.natAbs : Nat) : Int) ≤ a ∧ a ≤ c ∧ (0 ≤ b ∨ (-b ≠ a ∧ a ≠ c))) := by
  unfold rdB
  rw [if_pos hD]
  simp only [Bool.and_eq_true, Bool.or_eq_true, decide_eq_true_eq, Bool.not_eq_true', decide_eq_false_iff_not, and_assoc, ne_eq]
/-- b between -a and a -/
def nrmB (a b : Int) : Int := if a < b % (2 * a) then b % (2 * a) - 2 * a else b % (2 * a)
theorem nrm_of {a b : Int} (ha : 0 < a) : (-a < nrmB a b ∧ nrmB a b ≤ a) ∧ ∃ k, nrmB a b = b + 2 * a * k := by
  have m0 := Int.emod_nonneg b (show 2 * a ≠ 0 by omega)
  have m1 := Int.emod_lt_of_pos b (show 0 < 2 * a by omega)
  have e := Int.mul_ediv_add_emod b (2 * a)
  unfold nrmB
  by_cases c : a < b % (2 * a)
  · rw [if_pos c]; exact ⟨⟨by omega, by omega⟩, -(b / (2 * a)) - 1, by rw [Int.mul_sub, Int.mul_neg]; omega⟩
  · rw [if_neg c]; exact ⟨⟨by omega, by omega⟩, -(b / (2 * a)), by rw [Int.mul_neg]; omega⟩
theorem nrm_id {a b : Int} (ha : 0 < a) (h1 : -a < b) (h2 : b ≤ a) : nrmB a b = b := by
  unfold nrmB
  rcases Int.lt_or_le b 0 with c | c
  · have e : b % (2 * a) = b + 2 * a := by
      rw [← Int.add_emod_right, Int.emod_eq_of_lt (by omega) (by omega)]
    rw [e, if_pos (by omega)]; omega
  · have e : b % (2 * a) = b := Int.emod_eq_of_lt c (by omega)
    rw [e, if_neg (by omega)]
/-- the class's step for D below 0 -/
def trnF (D : Int) (f : F3) : F3 :=
  let b := nrmB f.1 f.2.1
  let c := (b * b - D).tdiv (4 * f.1)
  if c < f.1 ∨ (f.1 = c ∧ b < 0) then (c, -b, f.1) else (f.1, b, c)
def stpF (D : Int) (f : F3) : F3 := if 0 < D then nxF D (rtZ D) f else trnF D f
def rdN (D : Int) : Nat → F3 → F3
  | 0, f => f
  | k + 1, f => if rdB D f.1 f.2.1 f.2.2 = true then f else rdN D k (stpF D f)
/-- reduced within k steps -/
def wiN (D : Int) : Nat → F3 → Prop
  | 0, f => rdB D f.1 f.2.1 f.2.2 = true
  | k + 1, f => rdB D f.1 f.2.1 f.2.2 = true ∨ wiN D k (stpF D f)
theorem wiN_mono {D : Int} : ∀ {k : Nat} {f : F3}, wiN D k f → wiN D (k + 1) f := by
  intro k
  induction k with
  | zero => intro f h; exact Or.inl h
  | succ k ih => intro f h; exact h.imp id (fun g => ih g)
theorem wiN_le {D : Int} {k : Nat} : ∀ {j : Nat} {f : F3}, wiN D k f → wiN D (k + j) f := by
  intro j
  induction j with
  | zero => intro f h; exact h
  | succ j ih => intro f h; exact wiN_mono (ih h)
theorem rdN_red {D : Int} : ∀ {k : Nat} {f : F3}, wiN D k f → rdB D (rdN D (k + 1) f).1 (rdN D (k + 1) f).2.1 (rdN D (k + 1) f).2.2 = true := by
  intro k
  induction k with
  | zero => intro f h; have h' : rdB D f.1 f.2.1 f.2.2 = true := h; rw [rdN, if_pos h']; exact h'
  | succ k ih =>
    intro f h
    by_cases c : rdB D f.1 f.2.1 f.2.2 = true
    · rw [rdN, if_pos c]; exact c
    · rw [rdN, if_neg c]; exact ih (h.resolve_left c)
/-- D above 0: the next form's numbers -/
theorem nx_small {D : Int} (hD : DOK D) (hp : 0 < D) {f : F3} (h : FI D f) (hs : ((f.2.2.natAbs : Nat) : Int) * ((f.2.2.natAbs : Nat) : Int) < D) : rtZ D - 2 * ((f.2.2.natAbs : Nat) : Int) < (nxF D (rtZ D) f).2.1 ∧ (nxF D (rtZ D) f).2.1 ≤ rtZ D ∧ ((f.2.2.natAbs : Nat) : Int) ≤ rtZ D := by
  obtain ⟨a, b, c⟩ := f
  have c0 : c ≠ 0 := h.2.2
  have hr := rt_of hD
  have eD : ((D.natAbs : Nat) : Int) = D := by omega
  rw [eD] at hr
  have n0 : 0 < 2 * ((c.natAbs : Nat) : Int) := by omega
  have m0 := Int.emod_nonneg (rtZ D + b) (show 2 * ((c.natAbs : Nat) : Int) ≠ 0 by omega)
  have m1 := Int.emod_lt_of_pos (rtZ D + b) n0
  dsimp only at hs
  have e : (nxF D (rtZ D) (a, b, c)).2.1 = rtZ D - (rtZ D + b) % (2 * ((c.natAbs : Nat) : Int)) := by show nxB D (rtZ D) b c = _; unfold nxB; rw [if_pos hs]
  rw [e]
  refine ⟨by show _ - 2 * ((c.natAbs : Nat) : Int) < _; omega, by omega, ?_⟩
  show ((c.natAbs : Nat) : Int) ≤ rtZ D
  rcases Int.lt_or_le (rtZ D) ((c.natAbs : Nat) : Int) with g | g
  · have : (rtZ D + 1) * (rtZ D + 1) ≤ ((c.natAbs : Nat) : Int) * ((c.natAbs : Nat) : Int) := Int.mul_le_mul (by omega) (by omega) (by omega) (by omega)
    omega
  · exact g
theorem sq_le_of {x s : Int} (h1 : -s ≤ x) (h2 : x ≤ s) : x * x ≤ s * s := by
  rcases Int.le_total 0 x with c | c
  · exact Int.mul_le_mul h2 h2 c (by omega)
  · rw [← Int.neg_mul_neg]; exact Int.mul_le_mul (by omega) (by omega) (by omega) (by omega)
theorem red_one {D : Int} (hD : DOK D) (hp : 0 < D) {f : F3} (h : FI D f) (hs : 2 * ((f.2.2.natAbs : Nat) : Int) ≤ rtZ D) : rdB D (nxF D (rtZ D) f).1 (nxF D (rtZ D) f).2.1 (nxF D (rtZ D) f).2.2 = true := by
  have hr := rt_of hD
  have eD : ((D.natAbs : Nat) : Int) = D := by omega
  rw [eD] at hr
  have c0 : f.2.2 ≠ 0 := h.2.2
  have hs2 : ((f.2.2.natAbs : Nat) : Int) * ((f.2.2.natAbs : Nat) : Int) < D := by
    have := sq_le_of (x := ((f.2.2.natAbs : Nat) : Int)) (s := rtZ D) (by omega) (by omega)
    have := hD.nsq ((f.2.2.natAbs : Nat) : Int)
    omega
  obtain ⟨g1, g2, g3⟩ := nx_small hD hp h hs2
  have e1 : (nxF D (rtZ D) f).1 = f.2.2 := rfl
  rw [rdB_pos hp, e1]
  generalize (nxF D (rtZ D) f).2.1 = b at g1 g2 ⊢
  generalize ((f.2.2.natAbs : Nat) : Int) = n at *
  have q1 : (rtZ D + 1) * (rtZ D + 1) ≤ (2 * n + b) * (2 * n + b) := Int.mul_le_mul (by omega) (by omega) (by omega) (by omega)
  have q2 := sq_le_of (x := b) (s := rtZ D) (by omega) (by omega)
  have q3 := hD.nsq b
  refine ⟨by omega, ?_, by omega, by omega⟩
  rcases Int.lt_or_le b (2 * n) with g | g
  · right
    have q4 := sq_le_of (x := 2 * n - b) (s := rtZ D) (by omega) (by omega)
    have q5 := hD.nsq (2 * n - b)
    omega
  · exact Or.inl g
theorem red_two {D : Int} (hD : DOK D) (hp : 0 < D) {f : F3} (h : FI D f) (hs : ((f.2.2.natAbs : Nat) : Int) * ((f.2.2.natAbs : Nat) : Int) < D) : wiN D 2 f := by
  have hr := rt_of hD
  have eD : ((D.natAbs : Nat) : Int) = D := by omega
  rw [eD] at hr
  have st : ∀ g, stpF D g = nxF D (rtZ D) g := fun g => by unfold stpF; rw [if_pos hp]
  rcases Int.lt_or_le (rtZ D) (2 * ((f.2.2.natAbs : Nat) : Int)) with c | c
  · obtain ⟨g1, g2, g3⟩ := nx_small hD hp h hs
    have hF := nxF_FI hD h (rtZ D)
    refine Or.inr (Or.inr ?_)
    show rdB D (stpF D (stpF D f)).1 (stpF D (stpF D f)).2.1 (stpF D (stpF D f)).2.2 = true
    rw [st, st]
    refine red_one hD hp hF ?_
    have e := hF.1
    have e1 : (nxF D (rtZ D) f).1 = f.2.2 := rfl
    rw [e1] at e
    generalize (nxF D (rtZ D) f).2.1 = b at *
    generalize (nxF D (rtZ D) f).2.2 = c' at *
    have q2 := sq_le_of (x := b) (s := rtZ D) (by omega) (by omega)
    have q3 := hD.nsq b
    have q0 := sq_nn b
    have ab : 4 * ((f.2.2.natAbs : Nat) : Int) * ((c'.natAbs : Nat) : Int) = D - b * b := by
      have e5 : ((4 * f.2.2 * c').natAbs : Int) = 4 * ((f.2.2.natAbs : Nat) : Int) * ((c'.natAbs : Nat) : Int) := by rw [Int.natAbs_mul, Int.natAbs_mul]; push_cast; rfl
      rw [← e5]; omega
    generalize ((f.2.2.natAbs : Nat) : Int) = n at *
    rcases Int.lt_or_le (rtZ D) (2 * ((c'.natAbs : Nat) : Int)) with k | k
    · exfalso
      have m : (rtZ D + 1) * (rtZ D + 1) ≤ (2 * n) * (2 * ((c'.natAbs : Nat) : Int)) := Int.mul_le_mul (by omega) (by omega) (by omega) (by omega)
      have e6 : (2 * n) * (2 * ((c'.natAbs : Nat) : Int)) = 4 * n * ((c'.natAbs : Nat) : Int) := by grind
      omega
    · exact k
  · refine Or.inr (Or.inl ?_)
    show rdB D (stpF D f).1 (stpF D f).2.1 (stpF D f).2.2 = true
    rw [st]; exact red_one hD hp h c
theorem nx_big {D : Int} {f : F3} (hp : 0 < D) (hD : DOK D) (h : FI D f) (hs : ¬ ((f.2.2.natAbs : Nat) : Int) * ((f.2.2.natAbs : Nat) : Int) < D) : 4 * (((nxF D (rtZ D) f).2.2.natAbs : Nat) : Int) ≤ ((f.2.2.natAbs : Nat) : Int) := by
  have hF := nxF_FI hD h (rtZ D)
  have e := hF.1
  have e1 : (nxF D (rtZ D) f).1 = f.2.2 := rfl
  have c0 : f.2.2 ≠ 0 := h.2.2
  rw [e1] at e
  have e2 : (nxF D (rtZ D) f).2.1 = nxB D (rtZ D) f.2.1 f.2.2 := rfl
  have n0 : 0 < 2 * ((f.2.2.natAbs : Nat) : Int) := by omega
  have m0 := Int.emod_nonneg (-f.2.1) (show 2 * ((f.2.2.natAbs : Nat) : Int) ≠ 0 by omega)
  have m1 := Int.emod_lt_of_pos (-f.2.1) n0
  have bb : -((f.2.2.natAbs : Nat) : Int) ≤ nxB D (rtZ D) f.2.1 f.2.2 ∧ nxB D (rtZ D) f.2.1 f.2.2 ≤ ((f.2.2.natAbs : Nat) : Int) := by
    unfold nxB
    rw [if_neg hs]
    by_cases c : ((f.2.2.natAbs : Nat) : Int) < -f.2.1 % (2 * ((f.2.2.natAbs : Nat) : Int))
    · rw [if_pos c]; exact ⟨by omega, by omega⟩
    · rw [if_neg c]; exact ⟨by omega, by omega⟩
  rw [e2] at e
  generalize nxB D (rtZ D) f.2.1 f.2.2 = b at *
  generalize (nxF D (rtZ D) f).2.2 = c' at *
  have q2 := sq_le_of bb.1 bb.2
  have q0 := sq_nn b
  have e5 : ((4 * f.2.2 * c').natAbs : Int) = 4 * ((f.2.2.natAbs : Nat) : Int) * ((c'.natAbs : Nat) : Int) := by rw [Int.natAbs_mul, Int.natAbs_mul]; push_cast; rfl
  have ab : 4 * ((f.2.2.natAbs : Nat) : Int) * ((c'.natAbs : Nat) : Int) ≤ ((f.2.2.natAbs : Nat) : Int) * ((f.2.2.natAbs : Nat) : Int) := by rw [← e5]; omega
  have np : 0 < ((f.2.2.natAbs : Nat) : Int) := by omega
  generalize ((f.2.2.natAbs : Nat) : Int) = n at *
  have ab2 : n * (4 * ((c'.natAbs : Nat) : Int)) ≤ n * n := by
    have : n * (4 * ((c'.natAbs : Nat) : Int)) = 4 * n * ((c'.natAbs : Nat) : Int) := by grind
    omega
  exact Int.le_of_mul_le_mul_left ab2 np
/-- D above 0: reduced within k + 2 steps if the last is below 4 to the k -/
theorem wi_pos {D : Int} (hD : DOK D) (hp : 0 < D) : ∀ (k : Nat) {f : F3}, FI D f → ((f.2.2.natAbs : Nat) : Int) < 4 ^ k → wiN D (k + 2) f := by
  intro k
  induction k with
  | zero => intro f h hc; have h3 := h.2.2; have h4 : ((f.2.2.natAbs : Nat) : Int) < 1 := (by simpa using hc); omega
  | succ k ih =>
    intro f h hc
    by_cases c : ((f.2.2.natAbs : Nat) : Int) * ((f.2.2.natAbs : Nat) : Int) < D
    · have := wiN_le (j := k + 1) (red_two hD hp h c)
      rw [show k + 1 + 2 = 2 + (k + 1) by omega]; exact this
    · have q := nx_big hp hD h c
      refine Or.inr ?_
      show wiN D (k + 2) (stpF D f)
      rw [show stpF D f = nxF D (rtZ D) f by unfold stpF; rw [if_pos hp]]
      refine ih (nxF_FI hD h (rtZ D)) ?_
      have e : (4 : Int) ^ (k + 1) = 4 ^ k * 4 := Int.pow_succ 4 k
      omega
/-! D below 0 -/
theorem FI.neg {D : Int} {f : F3} (h : FI D f) (hD : D < 0) (ha : 0 < f.1) : 0 < f.2.2 := by
  have e := h.1
  have n := sq_nn f.2.1
  rcases Int.lt_or_le 0 f.2.2 with c | c
  · exact c
  · have m := Int.mul_nonneg (show 0 ≤ 4 * f.1 by omega) (show 0 ≤ -f.2.2 by omega)
    rw [Int.mul_neg] at m
    omega
theorem trn_c {D : Int} {f : F3} (h : FI D f) (ha : 0 < f.1) : nrmB f.1 f.2.1 * nrmB f.1 f.2.1 - 4 * f.1 * (nrmB f.1 f.2.1 * nrmB f.1 f.2.1 - D).tdiv (4 * f.1) = D := by
  obtain ⟨_, k, hk⟩ := nrm_of (b := f.2.1) ha
  have e : nrmB f.1 f.2.1 * nrmB f.1 f.2.1 - D = 4 * f.1 * (f.2.2 + f.2.1 * k + f.1 * k * k) := by rw [hk, ← h.1]; grind
  have et : (nrmB f.1 f.2.1 * nrmB f.1 f.2.1 - D).tdiv (4 * f.1) = f.2.2 + f.2.1 * k + f.1 * k * k := by rw [e]; exact Int.mul_tdiv_cancel_left _ (by omega)
  rw [et]; omega
theorem trn_of {D : Int} (hD : D < 0) {f : F3} (h : FI D f) (ha : 0 < f.1) : (FI D (trnF D f) ∧ 0 < (trnF D f).1) ∧ (rdB D (trnF D f).1 (trnF D f).2.1 (trnF D f).2.2 = true ∨ ((trnF D f).1 < f.1 ∧ 4 * f.1 * (trnF D f).1 ≤ f.1 * f.1 - D)) := by
  obtain ⟨⟨b1, b2⟩, _⟩ := nrm_of (b := f.2.1) ha
  have e := trn_c h ha
  unfold trnF
  generalize nrmB f.1 f.2.1 = b at *
  dsimp only
  generalize (b * b - D).tdiv (4 * f.1) = c at *
  have q := sq_le_of (x := b) (s := f.1) (by omega) b2
  have F1 : FI D (f.1, b, c) := ⟨e, by show f.1 ≠ 0; omega, by
    show c ≠ 0
    intro z
    rw [z, Int.mul_zero] at e
    have := sq_nn b
    omega⟩
  have c0 : 0 < c := F1.neg hD ha
  by_cases k : c < f.1 ∨ (f.1 = c ∧ b < 0)
  · rw [if_pos k]
    have e2 : (-b) * (-b) - 4 * c * f.1 = D := by rw [Int.neg_mul_neg, ← e]; grind
    refine ⟨⟨⟨e2, by show c ≠ 0; omega, by show f.1 ≠ 0; omega⟩, c0⟩, ?_⟩
    rcases k with k | ⟨k1, k2⟩
    · right
      refine ⟨k, ?_⟩
      show 4 * f.1 * c ≤ _
      omega
    · left
      rw [rdB_neg hD]
      show ((((-b).natAbs : Nat) : Int) ≤ c ∧ c ≤ f.1 ∧ (0 ≤ -b ∨ _))
      exact ⟨by omega, by omega, Or.inl (by omega)⟩
  · rw [if_neg k]
    refine ⟨⟨F1, ha⟩, Or.inl ?_⟩
    rw [rdB_neg hD]
    show (((b.natAbs : Nat) : Int) ≤ f.1 ∧ f.1 ≤ c ∧ (0 ≤ b ∨ (-b ≠ f.1 ∧ f.1 ≠ c)))
    have k1 : ¬ c < f.1 := fun z => k (Or.inl z)
    refine ⟨by omega, by omega, ?_⟩
    rcases Int.lt_or_le b 0 with g | g
    · exact Or.inr ⟨by omega, fun z => k (Or.inr ⟨z, g⟩)⟩
    · exact Or.inl g
theorem stp_neg {D : Int} (hD : D < 0) (f : F3) : stpF D f = trnF D f := by unfold stpF; rw [if_neg (by omega)]
theorem wi_small {D : Int} (hD : D < 0) : ∀ (n : Nat) {f : F3}, FI D f → 0 < f.1 → f.1 ≤ n → wiN D n f := by
  intro n
  induction n with
  | zero => intro f _ h1 h2; omega
  | succ n ih =>
    intro f h h1 h2
    obtain ⟨⟨g1, g2⟩, g3⟩ := trn_of hD h h1
    refine Or.inr ?_
    show wiN D n (stpF D f)
    rw [stp_neg hD]
    rcases g3 with g | ⟨g, _⟩
    · have : wiN D 0 (trnF D f) := g
      have := wiN_le (j := n) this
      rw [Nat.zero_add] at this; exact this
    · exact ih g1 g2 (by omega)
theorem wi_neg {D : Int} (hD : D < 0) (h8 : -800 ≤ D) : ∀ (k : Nat) {f : F3}, FI D f → 0 < f.1 → f.1 < 30 * 2 ^ k → wiN D (k + 30) f := by
  intro k
  induction k with
  | zero => intro f h h1 h2; exact wi_small hD (0 + 30) h h1 (by have : f.1 < 30 := (by simpa using h2); omega)
  | succ k ih =>
    intro f h h1 h2
    rcases Int.lt_or_le f.1 30 with c | c
    · have := wiN_le (j := k + 1) (wi_small hD 30 h h1 (by omega))
      rw [show k + 1 + 30 = 30 + (k + 1) by omega]; exact this
    · obtain ⟨⟨g1, g2⟩, g3⟩ := trn_of hD h h1
      rw [show k + 1 + 30 = (k + 30) + 1 by omega]
      refine Or.inr ?_
      show wiN D (k + 30) (stpF D f)
      rw [stp_neg hD]
      rcases g3 with g | ⟨g, g4⟩
      · have : wiN D 0 (trnF D f) := g
        have := wiN_le (j := k + 30) this
        rw [Nat.zero_add] at this; exact this
      · refine ih g1 g2 ?_
        have e : (2 : Int) ^ (k + 1) = 2 ^ k * 2 := Int.pow_succ 2 k
        have half : 2 * (trnF D f).1 ≤ f.1 := by
          generalize (trnF D f).1 = a' at *
          rcases Int.lt_or_le f.1 (2 * a') with z | z
          · exfalso
            have m : f.1 * (f.1 + 1) ≤ f.1 * (2 * a') := Int.mul_le_mul_of_nonneg_left (by omega) (by omega)
            have m2 : 30 * f.1 ≤ f.1 * f.1 := Int.mul_le_mul_of_nonneg_right c (by omega)
            have e1 : f.1 * (f.1 + 1) = f.1 * f.1 + f.1 := by grind
            have e2 : f.1 * (2 * a') * 2 = 4 * f.1 * a' := by grind
            omega
          · exact z
        omega
