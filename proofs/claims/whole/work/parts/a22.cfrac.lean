/-! the first unit: the way of the continued fraction -/
/-- every number on the way is small, and the way ends -/
def cfk (D root : Int) : Nat → Int → Int → Int → Int → Int → Int → Bool
  | 0, _, _, _, _, _, _ => false
  | f + 1, p, q, u, u', v, v' => fz ((p + root) / q) fun a => fz (a * u + u') fun u2 => fz (a * v + v') fun v2 => fz (a * q - p) fun p2 => fz ((D - p2 * p2) / q) fun q2 =>
    decide (0 ≤ p + root) && decide (p + root ≤ 200) && decide (0 < q) && decide (q ≤ 1200) && decide (0 ≤ u2) && decide (u2 ≤ 1000000000000000000) && decide (0 ≤ v2) && decide (v2 ≤ 100000000000000000) && decide (0 ≤ D - p2 * p2) && decide (D - p2 * p2 ≤ 1200) &&
    (if q2 = 2 then decide (v2 ≤ 1000000000000000 → -1000000000000000 ≤ u2 - 10 * v2) else if 1000000000000000 < v2 then true else cfk D root f p2 q2 u2 u v2 v)
def cfo (D root : Int) : Nat → Int → Int → Int → Int → Int → Int → Int → Option (Int × Int × Int)
  | 0, _, _, _, _, _, _, _ => none
  | f + 1, p, q, u, u', v, v', s =>
    if (D - ((p + root) / q * q - p) * ((p + root) / q * q - p)) / q = 2 then (if (p + root) / q * v + v' ≤ 1000000000000000 then some ((p + root) / q * u + u', (p + root) / q * v + v', -s) else none)
    else if 1000000000000000 < (p + root) / q * v + v' then none
    else cfo D root f ((p + root) / q * q - p) ((D - ((p + root) / q * q - p) * ((p + root) / q * q - p)) / q) ((p + root) / q * u + u') u ((p + root) / q * v + v') v (-s)
theorem cfk_succ {D root : Int} {f : Nat} {p q u u' v v' a u2 v2 p2 q2 : Int} (h : cfk D root (f + 1) p q u u' v v' = true) (ea : (p + root) / q = a) (eu : a * u + u' = u2) (ev : a * v + v' = v2) (ep : a * q - p = p2) (eq : (D - p2 * p2) / q = q2) : (0 ≤ p + root ∧ p + root ≤ 200) ∧ (0 < q ∧ q ≤ 1200) ∧ (0 ≤ u2 ∧ u2 ≤ 1000000000000000000) ∧ (0 ≤ v2 ∧ v2 ≤ 100000000000000000) ∧ (0 ≤ D - p2 * p2 ∧ D - p2 * p2 ≤ 1200) ∧ (q2 = 2 → v2 ≤ 1000000000000000 → -1000000000000000 ≤ u2 - 10 * v2) ∧ (q2 ≠ 2 → v2 ≤ 1000000000000000 → cfk D root f p2 q2 u2 u v2 v = true) := by
  subst ea eu ev ep eq
  rw [cfk] at h
  simp only [fz_eq, Bool.and_eq_true, decide_eq_true_eq] at h
  obtain ⟨⟨⟨⟨⟨⟨⟨⟨⟨⟨h1, h2⟩, h3⟩, h4⟩, h5⟩, h6⟩, h7⟩, h8⟩, h9⟩, h10⟩, h11⟩ := h
  refine ⟨⟨h1, h2⟩, ⟨h3, h4⟩, ⟨h5, h6⟩, ⟨h7, h8⟩, ⟨h9, h10⟩, fun e => ?_, fun e e2 => ?_⟩
  · rw [if_pos e] at h11
    exact of_decide_eq_true h11
  · rw [if_neg e, if_neg (by omega)] at h11
    exact h11
theorem cfo_shift (D root k : Int) : ∀ (f : Nat) (p q u u' v v' s : Int), cfo D root f p q (u + k * v) (u' + k * v') v v' s = (cfo D root f p q u u' v v' s).map (fun t => (t.1 + k * t.2.1, t.2.1, t.2.2)) := by
  intro f
  induction f with
  | zero => intros; rfl
  | succ f ih =>
    intro p q u u' v v' s
    have e : (p + root) / q * (u + k * v) + (u' + k * v') = ((p + root) / q * u + u') + k * ((p + root) / q * v + v') := by grind
    rw [cfo, cfo, e]
    by_cases c : (D - ((p + root) / q * q - p) * ((p + root) / q * q - p)) / q = 2
    · rw [if_pos c, if_pos c]
      by_cases c2 : (p + root) / q * v + v' ≤ 1000000000000000
      · rw [if_pos c2, if_pos c2]; rfl
      · rw [if_neg c2, if_neg c2]; rfl
    · rw [if_neg c, if_neg c]
      by_cases c2 : 1000000000000000 < (p + root) / q * v + v'
      · rw [if_pos c2, if_pos c2]; rfl
      · rw [if_neg c2, if_neg c2]; exact ih _ _ _ _ _ _ _
/-- what is found lies within the bounds -/
theorem cfo_bd {D root : Int} : ∀ (f : Nat) (p q u u' v v' s : Int), cfk D root f p q u u' v v' = true → (s = 1 ∨ s = -1) → ∀ x y z, cfo D root f p q u u' v v' s = some (x, y, z) → 0 ≤ x ∧ x ≤ 1000000000000000000 ∧ 0 ≤ y ∧ y ≤ 1000000000000000 ∧ -1000000000000000 ≤ x - 10 * y ∧ (z = 1 ∨ z = -1) := by
  intro f
  induction f with
  | zero => intro p q u u' v v' s h; exact absurd h (by simp [cfk])
  | succ f ih =>
    intro p q u u' v v' s h hs x y z e
    obtain ⟨_, _, hu, hv, _, h6, h7⟩ := cfk_succ h rfl rfl rfl rfl rfl
    rw [cfo] at e
    by_cases c : (D - ((p + root) / q * q - p) * ((p + root) / q * q - p)) / q = 2
    · rw [if_pos c] at e
      by_cases c2 : (p + root) / q * v + v' ≤ 1000000000000000
      · rw [if_pos c2] at e
        have e := Option.some.inj e
        have e1 : (p + root) / q * u + u' = x := congrArg (·.1) e
        have e2 : (p + root) / q * v + v' = y := congrArg (·.2.1) e
        have e3 : -s = z := congrArg (·.2.2) e
        have h8 := h6 c c2
        rw [e1, e2] at h8
        rw [e1] at hu
        rw [e2] at hv c2
        exact ⟨hu.1, hu.2, hv.1, c2, h8, by omega⟩
      · rw [if_neg c2] at e; exact absurd e (by simp)
    · rw [if_neg c] at e
      by_cases c2 : 1000000000000000 < (p + root) / q * v + v'
      · rw [if_pos c2] at e; exact absurd e (by simp)
      · rw [if_neg c2] at e
        exact ih _ _ _ _ _ _ _ (h7 c (by omega)) (by omega) x y z e
def cfD (D : Nat) : Bool := (decide (D % 4 = 2) || decide (D % 4 = 3)) || (psqF (Int.ofNat D) || fn (isqF 1000 0 (Int.ofNat D)) fun r => cfk (Int.ofNat D) (Int.ofNat r) 150 (Int.ofNat (D % 2)) 2 1 0 0 1)
def cfAll : Nat → Nat → Bool
  | 0, _ => true
  | k + 1, D => cfD D && cfAll k (D + 1)
theorem cfAll_of : ∀ (k D0 D : Nat), cfAll k D0 = true → D0 ≤ D → D < D0 + k → cfD D = true := by
  intro k
  induction k with
  | zero => intro D0 D _ h1 h2; omega
  | succ k ih =>
    intro D0 D h h1 h2
    simp only [cfAll, Bool.and_eq_true] at h
    by_cases c : D = D0
    · rw [c]; exact h.1
    · exact ih (D0 + 1) D h.2 (by omega) (by omega)
theorem cf_1 : cfAll 400 1 = true := by decide +kernel
theorem cf_2 : cfAll 400 401 = true := by decide +kernel
theorem cf_3 : cfAll 400 801 = true := by decide +kernel
theorem cf_ok {D : Int} (h1 : 0 < D) (h2 : D ≤ 1200) (h4 : D % 4 = 0 ∨ D % 4 = 1) (hs : psq D = false) : cfk D (isqF 1000 0 D : Nat) 150 (D % 2) 2 1 0 0 1 = true := by
  have hn : cfD D.toNat = true := by
    by_cases c1 : D.toNat < 401
    · exact cfAll_of 400 1 _ cf_1 (by omega) (by omega)
    · by_cases c2 : D.toNat < 801
      · exact cfAll_of 400 401 _ cf_2 (by omega) (by omega)
      · exact cfAll_of 400 801 _ cf_3 (by omega) (by omega)
  have eD : Int.ofNat D.toNat = D := Int.toNat_of_nonneg (by omega)
  unfold cfD at hn
  rw [psqF_eq, eD, hs] at hn
  simp only [Bool.or_eq_true, decide_eq_true_eq, Bool.false_or, fn_eq] at hn
  rcases hn with h | h
  · omega
  · have e2 : Int.ofNat (D.toNat % 2) = D % 2 := by
      show ((D.toNat % 2 : Nat) : Int) = D % 2
      omega
    rw [e2] at h
    exact h
