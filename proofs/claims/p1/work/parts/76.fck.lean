/-! the check of one field: what both sides find -/
def T2 (x y : Int) (t : Nat) : Int := match t with
  | 0 => 1 | 4 => 1 | 10 => 1 | 12 => x | 13 => y | _ => 0
def T3 (s : Nat → Int) (t : Nat) : Int := match t with
  | 0 => 1 | 4 => 1 | 8 => 1 | 10 => 1 | 20 => 1
  | 12 => s 0 | 13 => s 1 | 14 => s 2 | 15 => s 3 | 16 => s 4 | 17 => s 5 | 21 => s 3 | 22 => s 4 | 23 => s 5 | 24 => s 6 | 25 => s 7 | 26 => s 8 | _ => 0
def bb (a A : Int) : Bool := decide (-A ≤ a) && decide (a ≤ A)
theorem bb_bd {a A : Int} (h : bb a A = true) : bd a A := by
  simp only [bb, Bool.and_eq_true, decide_eq_true_eq] at h; exact h
/-- one field of degree 2, by h and d -/
def fc2 (a b h d : Int) : Bool :=
  let D := a * a - 4 * b
  decide (1 ≤ d) && decide (d ≤ 90) && decide (0 ≤ h) && decide (h < d) && decide (fsI D (cW2 b a) 34 = some (d, h))
  && tbC2 b a h d 0 0 1 0 0 && tbC2 b a h d 0 0 1 0 1 && tbC2 b a h d 0 0 1 1 0 && tbC2 b a h d 0 0 1 1 1
  && decide (tbI2 b a h d 0 0 1 0 0 = (1, 0, 0)) && decide (tbI2 b a h d 0 0 1 0 1 = (0, 1, 0)) && decide (tbI2 b a h d 0 0 1 1 0 = (0, 1, 0))
  && clC2 b a h d 0 0 && clC2 b a h d 0 1 && clC2 b a h d 1 0 && clC2 b a h d 1 1
  && decide (clI2 b a h d 0 0 = (1, 0)) && decide (clI2 b a h d 0 1 = (0, 1)) && decide (clI2 b a h d 1 0 = (0, 1))
  && decide (clI2 b a h d 1 1 = ((tbI2 b a h d 0 0 1 1 1).1, (tbI2 b a h d 0 0 1 1 1).2.1))
  && bb (tbI2 b a h d 0 0 1 1 1).1 200 && bb (tbI2 b a h d 0 0 1 1 1).2.1 20
  && decide ((tbI2 b a h d 0 0 1 1 1).2.1 * (tbI2 b a h d 0 0 1 1 1).2.1 + 4 * (tbI2 b a h d 0 0 1 1 1).1 = D.tdiv (d * d)) && decide (D.tdiv (d * d) * (d * d) = D)
  && !psq (D.tdiv (d * d))
def fck2 (a b : Int) : Bool := match rgo 2 b a 0 (a * a - 4 * b) with
  | none => false
  | some (h, d, _, _, _) => fc2 a b h d
/-- the third's numbers -/
def s9 (c b a h d k l e : Int) (t : Nat) : Int := match t with
  | 0 => (tbI3 c b a h d k l e 1 1).1 | 1 => (tbI3 c b a h d k l e 1 1).2.1 | 2 => (tbI3 c b a h d k l e 1 1).2.2
  | 3 => (tbI3 c b a h d k l e 1 2).1 | 4 => (tbI3 c b a h d k l e 1 2).2.1 | 5 => (tbI3 c b a h d k l e 1 2).2.2
  | 6 => (tbI3 c b a h d k l e 2 2).1 | 7 => (tbI3 c b a h d k l e 2 2).2.1 | _ => (tbI3 c b a h d k l e 2 2).2.2
/-- w1 (w1 w2) = (w1 w1) w2 and w1 (w2 w2) = (w1 w2) w2, by coordinates -/
def asc (x0 x1 x2 y0 y1 y2 z0 z1 z2 : Int) : Bool :=
  decide (y1 * x0 + y2 * y0 = x1 * y0 + x2 * z0) && decide (y0 + y1 * x1 + y2 * y1 = x1 * y1 + x2 * z1) && decide (y1 * x2 + y2 * y2 = x0 + x1 * y2 + x2 * z2)
  && decide (z1 * x0 + z2 * y0 = y1 * y0 + y2 * z0) && decide (z0 + z1 * x1 + z2 * y1 = y1 * y1 + y2 * z1) && decide (z1 * x2 + z2 * y2 = y0 + y1 * y2 + y2 * z2)
def fc3b (c b a h d k l e : Int) : Bool :=
  tbC3 c b a h d k l e 0 0 && tbC3 c b a h d k l e 0 1 && tbC3 c b a h d k l e 0 2 && tbC3 c b a h d k l e 1 0 && tbC3 c b a h d k l e 1 1 && tbC3 c b a h d k l e 1 2 && tbC3 c b a h d k l e 2 0 && tbC3 c b a h d k l e 2 1 && tbC3 c b a h d k l e 2 2
  && decide (tbI3 c b a h d k l e 0 0 = (1, 0, 0)) && decide (tbI3 c b a h d k l e 0 1 = (0, 1, 0)) && decide (tbI3 c b a h d k l e 0 2 = (0, 0, 1)) && decide (tbI3 c b a h d k l e 1 0 = (0, 1, 0)) && decide (tbI3 c b a h d k l e 2 0 = (0, 0, 1)) && decide (tbI3 c b a h d k l e 2 1 = tbI3 c b a h d k l e 1 2)
def fc3c (c b a h d k l e : Int) : Bool :=
  clC3 c b a h d k l e 0 0 && clC3 c b a h d k l e 0 1 && clC3 c b a h d k l e 0 2 && clC3 c b a h d k l e 1 0 && clC3 c b a h d k l e 1 1 && clC3 c b a h d k l e 1 2 && clC3 c b a h d k l e 2 0 && clC3 c b a h d k l e 2 1 && clC3 c b a h d k l e 2 2
  && decide (clI3 c b a h d k l e 0 0 = (1, 0, 0)) && decide (clI3 c b a h d k l e 0 1 = (0, 1, 0)) && decide (clI3 c b a h d k l e 0 2 = (0, 0, 1)) && decide (clI3 c b a h d k l e 1 0 = (0, 1, 0)) && decide (clI3 c b a h d k l e 2 0 = (0, 0, 1))
  && decide (clI3 c b a h d k l e 1 1 = tbI3 c b a h d k l e 1 1) && decide (clI3 c b a h d k l e 1 2 = tbI3 c b a h d k l e 1 2) && decide (clI3 c b a h d k l e 2 1 = tbI3 c b a h d k l e 1 2) && decide (clI3 c b a h d k l e 2 2 = tbI3 c b a h d k l e 2 2)
def bb3 (t : Int × Int × Int) (A : Int) : Bool := bb t.1 A && bb t.2.1 A && bb t.2.2 A
def fc3 (a b c h d k l e : Int) : Bool :=
  decide (1 ≤ d) && decide (d ≤ 90) && decide (0 ≤ h) && decide (h < d) && decide (1 ≤ e) && decide (e ≤ 90) && decide (0 ≤ k) && decide (k < e) && decide (0 ≤ l) && decide (l < e)
  && decide (fsI (pdI a b c) (fun d h => cW3 c b a h 1 0 d) 90 = some (d, h)) && decide (ftI (pdI a b c) (fun e g k => cW3 c b a k g 1 e) d 90 = some (e, l, k))
  && fc3b c b a h d k l e && fc3c c b a h d k l e
  && bb3 (tbI3 c b a h d k l e 1 1) 40 && bb3 (tbI3 c b a h d k l e 1 2) 40 && bb3 (tbI3 c b a h d k l e 2 2) 40
  && asc (s9 c b a h d k l e 0) (s9 c b a h d k l e 1) (s9 c b a h d k l e 2) (s9 c b a h d k l e 3) (s9 c b a h d k l e 4) (s9 c b a h d k l e 5) (s9 c b a h d k l e 6) (s9 c b a h d k l e 7) (s9 c b a h d k l e 8)
  && decide ((pdI a b c).tdiv (d * e * d * e) * (d * e * d * e) = pdI a b c)
def fck3 (a b c : Int) : Bool := match rgo 3 c b a (pdI a b c) with
  | none => false
  | some (h, d, k, l, e) => fc3 a b c h d k l e
/-- all fields of degree 2 with one a, from one b on; of degree 3 with one a and b -/
def all2 (a : Int) : Nat → Int → Bool
  | 0, _ => true
  | n + 1, b => (psq (a * a - 4 * b) || fck2 a b) && all2 a n (b + 1)
def all3 (a b : Int) : Nat → Int → Bool
  | 0, _ => true
  | n + 1, c => (hw7 a b c 41 (-20) || fck3 a b c) && all3 a b n (c + 1)
theorem all2_of {a : Int} : ∀ (n : Nat) (b : Int), all2 a n b = true → ∀ x, b ≤ x → x < b + n → psq (a * a - 4 * x) = false → fck2 a x = true := by
  intro n
  induction n with
  | zero => intro b _ x h1 h2; omega
  | succ n ih =>
    intro b h x h1 h2 hp
    unfold all2 at h
    rw [Bool.and_eq_true, Bool.or_eq_true] at h
    rcases Int.lt_or_eq_of_le h1 with q | q
    · exact ih (b + 1) h.2 x (by omega) (by omega) hp
    · subst q
      rcases h.1 with r | r
      · rw [hp] at r; exact absurd r (by decide)
      · exact r
theorem all3_of {a b : Int} : ∀ (n : Nat) (c : Int), all3 a b n c = true → ∀ x, c ≤ x → x < c + n → hw7 a b x 41 (-20) = false → fck3 a b x = true := by
  intro n
  induction n with
  | zero => intro b _ x h1 h2; omega
  | succ n ih =>
    intro c h x h1 h2 hp
    unfold all3 at h
    rw [Bool.and_eq_true, Bool.or_eq_true] at h
    rcases Int.lt_or_eq_of_le h1 with q | q
    · exact ih (c + 1) h.2 x (by omega) (by omega) hp
    · subst q
      rcases h.1 with r | r
      · rw [hp] at r; exact absurd r (by decide)
      · exact r
