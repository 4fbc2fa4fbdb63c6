/-! the class's basis and table by whole numbers -/
def cW2 (f0 f1 d h : Int) : Bool := decide ((2 * h - f1).tmod d = 0) && decide ((h * (h - f1) + f0).tmod (d * d) = 0)
def cW3 (f0 f1 f2 u0 u1 u2 d : Int) : Bool :=
  let a := -(u2 * f0)
  let b := u0 - u2 * f1
  let c := u1 - u2 * f2
  let x := -(c * f0)
  let y := a - c * f1
  let z := b - c * f2
  decide ((3 * u0 - u1 * f2 + u2 * (f2 * f2 - 2 * f1)).tmod d = 0) && (decide ((u0 * b - u1 * a + (u0 * z - u2 * x) + (b * z - c * y)).tmod (d * d) = 0) && decide ((n3I u0 u1 u2 a b c x y z).tmod (d * d * d) = 0))
theorem cW2_I {p : Nat → Int64} {f0 f1 d h : Int} (h0 : p 0 = lI f0) (h1 : p 1 = lI f1) (b0 : bd f0 1000) (b1 : bd f1 1000) (bh : bd h 90) (d1 : 1 ≤ d) (d2 : d ≤ 90) : isW2 p (lI h) 1 0 (lI d) = cW2 f0 f1 d h := by
  have bD : bd d 90 := ⟨by omega, d2⟩
  have z3 : ∀ a : Int64, (0 : Int64) * a = 0 := fun _ => Int64.zero_mul
  have z4 : ∀ a : Int64, a + 0 = a := Int64.add_zero
  have z5 : ∀ a : Int64, 1 * a = a := Int64.one_mul
  have t2 : (2 : Int64) = lI 2 := rfl
  have t0 : (0 : Int64) = lI 0 := rfl
  unfold isW2 cW2
  simp only [h0, h1, z3, z4, z5]
  rw [t2]
  have e1 : lI 2 * lI h + -lI f1 = lI (2 * h - f1) := by rw [lI_mul, lI_neg, lI_add]; congr 1
  have e2 : lI h * (lI h - lI f1) - (lI 0 - lI f0) = lI (h * (h - f1) + f0) := by rw [lI_sub, lI_sub, lI_mul, lI_sub]; congr 1; omega
  rw [show (decide (rm (lI 2 * lI h + -lI f1) (lI d) = 0) && decide (rm (lI h * (lI h - lI f1) - (0 - lI f0)) (lI d * lI d) = 0)) = (decide (rm (lI 2 * lI h + -lI f1) (lI d) = 0) && decide (rm (lI h * (lI h - lI f1) - (lI 0 - lI f0)) (lI d * lI d) = 0)) from rfl, e1, e2, lI_mul]
  refine and_dec (rm_I (bd_rg (bd_sub (bd_mul (A := 2) ⟨by decide, by decide⟩ bh) b1) (by decide)) (bd_rg bD (by decide)) (by omega)) (rm_I (bd_rg (bd_add (bd_mul bh (bd_sub bh b1)) b0) (by decide)) (bd_rg (bd_mul bD bD) (by decide)) (Int.mul_pos (by omega) (by omega)))
theorem cW3_I {p : Nat → Int64} {f0 f1 f2 u0 u1 u2 d : Int} (h0 : p 0 = lI f0) (h1 : p 1 = lI f1) (h2 : p 2 = lI f2) (b0 : bd f0 10) (b1 : bd f1 10) (b2 : bd f2 10) (v0 : bd u0 90) (v1 : bd u1 90) (v2 : bd u2 90) (d1 : 1 ≤ d) (d2 : d ≤ 90) : isW3 p (lI u0) (lI u1) (lI u2) (lI d) = cW3 f0 f1 f2 u0 u1 u2 d := by
  have bD : bd d 90 := ⟨by omega, d2⟩
  have t2 : (2 : Int64) = lI 2 := rfl
  have t3 : (3 : Int64) = lI 3 := rfl
  have z1 : ∀ a : Int64, (0 : Int64) - a = -a := Int64.zero_sub
  unfold isW3 cW3 md3 nm3 n3I
  simp only [m3, h0, h1, h2, z1]
  rw [t2, t3]
  simp only [lI_mul, lI_sub, lI_add, lI_neg]
  have hA := bd_neg (bd_mul v2 b0)
  have hB := bd_sub v0 (bd_mul v2 b1)
  have hC := bd_sub v1 (bd_mul v2 b2)
  have hU := bd_neg (bd_mul hC b0)
  have hV := bd_sub hA (bd_mul hC b1)
  have hW := bd_sub hB (bd_mul hC b2)
  have q1 : 0 < d * d := Int.mul_pos (by omega) (by omega)
  have e1 : 3 * u0 + u1 * -f2 + u2 * (-f2 * -f2 - 2 * f1) = 3 * u0 - u1 * f2 + u2 * (f2 * f2 - 2 * f1) := by rw [Int.mul_neg, Int.neg_mul_neg]; omega
  rw [e1]
  refine congr (congrArg and (decide_eq_decide.mpr (rm_I (bd_rg (A := 1000000000000) ?_ (by decide)) (bd_rg bD (by decide)) (by omega)))) (and_dec (rm_I (bd_rg (A := 1000000000000) ?_ (by decide)) (bd_rg (bd_mul bD bD) (by decide)) q1) (rm_I (bd_rg (A := 1000000000000000) ?_ (by decide)) (bd_rg (bd_mul (bd_mul bD bD) bD) (by decide)) (Int.mul_pos q1 (by omega))))
  · exact bd_mono (B := 1000000000000) (bd_add (bd_sub (bd_mul (A := 3) ⟨by decide, by decide⟩ v0) (bd_mul v1 b2)) (bd_mul v2 (bd_sub (bd_mul b2 b2) (bd_mul (A := 2) ⟨by decide, by decide⟩ b1)))) (by decide)
  · exact bd_mono (B := 1000000000000) (bd_add (bd_add (bd_sub (bd_mul v0 hB) (bd_mul v1 hA)) (bd_sub (bd_mul v0 hW) (bd_mul v2 hU))) (bd_sub (bd_mul hB hW) (bd_mul hC hV))) (by decide)
  · exact bd_mono (B := 1000000000000000) (bd_add (bd_sub (bd_mul v0 (bd_sub (bd_mul hB hW) (bd_mul hC hV))) (bd_mul v1 (bd_sub (bd_mul hA hW) (bd_mul hC hU)))) (bd_mul v2 (bd_sub (bd_mul hA hV) (bd_mul hB hU)))) (by decide)
/-- findSecond by whole numbers -/
def fsI (Di : Int) (W : Int → Int → Bool) : Nat → Option (Int × Int)
  | 0 => none
  | d + 1 => if Di.tmod (((d : Int) + 1) * ((d : Int) + 1)) = 0 then (match fsH (W ((d : Int) + 1)) (d + 1) 0 with
      | some h => some ((d : Int) + 1, h)
      | none => fsI Di W d) else fsI Di W d
theorem fsH_congr {V W : Int → Bool} : ∀ (f : Nat) (h : Int), (∀ x, h ≤ x → x < h + f → V x = W x) → fsH V f h = fsH W f h := by
  intro f
  induction f with
  | zero => intro h _; rfl
  | succ f ih =>
    intro h hh
    unfold fsH
    rw [hh h (by omega) (by omega), ih (h + 1) (fun x a b => hh x (by omega) (by omega))]
theorem fsD_I {Di : Int} {V W : Int → Int → Bool} (hD : bd Di 12000) : ∀ n : Nat, n ≤ 90 → (∀ d h : Int, 1 ≤ d → d ≤ n → 0 ≤ h → h < d → V d h = W d h) → fsD (lI Di) V n = fsI Di W n := by
  intro n
  induction n with
  | zero => intro _ _; rfl
  | succ n ih =>
    intro hn hh
    have bn : bd ((n : Int) + 1) 90 := ⟨by omega, by omega⟩
    have q1 : 0 < ((n : Int) + 1) * ((n : Int) + 1) := Int.mul_pos (by omega) (by omega)
    unfold fsD fsI
    rw [ih (by omega) (fun d h a b c e => hh d h a (by omega) c e), lI_mul, fsH_congr (V := V ((n : Int) + 1)) (W := W ((n : Int) + 1)) (n + 1) 0 (fun x a b => hh _ x (by omega) (by omega) a (by omega))]
    have e := rm_I (bd_rg hD (by decide)) (bd_rg (bd_mul bn bn) (by decide)) q1
    by_cases c : Di.tmod (((n : Int) + 1) * ((n : Int) + 1)) = 0
    · rw [if_pos c, if_pos (e.mpr c)]; rfl
    · rw [if_neg c, if_neg (fun q => c (e.mp q))]
theorem fsI_cut {Di : Int} {W : Int → Int → Bool} {m : Nat} (h0 : Di ≠ 0) (hm : (Di.natAbs : Int) < ((m : Int) + 1) * ((m : Int) + 1)) : ∀ n : Nat, m ≤ n → fsI Di W n = fsI Di W m := by
  intro n
  induction n with
  | zero =>
    intro h
    obtain rfl : m = 0 := by omega
    rfl
  | succ n ih =>
    intro h
    rcases Nat.lt_or_ge n m with c | c
    · obtain rfl : m = n + 1 := by omega
      rfl
    · rw [← ih c]
      have h1 : ((m : Int) + 1) * ((m : Int) + 1) ≤ ((n : Int) + 1) * ((n : Int) + 1) := Int.mul_le_mul (by omega) (by omega) (by omega) (by omega)
      conv => lhs; unfold fsI
      rw [if_neg]
      intro e
      have h2 := Int.dvd_of_tmod_eq_zero e
      have h3 := Int.natAbs_dvd_natAbs.mpr h2
      have h4 := Nat.le_of_dvd (by omega) h3
      omega
def ftI (Di : Int) (W : Int → Int → Int → Bool) (d : Int) : Nat → Option (Int × Int × Int)
  | 0 => none
  | e + 1 => if ((e : Int) + 1).tmod (d * d) = 0 ∧ Di.tmod (d * d * ((e : Int) + 1) * ((e : Int) + 1)) = 0 then (match ftL (W ((e : Int) + 1)) d ((e : Int) + 1) (e + 1) 91 0 with
      | some (g, k) => some ((e : Int) + 1, g, k)
      | none => ftI Di W d e) else ftI Di W d e
theorem ftL_congr {V W : Int → Int → Bool} {d e : Int} {ne : Nat} (hne : (ne : Int) = e) (he : e ≤ 90) (hd : 1 ≤ d) (hh : ∀ g k : Int, 0 ≤ g → g < e → 0 ≤ k → k < e → V g k = W g k) : ∀ (f : Nat) (g : Int), 0 ≤ g → ftL V d e ne f g = ftL W d e ne f g := by
  intro f
  induction f with
  | zero => intro g _; rfl
  | succ f ih =>
    intro g hg
    unfold ftL
    by_cases c : g * d < e
    · have h1 : g * 1 ≤ g * d := Int.mul_le_mul_of_nonneg_left hd hg
      rw [if_pos c, if_pos c, fsH_congr (V := V g) (W := W g) ne 0 (fun x a b => hh g x hg (by omega) a (by omega)), ih (g + 1) (by omega)]
    · rw [if_neg c, if_neg c]
theorem ftE_I {Di d : Int} {V W : Int → Int → Int → Bool} (hD : bd Di 12000) (d1 : 1 ≤ d) (d2 : d ≤ 90) : ∀ n : Nat, n ≤ 90 → (∀ e g k : Int, 1 ≤ e → e ≤ n → 0 ≤ g → g < e → 0 ≤ k → k < e → V e g k = W e g k) → ftE (lI Di) V d n = ftI Di W d n := by
  have bD : bd d 90 := ⟨by omega, d2⟩
  have q1 : 0 < d * d := Int.mul_pos (by omega) (by omega)
  intro n
  induction n with
  | zero => intro _ _; rfl
  | succ n ih =>
    intro hn hh
    have bn : bd ((n : Int) + 1) 90 := ⟨by omega, by omega⟩
    unfold ftE ftI
    rw [ih (by omega) (fun e g k a b c d e' f => hh e g k a (by omega) c d e' f), lI_mul, lI_mul, lI_mul, ftL_congr (V := V ((n : Int) + 1)) (W := W ((n : Int) + 1)) (ne := n + 1) (by omega) (by omega) d1 (fun g k a b c e => hh _ g k (by omega) (by omega) a b c e) 91 0 (by omega)]
    have e1 := rm_I (bd_rg bn (by decide)) (bd_rg (bd_mul bD bD) (by decide)) q1
    have e2 := rm_I (bd_rg hD (by decide)) (bd_rg (bd_mul (bd_mul (bd_mul bD bD) bn) bn) (by decide)) (Int.mul_pos (Int.mul_pos q1 (show 0 < (n : Int) + 1 by omega)) (show 0 < (n : Int) + 1 by omega))
    by_cases c : ((n : Int) + 1).tmod (d * d) = 0 ∧ Di.tmod (d * d * ((n : Int) + 1) * ((n : Int) + 1)) = 0
    · rw [if_pos c, if_pos ⟨e1.mpr c.1, e2.mpr c.2⟩]; rfl
    · rw [if_neg c, if_neg (fun q => c ⟨e1.mp q.1, e2.mp q.2⟩)]
