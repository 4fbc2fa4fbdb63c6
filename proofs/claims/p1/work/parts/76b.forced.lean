/-! the same, with each number worked out once: for the kernel -/
def fn {α : Type} (n : Nat) (k : Nat → α) : α := match n with
  | 0 => k 0
  | Nat.succ m => k (Nat.succ m)
def fz {α : Type} (x : Int) (k : Int → α) : α := match x with
  | Int.ofNat n => fn n (fun m => k (Int.ofNat m))
  | Int.negSucc n => fn n (fun m => k (Int.negSucc m))
theorem fn_eq {α : Type} (n : Nat) (k : Nat → α) : fn n k = k n := by cases n <;> rfl
theorem fz_eq {α : Type} (x : Int) (k : Int → α) : fz x k = k x := by
  cases x with
  | ofNat n => exact fn_eq n (fun m => k (Int.ofNat m))
  | negSucc n => exact fn_eq n (fun m => k (Int.negSucc m))
def fq {α : Type} (t : Q4) (k : Q4 → α) : α := fz t.1 fun a => fz t.2.1 fun b => fz t.2.2.1 fun c => fz t.2.2.2 fun d => k (a, b, c, d)
theorem fq_eq {α : Type} (t : Q4) (k : Q4 → α) : fq t k = k t := by simp only [fq, fz_eq]
def mxF {α : Type} (r f : Q4) (y x p : Int) (k : Q4 → α) : α := match r, f with
  | (r0, r1, r2, r3), (f0, f1, f2, f3) => fz (r3 * f3) fun u => fz (r0 * f3 + y * f0 * r3 + x * u) fun t0 => fz (r1 * f3 + y * f1 * r3) fun t1 => fz (r2 * f3 + y * f2 * r3) fun t2 => fz (u * p) fun t3 =>
    fn (Nat.gcd (Nat.gcd (Nat.gcd t3.natAbs t0.natAbs) t1.natAbs) t2.natAbs) fun g => fz (t0.tdiv g) fun a => fz (t1.tdiv g) fun b => fz (t2.tdiv g) fun c => fz (t3.tdiv g) fun q => k (a, b, c, q)
theorem mxF_eq {α : Type} (r f : Q4) (y x p : Int) (k : Q4 → α) : mxF r f y x p k = k (mxI r f y x p) := by
  obtain ⟨r0, r1, r2, r3⟩ := r
  obtain ⟨f0, f1, f2, f3⟩ := f
  simp only [mxF, fz_eq, fn_eq]; rfl
def w2F (f0 f1 : Int) (t : Q4) : Bool := match t with
  | (t0, t1, _, q) => fz (t0 % q) fun x0 => fz (t1 % q) fun x1 => fz (x0 - x1 * f1) fun y1 => decide ((x0 + y1).tmod q = 0) && decide ((x0 * y1 - x1 * (-(x1 * f0))).tmod (q * q) = 0)
theorem w2F_eq (f0 f1 : Int) (t : Q4) : w2F f0 f1 t = w2I f0 f1 t := by
  obtain ⟨t0, t1, t2, q⟩ := t
  simp only [w2F, fz_eq]; rfl
def w3F (f0 f1 f2 : Int) (t : Q4) : Bool := match t with
  | (t0, t1, t2, q) => fz (t0 % q) fun x0 => fz (t1 % q) fun x1 => fz (t2 % q) fun x2 => fz (x0 - x2 * f1) fun b => fz (x1 - x2 * f2) fun c => fz (b - c * f2) fun w =>
    bif decide ((x0 + b + w).tmod q = 0) then fz (-(x2 * f0)) fun a => fz (-(c * f0)) fun u => fz (a - c * f1) fun v => (decide ((x0 * b - x1 * a + x0 * w - x2 * u + b * w - c * v).tmod (q * q) = 0) && decide ((n3I x0 x1 x2 a b c u v w).tmod (q * q * q) = 0)) else false
theorem w3F_eq (f0 f1 f2 : Int) (t : Q4) : w3F f0 f1 f2 t = w3I f0 f1 f2 t := by
  obtain ⟨t0, t1, t2, q⟩ := t
  simp only [w3F, fz_eq, w3I]
  rcases decide ((t0 % q + (t0 % q - t2 % q * f1) + (t0 % q - t2 % q * f1 - (t1 % q - t2 % q * f2) * f2)).tmod q = 0) with _ | _ <;> rfl
def gAF (W : Q4 → Bool) (f : Q4) (p : Int) : Nat → Int → Option (Option Q4)
  | 0, _ => some none
  | k + 1, x => mxF f f 0 x p fun t => if ok4 t then (if W t then some (some t) else fz (x + 1) fun x1 => gAF W f p k x1) else none
def gBF (W : Q4 → Bool) (s f : Q4) (p : Int) : Nat → Int → Option (Option Q4)
  | 0, _ => some none
  | k + 1, x => fz (x.tdiv p) fun y => fz (x.tmod p) fun z => mxF s f y z p fun t => if ok4 t then (if W t then some (some t) else fz (x + 1) fun x1 => gBF W s f p k x1) else none
theorem gAF_eq {V W : Q4 → Bool} (h : ∀ t, V t = W t) (f : Q4) (p : Int) : ∀ k x, gAF V f p k x = gA W f p k x := by
  intro k
  induction k with
  | zero => intro x; rfl
  | succ k ih => intro x; simp only [gAF, gA, mxF_eq, fz_eq, h, ih]
theorem gBF_eq {V W : Q4 → Bool} (h : ∀ t, V t = W t) (s f : Q4) (p : Int) : ∀ k x, gBF V s f p k x = gB W s f p k x := by
  intro k
  induction k with
  | zero => intro x; rfl
  | succ k ih => intro x; simp only [gBF, gB, mxF_eq, fz_eq, h, ih]
def grF (W : Q4 → Bool) (n : Nat) (f s : Q4) (p : Int) : Option (Bool × Q4 × Q4) :=
  match gAF W f p p.toNat 0 with
  | none => none
  | some (some t) => some (true, t, s)
  | some none => if n = 2 then some (false, f, s) else
    match gBF W s f p (p.toNat * p.toNat) 0 with
    | none => none
    | some (some t) => some (true, f, t)
    | some none => some (false, f, s)
theorem grF_eq {V W : Q4 → Bool} (h : ∀ t, V t = W t) (n : Nat) (f s : Q4) (p : Int) : grF V n f s p = grI W n f s p := by
  unfold grF grI
  rw [gAF_eq h, gBF_eq h]
  rcases gA W f p p.toNat 0 with _ | (_ | t)
  · rfl
  · dsimp only
    by_cases c : n = 2
    · rw [if_pos c, if_pos c]
    · rw [if_neg c, if_neg c]
      rcases gB W s f p (p.toNat * p.toNat) 0 with _ | (_ | t) <;> rfl
  · rfl
def bgWF (W : Q4 → Bool) (n : Nat) (p : Int) : Nat → Q4 → Q4 → Option (Q4 × Q4)
  | 0, _, _ => none
  | k + 1, f, s => match grF W n f s p with
    | none => none
    | some (false, f', s') => some (f', s')
    | some (true, f', s') => bgWF W n p k f' s'
theorem bgWF_eq {V W : Q4 → Bool} (h : ∀ t, V t = W t) (n : Nat) (p : Int) : ∀ k f s, bgWF V n p k f s = bgW W n p k f s := by
  intro k
  induction k with
  | zero => intro f s; rfl
  | succ k ih =>
    intro f s
    unfold bgWF bgW
    rw [grF_eq h]
    rcases grI W n f s p with _ | ⟨_ | _, f', s'⟩
    · rfl
    · rfl
    · exact ih f' s'
/-- by natural numbers: Dn the amount of D -/
def bgPF (W : Q4 → Bool) (n : Nat) (Dn : Nat) : Nat → Nat → Q4 → Q4 → Option (Q4 × Q4)
  | 0, _, _, _ => none
  | k + 1, p, f, s => bif Nat.blt Dn (p * p) then some (f, s) else
    bif Nat.beq (Dn % (p * p)) 0 && ipr p then
      match bgWF W n p 12 f s with
      | none => none
      | some (f', s') => fn (p + 1) fun p1 => bgPF W n Dn k p1 f' s'
    else fn (p + 1) fun p1 => bgPF W n Dn k p1 f s
theorem bgPF_eq {V W : Q4 → Bool} (h : ∀ t, V t = W t) (n : Nat) (D : Int) : ∀ (k p : Nat) (f s : Q4), bgPF V n D.natAbs k p f s = bgP W n D k p f s := by
  intro k
  induction k with
  | zero => intro p f s; rfl
  | succ k ih =>
    intro p f s
    unfold bgPF bgP
    simp only [fn_eq, ih, bgWF_eq h]
    have e1 : ((D.natAbs : Int) < (p : Int) * p) ↔ Nat.blt D.natAbs (p * p) = true := by
      rw [Nat.blt_eq, ← Int.natCast_mul]; omega
    have e2 : (D.tmod ((p : Int) * p) = 0) ↔ Nat.beq (D.natAbs % (p * p)) 0 = true := by
      rw [Nat.beq_eq, ← Int.natCast_mul, ← Int.dvd_iff_tmod_eq_zero, ← Int.natAbs_dvd_natAbs, Int.natAbs_natCast, Nat.dvd_iff_mod_eq_zero]
    by_cases c1 : (D.natAbs : Int) < (p : Int) * p
    · rw [if_pos c1, e1.mp c1]; rfl
    · rw [if_neg c1, Bool.eq_false_iff.mpr (fun q => c1 (e1.mpr q))]
      simp only [cond_false]
      by_cases c2 : D.tmod ((p : Int) * p) = 0 ∧ ipr p = true
      · rw [if_pos c2, e2.mp c2.1, c2.2]
        simp only [Bool.and_self, cond_true]
        rcases bgW W n p 12 f s with _ | ⟨f', s'⟩ <;> rfl
      · rw [if_neg c2]
        have : (Nat.beq (D.natAbs % (p * p)) 0 && ipr p) = false := by
          rw [Bool.eq_false_iff]; intro q; rw [Bool.and_eq_true] at q; exact c2 ⟨e2.mpr q.1, q.2⟩
        rw [this]; rfl
