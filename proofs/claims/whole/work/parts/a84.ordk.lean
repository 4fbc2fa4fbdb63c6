/-! both runs of orders for the kernel: each number worked out once, as a literal -/
def fnl {α : Type} (n : Nat) (k : Nat → α) : α := match Nat.add n 1 with
  | 0 => k 0
  | Nat.succ m => k m
def fzl {α : Type} (x : Int) (k : Int → α) : α := match x with
  | Int.ofNat n => fnl n (fun m => k (Int.ofNat m))
  | Int.negSucc n => fnl n (fun m => k (Int.negSucc m))
theorem fnl_eq {α : Type} (n : Nat) (k : Nat → α) : fnl n k = k n := rfl
theorem fzl_eq {α : Type} (x : Int) (k : Int → α) : fzl x k = k x := by cases x <;> rfl
def ngZ (x : Int) : Bool := match x with
  | Int.ofNat _ => false
  | Int.negSucc _ => true
theorem ngZ_eq (x : Int) : ngZ x = decide (x < 0) := by
  cases x with
  | ofNat n => exact (decide_eq_false (by have : (0 : Int) ≤ Int.ofNat n := Int.natCast_nonneg n; omega)).symm
  | negSucc n => exact (decide_eq_true (by omega)).symm
noncomputable def egNk {α : Type} (N : Nat) (z : α) (k : Nat → Nat → Nat → α) (f : Nat) : Nat → Nat → Nat → Nat → α := Nat.rec (motive := fun _ => Nat → Nat → Nat → Nat → α) (fun _ _ _ _ => z) (fun _ ih u v u' v' => bif Nat.beq v' 0 then k u v u' else fnl (Nat.mod (Nat.add u (Nat.sub N (Nat.mod (Nat.mul (Nat.div v v') u') N))) N) fun u2 => fnl (Nat.mod v v') fun v2 => ih u' v' u2 v2) f
def oT3 {α : Type} (z : α) (k : Nat → Nat → Nat → α) : Option ((Nat × Nat) × Nat) → α
  | none => z
  | some ((a, b), w) => k a b w
theorem beq_dec (m n : Nat) : Nat.beq m n = decide (m = n) := by
  by_cases h : m = n
  · rw [decide_eq_true h, h]; exact Nat.beq_refl n
  · rw [decide_eq_false h]
    cases e : Nat.beq m n with
    | false => rfl
    | true => exact absurd (Nat.eq_of_beq_eq_true e) h
theorem egNk_eq {α : Type} (N : Nat) (z : α) (k : Nat → Nat → Nat → α) : ∀ (f u v u' v' : Nat), egNk N z k f u v u' v' = oT3 z k (egN N f u v u' v') := by
  intro f
  induction f with
  | zero => intro u v u' v'; rfl
  | succ f ih =>
    intro u v u' v'
    have e : egNk N z k (f + 1) u v u' v' = bif Nat.beq v' 0 then k u v u' else egNk N z k f u' v' ((u + (N - v / v' * u' % N)) % N) (v % v') := rfl
    rw [e, egN, beq_dec]
    by_cases c : v' = 0
    · rw [decide_eq_true c, if_pos c]; rfl
    · rw [decide_eq_false c, if_neg c, cond_false, ih]
noncomputable def prK {α : Type} (x y : Int) (x2 y2 a e c d : Nat) (z : α) (k : Int → Int → Int → α) : α :=
  fnl (Nat.mul a c) fun N => fnl (Nat.mod (Nat.mul a d) N) fun s1 => fnl (Nat.mod (Nat.mul c e) N) fun s2 =>
  egNk N z (fun u v w => fnl (Nat.mod (Nat.sub (Nat.add (Nat.add (Nat.mul e d) x2) (Nat.add (Nat.mul 20 (Nat.mul a d)) (Nat.mul 200 N))) 200) N) fun s3 => fnl (Nat.sub (Nat.add (Nat.add e d) (Nat.add y2 (Nat.mul 20 a))) 20) fun s4 => egNk N z (fun u2 v2 w2 => fnl (Nat.gcd N (Nat.gcd w w2)) fun r0 => bif Nat.beq v2 0 then z else fnl (Nat.div r0 v2) fun A => fnl (Nat.div (Nat.mod u2 r0) v2) fun E => fzl (Int.add (Int.ofNat (Nat.mul 2 E)) y) fun B => fzl (Int.ediv (Int.sub (Int.add (Int.ofNat (Nat.mul E E)) (Int.mul (Int.ofNat E) y)) x) (Int.ofNat A)) fun C => k (Int.ofNat A) B C) 60 s3 s4 u v) 60 s1 a s2 c
def oF {α : Type} (z : α) (k : Int → Int → Int → α) : Option F3 → α
  | none => z
  | some q => k q.1 q.2.1 q.2.2
theorem prK_eq {α : Type} {x y : Int} (hx : -200 ≤ x) (hy : -20 ≤ y) {g h : F3} (hg : 0 < g.1) (hh : 0 < h.1) (z : α) (k : Int → Int → Int → α) : prK x y (x + 200).toNat (y + 20).toNat g.1.toNat (smE y g).toNat h.1.toNat (smE y h).toNat z k = oF z k (prF x y g h) := by
  have e1 : 0 ≤ smE y g := Int.emod_nonneg _ (by omega)
  have e2 : 0 ≤ smE y h := Int.emod_nonneg _ (by omega)
  unfold prF prdZ
  rw [if_pos ⟨hg, hh, e1, e2, hx, hy⟩]
  generalize (x + 200).toNat = x2
  generalize (y + 20).toNat = y2
  generalize g.1.toNat = a
  generalize h.1.toNat = c
  generalize (smE y g).toNat = e
  generalize (smE y h).toNat = d
  have nm : ∀ a b : Nat, Nat.mul a b = a * b := fun _ _ => rfl
  have na : ∀ a b : Nat, Nat.add a b = a + b := fun _ _ => rfl
  have ns : ∀ a b : Nat, Nat.sub a b = a - b := fun _ _ => rfl
  have nd : ∀ a b : Nat, Nat.div a b = a / b := fun _ _ => rfl
  have no : ∀ a b : Nat, Nat.mod a b = a % b := fun _ _ => rfl
  have zm : ∀ a b : Int, Int.mul a b = a * b := fun _ _ => rfl
  have za : ∀ a b : Int, Int.add a b = a + b := fun _ _ => rfl
  have zs : ∀ a b : Int, Int.sub a b = a - b := fun _ _ => rfl
  have zd : ∀ a b : Int, Int.ediv a b = a / b := fun _ _ => rfl
  unfold prK
  simp only [fnl_eq, fzl_eq, nm, na, ns, nd, no, zm, za, zs, zd]
  rw [egNk_eq]
  unfold prdN
  cases h1 : egN (a * c) 60 (a * d % (a * c)) a (c * e % (a * c)) c with
  | none => rfl
  | some z1 =>
    obtain ⟨⟨u, v⟩, w⟩ := z1
    dsimp only [oT3]
    rw [egNk_eq]
    cases h2 : egN (a * c) 60 ((e * d + x2 + (20 * (a * d) + 200 * (a * c)) - 200) % (a * c)) (e + d + (y2 + 20 * a) - 20) u v with
    | none => rfl
    | some z2 =>
      obtain ⟨⟨u2, v2⟩, w2⟩ := z2
      dsimp only [oT3]
      rw [beq_dec]
      by_cases cv : v2 = 0
      · rw [decide_eq_true cv, if_pos cv]; rfl
      · rw [decide_eq_false cv, if_neg cv, cond_false]
        dsimp only [oF, pfR, rwI, T2]
        simp only [Int.ofNat_eq_natCast]
        push_cast
        rfl
def rdP (D a b : Int) : Bool := bif ngZ (Int.sub b 1) then false else bif ngZ (Int.sub (Int.mul b b) D) then fzl (Int.mul 2 (Int.ofNat a.natAbs)) fun t => fzl (Int.add t b) (fun p => ngZ (Int.sub D (Int.mul p p))) && fzl (Int.sub t b) (fun p => bif ngZ (Int.sub p 1) then true else ngZ (Int.sub (Int.mul p p) D)) else false
theorem rdP_eq {D a b c : Int} (hD : 0 < D) : rdP D a b = rdB D a b c := by
  have s : rdP D a b = bif ngZ (b - 1) then false else bif ngZ (b * b - D) then fzl (2 * ((a.natAbs : Nat) : Int)) fun t => fzl (t + b) (fun p => ngZ (D - p * p)) && fzl (t - b) (fun p => bif ngZ (p - 1) then true else ngZ (p * p - D)) else false := rfl
  rw [s, fzl_eq, fzl_eq, fzl_eq]
  rw [Bool.eq_iff_iff, rdB_pos hD]
  simp only [ngZ_eq]
  generalize hp : (2 * ((a.natAbs : Nat) : Int) + b) * (2 * ((a.natAbs : Nat) : Int) + b) = P
  generalize hq : (2 * ((a.natAbs : Nat) : Int) - b) * (2 * ((a.natAbs : Nat) : Int) - b) = Q
  have q0 : 2 * ((a.natAbs : Nat) : Int) - b = 0 → Q = 0 := fun z => by rw [← hq, z]; rfl
  generalize b * b = B at *
  by_cases c1 : b - 1 < 0
  · rw [decide_eq_true c1, cond_true]
    exact ⟨fun z => absurd z (by decide), fun z => absurd z.2.2.1 (by omega)⟩
  rw [decide_eq_false c1, cond_false]
  by_cases c2 : B - D < 0
  rotate_left
  · rw [decide_eq_false c2, cond_false]
    exact ⟨fun z => absurd z (by decide), fun z => absurd z.2.2.2 (by omega)⟩
  rw [decide_eq_true c2, cond_true, Bool.and_eq_true, decide_eq_true_eq]
  by_cases c3 : 2 * ((a.natAbs : Nat) : Int) - b - 1 < 0
  · rw [decide_eq_true c3, cond_true]
    exact ⟨fun z => ⟨by omega, Or.inl (by omega), by omega, by omega⟩, fun z => ⟨by omega, rfl⟩⟩
  · rw [decide_eq_false c3, cond_false, decide_eq_true_eq]
    exact ⟨fun z => ⟨by omega, Or.inr (by omega), by omega, by omega⟩, fun z => ⟨by omega, by rcases z.2.1 with w | w <;> omega⟩⟩
def nxBk {α : Type} (D s b c : Int) (k : Int → α) : α := fnl c.natAbs fun A0 => fnl (Nat.mul 2 A0) fun A1 => bif ngZ (Int.sub (Int.ofNat (Nat.mul A0 A0)) D) then fzl (Int.sub s (Int.emod (Int.add s b) (Int.ofNat A1))) k else fzl (Int.emod (Int.neg b) (Int.ofNat A1)) fun t => bif ngZ (Int.sub (Int.ofNat A0) t) then fzl (Int.sub t (Int.ofNat A1)) k else k t
theorem nxBk_eq {α : Type} (D s b c : Int) (k : Int → α) : nxBk D s b c k = k (nxB D s b c) := by
  have s : nxBk D s b c k = bif ngZ (((c.natAbs * c.natAbs : Nat) : Int) - D) then fzl (s - (s + b) % ((2 * c.natAbs : Nat) : Int)) k else fzl ((-b) % ((2 * c.natAbs : Nat) : Int)) fun t => bif ngZ (((c.natAbs : Nat) : Int) - t) then fzl (t - ((2 * c.natAbs : Nat) : Int)) k else k t := rfl
  rw [s, fzl_eq, fzl_eq, fzl_eq]
  simp only [ngZ_eq]
  unfold nxB
  have e1 : ((c.natAbs * c.natAbs : Nat) : Int) = ((c.natAbs : Nat) : Int) * ((c.natAbs : Nat) : Int) := by push_cast; rfl
  have e2 : ((2 * c.natAbs : Nat) : Int) = 2 * ((c.natAbs : Nat) : Int) := by push_cast; rfl
  rw [e1, e2]
  by_cases c1 : ((c.natAbs : Nat) : Int) * ((c.natAbs : Nat) : Int) < D
  · rw [if_pos c1, decide_eq_true (by omega), cond_true]
  · rw [if_neg c1, decide_eq_false (by omega), cond_false]
    by_cases c2 : ((c.natAbs : Nat) : Int) < (-b) % (2 * ((c.natAbs : Nat) : Int))
    · rw [if_pos c2, decide_eq_true (by omega), cond_true]
    · rw [if_neg c2, decide_eq_false (by omega), cond_false]
def nxFk {α : Type} (D s b c : Int) (k : Int → Int → Int → α) : α := nxBk D s b c fun b' => fzl (Int.tdiv (Int.sub (Int.mul b' b') D) (Int.mul 4 c)) fun c' => k c b' c'
theorem nxFk_eq {α : Type} (D s a b c : Int) (k : Int → Int → Int → α) : nxFk D s b c k = k (nxF D s (a, b, c)).1 (nxF D s (a, b, c)).2.1 (nxF D s (a, b, c)).2.2 := by
  unfold nxFk
  rw [nxBk_eq, fzl_eq]
  rfl
noncomputable def RDk {α : Type} (D s : Int) (k : Int → Int → Int → α) (n : Nat) : Int → Int → Int → α := Nat.rec (motive := fun _ => Int → Int → Int → α) k (fun _ ih a b c => bif rdP D a b then k a b c else nxFk D s b c ih) n
theorem RDk_eq {α : Type} {D : Int} (hD : 0 < D) (k : Int → Int → Int → α) : ∀ (n : Nat) (f : F3), RDk D (rtZ D) k n f.1 f.2.1 f.2.2 = k (rdN D n f).1 (rdN D n f).2.1 (rdN D n f).2.2 := by
  intro n
  induction n with
  | zero => intro f; rfl
  | succ n ih =>
    intro f
    have s : RDk D (rtZ D) k (n + 1) f.1 f.2.1 f.2.2 = bif rdP D f.1 f.2.1 then k f.1 f.2.1 f.2.2 else nxFk D (rtZ D) f.2.1 f.2.2 (RDk D (rtZ D) k n) := rfl
    rw [s, rdN, rdP_eq (c := f.2.2) hD]
    by_cases c : rdB D f.1 f.2.1 f.2.2 = true
    · rw [if_pos c, c, cond_true]
    · have c' : rdB D f.1 f.2.1 f.2.2 = false := by simpa using c
      rw [if_neg c, c', cond_false, nxFk_eq D (rtZ D) f.1, ih]
      unfold stpF; rw [if_pos hD]
def rdM (a b c : Int) : Bool := bif ngZ (Int.sub a (Int.ofNat b.natAbs)) then false else bif ngZ (Int.sub c a) then false else bif ngZ b then (bif ngZ (Int.sub (Int.neg b) a) then ngZ (Int.sub a c) else false) else true
theorem rdM_eq {D a b c : Int} (hD : D < 0) : rdM a b c = rdB D a b c := by
  have s : rdM a b c = bif ngZ (a - ((b.natAbs : Nat) : Int)) then false else bif ngZ (c - a) then false else bif ngZ b then (bif ngZ (-b - a) then ngZ (a - c) else false) else true := rfl
  rw [s, Bool.eq_iff_iff, rdB_neg hD]
  simp only [ngZ_eq]
  by_cases c1 : a - ((b.natAbs : Nat) : Int) < 0
  · rw [decide_eq_true c1, cond_true]
    exact ⟨fun z => absurd z (by decide), fun z => absurd z.1 (by omega)⟩
  rw [decide_eq_false c1, cond_false]
  by_cases c2 : c - a < 0
  · rw [decide_eq_true c2, cond_true]
    exact ⟨fun z => absurd z (by decide), fun z => absurd z.2.1 (by omega)⟩
  rw [decide_eq_false c2, cond_false]
  by_cases c3 : b < 0
  rotate_left
  · rw [decide_eq_false c3, cond_false]
    exact ⟨fun _ => ⟨by omega, by omega, Or.inl (by omega)⟩, fun _ => rfl⟩
  rw [decide_eq_true c3, cond_true]
  by_cases c4 : -b - a < 0
  · rw [decide_eq_true c4, cond_true, decide_eq_true_eq]
    exact ⟨fun z => ⟨by omega, by omega, Or.inr ⟨by omega, by omega⟩⟩, fun z => by rcases z.2.2 with w | w <;> omega⟩
  · rw [decide_eq_false c4, cond_false]
    exact ⟨fun z => absurd z (by decide), fun z => by rcases z.2.2 with w | w <;> omega⟩
def trnK {α : Type} (D a b : Int) (k : Int → Int → Int → α) : α := fzl (Int.mul 2 a) fun a2 => fzl (Int.emod b a2) fun t => fzl (bif ngZ (Int.sub a t) then Int.sub t a2 else t) fun b' => fzl (Int.tdiv (Int.sub (Int.mul b' b') D) (Int.mul 4 a)) fun c' => bif ngZ (Int.sub c' (bif ngZ b' then Int.add a 1 else a)) then fzl (Int.neg b') (fun b2 => k c' b2 a) else k a b' c'
theorem trnK_eq {α : Type} (D : Int) (f : F3) (k : Int → Int → Int → α) : trnK D f.1 f.2.1 k = k (trnF D f).1 (trnF D f).2.1 (trnF D f).2.2 := by
  have e1 : (bif ngZ (f.1 - f.2.1 % (2 * f.1)) then f.2.1 % (2 * f.1) - 2 * f.1 else f.2.1 % (2 * f.1)) = nrmB f.1 f.2.1 := by
    unfold nrmB
    rw [ngZ_eq]
    by_cases c : f.1 < f.2.1 % (2 * f.1)
    · rw [if_pos c, decide_eq_true (by omega), cond_true]
    · rw [if_neg c, decide_eq_false (by omega), cond_false]
  have s : trnK D f.1 f.2.1 k = fzl (2 * f.1) fun a2 => fzl (f.2.1 % a2) fun t => fzl (bif ngZ (f.1 - t) then t - a2 else t) fun b' => fzl ((b' * b' - D).tdiv (4 * f.1)) fun c' => bif ngZ (c' - (bif ngZ b' then f.1 + 1 else f.1)) then fzl (-b') (fun b2 => k c' b2 f.1) else k f.1 b' c' := rfl
  rw [s]
  simp only [fzl_eq]
  rw [e1]
  have et : trnF D f = if (nrmB f.1 f.2.1 * nrmB f.1 f.2.1 - D).tdiv (4 * f.1) < f.1 ∨ (f.1 = (nrmB f.1 f.2.1 * nrmB f.1 f.2.1 - D).tdiv (4 * f.1) ∧ nrmB f.1 f.2.1 < 0) then ((nrmB f.1 f.2.1 * nrmB f.1 f.2.1 - D).tdiv (4 * f.1), -nrmB f.1 f.2.1, f.1) else (f.1, nrmB f.1 f.2.1, (nrmB f.1 f.2.1 * nrmB f.1 f.2.1 - D).tdiv (4 * f.1)) := rfl
  rw [et]
  generalize nrmB f.1 f.2.1 = b'
  generalize (b' * b' - D).tdiv (4 * f.1) = c'
  rw [ngZ_eq, ngZ_eq]
  by_cases c1 : b' < 0
  · rw [decide_eq_true c1, cond_true]
    by_cases c2 : c' < f.1 ∨ (f.1 = c' ∧ b' < 0)
    · rw [if_pos c2, decide_eq_true (by omega), cond_true]
    · rw [if_neg c2, decide_eq_false (by omega), cond_false]
  · rw [decide_eq_false c1, cond_false]
    by_cases c2 : c' < f.1 ∨ (f.1 = c' ∧ b' < 0)
    · rw [if_pos c2, decide_eq_true (by omega), cond_true]
    · rw [if_neg c2, decide_eq_false (by omega), cond_false]
noncomputable def RDn {α : Type} (D : Int) (k : Int → Int → Int → α) (n : Nat) : Int → Int → Int → α := Nat.rec (motive := fun _ => Int → Int → Int → α) k (fun _ ih a b c => bif rdM a b c then k a b c else trnK D a b ih) n
theorem RDn_eq {α : Type} {D : Int} (hD : D < 0) (k : Int → Int → Int → α) : ∀ (n : Nat) (f : F3), RDn D k n f.1 f.2.1 f.2.2 = k (rdN D n f).1 (rdN D n f).2.1 (rdN D n f).2.2 := by
  intro n
  induction n with
  | zero => intro f; rfl
  | succ n ih =>
    intro f
    have s : RDn D k (n + 1) f.1 f.2.1 f.2.2 = bif rdM f.1 f.2.1 f.2.2 then k f.1 f.2.1 f.2.2 else trnK D f.1 f.2.1 (RDn D k n) := rfl
    rw [s, rdN, rdM_eq hD]
    by_cases c : rdB D f.1 f.2.1 f.2.2 = true
    · rw [if_pos c, c, cond_true]
    · have c' : rdB D f.1 f.2.1 f.2.2 = false := by simpa using c
      rw [if_neg c, c', cond_false, trnK_eq, ih]
      unfold stpF; rw [if_neg (by omega)]
noncomputable def RDb {α : Type} (p : Bool) (D s : Int) (k : Int → Int → Int → α) (a b c : Int) : α := bif p then RDk D s k 61 a b c else RDn D k 61 a b c
theorem RDb_eq {α : Type} {D : Int} (nz : D ≠ 0) (k : Int → Int → Int → α) (f : F3) : RDb (decide (0 < D)) D (rtZ D) k f.1 f.2.1 f.2.2 = k (RD D f).1 (RD D f).2.1 (RD D f).2.2 := by
  unfold RDb RD
  by_cases c : 0 < D
  · rw [decide_eq_true c, cond_true]; exact RDk_eq c k 61 f
  · rw [decide_eq_false c, cond_false]; exact RDn_eq (by omega) k 61 f
/-- the table of marks, in one number -/
def kyZ (a b : Int) : Nat := (Int.add (Int.mul (Int.add a 40) 40) b).toNat
def dgN (T key : Nat) : Nat := Nat.land (Nat.shiftRight T (Nat.mul 8 key)) 255
def psK {α : Type} (D s a b c : Int) (k : Int → Int → α) : α := bif ngZ a then nxFk D s b c (fun a' b' _ => k a' b') else k a b
theorem psK_eq {α : Type} (D : Int) (f : F3) (k : Int → Int → α) : psK D (rtZ D) f.1 f.2.1 f.2.2 k = k (posF D f).1 (posF D f).2.1 := by
  unfold psK posF
  rw [ngZ_eq]
  by_cases c : f.1 < 0
  · rw [decide_eq_true c, cond_true, if_pos c, nxFk_eq D (rtZ D) f.1]
  · rw [decide_eq_false c, cond_false, if_neg c]
/-- a form with a above 0, for products: a, and e -/
def smK {α : Type} (y a b : Int) (k : Nat → Nat → α) : α := fnl a.toNat fun a' => fnl (Int.emod (Int.tdiv (Int.sub b y) 2) a).toNat fun e => k a' e
theorem smK_eq {α : Type} (y : Int) (f : F3) (k : Nat → Nat → α) : smK y f.1 f.2.1 k = k f.1.toNat (smE y f).toNat := rfl
noncomputable def rnC (p : Bool) (D s : Int) (T : Nat) (x y : Int) (x2 y2 goal ba bd : Nat) (k : Nat) : Nat → Nat → Nat → Nat → Nat := Nat.rec (motive := fun _ => Nat → Nat → Nat → Nat → Nat) (fun _ _ _ _ => 0) (fun _ ih pa pe rc m => bif Nat.beq rc goal then m else prK x y x2 y2 pa pe ba bd 0 (fun A B C => RDb p D s (fun a b c => fnl (dgN T (kyZ a b)) fun rc' => psK D s a b c fun a' b' => smK y a' b' fun pa' pe' => fnl (Nat.add m 1) fun m' => ih pa' pe' rc' m') A B C)) k
noncomputable def rnR (p : Bool) (D s : Int) (L : List F3) (T : Nat) (x y : Int) (x2 y2 goal ba bd : Nat) (k : Nat) : Nat → Nat → Nat := Nat.rec (motive := fun _ => Nat → Nat → Nat) (fun _ _ => 0) (fun _ ih now m => bif Nat.beq now goal then m else bif Nat.beq now 0 then 0 else match L[now - 1]? with
    | none => 0
    | some g => psK D s g.1 g.2.1 g.2.2 fun a b => smK y a b fun pa pe => prK x y x2 y2 pa pe ba bd 0 (fun A B C => RDb p D s (fun a b c => fnl (dgN T (kyZ a b)) fun rc' => fnl (Nat.add m 1) fun m' => ih rc' m') A B C)) k
def flN {α : Type} : List Nat → (List Nat → α) → α
  | [], k => k []
  | f :: L, k => fnl f fun a => flN L fun t => k (a :: t)
theorem flN_eq {α : Type} : ∀ (L : List Nat) (k : List Nat → α), flN L k = k L := by
  intro L
  induction L with
  | nil => intro k; rfl
  | cons f L ih => intro k; rw [flN, fnl_eq, ih]
noncomputable def alR (p : Bool) (D s : Int) (L : List F3) (T : Nat) (x y : Int) (x2 y2 goal : Nat) : Nat → List F3 → List Nat
  | _, [] => []
  | i, f :: L' => (bif Nat.beq (dgN T (kyZ f.1 f.2.1)) i then psK D s f.1 f.2.1 f.2.2 fun a b => smK y a b fun pa pe => rnR p D s L T x y x2 y2 goal pa pe 160 i 1 else 0) :: fnl (Nat.add i 1) fun j => alR p D s L T x y x2 y2 goal j L'
noncomputable def alC (p : Bool) (D s : Int) (T : Nat) (x y : Int) (x2 y2 goal : Nat) (RR : List Nat) : List F3 → Bool
  | [] => true
  | f :: L' => (fnl (dgN T (kyZ f.1 f.2.1)) fun m => !(Nat.beq m 0) && fnl (RR.getD (m - 1) 0) fun r => !(Nat.beq r 0) && psK D s f.1 f.2.1 f.2.2 fun a b => smK y a b fun pa pe => Nat.beq (rnC p D s T x y x2 y2 goal pa pe 160 pa pe m 1) r) && alC p D s T x y x2 y2 goal RR L'
noncomputable def alN (D s : Int) (T : Nat) (x y : Int) (x2 y2 goal : Nat) : List F3 → Bool
  | [] => true
  | f :: L' => (fnl (dgN T (kyZ f.1 f.2.1)) fun m => !(Nat.beq m 0) && smK y f.1 f.2.1 fun pa pe => !(Nat.beq (rnC false D s T x y x2 y2 goal pa pe 160 pa pe m 1) 0)) && alN D s T x y x2 y2 goal L'
noncomputable def ckP (p : Bool) (D s : Int) (L : List F3) (T : Nat) (x y : Int) : Bool := fnl (x + 200).toNat fun x2 => fnl (y + 20).toNat fun y2 => fzl (Int.neg x) fun c => RDb p D s (fun a b _ => fnl (dgN T (kyZ a b)) fun goal => bif p then flN (alR p D s L T x y x2 y2 goal 1 L) (fun RR => alC p D s T x y x2 y2 goal RR L) else alN D s T x y x2 y2 goal L) 1 y c
noncomputable def cyP (p : Bool) (D s : Int) (L : List F3) (T : Nat) : Nat → Int → Bool
  | 0, _ => true
  | n + 1, y => fzl (D - y * y) (fun t => !(decide (t % 4 = 0)) || fzl (t / 4) fun x => decide (200 < x) || decide (x < -200) || ckP p D s L T x y) && fzl (y + 1) fun y' => cyP p D s L T n y'
def mkT {α : Type} (k : Nat → α) : Nat → List F3 → List Int → α
  | T, f :: L, m :: M => fnl (T + Nat.shiftLeft (m + 1).toNat (Nat.mul 8 (kyZ f.1 f.2.1))) fun T' => mkT k T' L M
  | T, _, _ => k T
def ckT (T : Nat) : List F3 → List Int → Bool
  | f :: L, m :: M => Nat.beq (dgN T (kyZ f.1 f.2.1)) (m + 1).toNat && ckT T L M
  | [], _ => true
  | _, [] => false
noncomputable def ckA (p : Bool) (D s : Int) (L : List F3) (M : List Int) : Bool := mkT (fun T => ckT T L M && cyP p D s L T 41 (-20)) 0 L M
def izL : Nat → Nat → List Int
  | 0, _ => []
  | n + 1, i => fnl i fun i => Int.ofNat i :: izL n (i + 1)
/-- the list of forms, D above 0: what 4 a does not divide is passed over -/
def fBq (D a : Int) (Dn A4 : Nat) : Nat → Nat → List F3
  | 0, _ => []
  | n + 1, b => fnl b fun b => bif Nat.beq (Nat.mod (Nat.sub Dn (Nat.mul b b)) A4) 0 then (bif okF D a (Int.ofNat b) then [frm D a (Int.ofNat b)] else []) ++ fBq D a Dn A4 n (Nat.add b 1) else fBq D a Dn A4 n (Nat.add b 1)
def fAq (D : Int) (Dn s : Nat) : Nat → Int → List F3
  | 0, _ => []
  | n + 1, a => fzl a fun a => fnl (Nat.mul 4 a.natAbs) fun A4 => fBq D a Dn A4 s 1 ++ fAq D Dn s n (a + 1)
def stL {α : Type} (v : Int) : List Int → Nat → (List Int → α) → α
  | [], _, k => k []
  | x :: t, 0, k => k (v :: t)
  | x :: t, j + 1, k => stL v t j (fun t' => k (x :: t'))
def gtZ : List Int → Nat → Int
  | [], _ => 0
  | x :: _, 0 => x
  | _ :: t, j + 1 => gtZ t j
def mkWq {α : Type} (nx : Nat → Nat) (i : Nat) (k : List Int → α) : Nat → List Int → Nat → α
  | 0, m, _ => k m
  | f + 1, m, j => fnl j fun j => bif ngZ (gtZ m j) then stL (Int.ofNat i) m j (fun m' => mkWq nx i k f m' (nx j)) else k m
def mkLq {α : Type} (nx : Nat → Nat) (k : List Int → Nat → α) : Nat → Nat → List Int → Nat → α
  | 0, _, m, c => k m c
  | r + 1, i, m, c => fnl i fun i => fnl c fun c => bif ngZ (gtZ m i) then mkWq nx i (fun m' => mkLq nx k r (i + 1) m' (c + 1)) 161 m i else mkLq nx k r (i + 1) m c
/-- the number of the next form, by the table -/
def nxQ (D s : Int) (T : Nat) (f : F3) : Int := nxFk D s f.2.1 f.2.2 fun a b _ => bif rdP D a b then Int.ofNat (Nat.sub (dgN T (kyZ a b)) 1) else -1
noncomputable def chkP (D s : Int) : Bool := flF (fAq D D.toNat s.toNat (2 * s + 1).toNat (-s)) fun L => fn L.length fun n => decide (n < 160) && flI (izL n 0) fun Z => mkT (fun T => ckT T L Z && flI (L.map (nxQ D s T)) fun N => N.all (fun v => !(ngZ v)) && mkLq (fun j => (gtZ N j).toNat) (fun m c => decide (c = cyN m 0) && ckA true D s L m) n 0 (List.replicate n (-1)) 0) 0 L Z
noncomputable def chkN (D s : Int) : Bool := flF (fAk D s s.toNat 1) fun L => fn L.length fun n => decide (n < 160) && flI (izL n 0) fun M => mkT (fun T => ckT T L M && fz (D % 2) fun y => fz ((D - y * y) / 4) fun x => ckP false D s L T x y) 0 L M
noncomputable def chkO (D : Int) : Bool := fz (rtZ D) fun s => bif decide (0 < D) then chkP D s else chkN D s
