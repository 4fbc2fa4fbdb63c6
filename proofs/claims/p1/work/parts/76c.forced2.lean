def sqN : Nat → Nat → Nat → Nat
  | 0, k, _ => k
  | f + 1, k, n => bif Nat.ble ((k + 1) * (k + 1)) n then fn (k + 1) fun k1 => sqN f k1 n else k
theorem sqN_eq (n : Nat) : ∀ f k, sqN f k n = isqF f k (n : Int) := by
  intro f
  induction f with
  | zero => intro k; rfl
  | succ f ih =>
    intro k
    unfold sqN isqF
    simp only [fn_eq, ih]
    have e : (((k : Int) + 1) * (k + 1) ≤ (n : Int)) ↔ Nat.ble ((k + 1) * (k + 1)) n = true := by
      rw [Nat.ble_eq, ← Int.ofNat_le, Int.natCast_mul]; rfl
    by_cases c : ((k : Int) + 1) * (k + 1) ≤ (n : Int)
    · rw [if_pos c, e.mp c]; rfl
    · rw [if_neg c, Bool.eq_false_iff.mpr (fun q => c (e.mpr q))]; rfl
def psqF (x : Int) : Bool := match x with
  | Int.ofNat n => fn (sqN 1000 0 n) fun k => Nat.beq (k * k) n
  | Int.negSucc _ => false
theorem psqF_eq (x : Int) : psqF x = psq x := by
  cases x with
  | ofNat n =>
    show fn (sqN 1000 0 n) (fun k => Nat.beq (k * k) n) = psq ((n : Nat) : Int)
    rw [fn_eq, sqN_eq]
    unfold psq
    rw [decide_eq_true (by omega : (0 : Int) ≤ (n : Int)), Bool.true_and, Bool.eq_iff_iff, decide_eq_true_eq, Nat.beq_eq, ← Int.natCast_mul]
    omega
  | negSucc n => rfl
def fsHF (W : Int → Bool) : Nat → Int → Option Int
  | 0, _ => none
  | f + 1, h => if W h then some h else fz (h + 1) fun h1 => fsHF W f h1
theorem fsHF_eq {V W : Int → Bool} (hh : ∀ x, V x = W x) : ∀ f h, fsHF V f h = fsH W f h := by
  intro f
  induction f with
  | zero => intro h; rfl
  | succ f ih => intro h; simp only [fsHF, fsH, fz_eq, hh, ih]
def fsN (Dn : Nat) (W : Int → Int → Bool) : Nat → Option (Int × Int)
  | 0 => none
  | d + 1 => bif Nat.beq (Dn % ((d + 1) * (d + 1))) 0 then (fz ((d : Int) + 1) fun d1 => match fsHF (W d1) (d + 1) 0 with
      | some h => some (d1, h)
      | none => fsN Dn W d) else fsN Dn W d
theorem fsN_eq {V W : Int → Int → Bool} (hh : ∀ x y, V x y = W x y) (D : Int) : ∀ n, fsN D.natAbs V n = fsI D W n := by
  intro n
  induction n with
  | zero => rfl
  | succ n ih =>
    unfold fsN fsI
    rw [fz_eq, ih, fsHF_eq (hh _)]
    have e2 : (D.tmod (((n : Int) + 1) * ((n : Int) + 1)) = 0) ↔ Nat.beq (D.natAbs % ((n + 1) * (n + 1))) 0 = true := by
      rw [Nat.beq_eq, show ((n : Int) + 1) = ((n + 1 : Nat) : Int) from rfl, ← Int.natCast_mul, ← Int.dvd_iff_tmod_eq_zero, ← Int.natAbs_dvd_natAbs, Int.natAbs_natCast, Nat.dvd_iff_mod_eq_zero]
    by_cases c : D.tmod (((n : Int) + 1) * ((n : Int) + 1)) = 0
    · rw [if_pos c, e2.mp c]
      rcases fsH (W ((n : Int) + 1)) (n + 1) 0 with _ | h <;> rfl
    · rw [if_neg c, Bool.eq_false_iff.mpr (fun q => c (e2.mpr q))]; rfl
def tbF2 (f0 f1 h d : Int) (i j : Nat) (K : Int → Int → Bool) : Bool :=
  fz (bsI h d 0 0 1 i 0) fun u0 => fz (bsI h d 0 0 1 i 1) fun u1 => fz (bsI h d 0 0 1 j 0) fun v0 => fz (bsI h d 0 0 1 j 1) fun v1 =>
  fz (0 - 0 * f1) fun c3 => fz (0 + u1 * v1 - 0 * f0 - c3 * f1) fun c2 => fz (0 + u0 * v0 - c2 * f0) fun p0 => fz (0 + u0 * v1 + u1 * v0 - c3 * f0 - c2 * f1) fun p1 =>
  fz (d * 1 * (d * 1)) fun q => fz (q.tdiv 1) fun qe => fz (q.tdiv d) fun qd => fz ((p1 - 0 * 0 * qe) * d) fun n1 => fz (n1.tdiv q) fun y => fz (p0 - y * h * qd - 0 * 0 * qe) fun n0 => fz (n0.tdiv q) fun x =>
  dv q 1 && dv q d && dv n1 q && dv n0 q && K x y
theorem tbF2_eq (f0 f1 h d : Int) (i j : Nat) (K : Int → Int → Bool) : tbF2 f0 f1 h d i j K = (tbC2 f0 f1 h d 0 0 1 i j && K (tbI2 f0 f1 h d 0 0 1 i j).1 (tbI2 f0 f1 h d 0 0 1 i j).2.1) := by
  simp only [tbF2, fz_eq]; rfl
def clF2 (f0 f1 h d : Int) (i j : Nat) (K : Int → Int → Bool) : Bool :=
  fz (cwI2 f0 f1 h i j).1 fun w0 => fz (cwI2 f0 f1 h i j).2 fun w1 => fz (loI d 1 i * loI d 1 j) fun be => fz (be * d) fun q => fz (q.tdiv d) fun qd => fz (w1 * d * d) fun n1 => fz (n1.tdiv q) fun y => fz ((w0 * d - y * h * qd) * 1) fun n0 => fz (n0.tdiv q) fun x =>
  dv n1 q && dv q d && dv n0 q && K x y
theorem clF2_eq (f0 f1 h d : Int) (i j : Nat) (K : Int → Int → Bool) : clF2 f0 f1 h d i j K = (clC2 f0 f1 h d i j && K (clI2 f0 f1 h d i j).1 (clI2 f0 f1 h d i j).2) := by
  simp only [clF2, fz_eq]; rfl
def fc2F (a b h d D : Int) : Bool :=
  decide (1 ≤ d) && decide (d ≤ 90) && decide (0 ≤ h) && decide (h < d) && decide (fsN D.natAbs (cW2 b a) 34 = some (d, h))
  && tbF2 b a h d 0 0 (fun x y => decide (x = 1) && decide (y = 0)) && tbF2 b a h d 0 1 (fun x y => decide (x = 0) && decide (y = 1)) && tbF2 b a h d 1 0 (fun x y => decide (x = 0) && decide (y = 1))
  && clF2 b a h d 0 0 (fun x y => decide (x = 1) && decide (y = 0)) && clF2 b a h d 0 1 (fun x y => decide (x = 0) && decide (y = 1)) && clF2 b a h d 1 0 (fun x y => decide (x = 0) && decide (y = 1))
  && tbF2 b a h d 1 1 (fun t0 t1 => clF2 b a h d 1 1 (fun x y => decide (x = t0) && decide (y = t1)) && bb t0 200 && bb t1 20
    && fz (D.tdiv (d * d)) fun e => decide (t1 * t1 + 4 * t0 = e) && decide (e * (d * d) = D) && !psqF e)
theorem fc2F_of {a b h d : Int} (H : fc2F a b h d (a * a - 4 * b) = true) : fc2 a b h d = true := by
  simp only [fc2F, tbF2_eq, clF2_eq, fsN_eq (fun _ _ => rfl : ∀ x y, cW2 b a x y = cW2 b a x y), fz_eq, psqF_eq, Bool.and_eq_true, decide_eq_true_eq] at H
  obtain ⟨⟨⟨⟨⟨⟨⟨⟨⟨⟨⟨x1, x2⟩, x3⟩, x4⟩, x5⟩, c1, u1, v1⟩, c2, u2, v2⟩, c3, u3, v3⟩, d1, m1, n1⟩, d2, m2, n2⟩, d3, m3, n3⟩, c4, ⟨⟨⟨d4, m4, n4⟩, b1⟩, b2⟩, ⟨e1, e2⟩, e3⟩ := H
  have t1 : tbI2 b a h d 0 0 1 0 0 = (1, 0, 0) := Prod.ext u1 (Prod.ext v1 rfl)
  have t2 : tbI2 b a h d 0 0 1 0 1 = (0, 1, 0) := Prod.ext u2 (Prod.ext v2 rfl)
  have t3 : tbI2 b a h d 0 0 1 1 0 = (0, 1, 0) := Prod.ext u3 (Prod.ext v3 rfl)
  have r1 : clI2 b a h d 0 0 = (1, 0) := Prod.ext m1 n1
  have r2 : clI2 b a h d 0 1 = (0, 1) := Prod.ext m2 n2
  have r3 : clI2 b a h d 1 0 = (0, 1) := Prod.ext m3 n3
  have r4 : clI2 b a h d 1 1 = ((tbI2 b a h d 0 0 1 1 1).1, (tbI2 b a h d 0 0 1 1 1).2.1) := Prod.ext m4 n4
  simp only [fc2, Bool.and_eq_true, decide_eq_true_eq]
  exact ⟨⟨⟨⟨⟨⟨⟨⟨⟨⟨⟨⟨⟨⟨⟨⟨⟨⟨⟨⟨⟨⟨⟨⟨x1, x2⟩, x3⟩, x4⟩, x5⟩, c1⟩, c2⟩, c3⟩, c4⟩, t1⟩, t2⟩, t3⟩, d1⟩, d2⟩, d3⟩, d4⟩, r1⟩, r2⟩, r3⟩, r4⟩, b1⟩, b2⟩, e1⟩, e2⟩, e3⟩
def ck2F (a b : Int) : Bool := fz (a * a - 4 * b) fun D => psqF D || (match bgPF (w2F b a) 2 D.natAbs 108 2 (0, 1, 0, 1) (0, 0, 1, 1) with
  | none => false
  | some (f, _) => fz f.2.2.2 fun d => fz (f.1 % d) fun h => fc2F a b h d D)
theorem ck2F_of {a b : Int} (H : ck2F a b = true) (hp : psq (a * a - 4 * b) = false) : fck2 a b = true := by
  unfold ck2F at H
  rw [fz_eq, psqF_eq, hp, Bool.false_or, bgPF_eq (W := wI 2 b a 0) (fun t => (w2F_eq b a t : w2F b a t = wI 2 b a 0 t)) 2 (a * a - 4 * b)] at H
  unfold fck2 rgo
  rcases hb : bgP (wI 2 b a 0) 2 (a * a - 4 * b) 108 2 (0, 1, 0, 1) (0, 0, 1, 1) with _ | ⟨f, s⟩
  · rw [show ((2 : Nat) : Int) = 2 from rfl, hb] at H; exact absurd H Bool.false_ne_true
  · rw [show ((2 : Nat) : Int) = 2 from rfl, hb] at H
    simp only [fz_eq] at H
    exact fc2F_of H
def all2F (a : Int) : Nat → Int → Bool
  | 0, _ => true
  | n + 1, b => ck2F a b && fz (b + 1) fun b1 => all2F a n b1
theorem all2F_of {a : Int} : ∀ (n : Nat) (b : Int), all2F a n b = true → ∀ x, b ≤ x → x < b + n → psq (a * a - 4 * x) = false → fck2 a x = true := by
  intro n
  induction n with
  | zero => intro b _ x h1 h2; omega
  | succ n ih =>
    intro b h x h1 h2 hp
    unfold all2F at h
    rw [fz_eq, Bool.and_eq_true] at h
    rcases Int.lt_or_eq_of_le h1 with q | q
    · exact ih (b + 1) h.2 x (by omega) (by omega) hp
    · subst q
      exact ck2F_of h.1 hp
