def hwN (a b c : Int) : Nat → Int → Bool
  | 0, _ => false
  | f + 1, x => if ((x + a) * x + b) * x + c = 0 then true else fz (x + 1) fun x1 => hwN a b c f x1
theorem hwN_eq (a b c : Int) : ∀ f x, hwN a b c f x = hw7 a b c f x := by
  intro f
  induction f with
  | zero => intro x; rfl
  | succ f ih =>
    intro x
    have e1 : ((x + a) * x + b) * x + c = x * x * x + a * x * x + b * x + c := by rw [Int.add_mul, Int.add_mul, Int.add_mul]
    simp only [hwN, hw7, fz_eq, ih, e1]
def ftLF (W : Int → Int → Bool) (d e : Int) (ne : Nat) : Nat → Int → Option (Int × Int)
  | 0, _ => none
  | f + 1, g => if g * d < e then (match fsHF (W g) ne 0 with
      | some k => some (g, k)
      | none => fz (g + 1) fun g1 => ftLF W d e ne f g1) else none
theorem ftLF_eq {V W : Int → Int → Bool} (hh : ∀ x y, V x y = W x y) (d e : Int) (ne : Nat) : ∀ f g, ftLF V d e ne f g = ftL W d e ne f g := by
  intro f
  induction f with
  | zero => intro g; rfl
  | succ f ih =>
    intro g
    unfold ftLF ftL
    rw [fsHF_eq (hh g), fz_eq, ih]
    by_cases c : g * d < e
    · rw [if_pos c, if_pos c]
      rcases fsH (W g) ne 0 with _ | k <;> rfl
    · rw [if_neg c, if_neg c]
def ftN (Dn : Nat) (W : Int → Int → Int → Bool) (d : Int) (dn : Nat) : Nat → Option (Int × Int × Int)
  | 0 => none
  | e + 1 => bif Nat.beq ((e + 1) % (dn * dn)) 0 && Nat.beq (Dn % (dn * dn * (e + 1) * (e + 1))) 0 then (fz ((e : Int) + 1) fun e1 => match ftLF (W e1) d e1 (e + 1) 91 0 with
      | some (g, k) => some (e1, g, k)
      | none => ftN Dn W d dn e) else ftN Dn W d dn e
theorem ftN_eq {V W : Int → Int → Int → Bool} (hh : ∀ x y z, V x y z = W x y z) (D : Int) (dn : Nat) : ∀ n, ftN D.natAbs V dn dn n = ftI D W dn n := by
  intro n
  induction n with
  | zero => rfl
  | succ n ih =>
    unfold ftN ftI
    rw [fz_eq, ih, ftLF_eq (hh _)]
    have cast : ((n : Int) + 1) = ((n + 1 : Nat) : Int) := rfl
    have e1 : (((n : Int) + 1).tmod ((dn : Int) * dn) = 0) ↔ Nat.beq ((n + 1) % (dn * dn)) 0 = true := by
      rw [Nat.beq_eq, cast, ← Int.natCast_mul, ← Int.dvd_iff_tmod_eq_zero, Int.natCast_dvd_natCast, Nat.dvd_iff_mod_eq_zero]
    have e2 : (D.tmod ((dn : Int) * dn * ((n : Int) + 1) * ((n : Int) + 1)) = 0) ↔ Nat.beq (D.natAbs % (dn * dn * (n + 1) * (n + 1))) 0 = true := by
      rw [Nat.beq_eq, cast, ← Int.natCast_mul, ← Int.natCast_mul, ← Int.natCast_mul, ← Int.dvd_iff_tmod_eq_zero, ← Int.natAbs_dvd_natAbs, Int.natAbs_natCast, Nat.dvd_iff_mod_eq_zero]
    by_cases c : ((n : Int) + 1).tmod ((dn : Int) * dn) = 0 ∧ D.tmod ((dn : Int) * dn * ((n : Int) + 1) * ((n : Int) + 1)) = 0
    · rw [if_pos c, e1.mp c.1, e2.mp c.2]
      simp only [Bool.and_self, cond_true]
      rcases ftL (W ((n : Int) + 1)) dn ((n : Int) + 1) (n + 1) 91 0 with _ | ⟨g, k⟩ <;> rfl
    · rw [if_neg c]
      have : (Nat.beq ((n + 1) % (dn * dn)) 0 && Nat.beq (D.natAbs % (dn * dn * (n + 1) * (n + 1))) 0) = false := by
        rw [Bool.eq_false_iff]; intro q; rw [Bool.and_eq_true] at q; exact c ⟨e1.mpr q.1, e2.mpr q.2⟩
      rw [this]; rfl
def cW3F (f0 f1 f2 u0 u1 u2 d : Int) : Bool :=
  bif decide ((3 * u0 - u1 * f2 + u2 * (f2 * f2 - 2 * f1)).tmod d = 0) then fz (-(u2 * f0)) fun a => fz (u0 - u2 * f1) fun b => fz (u1 - u2 * f2) fun c => fz (-(c * f0)) fun x => fz (a - c * f1) fun y => fz (b - c * f2) fun z =>
  (decide ((u0 * b - u1 * a + (u0 * z - u2 * x) + (b * z - c * y)).tmod (d * d) = 0) && decide ((n3I u0 u1 u2 a b c x y z).tmod (d * d * d) = 0)) else false
theorem cW3F_eq (f0 f1 f2 u0 u1 u2 d : Int) : cW3F f0 f1 f2 u0 u1 u2 d = cW3 f0 f1 f2 u0 u1 u2 d := by
  simp only [cW3F, fz_eq, cW3]
  rcases decide ((3 * u0 - u1 * f2 + u2 * (f2 * f2 - 2 * f1)).tmod d = 0) with _ | _ <;> rfl
def tbF3 (f0 f1 f2 h d k l e : Int) (i j : Nat) (K : Int → Int → Int → Bool) : Bool :=
  fz (bsI h d k l e i 0) fun u0 => fz (bsI h d k l e i 1) fun u1 => fz (bsI h d k l e i 2) fun u2 => fz (bsI h d k l e j 0) fun v0 => fz (bsI h d k l e j 1) fun v1 => fz (bsI h d k l e j 2) fun v2 =>
  fz (0 + u2 * v2) fun w4 => fz (0 + u1 * v2 + u2 * v1 - w4 * f2) fun c3 => fz (0 + u0 * v0 - c3 * f0) fun p0 => fz (0 + u0 * v1 + u1 * v0 - w4 * f0 - c3 * f1) fun p1 => fz (0 + u0 * v2 + u1 * v1 + u2 * v0 - w4 * f1 - c3 * f2) fun p2 =>
  fz (d * e * (d * e)) fun q => fz (q.tdiv e) fun qe => fz (q.tdiv d) fun qd => fz (p2 * e) fun n2 => fz (n2.tdiv q) fun z => fz ((p1 - z * l * qe) * d) fun n1 => fz (n1.tdiv q) fun y => fz (p0 - y * h * qd - z * k * qe) fun n0 => fz (n0.tdiv q) fun x =>
  dv q e && dv q d && dv n2 q && dv n1 q && dv n0 q && K x y z
theorem tbF3_eq (f0 f1 f2 h d k l e : Int) (i j : Nat) (K : Int → Int → Int → Bool) : tbF3 f0 f1 f2 h d k l e i j K = (tbC3 f0 f1 f2 h d k l e i j && K (tbI3 f0 f1 f2 h d k l e i j).1 (tbI3 f0 f1 f2 h d k l e i j).2.1 (tbI3 f0 f1 f2 h d k l e i j).2.2) := by
  simp only [tbF3, fz_eq]; rfl
def clF3 (f0 f1 f2 h d k l e : Int) (i j : Nat) (K : Int → Int → Int → Bool) : Bool :=
  fz (cwI3 f0 f1 f2 h k l i j).1 fun w0 => fz (cwI3 f0 f1 f2 h k l i j).2.1 fun w1 => fz (cwI3 f0 f1 f2 h k l i j).2.2 fun w2 => fz (d * e) fun ix => fz ((loI d e i * loI d e j) * ix) fun q => fz (q.tdiv e) fun qe => fz (q.tdiv d) fun qd =>
  fz (w2 * ix * e) fun n2 => fz (n2.tdiv q) fun z => fz ((w1 * ix - z * l * qe) * d) fun n1 => fz (n1.tdiv q) fun y => fz ((w0 * ix - z * k * qe - y * h * qd) * 1) fun n0 => fz (n0.tdiv q) fun x =>
  dv n2 q && dv q e && dv q d && dv n1 q && dv n0 q && K x y z
theorem clF3_eq (f0 f1 f2 h d k l e : Int) (i j : Nat) (K : Int → Int → Int → Bool) : clF3 f0 f1 f2 h d k l e i j K = (clC3 f0 f1 f2 h d k l e i j && K (clI3 f0 f1 f2 h d k l e i j).1 (clI3 f0 f1 f2 h d k l e i j).2.1 (clI3 f0 f1 f2 h d k l e i j).2.2) := by
  simp only [clF3, fz_eq]; rfl
def eq3 (a b c x y z : Int) : Bool := decide (x = a) && decide (y = b) && decide (z = c)
theorem eq3_of {t : Int × Int × Int} {a b c : Int} (h : eq3 a b c t.1 t.2.1 t.2.2 = true) : t = (a, b, c) := by
  simp only [eq3, Bool.and_eq_true, decide_eq_true_eq] at h
  exact Prod.ext h.1.1 (Prod.ext h.1.2 h.2)
def fc3F (a b c h d k l e D : Int) : Bool :=
  decide (1 ≤ d) && decide (d ≤ 90) && decide (0 ≤ h) && decide (h < d) && decide (1 ≤ e) && decide (e ≤ 90) && decide (0 ≤ k) && decide (k < e) && decide (0 ≤ l) && decide (l < e)
  && decide (fsN D.natAbs (fun d h => cW3F c b a h 1 0 d) 90 = some (d, h)) && decide (ftN D.natAbs (fun e g k => cW3F c b a k g 1 e) d d.toNat 90 = some (e, l, k))
  && tbF3 c b a h d k l e 0 0 (eq3 1 0 0) && tbF3 c b a h d k l e 0 1 (eq3 0 1 0) && tbF3 c b a h d k l e 0 2 (eq3 0 0 1) && tbF3 c b a h d k l e 1 0 (eq3 0 1 0) && tbF3 c b a h d k l e 2 0 (eq3 0 0 1)
  && clF3 c b a h d k l e 0 0 (eq3 1 0 0) && clF3 c b a h d k l e 0 1 (eq3 0 1 0) && clF3 c b a h d k l e 0 2 (eq3 0 0 1) && clF3 c b a h d k l e 1 0 (eq3 0 1 0) && clF3 c b a h d k l e 2 0 (eq3 0 0 1)
  && tbF3 c b a h d k l e 1 1 (fun x0 x1 x2 => tbF3 c b a h d k l e 1 2 (fun y0 y1 y2 => tbF3 c b a h d k l e 2 2 (fun z0 z1 z2 =>
    tbF3 c b a h d k l e 2 1 (eq3 y0 y1 y2) && clF3 c b a h d k l e 1 1 (eq3 x0 x1 x2) && clF3 c b a h d k l e 1 2 (eq3 y0 y1 y2) && clF3 c b a h d k l e 2 1 (eq3 y0 y1 y2) && clF3 c b a h d k l e 2 2 (eq3 z0 z1 z2)
    && (bb x0 40 && bb x1 40 && bb x2 40) && (bb y0 40 && bb y1 40 && bb y2 40) && (bb z0 40 && bb z1 40 && bb z2 40) && asc x0 x1 x2 y0 y1 y2 z0 z1 z2)))
  && fz (d * e * d * e) fun q => decide (D.tdiv q * q = D)
theorem fc3F_of {a b c h d k l e : Int} (H : fc3F a b c h d k l e (pdI a b c) = true) : fc3 a b c h d k l e = true := by
  have hd : ((d.toNat : Nat) : Int) = d := by
    simp only [fc3F, Bool.and_eq_true, decide_eq_true_eq] at H
    have := H.1.1.1.1.1.1.1.1.1.1.1.1.1.1.1.1.1.1.1.1.1.1.1
    omega
  have hft := ftN_eq (V := fun e g k => cW3F c b a k g 1 e) (W := fun e g k => cW3 c b a k g 1 e) (fun _ _ _ => cW3F_eq _ _ _ _ _ _ _) (pdI a b c) d.toNat 90
  rw [hd] at hft
  simp only [fc3F, tbF3_eq, clF3_eq, fsN_eq (V := fun d h => cW3F c b a h 1 0 d) (W := fun d h => cW3 c b a h 1 0 d) (fun _ _ => cW3F_eq _ _ _ _ _ _ _), hft, fz_eq, Bool.and_eq_true, decide_eq_true_eq] at H
  obtain ⟨⟨⟨⟨⟨⟨⟨⟨⟨⟨⟨⟨⟨⟨⟨⟨⟨⟨⟨⟨⟨⟨⟨a1, a2⟩, a3⟩, a4⟩, a5⟩, a6⟩, a7⟩, a8⟩, a9⟩, a10⟩, s1⟩, s2⟩, c00, t00⟩, c01, t01⟩, c02, t02⟩, c10, t10⟩, c20, t20⟩, d00, u00⟩, d01, u01⟩, d02, u02⟩, d10, u10⟩, d20, u20⟩, c11, c12, c22, ⟨⟨⟨⟨⟨⟨⟨⟨⟨c21, t21⟩, d11, u11⟩, d12, u12⟩, d21, u21⟩, d22, u22⟩, bx⟩, by'⟩, bz⟩, as⟩⟩, dd⟩ := H
  simp only [fc3, fc3b, fc3c, bb3, Bool.and_eq_true, decide_eq_true_eq]
  refine ⟨⟨⟨⟨⟨⟨⟨⟨⟨⟨⟨⟨⟨⟨⟨⟨⟨⟨a1, a2⟩, a3⟩, a4⟩, a5⟩, a6⟩, a7⟩, a8⟩, a9⟩, a10⟩, s1⟩, s2⟩, ?_⟩, ?_⟩, bx⟩, by'⟩, bz⟩, as⟩, dd⟩
  · exact ⟨⟨⟨⟨⟨⟨⟨⟨⟨⟨⟨⟨⟨⟨c00, c01⟩, c02⟩, c10⟩, c11⟩, c12⟩, c20⟩, c21⟩, c22⟩, eq3_of t00⟩, eq3_of t01⟩, eq3_of t02⟩, eq3_of t10⟩, eq3_of t20⟩, eq3_of t21⟩
  · exact ⟨⟨⟨⟨⟨⟨⟨⟨⟨⟨⟨⟨⟨⟨⟨⟨⟨d00, d01⟩, d02⟩, d10⟩, d11⟩, d12⟩, d20⟩, d21⟩, d22⟩, eq3_of u00⟩, eq3_of u01⟩, eq3_of u02⟩, eq3_of u10⟩, eq3_of u20⟩, eq3_of u11⟩, eq3_of u12⟩, eq3_of u21⟩, eq3_of u22⟩
def ck3F (a b c : Int) : Bool := hwN a b c 41 (-20) || fz (pdI a b c) fun D => (match bgPF (w3F c b a) 3 D.natAbs 108 2 (0, 1, 0, 1) (0, 0, 1, 1) with
  | none => false
  | some (f, s) => fz f.2.2.2 fun d => fz (f.1 % d) fun h => fz s.2.2.2 fun e => fz (e.tdiv d) fun m => fz (s.2.1 / m) fun u => decide (1 ≤ m) && fz ((s.1 - u * h * m) % e) fun k => fz (s.2.1 - u * m) fun l => fc3F a b c h d k l e D)
theorem ck3F_of {a b c : Int} (H : ck3F a b c = true) (hp : hw7 a b c 41 (-20) = false) : fck3 a b c = true := by
  unfold ck3F at H
  rw [fz_eq, hwN_eq, hp, Bool.false_or, bgPF_eq (W := wI 3 c b a) (fun t => (w3F_eq c b a t : w3F c b a t = wI 3 c b a t)) 3 (pdI a b c)] at H
  unfold fck3 rgo
  rcases hb : bgP (wI 3 c b a) 3 (pdI a b c) 108 2 (0, 1, 0, 1) (0, 0, 1, 1) with _ | ⟨f, s⟩
  · rw [show ((2 : Nat) : Int) = 2 from rfl, hb] at H; exact absurd H Bool.false_ne_true
  · rw [show ((2 : Nat) : Int) = 2 from rfl, hb] at H
    simp only [fz_eq, Bool.and_eq_true, decide_eq_true_eq] at H
    dsimp only
    rw [if_neg (by decide), if_pos H.1]
    exact fc3F_of H.2
def all3F (a b : Int) : Nat → Int → Bool
  | 0, _ => true
  | n + 1, c => ck3F a b c && fz (c + 1) fun c1 => all3F a b n c1
theorem all3F_of {a b : Int} : ∀ (n : Nat) (c : Int), all3F a b n c = true → ∀ x, c ≤ x → x < c + n → hw7 a b x 41 (-20) = false → fck3 a b x = true := by
  intro n
  induction n with
  | zero => intro b _ x h1 h2; omega
  | succ n ih =>
    intro c h x h1 h2 hp
    unfold all3F at h
    rw [fz_eq, Bool.and_eq_true] at h
    rcases Int.lt_or_eq_of_le h1 with q | q
    · exact ih (c + 1) h.2 x (by omega) (by omega) hp
    · subst q
      exact ck3F_of h.1 hp
