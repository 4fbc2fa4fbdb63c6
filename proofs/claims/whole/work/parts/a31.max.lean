/-! degree 3: a way that is twice there divides the table's discriminant; the check that p lies in the product all the same -/
def trc (s : Nat → Int) (x : V3) : Int := 3 * x.1 + (s 1 + s 5) * x.2.1 + (s 4 + s 8) * x.2.2
def g11 (s : Nat → Int) : Int := trc s (s 0, s 1, s 2)
def g12 (s : Nat → Int) : Int := trc s (s 3, s 4, s 5)
def g22 (s : Nat → Int) : Int := trc s (s 6, s 7, s 8)
def dT (s : Nat → Int) : Int := 3 * (g11 s * g22 s - g12 s * g12 s) - (s 1 + s 5) * ((s 1 + s 5) * g22 s - g12 s * (s 4 + s 8)) + (s 4 + s 8) * ((s 1 + s 5) * g12 s - g11 s * (s 4 + s 8))
theorem trc_mul (s : Nat → Int) (x y : V3) : trc s (mu3 s x y) = x.1 * (3 * y.1 + (s 1 + s 5) * y.2.1 + (s 4 + s 8) * y.2.2) + x.2.1 * ((s 1 + s 5) * y.1 + g11 s * y.2.1 + g12 s * y.2.2) + x.2.2 * ((s 4 + s 8) * y.1 + g12 s * y.2.1 + g22 s * y.2.2) := by
  unfold g11 g12 g22 trc; simp only [mu3]; grind
/-- what the trace makes of a way -/
def aE (s : Nat → Int) (u v : Int) : V3 :=
  ((g11 s * g22 s - g12 s * g12 s) - ((s 1 + s 5) * g22 s - (s 4 + s 8) * g12 s) * u + ((s 1 + s 5) * g12 s - (s 4 + s 8) * g11 s) * v,
   -((s 1 + s 5) * g22 s - g12 s * (s 4 + s 8)) + (3 * g22 s - (s 4 + s 8) * (s 4 + s 8)) * u - (3 * g12 s - (s 1 + s 5) * (s 4 + s 8)) * v,
   ((s 1 + s 5) * g12 s - g11 s * (s 4 + s 8)) - (3 * g12 s - (s 1 + s 5) * (s 4 + s 8)) * u + (3 * g11 s - (s 1 + s 5) * (s 1 + s 5)) * v)
theorem aE_tr (s : Nat → Int) (u v : Int) (y : V3) : trc s (mu3 s (aE s u v) y) = dT s * ph u v y := by
  rw [trc_mul]; unfold aE dT ph; dsimp only; grind
theorem tr_dual (s : Nat → Int) (x : V3) : dT s * x.1 = (g11 s * g22 s - g12 s * g12 s) * trc s (mu3 s x (1, 0, 0)) - ((s 1 + s 5) * g22 s - (s 4 + s 8) * g12 s) * trc s (mu3 s x (0, 1, 0)) + ((s 1 + s 5) * g12 s - (s 4 + s 8) * g11 s) * trc s (mu3 s x (0, 0, 1))
    ∧ dT s * x.2.1 = -((s 1 + s 5) * g22 s - g12 s * (s 4 + s 8)) * trc s (mu3 s x (1, 0, 0)) + (3 * g22 s - (s 4 + s 8) * (s 4 + s 8)) * trc s (mu3 s x (0, 1, 0)) - (3 * g12 s - (s 1 + s 5) * (s 4 + s 8)) * trc s (mu3 s x (0, 0, 1))
    ∧ dT s * x.2.2 = ((s 1 + s 5) * g12 s - g11 s * (s 4 + s 8)) * trc s (mu3 s x (1, 0, 0)) - (3 * g12 s - (s 1 + s 5) * (s 4 + s 8)) * trc s (mu3 s x (0, 1, 0)) + (3 * g11 s - (s 1 + s 5) * (s 1 + s 5)) * trc s (mu3 s x (0, 0, 1)) := by
  rw [trc_mul, trc_mul, trc_mul]; unfold dT; dsimp only
  refine ⟨?_, ?_, ?_⟩ <;> grind
theorem ram_dT {s : Nat → Int} (rr : Rg 3 (T3 s)) {p : Nat} (hp : Prm p) {x : Nat × Nat} (hx : isw 3 (T3 s) p x) (h : ram 3 (T3 s) p x) : (p : Int) ∣ dT s := by
  apply Classical.byContradiction
  intro hd
  have e2 : ∀ y, (p : Int) ∣ ph (-(x.1 : Int)) (-(x.2 : Int)) y → Sp (smR 3 p) (muv 3 (T3 s) (aE s (-(x.1 : Int)) (-(x.2 : Int))) y) := by
    intro y hy
    have t : ∀ z, (p : Int) ∣ trc s (mu3 s (muv 3 (T3 s) (aE s (-(x.1 : Int)) (-(x.2 : Int))) y) z) := by
      intro z
      have q : mu3 s (muv 3 (T3 s) (aE s (-(x.1 : Int)) (-(x.2 : Int))) y) z = mu3 s (aE s (-(x.1 : Int)) (-(x.2 : Int))) (muv 3 (T3 s) y z) := by
        rw [← muv3, muv_assoc rr]; rfl
      rw [q, aE_tr]
      exact Int.dvd_mul_of_dvd_right (ph_zero hx.2.2 hy)
    obtain ⟨d0, d1, d2⟩ := tr_dual s (muv 3 (T3 s) (aE s (-(x.1 : Int)) (-(x.2 : Int))) y)
    have t0 := t (1, 0, 0)
    have t1 := t (0, 1, 0)
    have t2 := t (0, 0, 1)
    rw [Sp_smR (Or.inr rfl)]
    refine ⟨(hp.2 _ _ ?_).resolve_left hd, (hp.2 _ _ ?_).resolve_left hd, fun _ => (hp.2 _ _ ?_).resolve_left hd⟩
    · rw [d0]; exact Int.dvd_add (Int.dvd_sub (Int.dvd_mul_of_dvd_right t0) (Int.dvd_mul_of_dvd_right t1)) (Int.dvd_mul_of_dvd_right t2)
    · rw [d1]; exact Int.dvd_sub (Int.dvd_add (Int.dvd_mul_of_dvd_right t0) (Int.dvd_mul_of_dvd_right t1)) (Int.dvd_mul_of_dvd_right t2)
    · rw [d2]; exact Int.dvd_add (Int.dvd_sub (Int.dvd_mul_of_dvd_right t0) (Int.dvd_mul_of_dvd_right t1)) (Int.dvd_mul_of_dvd_right t2)
  have h3 := h _ e2
  have w1 := e2 (-(-(x.1 : Int)), 1, 0) (by unfold ph; dsimp only; exact ⟨0, by omega⟩)
  have w2 := e2 (-(-(x.2 : Int)), 0, 1) (by unfold ph; dsimp only; exact ⟨0, by omega⟩)
  have tt := aE_tr s (-(x.1 : Int)) (-(x.2 : Int)) (1, 0, 0)
  generalize aE s (-(x.1 : Int)) (-(x.2 : Int)) = e at h3 w1 w2 tt
  rw [Sp_smR (Or.inr rfl), muv3] at w1 w2
  have a1 := w1.2.1
  have a2 := w2.2.2 rfl
  have e0 : trc s (mu3 s e (1, 0, 0)) = dT s := by rw [tt]; unfold ph; dsimp only; omega
  have e1 : trc s (mu3 s e (1, 0, 0)) = ph (-(x.1 : Int)) (-(x.2 : Int)) e + (mu3 s e (-(-(x.1 : Int)), 1, 0)).2.1 + (mu3 s e (-(-(x.2 : Int)), 0, 1)).2.2 := by
    rw [trc_mul]; unfold ph; simp only [mu3]; grind
  rw [← e0, e1] at hd
  exact hd (Int.dvd_add (Int.dvd_add h3 a1) a2)
/-- forced triples -/
def fv {α : Type} (x : V3) (k : V3 → α) : α := fz x.1 fun a => fz x.2.1 fun b => fz x.2.2 fun c => k (a, b, c)
theorem fv_eq {α : Type} (x : V3) (k : V3 → α) : fv x k = k x := by simp only [fv, fz_eq]
def d3 (p : Int) (x : V3) : Bool := decide (x.1 % p = 0) && decide (x.2.1 % p = 0) && decide (x.2.2 % p = 0)
theorem d3_of {p : Int} {x : V3} (h : d3 p x = true) : Sp (smR 3 p) x := by
  simp only [d3, Bool.and_eq_true, decide_eq_true_eq] at h
  rw [Sp_smR (Or.inr rfl)]
  exact ⟨Int.dvd_of_emod_eq_zero h.1.1, Int.dvd_of_emod_eq_zero h.1.2, fun _ => Int.dvd_of_emod_eq_zero h.2⟩
def cK (s : Nat → Int) (p r q a b c : Int) : Bool :=
  fz (c * p - (a * r + b * q)) fun o => fv (mu3 s (o, a, b) (o, a, b)) fun e => fz (trc s (o, a, b)) fun t => fz ((t * t - trc s e).tdiv 2) fun m => fv (e.1 - t * o + m, e.2.1 - t * a, e.2.2 - t * b) fun w =>
  fv (mu3 s (o, a, b) w) fun N => decide (N.2.1 = 0) && decide (N.2.2 = 0) && decide (N.1 % p = 0) && !decide (N.1 % (p * p) = 0) && (fv (mu3 s w (-r, 1, 0)) fun y => d3 p y) && (fv (mu3 s w (-q, 0, 1)) fun y => d3 p y)
def ctK (s : Nat → Int) (p r q : Int) : Bool := cK s p r q 1 0 0 || cK s p r q 0 1 0 || cK s p r q 1 0 1 || cK s p r q 0 1 1 || cK s p r q 1 1 0
def vK (s : Nat → Int) (p r : Int) : Nat → Bool
  | 0 => true
  | w + 1 => (fz (-(w : Int)) fun q => bif decide ((s 0 + s 1 * r + s 2 * q - r * r) % p = 0) && (decide ((s 3 + s 4 * r + s 5 * q - r * q) % p = 0) && decide ((s 6 + s 7 * r + s 8 * q - q * q) % p = 0)) then ctK s p r q else true) && vK s p r w
def uK (s : Nat → Int) (p t m n : Int) (P : Nat) : Nat → Bool
  | 0 => true
  | u + 1 => (fz (-(u : Int)) fun r => bif decide ((((r - t) * r + m) * r - n) % p = 0) then vK s p r P else true) && uK s p t m n P u
def pK (s : Nat → Int) (D t m n : Int) : Nat → Bool
  | 0 => true
  | P + 1 => (bif decide (D % (P : Int) = 0) && ipr (P : Int) then fz (P : Int) fun p => uK s p t m n P P else true) && pK s D t m n P
def mxK (s : Nat → Int) : Bool := fz (dT s) fun D => fz (s 1 + s 5) fun t => fz (s 1 * s 5 - s 2 * s 4 - s 0) fun m => fz (s 2 * s 3 - s 0 * s 5) fun n => pK s D t m n 98
/-- what the check gives -/
def crt (s : Nat → Int) (p r q : Int) : Prop := ∃ (x w : V3) (N : Int), p ∣ ph r q x ∧ mu3 s x w = (N, 0, 0) ∧ p ∣ N ∧ ¬ p * p ∣ N ∧ Sp (smR 3 p) (mu3 s w (-r, 1, 0)) ∧ Sp (smR 3 p) (mu3 s w (-q, 0, 1))
theorem cK_of {s : Nat → Int} {p r q a b c : Int} (h : cK s p r q a b c = true) : crt s p r q := by
  simp only [cK, fz_eq, fv_eq, Bool.and_eq_true, decide_eq_true_eq, Bool.not_eq_true', decide_eq_false_iff_not] at h
  obtain ⟨⟨⟨⟨⟨h1, h2⟩, h3⟩, h4⟩, h5⟩, h6⟩ := h
  refine ⟨(c * p - (a * r + b * q), a, b), _, _, ?_, v3_ext rfl h1 h2, Int.dvd_of_emod_eq_zero h3, fun g => h4 (Int.emod_eq_zero_of_dvd g), d3_of h5, d3_of h6⟩
  unfold ph; dsimp only
  exact ⟨c, by grind⟩
theorem ctK_of {s : Nat → Int} {p r q : Int} (h : ctK s p r q = true) : crt s p r q := by
  simp only [ctK, Bool.or_eq_true] at h
  rcases h with (((h | h) | h) | h) | h <;> exact cK_of h
theorem vK_of {s : Nat → Int} {p r : Int} : ∀ P, vK s p r P = true → ∀ w : Nat, w < P → wy 3 (T3 s) p r (-(w : Int)) → crt s p r (-(w : Int)) := by
  intro P
  induction P with
  | zero => intro _ w h; omega
  | succ P ih =>
    intro h w hw hy
    unfold vK at h
    rw [Bool.and_eq_true, fz_eq] at h
    by_cases c : w = P
    · subst c
      obtain ⟨a, b⟩ := hy
      obtain ⟨b, d⟩ := b rfl
      have a' : (s 0 + s 1 * r + s 2 * -(w : Int) - r * r) % p = 0 := Int.emod_eq_zero_of_dvd a
      have b' : (s 3 + s 4 * r + s 5 * -(w : Int) - r * -(w : Int)) % p = 0 := Int.emod_eq_zero_of_dvd b
      have d' : (s 6 + s 7 * r + s 8 * -(w : Int) - -(w : Int) * -(w : Int)) % p = 0 := Int.emod_eq_zero_of_dvd d
      have h1 := h.1
      rw [a', b', d'] at h1
      exact ctK_of h1
    · exact ih h.2 w (by omega) hy
theorem uK_of {s : Nat → Int} {p : Int} {P : Nat} : ∀ U, uK s p (s 1 + s 5) (s 1 * s 5 - s 2 * s 4 - s 0) (s 2 * s 3 - s 0 * s 5) P U = true → ∀ u : Nat, u < U → ∀ w : Nat, w < P → wy 3 (T3 s) p (-(u : Int)) (-(w : Int)) → crt s p (-(u : Int)) (-(w : Int)) := by
  intro U
  induction U with
  | zero => intro _ u h; omega
  | succ U ih =>
    intro h u hu w hw hy
    unfold uK at h
    rw [Bool.and_eq_true, fz_eq] at h
    by_cases c : u = U
    · subst c
      have h1 := h.1
      rw [Int.emod_eq_zero_of_dvd (wy_char hy)] at h1
      exact vK_of P h1 w hw hy
    · exact ih h.2 u (by omega) w hw hy
theorem pK_of {s : Nat → Int} : ∀ P, pK s (dT s) (s 1 + s 5) (s 1 * s 5 - s 2 * s 4 - s 0) (s 2 * s 3 - s 0 * s 5) P = true → ∀ p : Nat, p < P → (p : Int) ∣ dT s → ipr (p : Int) = true → ∀ u : Nat, u < p → ∀ w : Nat, w < p → wy 3 (T3 s) p (-(u : Int)) (-(w : Int)) → crt s p (-(u : Int)) (-(w : Int)) := by
  intro P
  induction P with
  | zero => intro _ p h; omega
  | succ P ih =>
    intro h p hp hd hq u hu w hw hy
    unfold pK at h
    rw [Bool.and_eq_true, fz_eq] at h
    by_cases c : p = P
    · subst c
      have h1 := h.1
      rw [Int.emod_eq_zero_of_dvd hd, hq] at h1
      exact uK_of p h1 u hu w hw hy
    · exact ih h.2 p (by omega) hd hq u hu w hw hy
theorem crt_inv {s : Nat → Int} (rr : Rg 3 (T3 s)) {p : Nat} (hp2 : p ≤ 97) (hq : ipr (p : Int) = true) {x : Nat × Nat} (h : crt s p (-(x.1 : Int)) (-(x.2 : Int))) : invP 3 (T3 s) p x := by
  obtain ⟨y, w, N, h1, h2, h3, h4, h5, h6⟩ := h
  have hP := prm_small (by omega) hq
  have p2 := hP.1
  have hw : qv 3 (T3 s) p x w := by
    intro z hz
    have e : z = vad (vad (vmu (ph (-(x.1 : Int)) (-(x.2 : Int)) z) (oneV 3)) (vmu z.2.1 (-(-(x.1 : Int)), 1, 0))) (vmu z.2.2 (-(-(x.2 : Int)), 0, 1)) := by
      have o : oneV 3 = (1, 0, 0) := rfl
      rw [o]
      unfold ph; refine v3_ext ?_ ?_ ?_ <;> unfold vad vmu <;> dsimp only <;> grind
    rw [e, muv_add, muv_add, muv_mul, muv_mul, muv_mul]
    refine (Sp_grp _).add ((Sp_grp _).add ?_ ((Sp_grp _).mul h5 _)) ((Sp_grp _).mul h6 _)
    obtain ⟨t, ht⟩ := hz
    rw [ht]
    have e2 : vmu ((p : Int) * t) (muv 3 (T3 s) w (oneV 3)) = vmu (p : Int) (vmu t (muv 3 (T3 s) w (oneV 3))) := by refine v3_ext ?_ ?_ ?_ <;> unfold vmu <;> dsimp only <;> grind
    rw [e2]; exact smR_vmu (Or.inr rfl) _
  intro H g _ hH
  have a1 : H (N, 0, 0) := by have := hH y w h1 hw; rw [muv3, h2] at this; exact this
  have a2 : H ((p : Int) * p, 0, 0) := by
    have := hH (vmu (p : Int) (oneV 3)) (vmu (p : Int) (oneV 3)) (by rw [ph_smul]; exact Int.dvd_mul_right _ _) (qv_p (Or.inr rfl) (T3 s) p x _)
    rw [muv_mul, muv_one_r (Or.inr rfl)] at this
    have e : vmu (p : Int) (vmu (p : Int) (oneV 3)) = ((p : Int) * p, 0, 0) := by
      have o : oneV 3 = (1, 0, 0) := rfl
      rw [o]; refine v3_ext ?_ ?_ ?_ <;> unfold vmu <;> dsimp only <;> grind
    rw [e] at this; exact this
  obtain ⟨m, rfl⟩ := h3
  have hm : ¬ (p : Int) ∣ m := by
    rintro ⟨t, rfl⟩
    exact h4 ⟨t, by grind⟩
  obtain ⟨e, f, he⟩ := inv_ex hp2 hq hm
  refine g.co e (-f) 0 g.1 a1 a2 g.1 ?_ ?_ ?_ <;> dsimp only
  · have : e * m = 1 + p * f := by omega
    have e3 : e * ((p : Int) * m) = p * (e * m) := by grind
    rw [e3, this]; grind
  · omega
  · omega
/-- p lies in the product of each prime of degree 1 and what brings it into p -/
theorem inv_all3 {s : Nat → Int} (rr : Rg 3 (T3 s)) (hm : mxK s = true) {p : Nat} (hp2 : p ≤ 97) (hq : ipr (p : Int) = true) {x : Nat × Nat} (hx : isw 3 (T3 s) p x) : invP 3 (T3 s) p x := by
  by_cases c : ram 3 (T3 s) p x
  · have hd := ram_dT rr (prm_small (by omega) hq) hx c
    simp only [mxK, fz_eq] at hm
    exact crt_inv rr hp2 hq (pK_of 98 hm p (by omega) hd hq x.1 hx.1 x.2 hx.lt hx.2.2)
  · exact inv_of_unram rr hp2 hq hx c
