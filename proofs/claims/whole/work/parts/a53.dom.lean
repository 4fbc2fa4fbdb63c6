/-! only 0 has norm 0: by a prime at which no other number has a norm that it divides -/
def fmZ (t1 t2 a b c d e f g x y z : Int) : Int := ((x + (t1 * y + t2 * z)) * x + (a * (y * y) + b * (y * z) + c * (z * z))) * x + (d * (y * y * y) + e * (y * y * z) + f * (y * z * z) + g * (z * z * z))
theorem nm_fm (s : Nat → Int) (x y z : Int) : nmS s (x, y, z) = fmZ (s 1 + s 5) (s 4 + s 8) (s 1 * s 5 - s 0 - s 2 * s 4) (s 1 * s 8 - s 2 * s 7 - 2 * s 3) (s 4 * s 8 - s 5 * s 7 - s 6) (s 2 * s 3 - s 0 * s 5) (s 0 * s 4 - s 0 * s 8 - s 1 * s 3 + s 2 * s 6) (s 0 * s 7 - s 1 * s 6 - s 3 * s 8 + s 5 * s 6) (s 3 * s 7 - s 4 * s 6) x y z := by
  simp only [nmS, nm3I, ms1, ms2, fmZ]; grind
/-- no u below has a value that p divides -/
def cub (p A B C : Nat) : Nat → Bool
  | 0 => true
  | u + 1 => (((u + A) * u + B) * u + C) % p != 0 && cub p A B C u
def cuV (p t1 t2 a b c d e f g : Nat) : Nat → Bool
  | 0 => true
  | v + 1 => fn ((t1 * v + t2) % p) (fun A => fn ((a * (v * v) + b * v + c) % p) fun B => fn ((d * (v * v * v) + e * (v * v) + f * v + g) % p) fun C => cub p A B C p) && cuV p t1 t2 a b c d e f g v
def fP {α : Type} (c : Int) (p : Nat) (k : Nat → α) : α := fn (c % (p : Int)).toNat k
def dmP (t1 t2 a b c d e f g : Int) (p : Nat) : Bool := fP t1 p fun t1 => fP t2 p fun t2 => fP a p fun a => fP b p fun b => fP c p fun c => fP d p fun d => fP e p fun e => fP f p fun f => fP g p fun g => cub p t1 a d p && cuV p t1 t2 a b c d e f g p
def dmK (s : Nat → Int) : Bool := fz (s 1 + s 5) fun t1 => fz (s 4 + s 8) fun t2 => fz (s 1 * s 5 - s 0 - s 2 * s 4) fun a => fz (s 1 * s 8 - s 2 * s 7 - 2 * s 3) fun b => fz (s 4 * s 8 - s 5 * s 7 - s 6) fun c => fz (s 2 * s 3 - s 0 * s 5) fun d => fz (s 0 * s 4 - s 0 * s 8 - s 1 * s 3 + s 2 * s 6) fun e => fz (s 0 * s 7 - s 1 * s 6 - s 3 * s 8 + s 5 * s 6) fun f => fz (s 3 * s 7 - s 4 * s 6) fun g =>
  [2, 3, 5, 7, 11, 13, 17, 19, 23, 29, 31, 37, 41, 43, 47].any (dmP t1 t2 a b c d e f g)
def cz (p a b : Int) : Prop := p ∣ (a - b)
theorem cz.rf {p a : Int} : cz p a a := ⟨0, by omega⟩
theorem cz.sy {p a b : Int} (h : cz p a b) : cz p b a := by obtain ⟨k, h⟩ := h; exact ⟨-k, by rw [Int.mul_neg]; omega⟩
theorem cz.tr {p a b c : Int} (h : cz p a b) (g : cz p b c) : cz p a c := by obtain ⟨k, h⟩ := h; obtain ⟨j, g⟩ := g; exact ⟨k + j, by rw [Int.mul_add]; omega⟩
theorem cz.add {p a b c d : Int} (h : cz p a b) (g : cz p c d) : cz p (a + c) (b + d) := by obtain ⟨k, h⟩ := h; obtain ⟨j, g⟩ := g; exact ⟨k + j, by rw [Int.mul_add]; omega⟩
theorem cz.mul {p a b c d : Int} (h : cz p a b) (g : cz p c d) : cz p (a * c) (b * d) := by
  obtain ⟨k, h⟩ := h; obtain ⟨j, g⟩ := g
  refine ⟨k * c + b * j, ?_⟩
  have e : a * c - b * d = (a - b) * c + b * (c - d) := by grind
  rw [e, h, g]; grind
theorem cz.mod (a : Int) {p : Nat} : cz p (((a % (p : Int)).toNat : Nat) : Int) a ∨ p = 0 := by
  by_cases c : p = 0
  · exact Or.inr c
  · left
    have n0 := Int.emod_nonneg a (show (p : Int) ≠ 0 by omega)
    have e := Int.mul_ediv_add_emod a p
    refine ⟨-(a / p), ?_⟩
    rw [Int.toNat_of_nonneg n0, Int.mul_neg]; omega
theorem fm_cz {p t1 t2 a b c d e f g t1' t2' a' b' c' d' e' f' g' x y z x' y' z' : Int} (h1 : cz p t1 t1') (h2 : cz p t2 t2') (ha : cz p a a') (hb : cz p b b') (hc : cz p c c') (hd : cz p d d') (he : cz p e e') (hf : cz p f f') (hg : cz p g g') (hx : cz p x x') (hy : cz p y y') (hz : cz p z z') : cz p (fmZ t1 t2 a b c d e f g x y z) (fmZ t1' t2' a' b' c' d' e' f' g' x' y' z') := by
  unfold fmZ
  exact ((((hx.add ((h1.mul hy).add (h2.mul hz))).mul hx).add (((ha.mul (hy.mul hy)).add (hb.mul (hy.mul hz))).add (hc.mul (hz.mul hz)))).mul hx).add ((((hd.mul ((hy.mul hy).mul hy)).add (he.mul ((hy.mul hy).mul hz))).add (hf.mul ((hy.mul hz).mul hz))).add (hg.mul ((hz.mul hz).mul hz)))
theorem fm_hom (t1 t2 a b c d e f g x y z k : Int) : fmZ t1 t2 a b c d e f g (k * x) (k * y) (k * z) = k * k * k * fmZ t1 t2 a b c d e f g x y z := by unfold fmZ; grind
theorem cub_of {p A B C : Nat} : ∀ n, cub p A B C n = true → ∀ u : Nat, u < n → ¬ (p : Int) ∣ (((u : Int) + A) * u + B) * u + C := by
  intro n
  induction n with
  | zero => intro _ u hu; omega
  | succ n ih =>
    intro h u hu
    unfold cub at h
    rw [Bool.and_eq_true] at h
    by_cases c : u = n
    · subst c
      rintro ⟨k, hk⟩
      have h1 := h.1
      rw [bne_iff_ne] at h1
      apply h1
      have hk' : ((((u + A) * u + B) * u + C : Nat) : Int) = (p : Int) * k := by push_cast; exact hk
      have := Int.emod_eq_zero_of_dvd (⟨k, hk'⟩ : (p : Int) ∣ ((((u + A) * u + B) * u + C : Nat) : Int))
      exact_mod_cast this
    · exact ih h.2 u (by omega)
theorem mdN {p : Nat} (a : Nat) : cz p ((a % p : Nat) : Int) a := by
  refine ⟨-((a / p : Nat) : Int), ?_⟩
  have := Nat.div_add_mod a p
  have e : ((p * (a / p) + a % p : Nat) : Int) = (a : Int) := by rw [this]
  push_cast at e ⊢
  rw [Int.mul_neg]; omega
theorem cuV_of {p t1 t2 a b c d e f g : Nat} : ∀ n, cuV p t1 t2 a b c d e f g n = true → ∀ v : Nat, v < n → ∀ u : Nat, u < p → ¬ (p : Int) ∣ fmZ t1 t2 a b c d e f g u v 1 := by
  intro n
  induction n with
  | zero => intro _ u hu; omega
  | succ n ih =>
    intro h v hv u hu
    unfold cuV at h
    simp only [fn_eq, Bool.and_eq_true] at h
    by_cases q : v = n
    · subst q
      intro hk
      refine cub_of p h.1 u hu ?_
      have A := mdN (p := p) (t1 * v + t2)
      have B := mdN (p := p) (a * (v * v) + b * v + c)
      have C := mdN (p := p) (d * (v * v * v) + e * (v * v) + f * v + g)
      push_cast at A B C
      have k : cz p ((((u : Int) + (((t1 * v + t2) % p : Nat) : Int)) * u + (((a * (v * v) + b * v + c) % p : Nat) : Int)) * u + (((d * (v * v * v) + e * (v * v) + f * v + g) % p : Nat) : Int)) (fmZ t1 t2 a b c d e f g u v 1) := by
        have e0 : fmZ (t1 : Int) t2 a b c d e f g u v 1 = (((u : Int) + ((t1 : Int) * v + t2)) * u + ((a : Int) * (v * v) + b * v + c)) * u + ((d : Int) * (v * v * v) + e * (v * v) + f * v + g) := by unfold fmZ; grind
        rw [e0]
        push_cast
        exact ((((cz.rf.add A).mul cz.rf).add B).mul cz.rf).add C
      obtain ⟨i, hi⟩ := k
      obtain ⟨j, hj⟩ := hk
      exact ⟨i + j, by rw [Int.mul_add]; omega⟩
    · exact ih h.2 v (by omega) u hu
theorem prm_cube {p : Int} (h : Prm p) {x : Int} (hx : p ∣ x * x * x) : p ∣ x := (h.2 _ _ hx).elim (fun q => (h.2 _ _ q).elim id id) id
/-- at such a prime a number whose norm p divides is a multiple of p -/
theorem dm_step {t1 t2 a b c d e f g : Int} {p : Nat} (hp2 : p ≤ 97) (hi : ipr (p : Int) = true) (h : dmP t1 t2 a b c d e f g p = true) {x y z : Int} (hd : (p : Int) ∣ fmZ t1 t2 a b c d e f g x y z) : (p : Int) ∣ x ∧ (p : Int) ∣ y ∧ (p : Int) ∣ z := by
  have hP := prm_small (by omega) hi
  have p2 := hP.1
  have md : ∀ k : Int, cz p (((k % (p : Int)).toNat : Nat) : Int) k := fun k => (cz.mod k).resolve_right (by omega)
  have lt : ∀ k : Int, (k % (p : Int)).toNat < p := fun k => by
    have := Int.emod_lt_of_pos k (show (0 : Int) < p by omega)
    have := Int.emod_nonneg k (show (p : Int) ≠ 0 by omega)
    omega
  simp only [dmP, fP, fn_eq, Bool.and_eq_true] at h
  obtain ⟨hA, hB⟩ := h
  have zz : (p : Int) ∣ z := by
    by_cases q : (p : Int) ∣ z
    · exact q
    exfalso
    obtain ⟨k, hk⟩ := inv_ex hp2 hi q
    refine cuV_of p hB ((k * y) % (p : Int)).toNat (lt _) ((k * x) % (p : Int)).toNat (lt _) ?_
    have e1 : cz p _ _ := fm_cz (md t1) (md t2) (md a) (md b) (md c) (md d) (md e) (md f) (md g) (md (k * x)) (md (k * y)) (show cz p 1 (k * z) from cz.sy hk)
    rw [fm_hom] at e1
    obtain ⟨i, hi'⟩ := e1
    obtain ⟨j, hj⟩ := hd
    refine ⟨i + k * k * k * j, ?_⟩
    rw [hj] at hi'
    rw [Int.mul_add, ← hi']; grind
  have yy : (p : Int) ∣ y := by
    by_cases q : (p : Int) ∣ y
    · exact q
    exfalso
    obtain ⟨k, hk⟩ := inv_ex hp2 hi q
    refine cub_of p hA ((k * x) % (p : Int)).toNat (lt _) ?_
    have z0 : cz p (0 : Int) (k * z) := by obtain ⟨w, hw⟩ := zz; exact ⟨-(k * w), by rw [hw]; grind⟩
    have e1 : cz p (fmZ (((t1 % (p : Int)).toNat : Nat) : Int) t2 (((a % (p : Int)).toNat : Nat) : Int) b c (((d % (p : Int)).toNat : Nat) : Int) e f g ((((k * x) % (p : Int)).toNat : Nat) : Int) 1 0) _ := fm_cz (md t1) cz.rf (md a) cz.rf cz.rf (md d) cz.rf cz.rf cz.rf (md (k * x)) (show cz p 1 (k * y) from cz.sy hk) z0
    rw [fm_hom] at e1
    have e0 : ∀ A B C u : Int, fmZ A t2 B b c C e f g u 1 0 = ((u + A) * u + B) * u + C := by intro A B C u; unfold fmZ; grind
    rw [e0] at e1
    obtain ⟨i, hi'⟩ := e1
    obtain ⟨j, hj⟩ := hd
    refine ⟨i + k * k * k * j, ?_⟩
    rw [hj] at hi'
    rw [Int.mul_add, ← hi']; grind
  refine ⟨prm_cube hP ?_, yy, zz⟩
  have y0 : cz p (0 : Int) y := by obtain ⟨w, hw⟩ := yy; exact ⟨-w, by rw [hw, Int.mul_neg]; omega⟩
  have z0 : cz p (0 : Int) z := by obtain ⟨w, hw⟩ := zz; exact ⟨-w, by rw [hw, Int.mul_neg]; omega⟩
  have e1 : cz p (fmZ t1 t2 a b c d e f g x 0 0) _ := fm_cz (x' := x) (cz.rf (a := t1)) (cz.rf (a := t2)) (cz.rf (a := a)) (cz.rf (a := b)) (cz.rf (a := c)) (cz.rf (a := d)) (cz.rf (a := e)) (cz.rf (a := f)) (cz.rf (a := g)) cz.rf y0 z0
  have e0 : fmZ t1 t2 a b c d e f g x 0 0 = x * x * x := by unfold fmZ; grind
  rw [e0] at e1
  obtain ⟨i, hi'⟩ := e1
  obtain ⟨j, hj⟩ := hd
  exact ⟨i + j, by rw [Int.mul_add]; omega⟩
theorem dm_dom {t1 t2 a b c d e f g : Int} {p : Nat} (hp2 : p ≤ 97) (hi : ipr (p : Int) = true) (h : dmP t1 t2 a b c d e f g p = true) : ∀ (n : Nat) (x y z : Int), x.natAbs + y.natAbs + z.natAbs ≤ n → fmZ t1 t2 a b c d e f g x y z = 0 → x = 0 ∧ y = 0 ∧ z = 0 := by
  have p2 := (prm_small (by omega) hi).1
  intro n
  induction n with
  | zero => intro x y z hn _; omega
  | succ n ih =>
    intro x y z hn he
    obtain ⟨⟨x1, hx⟩, ⟨y1, hy⟩, ⟨z1, hz⟩⟩ := dm_step hp2 hi h (x := x) (y := y) (z := z) (by rw [he]; exact Int.dvd_zero _)
    rw [hx, hy, hz, fm_hom] at he
    have pp : (p : Int) * p * p ≠ 0 := by
      have : (1 : Int) * 1 * 1 ≤ p * p * p := Int.mul_le_mul (Int.mul_le_mul (by omega) (by omega) (by omega) (by omega)) (by omega) (by omega) (Int.mul_nonneg (by omega) (by omega))
      omega
    have he1 := (Int.mul_eq_zero.mp he).resolve_left pp
    have sm2 : ∀ k k1 : Int, k = p * k1 → 2 * k1.natAbs ≤ k.natAbs := by
      intro k k1 hk
      rw [hk, Int.natAbs_mul]
      exact Nat.mul_le_mul_right _ (by omega)
    have a1 := sm2 x x1 hx
    have a2 := sm2 y y1 hy
    have a3 := sm2 z z1 hz
    have := ih x1 y1 z1 (by omega) he1
    obtain ⟨r1, r2, r3⟩ := this
    rw [hx, hy, hz, r1, r2, r3]
    simp
theorem dom_of {s : Nat → Int} (h : dmK s = true) : Dom s := by
  simp only [dmK, fz_eq, List.any_eq_true] at h
  obtain ⟨p, hm, hp⟩ := h
  have hi : p ≤ 97 ∧ ipr (p : Int) = true := by
    simp only [List.mem_cons, List.not_mem_nil, or_false] at hm
    rcases hm with r | r | r | r | r | r | r | r | r | r | r | r | r | r | r <;> subst r <;> decide
  rintro ⟨x, y, z⟩ hz
  rw [nm_fm] at hz
  obtain ⟨r1, r2, r3⟩ := dm_dom hi.1 hi.2 hp _ x y z (Nat.le_refl _) hz
  rw [r1, r2, r3]
