/-! units: powers; a power that is 1 makes all powers small -/
def pwV (n : Nat) (T : Nat → Int) (x : V3) : Nat → V3
  | 0 => (1, 0, 0)
  | k + 1 => muv n T (pwV n T x k) x
/-- degree 2: the norm -/
def nm2 (p q : Int) (z : V3) : Int := z.1 * z.1 + z.1 * z.2.1 * q - z.2.1 * z.2.1 * p
theorem nm2_mul (p q : Int) (x y : V3) : nm2 p q (muv 2 (T2 p q) x y) = nm2 p q x * nm2 p q y := by
  obtain ⟨a, b, c⟩ := x
  obtain ⟨d, e, f⟩ := y
  show (a * d + b * e * p) * (a * d + b * e * p) + (a * d + b * e * p) * (a * e + b * d + b * e * q) * q - (a * e + b * d + b * e * q) * (a * e + b * d + b * e * q) * p = (a * a + a * b * q - b * b * p) * (d * d + d * e * q - e * e * p)
  grind
theorem nm2_pw {p q : Int} {x : V3} (h : nm2 p q x = 1) : ∀ k, nm2 p q (pwV 2 (T2 p q) x k) = 1 := by
  intro k
  induction k with
  | zero => show (1 : Int) * 1 + 1 * 0 * q - 0 * 0 * p = 1; omega
  | succ k ih => show nm2 p q (muv 2 (T2 p q) (pwV 2 (T2 p q) x k) x) = 1; rw [nm2_mul, ih, h]; rfl
theorem sq_abs {a b : Int} (hb : 0 ≤ b) (h : a * a < (b + 1) * (b + 1)) : -b ≤ a ∧ a ≤ b := by
  constructor
  · rcases Int.lt_or_le a (-b) with c | c
    · have : (b + 1) * (b + 1) ≤ (-a) * (-a) := Int.mul_le_mul (by omega) (by omega) (by omega) (by omega)
      rw [Int.neg_mul_neg] at this; omega
    · exact c
  · rcases Int.lt_or_le b a with c | c
    · have : (b + 1) * (b + 1) ≤ a * a := Int.mul_le_mul (by omega) (by omega) (by omega) (by omega)
      omega
    · exact c
theorem sq_nn (a : Int) : 0 ≤ a * a := by
  rcases Int.le_total 0 a with c | c
  · exact Int.mul_nonneg c c
  · rw [← Int.neg_mul_neg]; exact Int.mul_nonneg (by omega) (by omega)
/-- discriminant below 0: what has norm 1 or -1 is small -/
theorem neg_small {p q A B N : Int} (hq : bd q 20) (hd : q * q + 4 * p < 0) (hN : N = 1 ∨ N = -1) (h : A * A + A * B * q - B * B * p = N) : N = 1 ∧ bd A 300 ∧ bd B 300 := by
  have e : (2 * A + B * q) * (2 * A + B * q) - (q * q + 4 * p) * (B * B) = 4 * N := by rw [← h]; grind
  have s1 := sq_nn (2 * A + B * q)
  have s2 := sq_nn B
  have s3 : 1 * (B * B) ≤ (-(q * q + 4 * p)) * (B * B) := Int.mul_le_mul_of_nonneg_right (by omega) s2
  rw [Int.neg_mul] at s3
  have hN1 : N = 1 := by omega
  have b1 : -2 ≤ B ∧ B ≤ 2 := sq_abs (by decide) (by omega)
  have b2 : -2 ≤ 2 * A + B * q ∧ 2 * A + B * q ≤ 2 := sq_abs (by decide) (by omega)
  have b3 : bd (B * q) 40 := by
    have hB : B = -2 ∨ B = -1 ∨ B = 0 ∨ B = 1 ∨ B = 2 := by omega
    obtain ⟨h1, h2⟩ := hq
    rcases hB with r | r | r | r | r <;> rw [r] <;> constructor <;> omega
  exact ⟨hN1, ⟨by have := b3.1; have := b3.2; omega, by have := b3.1; have := b3.2; omega⟩, ⟨by omega, by omega⟩⟩
/-- the second coordinate of the powers -/
theorem pw2_rec (p q : Int) (x : V3) (k : Nat) : (pwV 2 (T2 p q) x (k + 2)).2.1 = (2 * x.1 + x.2.1 * q) * (pwV 2 (T2 p q) x (k + 1)).2.1 - nm2 p q x * (pwV 2 (T2 p q) x k).2.1 := by
  show (muv 2 (T2 p q) (muv 2 (T2 p q) (pwV 2 (T2 p q) x k) x) x).2.1 = _ * (muv 2 (T2 p q) (pwV 2 (T2 p q) x k) x).2.1 - _
  generalize pwV 2 (T2 p q) x k = v
  obtain ⟨A, B, C⟩ := v
  obtain ⟨a, b, c⟩ := x
  show (A * a + B * b * p) * b + (A * b + B * a + B * b * q) * a + (A * b + B * a + B * b * q) * b * q = (2 * a + b * q) * (A * b + B * a + B * b * q) - (a * a + a * b * q - b * b * p) * B
  grind
theorem lu_pos {t b : Int} {u : Nat → Int} (h0 : u 0 = 0) (h1 : u 1 = b) (hb : b ≠ 0) (hr : ∀ k, u (k + 2) = t * u (k + 1) - u k) (ht : 9 ≤ t * t) : ∀ k, u k * u k < u (k + 1) * u (k + 1) := by
  intro k
  induction k with
  | zero =>
    rw [h0, h1]
    have := sq_nn b
    have hn : b * b ≠ 0 := fun q => hb (by rcases Int.mul_eq_zero.mp q with c | c <;> exact c)
    omega
  | succ k ih =>
    rw [hr k]
    generalize u (k + 1) = y at ih ⊢
    generalize u k = z at ih ⊢
    have e : (t * y - z) * (t * y - z) * 2 = t * t * (y * y) + ((t * y - 2 * z) * (t * y - 2 * z)) - 2 * (z * z) := by grind
    have s := sq_nn (t * y - 2 * z)
    have m : 9 * (y * y) ≤ t * t * (y * y) := Int.mul_le_mul_of_nonneg_right ht (sq_nn y)
    have := sq_nn z
    omega
theorem lu_neg {t b : Int} {u : Nat → Int} (h0 : u 0 = 0) (h1 : u 1 = b) (hb : b ≠ 0) (hr : ∀ k, u (k + 2) = t * u (k + 1) + u k) (ht : t ≠ 0) : ∀ k, u (k + 1) ≠ 0 ∧ 0 ≤ t * (u k * u (k + 1)) := by
  intro k
  induction k with
  | zero => rw [h0, h1]; exact ⟨hb, by rw [Int.zero_mul, Int.mul_zero]; omega⟩
  | succ k ih =>
    obtain ⟨a, c⟩ := ih
    rw [hr k]
    generalize u (k + 1) = y at a c ⊢
    generalize u k = z at a c ⊢
    have e : t * (y * (t * y + z)) = (t * y) * (t * y) + t * (z * y) := by grind
    have ty : t * y ≠ 0 := fun q => (Int.mul_eq_zero.mp q).elim ht a
    have s : 0 < (t * y) * (t * y) := by
      have := sq_nn (t * y)
      have hn : (t * y) * (t * y) ≠ 0 := fun q => (Int.mul_eq_zero.mp q).elim ty ty
      omega
    refine ⟨fun q => ?_, by rw [e]; omega⟩
    rw [q, Int.mul_zero, Int.mul_zero] at e
    omega
theorem pw2_zero {p q a : Int} (ha : a = 1 ∨ a = -1) (z : Int) : ∀ k, ((pwV 2 (T2 p q) (a, 0, z) k).1 = 1 ∨ (pwV 2 (T2 p q) (a, 0, z) k).1 = -1) ∧ (pwV 2 (T2 p q) (a, 0, z) k).2.1 = 0 := by
  intro k
  induction k with
  | zero => exact ⟨Or.inl rfl, rfl⟩
  | succ k ih =>
    show ((muv 2 (T2 p q) (pwV 2 (T2 p q) (a, 0, z) k) (a, 0, z)).1 = 1 ∨ _) ∧ _
    show ((muv 2 (T2 p q) (pwV 2 (T2 p q) (a, 0, z) k) (a, 0, z)).1 = 1 ∨ (muv 2 (T2 p q) (pwV 2 (T2 p q) (a, 0, z) k) (a, 0, z)).1 = -1) ∧ (muv 2 (T2 p q) (pwV 2 (T2 p q) (a, 0, z) k) (a, 0, z)).2.1 = 0
    generalize pwV 2 (T2 p q) (a, 0, z) k = v at ih ⊢
    obtain ⟨A, B, C⟩ := v
    obtain ⟨h1, h2⟩ := ih
    dsimp only at h1 h2
    subst h2
    show (A * a + 0 * 0 * p = 1 ∨ A * a + 0 * 0 * p = -1) ∧ A * 0 + 0 * a + 0 * 0 * q = 0
    rcases h1 with rfl | rfl <;> rcases ha with rfl | rfl <;> refine ⟨?_, by omega⟩ <;> omega
/-- degree 2: if a power is 1 then all powers are small -/
theorem un2 {p q : Int} (hq : bd q 20) (hps : q * q + 4 * p ≠ 0 ∧ q * q + 4 * p ≠ 1 ∧ q * q + 4 * p ≠ 4) {x : V3} (hN : nm2 p q x = 1 ∨ nm2 p q x = -1) {j : Nat} (hj : 1 ≤ j) (h1 : (pwV 2 (T2 p q) x j).2.1 = 0) : ∀ k, bd (pwV 2 (T2 p q) x k).1 300 ∧ bd (pwV 2 (T2 p q) x k).2.1 300 := by
  rcases Int.lt_or_le (q * q + 4 * p) 0 with c | c
  · have hx := (neg_small hq c hN (show x.1 * x.1 + x.1 * x.2.1 * q - x.2.1 * x.2.1 * p = nm2 p q x from rfl)).1
    intro k
    have := neg_small hq c (Or.inl rfl) (nm2_pw hx k)
    exact this.2
  · obtain ⟨a, b, z⟩ := x
    have e : (2 * a + b * q) * (2 * a + b * q) - (q * q + 4 * p) * (b * b) = 4 * nm2 p q (a, b, z) := by
      show _ = 4 * (a * a + a * b * q - b * b * p); grind
    by_cases hb : b = 0
    · subst hb
      have ha : a = 1 ∨ a = -1 := by
        have e2 : nm2 p q (a, 0, z) = a * a := by show a * a + a * 0 * q - 0 * 0 * p = a * a; simp
        rw [e2] at hN
        have s := sq_nn a
        have b1 := sq_abs (a := a) (b := 1) (by decide) (by omega)
        have : a = -1 ∨ a = 0 ∨ a = 1 := by omega
        rcases this with r | r | r
        · exact Or.inr r
        · rw [r] at hN; omega
        · exact Or.inl r
      intro k
      obtain ⟨g1, g2⟩ := pw2_zero (p := p) (q := q) ha z k
      refine ⟨?_, by rw [g2]; exact ⟨by decide, by decide⟩⟩
      rcases g1 with r | r <;> rw [r] <;> exact ⟨by decide, by decide⟩
    · exfalso
      have bb : 1 ≤ b * b := by
        have := sq_nn b
        have hn : b * b ≠ 0 := fun q => hb (by rcases Int.mul_eq_zero.mp q with c | c <;> exact c)
        omega
      have hd : 1 ≤ q * q + 4 * p := by omega
      have m : 1 * 1 ≤ (q * q + 4 * p) * (b * b) := Int.mul_le_mul hd bb (by decide) (by omega)
      have u0 : (pwV 2 (T2 p q) (a, b, z) 0).2.1 = 0 := rfl
      have u1 : (pwV 2 (T2 p q) (a, b, z) 1).2.1 = b := by show 1 * b + 0 * a + 0 * b * q = b; simp
      have hrec := pw2_rec p q (a, b, z)
      rcases hN with n | n
      · have t9 : 9 ≤ (2 * a + b * q) * (2 * a + b * q) := by
          rw [n] at e
          generalize 2 * a + b * q = t at e ⊢
          rcases Int.lt_or_le (t * t) 9 with g | g
          · have := sq_abs (a := t) (b := 2) (by decide) (by omega)
            have h5 : t = -2 ∨ t = -1 ∨ t = 0 ∨ t = 1 ∨ t = 2 := by omega
            rcases h5 with r | r | r | r | r <;> rw [r] at e <;> omega
          · exact g
        have key := lu_pos (t := 2 * a + b * q) (u := fun k => (pwV 2 (T2 p q) (a, b, z) k).2.1) u0 u1 hb (fun k => by have := hrec k; rw [n, Int.one_mul] at this; exact this) t9
        obtain ⟨i, rfl⟩ : ∃ i, j = i + 1 := ⟨j - 1, by omega⟩
        have := key i
        rw [h1] at this
        have := sq_nn (pwV 2 (T2 p q) (a, b, z) i).2.1
        omega
      · have t0 : 2 * a + b * q ≠ 0 := by
          intro g
          rw [g, n] at e
          have e4 : (q * q + 4 * p) * (b * b) = 4 := by omega
          have b2 := sq_abs (a := b) (b := 2) (by decide) (by
            have : 1 * (b * b) ≤ (q * q + 4 * p) * (b * b) := Int.mul_le_mul_of_nonneg_right hd (by omega)
            omega)
          have h5 : b = -2 ∨ b = -1 ∨ b = 1 ∨ b = 2 := by omega
          rcases h5 with r | r | r | r <;> rw [r] at e4 <;> omega
        have key := lu_neg (t := 2 * a + b * q) (u := fun k => (pwV 2 (T2 p q) (a, b, z) k).2.1) u0 u1 hb (fun k => by have := hrec k; rw [n, Int.neg_mul, Int.one_mul, Int.sub_neg] at this; exact this) t0
        obtain ⟨i, rfl⟩ : ∃ i, j = i + 1 := ⟨j - 1, by omega⟩
        exact (key i).1 h1
/-! degree 3 -/
def nm3I (m0 m1 m2 m3 m4 m5 m6 m7 m8 : Int) : Int := m0 * (m4 * m8 - m5 * m7) - m1 * (m3 * m8 - m5 * m6) + m2 * (m3 * m7 - m4 * m6)
def md3I (m0 m1 m2 m3 m4 m5 m6 m7 m8 : Int) : Int := m0 * m4 - m1 * m3 + (m0 * m8 - m2 * m6) + (m4 * m8 - m5 * m7)
def mvI (m0 m1 m2 m3 m4 m5 m6 m7 m8 : Int) (v : V3) : V3 := (v.1 * m0 + v.2.1 * m3 + v.2.2 * m6, v.1 * m1 + v.2.1 * m4 + v.2.2 * m7, v.1 * m2 + v.2.1 * m5 + v.2.2 * m8)
/-- the third power of a matrix by its polynomial -/
theorem ch3 (m0 m1 m2 m3 m4 m5 m6 m7 m8 : Int) (v : V3) : mvI m0 m1 m2 m3 m4 m5 m6 m7 m8 (mvI m0 m1 m2 m3 m4 m5 m6 m7 m8 (mvI m0 m1 m2 m3 m4 m5 m6 m7 m8 v)) = vad (vsu (vmu (m0 + m4 + m8) (mvI m0 m1 m2 m3 m4 m5 m6 m7 m8 (mvI m0 m1 m2 m3 m4 m5 m6 m7 m8 v))) (vmu (md3I m0 m1 m2 m3 m4 m5 m6 m7 m8) (mvI m0 m1 m2 m3 m4 m5 m6 m7 m8 v))) (vmu (nm3I m0 m1 m2 m3 m4 m5 m6 m7 m8) v) := by
  obtain ⟨a, b, c⟩ := v
  refine v3_eq ?_ ?_ ?_ <;> simp only [mvI, vad, vsu, vmu, nm3I, md3I] <;> grind
def ms1 (s : Nat → Int) (x : V3) : V3 := (x.2.1 * s 0 + x.2.2 * s 3, x.1 + x.2.1 * s 1 + x.2.2 * s 4, x.2.1 * s 2 + x.2.2 * s 5)
def ms2 (s : Nat → Int) (x : V3) : V3 := (x.2.1 * s 3 + x.2.2 * s 6, x.2.1 * s 4 + x.2.2 * s 7, x.1 + x.2.1 * s 5 + x.2.2 * s 8)
def nmS (s : Nat → Int) (x : V3) : Int := nm3I x.1 x.2.1 x.2.2 (ms1 s x).1 (ms1 s x).2.1 (ms1 s x).2.2 (ms2 s x).1 (ms2 s x).2.1 (ms2 s x).2.2
def mdS (s : Nat → Int) (x : V3) : Int := md3I x.1 x.2.1 x.2.2 (ms1 s x).1 (ms1 s x).2.1 (ms1 s x).2.2 (ms2 s x).1 (ms2 s x).2.1 (ms2 s x).2.2
def trS (s : Nat → Int) (x : V3) : Int := x.1 + (ms1 s x).2.1 + (ms2 s x).2.2
theorem mu_mvI (s : Nat → Int) (v x : V3) : mu3 s v x = mvI x.1 x.2.1 x.2.2 (ms1 s x).1 (ms1 s x).2.1 (ms1 s x).2.2 (ms2 s x).1 (ms2 s x).2.1 (ms2 s x).2.2 v := by
  obtain ⟨a, b, c⟩ := v
  obtain ⟨d, e, f⟩ := x
  refine v3_eq ?_ ?_ ?_ <;> simp only [ms1, ms2] <;> grind
def pz3 (s : Nat → Int) (x : V3) : Nat → V3
  | 0 => (1, 0, 0)
  | k + 1 => mu3 s (pz3 s x k) x
theorem pw3_ch (s : Nat → Int) (x : V3) (k : Nat) : pz3 s x (k + 3) = vad (vsu (vmu (trS s x) (pz3 s x (k + 2))) (vmu (mdS s x) (pz3 s x (k + 1)))) (vmu (nmS s x) (pz3 s x k)) := by
  show mu3 s (mu3 s (mu3 s (pz3 s x k) x) x) x = vad (vsu (vmu _ (mu3 s (mu3 s (pz3 s x k) x) x)) (vmu _ (mu3 s (pz3 s x k) x))) _
  rw [mu_mvI s (pz3 s x k) x, mu_mvI s _ x, mu_mvI s _ x]
  exact ch3 ..
/-- sums -/
def smN (f : Nat → Int) : Nat → Int
  | 0 => 0
  | k + 1 => smN f k + f k
theorem sm_shift (f : Nat → Int) (j : Nat) : smN (fun k => f (k + 1)) j + f 0 = smN f j + f j := by
  induction j with
  | zero => rfl
  | succ j ih => show smN (fun k => f (k + 1)) j + f (j + 1) + f 0 = smN f j + f j + f (j + 1); omega
theorem sm_per {f : Nat → Int} {j : Nat} (h : f j = f 0) : smN (fun k => f (k + 1)) j = smN f j := by
  have := sm_shift f j; omega
theorem sm_lin {f g h e : Nat → Int} {T M N : Int} (H : ∀ k, f k = T * g k - M * h k + N * e k) (j : Nat) : smN f j = T * smN g j - M * smN h j + N * smN e j := by
  induction j with
  | zero => simp [smN]
  | succ j ih =>
    show smN f j + f j = T * (smN g j + g j) - M * (smN h j + h j) + N * (smN e j + e j)
    rw [ih, H j, Int.mul_add, Int.mul_add, Int.mul_add]; omega
theorem sm_zero {f : Nat → Int} (h : ∀ k, 0 ≤ f k) : ∀ j, 0 ≤ smN f j ∧ (smN f j = 0 → ∀ k, k < j → f k = 0) := by
  intro j
  induction j with
  | zero => exact ⟨Int.le_refl _, fun _ k hk => absurd hk (by omega)⟩
  | succ j ih =>
    have e : smN f (j + 1) = smN f j + f j := rfl
    have := h j
    refine ⟨by omega, fun z k hk => ?_⟩
    by_cases c : k = j
    · subst c; omega
    · exact ih.2 (by omega) k (by omega)
def dot (x y : V3) : Int := x.1 * y.1 + x.2.1 * y.2.1 + x.2.2 * y.2.2
theorem dot_comm (x y : V3) : dot x y = dot y x := by unfold dot; rw [Int.mul_comm x.1, Int.mul_comm x.2.1, Int.mul_comm x.2.2]
theorem dot_ch (u a b c : V3) (T M N : Int) : dot u (vad (vsu (vmu T a) (vmu M b)) (vmu N c)) = T * dot u a - M * dot u b + N * dot u c := by
  simp only [dot, vad, vsu, vmu]; grind
theorem dot_nn (x : V3) : 0 ≤ dot x x ∧ (dot x x = 0 → x = (0, 0, 0)) := by
  obtain ⟨a, b, c⟩ := x
  have h1 := sq_nn a
  have h2 := sq_nn b
  have h3 := sq_nn c
  have z : ∀ t : Int, t * t = 0 → t = 0 := fun t q => (Int.mul_eq_zero.mp q).elim id id
  refine ⟨by show 0 ≤ a * a + b * b + c * c; omega, fun e => ?_⟩
  have e : a * a + b * b + c * c = 0 := e
  exact v3_eq (z a (by omega)) (z b (by omega)) (z c (by omega))
theorem pw3_per {s : Nat → Int} {x : V3} {j : Nat} (h : pz3 s x j = (1, 0, 0)) : ∀ k, pz3 s x (k + j) = pz3 s x k := by
  intro k
  induction k with
  | zero => rw [Nat.zero_add]; exact h
  | succ k ih => rw [show k + 1 + j = (k + j) + 1 by omega]; show mu3 s (pz3 s x (k + j)) x = mu3 s (pz3 s x k) x; rw [ih]
theorem pw3_one (s : Nat → Int) (x : V3) : pz3 s x 1 = x := by
  obtain ⟨a, b, c⟩ := x
  show mu3 s (1, 0, 0) (a, b, c) = (a, b, c)
  refine v3_eq ?_ ?_ ?_ <;> simp
/-- a power that is 1, and the norm 1 or -1: the number is 1 or -1, or the norm of the number less the norm is 0 -/
theorem un3 {s : Nat → Int} {x : V3} (hN : nmS s x = 1 ∨ nmS s x = -1) {j : Nat} (hj : 1 ≤ j) (h : pz3 s x j = (1, 0, 0)) : x = (1, 0, 0) ∨ x = (-1, 0, 0) ∨ (nmS s x = 1 ∧ trS s x = mdS s x) ∨ (nmS s x = -1 ∧ trS s x = - mdS s x) := by
  have per := pw3_per h
  have f0 : ∀ i, (fun k => dot (pz3 s x k) (pz3 s x (k + i))) j = (fun k => dot (pz3 s x k) (pz3 s x (k + i))) 0 := by
    intro i
    show dot (pz3 s x j) (pz3 s x (j + i)) = dot (pz3 s x 0) (pz3 s x (0 + i))
    rw [show j + i = (0 + i) + j by omega, per, show j = 0 + j by omega, per]
  have sh0 := sm_per (f := fun k => dot (pz3 s x k) (pz3 s x (k + 0))) (j := j) (f0 0)
  have sh1 := sm_per (f := fun k => dot (pz3 s x k) (pz3 s x (k + 1))) (j := j) (f0 1)
  have sh2 := sm_per (f := fun k => dot (pz3 s x k) (pz3 s x (k + 2))) (j := j) (f0 2)
  have g0 : ∀ i, (fun k => dot (pz3 s x (k + 1)) (pz3 s x (k + 1 + i))) j = (fun k => dot (pz3 s x (k + 1)) (pz3 s x (k + 1 + i))) 0 := by
    intro i
    show dot (pz3 s x (j + 1)) (pz3 s x (j + 1 + i)) = dot (pz3 s x (0 + 1)) (pz3 s x (0 + 1 + i))
    rw [show j + 1 + i = (0 + 1 + i) + j by omega, per, show j + 1 = (0 + 1) + j by omega, per]
  have si0 := sm_per (f := fun k => dot (pz3 s x (k + 1)) (pz3 s x (k + 1 + 0))) (j := j) (g0 0)
  have si1 := sm_per (f := fun k => dot (pz3 s x (k + 1)) (pz3 s x (k + 1 + 1))) (j := j) (g0 1)
  have e1 := sm_lin (f := fun k => dot (pz3 s x (k + 1)) (pz3 s x (k + 1 + 2))) (g := fun k => dot (pz3 s x (k + 1)) (pz3 s x (k + 1 + 1))) (h := fun k => dot (pz3 s x (k + 1)) (pz3 s x (k + 1 + 0))) (e := fun k => dot (pz3 s x k) (pz3 s x (k + 1))) (T := trS s x) (M := mdS s x) (N := nmS s x) (fun k => by
    show dot (pz3 s x (k + 1)) (pz3 s x (k + 3)) = _
    rw [pw3_ch, dot_ch, dot_comm (pz3 s x (k + 1)) (pz3 s x k)]) j
  have e2 := sm_lin (f := fun k => dot (pz3 s x (k + 1 + 1)) (pz3 s x (k + 1 + 1 + 1))) (g := fun k => dot (pz3 s x (k + 1 + 1)) (pz3 s x (k + 1 + 1 + 0))) (h := fun k => dot (pz3 s x (k + 1)) (pz3 s x (k + 1 + 1))) (e := fun k => dot (pz3 s x k) (pz3 s x (k + 2))) (T := trS s x) (M := mdS s x) (N := nmS s x) (fun k => by
    show dot (pz3 s x (k + 2)) (pz3 s x (k + 3)) = _
    rw [pw3_ch, dot_ch, dot_comm (pz3 s x (k + 2)) (pz3 s x k), dot_comm (pz3 s x (k + 2)) (pz3 s x (k + 1))]) j
  have si0' : smN (fun k => dot (pz3 s x (k + 1 + 1)) (pz3 s x (k + 1 + 1 + 0))) j = smN (fun k => dot (pz3 s x (k + 1)) (pz3 s x (k + 1 + 0))) j := si0
  have si1' : smN (fun k => dot (pz3 s x (k + 1 + 1)) (pz3 s x (k + 1 + 1 + 1))) j = smN (fun k => dot (pz3 s x (k + 1)) (pz3 s x (k + 1 + 1))) j := si1
  rw [si0', si1', sh0, sh1] at e2
  rw [sh2, sh1, sh0] at e1
  have q0 : smN (fun k => dot (vad (pz3 s x k) (pz3 s x (k + 1))) (vad (pz3 s x k) (pz3 s x (k + 1)))) j = 2 * smN (fun k => dot (pz3 s x k) (pz3 s x (k + 1))) j - (-1) * smN (fun k => dot (pz3 s x k) (pz3 s x (k + 0))) j + 1 * smN (fun k => dot (pz3 s x (k + 1)) (pz3 s x (k + 1 + 0))) j := sm_lin (fun k => by simp only [dot, vad, Nat.add_zero]; grind) j
  have q1 : smN (fun k => dot (vsu (pz3 s x k) (pz3 s x (k + 1))) (vsu (pz3 s x k) (pz3 s x (k + 1)))) j = (-2) * smN (fun k => dot (pz3 s x k) (pz3 s x (k + 1))) j - (-1) * smN (fun k => dot (pz3 s x k) (pz3 s x (k + 0))) j + 1 * smN (fun k => dot (pz3 s x (k + 1)) (pz3 s x (k + 1 + 0))) j := sm_lin (fun k => by simp only [dot, vsu, Nat.add_zero]; grind) j
  rw [sh0] at q0 q1
  generalize smN (fun k => dot (pz3 s x k) (pz3 s x (k + 0))) j = C0 at *
  generalize smN (fun k => dot (pz3 s x k) (pz3 s x (k + 1))) j = C1 at *
  generalize smN (fun k => dot (pz3 s x k) (pz3 s x (k + 2))) j = C2 at *
  have p0 : pz3 s x 0 = (1, 0, 0) := rfl
  have p1 := pw3_one s x
  rcases hN with n | n
  · rw [n] at e1 e2
    have k : (trS s x - mdS s x) * (C0 + C1) = 0 := by grind
    rcases Int.mul_eq_zero.mp k with c | c
    · exact Or.inr (Or.inr (Or.inl ⟨n, by omega⟩))
    · have z := (sm_zero (fun k => (dot_nn (vad (pz3 s x k) (pz3 s x (k + 1)))).1) j).2 (by rw [q0]; omega) 0 (by omega)
      have := (dot_nn _).2 z
      rw [p0, show (0 : Nat) + 1 = 1 from rfl, p1] at this
      obtain ⟨a, b, d⟩ := x
      have i1 : 1 + a = 0 := congrArg (fun v : V3 => v.1) this
      have i2 : 0 + b = 0 := congrArg (fun v : V3 => v.2.1) this
      have i3 : 0 + d = 0 := congrArg (fun v : V3 => v.2.2) this
      exact Or.inr (Or.inl (v3_eq (by omega) (by omega) (by omega)))
  · rw [n] at e1 e2
    have k : (trS s x + mdS s x) * (C0 - C1) = 0 := by grind
    rcases Int.mul_eq_zero.mp k with c | c
    · exact Or.inr (Or.inr (Or.inr ⟨n, by omega⟩))
    · have z := (sm_zero (fun k => (dot_nn (vsu (pz3 s x k) (pz3 s x (k + 1)))).1) j).2 (by rw [q1]; omega) 0 (by omega)
      have := (dot_nn _).2 z
      rw [p0, show (0 : Nat) + 1 = 1 from rfl, p1] at this
      obtain ⟨a, b, d⟩ := x
      have i1 : 1 - a = 0 := congrArg (fun v : V3 => v.1) this
      have i2 : 0 - b = 0 := congrArg (fun v : V3 => v.2.1) this
      have i3 : 0 - d = 0 := congrArg (fun v : V3 => v.2.2) this
      exact Or.inl (v3_eq (by omega) (by omega) (by omega))
/-- the norm of x less e, for e = 1, -1 -/
theorem nm_less (s : Nat → Int) (x : V3) (e : Int) : nmS s (vsu x (e, 0, 0)) = nmS s x - e * mdS s x + e * e * trS s x - e * e * e := by
  obtain ⟨a, b, c⟩ := x
  simp only [nmS, mdS, trS, nm3I, md3I, ms1, ms2, vsu]; grind
/-- whole numbers of a field: only 0 has norm 0 -/
def Dom (s : Nat → Int) : Prop := ∀ z, nmS s z = 0 → z = (0, 0, 0)
theorem un3' {s : Nat → Int} (hD : Dom s) {x : V3} (hN : nmS s x = 1 ∨ nmS s x = -1) {j : Nat} (hj : 1 ≤ j) (h : pz3 s x j = (1, 0, 0)) : x = (1, 0, 0) ∨ x = (-1, 0, 0) := by
  rcases un3 hN hj h with c | c | ⟨n, c⟩ | ⟨n, c⟩
  · exact Or.inl c
  · exact Or.inr c
  · have e := nm_less s x 1
    have z := hD _ (by rw [e, n, c]; omega)
    obtain ⟨a, b, d⟩ := x
    have i1 : a - 1 = 0 := congrArg (fun v : V3 => v.1) z
    have i2 : b - 0 = 0 := congrArg (fun v : V3 => v.2.1) z
    have i3 : d - 0 = 0 := congrArg (fun v : V3 => v.2.2) z
    exact Or.inl (v3_eq (by omega) (by omega) (by omega))
  · have e := nm_less s x (-1)
    have z := hD _ (by rw [e, n, c]; omega)
    obtain ⟨a, b, d⟩ := x
    have i1 : a - -1 = 0 := congrArg (fun v : V3 => v.1) z
    have i2 : b - 0 = 0 := congrArg (fun v : V3 => v.2.1) z
    have i3 : d - 0 = 0 := congrArg (fun v : V3 => v.2.2) z
    exact Or.inr (v3_eq (by omega) (by omega) (by omega))
theorem pw3_pm {s : Nat → Int} {x : V3} (h : x = (1, 0, 0) ∨ x = (-1, 0, 0)) : ∀ k, pz3 s x k = (1, 0, 0) ∨ pz3 s x k = (-1, 0, 0) := by
  intro k
  induction k with
  | zero => exact Or.inl rfl
  | succ k ih =>
    show mu3 s (pz3 s x k) x = _ ∨ mu3 s (pz3 s x k) x = _
    have m : ∀ a b : Int, mu3 s (a, 0, 0) (b, 0, 0) = (a * b, 0, 0) := by
      intro a b
      refine v3_eq ?_ ?_ ?_ <;> simp
    rcases ih with r | r <;> rcases h with q | q <;> rw [r, q, m]
    · exact Or.inl rfl
    · exact Or.inr rfl
    · exact Or.inr rfl
    · exact Or.inl rfl
