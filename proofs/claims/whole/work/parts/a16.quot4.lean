theorem WL.z {R : Nat → Int} {W : Int} (h : WL R W) (z : V3) : Sp R (vmu W z) := by
  have g := Sp_grp R
  exact g.co z.1 z.2.1 z.2.2 g.1 h.1 h.2.1 h.2.2 (by simp only [vmu]; grind) (by simp only [vmu]; grind) (by simp only [vmu]; grind)
theorem sm_wl {n : Nat} (h0 : n = 2 ∨ n = 3) (W : Int) : WL (smR n 1) W := by
  have all : ∀ v : V3, Sp (smR n 1) v := by
    intro v
    rcases h0 with rfl | rfl
    · exact ⟨v.1, v.2.1, v.2.2, by simp [smR], by simp [smR], by simp [smR]⟩
    · exact ⟨v.1, v.2.1, v.2.2, by simp [smR], by simp [smR], by simp [smR]⟩
  exact ⟨all _, all _, all _⟩
theorem sp_one {n : Nat} (h0 : n = 2 ∨ n = 3) (v : V3) : Sp (smR n 1) v := by
  rcases h0 with rfl | rfl
  · exact ⟨v.1, v.2.1, v.2.2, by simp [smR], by simp [smR], by simp [smR]⟩
  · exact ⟨v.1, v.2.1, v.2.2, by simp [smR], by simp [smR], by simp [smR]⟩
/-- sums of multiples of W and of three numbers -/
def Cmb (W : Int) (a b c v : V3) : Prop := ∃ (z : V3) (i j k : Int), v.1 = W * z.1 + i * a.1 + j * b.1 + k * c.1 ∧ v.2.1 = W * z.2.1 + i * a.2.1 + j * b.2.1 + k * c.2.1 ∧ v.2.2 = W * z.2.2 + i * a.2.2 + j * b.2.2 + k * c.2.2
theorem Cmb_grp (W : Int) (a b c : V3) : Grp (Cmb W a b c) := by
  refine ⟨⟨(0, 0, 0), 0, 0, 0, by simp, by simp, by simp⟩, ?_⟩
  rintro x y ⟨z, i, j, k, e0, e1, e2⟩ ⟨z', i', j', k', e0', e1', e2'⟩
  refine ⟨vsu z z', i - i', j - j', k - k', ?_, ?_, ?_⟩
  · show x.1 - y.1 = W * (z.1 - z'.1) + (i - i') * a.1 + (j - j') * b.1 + (k - k') * c.1; rw [e0, e0']; grind
  · show x.2.1 - y.2.1 = W * (z.2.1 - z'.2.1) + (i - i') * a.2.1 + (j - j') * b.2.1 + (k - k') * c.2.1; rw [e1, e1']; grind
  · show x.2.2 - y.2.2 = W * (z.2.2 - z'.2.2) + (i - i') * a.2.2 + (j - j') * b.2.2 + (k - k') * c.2.2; rw [e2, e2']; grind
theorem Cmb.eq {W : Int} {a b c v : V3} (h : Cmb W a b c v) : ∃ (z : V3) (i j k : Int), v = vad (vad (vad (vmu W z) (vmu i a)) (vmu j b)) (vmu k c) := by
  obtain ⟨z, i, j, k, e0, e1, e2⟩ := h
  exact ⟨z, i, j, k, v3_ext e0 e1 e2⟩
theorem Cmb.w (W : Int) (a b c z : V3) : Cmb W a b c (vmu W z) := ⟨z, 0, 0, 0, by simp [vmu], by simp [vmu], by simp [vmu]⟩
theorem Cmb.a (W : Int) (a b c : V3) : Cmb W a b c a := ⟨(0, 0, 0), 1, 0, 0, by simp, by simp, by simp⟩
theorem Cmb.b (W : Int) (a b c : V3) : Cmb W a b c b := ⟨(0, 0, 0), 0, 1, 0, by simp, by simp, by simp⟩
theorem Cmb.c (W : Int) (a b c : V3) : Cmb W a b c c := ⟨(0, 0, 0), 0, 0, 1, by simp, by simp, by simp⟩
theorem lastR_same {n : Nat} {C : Nat → Int} {m W : Int} {k : Nat} (h : k + 1 < n) : rowV (lastR n C m W) k = rowV C k := by
  unfold rowV lastR
  rw [if_neg (by omega), if_neg (by omega), if_neg (by omega)]
theorem lastR_last {n : Nat} (h0 : n = 2 ∨ n = 3) {C : Nat → Int} {m W : Int} : rowV (lastR n C m W) (n - 1) = (((rowV C (n - 1)).1 * m) % W, ((rowV C (n - 1)).2.1 * m) % W, ((rowV C (n - 1)).2.2 * m) % W) := by
  unfold rowV lastR
  rw [if_pos (by omega), if_pos (by omega), if_pos (by omega)]
/-- the rows kept are those of the numbers without weight -/
theorem qs_pure {n : Nat} (h0 : n = 2 ∨ n = 3) {N W : Int} {f : V3 → Int} (hf : Lin N W f) (f3 : n = 2 → ∀ k, N ∣ f (0, 0, k)) (hN : 0 < N) {R C w R' : Nat → Int} (tR : Tri R) (r2 : R2 n R) (hWR : WL R W) (hC : ∀ H, Grp H → (∀ z, H (vmu W z)) → ((∀ k, k < n → H (rowV R k)) ↔ (∀ k, k < n → H (rowV C k)))) (hw : ∀ k, k < n → 0 ≤ w k ∧ N ∣ (f (rowV C k) - w k)) (hw0 : ∀ k, k + 1 < n → w k = 0) (hR' : ∀ H, Grp H → (In3 H R' ↔ (In3 H (smR n W) ∧ ∀ i, i < n → H (rowV (lastR n C (N / (Int.gcd N (w (n - 1)) : Int)) W) i)))) (v : V3) : Sp R' v ↔ (Sp R v ∧ N ∣ f v) := by
  have n1 : n - 1 < n := by omega
  obtain ⟨g0, g1, ⟨u, eu⟩, gm, gd⟩ := gcd_many (N := N) (w := w (n - 1)) hN (hw _ n1).1
  generalize hm : N / (Int.gcd N (w (n - 1)) : Int) = m at *
  generalize (Int.gcd N (w (n - 1)) : Int) = gg at *
  have gR := Sp_grp R
  have third : n = 2 → Sp R (0, 0, 1) := fun h => by
    obtain ⟨a, b, c⟩ := r2 h
    exact ⟨0, 0, 1, by simp [a], by simp [b], by simp [c]⟩
  have rowsC : ∀ k, k < n → Sp R (rowV C k) := (hC _ gR hWR.z).mp (fun k hk => (in3_rows tR _).mp (Sp_in R) k (by omega))
  constructor
  · intro s
    have gH : Grp (fun v => Sp R v ∧ N ∣ f v) := gR.and hf.grp
    have wH : ∀ z, Sp R (vmu W z) ∧ N ∣ f (vmu W z) := fun z => ⟨hWR.z z, hf.2.2 z⟩
    refine In3.sp gH ((hR' _ gH).mpr ⟨?_, fun i hi => ?_⟩) s
    · have e0 : vmu W (1, 0, 0) = (W, 0, 0) := v3_eq (by simp) (by simp) (by simp)
      have e1 : vmu W (0, 1, 0) = (0, W, 0) := v3_eq (by simp) (by simp) (by simp)
      have e2 : vmu W (0, 0, 1) = (0, 0, W) := v3_eq (by simp) (by simp) (by simp)
      have a := wH (1, 0, 0)
      have b := wH (0, 1, 0)
      have c := wH (0, 0, 1)
      rw [e0] at a
      rw [e1] at b
      rw [e2] at c
      refine ⟨a, b, ?_⟩
      rcases h0 with h | h
      · subst h; exact ⟨third rfl, f3 rfl 1⟩
      · subst h; exact c
    · by_cases c : i + 1 < n
      · rw [lastR_same c]
        have := (hw i hi).2
        rw [hw0 i c, Int.sub_zero] at this
        exact ⟨rowsC i hi, this⟩
      · obtain rfl : i = n - 1 := by omega
        rw [lastR_last h0]
        refine (st_HM gH wH).mp ⟨gR.mul (rowsC _ n1) m, ?_⟩
        rw [hf.2.1]
        have d := (hw _ n1).2
        have d2 : N ∣ m * (f (rowV C (n - 1)) - w (n - 1)) := Int.dvd_mul_of_dvd_right d
        have d3 : N ∣ m * w (n - 1) := ⟨u, by rw [eu, ← gm]; grind⟩
        have := Int.dvd_add d2 d3
        have e : m * (f (rowV C (n - 1)) - w (n - 1)) + m * w (n - 1) = m * f (rowV C (n - 1)) := by rw [Int.mul_sub]; omega
        rw [e] at this; exact this
  · rintro ⟨s, hd⟩
    have gR' := Sp_grp R'
    have inR' := (hR' _ gR').mp (Sp_in R')
    have wR' : ∀ z, Sp R' (vmu W z) := fun z => sm_in h0 gR' inR'.1 z
    have lastIn : Sp R' (vmu m (rowV C (n - 1))) := by
      have := inR'.2 (n - 1) n1
      rw [lastR_last h0] at this
      exact (st_HM gR' wR').mpr this
    have earlier : ∀ k, k + 1 < n → Sp R' (rowV C k) := fun k hk => by
      have := inR'.2 k (by omega)
      rw [lastR_same hk] at this; exact this
    -- the last's coefficient is a multiple of m
    have fin : ∀ a : Int, N ∣ a * f (rowV C (n - 1)) → Sp R' (vmu a (rowV C (n - 1))) := by
      intro a ha
      have d1 : N ∣ a * (f (rowV C (n - 1)) - w (n - 1)) := Int.dvd_mul_of_dvd_right (hw _ n1).2
      have d2 : N ∣ a * w (n - 1) := by
        have := Int.dvd_sub ha d1
        have e : a * f (rowV C (n - 1)) - a * (f (rowV C (n - 1)) - w (n - 1)) = a * w (n - 1) := by rw [Int.mul_sub]; omega
        rw [e] at this; exact this
      obtain ⟨b, eb⟩ := gd a d2
      have := gR'.mul lastIn b
      have e : vmu b (vmu m (rowV C (n - 1))) = vmu a (rowV C (n - 1)) := by
        refine v3_eq ?_ ?_ ?_ <;> simp only [vmu] <;> rw [eb] <;> grind
      rw [e] at this; exact this
    rcases h0 with h | h
    · subst h
      have gK := Cmb_grp W (rowV C 0) (rowV C 1) (0, 0, 1)
      have rK := (hC _ gK (Cmb.w W _ _ _)).mpr (fun k hk => by
        have : k = 0 ∨ k = 1 := by omega
        rcases this with rfl | rfl
        · exact Cmb.a _ _ _ _
        · exact Cmb.b _ _ _ _)
      have sK := In3.sp gK ((in3_rowsN (Or.inl rfl) tR r2 _ (fun _ => Cmb.c _ _ _ _)).mpr rK) s
      obtain ⟨z, i, j, k, rfl⟩ := sK.eq
      rw [hf.1, hf.1, hf.1, hf.2.1 i, hf.2.1 j, hf.2.1 k] at hd
      have d0 := (hw 0 (by decide)).2
      rw [hw0 0 (by decide), Int.sub_zero] at d0
      have dj : N ∣ j * f (rowV C 1) := by
        have q1 := Int.dvd_sub (Int.dvd_sub (Int.dvd_sub hd (hf.2.2 z)) (Int.dvd_mul_of_dvd_right (b := i) d0)) (Int.dvd_mul_of_dvd_right (b := k) (f3 rfl 1))
        have e : f (vmu W z) + i * f (rowV C 0) + j * f (rowV C 1) + k * f (0, 0, 1) - f (vmu W z) - i * f (rowV C 0) - k * f (0, 0, 1) = j * f (rowV C 1) := by omega
        rw [e] at q1; exact q1
      have c1 : Sp R' (0, 0, 1) := inR'.1.2.2
      exact gR'.add (gR'.add (gR'.add (wR' z) (gR'.mul (earlier 0 (by decide)) i)) (fin j dj)) (gR'.mul c1 k)
    · subst h
      have gK := Cmb_grp W (rowV C 0) (rowV C 1) (rowV C 2)
      have rK := (hC _ gK (Cmb.w W _ _ _)).mpr (fun k hk => by
        rcases below3 hk with rfl | rfl | rfl
        · exact Cmb.a _ _ _ _
        · exact Cmb.b _ _ _ _
        · exact Cmb.c _ _ _ _)
      have sK := In3.sp gK ((in3_rows tR _).mpr rK) s
      obtain ⟨z, i, j, k, rfl⟩ := sK.eq
      rw [hf.1, hf.1, hf.1, hf.2.1 i, hf.2.1 j, hf.2.1 k] at hd
      have d0 := (hw 0 (by decide)).2
      have d1 := (hw 1 (by decide)).2
      rw [hw0 0 (by decide), Int.sub_zero] at d0
      rw [hw0 1 (by decide), Int.sub_zero] at d1
      have dk : N ∣ k * f (rowV C 2) := by
        have q1 := Int.dvd_sub (Int.dvd_sub (Int.dvd_sub hd (hf.2.2 z)) (Int.dvd_mul_of_dvd_right (b := i) d0)) (Int.dvd_mul_of_dvd_right (b := j) d1)
        have e : f (vmu W z) + i * f (rowV C 0) + j * f (rowV C 1) + k * f (rowV C 2) - f (vmu W z) - i * f (rowV C 0) - j * f (rowV C 1) = k * f (rowV C 2) := by omega
        rw [e] at q1; exact q1
      exact gR'.add (gR'.add (gR'.add (wR' z) (gR'.mul (earlier 0 (by decide)) i)) (gR'.mul (earlier 1 (by decide)) j)) (fin k dk)
theorem tst_bd {X : Nat → Int} (h : Hm X) {B : Int} (hB : nmR X ≤ B) : ∀ c j, bd (tst X c j) B := by
  obtain ⟨⟨z1, z2, z5, p0, p4, p8⟩, x3, x6, x7⟩ := h
  have a04 : 1 ≤ X 0 * X 4 := by have := Int.mul_pos p0 p4; omega
  have e1 : X 0 * X 4 * 1 ≤ X 0 * X 4 * X 8 := Int.mul_le_mul_of_nonneg_left (by omega) (by omega)
  have a48 : 0 < X 4 * X 8 := Int.mul_pos p4 p8
  have a08 : 0 < X 0 * X 8 := Int.mul_pos p0 p8
  have e2 : 1 * (X 4 * X 8) ≤ X 0 * (X 4 * X 8) := Int.mul_le_mul_of_nonneg_right (by omega) (by omega)
  have e3 : X 0 * X 8 * 1 ≤ X 0 * X 8 * X 4 := Int.mul_le_mul_of_nonneg_left (by omega) (by omega)
  have q1 : X 0 * (X 4 * X 8) = nmR X := by unfold nmR; grind
  have q2 : X 0 * X 8 * X 4 = nmR X := by unfold nmR; grind
  have q3 : X 0 * X 4 * X 8 = nmR X := rfl
  have e4 : X 3 * X 8 ≤ X 0 * X 8 := Int.mul_le_mul_of_nonneg_right (by omega) (by omega)
  have e5 : 0 ≤ X 3 * X 8 := Int.mul_nonneg x3.1 (by omega)
  have e6 : X 3 * X 7 ≤ X 0 * X 4 := Int.mul_le_mul (by omega) (by omega) x7.1 (by omega)
  have e7 : 0 ≤ X 3 * X 7 := Int.mul_nonneg x3.1 x7.1
  have e8 : X 6 * X 4 ≤ X 0 * X 4 := Int.mul_le_mul_of_nonneg_right (by omega) (by omega)
  have e9 : 0 ≤ X 6 * X 4 := Int.mul_nonneg x6.1 (by omega)
  have f1 : X 0 * X 7 ≤ X 0 * X 4 := Int.mul_le_mul_of_nonneg_left (by omega) (by omega)
  have f2 : 0 ≤ X 0 * X 7 := Int.mul_nonneg (by omega) x7.1
  intro c j
  have z : bd 0 B := ⟨by omega, by omega⟩
  match c, j with
  | 0, 0 => exact (⟨by omega, by omega⟩ : bd (X 4 * X 8) B)
  | 0, 1 => exact (⟨by rw [Int.neg_mul]; omega, by rw [Int.neg_mul]; omega⟩ : bd (-X 3 * X 8) B)
  | 0, 2 => exact (⟨by omega, by omega⟩ : bd (X 3 * X 7 - X 6 * X 4) B)
  | 1, 1 => exact (⟨by omega, by omega⟩ : bd (X 0 * X 8) B)
  | 1, 2 => exact (⟨by rw [Int.neg_mul]; omega, by rw [Int.neg_mul]; omega⟩ : bd (-X 0 * X 7) B)
  | 2, 2 => exact (⟨by omega, by omega⟩ : bd (X 0 * X 4) B)
  | 1, 0 => exact z
  | 2, 0 => exact z
  | 2, 1 => exact z
  | 0, j + 3 => exact z
  | 1, j + 3 => exact z
  | 2, j + 3 => exact z
  | c + 3, j => exact z
/-- the weight by a test and a number y -/
theorem lin_tau {n : Nat} {T X : Nat → Int} (rr : Rg n T) (tX : Tri X) (hWX : WL X (X 0)) (iX : Idl n T X) (y : V3) {c : Nat} (hc : c < 3) : Lin (nmR X) (X 0) (fun v => tau X c (muv n T v y)) := by
  refine ⟨fun a b => ?_, fun k a => ?_, fun z => ?_⟩
  · show tau X c (muv n T (vad a b) y) = _
    rw [muv_comm, muv_add, tau_add, muv_comm n T y a, muv_comm n T y b]
  · show tau X c (muv n T (vmu k a) y) = _
    rw [muv_comm, muv_mul, tau_mul, muv_comm n T y a]
  · show nmR X ∣ tau X c (muv n T (vmu (X 0) z) y)
    rw [muv_comm, muv_mul]
    exact (tau_iff tX _).mp (hWX.z _) c hc
theorem tst_third {n : Nat} {X : Nat → Int} (r2 : R2 n X) (h : n = 2) {c : Nat} (hc : c < n) : tst X c 2 = 0 := by
  obtain ⟨a, b, _⟩ := r2 h
  have : c = 0 ∨ c = 1 := by omega
  rcases this with rfl | rfl
  · show X 3 * X 7 - X 6 * X 4 = 0; rw [a, b]; simp
  · show -X 0 * X 7 = 0; rw [b]; simp
theorem tau_third {n : Nat} {T X : Nat → Int} (r2 : R2 n X) (h : n = 2) {c : Nat} (hc : c < n) (y : V3) (k : Int) : tau X c (muv n T (0, 0, k) y) = 0 := by
  have e := tst_third r2 h hc
  subst h
  rw [muv_comm, muv_e2]
  unfold tau; rw [e]; simp
section MQ
variable {l : Launch} {D : va_G} {aI aL : ClassId} {ad : Nat → Nat} {P : sa_P}
/-- the quotient so far -/
def QS (n : Nat) (W : Int) (R : Nat → Int) (J : sa_J) : Prop := (∀ t, t < 9 → J 15 t = lI (R t) ∧ 0 ≤ R t ∧ R t ≤ 1000000) ∧ Hm R ∧ R2 n R ∧ WL R W
def oQ (J J1 : sa_J) : Prop := ∀ q, q ≠ 9 → q ≠ 14 → q ≠ 15 → q ≠ 16 → q ≠ 18 → q ≠ 20 → J1 q = J q
theorem oQ.tr {J J1 J2 : sa_J} (h : oQ J J1) (g : oQ J1 J2) : oQ J J2 := fun q a b c d e f => (g q a b c d e f).trans (h q a b c d e f)
theorem oQ.rfl' {J : sa_J} : oQ J J := fun _ _ _ _ _ _ _ => rfl
theorem mq_in {n : Nat} {T X Y : Nat → Int} (rr : Rg n T) (hX : IdR n T X) (okY : okR n Y) {a3 q3 n3 p3 : Nat} (hq3 : sa_iJ (EC l D aI aL ad) a3 q3 n3) (hn3 : n3 < 2 ^ 31) (hb3 : p3 + 9 ≤ n3) (hz3 : q3 ≠ 9 ∧ q3 ≠ 14 ∧ q3 ≠ 15 ∧ q3 ≠ 16 ∧ q3 ≠ 18 ∧ q3 ≠ 20) {u : Nat} (hu : u < n) : ∀ (d c0 : Nat) (I : sa_I) (J : sa_J) (R : Nat → Int), c0 + d = n → I 4 0 = nI n → (∀ t, t < 27 → J 8 t = lI (T t)) → (∀ c j, c < 3 → j < 3 → J 19 (3 * c + j) = lI (tst X c j)) → (∀ t, t < 9 → J q3 (p3 + t) = lI (Y t)) → QS n (X 0) R J → (∀ I' J' R', SCI I I' → oQ J J' → QS n (X 0) R' J' → (∀ v, Sp R' v ↔ (Sp R v ∧ ∀ c, c0 ≤ c → c < n → nmR X ∣ tau X c (muv n T v (rowV Y u)))) → Sat (EC l D aI aL ad) M_X2_makeQuotient P 104 [(0, .ref (ad 13)), (3, .ref a3), (4, .int (nI p3)), (5, .long (lI (nmR X))), (7, .long (lI (X 0))), (9, .int (nI u))] [] I' J') → Sat (EC l D aI aL ad) M_X2_makeQuotient P 51 [(0, .ref (ad 13)), (3, .ref a3), (4, .int (nI p3)), (5, .long (lI (nmR X))), (7, .long (lI (X 0))), (9, .int (nI u)), (10, .int (nI c0))] [] I J := by
  intro d
  have h0 := rr.n
  have okX := hX.ok rr
  have hN0 : 0 < nmR X := Int.mul_pos (Int.mul_pos hX.1.1.2.2.2.1 hX.1.1.2.2.2.2.1) hX.1.1.2.2.2.2.2
  have hN := hX.2.2.2
  have hW0 : 0 < X 0 := hX.1.1.2.2.2.1
  have hW := okX.2.2.2
  induction d with
  | zero =>
    intro c0 I J R hd hI hT ht hY hQ kk
    refine bX2_makeQuotient_51 hq3 hn3 (fun _ => kk I J R SCI.rfl' oQ.rfl' hQ (fun v => ⟨fun h => ⟨h, fun c h1 h2 => by omega⟩, fun h => h.1⟩)) (fun c => absurd ?_ c)
    rw [hI, nJ_le (by omega) (by omega)]; omega
  | succ d ih =>
    intro c0 I J R hd hI hT ht hY hQ kk
    refine bX2_makeQuotient_51 hq3 hn3 (fun c => absurd c (by rw [hI, nJ_le (by omega) (by omega)]; omega)) (fun _ => ?_)
    refine bX2_makeQuotient_63 hq3 hn3 ?_
    rw [show nI p3 + (3 : Int32) * nI u = nI (p3 + 3 * u) by rw [show (3 : Int32) * nI u = nI (3 * u) from nI_mulE 3 u]; exact nI_addE _ _, show (3 : Int32) * nI c0 = nI (3 * c0) from nI_mulE 3 c0]
    obtain ⟨hR, hm, r2, hwl⟩ := hQ
    have hlin := lin_tau rr hX.1.1 okX.2.2.1 hX.2.2.1 (rowV Y u) (c := c0) (by omega)
    refine v_X2_73 dX2_makeQuotient_78 rfl ⟨rfl, rfl, Nat.le_of_ble_eq_true rfl, Nat.le_of_ble_eq_true rfl⟩ (c_weigh rr hX.2.1 (c := c0) (by omega) hN0 hN (fun j _ => tst_bd hX.1 hN c0 j) (fun t ht => (hR t ht).2) (okY.row (i := u) (by omega)) hq3 hn3 (by omega) ⟨hz3.1, hz3.2.2.2.2.2⟩ hI hT (fun t ht => (hR t ht).1) (fun j hj => by rw [rowV_vk Y u (by omega), Nat.add_assoc]; exact hY _ (by omega)) (fun j hj => ht c0 j (by omega) hj)) rfl rfl (Nat.le_of_ble_eq_true rfl) (fun r I1 J1 hp => ?_)
    obtain ⟨e2, f1, b, w, rfl, hw, hb⟩ := hp
    obtain rfl := e2.symm
    have go : ∀ (I2 : sa_I) (J2 : sa_J) (R2' : Nat → Int), SCI I I2 → oQ J J2 → QS n (X 0) R2' J2 → (∀ v, Sp R2' v ↔ (Sp R v ∧ nmR X ∣ tau X c0 (muv n T v (rowV Y u)))) → Sat (EC l D aI aL ad) M_X2_makeQuotient P 98 [(0, .ref (ad 13)), (3, .ref a3), (4, .int (nI p3)), (5, .long (lI (nmR X))), (7, .long (lI (X 0))), (9, .int (nI u)), (10, .int (nI c0))] [] I2 J2 := by
      intro I2 J2 R2' s2 o2 Q2 S2
      refine bX2_makeQuotient_98 (v98 := nI (c0 + 1)) hq3 hn3 (nI_addE c0 1) ?_
      refine ih (c0 + 1) I2 J2 R2' (by omega) (by rw [s2 4 (by decide)]; exact hI) (fun t ht => by rw [o2 8 (by decide) (by decide) (by decide) (by decide) (by decide) (by decide)]; exact hT t ht) (fun c j h1 h2 => by rw [o2 19 (by decide) (by decide) (by decide) (by decide) (by decide) (by decide)]; exact ht c j h1 h2) (fun t ht => by rw [o2 q3 hz3.1 hz3.2.1 hz3.2.2.1 hz3.2.2.2.1 hz3.2.2.2.2.1 hz3.2.2.2.2.2]; exact hY t ht) Q2 (fun I' J' R' s' o' Q' S' => kk I' J' R' (s2.tr s') (o2.tr o') Q' (fun v => ?_))
      rw [S' v, S2 v]
      constructor
      · rintro ⟨⟨a, b⟩, c⟩
        refine ⟨a, fun c' h1 h2 => ?_⟩
        by_cases h : c' = c0
        · subst h; exact b
        · exact c c' (by omega) h2
      · rintro ⟨a, b⟩
        exact ⟨⟨a, b c0 (Nat.le_refl _) (by omega)⟩, fun c' h1 h2 => b c' (by omega) h2⟩
    have o1 : oQ J J1 := fun q h9 _ _ _ _ h20 => f1 q h9 h20
    cases b with
    | false =>
      refine bX2_makeQuotient_81 hq3 hn3 (fun _ => ?_) (fun c => absurd rfl c)
      have hw0 : ∀ k, k < n → w k = 0 := by
        intro k hk
        by_cases h : w k = 0
        · exact h
        · exact absurd (hb.mpr ⟨k, hk, h⟩) (by decide)
      refine go I J1 R SCI.rfl' o1 ⟨fun t ht => by rw [f1 15 (by decide) (by decide)]; exact hR t ht, hm, r2, hwl⟩ (fun v => ⟨fun h => ⟨h, ?_⟩, fun h => h.1⟩)
      refine In3.sp hlin.grp ((in3_rowsN h0 hm.1 r2 _ (fun h => ?_)).mpr (fun k hk => ?_)) h
      · show nmR X ∣ tau X c0 (muv n T (0, 0, 1) (rowV Y u))
        rw [tau_third hX.2.1 h (by omega)]; exact Int.dvd_zero _
      · have := (hw k hk).2.2.2
        rw [hw0 k hk, Int.sub_zero] at this; exact this
    | true =>
      refine bX2_makeQuotient_81 hq3 hn3 (fun c => absurd c (by decide)) (fun _ => ?_)
      refine bX2_makeQuotient_84 hq3 hn3 ?_
      refine v_X2_77 dX2_makeQuotient_87 rfl ⟨rfl, rfl, Nat.le_of_ble_eq_true rfl, Nat.le_of_ble_eq_true rfl⟩ (c_gather (R := R) (w := w) h0 hI hlin hN hW0 hW (fun t ht => by rw [f1 15 (by decide) (by decide)]; exact hR t ht) (fun k hk => ⟨(hw k hk).1, (hw k hk).2.1, by have := (hw k hk).2.2.1; omega, (hw k hk).2.2.2⟩)) rfl rfl (Nat.le_of_ble_eq_true rfl) (fun r I2 J2 hp => ?_)
      obtain ⟨rfl, e2, f2, C, w2, G2, z2, rel2⟩ := hp
      obtain rfl := e2.symm
      refine bX2_makeQuotient_90 hq3 hn3 ?_
      refine v_X2_81 dX2_makeQuotient_95 rfl ⟨rfl, rfl, Nat.le_of_ble_eq_true rfl, Nat.le_of_ble_eq_true rfl⟩ (c_keepLight (C := C) (w := w2) h0 hI hN0 hN hW0 hW G2.1 ⟨(G2.2 (n - 1) (by omega)).1, (G2.2 (n - 1) (by omega)).2.1, (G2.2 (n - 1) (by omega)).2.2.1⟩) rfl rfl (Nat.le_of_ble_eq_true rfl) (fun r I3 J3 hp => ?_)
      obtain ⟨rfl, s3, f3, R', L', rel3⟩ := hp
      have hS := fun v => qs_pure h0 hlin (fun h k => by rw [tau_third hX.2.1 h (by omega)]; exact Int.dvd_zero _) hN0 hm.1 r2 hwl rel2 (fun k hk => ⟨(G2.2 k hk).2.1, (G2.2 k hk).2.2.2⟩) z2 rel3 v
      refine go I3 J3 R' s3 (fun q h9 h14 h15 h16 h18 h20 => by rw [f3 q h14 h15 h16 h18, f2 q h18 h20, f1 q h9 h20]) ⟨fun t ht => ⟨(L'.1 t ht).1, (L'.1 t ht).2.1, by have := (L'.1 t ht).2.2; omega⟩, L'.2.1, L'.2.2, ?_⟩ hS
      have inR' := (rel3 _ (Sp_grp R')).mp (Sp_in R')
      have e0 : vmu (X 0) (1, 0, 0) = (X 0, 0, 0) := v3_eq (by simp) (by simp) (by simp)
      have e1 : vmu (X 0) (0, 1, 0) = (0, X 0, 0) := v3_eq (by simp) (by simp) (by simp)
      have e2 : vmu (X 0) (0, 0, 1) = (0, 0, X 0) := v3_eq (by simp) (by simp) (by simp)
      have q := sm_in h0 (Sp_grp R') inR'.1
      exact ⟨by have := q (1, 0, 0); rw [e0] at this; exact this, by have := q (0, 1, 0); rw [e1] at this; exact this, by have := q (0, 0, 1); rw [e2] at this; exact this⟩
theorem mq_out {n : Nat} {T X Y : Nat → Int} (rr : Rg n T) (hX : IdR n T X) (okY : okR n Y) {a3 q3 n3 p3 : Nat} (hq3 : sa_iJ (EC l D aI aL ad) a3 q3 n3) (hn3 : n3 < 2 ^ 31) (hb3 : p3 + 9 ≤ n3) (hz3 : q3 ≠ 9 ∧ q3 ≠ 14 ∧ q3 ≠ 15 ∧ q3 ≠ 16 ∧ q3 ≠ 18 ∧ q3 ≠ 20) : ∀ (d i0 : Nat) (I : sa_I) (J : sa_J) (R : Nat → Int), i0 + d = n → I 4 0 = nI n → (∀ t, t < 27 → J 8 t = lI (T t)) → (∀ c j, c < 3 → j < 3 → J 19 (3 * c + j) = lI (tst X c j)) → (∀ t, t < 9 → J q3 (p3 + t) = lI (Y t)) → QS n (X 0) R J → (∀ I' J' R', SCI I I' → oQ J J' → QS n (X 0) R' J' → (∀ v, Sp R' v ↔ (Sp R v ∧ ∀ i, i0 ≤ i → i < n → ∀ c, c < n → nmR X ∣ tau X c (muv n T v (rowV Y i)))) → P none I' J') → Sat (EC l D aI aL ad) M_X2_makeQuotient P 36 [(0, .ref (ad 13)), (3, .ref a3), (4, .int (nI p3)), (5, .long (lI (nmR X))), (7, .long (lI (X 0))), (9, .int (nI i0))] [] I J := by
  intro d
  have h0 := rr.n
  induction d with
  | zero =>
    intro i0 I J R hd hI hT ht hY hQ kk
    refine bX2_makeQuotient_36 hq3 hn3 (fun _ => bX2_makeQuotient_110 (kk I J R SCI.rfl' oQ.rfl' hQ (fun v => ⟨fun h => ⟨h, fun i h1 h2 => by omega⟩, fun h => h.1⟩))) (fun c => absurd ?_ c)
    rw [hI, nJ_le (by omega) (by omega)]; omega
  | succ d ih =>
    intro i0 I J R hd hI hT ht hY hQ kk
    refine bX2_makeQuotient_36 hq3 hn3 (fun c => absurd c (by rw [hI, nJ_le (by omega) (by omega)]; omega)) (fun _ => ?_)
    refine bX2_makeQuotient_48 (v49 := nI 0) hq3 hn3 rfl ?_
    refine mq_in rr hX okY hq3 hn3 hb3 hz3 (u := i0) (by omega) n 0 I J R (by omega) hI hT ht hY hQ (fun I2 J2 R2' s2 o2 Q2 S2 => ?_)
    refine bX2_makeQuotient_104 (v104 := nI (i0 + 1)) hq3 hn3 (nI_addE i0 1) ?_
    refine ih (i0 + 1) I2 J2 R2' (by omega) (by rw [s2 4 (by decide)]; exact hI) (fun t ht => by rw [o2 8 (by decide) (by decide) (by decide) (by decide) (by decide) (by decide)]; exact hT t ht) (fun c j h1 h2 => by rw [o2 19 (by decide) (by decide) (by decide) (by decide) (by decide) (by decide)]; exact ht c j h1 h2) (fun t ht => by rw [o2 q3 hz3.1 hz3.2.1 hz3.2.2.1 hz3.2.2.2.1 hz3.2.2.2.2.1 hz3.2.2.2.2.2]; exact hY t ht) Q2 (fun I' J' R' s' o' Q' S' => kk I' J' R' (s2.tr s') (o2.tr o') Q' (fun v => ?_))
    rw [S' v, S2 v]
    constructor
    · rintro ⟨⟨a, b⟩, c⟩
      refine ⟨a, fun i h1 h2 => ?_⟩
      by_cases h : i = i0
      · subst h; exact fun c' hc' => b c' (by omega) hc'
      · exact c i (by omega) h2
    · rintro ⟨a, b⟩
      exact ⟨⟨a, fun c' _ hc' => b i0 (Nat.le_refl _) (by omega) c' hc'⟩, fun i h1 h2 => b i (by omega) h2⟩
theorem c_makeQuotient {n : Nat} {T X Y : Nat → Int} {I : sa_I} {J : sa_J} (hI : I 4 0 = nI n) (hT : ∀ t, t < 27 → J 8 t = lI (T t)) (rr : Rg n T) (hX : IdR n T X) (okY : okR n Y) {a3 q3 n3 p3 : Nat} (hq3 : sa_iJ (EC l D aI aL ad) a3 q3 n3) (hn3 : n3 < 2 ^ 31) (hb3 : p3 + 9 ≤ n3) (hz3 : q3 ≠ 9 ∧ q3 ≠ 14 ∧ q3 ≠ 15 ∧ q3 ≠ 16 ∧ q3 ≠ 18 ∧ q3 ≠ 20) {a1 q1 n1 p1 : Nat} (hq1 : sa_iJ (EC l D aI aL ad) a1 q1 n1) (hn1 : n1 < 2 ^ 31) (hb1 : p1 + 9 ≤ n1) (hz1 : q1 ≠ 19) (hz3' : q3 ≠ 19) (hXm : ∀ t, t < 9 → J q1 (p1 + t) = lI (X t)) (hYm : ∀ t, t < 9 → J q3 (p3 + t) = lI (Y t)) : Con (EC l D aI aL ad) M_X2_makeQuotient yX2_makeQuotient [.ref (ad 13), .ref a1, .int (nI p1), .ref a3, .int (nI p3)] I J (fun r I1 J1 => r = none ∧ SCI I I1 ∧ (∀ q, q ≠ 9 → q ≠ 14 → q ≠ 15 → q ≠ 16 → q ≠ 18 → q ≠ 19 → q ≠ 20 → J1 q = J q) ∧ ∃ R, QS n (X 0) R J1 ∧ ∀ v, Sp R v ↔ ∀ i, i < n → Sp X (muv n T v (rowV Y i))) := by
  refine Con.of (by decide +kernel) rfl (Nat.le_of_ble_eq_true rfl) ?_
  have h0 := rr.n
  refine bX2_makeQuotient_0 hq1 hn1 hq3 hn3 ?_
  refine v_X2_66 dX2_makeQuotient_3 rfl ⟨rfl, rfl, Nat.le_of_ble_eq_true rfl, Nat.le_of_ble_eq_true rfl⟩ (c_setTests hq1 hn1 hb1 hz1 hXm) rfl rfl (Nat.le_of_ble_eq_true rfl) (fun r I1 J1 hp => ?_)
  obtain ⟨rfl, e2, f1, h19⟩ := hp
  obtain rfl := e2.symm
  refine bX2_makeQuotient_6 hq1 hn1 hq3 hn3 ?_
  have hX1 : ∀ t, t < 9 → J1 q1 (p1 + t) = lI (X t) := fun t ht => by rw [f1 q1 hz1]; exact hXm t ht
  refine v_X2_69 dX2_makeQuotient_8 rfl ⟨rfl, rfl, Nat.le_of_ble_eq_true rfl, Nat.le_of_ble_eq_true rfl⟩ (c_normOfRows6 (R := X) hq1 hn1 hb1 hX1) rfl rfl (Nat.le_of_ble_eq_true rfl) (fun r I1 J2 hp => ?_)
  obtain ⟨rfl, e2, e3⟩ := hp
  obtain rfl := e2.symm
  obtain rfl := e3.symm
  refine bX2_makeQuotient_11 (j14 := p1) (v16 := lI (X 0)) hq1 hn1 hq3 hn3 rfl (by omega) (hX1 0 (by decide)) ?_
  rw [hI]
  refine v_X2_45 dX2_makeQuotient_30 rfl ⟨rfl, rfl, Nat.le_of_ble_eq_true rfl, Nat.le_of_ble_eq_true rfl⟩ (c_startMultiples (m := 1) h0 (by decide) (by decide)) rfl rfl (Nat.le_of_ble_eq_true rfl) (fun r I2 J2 hp => ?_)
  obtain ⟨rfl, s2, f2, L2⟩ := hp
  refine bX2_makeQuotient_33 (v34 := nI 0) hq3 hn3 rfl ?_
  have f12 : ∀ q, q ≠ 14 → q ≠ 15 → q ≠ 19 → J2 q = J q := fun q h14 h15 h19 => (f2 q h14 h15).trans (f1 q h19)
  refine mq_out rr hX okY hq3 hn3 hb3 hz3 n 0 I2 J2 (smR n 1) (by omega) (by rw [s2 4 (by decide)]; exact hI) (fun t ht => by rw [f12 8 (by decide) (by decide) (by decide)]; exact hT t ht) (fun c j h1 h2 => by rw [f2 19 (by decide) (by decide)]; exact h19 c j h1 h2) (fun t ht => by rw [f12 q3 hz3.2.1 hz3.2.2.1 hz3']; exact hYm t ht) ⟨fun t ht => ⟨(L2.2.2.1 t ht).1, (L2.2.2.1 t ht).2.1, by have := (L2.2.2.1 t ht).2.2; omega⟩, smR_Hm (by decide), L2.2.2.2.2.2.2.2, sm_wl h0 _⟩ (fun I' J' R' s' o' Q' S' => ⟨rfl, s2.tr s', fun q h9 h14 h15 h16 h18 h19 h20 => by rw [o' q h9 h14 h15 h16 h18 h20, f12 q h14 h15 h19], R', Q', fun v => ?_⟩)
  rw [S' v]
  constructor
  · rintro ⟨_, h⟩ i hi
    exact (tau_iffN h0 hX.1.1 hX.2.1 _).mpr (fun c hc => h i (by omega) hi c hc)
  · intro h
    exact ⟨sp_one h0 v, fun i _ hi c hc => (tau_iffN h0 hX.1.1 hX.2.1 _).mp (h i hi) c hc⟩
end MQ
