/-- the tests of a lattice -/
def tst (X : Nat → Int) (c j : Nat) : Int := match c, j with
  | 0, 0 => X 4 * X 8 | 0, 1 => -X 3 * X 8 | 0, 2 => X 3 * X 7 - X 6 * X 4 | 1, 1 => X 0 * X 8 | 1, 2 => -X 0 * X 7 | 2, 2 => X 0 * X 4 | _, _ => 0
def tau (X : Nat → Int) (c : Nat) (v : V3) : Int := tst X c 0 * v.1 + tst X c 1 * v.2.1 + tst X c 2 * v.2.2
theorem tau0 (X : Nat → Int) (v : V3) : tau X 0 v = X 4 * X 8 * v.1 + -X 3 * X 8 * v.2.1 + (X 3 * X 7 - X 6 * X 4) * v.2.2 := rfl
theorem tau1 (X : Nat → Int) (v : V3) : tau X 1 v = 0 * v.1 + X 0 * X 8 * v.2.1 + -X 0 * X 7 * v.2.2 := rfl
theorem tau2 (X : Nat → Int) (v : V3) : tau X 2 v = 0 * v.1 + 0 * v.2.1 + X 0 * X 4 * v.2.2 := rfl
theorem mul_cancel {a b c : Int} (h : 0 < a) (e : a * b = a * c) : b = c := Int.eq_of_mul_eq_mul_left (by omega) e
theorem tau_iff {X : Nat → Int} (t : Tri X) (v : V3) : Sp X v ↔ ∀ c, c < 3 → nmR X ∣ tau X c v := by
  obtain ⟨_, _, _, p0, p4, p8⟩ := t
  have p04 : 0 < X 0 * X 4 := Int.mul_pos p0 p4
  have p08 : 0 < X 0 * X 8 := Int.mul_pos p0 p8
  have p48 : 0 < X 4 * X 8 := Int.mul_pos p4 p8
  constructor
  · rintro ⟨i, j, k, a, b, c⟩ d hd
    rcases below3 hd with rfl | rfl | rfl
    · exact ⟨i, by rw [tau0, a, b, c]; unfold nmR; grind⟩
    · exact ⟨j, by rw [tau1, b, c]; unfold nmR; grind⟩
    · exact ⟨k, by rw [tau2, c]; unfold nmR; grind⟩
  · intro h
    obtain ⟨k, ek⟩ := h 2 (by decide)
    obtain ⟨j, ej⟩ := h 1 (by decide)
    obtain ⟨i, ei⟩ := h 0 (by decide)
    rw [tau2] at ek
    rw [tau1] at ej
    rw [tau0] at ei
    unfold nmR at ek ej ei
    have c : v.2.2 = k * X 8 := mul_cancel p04 (by grind)
    have b : v.2.1 = j * X 4 + k * X 7 := mul_cancel p08 (by rw [c] at ej; grind)
    have a : v.1 = i * X 0 + j * X 3 + k * X 6 := mul_cancel p48 (by rw [b, c] at ei; grind)
    exact ⟨i, j, k, a, b, c⟩
theorem tau_iffN {n : Nat} (h0 : n = 2 ∨ n = 3) {X : Nat → Int} (t : Tri X) (r2 : R2 n X) (v : V3) : Sp X v ↔ ∀ c, c < n → nmR X ∣ tau X c v := by
  rw [tau_iff t]
  rcases h0 with rfl | rfl
  · constructor
    · intro h c hc; exact h c (by omega)
    · intro h c hc
      by_cases q : c < 2
      · exact h c q
      · obtain rfl : c = 2 := by omega
        obtain ⟨_, _, e⟩ := r2 rfl
        exact ⟨v.2.2, by rw [tau2]; unfold nmR; rw [e]; grind⟩
  · exact Iff.rfl
theorem tau_add (X : Nat → Int) (c : Nat) (x y : V3) : tau X c (vad x y) = tau X c x + tau X c y := by
  unfold tau; show _ * (x.1 + y.1) + _ * (x.2.1 + y.2.1) + _ * (x.2.2 + y.2.2) = _; grind
theorem tau_sub (X : Nat → Int) (c : Nat) (x y : V3) : tau X c (vsu x y) = tau X c x - tau X c y := by
  unfold tau; show _ * (x.1 - y.1) + _ * (x.2.1 - y.2.1) + _ * (x.2.2 - y.2.2) = _; grind
theorem tau_mul (X : Nat → Int) (c : Nat) (k : Int) (x : V3) : tau X c (vmu k x) = k * tau X c x := by
  unfold tau; show _ * (k * x.1) + _ * (k * x.2.1) + _ * (k * x.2.2) = _; grind
theorem tau_zero (X : Nat → Int) (c : Nat) : tau X c (0, 0, 0) = 0 := by unfold tau; simp
/-- numbers of which a test of the product with y is a multiple of N -/
theorem Grp.tst (X : Nat → Int) (c : Nat) (n : Nat) (T : Nat → Int) (y : V3) (N : Int) : Grp (fun v => N ∣ tau X c (muv n T v y)) := by
  refine ⟨?_, fun a b ha hb => ?_⟩
  · show N ∣ tau X c (muv n T (0, 0, 0) y)
    rw [muv_comm, muv_zero, tau_zero]; exact Int.dvd_zero _
  · show N ∣ tau X c (muv n T (vsu a b) y)
    rw [muv_comm, muv_sub, tau_sub, muv_comm n T y a, muv_comm n T y b]
    exact Int.dvd_sub ha hb
theorem Grp.and {H K : V3 → Prop} (g : Grp H) (h : Grp K) : Grp (fun v => H v ∧ K v) := ⟨⟨g.1, h.1⟩, fun x y a b => ⟨g.2 x y a.1 b.1, h.2 x y a.2 b.2⟩⟩
/-- one of two rows lessened by the other, all places cut down by W -/
theorem st_HA {H : V3 → Prop} (g : Grp H) {W q : Int} (w : ∀ z, H (vmu W z)) {a b : V3} : (H a ∧ H b) ↔ (H b ∧ H ((a.1 - q * b.1) % W, (a.2.1 - q * b.2.1) % W, (a.2.2 - q * b.2.2) % W)) := by
  have e0 := Int.mul_ediv_add_emod (a.1 - q * b.1) W
  have e1 := Int.mul_ediv_add_emod (a.2.1 - q * b.2.1) W
  have e2 := Int.mul_ediv_add_emod (a.2.2 - q * b.2.2) W
  have hw := w ((a.1 - q * b.1) / W, (a.2.1 - q * b.2.1) / W, (a.2.2 - q * b.2.2) / W)
  constructor
  · rintro ⟨h1, h2⟩
    refine ⟨h2, g.co (-q) (-1) 0 h1 h2 hw g.1 ?_ ?_ ?_⟩ <;> simp only [vmu, Int.neg_mul, Int.mul_zero] <;> omega
  · rintro ⟨h1, h2⟩
    refine ⟨g.co q 1 0 h2 h1 hw g.1 ?_ ?_ ?_, h1⟩ <;> simp only [vmu, Int.mul_zero] <;> omega
theorem st_HM {H : V3 → Prop} (g : Grp H) {W q : Int} (w : ∀ z, H (vmu W z)) {a : V3} : H (vmu q a) ↔ H ((a.1 * q) % W, (a.2.1 * q) % W, (a.2.2 * q) % W) := by
  have e0 := Int.mul_ediv_add_emod (a.1 * q) W
  have e1 := Int.mul_ediv_add_emod (a.2.1 * q) W
  have e2 := Int.mul_ediv_add_emod (a.2.2 * q) W
  have m0 := Int.mul_comm q a.1
  have m1 := Int.mul_comm q a.2.1
  have m2 := Int.mul_comm q a.2.2
  have hw := w (a.1 * q / W, a.2.1 * q / W, a.2.2 * q / W)
  constructor
  · intro h
    refine g.co (-1) 0 0 h hw g.1 g.1 ?_ ?_ ?_ <;> simp only [vmu, Int.mul_zero] <;> omega
  · intro h
    refine g.co 1 0 0 h hw g.1 g.1 ?_ ?_ ?_ <;> simp only [vmu, Int.mul_zero] <;> omega
section QU
variable {l : Launch} {D : va_G} {aI aL : ClassId} {ad : Nat → Nat} {P : sa_P} {I : sa_I} {J : sa_J}
theorem c_rest {E : sa_E} {a W z : Int} {x y : Int64} (hx : x = lI a) (hy : y = lI W) (ha : rg a) (hW0 : 0 < W) (hW : W ≤ 1000000) (hz : a % W = z) : Con E M_X6_rest yX6_rest [.long x, .long y] I J (p_l (lI z) I J) := by
  subst hx; subst hy
  refine Con.of (by decide +kernel) rfl (Nat.le_of_ble_eq_true rfl) ?_
  refine bX6_rest_0 (fun _ => bX6_rest_10 ?_) (fun c => absurd ((lI_lt (a := 0) ⟨by omega, by omega⟩ ⟨by omega, by omega⟩).mpr hW0) c)
  refine v_X6_300 dX6_rest_12 rfl ⟨rfl, rfl, Nat.le_of_ble_eq_true rfl, Nat.le_of_ble_eq_true rfl⟩ (c_floorModE (z := z) rfl rfl ha hW0 hW hz) rfl rfl (Nat.le_of_ble_eq_true rfl) (fun r I1 J1 hp => ?_)
  obtain ⟨rfl, e2, e3⟩ := hp
  obtain rfl := e2.symm
  obtain rfl := e3.symm
  exact bX6_rest_15 ⟨rfl, rfl, rfl⟩
theorem gcd_loop {E : sa_E} : ∀ (f st : Nat) (x y : Int), eu f x y → st + f ≤ 999 → 0 ≤ x → x ≤ 1000000 → 0 ≤ y → y ≤ 1000000 → P (some (.long (lI (Int.gcd x y)))) I J → Sat E M_X6_gcd P 15 [(4, .long (lI x)), (6, .long (lI y)), (8, .int (nI st))] [] I J := by
  intro f
  induction f with
  | zero =>
    intro st x y he hs h1 h2 h3 h4 kk
    have he : y = 0 := he
    subst he
    refine bX6_gcd_15 (fun c => absurd ((nJ_le (a := 1000) (by decide) (by omega)).mp c) (by omega)) (fun _ => bX6_gcd_23 (fun _ => bX6_gcd_51 ?_) (fun c => absurd rfl c))
    rw [Int.gcd_zero_right, Int.natAbs_of_nonneg h1] at kk
    exact kk
  | succ f ih =>
    intro st x y he hs h1 h2 h3 h4 kk
    refine bX6_gcd_15 (fun c => absurd ((nJ_le (a := 1000) (by decide) (by omega)).mp c) (by omega)) (fun _ => bX6_gcd_23 (fun c => ?_) (fun c => ?_))
    · have c0 := (lI_eq (a := y) ⟨by omega, by omega⟩ (b := 0) ⟨by omega, by omega⟩).mp c
      subst c0
      rw [Int.gcd_zero_right, Int.natAbs_of_nonneg h1] at kk
      exact bX6_gcd_51 kk
    · have c0 : y ≠ 0 := fun q => c (by rw [q]; rfl)
      have e2 : eu f y (x % y) := he.resolve_left c0
      have m0 := Int.emod_nonneg x c0
      have m1 := Int.emod_lt_of_pos x (show 0 < y by omega)
      have er : lI x - lI x / lI y * lI y = lI (x % y) := by
        rw [lI_rem ⟨by omega, by omega⟩ ⟨by omega, by omega⟩ (by omega), Int.tmod_eq_emod_of_nonneg h1]
      refine bX6_gcd_30 (v35 := lI (x % y)) (v45 := nI (st + 1)) c er (nI_addE st 1) (ih (st + 1) y (x % y) e2 (by omega) h3 h4 m0 (by omega) ?_)
      have eg : Int.gcd y (x % y) = Int.gcd x y := by
        have q1 := Int.gcd_add_mul_left_left y (x % y) (x / y)
        have e : x % y + y * (x / y) = x := by have := Int.mul_ediv_add_emod x y; omega
        rw [e] at q1
        rw [Int.gcd_comm y (x % y)]; exact q1.symm
      rw [eg]; exact kk
theorem c_gcd6 {E : sa_E} {a b : Int} {x y : Int64} (hx : x = lI a) (hy : y = lI b) (h1 : 0 ≤ a) (h2 : a ≤ 1000000) (h3 : 0 ≤ b) (h4 : b ≤ 1000000) : Con E M_X6_gcd yX6_gcd [.long x, .long y] I J (p_l (lI (Int.gcd a b)) I J) := by
  subst hx; subst hy
  refine Con.of (by decide +kernel) rfl (Nat.le_of_ble_eq_true rfl) ?_
  refine bX6_gcd_0 ?_
  refine v_X6_306 dX6_gcd_1 rfl ⟨rfl, rfl, Nat.le_of_ble_eq_true rfl, Nat.le_of_ble_eq_true rfl⟩ (c_abs (a := a) ⟨by omega, by omega⟩ (by omega)) rfl rfl (Nat.le_of_ble_eq_true rfl) (fun r I1 J1 hp => ?_)
  obtain ⟨rfl, e2, e3⟩ := hp
  obtain rfl := e2.symm
  obtain rfl := e3.symm
  refine bX6_gcd_4 ?_
  refine v_X6_306 dX6_gcd_7 rfl ⟨rfl, rfl, Nat.le_of_ble_eq_true rfl, Nat.le_of_ble_eq_true rfl⟩ (c_abs (a := b) ⟨by omega, by omega⟩ (by omega)) rfl rfl (Nat.le_of_ble_eq_true rfl) (fun r I1 J1 hp => ?_)
  obtain ⟨rfl, e2, e3⟩ := hp
  obtain rfl := e2.symm
  obtain rfl := e3.symm
  refine bX6_gcd_10 (v13 := nI 0) rfl ?_
  rw [Int.natAbs_of_nonneg h1, Int.natAbs_of_nonneg h3]
  exact gcd_loop 40 0 a b (eu40 h3 h4) (by decide) h1 h2 h3 h4 ⟨rfl, rfl, rfl⟩
theorem c_setTests {X : Nat → Int} {a1 q1 n1 p : Nat} (hq1 : sa_iJ (EC l D aI aL ad) a1 q1 n1) (hn1 : n1 < 2 ^ 31) (hb : p + 9 ≤ n1) (hz : q1 ≠ 19) (hX : ∀ t, t < 9 → J q1 (p + t) = lI (X t)) : Con (EC l D aI aL ad) M_X2_setTests yX2_setTests [.ref (ad 13), .ref a1, .int (nI p)] I J (fun r I1 J1 => r = none ∧ I1 = I ∧ (∀ q, q ≠ 19 → J1 q = J q) ∧ ∀ c j, c < 3 → j < 3 → J1 19 (3 * c + j) = lI (tst X c j)) := by
  refine Con.of (by decide +kernel) rfl (Nat.le_of_ble_eq_true rfl) ?_
  have x0 : J q1 p = lI (X 0) := hX 0 (by decide)
  have x3 := hX 3 (by decide)
  have x4 := hX 4 (by decide)
  have x6 := hX 6 (by decide)
  have x7 := hX 7 (by decide)
  have x8 := hX 8 (by decide)
  refine bX2_setTests_0 (j8 := p + 4) (j14 := p + 8) (j26 := p + 3) (j33 := p + 8) (j45 := p + 3) (j51 := p + 7) (j58 := p + 6) (j63 := p + 4) (j81 := p) (j87 := p + 8) (j97 := p) (j104 := p + 7) (j131 := p) (j136 := p + 4) (v17 := lI (tst X 0 0)) (v36 := lI (tst X 0 1)) (v67 := lI (tst X 0 2)) (v74 := lI (0)) (v90 := lI (tst X 1 1)) (v107 := lI (tst X 1 2)) (v115 := lI (0)) (v123 := lI (0)) (v139 := lI (tst X 2 2)) hq1 hn1 (nI_addE p 4) (by omega) (nI_addE p 8) (by omega) (nI_addE p 3) (by omega) (nI_addE p 8) (by omega) (nI_addE p 3) (by omega) (nI_addE p 7) (by omega) (nI_addE p 6) (by omega) (nI_addE p 4) (by omega) rfl (by omega) (nI_addE p 8) (by omega) rfl (by omega) (nI_addE p 7) (by omega) rfl (by omega) (nI_addE p 4) (by omega) (by rw [x4, x8, lI_mul]; rfl) (by simp only [sa_uJ_ne hz]; rw [x3, x8, lI_neg, lI_mul]; rfl) (by simp only [sa_uJ_ne hz]; rw [x3, x7, x6, x4, lI_mul, lI_mul, lI_sub]; rfl) rfl (by simp only [sa_uJ_ne hz]; rw [x0, x8, lI_mul]; rfl) (by simp only [sa_uJ_ne hz]; rw [x0, x7, lI_neg, lI_mul]; rfl) rfl rfl (by simp only [sa_uJ_ne hz]; rw [x0, x4, lI_mul]; rfl) ⟨rfl, rfl, fun q hq => by simp only [sa_uJ_ne hq], fun c j hc hj => ?_⟩
  rcases below3 hc with rfl | rfl | rfl <;> rcases below3 hj with rfl | rfl | rfl <;> simp [sa_uJ_if, tst]
end QU
