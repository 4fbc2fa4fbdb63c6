/-- the least divisor from 2 on -/
def ldv (m p : Int) : Prop := 2 ≤ p ∧ p ∣ m ∧ ∀ q, 2 ≤ q → q < p → ¬ q ∣ m
theorem ldv_self {m a : Int} (hm : 2 ≤ m) (h : ∀ q, 2 ≤ q → q ≤ a → ¬ q ∣ m) (ha : 1 ≤ a) (hs : m < (a + 1) * (a + 1)) : ldv m m := by
  refine ⟨hm, ⟨1, by omega⟩, fun q q2 qm hq => ?_⟩
  obtain ⟨e, he⟩ := hq
  have e0 : 0 < e := by
    rcases Int.lt_or_le 0 e with c | c
    · exact c
    · have := Int.mul_nonneg (show 0 ≤ q by omega) (show 0 ≤ -e by omega); rw [Int.mul_neg] at this; omega
  have e2 : 2 ≤ e := by
    rcases Int.lt_or_le e 2 with c | c
    · have : e = 1 := by omega
      rw [this] at he; omega
    · exact c
  rcases Int.lt_or_le a q with c | c
  · rcases Int.lt_or_le a e with c2 | c2
    · have : (a + 1) * (a + 1) ≤ q * e := Int.mul_le_mul (by omega) (by omega) (by omega) (by omega)
      omega
    · exact h e e2 c2 ⟨q, by rw [he, Int.mul_comm]⟩
  · exact h q q2 c ⟨e, he⟩
theorem ldv_ipr {m p : Int} (h : ldv m p) : ipr p = true := ipr_of h.1 (fun d d2 dp hd => h.2.2 d d2 dp (Int.dvd_trans hd h.2.1))
theorem cop_dvd {p a b : Int} (h : p ∣ a * b) (hg : Int.gcd p a = 1) : p ∣ b := by
  have h1 : p.natAbs ∣ a.natAbs * b.natAbs := by rw [← Int.natAbs_mul]; exact Int.natAbs_dvd_natAbs.mpr h
  have hc : Nat.Coprime p.natAbs a.natAbs := hg
  exact Int.natAbs_dvd_natAbs.mp (hc.dvd_of_dvd_mul_left h1)
/-- the least divisor of a power of a prime is the prime -/
theorem ldv_prime {m p r : Int} (h : ldv m p) (hr : r ≤ 1000000) (hi : ipr r = true) (hm : m = r ∨ m = r * r ∨ m = r * r * r) : p = r := by
  obtain ⟨r2, hd⟩ := ipr_dvd hr hi
  have hpr : p ∣ r := by
    by_cases c : Int.gcd p r = 1
    · rcases hm with e | e | e
      · rw [← e]; exact h.2.1
      · have := h.2.1; rw [e] at this; exact cop_dvd this c
      · have := h.2.1; rw [e, Int.mul_assoc] at this; exact cop_dvd (cop_dvd this c) c
    · have g1 : ((Int.gcd p r : Nat) : Int) ∣ r := Int.gcd_dvd_right ..
      have g0 : ((Int.gcd p r : Nat) : Int) ∣ p := Int.gcd_dvd_left ..
      have gp : 0 < Int.gcd p r := Int.gcd_pos_of_ne_zero_left _ (by have := h.1; omega)
      rcases hd _ (by omega) g1 with q | q
      · omega
      · rw [q] at g0
        have rm : r ∣ m := by
          rcases hm with e | e | e
          · exact ⟨1, by omega⟩
          · exact ⟨r, e⟩
          · exact ⟨r * r, by rw [e, Int.mul_assoc]⟩
        have : ¬ r < p := fun c2 => h.2.2 r r2 c2 rm
        have : r ≤ p := Int.le_of_dvd (by have := h.1; omega) g0
        have : p = r := by omega
        rw [this]; exact ⟨1, by omega⟩
  rcases hd p (by have := h.1; omega) hpr with q | q
  · have := h.1; omega
  · exact q
theorem pid_eq {n : Nat} {T R : Nat → Int} (rr : Rg n T) (h : IdR n T R) {p : Int} (hl : ldv (nmR R) p) : (nmR R = p → PId n T R) ∧ (¬ nmR R = p → ¬ R 0 = p → ¬ PId n T R) ∧ (¬ nmR R = p → R 0 = p → (PId n T R ↔ ¬ KW n T R) ∧ (nmR R = p * p ∨ nmR R = p * p * p) ∧ p ≤ 1000 ∧ (R 8 = 1 ∨ R 8 = R 0)) := by
  have bR := h.1.bd h.2.2.2
  have b0 := bR 0 (by decide)
  have w := idl_WL rr h.2.1 h.2.2.1
  have p0 := h.1.1.2.2.2
  refine ⟨fun e => ?_, fun e c hh => ?_, fun e c => ?_⟩
  · have hi : ipr (R 0) = true := by
      have d0 : R 0 ∣ nmR R := ⟨R 4 * R 8, by unfold nmR; rw [Int.mul_assoc]⟩
      have q : R 0 = 1 ∨ R 0 = p := by
        rcases Int.lt_or_le (R 0) 2 with c | c
        · left; omega
        · right
          have : ¬ R 0 < p := fun z => hl.2.2 _ c z d0
          have : R 0 ≤ nmR R := fst_nm h.1
          omega
      rcases q with q | q
      · exfalso
        obtain ⟨i, j, _, e2⟩ := w.w1 h.1.1
        obtain ⟨i', j', k', _, _, e3⟩ := w.2.2
        rw [q] at e2
        dsimp only at e3
        rw [q] at e3
        have a4 : R 4 = 1 := (eq_of_mul (a := 1) (b := R 4) (i := j) (j := R 4) (by decide) p0.2.1 e2 (by omega)).1.symm
        have a8 : R 8 = 1 := (eq_of_mul (a := 1) (b := R 8) (i := k') (j := R 8) (by decide) p0.2.2 e3 (by omega)).1.symm
        have : nmR R = 1 := by unfold nmR; rw [q, a4, a8]; rfl
        have := hl.1
        omega
      · rw [q]; exact ldv_ipr hl
    refine ⟨hi, Or.inl ?_⟩
    have d0 : R 0 ∣ nmR R := ⟨R 4 * R 8, by unfold nmR; rw [Int.mul_assoc]⟩
    have r2 := (ipr_dvd b0.2 hi).1
    have : ¬ R 0 < p := fun z => hl.2.2 _ r2 z d0
    have : R 0 ≤ nmR R := fst_nm h.1
    omega
  · have hm : nmR R = R 0 ∨ nmR R = R 0 * R 0 ∨ nmR R = R 0 * R 0 * R 0 := by
      rcases nm_cases rr h hh.1 with q | q | ⟨q, _⟩
      · exact Or.inl q
      · exact Or.inr (Or.inl q)
      · exact Or.inr (Or.inr q)
    exact c (ldv_prime hl b0.2 hh.1 hm).symm
  · have hi : ipr (R 0) = true := by rw [c]; exact ldv_ipr hl
    have r2 := (ipr_dvd b0.2 hi).1
    have hn := h.2.2.2
    refine ⟨⟨fun q => q.2.resolve_left (by rw [c]; exact e), fun q => ⟨hi, Or.inr q⟩⟩, ?_⟩
    have s8 : R 8 = 1 ∨ R 8 = R 0 := (shp rr h hi).2.imp id (fun q => q.1)
    rcases nm_cases rr h hi with q | q | ⟨q, _, q97, _⟩
    · exact absurd q (by rw [c]; exact e)
    · rw [c] at q
      exact ⟨Or.inl q, sq_leK (by omega) (by omega), s8⟩
    · rw [c] at q
      exact ⟨Or.inr q, by omega, s8⟩
section PIC
variable {l : Launch} {D : va_G} {aI aL : ClassId} {ad : Nat → Nat} {P : sa_P} {I : sa_I} {J : sa_J}
theorem c_loadR {n : Nat} {R : Nat → Int} (h0 : n = 2 ∨ n = 3) (bX : ∀ t, t < 9 → 0 ≤ R t ∧ R t ≤ 1000000) {x : Nat} (hx : x < 80) (hR : ∀ t, t < 3 * n → I 4 (9 * x + t) = iI (R t)) : Con (ER l D aI aL ad) M_X7_load yX7_load [.ref (ad 0), .int (nI x), .ref (ad 15)] I J (fun r I1 J1 => r = none ∧ I1 = I ∧ (∀ t, t < 3 * n → J1 15 t = lI (R t)) ∧ ∀ q, q ≠ 15 → J1 q = J q) := by
  refine Con.mono ?_ (c_load15 hx)
  rintro r I1 J1 ⟨rfl, rfl, w0, w1, w2, w3, w4, w5, w6, w7, w8, ga⟩
  refine ⟨rfl, rfl, fun t ht => ?_, ga⟩
  have q9 : ∀ t, t < 9 → t < 3 * n → (I1 4 (9 * x + t)).toInt64 = lI (R t) := by
    intro t h9 ht
    have hb := bX t h9
    rw [hR t ht]
    exact iI_lI ⟨by omega, by omega⟩
  have t9 : t < 9 := by omega
  rcases below9 t9 with rfl | rfl | rfl | rfl | rfl | rfl | rfl | rfl | rfl
  · rw [w0]; exact q9 0 (by decide) ht
  · rw [w1]; exact q9 1 (by decide) ht
  · rw [w2]; exact q9 2 (by decide) ht
  · rw [w3]; exact q9 3 (by decide) ht
  · rw [w4]; exact q9 4 (by decide) ht
  · rw [w5]; exact q9 5 (by decide) ht
  · rw [w6]; exact q9 6 (by decide) ht
  · rw [w7]; exact q9 7 (by decide) ht
  · rw [w8]; exact q9 8 (by decide) ht
def piR (n : Nat) (T R : Nat → Int) (I : sa_I) (J : sa_J) : sa_P := fun r I1 J1 => I1 = I ∧ (∀ q, q ≠ 15 → J1 q = J q) ∧ bP (PId n T R) r
theorem pi_72 {n : Nat} {T R : Nat → Int} {J0 : sa_J} (rr : Rg n T) (h : IdR n T R) (hI : I 0 1 = nI n) (hT : ∀ i j c, i < n → j < n → c < 3 → J 2 (9 * i + 3 * j + c) = lI (T (9 * i + 3 * j + c))) {x : Nat} (hx : x < 80) (hR : ∀ t, t < 3 * n → I 4 (9 * x + t) = iI (R t)) (h15 : J 15 0 = lI (R 0)) (hJ : ∀ q, q ≠ 15 → J q = J0 q) {p : Nat} (hl : ldv (nmR R) p) : Sat (ER l D aI aL ad) M_X7_isPrimeIdeal (piR n T R I J0) 72 [(0, .ref (ad 0)), (1, .int (nI x)), (2, .long (lI (nmR R))), (4, .int (nI p))] [] I J := by
  have bR := h.1.bd h.2.2.2
  have b0 := bR 0 (by decide)
  have hn := h.2.2.2
  have n0 := nmR_bd bR
  obtain ⟨A, B, Cc⟩ := pid_eq rr h hl
  have pm : (p : Int) ≤ nmR R := Int.le_of_dvd (by have := fst_nm h.1; have := h.1.1.2.2.2.1; omega) hl.2.1
  have gp : rg (p : Int) := ⟨by omega, by omega⟩
  have gn : rg (nmR R) := ⟨by omega, by omega⟩
  have g0 : rg (R 0) := ⟨by omega, by omega⟩
  have eL : (nI p).toInt64 = lI p := nI_L (by omega)
  refine bX7_isPrimeIdeal_72 (fun c => ?_) (fun c => ?_)
  rotate_left
  · rw [eL, lI_eq gn gp] at c
    exact bX7_isPrimeIdeal_80 ⟨rfl, hJ, Or.inl ⟨A c, rfl⟩⟩
  rw [eL, lI_eq gn gp] at c
  refine bX7_isPrimeIdeal_82 (fun c2 => ?_) (fun c2 => ?_)
  · rw [h15, eL, lI_eq g0 gp] at c2
    exact bX7_isPrimeIdeal_137 (bX7_isPrimeIdeal_138 rfl ⟨rfl, hJ, Or.inr ⟨B c c2, rfl⟩⟩)
  rw [h15, eL, lI_eq g0 gp] at c2
  obtain ⟨k1, k2, k3, k4⟩ := Cc c c2
  have last : Sat (ER l D aI aL ad) M_X7_isPrimeIdeal (piR n T R I J0) 123 [(0, .ref (ad 0)), (1, .int (nI x)), (4, .int (nI p))] [] I J := by
    refine bX7_isPrimeIdeal_123 ?_
    have hl1 := hl.1
    refine v_X7_301 dX7_isPrimeIdeal_127 rfl ⟨rfl, rfl, Nat.le_of_ble_eq_true rfl, Nat.le_of_ble_eq_true rfl⟩ (c_hasWay rr h (p := p) (by omega) (by omega) c2 k4 hI hT hx hR) rfl rfl (Nat.le_of_ble_eq_true rfl) (fun r I1 J1 hq => ?_)
    obtain ⟨e1, e2, hb⟩ := hq
    obtain rfl := e1.symm
    obtain rfl := e2.symm
    rcases hb with ⟨b, rfl⟩ | ⟨b, rfl⟩
    · exact bX7_isPrimeIdeal_130 (fun _ => bX7_isPrimeIdeal_137 (bX7_isPrimeIdeal_138 rfl ⟨rfl, hJ, Or.inr ⟨fun q => k1.mp q b, rfl⟩⟩)) (fun c => absurd c (by decide))
    · exact bX7_isPrimeIdeal_130 (fun c => absurd rfl c) (fun _ => bX7_isPrimeIdeal_133 (bX7_isPrimeIdeal_138 rfl ⟨rfl, hJ, Or.inl ⟨k1.mpr b, rfl⟩⟩))
  have bp : bd (p : Int) 1000 := ⟨by omega, by omega⟩
  have gpp : rg ((p : Int) * p) := bd_rg (bd_mul bp bp) (by decide)
  have gppp : rg ((p : Int) * p * p) := bd_rg (bd_mul (bd_mul bp bp) bp) (by decide)
  refine bX7_isPrimeIdeal_95 (fun _ => last) (fun c3 => ?_)
  rw [eL, lI_mul, lI_eq gn gpp] at c3
  refine bX7_isPrimeIdeal_107 (fun c4 => ?_) (fun _ => last)
  rw [eL, lI_mul, lI_mul, lI_eq gn gppp] at c4
  rcases k2 with q | q
  · exact absurd q c3
  · exact absurd q c4
theorem pi_32 {n : Nat} {T R : Nat → Int} {J0 : sa_J} (rr : Rg n T) (h : IdR n T R) (hI : I 0 1 = nI n) (hT : ∀ i j c, i < n → j < n → c < 3 → J 2 (9 * i + 3 * j + c) = lI (T (9 * i + 3 * j + c))) {x : Nat} (hx : x < 80) (hR : ∀ t, t < 3 * n → I 4 (9 * x + t) = iI (R t)) (h15 : J 15 0 = lI (R 0)) (hJ : ∀ q, q ≠ 15 → J q = J0 q) (hm : 2 ≤ nmR R) : ∀ (d p : Nat), nmR R = p + d → 2 ≤ p → (∀ q : Int, 2 ≤ q → q < p → ¬ q ∣ nmR R) → Sat (ER l D aI aL ad) M_X7_isPrimeIdeal (piR n T R I J0) 32 [(0, .ref (ad 0)), (1, .int (nI x)), (2, .long (lI (nmR R))), (4, .int (nI p))] [] I J := by
  have hn := h.2.2.2
  have gn : rg (nmR R) := ⟨by omega, by omega⟩
  have stop : ∀ p : Nat, (p : Int) ≤ nmR R → 2 ≤ p → (∀ q : Int, 2 ≤ q → q < p → ¬ q ∣ nmR R) → (¬ (p : Int) ∣ nmR R → Sat (ER l D aI aL ad) M_X7_isPrimeIdeal (piR n T R I J0) 42 [(0, .ref (ad 0)), (1, .int (nI x)), (2, .long (lI (nmR R))), (4, .int (nI p))] [] I J) → Sat (ER l D aI aL ad) M_X7_isPrimeIdeal (piR n T R I J0) 32 [(0, .ref (ad 0)), (1, .int (nI x)), (2, .long (lI (nmR R))), (4, .int (nI p))] [] I J := by
    intro p pm p2 hq k
    have gp : rg (p : Int) := ⟨by omega, by omega⟩
    have eL : (nI p).toInt64 = lI p := nI_L (by omega)
    refine bX7_isPrimeIdeal_32 (by rw [eL]; exact lI_ne0 gp (by omega)) (fun c => ?_) (fun c => ?_)
    · rw [eL, rm_dvd gn gp (by omega)] at c
      obtain ⟨a, ha⟩ := c
      exact pi_72 rr h hI hT hx hR h15 hJ ⟨by omega, ⟨a, by rw [ha, Int.mul_comm]⟩, hq⟩
    · rw [eL, rm_dvd gn gp (by omega)] at c
      exact k (fun ⟨a, ha⟩ => c ⟨a, by rw [ha, Int.mul_comm]⟩)
  intro d
  induction d with
  | zero =>
    intro p e p2 hq
    exact stop p (by omega) p2 hq (fun c => absurd ⟨1, by omega⟩ c)
  | succ d ih =>
    intro p e p2 hq
    refine stop p (by omega) p2 hq (fun c => ?_)
    have hq' : ∀ q : Int, 2 ≤ q → q ≤ p → ¬ q ∣ nmR R := by
      intro q q2 qp
      by_cases c2 : q = p
      · rw [c2]; exact c
      · exact hq q q2 (by omega)
    have e1 : nI p + 1 = nI (p + 1) := nI_addE p 1
    have eL : (nI p + 1).toInt64 = lI ((p : Int) + 1) := by rw [e1, nI_L (by omega)]; rfl
    have bp : bd ((p : Int) + 1) 1000001 := ⟨by omega, by omega⟩
    have gpp : rg (((p : Int) + 1) * ((p : Int) + 1)) := bd_rg (bd_mul bp bp) (by decide)
    refine bX7_isPrimeIdeal_42 (fun c2 => ?_) (fun c2 => ?_)
    · refine bX7_isPrimeIdeal_63 (bX7_isPrimeIdeal_67 ?_)
      rw [e1]
      exact ih (p + 1) (by omega) (by omega) (fun q q2 qp => hq' q q2 (by omega))
    · rw [eL, lI_mul, lI_le gpp gn] at c2
      refine bX7_isPrimeIdeal_58 (bX7_isPrimeIdeal_67 ?_)
      rw [lI_iI, show iI (nmR R) = nI (nmR R).toNat from iI_nat (by omega)]
      have hls := ldv_self hm hq' (by omega) (by omega)
      have et : ((nmR R).toNat : Int) = nmR R := by omega
      exact stop (nmR R).toNat (by omega) (by omega) (by rw [et]; exact hls.2.2) (fun c3 => absurd (by rw [et]; exact hls.2.1) c3)
theorem c_isPrimeIdeal7 {n : Nat} {T R : Nat → Int} (rr : Rg n T) (h : IdR n T R) (hI : I 0 1 = nI n) (hT : ∀ i j c, i < n → j < n → c < 3 → J 2 (9 * i + 3 * j + c) = lI (T (9 * i + 3 * j + c))) {x : Nat} (hx : x < 80) (hR : ∀ t, t < 3 * n → I 4 (9 * x + t) = iI (R t)) : Con (ER l D aI aL ad) M_X7_isPrimeIdeal yX7_isPrimeIdeal [.ref (ad 0), .int (nI x)] I J (piR n T R I J) := by
  refine Con.of (by decide +kernel) rfl (Nat.le_of_ble_eq_true rfl) ?_
  have h0 := rr.n
  have bR := h.1.bd h.2.2.2
  have n0 := nmR_bd bR
  have gn : rg (nmR R) := ⟨by omega, by omega⟩
  refine bX7_isPrimeIdeal_0 ?_
  refine v_X7_285 dX7_isPrimeIdeal_6 rfl ⟨rfl, rfl, Nat.le_of_ble_eq_true rfl, Nat.le_of_ble_eq_true rfl⟩ (c_loadR h0 bR hx hR) rfl rfl (Nat.le_of_ble_eq_true rfl) (fun r I1 J1 hq => ?_)
  obtain ⟨rfl, e1, w, f⟩ := hq
  obtain rfl := e1.symm
  refine bX7_isPrimeIdeal_9 ?_
  rw [hI]
  refine v_X7_267 dX7_isPrimeIdeal_17 rfl ⟨rfl, rfl, Nat.le_of_ble_eq_true rfl, Nat.le_of_ble_eq_true rfl⟩ (c_normOfAll h0 h.2.1 aJ_R15 (by decide) (by decide) w) rfl rfl (Nat.le_of_ble_eq_true rfl) (fun r I2 J2 hq => ?_)
  obtain ⟨rfl, e1, e2⟩ := hq
  obtain rfl := e1.symm
  obtain rfl := e2.symm
  have f1 := fst_nm h.1
  have p0 := h.1.1.2.2.2.1
  refine bX7_isPrimeIdeal_20 (fun c => ?_) (fun c => bX7_isPrimeIdeal_27 ⟨rfl, f, Or.inr ⟨fun q => ?_, rfl⟩⟩)
  · have c1 : ¬ nmR R = 1 := fun q => c (by rw [q]; rfl)
    refine bX7_isPrimeIdeal_29 (v30 := nI 2) rfl ?_
    exact pi_32 rr h hI (fun i j c a b d => by rw [f 2 (by decide)]; exact hT i j c a b d) hx hR (w 0 (by omega)) f (by omega) (nmR R - 2).toNat 2 (by omega) (by decide) (fun q a b => absurd a (by omega))
  · have c1 : nmR R = 1 := (lI_eq gn (b := 1) ⟨by omega, by omega⟩).mp c
    have := (ipr_dvd (bR 0 (by decide)).2 q.1).1
    omega
/-- idealOf of both -/
def ioC (n ni : Nat) (T Rv : Nat → Int) (x w : Int) (I : sa_I) (J : sa_J) : sa_P := fun r I1 J1 => (¬ (0 ≤ x ∧ x < ni) ∧ r = some (.int (-1)) ∧ I1 = rf I 1 ∧ J1 = J) ∨ ((0 ≤ x ∧ x < ni) ∧ ((w = 0 ∧ r = some (.int (iI (nmR (fun t => Rv (9 * x.toNat + t))))) ∧ I1 = I ∧ J1 = J) ∨ (w = 1 ∧ r = some (.int (iI (Rv (9 * x.toNat)))) ∧ I1 = I ∧ J1 = J) ∨ (w = 2 ∧ piC n T (fun t => Rv (9 * x.toNat + t)) I J r I1 J1) ∨ (¬ (0 ≤ w ∧ w < 3) ∧ r = some (.int (-2)) ∧ I1 = rf I 2 ∧ J1 = J)))
def ioR (n ni : Nat) (T Rv : Nat → Int) (x w : Int) (I : sa_I) (J : sa_J) : sa_P := fun r I1 J1 => (¬ (0 ≤ x ∧ x < ni) ∧ r = some (.int (-1)) ∧ I1 = rf I 1 ∧ J1 = J) ∨ ((0 ≤ x ∧ x < ni) ∧ (∀ q, q ≠ 15 → J1 q = J q) ∧ ((w = 0 ∧ r = some (.int (iI (nmR (fun t => Rv (9 * x.toNat + t))))) ∧ I1 = I) ∨ (w = 1 ∧ r = some (.int (iI (Rv (9 * x.toNat)))) ∧ I1 = I) ∨ (w = 2 ∧ bP (PId n T (fun t => Rv (9 * x.toNat + t))) r ∧ I1 = I) ∨ (¬ (0 ≤ w ∧ w < 3) ∧ r = some (.int (-2)) ∧ I1 = rf I 2)))
theorem c_idealOf6 {n ni : Nat} {T Rv : Nat → Int} (rr : Rg n T) (hm : MxT n T) {x w : Int} (hx : rgi x) (hw : rgi w) (hs : prC n T I J) (hni : I 0 9 = nI ni) (h80 : ni ≤ 80) (HI : ∀ i, i < ni → IdR n T (fun t => Rv (9 * i + t)) ∧ ∀ t, t < 9 → J 3 (9 * i + t) = lI (Rv (9 * i + t))) : Con (EC l D aI aL ad) M_X6_idealOf yX6_idealOf [.ref (ad 0), .int (iI x), .int (iI w)] I J (ioC n ni T Rv x w I J) := by
  refine Con.of (by decide +kernel) rfl (Nat.le_of_ble_eq_true rfl) ?_
  have h0 := rr.n
  have hI := hs.1
  refine bX6_idealOf_0 (fun _ => bX6_idealOf_17 ?_) (fun c => absurd c (by rw [hI, nI_lit 0, nJ_eq (by omega) (by omega)]; omega))
  refine v_X6_172 dX6_idealOf_19 rfl ⟨rfl, rfl, Nat.le_of_ble_eq_true rfl, Nat.le_of_ble_eq_true rfl⟩ (c_isIdeal6) rfl rfl (Nat.le_of_ble_eq_true rfl) (fun r I1 J1 hq => ?_)
  obtain ⟨rfl, e1, e2⟩ := hq
  obtain rfl := e1.symm
  obtain rfl := e2.symm
  rw [hni, inB_I hx (m := ni) (by omega)]
  by_cases cx : 0 ≤ x ∧ x < ni
  rotate_left
  · rw [if_neg cx]
    refine bX6_idealOf_22 (fun c => absurd rfl c) (fun _ => bX6_idealOf_25 ?_)
    refine v_X6_59 dX6_idealOf_27 rfl ⟨rfl, rfl, Nat.le_of_ble_eq_true rfl, Nat.le_of_ble_eq_true rfl⟩ (c_refused 1 (by decide) (x := -1) rfl) rfl rfl (Nat.le_of_ble_eq_true rfl) (fun r I1 J1 hq => ?_)
    obtain ⟨rfl, rfl, rfl⟩ := hq
    exact bX6_idealOf_30 (Or.inl ⟨cx, rfl, rfl, rfl⟩)
  rw [if_pos cx]
  refine bX6_idealOf_22 (fun _ => ?_) (fun c => absurd c (by decide))
  obtain ⟨idX, memX⟩ := HI x.toNat (by omega)
  have ex : (9 : Int32) * iI x = nI (9 * x.toNat) := by rw [iI_nat cx.1, nI_lit 9, nI_mulE]
  refine bX6_idealOf_31 (fun c => bX6_idealOf_60 ?_) (fun c => ?_) (fun c => bX6_idealOf_84 ?_) (fun c => bX6_idealOf_108 ?_)
  · have c0 : w = 0 := (iI_eq hw (b := 0) ⟨by omega, by omega⟩).mp c
    rw [ex]
    refine v_X6_179 dX6_idealOf_68 rfl ⟨rfl, rfl, Nat.le_of_ble_eq_true rfl, Nat.le_of_ble_eq_true rfl⟩ (c_normOfRows6 (p := 9 * x.toNat) aJ_C3 (by decide) (by omega) memX) rfl rfl (Nat.le_of_ble_eq_true rfl) (fun r I1 J1 hq => ?_)
    obtain ⟨rfl, e1, e2⟩ := hq
    obtain rfl := e1.symm
    obtain rfl := e2.symm
    refine bX6_idealOf_71 (Or.inr ⟨cx, Or.inl ⟨c0, ?_, rfl, rfl⟩⟩)
    rw [lI_iI]
  · have c1 : w = 1 := (iI_eq hw (b := 1) ⟨by omega, by omega⟩).mp c
    refine bX6_idealOf_73 (j80 := 9 * x.toNat) ex (by omega) (Or.inr ⟨cx, Or.inr (Or.inl ⟨c1, ?_, rfl, rfl⟩)⟩)
    have := memX 0 (by decide)
    rw [Nat.add_zero] at this
    rw [this, lI_iI]
  · have c2 : w = 2 := (iI_eq hw (b := 2) ⟨by omega, by omega⟩).mp c
    rw [ex]
    refine v_X6_192 dX6_idealOf_96 rfl ⟨rfl, rfl, Nat.le_of_ble_eq_true rfl, Nat.le_of_ble_eq_true rfl⟩ (c_isPrimeIdeal6 rr hm idX hs (x := x.toNat) (by omega) memX) rfl rfl (Nat.le_of_ble_eq_true rfl) (fun r I1 J1 hq => ?_)
    obtain ⟨hb, rest⟩ := hq
    rcases hb with ⟨b, rfl⟩ | ⟨b, rfl⟩
    · exact bX6_idealOf_99 (fun c => absurd c (by decide)) (fun _ => bX6_idealOf_102 (bX6_idealOf_107 (Or.inr ⟨cx, Or.inr (Or.inr (Or.inl ⟨c2, Or.inl ⟨b, rfl⟩, rest⟩))⟩)))
    · exact bX6_idealOf_99 (fun _ => bX6_idealOf_106 (bX6_idealOf_107 (Or.inr ⟨cx, Or.inr (Or.inr (Or.inl ⟨c2, Or.inr ⟨b, rfl⟩, rest⟩))⟩))) (fun c => absurd rfl c)
  · rw [iI_toInt hw] at c
    refine v_X6_59 dX6_idealOf_111 rfl ⟨rfl, rfl, Nat.le_of_ble_eq_true rfl, Nat.le_of_ble_eq_true rfl⟩ (c_refused 2 (by decide) (x := -2) rfl) rfl rfl (Nat.le_of_ble_eq_true rfl) (fun r I1 J1 hq => ?_)
    obtain ⟨rfl, rfl, rfl⟩ := hq
    exact bX6_idealOf_114 (Or.inr ⟨cx, Or.inr (Or.inr (Or.inr ⟨by omega, rfl, rfl, rfl⟩))⟩)
theorem c_idealOf7 {n ni : Nat} {T Rv : Nat → Int} (rr : Rg n T) {x w : Int} (hx : rgi x) (hw : rgi w) (hs : prD n T I J) (hni : I 0 14 = nI ni) (h80 : ni ≤ 80) (HI : ∀ i, i < ni → IdR n T (fun t => Rv (9 * i + t)) ∧ ∀ t, t < 3 * n → I 4 (9 * i + t) = iI (Rv (9 * i + t))) : Con (ER l D aI aL ad) M_X7_idealOf yX7_idealOf [.ref (ad 0), .int (iI x), .int (iI w)] I J (ioR n ni T Rv x w I J) := by
  refine Con.of (by decide +kernel) rfl (Nat.le_of_ble_eq_true rfl) ?_
  have h0 := rr.n
  have hI := hs.1
  refine bX7_idealOf_0 ?_
  refine v_X7_203 dX7_idealOf_1 rfl ⟨rfl, rfl, Nat.le_of_ble_eq_true rfl, Nat.le_of_ble_eq_true rfl⟩ (c_isField) rfl rfl (Nat.le_of_ble_eq_true rfl) (fun r I1 J1 hq => ?_)
  obtain ⟨rfl, e1, e2⟩ := hq
  obtain rfl := e1.symm
  obtain rfl := e2.symm
  rw [fld_pos h0 hI]
  refine bX7_idealOf_4 (fun _ => bX7_idealOf_14 ?_) (fun c => absurd c (by decide))
  refine v_X7_282 dX7_idealOf_16 rfl ⟨rfl, rfl, Nat.le_of_ble_eq_true rfl, Nat.le_of_ble_eq_true rfl⟩ (c_isIdeal7) rfl rfl (Nat.le_of_ble_eq_true rfl) (fun r I1 J1 hq => ?_)
  obtain ⟨rfl, e1, e2⟩ := hq
  obtain rfl := e1.symm
  obtain rfl := e2.symm
  rw [hni, inB_I hx (m := ni) (by omega)]
  by_cases cx : 0 ≤ x ∧ x < ni
  rotate_left
  · rw [if_neg cx]
    refine bX7_idealOf_19 (fun c => absurd rfl c) (fun _ => bX7_idealOf_22 ?_)
    refine v_X7_84 dX7_idealOf_24 rfl ⟨rfl, rfl, Nat.le_of_ble_eq_true rfl, Nat.le_of_ble_eq_true rfl⟩ (c_refuse 1 (by decide) (x := -1) rfl) rfl rfl (Nat.le_of_ble_eq_true rfl) (fun r I1 J1 hq => ?_)
    obtain ⟨rfl, rfl, rfl⟩ := hq
    exact bX7_idealOf_27 (Or.inl ⟨cx, rfl, rfl, rfl⟩)
  rw [if_pos cx]
  refine bX7_idealOf_19 (fun _ => bX7_idealOf_28 ?_) (fun c => absurd c (by decide))
  obtain ⟨idX, memX⟩ := HI x.toNat (by omega)
  have bR := idX.1.bd idX.2.2.2
  rw [iI_nat cx.1]
  refine v_X7_285 dX7_idealOf_34 rfl ⟨rfl, rfl, Nat.le_of_ble_eq_true rfl, Nat.le_of_ble_eq_true rfl⟩ (c_loadR h0 bR (x := x.toNat) (by omega) memX) rfl rfl (Nat.le_of_ble_eq_true rfl) (fun r I1 J1 hq => ?_)
  obtain ⟨rfl, e1, ww, f⟩ := hq
  obtain rfl := e1.symm
  refine bX7_idealOf_37 (fun c => bX7_idealOf_64 ?_) (fun c => ?_) (fun c => bX7_idealOf_87 ?_) (fun c => bX7_idealOf_101 ?_)
  · have c0 : w = 0 := (iI_eq hw (b := 0) ⟨by omega, by omega⟩).mp c
    rw [hI]
    refine v_X7_267 dX7_idealOf_72 rfl ⟨rfl, rfl, Nat.le_of_ble_eq_true rfl, Nat.le_of_ble_eq_true rfl⟩ (c_normOfAll h0 idX.2.1 aJ_R15 (by decide) (by decide) ww) rfl rfl (Nat.le_of_ble_eq_true rfl) (fun r I2 J2 hq => ?_)
    obtain ⟨rfl, e1, e2⟩ := hq
    obtain rfl := e1.symm
    obtain rfl := e2.symm
    refine bX7_idealOf_75 (Or.inr ⟨cx, f, Or.inl ⟨c0, ?_, rfl⟩⟩)
    rw [lI_iI]
  · have c1 : w = 1 := (iI_eq hw (b := 1) ⟨by omega, by omega⟩).mp c
    refine bX7_idealOf_77 (j84 := 9 * x.toNat) (by rw [nI_lit 9, nI_mulE]) (by omega) (Or.inr ⟨cx, f, Or.inr (Or.inl ⟨c1, ?_, rfl⟩)⟩)
    have := memX 0 (by omega)
    rw [Nat.add_zero] at this
    rw [this]
  · have c2 : w = 2 := (iI_eq hw (b := 2) ⟨by omega, by omega⟩).mp c
    refine v_X7_304 dX7_idealOf_89 rfl ⟨rfl, rfl, Nat.le_of_ble_eq_true rfl, Nat.le_of_ble_eq_true rfl⟩ (c_isPrimeIdeal7 rr idX hI (fun i j c a b d => by rw [f 2 (by decide)]; exact hs.2.1 i j c a b d) (x := x.toNat) (by omega) memX) rfl rfl (Nat.le_of_ble_eq_true rfl) (fun r I2 J2 hq => ?_)
    obtain ⟨e1, f2, hb⟩ := hq
    obtain rfl := e1.symm
    have f3 : ∀ q, q ≠ 15 → J2 q = J q := fun q hq => (f2 q hq).trans (f q hq)
    rcases hb with ⟨b, rfl⟩ | ⟨b, rfl⟩
    · exact bX7_idealOf_92 (fun c => absurd c (by decide)) (fun _ => bX7_idealOf_95 (bX7_idealOf_100 (Or.inr ⟨cx, f3, Or.inr (Or.inr (Or.inl ⟨c2, Or.inl ⟨b, rfl⟩, rfl⟩))⟩)))
    · exact bX7_idealOf_92 (fun _ => bX7_idealOf_99 (bX7_idealOf_100 (Or.inr ⟨cx, f3, Or.inr (Or.inr (Or.inl ⟨c2, Or.inr ⟨b, rfl⟩, rfl⟩))⟩))) (fun c => absurd rfl c)
  · rw [iI_toInt hw] at c
    refine v_X7_84 dX7_idealOf_104 rfl ⟨rfl, rfl, Nat.le_of_ble_eq_true rfl, Nat.le_of_ble_eq_true rfl⟩ (c_refuse 2 (by decide) (x := -2) rfl) rfl rfl (Nat.le_of_ble_eq_true rfl) (fun r I2 J2 hq => ?_)
    obtain ⟨rfl, rfl, rfl⟩ := hq
    exact bX7_idealOf_107 (Or.inr ⟨cx, f, Or.inr (Or.inr (Or.inr ⟨by omega, rfl, rfl⟩))⟩)
end PIC
section PIE
variable {l0 : Launch} {D : va_G} {aI aL : ClassId} {ad ad' : Nat → Nat} {I I' : sa_I} {J J' : sa_J} {N : sa_I → sa_J → sa_I → sa_J → Prop} {a1 a2 a3 : Int32} {n ni : Nat} {T Rv : Nat → Int}
theorem sr15 {J1 : sa_J} (f : ∀ q, q ≠ 15 → J1 q = J q) : SR J J1 := ⟨fun q hq => f q (by omega), fun t _ => by rw [f 0 (by decide)]⟩
theorem st_idealOf (rr : Rg n T) (hm : MxT n T) (hc : prC n T I J) (hd : prD n T I' J') (HI : IdS n ni T Rv I J I') (hN : Npi n ni T N I J I' J') : la_Step l0 D aI aL ad ad' N 14 a1 a2 a3 I J I' J' := by
  obtain ⟨x, hx, rfl⟩ := iI_of a1
  obtain ⟨w, hw, rfl⟩ := iI_of a2
  refine ⟨_, _, c_idealOf6 rr hm hx hw hc HI.2.1 HI.1 HI.c, c_idealOf7 rr hx hw hd HI.2.2.1 HI.1 HI.r, fun r1 I1 J1 r2 I2 J2 P Q => ?_⟩
  have hN0 := hN _ _ _ _ spF.rfl' hc.2.2.2.2 knW.rfl' hd.2.2
  rcases P with ⟨a, rfl, rfl, rfl⟩ | ⟨a, P⟩
  · rcases Q with ⟨b, rfl, rfl, rfl⟩ | ⟨b, _⟩
    · exact ⟨⟨_, rfl, rfl⟩, hN0.2.1 1 _ _ _ _ SCI.rfl' SC.rfl' SRI.rfl' SR.rfl'⟩
    · exact absurd b a
  · rcases Q with ⟨b, _⟩ | ⟨b, f, Q⟩
    · exact absurd a b
    · rcases P with ⟨c, rfl, rfl, rfl⟩ | ⟨c, rfl, rfl, rfl⟩ | ⟨c, hb, Ja, h1, h2, h3⟩ | ⟨c, rfl, rfl, rfl⟩
      · rcases Q with ⟨c', rfl, rfl⟩ | ⟨c', _⟩ | ⟨c', _⟩ | ⟨c', _⟩
        · exact ⟨⟨_, rfl, rfl⟩, hN0.1 _ _ _ _ SCI.rfl' SC.rfl' SRI.rfl' (sr15 f)⟩
        · omega
        · omega
        · omega
      · rcases Q with ⟨c', _⟩ | ⟨c', rfl, rfl⟩ | ⟨c', _⟩ | ⟨c', _⟩
        · omega
        · exact ⟨⟨_, rfl, rfl⟩, hN0.1 _ _ _ _ SCI.rfl' SC.rfl' SRI.rfl' (sr15 f)⟩
        · omega
        · omega
      · rcases Q with ⟨c', _⟩ | ⟨c', _⟩ | ⟨c', hb', rfl⟩ | ⟨c', _⟩
        · omega
        · omega
        · have hNN := hN _ _ _ _ h1 h2 knW.rfl' hd.2.2
          have nx := hNN.1 _ _ _ _ SCI.rfl' h3 SRI.rfl' (sr15 f)
          rcases hb with ⟨b1, rfl⟩ | ⟨b1, rfl⟩
          · rcases hb' with ⟨_, rfl⟩ | ⟨b2, _⟩
            · exact ⟨⟨_, rfl, rfl⟩, nx⟩
            · exact absurd b1 b2
          · rcases hb' with ⟨b2, _⟩ | ⟨_, rfl⟩
            · exact absurd b2 b1
            · exact ⟨⟨_, rfl, rfl⟩, nx⟩
        · omega
      · rcases Q with ⟨c', _⟩ | ⟨c', _⟩ | ⟨c', _⟩ | ⟨c', rfl, rfl⟩
        · omega
        · omega
        · omega
        · exact ⟨⟨_, rfl, rfl⟩, hN0.2.1 2 _ _ _ _ SCI.rfl' SC.rfl' SRI.rfl' (sr15 f)⟩
end PIE
