section TU
variable {l : Launch} {D : va_G} {aI aL : ClassId} {ad : Nat → Nat} {P : sa_P} {I : sa_I} {J : sa_J}
theorem c_turns2 {X : Nat → Int} {a1 q1 n1 : Nat} (hn : I 0 1 = nI 2) (r2 : R2 2 X) (hq1 : sa_iJ (ER l D aI aL ad) a1 q1 n1) (hn1 : n1 < 2 ^ 31) (hb : 9 ≤ n1) (hz : q1 ≠ 17) (hX : ∀ t, t < 6 → J q1 t = lI (X t)) : Con (ER l D aI aL ad) M_X7_turns yX7_turns [.ref (ad 0), .ref a1] I J (fun r I1 J1 => r = none ∧ I1 = I ∧ (∀ q, q ≠ 17 → J1 q = J q) ∧ ∀ j c, j < 2 → c < 2 → J1 17 (3 * j + c) = lI (tst X c j)) := by
  refine Con.of (by decide +kernel) rfl (Nat.le_of_ble_eq_true rfl) ?_
  have x0 := hX 0 (by decide)
  have x3 := hX 3 (by decide)
  have x4 := hX 4 (by decide)
  refine bX7_turns_0 (v1 := nI 0) hq1 hn1 rfl ?_
  refine bX7_turns_2 hq1 hn1 (fun c => absurd c (by decide)) (fun _ => ?_)
  refine bX7_turns_8 (j12 := 0) (v14 := lI 0) (v15 := nI 1) hq1 hn1 rfl (by decide) rfl rfl ?_
  refine bX7_turns_2 hq1 hn1 (fun c => absurd c (by decide)) (fun _ => ?_)
  refine bX7_turns_8 (j12 := 1) (v14 := lI 0) (v15 := nI 2) hq1 hn1 rfl (by decide) rfl rfl ?_
  refine bX7_turns_2 hq1 hn1 (fun c => absurd c (by decide)) (fun _ => ?_)
  refine bX7_turns_8 (j12 := 2) (v14 := lI 0) (v15 := nI 3) hq1 hn1 rfl (by decide) rfl rfl ?_
  refine bX7_turns_2 hq1 hn1 (fun c => absurd c (by decide)) (fun _ => ?_)
  refine bX7_turns_8 (j12 := 3) (v14 := lI 0) (v15 := nI 4) hq1 hn1 rfl (by decide) rfl rfl ?_
  refine bX7_turns_2 hq1 hn1 (fun c => absurd c (by decide)) (fun _ => ?_)
  refine bX7_turns_8 (j12 := 4) (v14 := lI 0) (v15 := nI 5) hq1 hn1 rfl (by decide) rfl rfl ?_
  refine bX7_turns_2 hq1 hn1 (fun c => absurd c (by decide)) (fun _ => ?_)
  refine bX7_turns_8 (j12 := 5) (v14 := lI 0) (v15 := nI 6) hq1 hn1 rfl (by decide) rfl rfl ?_
  refine bX7_turns_2 hq1 hn1 (fun c => absurd c (by decide)) (fun _ => ?_)
  refine bX7_turns_8 (j12 := 6) (v14 := lI 0) (v15 := nI 7) hq1 hn1 rfl (by decide) rfl rfl ?_
  refine bX7_turns_2 hq1 hn1 (fun c => absurd c (by decide)) (fun _ => ?_)
  refine bX7_turns_8 (j12 := 7) (v14 := lI 0) (v15 := nI 8) hq1 hn1 rfl (by decide) rfl rfl ?_
  refine bX7_turns_2 hq1 hn1 (fun c => absurd c (by decide)) (fun _ => ?_)
  refine bX7_turns_8 (j12 := 8) (v14 := lI 0) (v15 := nI 9) hq1 hn1 rfl (by decide) rfl rfl ?_
  refine bX7_turns_2 hq1 hn1 (fun _ => ?_) (fun c => absurd (by decide) c)
  obtain ⟨e6, e7, e8⟩ := r2 rfl
  refine bX7_turns_21 hq1 hn1 (fun c => absurd hn c) (fun _ => ?_)
  refine bX7_turns_29 (v37 := lI (X 4)) (v47 := lI (-X 3)) (v56 := lI (X 0)) hq1 hn1 (by omega) (by omega) (by omega) (by simp only [sa_uJ_ne hz]; exact x4) (by simp only [sa_uJ_ne hz]; rw [x3, lI_neg]) (by simp only [sa_uJ_ne hz]; exact x0) ⟨rfl, rfl, fun q hq => by simp only [sa_uJ_ne hq], fun j c hj hc => ?_⟩
  have hj' : j = 0 ∨ j = 1 := by omega
  have hc' : c = 0 ∨ c = 1 := by omega
  rcases hj' with rfl | rfl <;> rcases hc' with rfl | rfl <;> simp [sa_uJ_if, tst, e8]
theorem c_turns3 {X : Nat → Int} {a1 q1 n1 : Nat} (hn : I 0 1 = nI 3) (r2 : R2 3 X) (hq1 : sa_iJ (ER l D aI aL ad) a1 q1 n1) (hn1 : n1 < 2 ^ 31) (hb : 9 ≤ n1) (hz : q1 ≠ 17) (hX : ∀ t, t < 9 → J q1 t = lI (X t)) : Con (ER l D aI aL ad) M_X7_turns yX7_turns [.ref (ad 0), .ref a1] I J (fun r I1 J1 => r = none ∧ I1 = I ∧ (∀ q, q ≠ 17 → J1 q = J q) ∧ ∀ j c, j < 3 → c < 3 → J1 17 (3 * j + c) = lI (tst X c j)) := by
  refine Con.of (by decide +kernel) rfl (Nat.le_of_ble_eq_true rfl) ?_
  have x0 := hX 0 (by decide)
  have x3 := hX 3 (by decide)
  have x4 := hX 4 (by decide)
  have x6 := hX 6 (by decide)
  have x7 := hX 7 (by decide)
  have x8 := hX 8 (by decide)
  refine bX7_turns_0 (v1 := nI 0) hq1 hn1 rfl ?_
  refine bX7_turns_2 hq1 hn1 (fun c => absurd c (by decide)) (fun _ => ?_)
  refine bX7_turns_8 (j12 := 0) (v14 := lI 0) (v15 := nI 1) hq1 hn1 rfl (by decide) rfl rfl ?_
  refine bX7_turns_2 hq1 hn1 (fun c => absurd c (by decide)) (fun _ => ?_)
  refine bX7_turns_8 (j12 := 1) (v14 := lI 0) (v15 := nI 2) hq1 hn1 rfl (by decide) rfl rfl ?_
  refine bX7_turns_2 hq1 hn1 (fun c => absurd c (by decide)) (fun _ => ?_)
  refine bX7_turns_8 (j12 := 2) (v14 := lI 0) (v15 := nI 3) hq1 hn1 rfl (by decide) rfl rfl ?_
  refine bX7_turns_2 hq1 hn1 (fun c => absurd c (by decide)) (fun _ => ?_)
  refine bX7_turns_8 (j12 := 3) (v14 := lI 0) (v15 := nI 4) hq1 hn1 rfl (by decide) rfl rfl ?_
  refine bX7_turns_2 hq1 hn1 (fun c => absurd c (by decide)) (fun _ => ?_)
  refine bX7_turns_8 (j12 := 4) (v14 := lI 0) (v15 := nI 5) hq1 hn1 rfl (by decide) rfl rfl ?_
  refine bX7_turns_2 hq1 hn1 (fun c => absurd c (by decide)) (fun _ => ?_)
  refine bX7_turns_8 (j12 := 5) (v14 := lI 0) (v15 := nI 6) hq1 hn1 rfl (by decide) rfl rfl ?_
  refine bX7_turns_2 hq1 hn1 (fun c => absurd c (by decide)) (fun _ => ?_)
  refine bX7_turns_8 (j12 := 6) (v14 := lI 0) (v15 := nI 7) hq1 hn1 rfl (by decide) rfl rfl ?_
  refine bX7_turns_2 hq1 hn1 (fun c => absurd c (by decide)) (fun _ => ?_)
  refine bX7_turns_8 (j12 := 7) (v14 := lI 0) (v15 := nI 8) hq1 hn1 rfl (by decide) rfl rfl ?_
  refine bX7_turns_2 hq1 hn1 (fun c => absurd c (by decide)) (fun _ => ?_)
  refine bX7_turns_8 (j12 := 8) (v14 := lI 0) (v15 := nI 9) hq1 hn1 rfl (by decide) rfl rfl ?_
  refine bX7_turns_2 hq1 hn1 (fun _ => ?_) (fun c => absurd (by decide) c)
  refine bX7_turns_21 hq1 hn1 (fun _ => ?_) (fun c => absurd c (by rw [hn]; decide))
  refine bX7_turns_58 (v71 := lI (X 4 * X 8)) (v86 := lI (-X 3 * X 8)) (v100 := lI (X 0 * X 8)) (v124 := lI (X 3 * X 7 - X 4 * X 6)) (v140 := lI (-X 0 * X 7)) (v154 := lI (X 0 * X 4)) hq1 hn1 (by omega) (by omega) (by omega) (by omega) (by omega) (by omega) (by omega) (by omega) (by omega) (by omega) (by omega) (by omega) (by omega) (by omega) (by simp only [sa_uJ_ne hz]; rw [x4, x8, lI_mul]) (by simp only [sa_uJ_ne hz]; rw [x3, x8, lI_neg, lI_mul]) (by simp only [sa_uJ_ne hz]; rw [x0, x8, lI_mul]) (by simp only [sa_uJ_ne hz]; rw [x3, x7, x4, x6, lI_mul, lI_mul, lI_sub]) (by simp only [sa_uJ_ne hz]; rw [x0, x7, lI_neg, lI_mul]) (by simp only [sa_uJ_ne hz]; rw [x0, x4, lI_mul]) ⟨rfl, rfl, fun q hq => by simp only [sa_uJ_ne hq], fun j c hj hc => ?_⟩
  have e64 : X 4 * X 6 = X 6 * X 4 := Int.mul_comm _ _
  rcases below3 hj with rfl | rfl | rfl <;> rcases below3 hc with rfl | rfl | rfl <;> simp [sa_uJ_if, tst, e64]
theorem c_turnsN {n : Nat} (h0 : n = 2 ∨ n = 3) {X : Nat → Int} {a1 q1 n1 : Nat} (hn : I 0 1 = nI n) (r2 : R2 n X) (hq1 : sa_iJ (ER l D aI aL ad) a1 q1 n1) (hn1 : n1 < 2 ^ 31) (hb : 9 ≤ n1) (hz : q1 ≠ 17) (hX : ∀ t, t < 3 * n → J q1 t = lI (X t)) : Con (ER l D aI aL ad) M_X7_turns yX7_turns [.ref (ad 0), .ref a1] I J (fun r I1 J1 => r = none ∧ I1 = I ∧ (∀ q, q ≠ 17 → J1 q = J q) ∧ ∀ j c, j < n → c < n → J1 17 (3 * j + c) = lI (tst X c j)) := by
  rcases h0 with rfl | rfl
  · exact c_turns2 hn r2 hq1 hn1 hb hz hX
  · exact c_turns3 hn r2 hq1 hn1 hb hz hX
/-- a product's place as a sum over the table -/
def tsum (n : Nat) (T : Nat → Int) (y : V3) (a j : Nat) : Nat → Int
  | 0 => 0
  | b + 1 => tsum n T y a j b + vk y b * T (9 * a + 3 * b + j)
theorem tsum_muv {n : Nat} {T : Nat → Int} (rr : Rg n T) (y : V3) {a j : Nat} (ha : a < n) (hj : j < n) : tsum n T y a j n = vk (muv n T (eV a) y) j := by
  obtain ⟨y0, y1, y2⟩ := y
  rcases rr with ⟨rfl, p, q, rfl, _, _⟩ | ⟨rfl, s, rfl, _, _⟩
  · have ha' : a = 0 ∨ a = 1 := by omega
    have hj' : j = 0 ∨ j = 1 := by omega
    rcases ha' with rfl | rfl <;> rcases hj' with rfl | rfl <;> simp only [tsum, vk, muv2, eV, T2] <;> grind
  · rcases below3 ha with rfl | rfl | rfl <;> rcases below3 hj with rfl | rfl | rfl <;> simp only [tsum, vk, muv3, mu3, eV, T3] <;> grind
theorem ak_sum {n : Nat} {T Y : Nat → Int} {i a c j : Nat} {m v : Int} (h3 : n ≤ 3) (hI : I 0 1 = nI n) (hi : i < n) (ha : a < n) (hj : j < n) (hT : ∀ i j c, i < n → j < n → c < 3 → J 2 (9 * i + 3 * j + c) = lI (T (9 * i + 3 * j + c))) (hY : ∀ t, t < 3 * n → J 16 t = lI (Y t)) (kk : Sat (ER l D aI aL ad) M_X7_asked P 70 [(0, .ref (ad 0)), (1, .int (nI i)), (2, .int (nI a)), (3, .int (nI c)), (4, .long (lI m)), (6, .long (lI v)), (8, .int (nI j)), (9, .long (lI (tsum n T (rowV Y i) a j n)))] [] I J) : ∀ (d b0 : Nat), b0 + d = n → Sat (ER l D aI aL ad) M_X7_asked P 21 [(0, .ref (ad 0)), (1, .int (nI i)), (2, .int (nI a)), (3, .int (nI c)), (4, .long (lI m)), (6, .long (lI v)), (8, .int (nI j)), (9, .long (lI (tsum n T (rowV Y i) a j b0))), (11, .int (nI b0))] [] I J := by
  intro d
  induction d with
  | zero =>
    intro b0 hd
    obtain rfl : b0 = n := by omega
    refine bX7_asked_21 (fun _ => kk) (fun c => absurd ?_ c)
    rw [hI, nJ_le (by omega) (by omega)]; omega
  | succ d ih =>
    intro b0 hd
    refine bX7_asked_21 (fun c => absurd c (by rw [hI, nJ_le (by omega) (by omega)]; omega)) (fun _ => ?_)
    refine bX7_asked_30 (j41 := 3 * i + b0) (j58 := 9 * a + 3 * b0 + j) (v62 := lI (tsum n T (rowV Y i) a j (b0 + 1))) (v64 := nI (b0 + 1)) (by rw [show (3 : Int32) * nI i = nI (3 * i) from nI_mulE 3 i]; exact nI_addE _ _) (by omega) (by rw [show (9 : Int32) * nI a = nI (9 * a) from nI_mulE 9 a, show (3 : Int32) * nI b0 = nI (3 * b0) from nI_mulE 3 b0, nI_addE, nI_addE]) (by omega) ?_ (nI_addE b0 1) (ih (b0 + 1) (by omega))
    rw [hY _ (by omega), hT a b0 j ha (by omega) (by omega), lI_mul, lI_add, ← rowV_vk Y i (show b0 < 3 by omega)]; rfl
theorem ak_step {n : Nat} {T X Y : Nat → Int} {i a c j : Nat} {m v v' : Int} (rr : Rg n T) (hI : I 0 1 = nI n) (hi : i < n) (ha : a < n) (hc : c < n) (hj : j < n) (hm0 : 0 < m) (hm : m ≤ 1000000) (hv : 0 ≤ v ∧ v < m) (bY : bdV (rowV Y i) 1000000) (bt : rg (tst X c j)) (hT : ∀ i j c, i < n → j < n → c < 3 → J 2 (9 * i + 3 * j + c) = lI (T (9 * i + 3 * j + c))) (hY : ∀ t, t < 3 * n → J 16 t = lI (Y t)) (h17 : ∀ j c, j < n → c < n → J 17 (3 * j + c) = lI (tst X c j)) (hv' : (v + (vk (muv n T (eV a) (rowV Y i)) j % m) * (tst X c j % m)) % m = v') (kk : Sat (ER l D aI aL ad) M_X7_asked P 6 [(0, .ref (ad 0)), (1, .int (nI i)), (2, .int (nI a)), (3, .int (nI c)), (4, .long (lI m)), (6, .long (lI v')), (8, .int (nI (j + 1)))] [] I J) : Sat (ER l D aI aL ad) M_X7_asked P 6 [(0, .ref (ad 0)), (1, .int (nI i)), (2, .int (nI a)), (3, .int (nI c)), (4, .long (lI m)), (6, .long (lI v)), (8, .int (nI j))] [] I J := by
  have h0 := rr.n
  refine bX7_asked_6 (fun c => absurd c (by rw [hI, nJ_le (by omega) (by omega)]; omega)) (fun _ => ?_)
  refine bX7_asked_15 (v16 := lI 0) (v19 := nI 0) rfl rfl ?_
  refine ak_sum (by omega) hI hi ha hj hT hY ?_ n 0 (by omega)
  rw [tsum_muv rr _ ha hj]
  have bz := vk_bd (muv_bd rr (eV_bd a) bY) j
  generalize vk (muv n T (eV a) (rowV Y i)) j = z at *
  have mz := mod_bd (a := z) hm0
  have mt := mod_bd (a := tst X c j) hm0
  have hb := qc_bd (q := z % m) (c := tst X c j % m) mz mt hm
  refine bX7_asked_70 ?_
  refine v_X7_155 dX7_asked_76 rfl ⟨rfl, rfl, Nat.le_of_ble_eq_true rfl, Nat.le_of_ble_eq_true rfl⟩ (c_floorModE (a := z) (W := m) (z := z % m) rfl rfl (bd_rg bz (by decide)) hm0 hm rfl) rfl rfl (Nat.le_of_ble_eq_true rfl) (fun r I1 J1 hp => ?_)
  obtain ⟨rfl, e2, e3⟩ := hp
  obtain rfl := e2.symm
  obtain rfl := e3.symm
  refine bX7_asked_79 (j88 := 3 * j + c) (by rw [show (3 : Int32) * nI j = nI (3 * j) from nI_mulE 3 j]; exact nI_addE _ _) (by omega) ?_
  refine v_X7_155 dX7_asked_92 rfl ⟨rfl, rfl, Nat.le_of_ble_eq_true rfl, Nat.le_of_ble_eq_true rfl⟩ (c_floorModE (a := tst X c j) (W := m) (z := tst X c j % m) (h17 j c hj hc) rfl bt hm0 hm rfl) rfl rfl (Nat.le_of_ble_eq_true rfl) (fun r I1 J1 hp => ?_)
  obtain ⟨rfl, e2, e3⟩ := hp
  obtain rfl := e2.symm
  obtain rfl := e3.symm
  refine bX7_asked_95 ?_
  rw [lI_mul, lI_add]
  refine v_X7_155 dX7_asked_99 rfl ⟨rfl, rfl, Nat.le_of_ble_eq_true rfl, Nat.le_of_ble_eq_true rfl⟩ (c_floorModE (W := m) (z := v') rfl rfl ⟨by omega, by omega⟩ hm0 hm hv') rfl rfl (Nat.le_of_ble_eq_true rfl) (fun r I1 J1 hp => ?_)
  obtain ⟨rfl, e2, e3⟩ := hp
  obtain rfl := e2.symm
  obtain rfl := e3.symm
  exact bX7_asked_102 (v104 := nI (j + 1)) (nI_addE j 1) kk
theorem mod_step {m v s a t : Int} (hm : 0 < m) (hv : v = s % m) : (v + (a % m) * (t % m)) % m = (s + a * t) % m := by
  rw [hv, Int.add_emod (s % m), Int.emod_emod, Int.add_emod s (a * t), Int.mul_emod (a % m), Int.emod_emod, Int.emod_emod, ← Int.mul_emod]
theorem c_asked {n : Nat} {T X Y : Nat → Int} {i a c : Nat} {m : Int} (rr : Rg n T) (hI : I 0 1 = nI n) (hi : i < n) (ha : a < n) (hc : c < n) (hm0 : 0 < m) (hm : m ≤ 1000000) (r2 : R2 n X) (bY : bdV (rowV Y i) 1000000) (bt : ∀ c j, rg (tst X c j)) (hT : ∀ i j c, i < n → j < n → c < 3 → J 2 (9 * i + 3 * j + c) = lI (T (9 * i + 3 * j + c))) (hY : ∀ t, t < 3 * n → J 16 t = lI (Y t)) (h17 : ∀ j c, j < n → c < n → J 17 (3 * j + c) = lI (tst X c j)) : Con (ER l D aI aL ad) M_X7_asked yX7_asked [.ref (ad 0), .int (nI i), .int (nI a), .int (nI c), .long (lI m)] I J (p_l (lI (tau X c (muv n T (eV a) (rowV Y i)) % m)) I J) := by
  refine Con.of (by decide +kernel) rfl (Nat.le_of_ble_eq_true rfl) ?_
  have h0 := rr.n
  refine bX7_asked_0 (v1 := lI 0) (v4 := nI 0) rfl rfl ?_
  generalize hz : muv n T (eV a) (rowV Y i) = z
  have mb : ∀ s : Int, 0 ≤ s % m ∧ s % m < m := fun s => ⟨(mod_bd hm0).1, Int.emod_lt_of_pos s hm0⟩
  have h00 : (0 : Int) = 0 % m := (Int.zero_emod m).symm
  refine ak_step (v := 0) (v' := (z.1 * tst X c 0) % m) rr hI hi ha hc (by omega) hm0 hm ⟨by omega, by omega⟩ bY (bt c 0) hT hY h17 (by rw [hz, mod_step (s := 0) hm0 h00, Int.zero_add]; rfl) ?_
  refine ak_step (j := 1) (v' := (z.1 * tst X c 0 + z.2.1 * tst X c 1) % m) rr hI hi ha hc (by omega) hm0 hm (mb _) bY (bt c 1) hT hY h17 (by rw [hz, mod_step hm0 rfl]; rfl) ?_
  rcases h0 with h | h
  · have e := tst_third r2 h hc
    subst h
    refine bX7_asked_6 (fun _ => bX7_asked_110 ⟨?_, rfl, rfl⟩) (fun c => absurd (by rw [hI]; decide) c)
    have : tau X c z = z.1 * tst X c 0 + z.2.1 * tst X c 1 := by unfold tau; rw [e]; grind
    rw [this]
  · subst h
    refine ak_step (j := 2) (v' := (z.1 * tst X c 0 + z.2.1 * tst X c 1 + z.2.2 * tst X c 2) % m) rr hI hi ha hc (by omega) hm0 hm (mb _) bY (bt c 2) hT hY h17 (by rw [hz, mod_step hm0 rfl]; rfl) ?_
    refine bX7_asked_6 (fun _ => bX7_asked_110 ⟨?_, rfl, rfl⟩) (fun c => absurd (by rw [hI]; decide) c)
    have : tau X c z = z.1 * tst X c 0 + z.2.1 * tst X c 1 + z.2.2 * tst X c 2 := by unfold tau; grind
    rw [this]
end TU
