theorem md_bdZ {p : Nat} (x : Int) (h : 2 ≤ p) (h2 : p ≤ 1000) : bd (x % p) 1000 := by
  have a := Int.emod_nonneg x (show (p : Int) ≠ 0 by omega)
  have b := Int.emod_lt_of_pos x (show (0 : Int) < p by omega)
  exact ⟨by omega, by omega⟩
section PIA
variable {l : Launch} {D : va_G} {aI aL : ClassId} {ad : Nat → Nat} {P : sa_P} {I : sa_I} {J : sa_J}
theorem iwz_one {n : Nat} {T : Nat → Int} (rr : Rg n T) {p : Nat} (hp1 : 2 ≤ p) (hp2 : p ≤ 1000) {a b : Int} (ba : bd a 1000) (bb : bd b 1000) (hI : I 0 1 = nI n) (hT : ∀ i j c, i < n → j < n → c < 3 → J 2 (9 * i + 3 * j + c) = lI (T (9 * i + 3 * j + c))) {i j : Nat} (hi : i = 1 ∨ i = 2) (hj : j = 1 ∨ j = 2) (hi2 : i < n) (hj2 : j < n) (kt : (p : Int) ∣ sw n T a b i j → Sat (ER l D aI aL ad) M_X7_isWay P 169 [(0, .ref (ad 0)), (1, .long (lI a)), (3, .long (lI b)), (5, .long (lI p)), (8, .int (nI i)), (9, .int (nI j))] [.int 1] I J) (kf : ¬ (p : Int) ∣ sw n T a b i j → Sat (ER l D aI aL ad) M_X7_isWay P 169 [(0, .ref (ad 0)), (1, .long (lI a)), (3, .long (lI b)), (5, .long (lI p)), (8, .int (nI i)), (9, .int (nI j))] [.int 0] I J) : Sat (ER l D aI aL ad) M_X7_isWay P 38 [(0, .ref (ad 0)), (1, .long (lI a)), (3, .long (lI b)), (5, .long (lI p)), (8, .int (nI i)), (9, .int (nI j))] [] I J := by
  have h0 := rr.n
  have s49 : ∀ {s : Int}, s = xw a b i → Sat (ER l D aI aL ad) M_X7_isWay P 49 [(0, .ref (ad 0)), (1, .long (lI a)), (3, .long (lI b)), (5, .long (lI p)), (8, .int (nI i)), (9, .int (nI j))] [.long (lI s)] I J := by
    intro s hs
    have s62 : ∀ {r : Int}, r = xw a b j → Sat (ER l D aI aL ad) M_X7_isWay P 62 [(0, .ref (ad 0)), (1, .long (lI a)), (3, .long (lI b)), (5, .long (lI p)), (8, .int (nI i)), (9, .int (nI j)), (10, .long (lI s))] [.long (lI r)] I J := by
      intro r hr
      have ej : ((9 : Int32) * nI i) + ((3 : Int32) * nI j) = nI (9 * i + 3 * j) := by rw [nI_lit 9, nI_lit 3, nI_mulE, nI_mulE, nI_addE]
      have g : ∀ t, bd (T t % (p : Int)) 1000 := fun t => md_bdZ _ hp1 hp2
      have bs : bd s 1000 := by rw [hs]; unfold xw; by_cases c : i = 1 <;> simp only [c, if_true, if_false] <;> assumption
      have br : bd r 1000 := by rw [hr]; unfold xw; by_cases c : j = 1 <;> simp only [c, if_true, if_false] <;> assumption
      have last : ∀ {w : Int}, w = (if n = 2 then 0 else T (9 * i + 3 * j + 2) % p * b) → Sat (ER l D aI aL ad) M_X7_isWay P 145 [(0, .ref (ad 0)), (1, .long (lI a)), (3, .long (lI b)), (5, .long (lI p)), (8, .int (nI i)), (9, .int (nI j)), (10, .long (lI s)), (12, .long (lI r))] [.long (lI w), .long (lI (T (9 * i + 3 * j) % p + T (9 * i + 3 * j + 1) % p * a))] I J := by
        intro w hw
        have bw : bd w 1000000 := by
          rw [hw]; by_cases c : n = 2 <;> simp only [c, if_true, if_false]
          · exact ⟨by decide, by decide⟩
          · exact bd_mul (g _) bb
        have ez : lI (T (9 * i + 3 * j) % p + T (9 * i + 3 * j + 1) % p * a + w) - lI s * lI r = lI (swR n T p a b i j) := by
          rw [lI_mul, lI_sub, hw, hs, hr]; rfl
        have bz : bd (swR n T p a b i j) 10000000 := by
          unfold swR; rw [← hs, ← hr, ← hw]
          exact bd_mono (bd_sub (bd_add (bd_add (g _) (bd_mul (g _) ba)) bw) (bd_mul bs br)) (by decide)
        have gp : rg (p : Int) := ⟨by omega, by omega⟩
        have key : (p : Int) ∣ sw n T a b i j ↔ ∃ k, swR n T p a b i j = k * (p : Int) := by
          rw [← sw_R]
          exact ⟨fun ⟨k, h⟩ => ⟨k, by rw [h, Int.mul_comm]⟩, fun ⟨k, h⟩ => ⟨k, by rw [h, Int.mul_comm]⟩⟩
        refine bX7_isWay_145 (v146 := lI (T (9 * i + 3 * j) % p + T (9 * i + 3 * j + 1) % p * a + w)) (lI_ne0 gp (by omega)) (lI_add _ _) (fun c => ?_) (fun c => ?_)
        · rw [ez, rm_dvd (bd_rg bz (by decide)) gp (by omega)] at c
          exact bX7_isWay_168 (kf (fun h => c (key.mp h)))
        · rw [ez, rm_dvd (bd_rg bz (by decide)) gp (by omega)] at c
          exact bX7_isWay_164 (kt (key.mpr c))
      refine bX7_isWay_62 (j77 := 9 * i + 3 * j) ej (by omega) ?_
      refine v_X7_155 dX7_isWay_81 rfl ⟨rfl, rfl, Nat.le_of_ble_eq_true rfl, Nat.le_of_ble_eq_true rfl⟩ (c_floorModE (a := T (9 * i + 3 * j)) (W := p) (z := T (9 * i + 3 * j) % p) (hT i j 0 hi2 hj2 (by decide)) rfl (bd_rg (rr.tb _) (by decide)) (by omega) (by omega) rfl) rfl rfl (Nat.le_of_ble_eq_true rfl) (fun r I1 J1 hq => ?_)
      obtain ⟨rfl, q2, q3⟩ := hq
      obtain rfl := q2.symm
      obtain rfl := q3.symm
      refine bX7_isWay_84 (j99 := 9 * i + 3 * j + 1) (by rw [ej]; exact nI_addE _ 1) (by omega) ?_
      refine v_X7_155 dX7_isWay_103 rfl ⟨rfl, rfl, Nat.le_of_ble_eq_true rfl, Nat.le_of_ble_eq_true rfl⟩ (c_floorModE (a := T (9 * i + 3 * j + 1)) (W := p) (z := T (9 * i + 3 * j + 1) % p) (hT i j 1 hi2 hj2 (by decide)) rfl (bd_rg (rr.tb _) (by decide)) (by omega) (by omega) rfl) rfl rfl (Nat.le_of_ble_eq_true rfl) (fun r I1 J1 hq => ?_)
      obtain ⟨rfl, q2, q3⟩ := hq
      obtain rfl := q2.symm
      obtain rfl := q3.symm
      refine bX7_isWay_106 (fun c => ?_) (fun c => ?_)
      · have hn : n = 2 := h0.resolve_right (fun h => c (by rw [hI, h]; rfl))
        rw [lI_mul, lI_add]
        exact bX7_isWay_144 (last (w := 0) (by rw [if_pos hn]))
      · have hn : ¬ n = 2 := fun h => by rw [hI, h] at c; exact absurd c (by decide)
        rw [lI_mul, lI_add]
        refine bX7_isWay_117 (j132 := 9 * i + 3 * j + 2) (by rw [ej]; exact nI_addE _ 2) (by omega) ?_
        refine v_X7_155 dX7_isWay_136 rfl ⟨rfl, rfl, Nat.le_of_ble_eq_true rfl, Nat.le_of_ble_eq_true rfl⟩ (c_floorModE (a := T (9 * i + 3 * j + 2)) (W := p) (z := T (9 * i + 3 * j + 2) % p) (hT i j 2 hi2 hj2 (by decide)) rfl (bd_rg (rr.tb _) (by decide)) (by omega) (by omega) rfl) rfl rfl (Nat.le_of_ble_eq_true rfl) (fun r I1 J1 hq => ?_)
        obtain ⟨rfl, q2, q3⟩ := hq
        obtain rfl := q2.symm
        obtain rfl := q3.symm
        refine bX7_isWay_139 ?_
        rw [lI_mul]
        exact last (by rw [if_neg hn])
    rcases hj with rfl | rfl
    · exact bX7_isWay_49 (fun c => absurd rfl c) (fun _ => bX7_isWay_57 (s62 rfl))
    · exact bX7_isWay_49 (fun _ => bX7_isWay_61 (s62 rfl)) (fun c => absurd c (by decide))
  rcases hi with rfl | rfl
  · exact bX7_isWay_38 (fun c => absurd rfl c) (fun _ => bX7_isWay_44 (s49 rfl))
  · exact bX7_isWay_38 (fun _ => bX7_isWay_48 (s49 rfl)) (fun c => absurd c (by decide))
theorem c_isWayZ {n : Nat} {T : Nat → Int} (rr : Rg n T) {p : Nat} (hp1 : 2 ≤ p) (hp2 : p ≤ 1000) {a b : Int} (ba : bd a 1000) (bb : bd b 1000) (hI : I 0 1 = nI n) (hT : ∀ i j c, i < n → j < n → c < 3 → J 2 (9 * i + 3 * j + c) = lI (T (9 * i + 3 * j + c))) : Con (ER l D aI aL ad) M_X7_isWay yX7_isWay [.ref (ad 0), .long (lI a), .long (lI b), .long (lI p)] I J (fun r I1 J1 => I1 = I ∧ J1 = J ∧ bP (wy n T p a b) r) := by
  refine Con.of (by decide +kernel) rfl (Nat.le_of_ble_eq_true rfl) ?_
  have no : ¬ wy n T p a b → ∀ {i : Nat} {j : Nat}, Sat (ER l D aI aL ad) M_X7_isWay (fun r I1 J1 => I1 = I ∧ J1 = J ∧ bP (wy n T p a b) r) 169 [(0, .ref (ad 0)), (1, .long (lI a)), (3, .long (lI b)), (5, .long (lI p)), (8, .int (nI i)), (9, .int (nI j))] [.int 0] I J := by
    intro h i j
    refine bX7_isWay_169 (v171 := nI (j + 1)) (nI_addE j 1) ?_
    have q177 : Sat (ER l D aI aL ad) M_X7_isWay (fun r I1 J1 => I1 = I ∧ J1 = J ∧ bP (wy n T p a b) r) 177 [(0, .ref (ad 0)), (1, .long (lI a)), (3, .long (lI b)), (5, .long (lI p)), (7, .int 0), (8, .int (nI i))] [] I J := by
      refine bX7_isWay_177 (v177 := nI (i + 1)) (nI_addE i 1) ?_
      have q183 : Sat (ER l D aI aL ad) M_X7_isWay (fun r I1 J1 => I1 = I ∧ J1 = J ∧ bP (wy n T p a b) r) 183 [(7, .int 0)] [] I J := bX7_isWay_183 rfl ⟨rfl, rfl, Or.inr ⟨h, rfl⟩⟩
      exact bX7_isWay_6 (fun _ => q183) (fun _ => bX7_isWay_15 (fun _ => q183) (fun c => absurd rfl c))
    exact bX7_isWay_24 (fun _ => q177) (fun _ => bX7_isWay_33 (fun _ => q177) (fun c => absurd rfl c))
  have one : ∀ i j, (i = 1 ∨ i = 2) → (j = 1 ∨ j = 2) → i < n → j < n → (¬ (p : Int) ∣ sw n T a b i j → ¬ wy n T p a b) → ((p : Int) ∣ sw n T a b i j → Sat (ER l D aI aL ad) M_X7_isWay (fun r I1 J1 => I1 = I ∧ J1 = J ∧ bP (wy n T p a b) r) 24 [(0, .ref (ad 0)), (1, .long (lI a)), (3, .long (lI b)), (5, .long (lI p)), (7, .int 1), (8, .int (nI i)), (9, .int (nI (j + 1)))] [] I J) → Sat (ER l D aI aL ad) M_X7_isWay (fun r I1 J1 => I1 = I ∧ J1 = J ∧ bP (wy n T p a b) r) 24 [(0, .ref (ad 0)), (1, .long (lI a)), (3, .long (lI b)), (5, .long (lI p)), (7, .int 1), (8, .int (nI i)), (9, .int (nI j))] [] I J := by
    intro i j hi hj hi2 hj2 hn kk
    have hn3 := rr.n
    refine bX7_isWay_24 (fun c => absurd c (by rw [hI, nJ_le (by omega) (by omega)]; omega)) (fun _ => bX7_isWay_33 (fun c => absurd c (by decide)) (fun _ => ?_))
    exact iwz_one rr hp1 hp2 ba bb hI hT hi hj hi2 hj2 (fun c => bX7_isWay_169 (v171 := nI (j + 1)) (nI_addE j 1) (kk c)) (fun c => no (hn c))
  refine bX7_isWay_0 (v1 := 1) (v4 := nI 1) rfl rfl ?_
  rcases rr.n with rfl | rfl
  · refine bX7_isWay_6 (fun c => absurd c (by rw [hI]; decide)) (fun _ => bX7_isWay_15 (fun c => absurd c (by decide)) (fun _ => bX7_isWay_20 ?_))
    refine one 1 1 (Or.inl rfl) (Or.inl rfl) (by decide) (by decide) (fun c h => c (wy_sw.mp h).1) (fun c1 => ?_)
    refine bX7_isWay_24 (fun _ => ?_) (fun c => absurd (by rw [hI]; decide) c)
    refine bX7_isWay_177 (v177 := nI 2) rfl (bX7_isWay_6 (fun _ => ?_) (fun c => absurd (by rw [hI]; decide) c))
    exact bX7_isWay_183 rfl ⟨rfl, rfl, Or.inl ⟨wy_sw.mpr ⟨c1, fun q => absurd q (by decide)⟩, rfl⟩⟩
  · refine bX7_isWay_6 (fun c => absurd c (by rw [hI]; decide)) (fun _ => bX7_isWay_15 (fun c => absurd c (by decide)) (fun _ => bX7_isWay_20 ?_))
    refine one 1 1 (Or.inl rfl) (Or.inl rfl) (by decide) (by decide) (fun c h => c (wy_sw.mp h).1) (fun c1 => ?_)
    refine one 1 2 (Or.inl rfl) (Or.inr rfl) (by decide) (by decide) (fun c h => c ((wy_sw.mp h).2 rfl).1) (fun c2 => ?_)
    refine bX7_isWay_24 (fun _ => ?_) (fun c => absurd (by rw [hI]; decide) c)
    refine bX7_isWay_177 (v177 := nI 2) rfl (bX7_isWay_6 (fun c => absurd c (by rw [hI]; decide)) (fun _ => bX7_isWay_15 (fun c => absurd c (by decide)) (fun _ => bX7_isWay_20 ?_)))
    refine one 2 2 (Or.inr rfl) (Or.inr rfl) (by decide) (by decide) (fun c h => c ((wy_sw.mp h).2 rfl).2) (fun c3 => ?_)
    refine bX7_isWay_24 (fun _ => ?_) (fun c => absurd (by rw [hI]; decide) c)
    refine bX7_isWay_177 (v177 := nI 3) rfl (bX7_isWay_6 (fun _ => ?_) (fun c => absurd (by rw [hI]; decide) c))
    exact bX7_isWay_183 rfl ⟨rfl, rfl, Or.inl ⟨wy_sw.mpr ⟨c1, fun _ => ⟨c2, c3⟩⟩, rfl⟩⟩
theorem lf_loop {p a b : Int} (hp0 : 0 < p) (hp : p ≤ 1000) (ha : 0 ≤ a ∧ a < p) (hb : 0 ≤ b ∧ b < p) {C : Prop} (hC : C ↔ ∃ x, 0 ≤ x ∧ x < p ∧ p ∣ (x * x - b * x - a)) : ∀ (d : Nat) (x : Int), 0 ≤ x → x + d = p → (∀ y, 0 ≤ y → y < x → ¬ p ∣ (y * y - b * y - a)) → (∀ r, bP (¬ C) r → P r I J) → Sat (EC l D aI aL ad) M_X5_leavesField P 64 [(3, .long (lI p)), (6, .long (lI a)), (8, .long (lI b)), (10, .long (lI x))] [] I J := by
  intro d
  induction d with
  | zero =>
    intro x h0 e hn kk
    refine bX5_leavesField_64 (fun _ => bX5_leavesField_103 (kk _ (Or.inl ⟨?_, rfl⟩))) (fun c => absurd ((lI_le ⟨by omega, by omega⟩ ⟨by omega, by omega⟩).mpr (by omega)) c)
    rw [hC]; rintro ⟨y, y0, y1, y2⟩; exact hn y y0 (by omega) y2
  | succ d ih =>
    intro x h0 e hn kk
    have gp : rg p := ⟨by omega, by omega⟩
    have bx : bd x 1000 := ⟨by omega, by omega⟩
    have bb : bd b 1000 := ⟨by omega, by omega⟩
    have ba : bd a 1000 := ⟨by omega, by omega⟩
    have gz : rg (x * x - b * x - a) := bd_rg (bd_sub (bd_sub (bd_mul bx bx) (bd_mul bb bx)) ba) (by decide)
    have ez : lI x * lI x - lI b * lI x - lI a = lI (x * x - b * x - a) := by rw [lI_mul, lI_mul, lI_sub, lI_sub]
    refine bX5_leavesField_64 (fun c => absurd ((lI_le gp (bd_rg bx (by decide))).mp c) (by omega)) (fun _ => ?_)
    refine bX5_leavesField_71 (lI_ne0 gp (by omega)) (fun c => ?_) (fun c => ?_)
    · rw [ez, rm_dvd gz gp hp0] at c
      refine bX5_leavesField_94 (lI_add x 1) (ih (x + 1) (by omega) (by omega) (fun y y0 y1 => ?_) kk)
      by_cases c2 : y = x
      · subst c2; rintro ⟨k, hk⟩; exact c ⟨k, by rw [hk, Int.mul_comm]⟩
      · exact hn y y0 (by omega)
    · rw [ez, rm_dvd gz gp hp0] at c
      obtain ⟨k, hk⟩ := c
      exact bX5_leavesField_92 (kk _ (Or.inr ⟨fun q => q (hC.mpr ⟨x, h0, by omega, k, by rw [hk, Int.mul_comm]⟩), rfl⟩))
theorem sq_leK {p : Int} (h : 0 < p) (h2 : p * p ≤ 1000000) : p ≤ 1000 := by
  rcases Int.lt_or_le 1000 p with c | c
  · have : 1001 * 1001 ≤ p * p := Int.mul_le_mul (by omega) (by omega) (by omega) (by omega)
    omega
  · exact c
theorem c_leavesField {n : Nat} {T R : Nat → Int} (rr : Rg n T) (h : IdR n T R) (hp : ipr (R 0) = true) (hN : nmR R = R 0 * R 0) (hI : I 4 0 = nI n) (hT : ∀ t, t < 27 → J 8 t = lI (T t)) {x : Nat} (hx : x < 80) (hR : ∀ t, t < 9 → J 3 (9 * x + t) = lI (R t)) : Con (EC l D aI aL ad) M_X5_leavesField yX5_leavesField [.ref (ad 21), .ref (ad 3), .int (nI (9 * x)), .long (lI (R 0))] I J (fun r I1 J1 => I1 = I ∧ (∀ q, q ≠ 17 → J1 q = J q) ∧ bP (¬ KW n T R) r) := by
  refine Con.of (by decide +kernel) rfl (Nat.le_of_ble_eq_true rfl) ?_
  have h0 := rr.n
  have bR := h.1.bd h.2.2.2
  have p2 := (ipr_dvd (bR 0 (by decide)).2 hp).1
  have p1000 : R 0 ≤ 1000 := sq_leK (by omega) (by rw [← hN]; exact h.2.2.2)
  obtain ⟨s4, s8⟩ := shp rr h hp
  have h4 : J 3 (9 * x + 4) = lI (R 4) := hR 4 (by decide)
  have g0 : rg (R 0) := ⟨by omega, by omega⟩
  have bT : ∀ k, bdV (T (3 * k), T (3 * k + 1), if n = 2 then 0 else T (3 * k + 2)) 1000000 := fun k => ⟨bd_mono (rr.tb _) (by decide), bd_mono (rr.tb _) (by decide), by
    by_cases c : n = 2
    · rw [if_pos c]; exact ⟨show (-1000000 : Int) ≤ 0 by decide, show (0 : Int) ≤ 1000000 by decide⟩
    · rw [if_neg c]; exact bd_mono (rr.tb _) (by decide)⟩
  have go : ∀ (pl : Nat), pl = 1 ∨ pl = 2 → pl < n → (KW n T R ↔ ∃ z, 0 ≤ z ∧ z < R 0 ∧ R 0 ∣ (z * z - vk (lsV n R (T (3 * (4 * pl)), T (3 * (4 * pl) + 1), if n = 2 then 0 else T (3 * (4 * pl) + 2))) pl * z - vk (lsV n R (T (3 * (4 * pl)), T (3 * (4 * pl) + 1), if n = 2 then 0 else T (3 * (4 * pl) + 2))) 0)) → R (4 * pl) = R 0 → Sat (EC l D aI aL ad) M_X5_leavesField (fun r I1 J1 => I1 = I ∧ (∀ q, q ≠ 17 → J1 q = J q) ∧ bP (¬ KW n T R) r) 15 [(0, .ref (ad 21)), (1, .ref (ad 3)), (2, .int (nI (9 * x))), (3, .long (lI (R 0)))] [.int (nI pl)] I J := by
    intro pl hpl hpn hK hd
    refine bX5_leavesField_15 aJ_C3 (by decide) ?_
    rw [nI_lit 12, nI_mulE]
    refine v_X5_129 dX5_leavesField_35 rfl ⟨rfl, rfl, Nat.le_of_ble_eq_true rfl, Nat.le_of_ble_eq_true rfl⟩ (c_lessenN h0 (v := (T (3 * (4 * pl)), T (3 * (4 * pl) + 1), if n = 2 then 0 else T (3 * (4 * pl) + 2))) hI h.1.1 bR (bT _) (p1 := 9 * x) (p3 := 12 * pl) aJ_C3 (by decide) aJ_C8 (by decide) (by omega) (by omega) (by decide) hR (fun c hc => ?_)) rfl rfl (Nat.le_of_ble_eq_true rfl) (fun r I1 J1 hq => ?_)
    · rw [hT _ (by omega)]
      have e : 12 * pl = 3 * (4 * pl) := by omega
      rw [e]
      have hc' : c = 0 ∨ c = 1 ∨ (c = 2 ∧ n = 3) := by clear hK hd; omega
      rcases hc' with rfl | rfl | ⟨rfl, rfl⟩ <;> rfl
    obtain ⟨rfl, e1, f, w⟩ := hq
    obtain rfl := e1.symm
    have lb := lsV_bd h0 h.1.1 (h.1.le h.2.2.2) (T (3 * (4 * pl)), T (3 * (4 * pl) + 1), if n = 2 then 0 else T (3 * (4 * pl) + 2))
    have l0 := lb 0 (by omega)
    have l1 := lb pl hpn
    rw [hd] at l1
    generalize lsV n R (T (3 * (4 * pl)), T (3 * (4 * pl) + 1), if n = 2 then 0 else T (3 * (4 * pl) + 2)) = L at w hK l0 l1
    refine bX5_leavesField_38 (j56 := pl) (v62 := lI 0) rfl (by omega) (w 0 (by omega)) (w pl hpn) rfl ?_
    exact lf_loop (by omega) p1000 l0 l1 hK (R 0).toNat 0 (by omega) (by omega) (fun y a b => absurd a (by omega)) (fun r hr => ⟨rfl, f, hr⟩)
  have ne4 : ∀ z, rg z → (J 3 (9 * x + 4) = lI (R 0) ↔ R 4 = R 0) := fun _ _ => by rw [h4, lI_eq ⟨by have := bR 4 (by decide); omega, by have := bR 4 (by decide); omega⟩ g0]
  have sq : R 0 * 1 < R 0 * R 0 := Int.mul_lt_mul_of_pos_left (by omega) (by omega)
  unfold nmR at hN
  rcases s4 with e4 | ⟨e4, e3⟩
  · have e8 : R 8 = R 0 ∧ R 6 = 0 ∧ R 7 = 0 := by
      rcases s8 with e | e
      · rw [e4, e] at hN; omega
      · exact e
    obtain ⟨e8, e6, e7⟩ := e8
    have hn : n = 3 := by
      rcases h0 with c | c
      · have := (h.2.1 c).2.2; omega
      · exact c
    refine bX5_leavesField_0 (j3 := 9 * x + 4) aJ_C3 (by decide) (nI_addE _ 4) (by omega) (fun _ => bX5_leavesField_14 aJ_C3 (by decide) ?_) (fun c => absurd ((ne4 0 ⟨by omega, by omega⟩).mp c) (by omega))
    subst hn
    exact go 2 (Or.inr rfl) (by decide) (kw2_3 rr h e4 e8 e6 e7) e8
  · have e8 : R 8 = 1 := by
      rcases s8 with e | ⟨e, _⟩
      · exact e
      · rw [e4, e] at hN
        have := Int.mul_lt_mul_of_pos_left (a := 1) (b := R 0) (c := R 0 * R 0) (by omega) (Int.mul_pos (by omega) (by omega))
        omega
    refine bX5_leavesField_0 (j3 := 9 * x + 4) aJ_C3 (by decide) (nI_addE _ 4) (by omega) (fun c => absurd ((ne4 0 ⟨by omega, by omega⟩).mpr e4) c) (fun _ => bX5_leavesField_10 aJ_C3 (by decide) ?_)
    rcases h0 with rfl | rfl
    · exact go 1 (Or.inl rfl) (by decide) (kw1_2 h e4 e3) e4
    · exact go 1 (Or.inl rfl) (by decide) (kw1_3 rr h e4 e3 e8) e4
theorem nm_cases {n : Nat} {T R : Nat → Int} (rr : Rg n T) (h : IdR n T R) (hp : ipr (R 0) = true) : nmR R = R 0 ∨ nmR R = R 0 * R 0 ∨ (nmR R = R 0 * R 0 * R 0 ∧ n = 3 ∧ R 0 ≤ 97 ∧ R 4 = R 0 ∧ R 8 = R 0 ∧ R 3 = 0 ∧ R 6 = 0 ∧ R 7 = 0) := by
  obtain ⟨s4, s8⟩ := shp rr h hp
  have bR := h.1.bd h.2.2.2
  have p2 := (ipr_dvd (bR 0 (by decide)).2 hp).1
  have hn := h.2.2.2
  unfold nmR at hn ⊢
  rcases s4 with e4 | ⟨e4, e3⟩
  · rcases s8 with e8 | ⟨e8, e6, e7⟩
    · rw [e4, e8]; left; omega
    · rw [e4, e8]; right; left; rw [Int.mul_one]
  · rcases s8 with e8 | ⟨e8, e6, e7⟩
    · rw [e4, e8]; right; left; rw [Int.mul_one]
    · rw [e4, e8] at hn ⊢
      refine Or.inr (Or.inr ⟨rfl, ?_, ?_, rfl, rfl, e3, e6, e7⟩)
      · rcases rr.n with c | c
        · have := (h.2.1 c).2.2; omega
        · exact c
      · rcases Int.lt_or_le 100 (R 0) with c | c
        · have a : 101 * 101 ≤ R 0 * R 0 := Int.mul_le_mul (by omega) (by omega) (by omega) (by omega)
          have b : 101 * 101 * 101 ≤ R 0 * R 0 * R 0 := Int.mul_le_mul a (by omega) (by omega) (by omega)
          omega
        · have e : R 0 = 98 ∨ R 0 = 99 ∨ R 0 = 100 ∨ R 0 ≤ 97 := by omega
          rcases e with e | e | e | e
          · rw [e] at hp; exact absurd hp (by decide)
          · rw [e] at hp; exact absurd hp (by decide)
          · rw [e] at hp; exact absurd hp (by decide)
          · exact e
theorem spc_deg {T : Nat → Int} {p : Nat} (hp : 2 ≤ p) {E : List PE} (h : Spc 3 T p E) : (∃ e, E[0]? = some e ∧ (e.2.1 = 3 ↔ ¬ ∃ u v, wy 3 T p u v) ∧ (e.2.1 = 1 ∨ e.2.1 = 3)) := by
  have hv : ∀ x, x ∈ wu 3 T p p → ∃ u v, wy 3 T p u v := fun x hx => ⟨_, _, (wu_isw hx).2.2⟩
  rcases h with ⟨a, rfl⟩ | ⟨a, rfl⟩ | ⟨a, _⟩ | ⟨_, x, a, _, rfl⟩ | ⟨_, x, a, _, R, _, _, _, rfl⟩ | ⟨_, x, y, a, _, rfl⟩ | ⟨_, x, y, a, _, rfl⟩
  · refine ⟨_, rfl, ⟨fun _ => ?_, fun _ => rfl⟩, Or.inr rfl⟩
    rintro ⟨u, v, w⟩
    obtain ⟨x, hx, _⟩ := way_in hp (fun h => absurd h (by decide)) w
    rw [a] at hx; exact absurd hx (List.not_mem_nil)
  · cases hw : wu 3 T p p with
    | nil => rw [hw] at a; exact absurd a (by decide)
    | cons x t => exact ⟨pe p x, rfl, ⟨fun q => absurd q (by show ¬ (1 : Int) = 3; decide), fun q => absurd (hv x (by rw [hw]; exact List.mem_cons_self)) q⟩, Or.inl rfl⟩
  · exact absurd a (by decide)
  · exact ⟨_, rfl, ⟨fun q => absurd q (by show ¬ (1 : Int) = 3; decide), fun q => absurd (hv x (by rw [a]; exact List.mem_cons_self)) q⟩, Or.inl rfl⟩
  · exact ⟨_, rfl, ⟨fun q => absurd q (by show ¬ (1 : Int) = 3; decide), fun q => absurd (hv x (by rw [a]; exact List.mem_cons_self)) q⟩, Or.inl rfl⟩
  · exact ⟨_, rfl, ⟨fun q => absurd q (by show ¬ (1 : Int) = 3; decide), fun q => absurd (hv x (by rw [a]; exact List.mem_cons_self)) q⟩, Or.inl rfl⟩
  · exact ⟨_, rfl, ⟨fun q => absurd q (by show ¬ (1 : Int) = 3; decide), fun q => absurd (hv x (by rw [a]; exact List.mem_cons_self)) q⟩, Or.inl rfl⟩
/-- what isPrimeIdeal leaves -/
def piC (n : Nat) (T R : Nat → Int) (I : sa_I) (J : sa_J) : sa_P := fun r I1 J1 => bP (PId n T R) r ∧ ∃ Ja, spF I I1 J Ja ∧ PCc n T I1 Ja ∧ SC Ja J1
theorem c_isPrimeIdeal6 {n : Nat} {T R : Nat → Int} (rr : Rg n T) (hm : MxT n T) (h : IdR n T R) (hs : prC n T I J) {x : Nat} (hx : x < 80) (hR : ∀ t, t < 9 → J 3 (9 * x + t) = lI (R t)) : Con (EC l D aI aL ad) M_X5_isPrimeIdeal yX5_isPrimeIdeal [.ref (ad 21), .ref (ad 3), .int (nI (9 * x))] I J (piC n T R I J) := by
  refine Con.of (by decide +kernel) rfl (Nat.le_of_ble_eq_true rfl) ?_
  obtain ⟨hI, hT, z0, z2, pc⟩ := hs
  have bR := h.1.bd h.2.2.2
  have b0 := bR 0 (by decide)
  have g0 : rg (R 0) := ⟨by omega, by omega⟩
  have nn := nmR_bd bR
  refine bX5_isPrimeIdeal_0 (j1 := 9 * x) aJ_C3 (by decide) rfl (by omega) (hR 0 (by decide)) ?_
  refine v_X5_114 dX5_isPrimeIdeal_5 rfl ⟨rfl, rfl, Nat.le_of_ble_eq_true rfl, Nat.le_of_ble_eq_true rfl⟩ (c_isPrimeNumber g0 b0.2) rfl rfl (Nat.le_of_ble_eq_true rfl) (fun r I1 J1 hq => ?_)
  obtain ⟨rfl, e1, e2⟩ := hq
  obtain rfl := e1.symm
  obtain rfl := e2.symm
  by_cases hp : ipr (R 0) = true
  rotate_left
  · rw [if_neg hp]
    exact bX5_isPrimeIdeal_8 aJ_C3 (by decide) (fun c => absurd rfl c) (fun _ => bX5_isPrimeIdeal_11 ⟨Or.inr ⟨fun q => hp q.1, rfl⟩, J, spF.rfl', pc, SC.rfl'⟩)
  rw [if_pos hp]
  have p2 := (ipr_dvd b0.2 hp).1
  refine bX5_isPrimeIdeal_8 aJ_C3 (by decide) (fun _ => bX5_isPrimeIdeal_13 aJ_C3 (by decide) ?_) (fun c => absurd c (by decide))
  refine v_X5_118 dX5_isPrimeIdeal_15 rfl ⟨rfl, rfl, Nat.le_of_ble_eq_true rfl, Nat.le_of_ble_eq_true rfl⟩ (c_normOfRows6 (R := R) (p := 9 * x) aJ_C3 (by decide) (by omega) hR) rfl rfl (Nat.le_of_ble_eq_true rfl) (fun r I1 J1 hq => ?_)
  obtain ⟨rfl, e1, e2⟩ := hq
  obtain rfl := e1.symm
  obtain rfl := e2.symm
  have hn := h.2.2.2
  have gn : rg (nmR R) := ⟨by omega, by omega⟩
  have gpp : rg (R 0 * R 0) := bd_rg (bd_mul (A := 1000000) (B := 1000000) ⟨by omega, by omega⟩ ⟨by omega, by omega⟩) (by decide)
  refine bX5_isPrimeIdeal_18 aJ_C3 (by decide) (fun c => ?_) (fun c => bX5_isPrimeIdeal_27 ⟨Or.inl ⟨⟨hp, Or.inl ((lI_eq gn g0).mp c)⟩, rfl⟩, J, spF.rfl', pc, SC.rfl'⟩)
  have c1 : ¬ nmR R = R 0 := fun q => c (by rw [q])
  refine bX5_isPrimeIdeal_29 aJ_C3 (by decide) (fun c => ?_) (fun c => bX5_isPrimeIdeal_38 aJ_C3 (by decide) ?_)
  rotate_left
  · rw [lI_mul, lI_eq gn gpp] at c
    refine v_X5_122 dX5_isPrimeIdeal_42 rfl ⟨rfl, rfl, Nat.le_of_ble_eq_true rfl, Nat.le_of_ble_eq_true rfl⟩ (c_leavesField rr h hp c hI hT hx hR) rfl rfl (Nat.le_of_ble_eq_true rfl) (fun r I1 J1 hq => ?_)
    obtain ⟨e1, f, hb⟩ := hq
    obtain rfl := e1.symm
    have k1 : PId n T R ↔ ¬ KW n T R := ⟨fun q => q.2.resolve_left c1, fun q => ⟨hp, Or.inr q⟩⟩
    have ff : SC J J1 := fun q hk => by unfold kC at hk; exact f q (by omega)
    rcases hb with ⟨b, rfl⟩ | ⟨b, rfl⟩
    · exact bX5_isPrimeIdeal_45 rfl ⟨Or.inl ⟨k1.mpr b, rfl⟩, J, spF.rfl', pc, ff⟩
    · exact bX5_isPrimeIdeal_45 rfl ⟨Or.inr ⟨fun q => b (k1.mp q), rfl⟩, J, spF.rfl', pc, ff⟩
  rw [lI_mul, lI_eq gn gpp] at c
  obtain ⟨e3, n3, p97, e4, e8, q3, q6, q7⟩ := ((nm_cases rr h hp).resolve_left c1).resolve_left c
  subst n3
  have hpn : ((R 0).toNat : Int) = R 0 := by omega
  have k1 : PId 3 T R ↔ ¬ ∃ u v, wy 3 T (R 0).toNat u v := by
    rw [hpn]
    refine ⟨fun q => ?_, fun q => ⟨hp, Or.inr ?_⟩⟩
    · rintro ⟨u, v, w⟩
      exact q.2.resolve_left c1 ⟨u, v, fun h => absurd h (by decide), w, ⟨u, by rw [q3, e4]; omega⟩, fun _ => ⟨v, by rw [q6, q7, e8]; omega⟩⟩
    · rintro ⟨u, v, _, w, _⟩; exact q ⟨u, v, w⟩
  refine bX5_isPrimeIdeal_46 ?_
  rw [lI_iI, show iI (R 0) = nI (R 0).toNat from iI_nat (by omega)]
  refine v_X5_126 dX5_isPrimeIdeal_49 rfl ⟨rfl, rfl, Nat.le_of_ble_eq_true rfl, Nat.le_of_ble_eq_true rfl⟩ (c_split rr hm (p := (R 0).toNat) (by omega) (by rw [hpn]; exact hp) hI hT z0 z2 (pc _ (by omega) (by rw [hpn]; exact hp))) rfl rfl (Nat.le_of_ble_eq_true rfl) (fun r I1 J1 hq => ?_)
  obtain ⟨rfl, ⟨E0, hE, hC⟩, h8, f⟩ := hq
  have pc' : PCc 3 T I1 J1 := PCc.of (by omega) hE hC h8
  obtain ⟨e, he, hd, hd2⟩ := spc_deg (by omega) hE
  have hm' := (hC.2 0 e he).2.1
  have e31 : (I1 23 0 = 3) ↔ e.2.1 = 3 := by
    rw [hm']
    rcases hd2 with q | q <;> rw [q] <;> decide
  refine bX5_isPrimeIdeal_52 (fun c => ?_) (fun c => ?_)
  · exact bX5_isPrimeIdeal_66 (bX5_isPrimeIdeal_67 rfl ⟨Or.inr ⟨fun q => c (e31.mpr (hd.mpr (k1.mp q))), rfl⟩, J1, f, pc', SC.rfl'⟩)
  · exact bX5_isPrimeIdeal_62 (bX5_isPrimeIdeal_67 rfl ⟨Or.inl ⟨k1.mpr (hd.mp (e31.mp c)), rfl⟩, J1, f, pc', SC.rfl'⟩)
end PIA
