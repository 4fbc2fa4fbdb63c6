theorem and1_all : ∀ d : Nat, d < 1201 → lI (d : Int) &&& 1 = lI ((d % 2 : Nat) : Int) := by decide +kernel
theorem and1 {D : Int} (h1 : 0 ≤ D) (h2 : D ≤ 1200) : lI D &&& 1 = lI (D % 2) := by
  have := and1_all D.toNat (by omega)
  rw [Int.toNat_of_nonneg h1] at this
  rw [this]
  congr 1
  omega
/-- the answer, if there is one -/
def frV (O : Option (Int × Int × Int)) (h w : Int) : Option Int := match O with
  | none => none
  | some t => if t.1 - h * t.2.1 ≤ 1000000000000000 then some (if w = 0 then t.1 - h * t.2.1 else if w = 1 then t.2.1 else t.2.2) else none
section FI
variable {l : Launch} {D0 : va_G} {aI aL : ClassId} {ad : Nat → Nat} {P : sa_P} {I : sa_I}
theorem c_partN {E : sa_E} {J : sa_J} {a b z : Int} {x y : Int64} (hx : x = lI a) (hy : y = lI b) (ha : 0 ≤ a) (ha2 : a ≤ 1000000) (hb : 0 < b) (hb2 : b ≤ 1000000) (hz : a / b = z) : Con E M_X6_part yX6_part [.long x, .long y] I J (p_l (lI z) I J) := by
  subst hx; subst hy; subst hz
  have := c_part (E := E) (I := I) (J := J) (a := a) (b := b) ⟨by omega, by omega⟩ ⟨by omega, by omega⟩ hb
  rw [Int.tdiv_eq_ediv_of_nonneg ha] at this
  exact this
/-- what find leaves -/
def fiQ (O : Option (Int × Int × Int)) (h : Int) (I : sa_I) (J : sa_J) : sa_P := fun r I1 J1 => I1 = I ∧ (∀ q, q ≠ 32 → J1 q = J q) ∧ match O with
  | none => r = some (.int 0)
  | some t => (t.1 - h * t.2.1 ≤ 1000000000000000 ∧ r = some (.int 1) ∧ J1 32 0 = lI (t.1 - h * t.2.1) ∧ J1 32 1 = lI t.2.1 ∧ J1 32 2 = lI t.2.2) ∨ (1000000000000000 < t.1 - h * t.2.1 ∧ r = some (.int 0))
theorem fi_loop {D root t od h : Int} {J0 : sa_J} (hh : od + t = 2 * h) (h1 : -10 ≤ h) (h2 : h ≤ 10) : ∀ (f st : Nat) (p q u u' v v' s : Int) (J : sa_J), cfk D root f p q u u' v v' = true → st + f ≤ 999 → 0 ≤ v → v ≤ 1000000000000000 → J 32 2 = lI s → (∀ q, q ≠ 32 → J q = J0 q) → (∀ r J1, fiQ (cfo D root f p q u u' v v' s) h I J0 r I J1 → P r I J1) → Sat (EC l D0 aI aL ad) M_X0_find P 40 [(0, .ref (ad 32)), (1, .long (lI D)), (3, .long (lI t)), (5, .long (lI od)), (7, .long (lI root)), (9, .long (lI p)), (11, .long (lI q)), (13, .long (lI u)), (15, .long (lI u')), (17, .long (lI v)), (19, .long (lI v')), (21, .int (nI st))] [] I J := by
  intro f
  induction f with
  | zero => intro st p q u u' v v' s J hk; exact absurd hk (by simp [cfk])
  | succ f ih =>
    intro st p q u u' v v' s J hk hs v0 vM hJ fr kk
    generalize ea : (p + root) / q = a
    generalize eu : a * u + u' = u2
    generalize ev : a * v + v' = v2
    generalize ep : a * q - p = p2
    generalize eq : (D - p2 * p2) / q = q2
    obtain ⟨b1, b2, b3, b4, b5, b6, b7⟩ := cfk_succ hk ea eu ev ep eq
    rw [cfo, ea, eu, ev, ep, eq] at kk
    have gv : rg v := ⟨by omega, by omega⟩
    have gv2 : rg v2 := ⟨by omega, by omega⟩
    have gq2 : 0 ≤ q2 ∧ q2 ≤ 1200 := by
      have := quo_bd (a := D - p2 * p2) (b := q) (W := 1200) b5.1 b5.2 b2.1
      rw [eq] at this; exact this
    have cmp : ∀ {x : Int}, rg x → (((1000000000000000 : Int64) < lI x) ↔ 1000000000000000 < x) := fun hx => lI_lt (a := 1000000000000000) ⟨by decide, by decide⟩ hx
    refine bX0_find_40 (fun c => absurd ((nJ_le (a := 1000) (by decide) (by omega)).mp c) (by omega)) (fun _ => ?_)
    refine bX0_find_48 (fun c => absurd ((cmp gv).mp c) (by omega)) (fun _ => ?_)
    refine bX0_find_57 ?_
    refine v_X0_23 dX0_find_64 rfl ⟨rfl, rfl, Nat.le_of_ble_eq_true rfl, Nat.le_of_ble_eq_true rfl⟩ (c_partN (a := p + root) (b := q) (z := a) (by rw [lI_add]) rfl b1.1 (by omega) b2.1 (by omega) ea) rfl rfl (Nat.le_of_ble_eq_true rfl) (fun r I1 J1 hp => ?_)
    obtain ⟨rfl, e2, e3⟩ := hp
    obtain rfl := e2.symm
    obtain rfl := e3.symm
    refine bX0_find_67 (v77 := lI u2) (v95 := lI v2) (v111 := lI (-s)) (v122 := lI p2) (by rw [lI_mul, lI_add, eu]) (by rw [lI_mul, lI_add, ev]) (by rw [hJ, lI_neg]) (by rw [lI_mul, lI_sub, ep]) ?_
    rw [lI_mul, lI_sub]
    refine v_X0_23 dX0_find_133 rfl ⟨rfl, rfl, Nat.le_of_ble_eq_true rfl, Nat.le_of_ble_eq_true rfl⟩ (c_partN (a := D - p2 * p2) (b := q) (z := q2) rfl rfl b5.1 (by omega) b2.1 (by omega) eq) rfl rfl (Nat.le_of_ble_eq_true rfl) (fun r I1 J1 hp => ?_)
    obtain ⟨rfl, e2, e3⟩ := hp
    obtain rfl := e2.symm
    obtain rfl := e3.symm
    have e2q : lI q2 = (2 : Int64) ↔ q2 = 2 := lI_eq ⟨by omega, by omega⟩ (b := 2) ⟨by decide, by decide⟩
    have fr1 : ∀ q, q ≠ 32 → (sa_uJ J 32 2 (lI (-s))) q = J0 q := fun q hq => by rw [sa_uJ_ne hq]; exact fr q hq
    refine bX0_find_136 (fun c => ?_) (fun c => ?_)
    · have c2 : q2 ≠ 2 := fun q => c (e2q.mpr q)
      rw [if_neg c2] at kk
      refine bX0_find_203 (v203 := nI (st + 1)) (nI_addE st 1) ?_
      by_cases cv : 1000000000000000 < v2
      · rw [if_pos cv] at kk
        cases f with
        | zero =>
          by_cases cs : st + 1 < 1000
          · refine bX0_find_40 (fun c => absurd ((nJ_le (a := 1000) (by decide) (by omega)).mp c) (by omega)) (fun _ => bX0_find_48 (fun _ => bX0_find_209 (kk _ _ ⟨rfl, fr1, rfl⟩)) (fun c => absurd ((cmp gv2).mpr cv) c))
          · omega
        | succ f => exact bX0_find_40 (fun c => absurd ((nJ_le (a := 1000) (by decide) (by omega)).mp c) (by omega)) (fun _ => bX0_find_48 (fun _ => bX0_find_209 (kk _ _ ⟨rfl, fr1, rfl⟩)) (fun c => absurd ((cmp gv2).mpr cv) c))
      · rw [if_neg cv] at kk
        exact ih (st + 1) p2 q2 u2 u v2 v (-s) _ (b7 c2 (by omega)) (by omega) b4.1 (by omega) sa_uJ_at fr1 kk
    · have c2 : q2 = 2 := e2q.mp c
      rw [if_pos c2] at kk
      have hv2 := bd_mul (a := h) (b := v2) (A := 10) (B := 100000000000000000) ⟨by omega, by omega⟩ ⟨by omega, by omega⟩
      have x1 := hv2.1
      have x2 := hv2.2
      have gx : rg (u2 - h * v2) := ⟨by omega, by omega⟩
      have ex : (((2 : Int64) * lI u2) - ((lI od + lI t) * lI v2)) / (2 : Int64) = lI (u2 - h * v2) := by
        rw [show (2 : Int64) = lI 2 from rfl, lI_add, hh, lI_mul, lI_mul, lI_sub]
        have e : 2 * u2 - 2 * h * v2 = (u2 - h * v2) * 2 := by grind
        rw [e]
        exact quo_t ⟨by omega, by omega⟩ ⟨by decide, by decide⟩ (by decide)
      refine bX0_find_147 (v172 := lI (u2 - h * v2)) ex (fun c => ?_) (fun c => ?_)
      · rw [sa_uJ_at, cmp gx] at c
        refine bX0_find_201 (bX0_find_202 rfl (kk _ _ ⟨rfl, fun q hq => by simp only [sa_uJ_ne hq]; exact fr q hq, ?_⟩))
        by_cases cv : v2 ≤ 1000000000000000
        · rw [if_pos cv]; exact Or.inr ⟨c, rfl⟩
        · rw [if_neg cv]
      · rw [sa_uJ_at, cmp gx] at c
        refine bX0_find_186 (fun c3 => ?_) (fun c3 => ?_)
        · rw [sa_uJ_off (by decide), sa_uJ_at, cmp gv2] at c3
          refine bX0_find_201 (bX0_find_202 rfl (kk _ _ ⟨rfl, fun q hq => by simp only [sa_uJ_ne hq]; exact fr q hq, ?_⟩))
          rw [if_neg (by omega)]
        · rw [sa_uJ_off (by decide), sa_uJ_at, cmp gv2] at c3
          refine bX0_find_197 (bX0_find_202 rfl (kk _ _ ⟨rfl, fun q hq => by simp only [sa_uJ_ne hq]; exact fr q hq, ?_⟩))
          rw [if_pos (by omega)]
          exact Or.inl ⟨by show u2 - h * v2 ≤ _; omega, rfl, sa_uJ_at, by rw [sa_uJ_off (by decide), sa_uJ_at], by rw [sa_uJ_off (by decide), sa_uJ_off (by decide), sa_uJ_at]⟩
theorem c_find {D t h : Int} {J : sa_J} (h1 : 0 < D) (h2 : D ≤ 1200) (h4 : D % 4 = 0 ∨ D % 4 = 1) (hs : psq D = false) (hh : D % 2 + t = 2 * h) (t1 : -20 ≤ t) (t2 : t ≤ 20) : Con (EC l D0 aI aL ad) M_X0_find yX0_find [.ref (ad 32), .long (lI D), .long (lI t)] I J (fiQ (cfo D (isqF 1000 0 D : Nat) 150 (D % 2) 2 1 0 0 1 1) h I J) := by
  refine Con.of (by decide +kernel) rfl (Nat.le_of_ble_eq_true rfl) ?_
  refine bX0_find_0 (v3 := lI (D % 2)) (and1 (by omega) h2) ?_
  refine v_X0_9 dX0_find_6 rfl ⟨rfl, rfl, Nat.le_of_ble_eq_true rfl, Nat.le_of_ble_eq_true rfl⟩ (c_wholeRoot (x := D) ⟨by omega, by omega⟩) rfl rfl (Nat.le_of_ble_eq_true rfl) (fun r I1 J1 hp => ?_)
  obtain ⟨rfl, e2, e3⟩ := hp
  obtain rfl := e2.symm
  obtain rfl := e3.symm
  refine bX0_find_9 (v18 := lI 2) (v21 := lI 1) (v24 := lI 0) (v27 := lI 0) (v30 := lI 1) (v34 := lI 1) (v38 := nI 0) rfl rfl rfl rfl rfl rfl rfl ?_
  exact fi_loop (J0 := J) hh (by omega) (by omega) 150 0 (D % 2) 2 1 0 0 1 1 _ (cf_ok h1 h2 h4 hs) (by decide) (by decide) (by decide) sa_uJ_at (fun q hq => sa_uJ_ne hq) (fun r J1 hp => hp)
def frC (n : Nat) (D h w : Int) (I : sa_I) (J : sa_J) : sa_P := fun r I1 J1 =>
  if n = 2 ∧ 0 ≤ D ∧ 0 ≤ w ∧ w ≤ 2 then (match frV (cfo D (isqF 1000 0 D : Nat) 150 (D % 2) 2 1 0 0 1 1) h w with
    | some v => r = some (.long (lI v)) ∧ I1 = I ∧ SC J J1
    | none => r = some (.long (4000000000000000000 - (-6 : Int32).toInt64)) ∧ I1 = rf I 6 ∧ SC J J1)
  else r = some (.long (4000000000000000000 - (-2 : Int32).toInt64)) ∧ I1 = rf I 2 ∧ J1 = J
def frR (n : Nat) (D h w : Int) (I : sa_I) (J : sa_J) : sa_P := fun r I1 J1 =>
  if n = 2 ∧ 0 ≤ D ∧ 0 ≤ w ∧ w ≤ 2 then (match frV (cfo D (isqF 1000 0 D : Nat) 150 (D % 2) 2 1 0 0 1 1) h w with
    | some v => r = some (.long (lI v)) ∧ I1 = I ∧ J1 = J
    | none => r = some (.long (4000000000000000000 - (-6 : Int32).toInt64)) ∧ I1 = rf I 6 ∧ J1 = J)
  else r = some (.long (4000000000000000000 - (-2 : Int32).toInt64)) ∧ I1 = rf I 2 ∧ J1 = J
theorem c_first6 {n : Nat} {D t h w : Int} {J : sa_J} (h0 : n = 2 ∨ n = 3) (hd : I 4 0 = nI n) (hD : J 4 2 = lI D) (bD : bd D 12000) (ht : n = 2 → J 8 13 = lI t) (hok : n = 2 → 0 ≤ D → 0 < D ∧ D ≤ 1200 ∧ (D % 4 = 0 ∨ D % 4 = 1) ∧ psq D = false ∧ D % 2 + t = 2 * h ∧ -20 ≤ t ∧ t ≤ 20) (hw : rgi w) : Con (EC l D0 aI aL ad) M_X6_first yX6_first [.ref (ad 0), .int (iI w)] I J (frC n D h w I J) := by
  refine Con.of (by decide +kernel) rfl (Nat.le_of_ble_eq_true rfl) ?_
  have hnz : ¬ I 4 0 = 0 := by rw [hd]; rcases h0 with rfl | rfl <;> decide
  have other : ¬ (n = 2 ∧ 0 ≤ D ∧ 0 ≤ w ∧ w ≤ 2) → Sat (EC l D0 aI aL ad) M_X6_first (frC n D h w I J) 49 [(0, .ref (ad 0))] [] I J := by
    intro hc
    refine bX6_first_49 ?_
    refine v_X6_96 dX6_first_52 rfl ⟨rfl, rfl, Nat.le_of_ble_eq_true rfl, Nat.le_of_ble_eq_true rfl⟩ (c_toldLong 2 (by decide) rfl) rfl rfl (Nat.le_of_ble_eq_true rfl) (fun r I1 J1 hp => ?_)
    obtain ⟨rfl, rfl, rfl⟩ := hp
    refine bX6_first_55 ?_
    unfold frC; rw [if_neg hc]; exact ⟨rfl, rfl, rfl⟩
  refine bX6_first_0 (fun _ => ?_) (fun c => absurd c hnz)
  refine bX6_first_17 (fun c => other (fun q => c (by rw [hd, q.1]; rfl))) (fun c => ?_)
  have hn : n = 2 := by
    rcases h0 with q | q
    · exact q
    · rw [hd, q] at c; exact absurd c (by decide)
  have eD : J 4 2 < (0 : Int64) ↔ D < 0 := by rw [hD]; exact lI_lt (bd_rg bD (by decide)) (b := 0) ⟨by decide, by decide⟩
  refine bX6_first_28 (fun c => other (fun q => by have := eD.mp c; omega)) (fun c => ?_)
  have dn0 : 0 ≤ D := by
    have : ¬ D < 0 := fun q => c (eD.mpr q)
    omega
  refine bX6_first_40 (fun c => other (fun q => by have := (iI_ltc hw (k := 0) ⟨by omega, by omega⟩ rfl).mp c; omega)) (fun c => bX6_first_44 (fun c2 => ?_) (fun c2 => other (fun q => c2 ((iI_lec hw (k := 2) ⟨by omega, by omega⟩ rfl).mpr q.2.2.2))))
  have w0 : 0 ≤ w := by
    have : ¬ w < 0 := fun q => c ((iI_ltc hw (k := 0) ⟨by omega, by omega⟩ rfl).mpr q)
    omega
  have w2 := (iI_lec hw (k := 2) ⟨by omega, by omega⟩ rfl).mp c2
  have cc : n = 2 ∧ 0 ≤ D ∧ 0 ≤ w ∧ w ≤ 2 := ⟨hn, dn0, w0, w2⟩
  obtain ⟨d1, d2, d3, d4, d5, d6, d7⟩ := hok hn dn0
  refine bX6_first_56 ?_
  have ctr : Con (EC l D0 aI aL ad) M_X4_traceOfSecond yX4_traceOfSecond [.ref (ad 4)] I J (p_l (lI t) I J) := by
    refine Con.of (by decide +kernel) rfl (Nat.le_of_ble_eq_true rfl) ?_
    exact bX4_traceOfSecond_0 ⟨by rw [ht hn], rfl, rfl⟩
  refine v_X6_243 dX6_first_71 rfl ⟨rfl, rfl, Nat.le_of_ble_eq_true rfl, Nat.le_of_ble_eq_true rfl⟩ ctr rfl rfl (Nat.le_of_ble_eq_true rfl) (fun r I1 J1 hp => ?_)
  obtain ⟨rfl, e2, e3⟩ := hp
  obtain rfl := e2.symm
  obtain rfl := e3.symm
  rw [hD]
  refine v_X6_246 dX6_first_74 rfl ⟨rfl, rfl, Nat.le_of_ble_eq_true rfl, Nat.le_of_ble_eq_true rfl⟩ (c_find d1 d2 d3 d4 d5 d6 d7) rfl rfl (Nat.le_of_ble_eq_true rfl) (fun r I1 J1 hp => ?_)
  obtain ⟨e2, f1, hp⟩ := hp
  obtain rfl := e2.symm
  have sc : SC J J1 := fun q hk => f1 q (by rcases hk with rfl | rfl | rfl | rfl | rfl | rfl | rfl | rfl | rfl <;> decide)
  have room : frV (cfo D (isqF 1000 0 D : Nat) 150 (D % 2) 2 1 0 0 1 1) h w = none → Sat (EC l D0 aI aL ad) M_X6_first (frC n D h w I J) 77 [(0, .ref (ad 0)), (1, .int (iI w))] [.int 0] I J1 := by
    intro hv
    refine bX6_first_77 (fun c => absurd rfl c) (fun _ => bX6_first_80 ?_)
    refine v_X6_96 dX6_first_83 rfl ⟨rfl, rfl, Nat.le_of_ble_eq_true rfl, Nat.le_of_ble_eq_true rfl⟩ (c_toldLong 6 (by decide) rfl) rfl rfl (Nat.le_of_ble_eq_true rfl) (fun r I2 J2 hp => ?_)
    obtain ⟨rfl, rfl, rfl⟩ := hp
    refine bX6_first_86 ?_
    unfold frC; rw [if_pos cc, hv]; exact ⟨rfl, rfl, sc⟩
  generalize hO : cfo D (isqF 1000 0 D : Nat) 150 (D % 2) 2 1 0 0 1 1 = O at *
  match O, hp with
  | none, hp =>
    obtain rfl := hp
    exact room rfl
  | some tt, hp =>
    rcases hp with ⟨c1, rfl, m0, m1, m2⟩ | ⟨c1, rfl⟩
    · refine bX6_first_77 (fun _ => ?_) (fun c => absurd c (by decide))
      have fin : ∀ v, v = lI (if w = 0 then tt.1 - h * tt.2.1 else if w = 1 then tt.2.1 else tt.2.2) → frC n D h w I J (some (.long v)) I J1 := by
        intro v e
        unfold frC; rw [if_pos cc, hO]
        have : frV (some tt) h w = some (if w = 0 then tt.1 - h * tt.2.1 else if w = 1 then tt.2.1 else tt.2.2) := by
          show (if tt.1 - h * tt.2.1 ≤ _ then _ else _) = _
          rw [if_pos c1]
        rw [this]
        exact ⟨by rw [e], rfl, sc⟩
      refine bX6_first_87 (fun c => ?_) (fun c => ?_)
      · refine bX6_first_100 (fun c3 => bX6_first_114 (bX6_first_121 (fin _ ?_))) (fun c3 => bX6_first_104 (bX6_first_121 (fin _ ?_)))
        · have a1 : w ≠ 2 := fun q => c (by rw [q]; rfl)
          have a2 : w ≠ 0 := fun q => c3 (by rw [q]; rfl)
          rw [if_neg a2, if_pos (by omega)]; exact m1
        · have a2 : w = 0 := (iI_eq hw (b := 0) ⟨by omega, by omega⟩).mp c3
          rw [if_pos a2]; exact m0
      · have a2 : w = 2 := (iI_eq hw (b := 2) ⟨by omega, by omega⟩).mp c
        refine bX6_first_92 (fin _ ?_)
        rw [if_neg (by omega), if_neg (by omega)]; exact m2
    · refine room ?_
      show (if tt.1 - h * tt.2.1 ≤ _ then _ else _) = _
      rw [if_neg (by omega)]
theorem re_step {D root t p q U U' v v' s a U2 v2 p2 q2 : Int} {x1 : Int32} {J : sa_J} (hD : J 0 10 = lI D) (ea : (p + root) / q = a) (eu : a * U + U' = U2) (ev : a * v + v' = v2) (ep : a * q - p = p2) (eq : (D - p2 * p2) / q = q2) (b1 : bd (p + root) 1000) (b2 : 0 < q ∧ q ≤ 1200) (b4 : 0 ≤ v2 ∧ v2 ≤ 100000000000000000) (b5 : 0 ≤ D - p2 * p2 ∧ D - p2 * p2 ≤ 1200) (k1 : v2 ≤ 1000000000000000 → q2 = 2 → Sat (ER l D0 aI aL ad) M_X7_first P 204 [(0, .ref (ad 0)), (1, .int x1), (4, .long (lI t)), (10, .long (lI U2)), (14, .long (lI v2)), (18, .long (lI (-s)))] [] I J) (k2 : v2 ≤ 1000000000000000 → q2 ≠ 2 → Sat (ER l D0 aI aL ad) M_X7_first P 87 [(0, .ref (ad 0)), (1, .int x1), (2, .long (lI root)), (4, .long (lI t)), (6, .long (lI p2)), (8, .long (lI q2)), (10, .long (lI U2)), (12, .long (lI U)), (14, .long (lI v2)), (16, .long (lI v)), (18, .long (lI (-s))), (20, .int (nI 1))] [] I J) (k3 : 1000000000000000 < v2 → Sat (ER l D0 aI aL ad) M_X7_first P 178 [(0, .ref (ad 0))] [] I J) : Sat (ER l D0 aI aL ad) M_X7_first P 87 [(0, .ref (ad 0)), (1, .int x1), (2, .long (lI root)), (4, .long (lI t)), (6, .long (lI p)), (8, .long (lI q)), (10, .long (lI U)), (12, .long (lI U')), (14, .long (lI v)), (16, .long (lI v')), (18, .long (lI s)), (20, .int (nI 1))] [] I J := by
  have gq2 : 0 ≤ q2 ∧ q2 ≤ 1200 := by
    have := quo_bd (a := D - p2 * p2) (b := q) (W := 1200) b5.1 b5.2 b2.1
    rw [eq] at this; exact this
  refine bX7_first_87 (fun c => absurd c (by decide)) (fun _ => bX7_first_92 ?_)
  refine v_X7_151 dX7_first_98 rfl ⟨rfl, rfl, Nat.le_of_ble_eq_true rfl, Nat.le_of_ble_eq_true rfl⟩ (c_floorDivE (a := p + root) (W := q) (z := a) (by rw [lI_add]) rfl (bd_rg b1 (by decide)) b2.1 (by omega) ea) rfl rfl (Nat.le_of_ble_eq_true rfl) (fun r I1 J1 hp => ?_)
  obtain ⟨rfl, e2, e3⟩ := hp
  obtain rfl := e2.symm
  obtain rfl := e3.symm
  have cmp : (lI v2 ≤ (1000000000000000 : Int64)) ↔ v2 ≤ 1000000000000000 := lI_le ⟨by omega, by omega⟩ (b := 1000000000000000) ⟨by decide, by decide⟩
  refine bX7_first_101 (v111 := lI U2) (v121 := lI v2) (v147 := lI p2) (v162 := lI q2) (v167 := lI (-s)) (lI_ne0 ⟨by omega, by omega⟩ (by omega)) (by rw [lI_mul, lI_add, eu]) (by rw [lI_mul, lI_add, ev]) (by rw [lI_mul, lI_sub, ep]) (by rw [hD, lI_mul, lI_sub, lI_quo b5.1 (by omega) b2.1 (by omega), eq]) (by rw [lI_neg]) (fun c => ?_) (fun c => k3 (by have : ¬ v2 ≤ 1000000000000000 := fun q => c (cmp.mpr q); omega))
  have cv := cmp.mp c
  have e2q : lI q2 = (2 : Int64) ↔ q2 = 2 := lI_eq ⟨by omega, by omega⟩ (b := 2) ⟨by decide, by decide⟩
  refine bX7_first_185 (fun c => bX7_first_198 (bX7_first_199 (bX7_first_87 (fun _ => k1 cv (e2q.mp c)) (fun c => absurd rfl c)))) (fun c => bX7_first_194 (bX7_first_199 (k2 cv (fun q => c (e2q.mpr q)))))
theorem re_loop {D root t : Int} {x1 : Int32} {J : sa_J} (hD : J 0 10 = lI D) (kR : Sat (ER l D0 aI aL ad) M_X7_first P 178 [(0, .ref (ad 0))] [] I J) : ∀ (f : Nat) (p q u u' U U' v v' s : Int), cfk D root f p q u u' v v' = true → ((cfo D root f p q U U' v v' s = none → Sat (ER l D0 aI aL ad) M_X7_first P 178 [(0, .ref (ad 0))] [] I J) ∧ ∀ x y z, cfo D root f p q U U' v v' s = some (x, y, z) → Sat (ER l D0 aI aL ad) M_X7_first P 204 [(0, .ref (ad 0)), (1, .int x1), (4, .long (lI t)), (10, .long (lI x)), (14, .long (lI y)), (18, .long (lI z))] [] I J) → Sat (ER l D0 aI aL ad) M_X7_first P 87 [(0, .ref (ad 0)), (1, .int x1), (2, .long (lI root)), (4, .long (lI t)), (6, .long (lI p)), (8, .long (lI q)), (10, .long (lI U)), (12, .long (lI U')), (14, .long (lI v)), (16, .long (lI v')), (18, .long (lI s)), (20, .int (nI 1))] [] I J := by
  intro f
  induction f with
  | zero => intro p q u u' U U' v v' s hk; exact absurd hk (by simp [cfk])
  | succ f ih =>
    intro p q u u' U U' v v' s hk kk
    generalize ea : (p + root) / q = a
    generalize ev : a * v + v' = v2
    generalize ep : a * q - p = p2
    generalize eq : (D - p2 * p2) / q = q2
    generalize eU : a * U + U' = U2
    obtain ⟨b1, b2, b3, b4, b5, b6, b7⟩ := cfk_succ hk ea rfl ev ep eq
    rw [cfo, ea, eU, ev, ep, eq] at kk
    refine re_step hD ea eU ev ep eq ⟨by omega, by omega⟩ b2 b4 b5 (fun cv c2 => ?_) (fun cv c2 => ?_) (fun _ => kR)
    · rw [if_pos c2, if_pos cv] at kk
      exact kk.2 _ _ _ rfl
    · rw [if_neg c2, if_neg (by omega)] at kk
      exact ih p2 q2 _ u U2 U v2 v (-s) (b7 c2 cv) kk
theorem re_some {D root t : Int} {x1 : Int32} {J : sa_J} (hD : J 0 10 = lI D) : ∀ (f : Nat) (p q u u' U U' v v' s : Int), cfk D root f p q u u' v v' = true → ∀ x y z, cfo D root f p q U U' v v' s = some (x, y, z) → Sat (ER l D0 aI aL ad) M_X7_first P 204 [(0, .ref (ad 0)), (1, .int x1), (4, .long (lI t)), (10, .long (lI x)), (14, .long (lI y)), (18, .long (lI z))] [] I J → Sat (ER l D0 aI aL ad) M_X7_first P 87 [(0, .ref (ad 0)), (1, .int x1), (2, .long (lI root)), (4, .long (lI t)), (6, .long (lI p)), (8, .long (lI q)), (10, .long (lI U)), (12, .long (lI U')), (14, .long (lI v)), (16, .long (lI v')), (18, .long (lI s)), (20, .int (nI 1))] [] I J := by
  intro f
  induction f with
  | zero => intro p q u u' U U' v v' s hk; exact absurd hk (by simp [cfk])
  | succ f ih =>
    intro p q u u' U U' v v' s hk x y z he kk
    generalize ea : (p + root) / q = a
    generalize ev : a * v + v' = v2
    generalize ep : a * q - p = p2
    generalize eq : (D - p2 * p2) / q = q2
    generalize eU : a * U + U' = U2
    obtain ⟨b1, b2, b3, b4, b5, b6, b7⟩ := cfk_succ hk ea rfl ev ep eq
    rw [cfo, ea, eU, ev, ep, eq] at he
    refine re_step hD ea eU ev ep eq ⟨by omega, by omega⟩ b2 b4 b5 (fun cv c2 => ?_) (fun cv c2 => ?_) (fun cv => ?_)
    · rw [if_pos c2, if_pos cv] at he
      have he := Option.some.inj he
      have e1 : U2 = x := congrArg (·.1) he
      have e2 : v2 = y := congrArg (·.2.1) he
      have e3 : -s = z := congrArg (·.2.2) he
      rw [e1, e2, e3]; exact kk
    · rw [if_neg c2, if_neg (by omega)] at he
      exact ih p2 q2 _ u U2 U v2 v (-s) (b7 c2 cv) x y z he kk
    · by_cases c2 : q2 = 2
      · rw [if_pos c2, if_neg (by omega)] at he; exact absurd he (by simp)
      · rw [if_neg c2, if_pos cv] at he; exact absurd he (by simp)
theorem c_first7 {n : Nat} {D t h w : Int} {J : sa_J} (h0 : n = 2 ∨ n = 3) (hd : I 0 1 = nI n) (hD : J 0 10 = lI D) (bD : bd D 12000) (ht : n = 2 → J 2 13 = lI t) (hok : n = 2 → 0 ≤ D → 0 < D ∧ D ≤ 1200 ∧ (D % 4 = 0 ∨ D % 4 = 1) ∧ psq D = false ∧ D % 2 + t = 2 * h ∧ -20 ≤ t ∧ t ≤ 20) (hw : rgi w) : Con (ER l D0 aI aL ad) M_X7_first yX7_first [.ref (ad 0), .int (iI w)] I J (frR n D h w I J) := by
  refine Con.of (by decide +kernel) rfl (Nat.le_of_ble_eq_true rfl) ?_
  have hnz : ¬ I 0 1 ≤ 0 := by rw [hd]; rcases h0 with rfl | rfl <;> decide
  have other : ¬ (n = 2 ∧ 0 ≤ D ∧ 0 ≤ w ∧ w ≤ 2) → Sat (ER l D0 aI aL ad) M_X7_first (frR n D h w I J) 39 [(0, .ref (ad 0))] [] I J := by
    intro hc
    refine bX7_first_39 ?_
    refine v_X7_206 dX7_first_42 rfl ⟨rfl, rfl, Nat.le_of_ble_eq_true rfl, Nat.le_of_ble_eq_true rfl⟩ (c_refuseLong 2 (by decide) rfl) rfl rfl (Nat.le_of_ble_eq_true rfl) (fun r I1 J1 hp => ?_)
    obtain ⟨rfl, rfl, rfl⟩ := hp
    refine bX7_first_45 ?_
    unfold frR; rw [if_neg hc]; exact ⟨rfl, rfl, rfl⟩
  refine bX7_first_0 ?_
  refine v_X7_203 dX7_first_1 rfl ⟨rfl, rfl, Nat.le_of_ble_eq_true rfl, Nat.le_of_ble_eq_true rfl⟩ (c_isField) rfl rfl (Nat.le_of_ble_eq_true rfl) (fun r I1 J1 hp => ?_)
  obtain ⟨rfl, e2, e3⟩ := hp
  obtain rfl := e2.symm
  obtain rfl := e3.symm
  rw [if_neg hnz]
  refine bX7_first_4 (fun _ => ?_) (fun c => absurd c (by decide))
  refine bX7_first_14 (fun c => other (fun q => c (by rw [hd, q.1]; rfl))) (fun c => ?_)
  have hn : n = 2 := by
    rcases h0 with q | q
    · exact q
    · rw [hd, q] at c; exact absurd c (by decide)
  have eD : J 0 10 < (0 : Int64) ↔ D < 0 := by rw [hD]; exact lI_lt (bd_rg bD (by decide)) (b := 0) ⟨by decide, by decide⟩
  refine bX7_first_22 (fun c => other (fun q => by have := eD.mp c; omega)) (fun c => ?_)
  have dn0 : 0 ≤ D := by
    have : ¬ D < 0 := fun q => c (eD.mpr q)
    omega
  refine bX7_first_31 ?_
  refine v_X7_210 dX7_first_33 rfl ⟨rfl, rfl, Nat.le_of_ble_eq_true rfl, Nat.le_of_ble_eq_true rfl⟩ (c_isIn) rfl rfl (Nat.le_of_ble_eq_true rfl) (fun r I1 J1 hp => ?_)
  obtain ⟨rfl, e2, e3⟩ := hp
  obtain rfl := e2.symm
  obtain rfl := e3.symm
  rw [show (3 : Int32) = nI 3 from rfl, inB_I hw (m := 3) (by decide)]
  by_cases cw : 0 ≤ w ∧ w < (3 : Nat)
  rotate_left
  · rw [if_neg cw]
    exact bX7_first_36 (fun c => absurd rfl c) (fun _ => other (fun q => cw ⟨q.2.2.1, by have := q.2.2.2; omega⟩))
  rw [if_pos cw]
  have cc : n = 2 ∧ 0 ≤ D ∧ 0 ≤ w ∧ w ≤ 2 := ⟨hn, dn0, cw.1, by have := cw.2; omega⟩
  obtain ⟨d1, d2, d3, d4, d5, d6, d7⟩ := hok hn dn0
  refine bX7_first_36 (fun _ => bX7_first_46 ?_) (fun c => absurd c (by decide))
  rw [hD]
  refine v_X7_98 dX7_first_50 rfl ⟨rfl, rfl, Nat.le_of_ble_eq_true rfl, Nat.le_of_ble_eq_true rfl⟩ (c_rootOf (x := D) (by omega) ⟨by omega, by omega⟩) rfl rfl (Nat.le_of_ble_eq_true rfl) (fun r I1 J1 hp => ?_)
  obtain ⟨rfl, e2, e3⟩ := hp
  obtain rfl := e2.symm
  obtain rfl := e3.symm
  refine bX7_first_53 ?_
  have ctr : Con (ER l D0 aI aL ad) M_X7_traceOfBase yX7_traceOfBase [.ref (ad 0)] I J (p_l (lI t) I J) := by
    refine Con.of (by decide +kernel) rfl (Nat.le_of_ble_eq_true rfl) ?_
    exact bX7_traceOfBase_0 ⟨by rw [ht hn], rfl, rfl⟩
  refine v_X7_363 dX7_first_55 rfl ⟨rfl, rfl, Nat.le_of_ble_eq_true rfl, Nat.le_of_ble_eq_true rfl⟩ ctr rfl rfl (Nat.le_of_ble_eq_true rfl) (fun r I1 J1 hp => ?_)
  obtain ⟨rfl, e2, e3⟩ := hp
  obtain rfl := e2.symm
  obtain rfl := e3.symm
  refine bX7_first_58 (v67 := lI 2) (v70 := lI 1) (v73 := lI 0) (v76 := lI 0) (v79 := lI 1) (v82 := lI 1) (v85 := nI 1) rfl rfl rfl rfl rfl rfl rfl ?_
  have hk := cf_ok d1 d2 d3 d4
  generalize hroot : ((isqF 1000 0 D : Nat) : Int) = root at *
  generalize hod : D % 2 = od at *
  have od2 : od = 0 ∨ od = 1 := by omega
  -- the first step, from t and from od
  obtain ⟨b1, b2, b3, b4, b5, b6, b7⟩ := cfk_succ hk rfl rfl rfl rfl rfl
  have hO := cfo_bd 150 od 2 1 0 0 1 1 hk (Or.inl rfl)
  have room : frV (cfo D root 150 od 2 1 0 0 1 1) h w = none → Sat (ER l D0 aI aL ad) M_X7_first (frR n D h w I J) 178 [(0, .ref (ad 0))] [] I J := by
    intro hv
    refine bX7_first_178 ?_
    refine v_X7_206 dX7_first_181 rfl ⟨rfl, rfl, Nat.le_of_ble_eq_true rfl, Nat.le_of_ble_eq_true rfl⟩ (c_refuseLong 6 (by decide) rfl) rfl rfl (Nat.le_of_ble_eq_true rfl) (fun r I1 J1 hp => ?_)
    obtain ⟨rfl, rfl, rfl⟩ := hp
    refine bX7_first_184 ?_
    unfold frR; rw [if_pos cc, hroot, hod, hv]; exact ⟨rfl, rfl, rfl⟩
  have fin : ∀ x y z, cfo D root 150 od 2 1 0 0 1 1 = some (x, y, z) → Sat (ER l D0 aI aL ad) M_X7_first (frR n D h w I J) 204 [(0, .ref (ad 0)), (1, .int (iI w)), (4, .long (lI t)), (10, .long (lI (x + (t - h) * y))), (14, .long (lI y)), (18, .long (lI z))] [] I J := by
    intro x y z e
    obtain ⟨o1, o2, o3, o4, o5, o6⟩ := hO x y z e
    have hy := bd_mul (a := h) (b := y) (A := 10) (B := 1000000000000000) ⟨by omega, by omega⟩ ⟨by omega, by omega⟩
    have hy1 := hy.1
    have hy2 := hy.2
    have le10 : h * y ≤ 10 * y := Int.mul_le_mul_of_nonneg_right (by omega) o3
    have gx : rg (x - h * y) := ⟨by omega, by omega⟩
    have ex : x + (t - h) * y - y * t = x - h * y := by grind
    have bad : 1000000000000000 < x - h * y → Sat (ER l D0 aI aL ad) M_X7_first (frR n D h w I J) 232 [(0, .ref (ad 0))] [] I J := by
      intro hb
      refine bX7_first_232 ?_
      refine v_X7_206 dX7_first_235 rfl ⟨rfl, rfl, Nat.le_of_ble_eq_true rfl, Nat.le_of_ble_eq_true rfl⟩ (c_refuseLong 6 (by decide) rfl) rfl rfl (Nat.le_of_ble_eq_true rfl) (fun r I1 J1 hp => ?_)
      obtain ⟨rfl, rfl, rfl⟩ := hp
      refine bX7_first_238 ?_
      unfold frR; rw [if_pos cc, hroot, hod, e]
      have : frV (some (x, y, z)) h w = none := by
        show (if x - h * y ≤ _ then _ else _) = _
        rw [if_neg (by omega)]
      rw [this]; exact ⟨rfl, rfl, rfl⟩
    refine bX7_first_204 (v212 := lI (x - h * y)) (by rw [lI_mul, lI_sub, ex]) (fun c => bad ((lI_lt (a := 1000000000000000) ⟨by decide, by decide⟩ gx).mp c)) (fun c => ?_)
    have c1 : x - h * y ≤ 1000000000000000 := by
      have : ¬ 1000000000000000 < x - h * y := fun q => c ((lI_lt (a := 1000000000000000) ⟨by decide, by decide⟩ gx).mpr q)
      omega
    have ok : ∀ v, v = lI (if w = 0 then x - h * y else if w = 1 then y else z) → frR n D h w I J (some (.long v)) I J := by
      intro v ev
      unfold frR; rw [if_pos cc, hroot, hod, e]
      have : frV (some (x, y, z)) h w = some (if w = 0 then x - h * y else if w = 1 then y else z) := by
        show (if x - h * y ≤ _ then _ else _) = _
        rw [if_pos c1]
      rw [this]; exact ⟨by rw [ev], rfl, rfl⟩
    refine bX7_first_223 (fun _ => ?_) (fun c => absurd (by rw [show (-1000000000000000 : Int64) = lI (-1000000000000000) from rfl]; exact (lI_le ⟨by decide, by decide⟩ gx).mpr (by omega)) c)
    refine bX7_first_239 (fun c => bX7_first_248 (fun c3 => bX7_first_258 (bX7_first_260 (ok _ ?_))) (fun c3 => bX7_first_253 (bX7_first_260 (ok _ ?_)))) (fun c => bX7_first_243 (bX7_first_260 (ok _ ?_)))
    · have a1 : w ≠ 0 := fun q => c (by rw [q]; rfl)
      have a2 : w ≠ 1 := fun q => c3 (by rw [q]; rfl)
      rw [if_neg a1, if_neg a2]
    · have a2 : w = 1 := (iI_eq hw (b := 1) ⟨by omega, by omega⟩).mp c3
      rw [if_neg (by omega), if_pos a2]
    · have a2 : w = 0 := (iI_eq hw (b := 0) ⟨by omega, by omega⟩).mp c
      rw [if_pos a2]
  have ha : (t + root) / 2 = (od + root) / 2 + (t - h) := by omega
  generalize ea : (od + root) / 2 = a at *
  have e1 : a * 2 - od = (a + (t - h)) * 2 - t := by omega
  have ev : a * 0 + 1 = (1 : Int) := by omega
  have eu : a * 1 + 0 = a := by omega
  rw [ev] at b4 b6 b7
  rw [eu] at b3 b6 b7
  have hcf : cfo D root 150 od 2 1 0 0 1 1 = if (D - (a * 2 - od) * (a * 2 - od)) / 2 = 2 then some (a, 1, -1) else cfo D root 149 (a * 2 - od) ((D - (a * 2 - od) * (a * 2 - od)) / 2) a 1 1 0 (-1) := by
    show cfo D root (149 + 1) od 2 1 0 0 1 1 = _
    rw [cfo, ea, ev, eu]
    rw [if_neg (show ¬ (1000000000000000 : Int) < 1 by decide), if_pos (show (1 : Int) ≤ 1000000000000000 by decide)]
  refine re_step (v2 := 1) (U2 := a + (t - h)) (p2 := a * 2 - od) hD ha (by omega) (by omega) e1.symm rfl ⟨by omega, by omega⟩ ⟨by decide, by decide⟩ ⟨by decide, by decide⟩ b5 (fun _ c2 => ?_) (fun _ c2 => ?_) (fun c => absurd c (by decide))
  · have := fin a 1 (-1) (by rw [hcf, if_pos c2])
    rw [Int.mul_one] at this
    exact this
  · rw [if_neg c2] at hcf
    have sh := cfo_shift D root (t - h) 149 (a * 2 - od) ((D - (a * 2 - od) * (a * 2 - od)) / 2) a 1 1 0 (-1)
    rw [← hcf] at sh
    have s1 : a + (t - h) * 1 = a + (t - h) := by omega
    have s2 : 1 + (t - h) * 0 = (1 : Int) := by omega
    rw [s1, s2] at sh
    by_cases hnone : cfo D root 150 od 2 1 0 0 1 1 = none
    · have hr := room (by rw [hnone]; rfl)
      refine re_loop hD hr 149 _ _ a 1 (a + (t - h)) 1 1 0 (-1) (b7 c2 (by decide)) ⟨fun _ => hr, fun x y z e => ?_⟩
      rw [sh, hnone] at e; exact absurd e (by simp)
    · -- the last numbers, and the refusal that the way never meets
      obtain ⟨⟨x, y, z⟩, hsome⟩ := Option.ne_none_iff_exists'.mp hnone
      refine re_some hD 149 _ _ a 1 (a + (t - h)) 1 1 0 (-1) (b7 c2 (by decide)) (x + (t - h) * y) y z (by rw [sh, hsome]; rfl) ?_
      exact fin x y z hsome
end FI
section SF
variable {l0 : Launch} {D0 : va_G} {aI aL : ClassId} {ad ad' : Nat → Nat} {I I' : sa_I} {J J' : sa_J} {N : sa_I → sa_J → sa_I → sa_J → Prop} {a1 a2 a3 : Int32} {n ne ni : Nat} {h d k l e Di dd : Int} {T Ev Rv : Nat → Int}
theorem sq_mod4 (y : Int) : (y * y) % 4 = 0 ∧ y % 2 = 0 ∨ (y * y) % 4 = 1 ∧ y % 2 = 1 := by
  have h : y % 4 = 0 ∨ y % 4 = 1 ∨ y % 4 = 2 ∨ y % 4 = 3 := by omega
  have e : (y * y) % 4 = ((y % 4) * (y % 4)) % 4 := Int.mul_emod y y 4
  rcases h with h | h | h | h <;> rw [h] at e
  · exact Or.inl ⟨e, by omega⟩
  · exact Or.inr ⟨e, by omega⟩
  · exact Or.inl ⟨e, by omega⟩
  · exact Or.inr ⟨e, by omega⟩
theorem st_first (F : Fld n h d k l e Di dd T) (hc : clS n h d k l e Di dd T I J) (hr : rfS n h d k l e Di dd T I' J') (hN : Nid n ni T N I J I' J') : la_Step l0 D0 aI aL ad ad' N 25 a1 a2 a3 I J I' J' := by
  obtain ⟨w, hw, rfl⟩ := iI_of a1
  have h0 := F.1
  have hT6 : ∀ t, t < 27 → J 8 t = lI (T t) := hc.2.2.2.2.2.2
  have hT7 := hr.2.2.2.2.2.2.2.2
  have bD := F.sign.2
  have hok : n = 2 → 0 ≤ dd → 0 < dd ∧ dd ≤ 1200 ∧ (dd % 4 = 0 ∨ dd % 4 = 1) ∧ psq dd = false ∧ dd % 2 + T 13 = 2 * ((dd % 2 + T 13) / 2) ∧ -20 ≤ T 13 ∧ T 13 ≤ 20 := by
    intro hn h1
    obtain ⟨_, _, _, x, y, eT, bx, by', ed, hs⟩ := F.2.2.2.2.2.1 hn
    have e13 : T 13 = y := by rw [eT]; rfl
    rw [e13]
    have bx1 := bx.1
    have bx2 := bx.2
    have by1 := by'.1
    have by2 := by'.2
    have byy := bd_mul by' by'
    have yy := byy.2
    have hsq := sq_mod4 y
    have hne : dd ≠ 0 := by
      intro q
      rw [q] at hs
      exact absurd hs (by decide)
    generalize y * y = z at *
    refine ⟨by omega, by omega, by omega, hs, by omega, by omega, by omega⟩
  refine ⟨_, _, c_first6 (t := T 13) (h := (dd % 2 + T 13) / 2) h0 hc.1 hc.2.2.1 bD (fun _ => hT6 13 (by decide)) hok hw, c_first7 (t := T 13) (h := (dd % 2 + T 13) / 2) h0 hr.1 hr.2.2.2.2.2.2.1 bD (fun hn => hT7 1 1 1 (by omega) (by omega) (by decide)) hok hw, fun r1 I1 J1 r2 I2 J2 p q => ?_⟩
  unfold frC at p
  unfold frR at q
  by_cases cc : n = 2 ∧ 0 ≤ dd ∧ 0 ≤ w ∧ w ≤ 2
  · rw [if_pos cc] at p q
    generalize frV (cfo dd (isqF 1000 0 dd : Nat) 150 (dd % 2) 2 1 0 0 1 1) ((dd % 2 + T 13) / 2) w = O at *
    match O, p, q with
    | some v, p, q =>
      obtain ⟨rfl, rfl, p3⟩ := p
      obtain ⟨rfl, rfl, rfl⟩ := q
      exact ⟨⟨_, rfl, rfl⟩, hN.1 _ _ _ _ SCI.rfl' p3 SRI.rfl' SR.rfl'⟩
    | none, p, q =>
      obtain ⟨rfl, rfl, p3⟩ := p
      obtain ⟨rfl, rfl, rfl⟩ := q
      exact ⟨⟨_, rfl, rfl⟩, hN.2.1 6 _ _ _ _ SCI.rfl' p3 SRI.rfl' SR.rfl'⟩
  · rw [if_neg cc] at p q
    obtain ⟨rfl, rfl, rfl⟩ := p
    obtain ⟨rfl, rfl, rfl⟩ := q
    exact ⟨⟨_, rfl, rfl⟩, hN.2.1 2 _ _ _ _ SCI.rfl' SC.rfl' SRI.rfl' SR.rfl'⟩
end SF
