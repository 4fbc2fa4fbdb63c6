theorem sm_in {n : Nat} (h0 : n = 2 ∨ n = 3) {m : Int} {H : V3 → Prop} (g : Grp H) (h : In3 H (smR n m)) (z : V3) : H (vmu m z) := by
  obtain ⟨z0, z1, z2⟩ := z
  have a : H (m, 0, 0) := h.1
  have b : H (0, m, 0) := h.2.1
  rcases h0 with rfl | rfl
  · have c : H (0, 0, 1) := h.2.2
    exact g.co z0 z1 (m * z2) g.1 a b c (by show m * z0 = _; grind) (by show m * z1 = _; grind) (by show m * z2 = _; grind)
  · have c : H (0, 0, m) := h.2.2
    exact g.co z0 z1 z2 g.1 a b c (by show m * z0 = _; grind) (by show m * z1 = _; grind) (by show m * z2 = _; grind)
theorem muv_e2 (T : Nat → Int) (w : V3) (k : Int) : muv 2 T w (0, 0, k) = (0, 0, w.2.2 * k) := by
  rw [muv2]; refine v3_eq ?_ ?_ ?_ <;> dsimp only <;> grind
theorem in_sm {n : Nat} (h0 : n = 2 ∨ n = 3) {T : Nat → Int} {m : Int} {H : V3 → Prop} (g : Grp H) (h : In3 H (smR n m)) (w : V3) : In3 (fun v => H (muv n T w v)) (smR n m) := by
  have k : ∀ z, H (muv n T w (vmu m z)) := fun z => by rw [muv_mul]; exact sm_in h0 g h _
  have k0 : H (muv n T w (m, 0, 0)) := by
    have := k (1, 0, 0)
    have e : vmu m (1, 0, 0) = (m, 0, 0) := v3_eq (by dsimp only; omega) (by dsimp only; omega) (by dsimp only; omega)
    rw [e] at this; exact this
  have k1 : H (muv n T w (0, m, 0)) := by
    have := k (0, 1, 0)
    have e : vmu m (0, 1, 0) = (0, m, 0) := v3_eq (by dsimp only; omega) (by dsimp only; omega) (by dsimp only; omega)
    rw [e] at this; exact this
  refine ⟨k0, k1, ?_⟩
  rcases h0 with rfl | rfl
  · show H (muv 2 T w (0, 0, 1))
    rw [muv_e2]
    have c : H (0, 0, 1) := h.2.2
    exact g.co (w.2.2) 0 0 g.1 c g.1 g.1 (by dsimp only; omega) (by dsimp only; omega) (by dsimp only; omega)
  · show H (muv 3 T w (0, 0, m))
    have := k (0, 0, 1)
    have e : vmu m (0, 0, 1) = (0, 0, m) := v3_eq (by dsimp only; omega) (by dsimp only; omega) (by dsimp only; omega)
    rw [e] at this; exact this
/-- a lattice made of all multiples of m and of numbers S is an ideal if it has the products with S -/
theorem idl_of_gens {n : Nat} {T R : Nat → Int} (h0 : n = 2 ∨ n = 3) {m : Int} {S : V3 → Prop} (hrel : ∀ H, Grp H → (In3 H R ↔ (In3 H (smR n m) ∧ ∀ v, S v → H v))) (hS : ∀ v, S v → ∀ i, i < 3 → Sp R (muv n T (eV i) v)) : Idl n T R := by
  refine idl_of (fun w => ?_)
  have g := Sp_grp R
  rw [hrel _ (g.div n T w)]
  have h := (hrel _ g).mp (Sp_in R)
  exact ⟨in_sm h0 g h.1 w, fun v hv => g.gen (hS v hv) w⟩
/-- for degree 2 the third place of a number does not count -/
theorem third {n : Nat} {H : V3 → Prop} (g : Grp H) (c : H (0, 0, 1)) (v : V3) : H v ↔ H (v.1, v.2.1, 0) := by
  constructor
  · intro h; exact g.co (-v.2.2) 0 0 h c g.1 g.1 (by dsimp only; omega) (by dsimp only; omega) (by dsimp only; omega)
  · intro h; exact g.co v.2.2 0 0 h c g.1 g.1 (by dsimp only; omega) (by dsimp only; omega) (by dsimp only; omega)
/-- the reference's given numbers -/
def GV (many : Nat) (g : Nat → V3) (I : sa_I) (J : sa_J) : Prop := I 0 27 = nI many ∧ many ≤ 20 ∧ ∀ i, i < many → ∀ c, c < 3 → J 13 (3 * i + c) = lI (vk (g i) c) ∧ rg (vk (g i) c)
def updG (g : Nat → V3) (k : Nat) (v : V3) (i : Nat) : V3 := if i = k then v else g i
section ID
variable {l : Launch} {D : va_G} {aI aL : ClassId} {ad : Nat → Nat} {P : sa_P} {I : sa_I} {J : sa_J}
theorem c_gives {many : Nat} {g : Nat → V3} {v : V3} {a b c : Int64} (h : GV many g I J) (h20 : many < 20) (ha : a = lI v.1) (hb : b = lI v.2.1) (hc : c = lI v.2.2) (hr : ∀ k, k < 3 → rg (vk v k)) : Con (ER l D aI aL ad) M_X7_gives yX7_gives [.ref (ad 0), .long a, .long b, .long c] I J (fun r I1 J1 => r = none ∧ SRI I I1 ∧ (∀ q, q ≠ 13 → J1 q = J q) ∧ GV (many + 1) (updG g many v) I1 J1) := by
  refine Con.of (by decide +kernel) rfl (Nat.le_of_ble_eq_true rfl) ?_
  obtain ⟨hm, _, hg⟩ := h
  have e3 : (3 : Int32) * nI many = nI (3 * many) := nI_mulE 3 many
  refine bX7_gives_0 (j9 := 3 * many) (j23 := 3 * many + 1) (j37 := 3 * many + 2) (v48 := nI (many + 1)) (by rw [hm, e3]) (by omega) (by rw [hm, e3]; exact nI_addE _ _) (by omega) (by rw [hm, e3]; exact nI_addE _ _) (by omega) (by rw [hm]; exact nI_addE many 1) ⟨rfl, ⟨fun q hq => sa_uI_ne hq, fun t ht => sa_uI_off ht⟩, fun q hq => by simp only [sa_uJ_ne hq], sa_uI_at, by omega, ?_⟩
  intro i hi k hk
  unfold updG
  by_cases h : i = many
  · subst h
    rw [if_pos rfl]
    refine ⟨?_, hr k hk⟩
    rcases below3 hk with rfl | rfl | rfl
    · simp [sa_uJ_if, ha, vk]
    · simp [sa_uJ_if, hb, vk]
    · simp [sa_uJ_if, hc, vk]
  · rw [if_neg h]
    have := hg i (by omega) k hk
    simp only [sa_uJ_if]
    rw [if_neg (by omega), if_neg (by omega), if_neg (by omega)]
    exact this
theorem c_triangleN {n : Nat} (h0 : n = 2 ∨ n = 3) {W : Int} {many : Nat} {g : Nat → V3} (hn : I 0 1 = nI n) (hg : GV many g I J) (hW0 : 0 < W) (hW : W ≤ 1000000) : Con (ER l D aI aL ad) M_X7_triangle yX7_triangle [.ref (ad 0), .long (lI W)] I J (fun r I1 J1 => r = none ∧ I1 = I ∧ (∀ q, q ≠ 13 → q ≠ 14 → J1 q = J q) ∧ ∃ R, Hm R ∧ R2 n R ∧ (∀ t, t < 9 → 0 ≤ R t ∧ R t ≤ W) ∧ (∀ t, t < 3 * n → J1 14 t = lI (R t)) ∧ ∀ H, Grp H → (In3 H R ↔ (In3 H (smR n W) ∧ ∀ i, i < many → H (g i)))) := by
  rcases h0 with rfl | rfl
  · refine (c_triangle2 (g := fun i c => vk (g i) c) hn hg.1 hg.2.1 hW0 hW hg.2.2).mono ?_
    rintro r I1 J1 ⟨a, b, c, R, d, e, f, h, k⟩
    refine ⟨a, b, c, R, d, fun _ => h, e, f, fun H gg => ?_⟩
    rw [k H gg]
    constructor
    · rintro ⟨u, v, w, z⟩
      exact ⟨⟨u, v, w⟩, fun i hi => (third (n := 2) gg w (g i)).mpr (z i hi)⟩
    · rintro ⟨⟨u, v, w⟩, z⟩
      exact ⟨u, v, w, fun i hi => (third (n := 2) gg w (g i)).mp (z i hi)⟩
  · refine (c_triangle3 (g := fun i c => vk (g i) c) hn hg.1 hg.2.1 hW0 hW hg.2.2).mono ?_
    rintro r I1 J1 ⟨a, b, c, R, d, e, f, k⟩
    refine ⟨a, b, c, R, d, fun h => absurd h (by decide), e, f, fun H gg => ?_⟩
    rw [k H gg]
    constructor
    · rintro ⟨u, v, w, z⟩
      exact ⟨⟨u, v, w⟩, z⟩
    · rintro ⟨⟨u, v, w⟩, z⟩
      exact ⟨u, v, w, z⟩
theorem c_actsI {n : Nat} {T : Nat → Int} (rr : Rg n T) (hd : I 0 1 = nI n) (hT : ∀ i j c, i < n → j < n → c < 3 → J 2 (9 * i + 3 * j + c) = lI (T (9 * i + 3 * j + c))) {x : V3} (hx : ∀ i, i < n → J 10 i = lI (vk x i)) : Con (ER l D aI aL ad) M_X7_acts yX7_acts [.ref (ad 0), .ref (ad 10)] I J (fun r I1 J1 => r = none ∧ I1 = I ∧ (∀ u c, u < n → c < n → J1 9 (3 * u + c) = lI (vk (muv n T (eV u) x) c)) ∧ ∀ q, q ≠ 9 → J1 q = J q) := by
  have e0 : (0 : Int64) = lI 0 := rfl
  rcases rr with ⟨rfl, p, q, rfl, _, _⟩ | ⟨rfl, s, rfl, _, h⟩
  · refine (c_acts2_10 hd).mono ?_
    rintro r I1 J1 ⟨a, b, m0, m1, m3, m4, f⟩
    refine ⟨a, b, ?_, f⟩
    have t0 := hT 0 0 0 (by decide) (by decide) (by decide)
    have t1 := hT 0 0 1 (by decide) (by decide) (by decide)
    have t3 := hT 0 1 0 (by decide) (by decide) (by decide)
    have t4 := hT 0 1 1 (by decide) (by decide) (by decide)
    have t9 := hT 1 0 0 (by decide) (by decide) (by decide)
    have t10 := hT 1 0 1 (by decide) (by decide) (by decide)
    have t12 := hT 1 1 0 (by decide) (by decide) (by decide)
    have t13 := hT 1 1 1 (by decide) (by decide) (by decide)
    rw [show J 2 0 = _ from t0, show J 2 9 = _ from t9, hx 0 (by decide), hx 1 (by decide), e0] at m0
    rw [show J 2 1 = _ from t1, show J 2 10 = _ from t10, hx 0 (by decide), hx 1 (by decide), e0] at m1
    rw [show J 2 3 = _ from t3, show J 2 12 = _ from t12, hx 0 (by decide), hx 1 (by decide), e0] at m3
    rw [show J 2 4 = _ from t4, show J 2 13 = _ from t13, hx 0 (by decide), hx 1 (by decide), e0] at m4
    simp only [lI_mul, lI_add] at m0 m1 m3 m4
    obtain ⟨x0, x1, x2⟩ := x
    intro u c hu hc
    have hu' : u = 0 ∨ u = 1 := by omega
    have hc' : c = 0 ∨ c = 1 := by omega
    rcases hu' with rfl | rfl <;> rcases hc' with rfl | rfl
    · refine m0.trans (congrArg lI ?_)
      show 0 + x0 * 1 + x1 * 0 = 1 * x0 + 0 * x1 * p; grind
    · refine m1.trans (congrArg lI ?_)
      show 0 + x0 * 0 + x1 * 1 = 1 * x1 + 0 * x0 + 0 * x1 * q; grind
    · refine m3.trans (congrArg lI ?_)
      show 0 + x0 * 0 + x1 * p = 0 * x0 + 1 * x1 * p; grind
    · refine m4.trans (congrArg lI ?_)
      show 0 + x0 * 1 + x1 * q = 0 * x1 + 1 * x0 + 1 * x1 * q; grind
  · refine (c_acts3_10 hd).mono ?_
    rintro r I1 J1 ⟨a, b, m0, m1, m2, m3, m4, m5, m6, m7, m8, f⟩
    have hT27 : ∀ t, t < 27 → J 2 t = lI (T3 s t) := by
      intro t ht
      have := hT (t / 9) (t % 9 / 3) (t % 3) (by omega) (by omega) (by omega)
      rw [show 9 * (t / 9) + 3 * (t % 9 / 3) + t % 3 = t by omega] at this
      exact this
    have em : ∀ u c, u < 3 → c < 3 → J1 9 (3 * u + c) = mtx 3 (J 10) (J 2) (3 * u + c) := by
      intro u c hu hc
      rcases below3 hu with rfl | rfl | rfl <;> rcases below3 hc with rfl | rfl | rfl
      · exact m0
      · exact m1
      · exact m2
      · exact m3
      · exact m4
      · exact m5
      · exact m6
      · exact m7
      · exact m8
    refine ⟨a, b, ?_, f⟩
    intro u c hu hc
    rw [em u c hu hc, mtx_I hx hT27 hu hc]
    refine congrArg lI ?_
    rcases below3 hu with rfl | rfl | rfl
    · show vk x c = vk (muv 3 (T3 s) (oneV 3) x) c
      rw [muv_one (Or.inr rfl)]
    · rfl
    · rfl
/-- the reference's rows given, one for each of the basis -/
theorem id_loop {n : Nat} {T : Nat → Int} (h0 : n = 2 ∨ n = 3) {x : V3} {x1 : Int32} (hr : ∀ u k, u < 3 → k < 3 → rg (vk (muv n T (eV u) x) k)) : ∀ (d i0 : Nat) (g : Nat → V3) (I : sa_I) (J : sa_J), i0 + d = n → I 0 1 = nI n → GV i0 g I J → (∀ u c, u < n → c < n → J 9 (3 * u + c) = lI (vk (muv n T (eV u) x) c)) → (∀ g' I' J', SRI I I' → (∀ q, q ≠ 13 → J' q = J q) → GV n g' I' J' → (∀ i, i < i0 → g' i = g i) → (∀ i, i0 ≤ i → i < n → g' i = muv n T (eV i) x) → Sat (ER l D aI aL ad) M_X7_ideal P 135 [(0, .ref (ad 0)), (1, .int x1)] [] I' J') → Sat (ER l D aI aL ad) M_X7_ideal P 77 [(0, .ref (ad 0)), (1, .int x1), (3, .int (nI i0))] [] I J := by
  intro d
  induction d with
  | zero =>
    intro i0 g I J hd hI hg h9 kk
    obtain rfl : i0 = n := by omega
    refine bX7_ideal_77 (fun _ => kk g I J SRI.rfl' (fun _ _ => rfl) hg (fun _ _ => rfl) (fun i h1 h2 => by omega)) (fun c => absurd ?_ c)
    rw [hI, nJ_le (by omega) (by omega)]; omega
  | succ d ih =>
    intro i0 g I J hd hI hg h9 kk
    refine bX7_ideal_77 (fun c => absurd c (by rw [hI, nJ_le (by omega) (by omega)]; omega)) (fun _ => ?_)
    have e3 : (3 : Int32) * nI i0 = nI (3 * i0) := nI_mulE 3 i0
    have go : ∀ c2 : Int64, c2 = lI (muv n T (eV i0) x).2.2 → Sat (ER l D aI aL ad) M_X7_ideal P 126 [(0, .ref (ad 0)), (1, .int x1), (3, .int (nI i0))] [.long c2, .long (J 9 (3 * i0 + 1)), .long (J 9 (3 * i0)), .ref (ad 0)] I J := by
      intro c2 hc2
      refine v_X7_255 dX7_ideal_126 rfl ⟨rfl, rfl, Nat.le_of_ble_eq_true rfl, Nat.le_of_ble_eq_true rfl⟩ (c_gives (v := muv n T (eV i0) x) hg (by omega) (h9 i0 0 (by omega) (by omega)) (h9 i0 1 (by omega) (by omega)) hc2 (fun q hq => hr i0 q (by omega) hq)) rfl rfl (Nat.le_of_ble_eq_true rfl) (fun r I1 J1 hp => ?_)
      obtain ⟨rfl, s1, f1, G1⟩ := hp
      refine bX7_ideal_129 (v129 := nI (i0 + 1)) (nI_addE i0 1) ?_
      refine ih (i0 + 1) (updG g i0 (muv n T (eV i0) x)) I1 J1 (by omega) (by rw [s1.2 1 (by decide)]; exact hI) G1 (fun u c hu hc => by rw [f1 9 (by decide)]; exact h9 u c hu hc) (fun g' I' J' s' f' G' a b => kk g' I' J' (s1.tr s') (fun q hq => (f' q hq).trans (f1 q hq)) G' (fun i hi => ?_) (fun i h1 h2 => ?_))
      · rw [a i (by omega)]; unfold updG; rw [if_neg (by omega)]
      · by_cases h : i = i0
        · subst h; rw [a i (by omega)]; unfold updG; rw [if_pos rfl]
        · exact b i (by omega) h2
    refine bX7_ideal_85 (j92 := 3 * i0) (j102 := 3 * i0 + 1) e3 (by omega) (by rw [e3]; exact nI_addE _ _) (by omega) (fun c => ?_) (fun c => ?_)
    · refine bX7_ideal_125 (go 0 ?_)
      have : n = 2 := by
        rcases h0 with h | h
        · exact h
        · exact absurd (by rw [hI, h]; rfl) c
      subst this
      have hu : i0 = 0 ∨ i0 = 1 := by omega
      rcases hu with rfl | rfl
      · show (0 : Int64) = lI (0 * x.2.2); rw [Int.zero_mul]; rfl
      · show (0 : Int64) = lI (0 * x.2.2); rw [Int.zero_mul]; rfl
    · have : n = 3 := by
        rcases h0 with h | h
        · rw [hI, h] at c; exact absurd c (by decide)
        · exact h
      subst this
      exact bX7_ideal_112 (j120 := 3 * i0 + 2) (by rw [e3]; exact nI_addE _ _) (by omega) (go _ (h9 i0 2 (by omega) (by decide)))
def idC (n ne ni : Nat) (T : Nat → Int) (m x : Int) (I : sa_I) (J : sa_J) : sa_P := fun r I2 J2 =>
  if 0 ≤ x ∧ x < ne then (if m < 1 then r = some (.int (-4)) ∧ I2 = rf I 4 ∧ J2 = J else if 1000000 < m then r = some (.int (-6)) ∧ I2 = rf I 6 ∧ J2 = J
    else ∃ I1 J1 R, SCI I I1 ∧ SC J J1 ∧ LatH n m R J1 ∧ (∃ v : V3, bdV v 300 ∧ (∀ i, i < n → J 2 (3 * x.toNat + i) = lI (vk v i)) ∧ ∀ H, Grp H → (In3 H R ↔ (In3 H (smR n m) ∧ ∀ i, i < n → H (muv n T (eV i) v)))) ∧ kiC I1 J1 ni (nmR R) r I2 J2)
  else r = some (.int (-1)) ∧ I2 = rf I 1 ∧ J2 = J
def idR7 (n ne ni : Nat) (T : Nat → Int) (m x : Int) (I : sa_I) (J : sa_J) : sa_P := fun r I2 J2 =>
  if 0 ≤ x ∧ x < ne then (if m < 1 then r = some (.int (-4)) ∧ I2 = rf I 4 ∧ J2 = J else if 1000000 < m then r = some (.int (-6)) ∧ I2 = rf I 6 ∧ J2 = J
    else ∃ I1 J1 R, SRI I I1 ∧ SR J J1 ∧ (Hm R ∧ R2 n R ∧ ∀ t, t < 3 * n → J1 14 t = lI (R t)) ∧ (∃ v : V3, bdV v 300 ∧ (∀ i, i < n → (I 3 (3 * x.toNat + i)).toInt64 = lI (vk v i)) ∧ ∀ H, Grp H → (In3 H R ↔ (In3 H (smR n m) ∧ ∀ i, i < n → H (muv n T (eV i) v)))) ∧ kiR I1 J1 ni (nmR R) r I2 J2)
  else r = some (.int (-1)) ∧ I2 = rf I 1 ∧ J2 = J
theorem c_ideal6 {n ne ni : Nat} {T : Nat → Int} {m x : Int} (rr : Rg n T) (hd : I 4 0 = nI n) (hT : ∀ t, t < 27 → J 8 t = lI (T t)) (hne : I 0 8 = nI ne) (h100 : ne ≤ 100) (hv : 0 ≤ x → x < ne → ∃ v : V3, bdV v 300 ∧ ∀ i, i < n → J 2 (3 * x.toNat + i) = lI (vk v i)) (hni : I 0 9 = nI ni) (h80 : ni ≤ 80) (hm : rgi m) (hx : rgi x) : Con (EC l D aI aL ad) M_X6_ideal yX6_ideal [.ref (ad 0), .int (iI m), .int (iI x)] I J (idC n ne ni T m x I J) := by
  refine Con.of (by decide +kernel) rfl (Nat.le_of_ble_eq_true rfl) ?_
  have h0 := rr.n
  have hnz : ¬ I 4 0 = 0 := by rw [hd]; rcases h0 with rfl | rfl <;> decide
  refine bX6_ideal_0 (fun _ => bX6_ideal_17 ?_) (fun c => absurd c hnz)
  refine v_X6_128 dX6_ideal_19 rfl ⟨rfl, rfl, Nat.le_of_ble_eq_true rfl, Nat.le_of_ble_eq_true rfl⟩ (c_isElement6) rfl rfl (Nat.le_of_ble_eq_true rfl) (fun r I1 J1 hp => ?_)
  obtain ⟨rfl, e2, e3⟩ := hp
  obtain rfl := e2.symm
  obtain rfl := e3.symm
  rw [hne, inB_I hx (m := ne) (by omega)]
  by_cases cx : 0 ≤ x ∧ x < ne
  rotate_left
  · rw [if_neg cx]
    refine bX6_ideal_22 (fun c => absurd rfl c) (fun _ => bX6_ideal_25 ?_)
    refine v_X6_59 dX6_ideal_27 rfl ⟨rfl, rfl, Nat.le_of_ble_eq_true rfl, Nat.le_of_ble_eq_true rfl⟩ (c_refused 1 (by decide) rfl) rfl rfl (Nat.le_of_ble_eq_true rfl) (fun r I1 J1 hp => ?_)
    obtain ⟨rfl, rfl, rfl⟩ := hp
    refine bX6_ideal_30 ?_
    unfold idC; rw [if_neg cx]; exact ⟨rfl, rfl, rfl⟩
  rw [if_pos cx]
  refine bX6_ideal_22 (fun _ => ?_) (fun c => absurd c (by decide))
  have em : (1 : Int32) ≤ iI m ↔ 1 ≤ m := iI_cle hm (k := 1) ⟨by omega, by omega⟩ rfl
  refine bX6_ideal_31 (fun c => ?_) (fun c => ?_)
  rotate_left
  · refine bX6_ideal_36 ?_
    refine v_X6_59 dX6_ideal_39 rfl ⟨rfl, rfl, Nat.le_of_ble_eq_true rfl, Nat.le_of_ble_eq_true rfl⟩ (c_refused 4 (by decide) rfl) rfl rfl (Nat.le_of_ble_eq_true rfl) (fun r I1 J1 hp => ?_)
    obtain ⟨rfl, rfl, rfl⟩ := hp
    refine bX6_ideal_42 ?_
    unfold idC; rw [if_pos cx, if_pos (by have : ¬ 1 ≤ m := fun q => c (em.mpr q); omega)]; exact ⟨rfl, rfl, rfl⟩
  have m1 := em.mp c
  have e6 : (iI m).toInt64 ≤ (1000000 : Int64) ↔ m ≤ 1000000 := by rw [iI_lI hm]; exact lI_le ⟨by have := hm.1; omega, by have := hm.2; omega⟩ (b := 1000000) ⟨by decide, by decide⟩
  refine bX6_ideal_43 (fun c => ?_) (fun c => ?_)
  rotate_left
  · refine bX6_ideal_52 ?_
    refine v_X6_59 dX6_ideal_55 rfl ⟨rfl, rfl, Nat.le_of_ble_eq_true rfl, Nat.le_of_ble_eq_true rfl⟩ (c_refused 6 (by decide) rfl) rfl rfl (Nat.le_of_ble_eq_true rfl) (fun r I1 J1 hp => ?_)
    obtain ⟨rfl, rfl, rfl⟩ := hp
    refine bX6_ideal_58 ?_
    unfold idC; rw [if_pos cx, if_neg (by omega), if_pos (by have : ¬ m ≤ 1000000 := fun q => c (e6.mpr q); omega)]; exact ⟨rfl, rfl, rfl⟩
  have m2 := e6.mp c
  obtain ⟨v, bv, hv⟩ := hv cx.1 cx.2
  refine bX6_ideal_59 ?_
  rw [iI_nat cx.1, show (3 : Int32) * nI x.toNat = nI (3 * x.toNat) from nI_mulE 3 _, iI_lI hm]
  refine v_X6_165 dX6_ideal_72 rfl ⟨rfl, rfl, Nat.le_of_ble_eq_true rfl, Nat.le_of_ble_eq_true rfl⟩ (c_makeLeast rr hd hT (by omega) m2 aJ_C2 (by decide) (by omega) (by simp [kC]) bv hv) rfl rfl (Nat.le_of_ble_eq_true rfl) (fun r I1 J1 hp => ?_)
  obtain ⟨rfl, s1, s2, R, L, hH⟩ := hp
  refine bX6_ideal_75 ?_
  refine v_X6_169 dX6_ideal_76 rfl ⟨rfl, rfl, Nat.le_of_ble_eq_true rfl, Nat.le_of_ble_eq_true rfl⟩ (c_keepIdeal (R := R) (fun t ht => (L.1 t ht).1) (fun t ht => ⟨(L.1 t ht).2.1, by have := (L.1 t ht).2.2; omega⟩) (by rw [s1 0 (by decide)]; exact hni) h80) rfl rfl (Nat.le_of_ble_eq_true rfl) (fun r I2 J2 hp => ?_)
  obtain ⟨z, rfl⟩ := hp.r
  refine bX6_ideal_79 ?_
  unfold idC; rw [if_pos cx, if_neg (by omega), if_neg (by omega)]
  exact ⟨I1, J1, R, s1, s2, L, ⟨v, bv, hv, hH⟩, hp⟩
theorem c_ideal7 {n ne ni : Nat} {T : Nat → Int} {m x : Int} (rr : Rg n T) (hd : I 0 1 = nI n) (hT : ∀ i j c, i < n → j < n → c < 3 → J 2 (9 * i + 3 * j + c) = lI (T (9 * i + 3 * j + c))) (hne : I 0 13 = nI ne) (h100 : ne ≤ 100) (hv : 0 ≤ x → x < ne → ∃ v : V3, bdV v 300 ∧ ∀ i, i < n → (I 3 (3 * x.toNat + i)).toInt64 = lI (vk v i)) (hni : I 0 14 = nI ni) (h80 : ni ≤ 80) (hm : rgi m) (hx : rgi x) : Con (ER l D aI aL ad) M_X7_ideal yX7_ideal [.ref (ad 0), .int (iI m), .int (iI x)] I J (idR7 n ne ni T m x I J) := by
  refine Con.of (by decide +kernel) rfl (Nat.le_of_ble_eq_true rfl) ?_
  have h0 := rr.n
  have hnz : ¬ I 0 1 ≤ 0 := by rw [hd]; rcases h0 with rfl | rfl <;> decide
  refine bX7_ideal_0 ?_
  refine v_X7_203 dX7_ideal_1 rfl ⟨rfl, rfl, Nat.le_of_ble_eq_true rfl, Nat.le_of_ble_eq_true rfl⟩ (c_isField) rfl rfl (Nat.le_of_ble_eq_true rfl) (fun r I1 J1 hp => ?_)
  obtain ⟨rfl, e2, e3⟩ := hp
  obtain rfl := e2.symm
  obtain rfl := e3.symm
  rw [if_neg hnz]
  refine bX7_ideal_4 (fun _ => bX7_ideal_14 ?_) (fun c => absurd c (by decide))
  refine v_X7_232 dX7_ideal_16 rfl ⟨rfl, rfl, Nat.le_of_ble_eq_true rfl, Nat.le_of_ble_eq_true rfl⟩ (c_isElement7) rfl rfl (Nat.le_of_ble_eq_true rfl) (fun r I1 J1 hp => ?_)
  obtain ⟨rfl, e2, e3⟩ := hp
  obtain rfl := e2.symm
  obtain rfl := e3.symm
  rw [hne, inB_I hx (m := ne) (by omega)]
  by_cases cx : 0 ≤ x ∧ x < ne
  rotate_left
  · rw [if_neg cx]
    refine bX7_ideal_19 (fun c => absurd rfl c) (fun _ => bX7_ideal_22 ?_)
    refine v_X7_84 dX7_ideal_24 rfl ⟨rfl, rfl, Nat.le_of_ble_eq_true rfl, Nat.le_of_ble_eq_true rfl⟩ (c_refuse 1 (by decide) rfl) rfl rfl (Nat.le_of_ble_eq_true rfl) (fun r I1 J1 hp => ?_)
    obtain ⟨rfl, rfl, rfl⟩ := hp
    refine bX7_ideal_27 ?_
    unfold idR7; rw [if_neg cx]; exact ⟨rfl, rfl, rfl⟩
  rw [if_pos cx]
  refine bX7_ideal_19 (fun _ => ?_) (fun c => absurd c (by decide))
  have em : (1 : Int32) ≤ iI m ↔ 1 ≤ m := iI_cle hm (k := 1) ⟨by omega, by omega⟩ rfl
  refine bX7_ideal_28 (fun c => ?_) (fun c => ?_)
  rotate_left
  · refine bX7_ideal_33 ?_
    refine v_X7_84 dX7_ideal_36 rfl ⟨rfl, rfl, Nat.le_of_ble_eq_true rfl, Nat.le_of_ble_eq_true rfl⟩ (c_refuse 4 (by decide) rfl) rfl rfl (Nat.le_of_ble_eq_true rfl) (fun r I1 J1 hp => ?_)
    obtain ⟨rfl, rfl, rfl⟩ := hp
    refine bX7_ideal_39 ?_
    unfold idR7; rw [if_pos cx, if_pos (by have : ¬ 1 ≤ m := fun q => c (em.mpr q); omega)]; exact ⟨rfl, rfl, rfl⟩
  have m1 := em.mp c
  have e6 : iI m ≤ (1000000 : Int32) ↔ m ≤ 1000000 := iI_lec hm (k := 1000000) ⟨by decide, by decide⟩ rfl
  refine bX7_ideal_40 (fun c => ?_) (fun c => ?_)
  rotate_left
  · refine bX7_ideal_46 ?_
    refine v_X7_84 dX7_ideal_49 rfl ⟨rfl, rfl, Nat.le_of_ble_eq_true rfl, Nat.le_of_ble_eq_true rfl⟩ (c_refuse 6 (by decide) rfl) rfl rfl (Nat.le_of_ble_eq_true rfl) (fun r I1 J1 hp => ?_)
    obtain ⟨rfl, rfl, rfl⟩ := hp
    refine bX7_ideal_52 ?_
    unfold idR7; rw [if_pos cx, if_neg (by omega), if_pos (by have : ¬ m ≤ 1000000 := fun q => c (e6.mpr q); omega)]; exact ⟨rfl, rfl, rfl⟩
  have m2 := e6.mp c
  obtain ⟨v, bv, hv⟩ := hv cx.1 cx.2
  refine bX7_ideal_53 ?_
  rw [iI_nat cx.1]
  refine v_X7_235 dX7_ideal_59 rfl ⟨rfl, rfl, Nat.le_of_ble_eq_true rfl, Nat.le_of_ble_eq_true rfl⟩ (c_brings10 (i := x.toNat) (by omega)) rfl rfl (Nat.le_of_ble_eq_true rfl) (fun r I1 Ja hp => ?_)
  obtain ⟨rfl, e2, u0, u1, u2, ga⟩ := hp
  obtain rfl := e2.symm
  have hxa : ∀ i, i < n → Ja 10 i = lI (vk v i) := by
    intro i hi
    rw [← hv i hi]
    rcases below3 (show i < 3 by omega) with rfl | rfl | rfl
    · exact u0
    · exact u1
    · exact u2
  refine bX7_ideal_62 ?_
  refine v_X7_225 dX7_ideal_67 rfl ⟨rfl, rfl, Nat.le_of_ble_eq_true rfl, Nat.le_of_ble_eq_true rfl⟩ (c_actsI rr hd (fun i j c h1 h2 h3 => by rw [ga 2 (by decide)]; exact hT i j c h1 h2 h3) hxa) rfl rfl (Nat.le_of_ble_eq_true rfl) (fun r I1 Jb hp => ?_)
  obtain ⟨rfl, e2, h9, gb⟩ := hp
  obtain rfl := e2.symm
  refine bX7_ideal_70 (v72 := nI 0) (v76 := nI 0) rfl rfl ?_
  have hr : ∀ u k, u < 3 → k < 3 → rg (vk (muv n T (eV u) v) k) := fun u k _ _ => bd_rg (vk_bd (muv_bd rr (eV_bd u) bv) k) (by decide)
  refine id_loop h0 hr n 0 (fun _ => (0, 0, 0)) (sa_uI I 0 27 (nI 0)) Jb (by omega) (by rw [sa_uI_off (by decide)]; exact hd) ⟨sa_uI_at, by decide, fun i hi => by omega⟩ h9 (fun g I1 J1 s1 f1 G1 _ hg => ?_)
  have s0 : SRI I I1 := SRI.tr ⟨fun q hq => sa_uI_ne hq, fun t ht => sa_uI_off ht⟩ s1
  refine bX7_ideal_135 ?_
  rw [iI_lI hm]
  refine v_X7_259 dX7_ideal_138 rfl ⟨rfl, rfl, Nat.le_of_ble_eq_true rfl, Nat.le_of_ble_eq_true rfl⟩ (c_triangleN h0 (W := m) (by rw [s0.2 1 (by decide)]; exact hd) G1 (by omega) m2) rfl rfl (Nat.le_of_ble_eq_true rfl) (fun r I2 J2 hp => ?_)
  obtain ⟨rfl, e2, f2, R, hm1, r2, hb, hR, hH⟩ := hp
  obtain rfl := e2.symm
  refine bX7_ideal_141 ?_
  refine v_X7_263 dX7_ideal_142 rfl ⟨rfl, rfl, Nat.le_of_ble_eq_true rfl, Nat.le_of_ble_eq_true rfl⟩ (c_keeps (R := R) h0 (by rw [s0.2 1 (by decide)]; exact hd) hR r2 (fun t ht => ⟨(hb t ht).1, by have := (hb t ht).2; omega⟩) (by rw [s0.2 14 (by decide)]; exact hni) h80) rfl rfl (Nat.le_of_ble_eq_true rfl) (fun r I3 J3 hp => ?_)
  obtain ⟨z, rfl⟩ := hp.r
  refine bX7_ideal_145 ?_
  unfold idR7; rw [if_pos cx, if_neg (by omega), if_neg (by omega)]
  refine ⟨I1, J2, R, s0, SR.of (fun q h9 h10 _ _ h13 h14 _ _ _ => ?_), ⟨hm1, r2, hR⟩, ⟨v, bv, hv, fun H gg => ?_⟩, hp⟩
  · rw [f2 q h13 h14, f1 q h13, gb q h9, ga q h10]
  · rw [hH H gg]
    exact ⟨fun h => ⟨h.1, fun i hi => by have := h.2 i hi; rw [hg i (by omega) hi] at this; exact this⟩, fun h => ⟨h.1, fun i hi => by rw [hg i (by omega) hi]; exact h.2 i hi⟩⟩
end ID
section SI
variable {l0 : Launch} {D : va_G} {aI aL : ClassId} {ad ad' : Nat → Nat} {I I' : sa_I} {J J' : sa_J} {N : sa_I → sa_J → sa_I → sa_J → Prop} {a1 a2 a3 : Int32} {n ne ni : Nat} {h d k l e Di dd : Int} {T Ev Rv : Nat → Int}
theorem lI_inj {a b : Int} (ha : rg a) (hb : rg b) (h : lI a = lI b) : a = b := (lI_eq ha hb).mp h
/-- an element's coordinates -/
theorem ElS.v (H : ElS n ne Ev I J I') {i : Nat} (hi : i < ne) (h3 : n ≤ 3) : bdV (Ev (3 * i), Ev (3 * i + 1), Ev (3 * i + 2)) 300 ∧ (∀ c, c < n → J 2 (3 * i + c) = lI (vk (Ev (3 * i), Ev (3 * i + 1), Ev (3 * i + 2)) c)) ∧ ∀ c, c < n → (I' 3 (3 * i + c)).toInt64 = lI (vk (Ev (3 * i), Ev (3 * i + 1), Ev (3 * i + 2)) c) := by
  obtain ⟨_, _, _, g, _⟩ := H
  have q0 := g (3 * i) (by omega)
  have q1 := g (3 * i + 1) (by omega)
  have q2 := g (3 * i + 2) (by omega)
  refine ⟨⟨q0.2.2, q1.2.2, q2.2.2⟩, fun c hc => ?_, fun c hc => ?_⟩
  · rcases below3 (show c < 3 by omega) with rfl | rfl | rfl
    · exact q0.1
    · exact q1.1
    · exact q2.1
  · rcases below3 (show c < 3 by omega) with rfl | rfl | rfl
    · show (I' 3 (3 * i)).toInt64 = lI (Ev (3 * i)); rw [q0.2.1, iI_lI (bd_i q0.2.2 (by decide))]
    · show (I' 3 (3 * i + 1)).toInt64 = lI (Ev (3 * i + 1)); rw [q1.2.1, iI_lI (bd_i q1.2.2 (by decide))]
    · show (I' 3 (3 * i + 2)).toInt64 = lI (Ev (3 * i + 2)); rw [q2.2.1, iI_lI (bd_i q2.2.2 (by decide))]
/-- what a step needs of the relation for ideals -/
def Nid (n ni : Nat) (T : Nat → Int) (N : sa_I → sa_J → sa_I → sa_J → Prop) (I : sa_I) (J : sa_J) (I' : sa_I) (J' : sa_J) : Prop :=
  (∀ I1 J1 I2 J2, SCI I I1 → SC J J1 → SRI I' I2 → SR J' J2 → N I1 J1 I2 J2) ∧
  (∀ j I1 J1 I2 J2, SCI I I1 → SC J J1 → SRI I' I2 → SR J' J2 → N (rf I1 j) J1 (rf I2 j) J2) ∧
  (∀ Rv' I3 J3 I4 J4, IdS n (ni + 1) T Rv' I3 J3 I4 → (∀ q, q ≠ 0 → q ≠ 14 → I3 q = I q) → (∀ t, t ≠ 9 → I3 0 t = I 0 t) → (∀ q, kC q → q ≠ 3 → J3 q = J q) → (∀ q, q ≠ 0 → q ≠ 4 → I4 q = I' q) → (∀ t, t ≠ 14 → t ≠ 27 → I4 0 t = I' 0 t) → SR J' J4 → N I3 J3 I4 J4)
theorem st_ideal (F : Fld n h d k l e Di dd T) (hc : clS n h d k l e Di dd T I J) (hr : rfS n h d k l e Di dd T I' J') (HE : ElS n ne Ev I J I') (HI : IdS n ni T Rv I J I') (hN : Nid n ni T N I J I' J') : la_Step l0 D aI aL ad ad' N 11 a1 a2 a3 I J I' J' := by
  obtain ⟨m, hm, rfl⟩ := iI_of a1
  obtain ⟨x, hx, rfl⟩ := iI_of a2
  have rr := F.rg
  have h0 := rr.n
  have hT6 : ∀ t, t < 27 → J 8 t = lI (T t) := hc.2.2.2.2.2.2
  have hT7 := hr.2.2.2.2.2.2.2.2
  have h3 : n ≤ 3 := by omega
  refine ⟨_, _, c_ideal6 rr hc.1 hT6 HE.2.1 HE.1 (fun h1 h2 => ⟨_, (HE.v (i := x.toNat) (by omega) h3).1, (HE.v (i := x.toNat) (by omega) h3).2.1⟩) HI.2.1 HI.1 hm hx, c_ideal7 rr hr.1 hT7 HE.2.2.1 HE.1 (fun h1 h2 => ⟨_, (HE.v (i := x.toNat) (by omega) h3).1, (HE.v (i := x.toNat) (by omega) h3).2.2⟩) HI.2.2.1 HI.1 hm hx, fun r1 I1 J1 r2 I2 J2 p q => ?_⟩
  unfold idC at p
  unfold idR7 at q
  by_cases cx : 0 ≤ x ∧ x < ne
  rotate_left
  · rw [if_neg cx] at p q
    obtain ⟨rfl, rfl, rfl⟩ := p
    obtain ⟨rfl, rfl, rfl⟩ := q
    exact ⟨⟨_, rfl, rfl⟩, hN.2.1 1 _ _ _ _ SCI.rfl' SC.rfl' SRI.rfl' SR.rfl'⟩
  rw [if_pos cx] at p q
  by_cases c1 : m < 1
  · rw [if_pos c1] at p q
    obtain ⟨rfl, rfl, rfl⟩ := p
    obtain ⟨rfl, rfl, rfl⟩ := q
    exact ⟨⟨_, rfl, rfl⟩, hN.2.1 4 _ _ _ _ SCI.rfl' SC.rfl' SRI.rfl' SR.rfl'⟩
  rw [if_neg c1] at p q
  by_cases c2 : 1000000 < m
  · rw [if_pos c2] at p q
    obtain ⟨rfl, rfl, rfl⟩ := p
    obtain ⟨rfl, rfl, rfl⟩ := q
    exact ⟨⟨_, rfl, rfl⟩, hN.2.1 6 _ _ _ _ SCI.rfl' SC.rfl' SRI.rfl' SR.rfl'⟩
  rw [if_neg c2] at p q
  obtain ⟨Ia, Ja, R, s1, s2, L, ⟨v, bv, hv, hH⟩, p⟩ := p
  obtain ⟨Ib, Jb, R', s3, s4, ⟨hm', r2', hR'⟩, ⟨v', bv', hv', hH'⟩, q⟩ := q
  have ev : ∀ c, c < n → vk v c = vk v' c := by
    intro c hcn
    have e1 := hv c hcn
    have e2 := hv' c hcn
    have e3 := (HE.v (i := x.toNat) (by omega) h3).2.1 c hcn
    have e4 := (HE.v (i := x.toNat) (by omega) h3).2.2 c hcn
    rw [e3] at e1
    rw [e4] at e2
    exact lI_inj (bd_rg (vk_bd bv c) (by decide)) (bd_rg (vk_bd bv' c) (by decide)) (e1.symm.trans e2)
  have em : ∀ H, Grp H → In3 H (smR n m) → ∀ i, i < n → (H (muv n T (eV i) v) ↔ H (muv n T (eV i) v')) := by
    intro H g hs i hi
    rcases h0 with rfl | rfl
    · have c : H (0, 0, 1) := hs.2.2
      rw [third (n := 2) g c (muv 2 T (eV i) v), third (n := 2) g c (muv 2 T (eV i) v')]
      have a0 : v.1 = v'.1 := ev 0 (by decide)
      have a1 : v.2.1 = v'.2.1 := ev 1 (by decide)
      rw [muv2, muv2, a0, a1]
    · have : v = v' := v3_ext (ev 0 (by decide)) (ev 1 (by decide)) (ev 2 (by decide))
      rw [this]
  have ha : Alike R R' := by
    intro H g
    rw [hH H g, hH' H g]
    constructor
    · rintro ⟨a, b⟩; exact ⟨a, fun i hi => (em H g a i hi).mp (b i hi)⟩
    · rintro ⟨a, b⟩; exact ⟨a, fun i hi => (em H g a i hi).mpr (b i hi)⟩
  have hid : Idl n T R := by
    refine idl_of_gens h0 (m := m) (S := fun z => ∃ i, i < n ∧ z = muv n T (eV i) v) (fun H g => ?_) ?_
    · rw [hH H g]
      constructor
      · rintro ⟨a, b⟩; exact ⟨a, by rintro z ⟨i, hi, rfl⟩; exact b i hi⟩
      · rintro ⟨a, b⟩; exact ⟨a, fun i hi => b _ ⟨i, hi, rfl⟩⟩
    · rintro z ⟨i, hi, rfl⟩ j hj
      have hs := (hH _ (Sp_grp R)).mp (Sp_in R)
      rw [← muv_assoc rr]
      refine (Sp_grp R).gen (fun u hu => ?_) _
      rcases h0 with rfl | rfl
      · by_cases c : u < 2
        · exact hs.2 u c
        · obtain rfl : u = 2 := by omega
          have c1 : Sp R (0, 0, 1) := hs.1.2.2
          have e2 : muv 2 T (eV 2) v = (0, 0, v.2.2 * 1) := by rw [muv_comm]; exact muv_e2 T v 1
          rw [e2]
          exact (Sp_grp R).co v.2.2 0 0 (Sp_grp R).1 c1 (Sp_grp R).1 (Sp_grp R).1 (by dsimp only; omega) (by dsimp only; omega) (by dsimp only; omega)
      · exact hs.2 u hu
  exact ki_two h0 HI s1 s2 s3 (fun t ht => (L.1 t ht).1) hR' L.2.1 hm' L.2.2 ha hid p q (hN.2.1 6 _ _ _ _ s1 s2 s3 s4) (fun Rv' I3 J3 I4 z1 z2 z3 z4 z5 z6 => hN.2.2 Rv' I3 J3 I4 _ z1 z2 z3 z4 z5 z6 s4)
end SI
