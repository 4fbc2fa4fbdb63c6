section MU
variable {l : Launch} {D : va_G} {aI aL : ClassId} {ad : Nat → Nat} {P : sa_P} {I : sa_I} {J : sa_J}
theorem c_normOfAll {E : sa_E} {n : Nat} {R : Nat → Int} (h0 : n = 2 ∨ n = 3) (r2 : R2 n R) {a0 q0 n0 : Nat} (hq0 : sa_iJ E a0 q0 n0) (hn0 : n0 < 2 ^ 31) (hb : 9 ≤ n0) (hR : ∀ t, t < 3 * n → J q0 t = lI (R t)) : Con E M_X7_normOfAll yX7_normOfAll [.ref a0, .int (nI n)] I J (p_l (lI (nmR R)) I J) := by
  refine Con.of (by decide +kernel) rfl (Nat.le_of_ble_eq_true rfl) ?_
  have m0 := hR 0 (by omega)
  have m4 := hR 4 (by omega)
  refine bX7_normOfAll_0 (v1 := lI 1) (v3 := nI 0) hq0 hn0 rfl rfl ?_
  refine bX7_normOfAll_5 hq0 hn0 (fun c => absurd c (by rw [nJ_le (by omega) (by decide)]; omega)) (fun _ => ?_)
  refine bX7_normOfAll_11 (j16 := 0) (v19 := lI (R 0)) (v20 := nI 1) hq0 hn0 rfl (by omega) (by rw [m0, lI_mul, Int.one_mul]) rfl ?_
  refine bX7_normOfAll_5 hq0 hn0 (fun c => absurd c (by rw [nJ_le (by omega) (by decide)]; omega)) (fun _ => ?_)
  refine bX7_normOfAll_11 (j16 := 4) (v19 := lI (R 0 * R 4)) (v20 := nI 2) hq0 hn0 rfl (by omega) (by rw [m4, lI_mul]) rfl ?_
  rcases h0 with rfl | rfl
  · refine bX7_normOfAll_5 hq0 hn0 (fun _ => bX7_normOfAll_26 ⟨?_, rfl, rfl⟩) (fun c => absurd (by decide) c)
    unfold nmR; rw [(r2 rfl).2.2, Int.mul_one]
  · refine bX7_normOfAll_5 hq0 hn0 (fun c => absurd c (by decide)) (fun _ => ?_)
    refine bX7_normOfAll_11 (j16 := 8) (v19 := lI (R 0 * R 4 * R 8)) (v20 := nI 3) hq0 hn0 rfl (by omega) (by rw [hR 8 (by decide), lI_mul]) rfl ?_
    exact bX7_normOfAll_5 hq0 hn0 (fun _ => bX7_normOfAll_26 ⟨rfl, rfl, rfl⟩) (fun c => absurd (by decide) c)
def oR (J J1 : sa_J) : Prop := ∀ q, q ≠ 10 → q ≠ 11 → q ≠ 12 → q ≠ 13 → J1 q = J q
theorem oR.tr {J J1 J2 : sa_J} (h : oR J J1) (g : oR J1 J2) : oR J J2 := fun q a b c d => (g q a b c d).trans (h q a b c d)
theorem oR.rfl' {J : sa_J} : oR J J := fun _ _ _ _ _ => rfl
theorem mm_in {n : Nat} {T X Y : Nat → Int} (rr : Rg n T) (tX : Tri X) (bX : ∀ i, i < 3 → bdV (rowV X i) 1000000) (bY : ∀ i, i < 3 → bdV (rowV Y i) 1000000) {u : Nat} (hu : u < n) : ∀ (d i0 many : Nat) (g : Nat → V3) (I : sa_I) (J : sa_J), i0 + d = n → many + d ≤ 20 → I 0 1 = nI n → (∀ i j c, i < n → j < n → c < 3 → J 2 (9 * i + 3 * j + c) = lI (T (9 * i + 3 * j + c))) → (∀ t, t < 3 * n → J 15 t = lI (X t)) → (∀ t, t < 3 * n → J 16 t = lI (Y t)) → GV many g I J → (∀ many' g' I' J', many' = many + d → SRI I I' → oR J J' → GV many' g' I' J' → (∀ H : V3 → Prop, (∀ i, i < many' → H (g' i)) ↔ ((∀ i, i < many → H (g i)) ∧ ∀ j, i0 ≤ j → j < n → H (muv n T (rowV X u) (rowV Y j)))) → Sat (ER l D aI aL ad) M_X7_multiplies P 102 [(0, .ref (ad 0)), (1, .int (nI u))] [] I' J') → Sat (ER l D aI aL ad) M_X7_multiplies P 17 [(0, .ref (ad 0)), (1, .int (nI u)), (2, .int (nI i0))] [] I J := by
  intro d
  have h0 := rr.n
  induction d with
  | zero =>
    intro i0 many g I J hd hm hI hT hX hY hG kk
    refine bX7_multiplies_17 (fun _ => kk many g I J rfl SRI.rfl' oR.rfl' hG (fun H => ⟨fun h => ⟨h, fun j h1 h2 => by omega⟩, fun h => h.1⟩)) (fun c => absurd ?_ c)
    rw [hI, nJ_le (by omega) (by omega)]; omega
  | succ d ih =>
    intro i0 many g I J hd hm hI hT hX hY hG kk
    refine bX7_multiplies_17 (fun c => absurd c (by rw [hI, nJ_le (by omega) (by omega)]; omega)) (fun _ => ?_)
    refine bX7_multiplies_25 (v26 := nI 0) rfl ?_
    have eu3 : (3 : Int32) * nI u = nI (3 * u) := nI_mulE 3 u
    have ei3 : (3 : Int32) * nI i0 = nI (3 * i0) := nI_mulE 3 i0
    refine bX7_multiplies_27 (fun c => absurd c (by decide)) (fun _ => ?_)
    refine bX7_multiplies_32 (j36 := 0) (j45 := 3 * u + 0) (v47 := lI (X (3 * u + 0))) (j52 := 0) (j61 := 3 * i0 + 0) (v63 := lI (Y (3 * i0 + 0))) (v64 := nI 1) rfl (by rw [eu3]; exact nI_addE _ _) (by omega) (by decide) rfl (by rw [ei3]; exact nI_addE _ _) (by omega) (by decide) (hX _ (by omega)) (by simp only [sa_uJ_ne (show 16 ≠ 10 by decide)]; exact hY _ (by omega)) rfl ?_
    refine bX7_multiplies_27 (fun c => absurd c (by decide)) (fun _ => ?_)
    refine bX7_multiplies_32 (j36 := 1) (j45 := 3 * u + 1) (v47 := lI (X (3 * u + 1))) (j52 := 1) (j61 := 3 * i0 + 1) (v63 := lI (Y (3 * i0 + 1))) (v64 := nI 2) rfl (by rw [eu3]; exact nI_addE _ _) (by omega) (by decide) rfl (by rw [ei3]; exact nI_addE _ _) (by omega) (by decide) (by simp only [sa_uJ_ne (show 15 ≠ 10 by decide), sa_uJ_ne (show 15 ≠ 11 by decide)]; exact hX _ (by omega)) (by simp only [sa_uJ_ne (show 16 ≠ 10 by decide), sa_uJ_ne (show 16 ≠ 11 by decide)]; exact hY _ (by omega)) rfl ?_
    refine bX7_multiplies_27 (fun c => absurd c (by decide)) (fun _ => ?_)
    refine bX7_multiplies_32 (j36 := 2) (j45 := 3 * u + 2) (v47 := lI (X (3 * u + 2))) (j52 := 2) (j61 := 3 * i0 + 2) (v63 := lI (Y (3 * i0 + 2))) (v64 := nI 3) rfl (by rw [eu3]; exact nI_addE _ _) (by omega) (by decide) rfl (by rw [ei3]; exact nI_addE _ _) (by omega) (by decide) (by simp only [sa_uJ_ne (show 15 ≠ 10 by decide), sa_uJ_ne (show 15 ≠ 11 by decide)]; exact hX _ (by omega)) (by simp only [sa_uJ_ne (show 16 ≠ 10 by decide), sa_uJ_ne (show 16 ≠ 11 by decide)]; exact hY _ (by omega)) rfl ?_
    refine bX7_multiplies_27 (fun _ => ?_) (fun c => absurd (by decide) c)
    refine bX7_multiplies_70 ?_
    refine v_X7_229 dX7_multiplies_71 rfl ⟨rfl, rfl, Nat.le_of_ble_eq_true rfl, Nat.le_of_ble_eq_true rfl⟩ (c_prodI rr hI (x := rowV X u) (y := rowV Y i0) (fun i j c h1 h2 h3 => by simp only [sa_uJ_ne (show 2 ≠ 10 by decide), sa_uJ_ne (show 2 ≠ 11 by decide)]; exact hT i j c h1 h2 h3) (fun i hi => by rcases below3 (show i < 3 by omega) with rfl | rfl | rfl <;> simp [sa_uJ_if, vk, rowV]) (fun i hi => by rcases below3 (show i < 3 by omega) with rfl | rfl | rfl <;> simp [sa_uJ_if, vk, rowV])) rfl rfl (Nat.le_of_ble_eq_true rfl) (fun r I1 J1 hp => ?_)
    obtain ⟨rfl, e2, z12, zz, f1⟩ := hp
    obtain rfl := e2.symm
    refine bX7_multiplies_74 ?_
    have fJ : oR J J1 := fun q h10 h11 h12 h13 => by rw [f1 q h12]; simp only [sa_uJ_ne h10, sa_uJ_ne h11]
    have hG1 : GV many g I J1 := ⟨hG.1, hG.2.1, fun i hi c hc => by rw [f1 13 (by decide)]; simp only [sa_uJ_ne (show 13 ≠ 10 by decide), sa_uJ_ne (show 13 ≠ 11 by decide)]; exact hG.2.2 i hi c hc⟩
    have bv := muv_bd rr (bX u (by omega)) (bY i0 (by omega))
    have z2 : J1 12 2 = lI (muv n T (rowV X u) (rowV Y i0)).2.2 := by
      rcases h0 with h | h
      · rw [zz h]
        subst h
        have hu' : u = 0 ∨ u = 1 := by omega
        have e : (rowV X u).2.2 = 0 := by
          rcases hu' with rfl | rfl
          · exact tX.2.1
          · exact tX.2.2.1
        rw [muv2]; show (0 : Int64) = lI ((rowV X u).2.2 * (rowV Y i0).2.2)
        rw [e, Int.zero_mul]; rfl
      · exact z12 2 (by omega)
    refine v_X7_255 dX7_multiplies_93 rfl ⟨rfl, rfl, Nat.le_of_ble_eq_true rfl, Nat.le_of_ble_eq_true rfl⟩ (c_gives (v := muv n T (rowV X u) (rowV Y i0)) hG1 (by omega) (z12 0 (by omega)) (z12 1 (by omega)) z2 (fun c _ => bd_rg (vk_bd bv c) (by decide))) rfl rfl (Nat.le_of_ble_eq_true rfl) (fun r I2 J2 hp => ?_)
    obtain ⟨rfl, s2, f2, G2⟩ := hp
    refine bX7_multiplies_96 (v96 := nI (i0 + 1)) (nI_addE i0 1) ?_
    have fJ2 : oR J J2 := fun q h10 h11 h12 h13 => (f2 q h13).trans (fJ q h10 h11 h12 h13)
    refine ih (i0 + 1) (many + 1) _ I2 J2 (by omega) (by omega) (by rw [s2.2 1 (by decide)]; exact hI) (fun i j c h1 h2 h3 => by rw [fJ2 2 (by decide) (by decide) (by decide) (by decide)]; exact hT i j c h1 h2 h3) (fun t ht => by rw [fJ2 15 (by decide) (by decide) (by decide) (by decide)]; exact hX t ht) (fun t ht => by rw [fJ2 16 (by decide) (by decide) (by decide) (by decide)]; exact hY t ht) G2 (fun many' g' I' J' em s' f' G' H' => kk many' g' I' J' (by omega) (s2.tr s') (fJ2.tr f') G' (fun H => ?_))
    rw [H' H, updG_all]
    constructor
    · rintro ⟨⟨a, b⟩, c⟩
      refine ⟨a, fun i h1 h2 => ?_⟩
      by_cases h : i = i0
      · subst h; exact b
      · exact c i (by omega) h2
    · rintro ⟨a, b⟩
      exact ⟨⟨a, b i0 (Nat.le_refl _) (by omega)⟩, fun i h1 h2 => b i (by omega) h2⟩
theorem mm_out {n : Nat} {T X Y : Nat → Int} (rr : Rg n T) (tX : Tri X) (bX : ∀ i, i < 3 → bdV (rowV X i) 1000000) (bY : ∀ i, i < 3 → bdV (rowV Y i) 1000000) : ∀ (d i0 many : Nat) (g : Nat → V3) (I : sa_I) (J : sa_J), i0 + d = n → many + n * d ≤ 20 → I 0 1 = nI n → (∀ i j c, i < n → j < n → c < 3 → J 2 (9 * i + 3 * j + c) = lI (T (9 * i + 3 * j + c))) → (∀ t, t < 3 * n → J 15 t = lI (X t)) → (∀ t, t < 3 * n → J 16 t = lI (Y t)) → GV many g I J → (∀ many' g' I' J', SRI I I' → oR J J' → GV many' g' I' J' → (∀ H : V3 → Prop, (∀ i, i < many' → H (g' i)) ↔ ((∀ i, i < many → H (g i)) ∧ ∀ i, i0 ≤ i → i < n → ∀ j, j < n → H (muv n T (rowV X i) (rowV Y j)))) → Sat (ER l D aI aL ad) M_X7_multiplies P 108 [(0, .ref (ad 0))] [] I' J') → Sat (ER l D aI aL ad) M_X7_multiplies P 7 [(0, .ref (ad 0)), (1, .int (nI i0))] [] I J := by
  intro d
  have h0 := rr.n
  induction d with
  | zero =>
    intro i0 many g I J hd hm hI hT hX hY hG kk
    refine bX7_multiplies_7 (fun _ => kk many g I J SRI.rfl' oR.rfl' hG (fun H => ⟨fun h => ⟨h, fun j h1 h2 => by omega⟩, fun h => h.1⟩)) (fun c => absurd ?_ c)
    rw [hI, nJ_le (by omega) (by omega)]; omega
  | succ d ih =>
    intro i0 many g I J hd hm hI hT hX hY hG kk
    have hm' : n * (d + 1) = n * d + n := Nat.mul_succ n d
    refine bX7_multiplies_7 (fun c => absurd c (by rw [hI, nJ_le (by omega) (by omega)]; omega)) (fun _ => ?_)
    refine bX7_multiplies_15 (v16 := nI 0) rfl ?_
    refine mm_in rr tX bX bY (u := i0) (by omega) n 0 many g I J (by omega) (by omega) hI hT hX hY hG (fun many2 g2 I2 J2 em s2 fJ2 G2 H2 => ?_)
    refine bX7_multiplies_102 (v102 := nI (i0 + 1)) (nI_addE i0 1) ?_
    refine ih (i0 + 1) many2 g2 I2 J2 (by omega) (by omega) (by rw [s2.2 1 (by decide)]; exact hI) (fun i j c h1 h2 h3 => by rw [fJ2 2 (by decide) (by decide) (by decide) (by decide)]; exact hT i j c h1 h2 h3) (fun t ht => by rw [fJ2 15 (by decide) (by decide) (by decide) (by decide)]; exact hX t ht) (fun t ht => by rw [fJ2 16 (by decide) (by decide) (by decide) (by decide)]; exact hY t ht) G2 (fun many' g' I' J' s' f' G' H' => kk many' g' I' J' (s2.tr s') (fJ2.tr f') G' (fun H => ?_))
    rw [H' H, H2 H]
    constructor
    · rintro ⟨⟨a, b⟩, c⟩
      refine ⟨a, fun i h1 h2 => ?_⟩
      by_cases h : i = i0
      · subst h; exact fun j hj => b j (by omega) hj
      · exact c i (by omega) h2
    · rintro ⟨a, b⟩
      exact ⟨⟨a, fun j _ hj => b i0 (Nat.le_refl _) (by omega) j hj⟩, fun i h1 h2 => b i (by omega) h2⟩
theorem c_multiplies {n : Nat} {T X Y : Nat → Int} (rr : Rg n T) (hI : I 0 1 = nI n) (okX : okR n X) (okY : okR n Y) (hW : nmR X * nmR Y ≤ 1000000) (hT : ∀ i j c, i < n → j < n → c < 3 → J 2 (9 * i + 3 * j + c) = lI (T (9 * i + 3 * j + c))) (hX : ∀ t, t < 3 * n → J 15 t = lI (X t)) (hY : ∀ t, t < 3 * n → J 16 t = lI (Y t)) : Con (ER l D aI aL ad) M_X7_multiplies yX7_multiplies [.ref (ad 0)] I J (fun r I1 J1 => r = none ∧ SRI I I1 ∧ (∀ q, q ≠ 10 → q ≠ 11 → q ≠ 12 → q ≠ 13 → q ≠ 14 → J1 q = J q) ∧ ∃ R, Hm R ∧ R2 n R ∧ (∀ t, t < 9 → 0 ≤ R t ∧ R t ≤ nmR X * nmR Y) ∧ (∀ t, t < 3 * n → J1 14 t = lI (R t)) ∧ ∀ H, Grp H → (In3 H R ↔ (In3 H (smR n (nmR X * nmR Y)) ∧ ∀ i, i < n → ∀ j, j < n → H (muv n T (rowV X i) (rowV Y j))))) := by
  refine Con.of (by decide +kernel) rfl (Nat.le_of_ble_eq_true rfl) ?_
  have h0 := rr.n
  have pos : ∀ {R : Nat → Int}, okR n R → 0 < nmR R := fun h => Int.mul_pos (Int.mul_pos h.1.1.2.2.2.1 h.1.1.2.2.2.2.1) h.1.1.2.2.2.2.2
  have h20 : 0 + n * n ≤ 20 := by rcases h0 with rfl | rfl <;> decide
  refine bX7_multiplies_0 (v2 := nI 0) (v6 := nI 0) rfl rfl ?_
  refine mm_out rr okX.1.1 (fun i hi => okX.row hi) (fun i hi => okY.row hi) n 0 0 (fun _ => (0, 0, 0)) (sa_uI I 0 27 (nI 0)) J (by omega) h20 (by rw [sa_uI_off (by decide)]; exact hI) hT hX hY ⟨sa_uI_at, by decide, fun i hi => by omega⟩ (fun many g I1 J1 s1 f1 G1 H1 => ?_)
  have s0 : SRI I I1 := SRI.tr ⟨fun q hq => sa_uI_ne hq, fun t ht => sa_uI_off ht⟩ s1
  have hI1 : I1 0 1 = nI n := by rw [s0.2 1 (by decide)]; exact hI
  refine bX7_multiplies_108 ?_
  rw [hI1]
  refine v_X7_267 dX7_multiplies_117 rfl ⟨rfl, rfl, Nat.le_of_ble_eq_true rfl, Nat.le_of_ble_eq_true rfl⟩ (c_normOfAll (R := X) h0 okX.2.1 aJ_R15 (by decide) (by decide) (fun t ht => by rw [f1 15 (by decide) (by decide) (by decide) (by decide)]; exact hX t ht)) rfl rfl (Nat.le_of_ble_eq_true rfl) (fun r I2 J2 hp => ?_)
  obtain ⟨rfl, e2, e3⟩ := hp
  obtain rfl := e2.symm
  obtain rfl := e3.symm
  refine bX7_multiplies_120 ?_
  rw [hI1]
  refine v_X7_267 dX7_multiplies_128 rfl ⟨rfl, rfl, Nat.le_of_ble_eq_true rfl, Nat.le_of_ble_eq_true rfl⟩ (c_normOfAll (R := Y) h0 okY.2.1 aJ_R16 (by decide) (by decide) (fun t ht => by rw [f1 16 (by decide) (by decide) (by decide) (by decide)]; exact hY t ht)) rfl rfl (Nat.le_of_ble_eq_true rfl) (fun r I2 J2 hp => ?_)
  obtain ⟨rfl, e2, e3⟩ := hp
  obtain rfl := e2.symm
  obtain rfl := e3.symm
  refine bX7_multiplies_131 ?_
  rw [lI_mul]
  refine v_X7_259 dX7_multiplies_132 rfl ⟨rfl, rfl, Nat.le_of_ble_eq_true rfl, Nat.le_of_ble_eq_true rfl⟩ (c_triangleN h0 (W := nmR X * nmR Y) hI1 G1 (Int.mul_pos (pos okX) (pos okY)) hW) rfl rfl (Nat.le_of_ble_eq_true rfl) (fun r I2 J2 hp => ?_)
  obtain ⟨rfl, e2, f2, R, hm1, r2, hb, hR, hH⟩ := hp
  obtain rfl := e2.symm
  refine bX7_multiplies_135 ⟨rfl, s0, fun q h10 h11 h12 h13 h14 => by rw [f2 q h13 h14, f1 q h10 h11 h12 h13], R, hm1, r2, hb, hR, fun H gg => ?_⟩
  rw [hH H gg, H1 H]
  exact ⟨fun h => ⟨h.1, fun i hi => h.2.2 i (by omega) hi⟩, fun h => ⟨h.1, fun i hi => by omega, fun i _ hi => h.2 i hi⟩⟩
end MU
/-- what a product's rows say -/
def Prod2 (n : Nat) (T X Y R : Nat → Int) : Prop := ∀ H, Grp H → (In3 H R ↔ ((n = 2 → H (0, 0, 1)) ∧ ∀ i, i < n → ∀ j, j < n → H (muv n T (rowV X i) (rowV Y j))))
/-- if a group has all products of rows, it has all products -/
theorem prod_all {n : Nat} {T X Y : Nat → Int} (h0 : n = 2 ∨ n = 3) (tX : Tri X) (rX : R2 n X) (tY : Tri Y) (rY : R2 n Y) {H : V3 → Prop} (g : Grp H) (h1 : n = 2 → H (0, 0, 1)) (h : ∀ i, i < n → ∀ j, j < n → H (muv n T (rowV X i) (rowV Y j))) {x y : V3} (sx : Sp X x) (sy : Sp Y y) : H (muv n T x y) := by
  have k3 : ∀ w, n = 2 → H (muv n T w (0, 0, 1)) := by
    intro w hn
    subst hn
    rw [muv_e2]
    exact g.co w.2.2 0 0 g.1 (h1 rfl) g.1 g.1 (by dsimp only; omega) (by dsimp only; omega) (by dsimp only; omega)
  have step : ∀ i, i < n → H (muv n T (rowV X i) y) := by
    intro i hi
    exact In3.sp (g.div n T (rowV X i)) ((in3_rowsN h0 tY rY _ (k3 _)).mpr (h i hi)) sy
  rw [muv_comm]
  refine In3.sp (g.div n T y) ((in3_rowsN h0 tX rX _ (k3 _)).mpr (fun i hi => ?_)) sx
  rw [muv_comm]; exact step i hi
/-- a multiple of the first numbers is in a product -/
theorem prod_sm {n : Nat} {T X Y : Nat → Int} (rr : Rg n T) (okX : okR n X) (okY : okR n Y) {H : V3 → Prop} (g : Grp H) (h1 : n = 2 → H (0, 0, 1)) (h : ∀ i, i < n → ∀ j, j < n → H (muv n T (rowV X i) (rowV Y j))) (k : Int) : In3 H (smR n (X 0 * Y 0 * k)) := by
  have h0 := rr.n
  have pa := fun {x y : V3} (sx : Sp X x) (sy : Sp Y y) => prod_all h0 okX.1.1 okX.2.1 okY.1.1 okY.2.1 g h1 h sx sy
  have sx : Sp X (X 0, 0, 0) := (Sp_in X).1
  have a := pa sx okY.2.2.1.1
  have b := pa sx okY.2.2.1.2.1
  have c := pa sx okY.2.2.1.2.2
  rcases rr with ⟨rfl, p, q, rfl, _, _⟩ | ⟨rfl, s, rfl, _, _⟩
  · rw [muv2] at a b
    refine ⟨?_, ?_, h1 rfl⟩
    · exact g.co k 0 0 g.1 a g.1 g.1 (by show X 0 * Y 0 * k = _; grind) (by show (0 : Int) = _; grind) (by show (0 : Int) = _; grind)
    · exact g.co k 0 0 g.1 b g.1 g.1 (by show (0 : Int) = _; grind) (by show X 0 * Y 0 * k = _; grind) (by show (0 : Int) = _; grind)
  · rw [muv3] at a b c
    simp only [mu3] at a b c
    refine ⟨?_, ?_, ?_⟩
    · exact g.co k 0 0 g.1 a g.1 g.1 (by show X 0 * Y 0 * k = _; grind) (by show (0 : Int) = _; grind) (by show (0 : Int) = _; grind)
    · exact g.co k 0 0 g.1 b g.1 g.1 (by show (0 : Int) = _; grind) (by show X 0 * Y 0 * k = _; grind) (by show (0 : Int) = _; grind)
    · exact g.co k 0 0 g.1 c g.1 g.1 (by show (0 : Int) = _; grind) (by show (0 : Int) = _; grind) (by show X 0 * Y 0 * k = _; grind)
theorem sm_third {n : Nat} {m : Int} {H : V3 → Prop} (h : In3 H (smR n m)) : n = 2 → H (0, 0, 1) := fun hn => by
  have := h.2.2
  subst hn; exact this
theorem prod2_of {n : Nat} {T X Y R : Nat → Int} (rr : Rg n T) (okX : okR n X) (okY : okR n Y) (k : Int) (h : ∀ H, Grp H → (In3 H R ↔ (In3 H (smR n (X 0 * Y 0 * k)) ∧ ∀ i, i < n → ∀ j, j < n → H (muv n T (rowV X i) (rowV Y j))))) : Prod2 n T X Y R := by
  intro H g
  rw [h H g]
  exact ⟨fun q => ⟨sm_third q.1, q.2⟩, fun q => ⟨prod_sm rr okX okY g q.1 q.2 k, q.2⟩⟩
theorem Prod2.alike {n : Nat} {T X Y R R' : Nat → Int} (h : Prod2 n T X Y R) (h' : Prod2 n T X Y R') : Alike R R' := fun H g => (h H g).trans (h' H g).symm
theorem Prod2.idl {n : Nat} {T X Y R : Nat → Int} (rr : Rg n T) (okX : okR n X) (okY : okR n Y) (iX : Idl n T X) (h : Prod2 n T X Y R) : Idl n T R := by
  have h0 := rr.n
  have g := Sp_grp R
  have hs := (h _ g).mp (Sp_in R)
  refine idl_of (fun w => ?_)
  rw [h _ (g.div n T w)]
  refine ⟨fun hn => ?_, fun i hi j hj => ?_⟩
  · subst hn
    show Sp R (muv 2 T w (0, 0, 1))
    rw [muv_e2]
    exact g.co w.2.2 0 0 g.1 (hs.1 rfl) g.1 g.1 (by dsimp only; omega) (by dsimp only; omega) (by dsimp only; omega)
  · show Sp R (muv n T w (muv n T (rowV X i) (rowV Y j)))
    rw [← muv_assoc rr]
    exact prod_all h0 okX.1.1 okX.2.1 okY.1.1 okY.2.1 g hs.1 hs.2 (iX w _ ((in3_rows okX.1.1 _).mp (Sp_in X) i (by omega))) ((in3_rows okY.1.1 _).mp (Sp_in Y) j (by omega))
