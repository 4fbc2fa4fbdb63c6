/-- the class's lattice at work: rows and carry -/
def LM (n : Nat) (W : Int) (R C : Nat → Int) (J : sa_J) : Prop := J 14 3 = lI W ∧ (∀ t, t < 9 → J 15 t = lI (R t) ∧ 0 ≤ R t ∧ R t ≤ W) ∧ ∀ t, t < n → J 16 t = lI (C t) ∧ 0 ≤ C t ∧ C t ≤ W
theorem lI_ne0 {a : Int} (h : rg a) (h0 : a ≠ 0) : ¬ lI a = 0 := fun q => h0 ((lI_eq h (b := 0) ⟨by omega, by omega⟩).mp q)
theorem quo_bd {a b W : Int} (ha : 0 ≤ a) (ha2 : a ≤ W) (hb : 0 < b) : 0 ≤ a / b ∧ a / b ≤ W := by
  refine ⟨Int.ediv_nonneg ha (by omega), ?_⟩
  have h1 := Int.ediv_nonneg ha (show 0 ≤ b by omega)
  have h2 := Int.mul_ediv_add_emod a b
  have h3 := Int.emod_nonneg a (show b ≠ 0 by omega)
  have h4 : 1 * (a / b) ≤ b * (a / b) := Int.mul_le_mul_of_nonneg_right (by omega) h1
  omega
theorem qc_bd {q c W : Int} (hq : 0 ≤ q ∧ q ≤ W) (hc : 0 ≤ c ∧ c ≤ W) (hW : W ≤ 1000000) : 0 ≤ q * c ∧ q * c ≤ 1000000000000 := by
  refine ⟨Int.mul_nonneg hq.1 hc.1, ?_⟩
  have : q * c ≤ 1000000 * 1000000 := Int.mul_le_mul (by omega) (by omega) hc.1 (by omega)
  omega
theorem mod_bd {a W : Int} (hW : 0 < W) : 0 ≤ a % W ∧ a % W ≤ W := ⟨Int.emod_nonneg a (by omega), by have := Int.emod_lt_of_pos a hW; omega⟩
theorem lI_quo {a b : Int} (ha : 0 ≤ a) (ha2 : a ≤ 1000000) (hb : 0 < b) (hb2 : b ≤ 1000000) : lI a / lI b = lI (a / b) := by
  rw [lI_div ⟨by omega, by omega⟩ ⟨by omega, by omega⟩ hb, Int.tdiv_eq_ediv_of_nonneg ha]
section IN
variable {l : Launch} {D : va_G} {aI aL : ClassId} {ad : Nat → Nat} {P : sa_P} {I : sa_I}
theorem c_floorModE {E : sa_E} {I : sa_I} {J : sa_J} {a W z : Int} {x y : Int64} (hx : x = lI a) (hy : y = lI W) (ha : rg a) (hW0 : 0 < W) (hW : W ≤ 1000000) (hz : a % W = z) : Con E M_J9_floorMod_f86c9 yJ9_floorMod_f86c9 [.long x, .long y] I J (p_l (lI z) I J) := by
  subst hz; subst hx; subst hy
  exact c_floorMod ha ⟨by omega, by omega⟩ hW0
theorem in_loop0 {n : Nat} {W : Int} (hn : 0 < n) (hn3 : n ≤ 3) (hW0 : 0 < W) (hW : W ≤ 1000000) : ∀ (f st : Nat) (R C : Nat → Int) (J : sa_J), eu f (R 0) (C 0) → st + f ≤ 999 → 0 < R 0 → LM n W R C J → (∀ (R' C' : Nat → Int) (J' : sa_J), 0 < R' 0 → LM n W R' C' J' → C' 0 = 0 → (R' 1 = R 1 ∧ R' 2 = R 2 ∧ R' 3 = R 3 ∧ R' 4 = R 4 ∧ R' 5 = R 5 ∧ R' 6 = R 6 ∧ R' 7 = R 7 ∧ R' 8 = R 8) → (C' 1 = C 1 ∧ C' 2 = C 2) → (∀ q, q ≠ 15 → q ≠ 16 → J' q = J q) → (∀ H, Grp H → ((H (R 0, 0, 0) ∧ H (C 0, 0, 0)) ↔ (H (R' 0, 0, 0) ∧ H (C' 0, 0, 0)))) → Sat (EC l D aI aL ad) M_X3_include P 212 [(0, .ref (ad 14)), (3, .int (nI 0))] [] I J') → Sat (EC l D aI aL ad) M_X3_include P 63 [(0, .ref (ad 14)), (3, .int (nI 0)), (4, .int (nI 0)), (5, .int (nI st))] [] I J := by
  intro f
  induction f with
  | zero =>
    intro st R C J he hs hp hM k
    refine bX3_include_63 (fun c => absurd ((nJ_le (a := 1000) (by decide) (by omega)).mp c) (by omega)) (fun _ => ?_)
    refine bX3_include_71 (j75 := 0) rfl (by decide) (fun _ => k R C J hp hM he ⟨rfl, rfl, rfl, rfl, rfl, rfl, rfl, rfl⟩ ⟨rfl, rfl⟩ (fun q _ _ => rfl) (fun H _ => Iff.rfl)) (fun c => absurd ?_ c)
    rw [(hM.2.2 0 hn).1, he]; rfl
  | succ f ih =>
    intro st R C J he hs hp hM k
    refine bX3_include_63 (fun c => absurd ((nJ_le (a := 1000) (by decide) (by omega)).mp c) (by omega)) (fun _ => ?_)
    obtain ⟨hw, hR, hC⟩ := hM
    obtain ⟨cm, cl, cu⟩ := hC 0 hn
    have crg : rg (C 0) := ⟨by omega, by omega⟩
    refine bX3_include_71 (j75 := 0) rfl (by decide) (fun c => ?_) (fun c => ?_)
    · rw [cm] at c
      have c0 := (lI_eq crg (b := 0) ⟨by omega, by omega⟩).mp c
      exact k R C J hp ⟨hw, hR, hC⟩ c0 ⟨rfl, rfl, rfl, rfl, rfl, rfl, rfl, rfl⟩ ⟨rfl, rfl⟩ (fun q _ _ => rfl) (fun H _ => Iff.rfl)
    · have c0 : C 0 ≠ 0 := fun q => c (by rw [cm, q]; rfl)
      rw [cm] at c
      have e2 : eu f (C 0) (R 0 % C 0) := he.resolve_left c0
      obtain ⟨rm, rl, ru⟩ := hR 0 (by decide)
      have hq := quo_bd (b := C 0) rl ru (by omega)
      have hdm := Int.mul_ediv_add_emod (R 0) (C 0)
      have hmc := Int.mul_comm (C 0) (R 0 / C 0)
      have hm0 := Int.emod_nonneg (R 0) c0
      have hm1 := Int.emod_lt_of_pos (R 0) (show 0 < C 0 by omega)
      have eq : lI (R 0) / lI (C 0) = lI (R 0 / C 0) := lI_quo rl (by omega) (by omega) (by omega)
      generalize hqe : R 0 / C 0 = q at *
      have er : R 0 % C 0 = R 0 - q * C 0 := by omega
      rw [er] at e2
      refine bX3_include_82 (j89 := 0) (j95 := 0) (v98 := lI q) (v101 := nI 0) rfl (by decide) rfl (by decide) (by rw [cm]; exact c) (by rw [rm, cm, eq]) rfl ?_
      refine bX3_include_103 (fun _ => ?_) (fun c => absurd (by decide) c)
      have hbp := qc_bd hq ⟨cl, cu⟩ hW
      refine bX3_include_166 (j170 := 0) (j178 := 0) (j186 := 0) (j202 := 0) (v172 := lI (C 0)) (v194 := lI (R 0 - q * C 0)) (v206 := nI (st + 1)) rfl (by decide) rfl rfl (by decide) (by decide) rfl (by decide) (cm) (by rw [rm, lI_mul, lI_sub]) (nI_addE st 1) ?_
      refine ih (st + 1) (fun t => match t with | 0 => C 0 | _ => R t) (fun t => match t with  | 0 => R 0 - q * C 0 | _ => C t) _ e2 (by omega) (show 0 < C 0 by omega) ⟨by simp [sa_uJ_if, hw], ?_, ?_⟩ ?_
      · intro t ht
        rcases below9 ht with rfl | rfl | rfl | rfl | rfl | rfl | rfl | rfl | rfl
        · exact ⟨by simp [sa_uJ_if], cl, cu⟩
        · obtain ⟨a, b, c⟩ := hR 1 (by decide); exact ⟨by simp [sa_uJ_if, a], b, c⟩
        · obtain ⟨a, b, c⟩ := hR 2 (by decide); exact ⟨by simp [sa_uJ_if, a], b, c⟩
        · obtain ⟨a, b, c⟩ := hR 3 (by decide); exact ⟨by simp [sa_uJ_if, a], b, c⟩
        · obtain ⟨a, b, c⟩ := hR 4 (by decide); exact ⟨by simp [sa_uJ_if, a], b, c⟩
        · obtain ⟨a, b, c⟩ := hR 5 (by decide); exact ⟨by simp [sa_uJ_if, a], b, c⟩
        · obtain ⟨a, b, c⟩ := hR 6 (by decide); exact ⟨by simp [sa_uJ_if, a], b, c⟩
        · obtain ⟨a, b, c⟩ := hR 7 (by decide); exact ⟨by simp [sa_uJ_if, a], b, c⟩
        · obtain ⟨a, b, c⟩ := hR 8 (by decide); exact ⟨by simp [sa_uJ_if, a], b, c⟩
      · intro t ht
        rcases below3 (show t < 3 by omega) with rfl | rfl | rfl
        · exact ⟨by simp [sa_uJ_if], show 0 ≤ R 0 - q * C 0 by omega, show R 0 - q * C 0 ≤ W by omega⟩
        · obtain ⟨a, b, c⟩ := hC 1 (by omega); exact ⟨by simp [sa_uJ_if, a], b, c⟩
        · obtain ⟨a, b, c⟩ := hC 2 (by omega); exact ⟨by simp [sa_uJ_if, a], b, c⟩
      · intro R' C' J' p' M' z' s' sc' fr' r'
        refine k R' C' J' p' M' z' s' sc' (fun q h1 h2 => ?_) (fun H g => ?_)
        · rw [fr' q h1 h2]; simp only [sa_uJ_ne h1, sa_uJ_ne h2]
        · exact (st_H0 g (q := q)).trans (r' H g)
theorem in_loop1 {n : Nat} {W : Int} (hn : 1 < n) (hn3 : n ≤ 3) (hW0 : 0 < W) (hW : W ≤ 1000000) : ∀ (f st : Nat) (R C : Nat → Int) (J : sa_J), eu f (R 4) (C 1) → st + f ≤ 999 → 0 < R 4 → LM n W R C J → (∀ (R' C' : Nat → Int) (J' : sa_J), 0 < R' 4 → LM n W R' C' J' → C' 1 = 0 → (R' 0 = R 0 ∧ R' 1 = R 1 ∧ R' 2 = R 2 ∧ R' 5 = R 5 ∧ R' 6 = R 6 ∧ R' 7 = R 7 ∧ R' 8 = R 8) → (C' 2 = C 2) → (∀ q, q ≠ 15 → q ≠ 16 → J' q = J q) → (∀ H, Grp H → H (W, 0, 0) → ((H (R 3, R 4, 0) ∧ H (C 0, C 1, 0)) ↔ (H (R' 3, R' 4, 0) ∧ H (C' 0, C' 1, 0)))) → Sat (EC l D aI aL ad) M_X3_include P 212 [(0, .ref (ad 14)), (3, .int (nI 1))] [] I J') → Sat (EC l D aI aL ad) M_X3_include P 63 [(0, .ref (ad 14)), (3, .int (nI 1)), (4, .int (nI 3)), (5, .int (nI st))] [] I J := by
  intro f
  induction f with
  | zero =>
    intro st R C J he hs hp hM k
    refine bX3_include_63 (fun c => absurd ((nJ_le (a := 1000) (by decide) (by omega)).mp c) (by omega)) (fun _ => ?_)
    refine bX3_include_71 (j75 := 1) rfl (by decide) (fun _ => k R C J hp hM he ⟨rfl, rfl, rfl, rfl, rfl, rfl, rfl⟩ rfl (fun q _ _ => rfl) (fun H _ _ => Iff.rfl)) (fun c => absurd ?_ c)
    rw [(hM.2.2 1 hn).1, he]; rfl
  | succ f ih =>
    intro st R C J he hs hp hM k
    refine bX3_include_63 (fun c => absurd ((nJ_le (a := 1000) (by decide) (by omega)).mp c) (by omega)) (fun _ => ?_)
    obtain ⟨hw, hR, hC⟩ := hM
    obtain ⟨cm, cl, cu⟩ := hC 1 hn
    have crg : rg (C 1) := ⟨by omega, by omega⟩
    refine bX3_include_71 (j75 := 1) rfl (by decide) (fun c => ?_) (fun c => ?_)
    · rw [cm] at c
      have c0 := (lI_eq crg (b := 0) ⟨by omega, by omega⟩).mp c
      exact k R C J hp ⟨hw, hR, hC⟩ c0 ⟨rfl, rfl, rfl, rfl, rfl, rfl, rfl⟩ rfl (fun q _ _ => rfl) (fun H _ _ => Iff.rfl)
    · have c0 : C 1 ≠ 0 := fun q => c (by rw [cm, q]; rfl)
      rw [cm] at c
      have e2 : eu f (C 1) (R 4 % C 1) := he.resolve_left c0
      obtain ⟨rm, rl, ru⟩ := hR 4 (by decide)
      have hq := quo_bd (b := C 1) rl ru (by omega)
      have hdm := Int.mul_ediv_add_emod (R 4) (C 1)
      have hmc := Int.mul_comm (C 1) (R 4 / C 1)
      have hm0 := Int.emod_nonneg (R 4) c0
      have hm1 := Int.emod_lt_of_pos (R 4) (show 0 < C 1 by omega)
      have eq : lI (R 4) / lI (C 1) = lI (R 4 / C 1) := lI_quo rl (by omega) (by omega) (by omega)
      generalize hqe : R 4 / C 1 = q at *
      have er : R 4 % C 1 = R 4 - q * C 1 := by omega
      rw [er] at e2
      refine bX3_include_82 (j89 := 4) (j95 := 1) (v98 := lI q) (v101 := nI 0) rfl (by decide) rfl (by decide) (by rw [cm]; exact c) (by rw [rm, cm, eq]) rfl ?_
      obtain ⟨rm0, rl0, ru0⟩ := hR 3 (by decide)
      obtain ⟨cm0, cl0, cu0⟩ := hC 0 (by omega)
      have hb0 := qc_bd hq ⟨cl0, cu0⟩ hW
      refine bX3_include_103 (fun c => absurd c (by decide)) (fun _ => ?_)
      refine bX3_include_109 (j113 := 0) (j132 := 3) (v116 := lI (C 0)) rfl (by decide) rfl (by decide) (cm0) ?_
      refine v_X3_32 dX3_include_144 rfl ⟨rfl, rfl, Nat.le_of_ble_eq_true rfl, Nat.le_of_ble_eq_true rfl⟩ (c_floorModE (z := (R 3 - q * C 0) % W) (by rw [rm0, lI_mul, lI_sub]) (hw) ⟨by omega, by omega⟩ hW0 hW rfl) rfl rfl (Nat.le_of_ble_eq_true rfl) (fun r I1 J1 hp => ?_)
      obtain ⟨rfl, e2', e3'⟩ := hp
      obtain rfl := e2'.symm
      obtain rfl := e3'.symm
      refine bX3_include_147 (s1 := 0) (j156 := 3) (v160 := nI 1) (by decide) rfl (by decide) rfl ?_
      refine bX3_include_103 (fun _ => ?_) (fun c => absurd (by decide) c)
      have hbp := qc_bd hq ⟨cl, cu⟩ hW
      refine bX3_include_166 (j170 := 1) (j178 := 1) (j186 := 4) (j202 := 4) (v172 := lI (C 1)) (v194 := lI (R 4 - q * C 1)) (v206 := nI (st + 1)) rfl (by decide) rfl rfl (by decide) (by decide) rfl (by decide) (by simp [sa_uJ_if, cm]) (by simp [sa_uJ_if, rm, lI_mul, lI_sub]) (nI_addE st 1) ?_
      refine ih (st + 1) (fun t => match t with | 3 => C 0 | 4 => C 1 | _ => R t) (fun t => match t with | 0 => (R 3 - q * C 0) % W | 1 => R 4 - q * C 1 | _ => C t) _ e2 (by omega) (show 0 < C 1 by omega) ⟨by simp [sa_uJ_if, hw], ?_, ?_⟩ ?_
      · intro t ht
        rcases below9 ht with rfl | rfl | rfl | rfl | rfl | rfl | rfl | rfl | rfl
        · obtain ⟨a, b, c⟩ := hR 0 (by decide); exact ⟨by simp [sa_uJ_if, a], b, c⟩
        · obtain ⟨a, b, c⟩ := hR 1 (by decide); exact ⟨by simp [sa_uJ_if, a], b, c⟩
        · obtain ⟨a, b, c⟩ := hR 2 (by decide); exact ⟨by simp [sa_uJ_if, a], b, c⟩
        · exact ⟨by simp [sa_uJ_if], cl0, cu0⟩
        · exact ⟨by simp [sa_uJ_if], cl, cu⟩
        · obtain ⟨a, b, c⟩ := hR 5 (by decide); exact ⟨by simp [sa_uJ_if, a], b, c⟩
        · obtain ⟨a, b, c⟩ := hR 6 (by decide); exact ⟨by simp [sa_uJ_if, a], b, c⟩
        · obtain ⟨a, b, c⟩ := hR 7 (by decide); exact ⟨by simp [sa_uJ_if, a], b, c⟩
        · obtain ⟨a, b, c⟩ := hR 8 (by decide); exact ⟨by simp [sa_uJ_if, a], b, c⟩
      · intro t ht
        rcases below3 (show t < 3 by omega) with rfl | rfl | rfl
        · exact ⟨by simp [sa_uJ_if], (mod_bd hW0).1, (mod_bd hW0).2⟩
        · exact ⟨by simp [sa_uJ_if], show 0 ≤ R 4 - q * C 1 by omega, show R 4 - q * C 1 ≤ W by omega⟩
        · obtain ⟨a, b, c⟩ := hC 2 (by omega); exact ⟨by simp [sa_uJ_if, a], b, c⟩
      · intro R' C' J' p' M' z' s' sc' fr' r'
        refine k R' C' J' p' M' z' s' sc' (fun q h1 h2 => ?_) (fun H g w0 => ?_)
        · rw [fr' q h1 h2]; simp only [sa_uJ_ne h1, sa_uJ_ne h2]
        · exact (st_H1 g (W := W) (q := q) w0).trans (r' H g w0)
theorem in_loop2 {n : Nat} {W : Int} (hn : 2 < n) (hn3 : n ≤ 3) (hW0 : 0 < W) (hW : W ≤ 1000000) : ∀ (f st : Nat) (R C : Nat → Int) (J : sa_J), eu f (R 8) (C 2) → st + f ≤ 999 → 0 < R 8 → LM n W R C J → (∀ (R' C' : Nat → Int) (J' : sa_J), 0 < R' 8 → LM n W R' C' J' → C' 2 = 0 → (R' 0 = R 0 ∧ R' 1 = R 1 ∧ R' 2 = R 2 ∧ R' 3 = R 3 ∧ R' 4 = R 4 ∧ R' 5 = R 5) → (True) → (∀ q, q ≠ 15 → q ≠ 16 → J' q = J q) → (∀ H, Grp H → H (W, 0, 0) → H (0, W, 0) → ((H (R 6, R 7, R 8) ∧ H (C 0, C 1, C 2)) ↔ (H (R' 6, R' 7, R' 8) ∧ H (C' 0, C' 1, C' 2)))) → Sat (EC l D aI aL ad) M_X3_include P 212 [(0, .ref (ad 14)), (3, .int (nI 2))] [] I J') → Sat (EC l D aI aL ad) M_X3_include P 63 [(0, .ref (ad 14)), (3, .int (nI 2)), (4, .int (nI 6)), (5, .int (nI st))] [] I J := by
  intro f
  induction f with
  | zero =>
    intro st R C J he hs hp hM k
    refine bX3_include_63 (fun c => absurd ((nJ_le (a := 1000) (by decide) (by omega)).mp c) (by omega)) (fun _ => ?_)
    refine bX3_include_71 (j75 := 2) rfl (by decide) (fun _ => k R C J hp hM he ⟨rfl, rfl, rfl, rfl, rfl, rfl⟩ trivial (fun q _ _ => rfl) (fun H _ _ _ => Iff.rfl)) (fun c => absurd ?_ c)
    rw [(hM.2.2 2 hn).1, he]; rfl
  | succ f ih =>
    intro st R C J he hs hp hM k
    refine bX3_include_63 (fun c => absurd ((nJ_le (a := 1000) (by decide) (by omega)).mp c) (by omega)) (fun _ => ?_)
    obtain ⟨hw, hR, hC⟩ := hM
    obtain ⟨cm, cl, cu⟩ := hC 2 hn
    have crg : rg (C 2) := ⟨by omega, by omega⟩
    refine bX3_include_71 (j75 := 2) rfl (by decide) (fun c => ?_) (fun c => ?_)
    · rw [cm] at c
      have c0 := (lI_eq crg (b := 0) ⟨by omega, by omega⟩).mp c
      exact k R C J hp ⟨hw, hR, hC⟩ c0 ⟨rfl, rfl, rfl, rfl, rfl, rfl⟩ trivial (fun q _ _ => rfl) (fun H _ _ _ => Iff.rfl)
    · have c0 : C 2 ≠ 0 := fun q => c (by rw [cm, q]; rfl)
      rw [cm] at c
      have e2 : eu f (C 2) (R 8 % C 2) := he.resolve_left c0
      obtain ⟨rm, rl, ru⟩ := hR 8 (by decide)
      have hq := quo_bd (b := C 2) rl ru (by omega)
      have hdm := Int.mul_ediv_add_emod (R 8) (C 2)
      have hmc := Int.mul_comm (C 2) (R 8 / C 2)
      have hm0 := Int.emod_nonneg (R 8) c0
      have hm1 := Int.emod_lt_of_pos (R 8) (show 0 < C 2 by omega)
      have eq : lI (R 8) / lI (C 2) = lI (R 8 / C 2) := lI_quo rl (by omega) (by omega) (by omega)
      generalize hqe : R 8 / C 2 = q at *
      have er : R 8 % C 2 = R 8 - q * C 2 := by omega
      rw [er] at e2
      refine bX3_include_82 (j89 := 8) (j95 := 2) (v98 := lI q) (v101 := nI 0) rfl (by decide) rfl (by decide) (by rw [cm]; exact c) (by rw [rm, cm, eq]) rfl ?_
      obtain ⟨rm0, rl0, ru0⟩ := hR 6 (by decide)
      obtain ⟨cm0, cl0, cu0⟩ := hC 0 (by omega)
      have hb0 := qc_bd hq ⟨cl0, cu0⟩ hW
      refine bX3_include_103 (fun c => absurd c (by decide)) (fun _ => ?_)
      refine bX3_include_109 (j113 := 0) (j132 := 6) (v116 := lI (C 0)) rfl (by decide) rfl (by decide) (cm0) ?_
      refine v_X3_32 dX3_include_144 rfl ⟨rfl, rfl, Nat.le_of_ble_eq_true rfl, Nat.le_of_ble_eq_true rfl⟩ (c_floorModE (z := (R 6 - q * C 0) % W) (by rw [rm0, lI_mul, lI_sub]) (hw) ⟨by omega, by omega⟩ hW0 hW rfl) rfl rfl (Nat.le_of_ble_eq_true rfl) (fun r I1 J1 hp => ?_)
      obtain ⟨rfl, e2', e3'⟩ := hp
      obtain rfl := e2'.symm
      obtain rfl := e3'.symm
      refine bX3_include_147 (s1 := 0) (j156 := 6) (v160 := nI 1) (by decide) rfl (by decide) rfl ?_
      obtain ⟨rm1, rl1, ru1⟩ := hR 7 (by decide)
      obtain ⟨cm1, cl1, cu1⟩ := hC 1 (by omega)
      have hb1 := qc_bd hq ⟨cl1, cu1⟩ hW
      refine bX3_include_103 (fun c => absurd c (by decide)) (fun _ => ?_)
      refine bX3_include_109 (j113 := 1) (j132 := 7) (v116 := lI (C 1)) rfl (by decide) rfl (by decide) (by simp [sa_uJ_if, cm1]) ?_
      refine v_X3_32 dX3_include_144 rfl ⟨rfl, rfl, Nat.le_of_ble_eq_true rfl, Nat.le_of_ble_eq_true rfl⟩ (c_floorModE (z := (R 7 - q * C 1) % W) (by simp [sa_uJ_if, rm1, lI_mul, lI_sub]) (by simp [sa_uJ_if, hw]) ⟨by omega, by omega⟩ hW0 hW rfl) rfl rfl (Nat.le_of_ble_eq_true rfl) (fun r I1 J1 hp => ?_)
      obtain ⟨rfl, e2', e3'⟩ := hp
      obtain rfl := e2'.symm
      obtain rfl := e3'.symm
      refine bX3_include_147 (s1 := 1) (j156 := 7) (v160 := nI 2) (by decide) rfl (by decide) rfl ?_
      refine bX3_include_103 (fun _ => ?_) (fun c => absurd (by decide) c)
      have hbp := qc_bd hq ⟨cl, cu⟩ hW
      refine bX3_include_166 (j170 := 2) (j178 := 2) (j186 := 8) (j202 := 8) (v172 := lI (C 2)) (v194 := lI (R 8 - q * C 2)) (v206 := nI (st + 1)) rfl (by decide) rfl rfl (by decide) (by decide) rfl (by decide) (by simp [sa_uJ_if, cm]) (by simp [sa_uJ_if, rm, lI_mul, lI_sub]) (nI_addE st 1) ?_
      refine ih (st + 1) (fun t => match t with | 6 => C 0 | 7 => C 1 | 8 => C 2 | _ => R t) (fun t => match t with | 0 => (R 6 - q * C 0) % W | 1 => (R 7 - q * C 1) % W | 2 => R 8 - q * C 2 | _ => C t) _ e2 (by omega) (show 0 < C 2 by omega) ⟨by simp [sa_uJ_if, hw], ?_, ?_⟩ ?_
      · intro t ht
        rcases below9 ht with rfl | rfl | rfl | rfl | rfl | rfl | rfl | rfl | rfl
        · obtain ⟨a, b, c⟩ := hR 0 (by decide); exact ⟨by simp [sa_uJ_if, a], b, c⟩
        · obtain ⟨a, b, c⟩ := hR 1 (by decide); exact ⟨by simp [sa_uJ_if, a], b, c⟩
        · obtain ⟨a, b, c⟩ := hR 2 (by decide); exact ⟨by simp [sa_uJ_if, a], b, c⟩
        · obtain ⟨a, b, c⟩ := hR 3 (by decide); exact ⟨by simp [sa_uJ_if, a], b, c⟩
        · obtain ⟨a, b, c⟩ := hR 4 (by decide); exact ⟨by simp [sa_uJ_if, a], b, c⟩
        · obtain ⟨a, b, c⟩ := hR 5 (by decide); exact ⟨by simp [sa_uJ_if, a], b, c⟩
        · exact ⟨by simp [sa_uJ_if], cl0, cu0⟩
        · exact ⟨by simp [sa_uJ_if], cl1, cu1⟩
        · exact ⟨by simp [sa_uJ_if], cl, cu⟩
      · intro t ht
        rcases below3 (show t < 3 by omega) with rfl | rfl | rfl
        · exact ⟨by simp [sa_uJ_if], (mod_bd hW0).1, (mod_bd hW0).2⟩
        · exact ⟨by simp [sa_uJ_if], (mod_bd hW0).1, (mod_bd hW0).2⟩
        · exact ⟨by simp [sa_uJ_if], show 0 ≤ R 8 - q * C 2 by omega, show R 8 - q * C 2 ≤ W by omega⟩
      · intro R' C' J' p' M' z' s' sc' fr' r'
        refine k R' C' J' p' M' z' s' sc' (fun q h1 h2 => ?_) (fun H g w0 w1 => ?_)
        · rw [fr' q h1 h2]; simp only [sa_uJ_ne h1, sa_uJ_ne h2]
        · exact (st_H2 g (W := W) (q := q) w0 w1).trans (r' H g w0 w1)
end IN
