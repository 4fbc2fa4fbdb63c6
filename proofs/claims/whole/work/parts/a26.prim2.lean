theorem md_dvd (x : Int) (p : Int) : p ∣ (x % p - x) := ⟨-(x / p), by have := Int.mul_ediv_add_emod x p; grind⟩
theorem md_bd {p : Nat} (x : Int) (h : 2 ≤ p) (h2 : p ≤ 97) : bd (x % p) 97 := by
  have m0 := Int.emod_nonneg x (show (p : Int) ≠ 0 by omega)
  have m1 := Int.emod_lt_of_pos x (show (0 : Int) < p by omega)
  exact ⟨by omega, by omega⟩
def v3 (a b : Int) (c : Nat) : Int := match c with | 0 => 1 | 1 => a | _ => b
def ffF (I I1 : sa_I) (J J1 : sa_J) : Prop := (∀ q, q ≠ 14 → q ≠ 21 → q ≠ 22 → q ≠ 23 → I1 q = I q) ∧ (∀ t, t ≠ 0 → I1 21 t = I 21 t) ∧ ∀ q, q ≠ 14 → q ≠ 15 → q ≠ 24 → q ≠ 25 → J1 q = J q
theorem ffF.rfl' {I : sa_I} {J : sa_J} : ffF I I J J := ⟨fun _ _ _ _ _ => rfl, fun _ _ => rfl, fun _ _ _ _ _ => rfl⟩
theorem ffF.tr {I I1 I2 : sa_I} {J J1 J2 : sa_J} (h : ffF I I1 J J1) (g : ffF I1 I2 J1 J2) : ffF I I2 J J2 := ⟨fun q a b c d => (g.1 q a b c d).trans (h.1 q a b c d), fun t ht => (g.2.1 t ht).trans (h.2.1 t ht), fun q a b c d => (g.2.2 q a b c d).trans (h.2.2 q a b c d)⟩
theorem kmF.ff {I I1 : sa_I} {J J1 : sa_J} (h : kmF I I1 J J1) : ffF I I1 J J1 := ⟨h.1, h.2.1, fun q a b c _ => h.2.2 q a b c⟩
theorem ffF.uJ {I I1 : sa_I} {J J1 : sa_J} {t : Nat} {x : Int64} (h : ffF I I1 (sa_uJ J 25 t x) J1) : ffF I I1 J J1 := ⟨h.1, h.2.1, fun q a b c d => (h.2.2 q a b c d).trans (sa_uJ_ne d)⟩
/-- the state of the search -/
def FS (n : Nat) (T : Nat → Int) (p : Nat) (L : List (Nat × Nat)) (I : sa_I) (J : sa_J) : Prop := I 4 0 = nI n ∧ (∀ t, t < 27 → J 8 t = lI (T t)) ∧ J 25 0 = lI 1 ∧ CS (L.map (pe p)) I J
theorem FS.uJ {n : Nat} {T : Nat → Int} {p : Nat} {L : List (Nat × Nat)} {I : sa_I} {J : sa_J} (h : FS n T p L I J) {t : Nat} (ht : t ≠ 0) {x : Int64} : FS n T p L I (sa_uJ J 25 t x) := by
  obtain ⟨a, b, c, d, e⟩ := h
  refine ⟨a, fun t ht => by rw [sa_uJ_ne (by decide)]; exact b t ht, by rw [sa_uJ_if, if_neg (by omega)]; exact c, d, fun i y hy => ?_⟩
  rw [sa_uJ_ne (by decide)]; exact e i y hy
theorem FS.km {n : Nat} {T : Nat → Int} {p : Nat} {L L' : List (Nat × Nat)} {I I1 : sa_I} {J J1 : sa_J} (h : FS n T p L I J) (g : kmF I I1 J J1) (hC : CS (L'.map (pe p)) I1 J1) : FS n T p L' I1 J1 := by
  obtain ⟨a, b, c, _⟩ := h
  exact ⟨by rw [g.1 4 (by decide) (by decide) (by decide) (by decide)]; exact a, fun t ht => by rw [g.2.2 8 (by decide) (by decide) (by decide)]; exact b t ht, by rw [g.2.2 25 (by decide) (by decide) (by decide)]; exact c, hC⟩
section PS
variable {l : Launch} {D : va_G} {aI aL : ClassId} {ad : Nat → Nat} {P : sa_P}
theorem ff_in {T : Nat → Int} (rr : Rg 3 T) {p : Nat} (hp : Prm p) (hp2 : p ≤ 97) {u : Nat} (hu : u < p) {x2 x4 x6 : Int64} : ∀ (d w : Nat), w + d = p → ∀ (I : sa_I) (J : sa_J), FS 3 T p (wu 3 T p u ++ wv 3 T p u w) I J → J 25 1 = lI (-(u : Int) % p) → (∀ I1 J1, FS 3 T p (wu 3 T p (u + 1)) I1 J1 → ffF I I1 J J1 → Sat (EC l D aI aL ad) M_X5_findFirstDegree P 175 [(0, .ref (ad 21)), (1, .int (nI p)), (2, .long x2), (4, .long x4), (6, .long x6), (8, .int (nI u))] [] I1 J1) → Sat (EC l D aI aL ad) M_X5_findFirstDegree P 139 [(0, .ref (ad 21)), (1, .int (nI p)), (2, .long x2), (4, .long x4), (6, .long x6), (8, .int (nI u)), (9, .int (nI w))] [] I J := by
  intro d
  have hp1 : 2 ≤ p := by have := hp.1; omega
  induction d with
  | zero =>
    intro w hw I J hF h1 kk
    have : w = p := by omega
    subst this
    refine bX5_findFirstDegree_139 (fun _ => kk I J ?_ ffF.rfl') (fun c => absurd (by rw [nJ_le (by omega) (by omega)]; omega) c)
    rw [wu_succ]; exact hF
  | succ d ih =>
    intro w hw I J hF h1 kk
    refine bX5_findFirstDegree_139 (fun c => absurd c (by rw [nJ_le (by omega) (by omega)]; omega)) (fun _ => bX5_findFirstDegree_145 ?_)
    refine v_X5_83 dX5_findFirstDegree_156 rfl ⟨rfl, rfl, Nat.le_of_ble_eq_true rfl, Nat.le_of_ble_eq_true rfl⟩ (c_rest (a := -(w : Int)) (W := (p : Int)) (z := -(w : Int) % p) (nI_negL (by omega)) (nI_L (by omega)) ⟨by omega, by omega⟩ (by omega) (by omega) rfl) rfl rfl (Nat.le_of_ble_eq_true rfl) (fun r I1 J1 hq => ?_)
    obtain ⟨rfl, e2, e3⟩ := hq
    obtain rfl := e2.symm
    obtain rfl := e3.symm
    refine bX5_findFirstDegree_159 (s1 := 2) (by decide) ?_
    have hF2 := hF.uJ (t := 2) (by decide) (x := lI (-(w : Int) % p))
    have h12 : sa_uJ J 25 2 (lI (-(w : Int) % p)) 25 1 = lI (-(u : Int) % p) := by rw [sa_uJ_if, if_neg (by omega)]; exact h1
    have h22 : sa_uJ J 25 2 (lI (-(w : Int) % p)) 25 2 = lI (-(w : Int) % p) := by rw [sa_uJ_if, if_pos ⟨rfl, rfl⟩]
    have kk2 : ∀ I2 J2, FS 3 T p (wu 3 T p (u + 1)) I2 J2 → ffF I I2 (sa_uJ J 25 2 (lI (-(w : Int) % p))) J2 → Sat (EC l D aI aL ad) M_X5_findFirstDegree P 175 [(0, .ref (ad 21)), (1, .int (nI p)), (2, .long x2), (4, .long x4), (6, .long x6), (8, .int (nI u))] [] I2 J2 := fun I2 J2 a b => kk I2 J2 a b.uJ
    generalize sa_uJ J 25 2 (lI (-(w : Int) % p)) = Ja at hF2 h12 h22 kk2 ⊢
    have len := wq_len rr hp hu (V := w) (by unfold wm; rw [if_neg (by decide)]; omega)
    refine v_X5_89 dX5_findFirstDegree_166 rfl ⟨rfl, rfl, Nat.le_of_ble_eq_true rfl, Nat.le_of_ble_eq_true rfl⟩ (c_keepIfTrue rr hp1 hp2 hu (w := w) (by omega) (v := v3 (-(u : Int) % p) (-(w : Int) % p)) rfl (fun c hc => ?_) (md_dvd _ _) (md_dvd _ _) hF2.1 hF2.2.1 (fun c hc => ?_) (E0 := (wu 3 T p u ++ wv 3 T p u w).map (pe p)) (by rw [List.length_map]; exact len) (fun hy => ?_) hF2.2.2.2) rfl rfl (Nat.le_of_ble_eq_true rfl) (fun r I2 J2 hq => ?_)
    · rcases below3 hc with rfl | rfl | rfl
      · exact (⟨by decide, by decide⟩ : bd 1 97)
      · exact md_bd _ hp1 hp2
      · exact md_bd _ hp1 hp2
    · rcases below3 hc with rfl | rfl | rfl
      · exact hF2.2.2.1
      · exact h12
      · exact h22
    · have := wq_len rr hp hu (V := w + 1) (by unfold wm; rw [if_neg (by decide)]; omega)
      rw [wv_yes hy, ← List.append_assoc, List.length_append] at this
      rw [List.length_map]; simp only [List.length_cons, List.length_nil] at this; omega
    · obtain ⟨rfl, g, hr⟩ := hq
      refine bX5_findFirstDegree_169 (v169 := nI (w + 1)) (nI_addE w 1) ?_
      have h13 : J2 25 1 = lI (-(u : Int) % p) := by rw [g.2.2 25 (by decide) (by decide) (by decide)]; exact h12
      rcases hr with ⟨hy, hC⟩ | ⟨hy, hC⟩
      · refine ih (w + 1) (by omega) I2 J2 (hF2.km g ?_) h13 (fun I3 J3 a b => kk2 I3 J3 a (g.ff.tr b))
        rw [wv_yes hy, ← List.append_assoc, List.map_append]; exact hC
      · refine ih (w + 1) (by omega) I2 J2 (hF2.km g ?_) h13 (fun I3 J3 a b => kk2 I3 J3 a (g.ff.tr b))
        rw [wv_no hy]; exact hC
theorem wv_none {T : Nat → Int} {p u : Nat} (h : ∀ v : Int, ¬ wy 3 T p (-(u : Int)) v) : ∀ V, wv 3 T p u V = [] := by
  intro V
  induction V with
  | zero => exact wv_zero
  | succ V ih => rw [wv_no (h _)]; exact ih
theorem ff_out2 {T : Nat → Int} (rr : Rg 2 T) {p : Nat} (hp : Prm p) (hp2 : p ≤ 97) {x2 x4 x6 : Int64} : ∀ (d u : Nat), u + d = p → ∀ (I : sa_I) (J : sa_J), FS 2 T p (wu 2 T p u) I J → (∀ I1 J1, FS 2 T p (wu 2 T p p) I1 J1 → ffF I I1 J J1 → P none I1 J1) → Sat (EC l D aI aL ad) M_X5_findFirstDegree P 55 [(0, .ref (ad 21)), (1, .int (nI p)), (2, .long x2), (4, .long x4), (6, .long x6), (8, .int (nI u))] [] I J := by
  intro d
  have hp1 : 2 ≤ p := by have := hp.1; omega
  induction d with
  | zero =>
    intro u hu I J hF kk
    have : u = p := by omega
    subst this
    exact bX5_findFirstDegree_55 (fun _ => bX5_findFirstDegree_181 (kk I J hF ffF.rfl')) (fun c => absurd (by rw [nJ_le (by omega) (by omega)]; omega) c)
  | succ d ih =>
    intro u hu I J hF kk
    refine bX5_findFirstDegree_55 (fun c => absurd c (by rw [nJ_le (by omega) (by omega)]; omega)) (fun _ => bX5_findFirstDegree_61 ?_)
    refine v_X5_83 dX5_findFirstDegree_72 rfl ⟨rfl, rfl, Nat.le_of_ble_eq_true rfl, Nat.le_of_ble_eq_true rfl⟩ (c_rest (a := -(u : Int)) (W := (p : Int)) (z := -(u : Int) % p) (nI_negL (by omega)) (nI_L (by omega)) ⟨by omega, by omega⟩ (by omega) (by omega) rfl) rfl rfl (Nat.le_of_ble_eq_true rfl) (fun r I1 J1 hq => ?_)
    obtain ⟨rfl, e2, e3⟩ := hq
    obtain rfl := e2.symm
    obtain rfl := e3.symm
    refine bX5_findFirstDegree_75 (s1 := 1) (by decide) (fun c => absurd hF.1 c) (fun _ => ?_)
    have hF2 := hF.uJ (t := 1) (by decide) (x := lI (-(u : Int) % p))
    have h12 : sa_uJ J 25 1 (lI (-(u : Int) % p)) 25 1 = lI (-(u : Int) % p) := by rw [sa_uJ_if, if_pos ⟨rfl, rfl⟩]
    have kk2 : ∀ I2 J2, FS 2 T p (wu 2 T p p) I2 J2 → ffF I I2 (sa_uJ J 25 1 (lI (-(u : Int) % p))) J2 → P none I2 J2 := fun I2 J2 a b => kk I2 J2 a b.uJ
    generalize sa_uJ J 25 1 (lI (-(u : Int) % p)) = Ja at hF2 h12 kk2 ⊢
    have len := wq_len rr hp (u := u) (by omega) (V := 0) (by omega)
    rw [wv_zero, List.append_nil] at len
    refine bX5_findFirstDegree_87 ?_
    refine v_X5_89 dX5_findFirstDegree_92 rfl ⟨rfl, rfl, Nat.le_of_ble_eq_true rfl, Nat.le_of_ble_eq_true rfl⟩ (c_keepIfTrue rr hp1 hp2 (u := u) (by omega) (w := 0) (by omega) (v := v3 (-(u : Int) % p) 0) rfl (fun c hc => ?_) (md_dvd _ _) ⟨0, by simp [v3]⟩ hF2.1 hF2.2.1 (fun c hc => ?_) (E0 := (wu 2 T p u).map (pe p)) (by rw [List.length_map]; omega) (fun hy => by rw [List.length_map]; omega) hF2.2.2.2) rfl rfl (Nat.le_of_ble_eq_true rfl) (fun r I2 J2 hq => ?_)
    · have hc' : c = 0 ∨ c = 1 := by omega
      rcases hc' with rfl | rfl
      · exact (⟨by decide, by decide⟩ : bd 1 97)
      · exact md_bd _ hp1 hp2
    · have hc' : c = 0 ∨ c = 1 := by omega
      rcases hc' with rfl | rfl
      · exact hF2.2.2.1
      · exact h12
    · obtain ⟨rfl, g, hr⟩ := hq
      refine bX5_findFirstDegree_95 (bX5_findFirstDegree_175 (v175 := nI (u + 1)) (nI_addE u 1) ?_)
      refine ih (u + 1) (by omega) I2 J2 (hF2.km g ?_) (fun I3 J3 a b => kk2 I3 J3 a (g.ff.tr b))
      rw [wu_succ, show wm 2 p = 0 + 1 from rfl]
      rcases hr with ⟨hy, hC⟩ | ⟨hy, hC⟩
      · rw [wv_yes hy, wv_zero, List.nil_append, List.map_append]; exact hC
      · rw [wv_no hy, wv_zero, List.append_nil]; exact hC
theorem ff_out3 {T : Nat → Int} (rr : Rg 3 T) {p : Nat} (hp : Prm p) (hp2 : p ≤ 97) {x2 x4 x6 : Int64} (e2 : x2 = lI (T 13 + T 17)) (e4 : x4 = lI (T 13 * T 17 - T 14 * T 16 - T 12)) (e6 : x6 = lI (T 14 * T 15 - T 12 * T 17)) : ∀ (d u : Nat), u + d = p → ∀ (I : sa_I) (J : sa_J), FS 3 T p (wu 3 T p u) I J → (∀ I1 J1, FS 3 T p (wu 3 T p p) I1 J1 → ffF I I1 J J1 → P none I1 J1) → Sat (EC l D aI aL ad) M_X5_findFirstDegree P 55 [(0, .ref (ad 21)), (1, .int (nI p)), (2, .long x2), (4, .long x4), (6, .long x6), (8, .int (nI u))] [] I J := by
  intro d
  have hp1 : 2 ≤ p := by have := hp.1; omega
  induction d with
  | zero =>
    intro u hu I J hF kk
    have : u = p := by omega
    subst this
    exact bX5_findFirstDegree_55 (fun _ => bX5_findFirstDegree_181 (kk I J hF ffF.rfl')) (fun c => absurd (by rw [nJ_le (by omega) (by omega)]; omega) c)
  | succ d ih =>
    intro u hu I J hF kk
    refine bX5_findFirstDegree_55 (fun c => absurd c (by rw [nJ_le (by omega) (by omega)]; omega)) (fun _ => bX5_findFirstDegree_61 ?_)
    refine v_X5_83 dX5_findFirstDegree_72 rfl ⟨rfl, rfl, Nat.le_of_ble_eq_true rfl, Nat.le_of_ble_eq_true rfl⟩ (c_rest (a := -(u : Int)) (W := (p : Int)) (z := -(u : Int) % p) (nI_negL (by omega)) (nI_L (by omega)) ⟨by omega, by omega⟩ (by omega) (by omega) rfl) rfl rfl (Nat.le_of_ble_eq_true rfl) (fun r I1 J1 hq => ?_)
    obtain ⟨rfl, q2, q3⟩ := hq
    obtain rfl := q2.symm
    obtain rfl := q3.symm
    refine bX5_findFirstDegree_75 (s1 := 1) (by decide) (fun _ => ?_) (fun c => absurd c (by rw [hF.1]; decide))
    have hF2 := hF.uJ (t := 1) (by decide) (x := lI (-(u : Int) % p))
    have h12 : sa_uJ J 25 1 (lI (-(u : Int) % p)) 25 1 = lI (-(u : Int) % p) := by rw [sa_uJ_if, if_pos ⟨rfl, rfl⟩]
    have kk2 : ∀ I2 J2, FS 3 T p (wu 3 T p p) I2 J2 → ffF I I2 (sa_uJ J 25 1 (lI (-(u : Int) % p))) J2 → P none I2 J2 := fun I2 J2 a b => kk I2 J2 a b.uJ
    generalize sa_uJ J 25 1 (lI (-(u : Int) % p)) = Ja at hF2 h12 kk2 ⊢
    refine bX5_findFirstDegree_98 ?_
    generalize ha : -(u : Int) % p = a at h12
    have ba : bd a 97 := by rw [← ha]; exact md_bd _ hp1 hp2
    have ev : (((Ja 25 1 - x2) * Ja 25 1 + x4) * Ja 25 1) - x6 = lI (((a - (T 13 + T 17)) * a + (T 13 * T 17 - T 14 * T 16 - T 12)) * a - (T 14 * T 15 - T 12 * T 17)) := by
      rw [h12, e2, e4, e6, lI_sub, lI_mul, lI_add, lI_mul, lI_sub]
    have bz : bd (((a - (T 13 + T 17)) * a + (T 13 * T 17 - T 14 * T 16 - T 12)) * a - (T 14 * T 15 - T 12 * T 17)) 1000000000 := bd_mono (bd_sub (bd_mul (bd_add (bd_mul (bd_sub ba (bd_add (rr.tb 13) (rr.tb 17))) ba) (bd_sub (bd_sub (bd_mul (rr.tb 13) (rr.tb 17)) (bd_mul (rr.tb 14) (rr.tb 16))) (rr.tb 12))) ba) (bd_sub (bd_mul (rr.tb 14) (rr.tb 15)) (bd_mul (rr.tb 12) (rr.tb 17)))) (by decide)
    generalize hz : ((a - (T 13 + T 17)) * a + (T 13 * T 17 - T 14 * T 16 - T 12)) * a - (T 14 * T 15 - T 12 * T 17) = z at ev bz
    refine v_X5_83 dX5_findFirstDegree_128 rfl ⟨rfl, rfl, Nat.le_of_ble_eq_true rfl, Nat.le_of_ble_eq_true rfl⟩ (c_rest (a := z) (W := (p : Int)) (z := z % p) ev (nI_L (by omega)) (bd_rg bz (by decide)) (by omega) (by omega) rfl) rfl rfl (Nat.le_of_ble_eq_true rfl) (fun r I2 J2 hq => ?_)
    obtain ⟨rfl, q2, q3⟩ := hq
    obtain rfl := q2.symm
    obtain rfl := q3.symm
    have m0 := Int.emod_nonneg z (show (p : Int) ≠ 0 by omega)
    have m1 := Int.emod_lt_of_pos z (show (0 : Int) < p by omega)
    have key : (lI (z % p) = (0 : Int64)) ↔ (p : Int) ∣ z := by
      rw [lI_zero, lI_eq ⟨by omega, by omega⟩ ⟨by omega, by omega⟩]
      exact ⟨fun h => Int.dvd_of_emod_eq_zero h, fun h => Int.emod_eq_zero_of_dvd h⟩
    refine bX5_findFirstDegree_131 (fun c => ?_) (fun c => ?_)
    · refine bX5_findFirstDegree_175 (v175 := nI (u + 1)) (nI_addE u 1) (ih (u + 1) (by omega) _ _ ?_ kk2)
      rw [wu_succ, wv_none (fun v hy => c (key.mpr ?_)), List.append_nil]
      · exact hF2
      · rcases rr with ⟨h, _⟩ | ⟨_, s, rfl, _, _⟩
        · exact absurd h (by decide)
        · have hy' := (wy_mod (u' := a) (v' := v) (by have := md_dvd (-(u : Int)) p; rw [ha] at this; have := (Int.dvd_neg).mpr this; rw [Int.neg_sub] at this; exact this) (by rw [Int.sub_self]; exact Int.dvd_zero _)).mp hy
          have := wy_char hy'
          rw [← hz]; exact this
    · refine bX5_findFirstDegree_136 (v137 := nI 0) rfl ?_
      refine ff_in rr hp hp2 (u := u) (by omega) p 0 (by omega) _ _ (by rw [wv_zero, List.append_nil]; exact hF2) (by rw [ha]; exact h12) (fun I3 J3 a b => ?_)
      exact bX5_findFirstDegree_175 (v175 := nI (u + 1)) (nI_addE u 1) (ih (u + 1) (by omega) _ _ a (fun I4 J4 c d => kk2 I4 J4 c (b.tr d)))
def ffG (I I1 : sa_I) (J J1 : sa_J) : Prop := (∀ q, q ≠ 14 → q ≠ 21 → q ≠ 22 → q ≠ 23 → I1 q = I q) ∧ (∀ t, t ≠ 0 → I1 21 t = I 21 t) ∧ (∀ q, q ≠ 10 → q ≠ 14 → q ≠ 15 → q ≠ 24 → q ≠ 25 → q ≠ 26 → J1 q = J q) ∧ ∀ t, t ≠ 1 → J1 26 t = J 26 t
theorem c_findFirstDegree {I : sa_I} {J : sa_J} {n : Nat} {T : Nat → Int} (rr : Rg n T) {p : Nat} (hp : Prm p) (hp2 : p ≤ 97) (hI : I 4 0 = nI n) (hT : ∀ t, t < 27 → J 8 t = lI (T t)) (z0 : J 26 0 = 0) (z2 : J 26 2 = 0) (hn0 : I 21 0 = 0) : Con (EC l D aI aL ad) M_X5_findFirstDegree yX5_findFirstDegree [.ref (ad 21), .int (nI p)] I J (fun r I1 J1 => r = none ∧ FS n T p (wu n T p p) I1 J1 ∧ ffG I I1 J J1) := by
  refine Con.of (by decide +kernel) rfl (Nat.le_of_ble_eq_true rfl) ?_
  refine bX5_findFirstDegree_0 (v6 := 1) rfl ?_
  have fr : ∀ {J1 J2 J3 : sa_J} {I1 : sa_I}, (∀ q, q ≠ 10 → J1 q = sa_uJ J 26 1 1 q) → J2 = sa_uJ J1 25 0 (lI 1) → ffF I I1 J2 J3 → ffG I I1 J J3 := by
    intro J1 J2 J3 I1 f1 e1 g
    refine ⟨g.1, g.2.1, fun q a b c d e f => ?_, fun t ht => ?_⟩
    · rw [g.2.2 q b c d e, e1, sa_uJ_ne e, f1 q a, sa_uJ_ne f]
    · rw [g.2.2 26 (by decide) (by decide) (by decide) (by decide), e1, sa_uJ_ne (by decide), f1 26 (by decide), sa_uJ_if, if_neg (by omega)]
  have st : ∀ {J1 J2 : sa_J}, (∀ q, q ≠ 10 → J1 q = sa_uJ J 26 1 1 q) → J2 = sa_uJ J1 25 0 (lI 1) → FS n T p (wu n T p 0) I J2 := by
    intro J1 J2 f1 e1
    refine ⟨hI, fun t ht => ?_, by rw [e1, sa_uJ_if, if_pos ⟨rfl, rfl⟩], hn0, fun i e he => ?_⟩
    · rw [e1, sa_uJ_ne (by decide), f1 8 (by decide), sa_uJ_ne (by decide)]; exact hT t ht
    · rw [wu_zero] at he; simp at he
  have r0 : sa_uJ J 26 1 1 26 (0 + 0) = 0 := by rw [sa_uJ_if, if_neg (by omega)]; exact z0
  have r1 : sa_uJ J 26 1 1 26 (0 + 1) = 1 := by rw [sa_uJ_if, if_pos ⟨rfl, rfl⟩]
  have r2 : sa_uJ J 26 1 1 26 (0 + 2) = 0 := by rw [sa_uJ_if, if_neg (by omega)]; exact z2
  have r8 : ∀ t, t < 27 → sa_uJ J 26 1 1 8 t = lI (T t) := fun t ht => by rw [sa_uJ_ne (by decide)]; exact hT t ht
  rcases rr.n with rfl | rfl
  · refine v_X5_69 dX5_findFirstDegree_16 rfl ⟨rfl, rfl, Nat.le_of_ble_eq_true rfl, Nat.le_of_ble_eq_true rfl⟩ (c_matrixOf2 hI (p1 := 0) aJ_C26 (by decide) (by decide) (by decide)) rfl rfl (Nat.le_of_ble_eq_true rfl) (fun r I1 J1 hq => ?_)
    obtain ⟨rfl, q1, _, _, _, _, f1⟩ := hq
    obtain rfl := q1.symm
    refine bX5_findFirstDegree_19 ?_
    refine v_X5_73 dX5_findFirstDegree_23 rfl ⟨rfl, rfl, Nat.le_of_ble_eq_true rfl, Nat.le_of_ble_eq_true rfl⟩ (c_matrixTrace2 hI) rfl rfl (Nat.le_of_ble_eq_true rfl) (fun r I2 J2 hq => ?_)
    obtain ⟨rfl, q2, q3⟩ := hq
    obtain rfl := q2.symm
    obtain rfl := q3.symm
    refine bX5_findFirstDegree_26 ?_
    refine v_X5_77 dX5_findFirstDegree_31 rfl ⟨rfl, rfl, Nat.le_of_ble_eq_true rfl, Nat.le_of_ble_eq_true rfl⟩ (c_matrixMiddle2 hI) rfl rfl (Nat.le_of_ble_eq_true rfl) (fun r I2 J2 hq => ?_)
    obtain ⟨rfl, q2, q3⟩ := hq
    obtain rfl := q2.symm
    obtain rfl := q3.symm
    refine bX5_findFirstDegree_34 ?_
    refine v_X5_80 dX5_findFirstDegree_40 rfl ⟨rfl, rfl, Nat.le_of_ble_eq_true rfl, Nat.le_of_ble_eq_true rfl⟩ (c_matrixNorm2 hI) rfl rfl (Nat.le_of_ble_eq_true rfl) (fun r I2 J2 hq => ?_)
    obtain ⟨rfl, q2, q3⟩ := hq
    obtain rfl := q2.symm
    obtain rfl := q3.symm
    refine bX5_findFirstDegree_43 (v51 := lI 1) (v53 := nI 0) rfl rfl ?_
    exact ff_out2 rr hp hp2 p 0 (by omega) _ _ (st f1 rfl) (fun I3 J3 a b => ⟨rfl, a, fr f1 rfl b⟩)
  · refine v_X5_69 dX5_findFirstDegree_16 rfl ⟨rfl, rfl, Nat.le_of_ble_eq_true rfl, Nat.le_of_ble_eq_true rfl⟩ (c_matrixOf3 hI (p1 := 0) aJ_C26 (by decide) (by decide) (by decide)) rfl rfl (Nat.le_of_ble_eq_true rfl) (fun r I1 J1 hq => ?_)
    obtain ⟨rfl, q1, m0, m1, m2, m3, m4, m5, m6, m7, m8, f1⟩ := hq
    obtain rfl := q1.symm
    have Tf : T 9 = 0 ∧ T 10 = 1 ∧ T 11 = 0 := by
      rcases rr with ⟨h, _⟩ | ⟨_, s, rfl, _, _⟩
      · exact absurd h (by decide)
      · exact ⟨rfl, rfl, rfl⟩
    simp only [r0, r1, r2, r8 9 (by decide), r8 10 (by decide), r8 11 (by decide), r8 12 (by decide), r8 13 (by decide), r8 14 (by decide), r8 15 (by decide), r8 16 (by decide), r8 17 (by decide), Int64.zero_mul, Int64.one_mul, Int64.zero_add, Int64.add_zero, Tf.1, Tf.2.1, Tf.2.2] at m0 m1 m2 m3 m4 m5 m6 m7 m8
    refine bX5_findFirstDegree_19 ?_
    refine v_X5_73 dX5_findFirstDegree_23 rfl ⟨rfl, rfl, Nat.le_of_ble_eq_true rfl, Nat.le_of_ble_eq_true rfl⟩ (c_matrixTrace3 hI) rfl rfl (Nat.le_of_ble_eq_true rfl) (fun r I2 J2 hq => ?_)
    obtain ⟨rfl, q2, q3⟩ := hq
    obtain rfl := q2.symm
    obtain rfl := q3.symm
    refine bX5_findFirstDegree_26 ?_
    refine v_X5_77 dX5_findFirstDegree_31 rfl ⟨rfl, rfl, Nat.le_of_ble_eq_true rfl, Nat.le_of_ble_eq_true rfl⟩ (c_matrixMiddle3 hI) rfl rfl (Nat.le_of_ble_eq_true rfl) (fun r I2 J2 hq => ?_)
    obtain ⟨rfl, q2, q3⟩ := hq
    obtain rfl := q2.symm
    obtain rfl := q3.symm
    refine bX5_findFirstDegree_34 ?_
    refine v_X5_80 dX5_findFirstDegree_40 rfl ⟨rfl, rfl, Nat.le_of_ble_eq_true rfl, Nat.le_of_ble_eq_true rfl⟩ (c_matrixNorm3 hI) rfl rfl (Nat.le_of_ble_eq_true rfl) (fun r I2 J2 hq => ?_)
    obtain ⟨rfl, q2, q3⟩ := hq
    obtain rfl := q2.symm
    obtain rfl := q3.symm
    refine bX5_findFirstDegree_43 (v51 := lI 1) (v53 := nI 0) rfl rfl ?_
    refine ff_out3 rr hp hp2 ?_ ?_ ?_ p 0 (by omega) _ _ (st f1 rfl) (fun I3 J3 a b => ⟨rfl, a, fr f1 rfl b⟩)
    · rw [m0, m4, m8, lI_add, lI_add, Int.zero_add]
    · rw [m0, m1, m2, m3, m4, m5, m6, m7, m8]; simp only [lI_mul, lI_sub, lI_add]; congr 1; grind
    · rw [m0, m1, m2, m3, m4, m5, m6, m7, m8]; simp only [lI_mul, lI_sub, lI_add]; congr 1; grind
end PS
