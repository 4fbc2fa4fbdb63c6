/-- a row up to place p -/
def trp (p : Nat) (g : Nat → Int) : V3 := match p with
  | 0 => (g 0, 0, 0)
  | 1 => (g 0, g 1, 0)
  | _ => (g 0, g 1, g 2)
section ME
variable {l : Launch} {D : va_G} {aI aL : ClassId} {ad : Nat → Nat} {P : sa_P} {I : sa_I}
theorem me_loop0 {W : Int} {i : Nat} (hi : i < 20) (hW0 : 0 < W) (hW : W ≤ 1000000) : ∀ (f : Nat) (r g : Nat → Int) (J : sa_J), eu f (r 0) (g 0) → 0 < r 0 → (∀ c, c ≤ 0 → (J 14 (0 + c) = lI (r c) ∧ 0 ≤ r c ∧ r c ≤ W) ∧ J 13 (3 * i + c) = lI (g c) ∧ 0 ≤ g c ∧ g c ≤ W) → (∀ (r' g' : Nat → Int) (J' : sa_J), 0 < r' 0 → g' 0 = 0 → (∀ c, c ≤ 0 → (J' 14 (0 + c) = lI (r' c) ∧ 0 ≤ r' c ∧ r' c ≤ W) ∧ J' 13 (3 * i + c) = lI (g' c) ∧ 0 ≤ g' c ∧ g' c ≤ W) → (∀ q, q ≠ 13 → q ≠ 14 → J' q = J q) → (∀ t, t < 0 ∨ 0 < t → J' 14 t = J 14 t) → (∀ t, t < 3 * i ∨ 3 * i + 0 < t → J' 13 t = J 13 t) → (∀ H, Grp H → ((H (trp 0 r) ∧ H (trp 0 g)) ↔ (H (trp 0 r') ∧ H (trp 0 g')))) → P none I J') → Sat (ER l D aI aL ad) M_X7_meet P 0 [(0, .ref (ad 0)), (1, .int (nI 0)), (2, .int (nI (3 * i))), (3, .int (nI 0)), (4, .long (lI W))] [] I J := by
  intro f
  induction f with
  | zero =>
    intro r g J he hp hM k
    refine bX7_meet_0 (j6 := 3 * i + 0) (nI_addE (3 * i) 0) (by omega) (fun _ => bX7_meet_119 (k r g J hp he hM (fun q _ _ => rfl) (fun t _ => rfl) (fun t _ => rfl) (fun H _ => Iff.rfl))) (fun c => absurd ?_ c)
    rw [(hM 0 (by decide)).2.1, he]; rfl
  | succ f ih =>
    intro r g J he hp hM k
    obtain ⟨⟨rm, rl, ru⟩, gm, gl, gu⟩ := hM 0 (by decide)
    refine bX7_meet_0 (j6 := 3 * i + 0) (nI_addE (3 * i) 0) (by omega) (fun c => ?_) (fun c => ?_)
    · rw [gm] at c
      have c0 := (lI_eq ⟨by omega, by omega⟩ (b := 0) ⟨by omega, by omega⟩).mp c
      exact bX7_meet_119 (k r g J hp c0 hM (fun q _ _ => rfl) (fun t _ => rfl) (fun t _ => rfl) (fun H _ => Iff.rfl))
    · have c0 : g 0 ≠ 0 := fun q => c (by rw [gm, q]; rfl)
      have cz := c
      rw [gm] at c
      have e2 : eu f (g 0) (r 0 % g 0) := he.resolve_left c0
      have hq := quo_bd (b := g 0) rl ru (by omega)
      have hdm := Int.mul_ediv_add_emod (r 0) (g 0)
      have hmc := Int.mul_comm (g 0) (r 0 / g 0)
      have hm0 := Int.emod_nonneg (r 0) c0
      have hm1 := Int.emod_lt_of_pos (r 0) (show 0 < g 0 by omega)
      have eq : lI (r 0) / lI (g 0) = lI (r 0 / g 0) := lI_quo rl (by omega) (by omega) (by omega)
      generalize hqe : r 0 / g 0 = q at *
      have er : r 0 % g 0 = r 0 - q * g 0 := by omega
      rw [er] at e2
      have rm' : J 14 0 = lI (r 0) := rm
      refine bX7_meet_13 (j19 := 0) (j27 := 3 * i + 0) (v30 := lI q) (v33 := nI 0) rfl (by decide) (nI_addE (3 * i) 0) (by omega) cz (by rw [rm', gm, eq]) rfl ?_
      have i1 : 3 * i + 1 ≠ 3 * i := by omega
      have i2 : 3 * i + 2 ≠ 3 * i := by omega
      have rm0 : J 14 0 = lI (r 0) := (hM 0 (by decide)).1.1
      have gm0 : J 13 (3 * i + 0) = lI (g 0) := (hM 0 (by decide)).2.1
      have hb0 := qc_bd hq ⟨(hM 0 (by decide)).2.2.1, (hM 0 (by decide)).2.2.2⟩ hW
      have rb0 := (hM 0 (by decide)).1.2
      refine bX7_meet_35 (fun c => absurd c (by decide)) (fun _ => ?_)
      refine bX7_meet_41 (j48 := 0) (j59 := 3 * i + 0) (v63 := lI (r 0 - q * g 0)) (j72 := 0) (j80 := 3 * i + 0) (v82 := lI (g 0)) rfl (by decide) (nI_addE (3 * i) 0) (by omega) rfl (nI_addE (3 * i) 0) (by omega) (by decide) (by rw [rm0, gm0, lI_mul, lI_sub]) (gm0) (fun c => absurd rfl c) (fun _ => ?_)
      rw [show nI (3 * i) + nI 0 = nI (3 * i + 0) from nI_addE _ _]
      refine bX7_meet_97 ?_
      refine bX7_meet_109 (s1 := 3 * i + 0) (v110 := nI 1) (by omega) rfl ?_
      refine bX7_meet_35 (fun _ => ?_) (fun c => absurd (by decide) c)
      refine bX7_meet_116 ?_
      refine ih (fun c => g c) (fun t => match t with  | _ => r 0 - q * g 0) _ e2 (show 0 < g 0 by omega) ?_ ?_
      · intro c hc
        rcases below3 (show c < 3 by omega) with rfl | rfl | rfl
        · exact ⟨⟨by simp [sa_uJ_if], (hM 0 (by decide)).2.2.1, (hM 0 (by decide)).2.2.2⟩, by simp [sa_uJ_if], show 0 ≤ r 0 - q * g 0 by omega, show r 0 - q * g 0 ≤ W by omega⟩
        · omega
        · omega
      · intro r' g' J' p' z' M' fr' fa' fb' rl'
        refine k r' g' J' p' z' M' (fun q h1 h2 => ?_) (fun t ht => ?_) (fun t ht => ?_) (fun H gg => ?_)
        · rw [fr' q h1 h2]; simp only [sa_uJ_ne h1, sa_uJ_ne h2]
        · rw [fa' t ht]; simp only [sa_uJ_if]; rw [if_neg (by omega)]; rw [if_neg (by omega)]
        · rw [fb' t ht]; simp only [sa_uJ_if]; rw [if_neg (by omega)]; rw [if_neg (by omega)]
        · exact (st_H0 gg (q := q)).trans (rl' H gg)
theorem me_loop1 {W : Int} {i : Nat} (hi : i < 20) (hW0 : 0 < W) (hW : W ≤ 1000000) : ∀ (f : Nat) (r g : Nat → Int) (J : sa_J), eu f (r 1) (g 1) → 0 < r 1 → (∀ c, c ≤ 1 → (J 14 (3 + c) = lI (r c) ∧ 0 ≤ r c ∧ r c ≤ W) ∧ J 13 (3 * i + c) = lI (g c) ∧ 0 ≤ g c ∧ g c ≤ W) → (∀ (r' g' : Nat → Int) (J' : sa_J), 0 < r' 1 → g' 1 = 0 → (∀ c, c ≤ 1 → (J' 14 (3 + c) = lI (r' c) ∧ 0 ≤ r' c ∧ r' c ≤ W) ∧ J' 13 (3 * i + c) = lI (g' c) ∧ 0 ≤ g' c ∧ g' c ≤ W) → (∀ q, q ≠ 13 → q ≠ 14 → J' q = J q) → (∀ t, t < 3 ∨ 4 < t → J' 14 t = J 14 t) → (∀ t, t < 3 * i ∨ 3 * i + 1 < t → J' 13 t = J 13 t) → (∀ H, Grp H → H (W, 0, 0) → ((H (trp 1 r) ∧ H (trp 1 g)) ↔ (H (trp 1 r') ∧ H (trp 1 g')))) → P none I J') → Sat (ER l D aI aL ad) M_X7_meet P 0 [(0, .ref (ad 0)), (1, .int (nI 3)), (2, .int (nI (3 * i))), (3, .int (nI 1)), (4, .long (lI W))] [] I J := by
  intro f
  induction f with
  | zero =>
    intro r g J he hp hM k
    refine bX7_meet_0 (j6 := 3 * i + 1) (nI_addE (3 * i) 1) (by omega) (fun _ => bX7_meet_119 (k r g J hp he hM (fun q _ _ => rfl) (fun t _ => rfl) (fun t _ => rfl) (fun H _ _ => Iff.rfl))) (fun c => absurd ?_ c)
    rw [(hM 1 (by decide)).2.1, he]; rfl
  | succ f ih =>
    intro r g J he hp hM k
    obtain ⟨⟨rm, rl, ru⟩, gm, gl, gu⟩ := hM 1 (by decide)
    refine bX7_meet_0 (j6 := 3 * i + 1) (nI_addE (3 * i) 1) (by omega) (fun c => ?_) (fun c => ?_)
    · rw [gm] at c
      have c0 := (lI_eq ⟨by omega, by omega⟩ (b := 0) ⟨by omega, by omega⟩).mp c
      exact bX7_meet_119 (k r g J hp c0 hM (fun q _ _ => rfl) (fun t _ => rfl) (fun t _ => rfl) (fun H _ _ => Iff.rfl))
    · have c0 : g 1 ≠ 0 := fun q => c (by rw [gm, q]; rfl)
      have cz := c
      rw [gm] at c
      have e2 : eu f (g 1) (r 1 % g 1) := he.resolve_left c0
      have hq := quo_bd (b := g 1) rl ru (by omega)
      have hdm := Int.mul_ediv_add_emod (r 1) (g 1)
      have hmc := Int.mul_comm (g 1) (r 1 / g 1)
      have hm0 := Int.emod_nonneg (r 1) c0
      have hm1 := Int.emod_lt_of_pos (r 1) (show 0 < g 1 by omega)
      have eq : lI (r 1) / lI (g 1) = lI (r 1 / g 1) := lI_quo rl (by omega) (by omega) (by omega)
      generalize hqe : r 1 / g 1 = q at *
      have er : r 1 % g 1 = r 1 - q * g 1 := by omega
      rw [er] at e2
      have rm' : J 14 4 = lI (r 1) := rm
      refine bX7_meet_13 (j19 := 4) (j27 := 3 * i + 1) (v30 := lI q) (v33 := nI 0) rfl (by decide) (nI_addE (3 * i) 1) (by omega) cz (by rw [rm', gm, eq]) rfl ?_
      have i1 : 3 * i + 1 ≠ 3 * i := by omega
      have i2 : 3 * i + 2 ≠ 3 * i := by omega
      have rm0 : J 14 3 = lI (r 0) := (hM 0 (by decide)).1.1
      have gm0 : J 13 (3 * i + 0) = lI (g 0) := (hM 0 (by decide)).2.1
      have hb0 := qc_bd hq ⟨(hM 0 (by decide)).2.2.1, (hM 0 (by decide)).2.2.2⟩ hW
      have rb0 := (hM 0 (by decide)).1.2
      refine bX7_meet_35 (fun c => absurd c (by decide)) (fun _ => ?_)
      refine bX7_meet_41 (j48 := 3) (j59 := 3 * i + 0) (v63 := lI (r 0 - q * g 0)) (j72 := 3) (j80 := 3 * i + 0) (v82 := lI (g 0)) rfl (by decide) (nI_addE (3 * i) 0) (by omega) rfl (nI_addE (3 * i) 0) (by omega) (by decide) (by rw [rm0, gm0, lI_mul, lI_sub]) (gm0) (fun _ => ?_) (fun c => absurd c (by decide))
      rw [show nI (3 * i) + nI 0 = nI (3 * i + 0) from nI_addE _ _]
      refine bX7_meet_102 ?_
      refine v_X7_155 dX7_meet_106 rfl ⟨rfl, rfl, Nat.le_of_ble_eq_true rfl, Nat.le_of_ble_eq_true rfl⟩ (c_floorModE (a := r 0 - q * g 0) (W := W) (z := (r 0 - q * g 0) % W) rfl rfl ⟨by omega, by omega⟩ hW0 hW rfl) rfl rfl (Nat.le_of_ble_eq_true rfl) (fun r1 I1 J1 hp => ?_)
      obtain ⟨rfl, e2', e3'⟩ := hp
      obtain rfl := e2'.symm
      obtain rfl := e3'.symm
      refine bX7_meet_109 (s1 := 3 * i + 0) (v110 := nI 1) (by omega) rfl ?_
      have rm1 : J 14 4 = lI (r 1) := (hM 1 (by decide)).1.1
      have gm1 : J 13 (3 * i + 1) = lI (g 1) := (hM 1 (by decide)).2.1
      have hb1 := qc_bd hq ⟨(hM 1 (by decide)).2.2.1, (hM 1 (by decide)).2.2.2⟩ hW
      have rb1 := (hM 1 (by decide)).1.2
      refine bX7_meet_35 (fun c => absurd c (by decide)) (fun _ => ?_)
      refine bX7_meet_41 (j48 := 4) (j59 := 3 * i + 1) (v63 := lI (r 1 - q * g 1)) (j72 := 4) (j80 := 3 * i + 1) (v82 := lI (g 1)) rfl (by decide) (nI_addE (3 * i) 1) (by omega) rfl (nI_addE (3 * i) 1) (by omega) (by decide) (by simp [sa_uJ_if, rm1, gm1, lI_mul, lI_sub]) (by simp [sa_uJ_if, gm1]) (fun c => absurd rfl c) (fun _ => ?_)
      rw [show nI (3 * i) + nI 1 = nI (3 * i + 1) from nI_addE _ _]
      refine bX7_meet_97 ?_
      refine bX7_meet_109 (s1 := 3 * i + 1) (v110 := nI 2) (by omega) rfl ?_
      refine bX7_meet_35 (fun _ => ?_) (fun c => absurd (by decide) c)
      refine bX7_meet_116 ?_
      refine ih (fun c => g c) (fun t => match t with | 0 => (r 0 - q * g 0) % W | _ => r 1 - q * g 1) _ e2 (show 0 < g 1 by omega) ?_ ?_
      · intro c hc
        rcases below3 (show c < 3 by omega) with rfl | rfl | rfl
        · exact ⟨⟨by simp [sa_uJ_if], (hM 0 (by decide)).2.2.1, (hM 0 (by decide)).2.2.2⟩, by simp [sa_uJ_if], (mod_bd hW0).1, (mod_bd hW0).2⟩
        · exact ⟨⟨by simp [sa_uJ_if], (hM 1 (by decide)).2.2.1, (hM 1 (by decide)).2.2.2⟩, by simp [sa_uJ_if], show 0 ≤ r 1 - q * g 1 by omega, show r 1 - q * g 1 ≤ W by omega⟩
        · omega
      · intro r' g' J' p' z' M' fr' fa' fb' rl'
        refine k r' g' J' p' z' M' (fun q h1 h2 => ?_) (fun t ht => ?_) (fun t ht => ?_) (fun H gg w0 => ?_)
        · rw [fr' q h1 h2]; simp only [sa_uJ_ne h1, sa_uJ_ne h2]
        · rw [fa' t ht]; simp only [sa_uJ_if]; rw [if_neg (by omega)]; rw [if_neg (by omega)]; rw [if_neg (by omega)]; rw [if_neg (by omega)]
        · rw [fb' t ht]; simp only [sa_uJ_if]; rw [if_neg (by omega)]; rw [if_neg (by omega)]; rw [if_neg (by omega)]; rw [if_neg (by omega)]
        · exact (st_H1 gg (W := W) (q := q) w0).trans (rl' H gg w0)
theorem me_loop2 {W : Int} {i : Nat} (hi : i < 20) (hW0 : 0 < W) (hW : W ≤ 1000000) : ∀ (f : Nat) (r g : Nat → Int) (J : sa_J), eu f (r 2) (g 2) → 0 < r 2 → (∀ c, c ≤ 2 → (J 14 (6 + c) = lI (r c) ∧ 0 ≤ r c ∧ r c ≤ W) ∧ J 13 (3 * i + c) = lI (g c) ∧ 0 ≤ g c ∧ g c ≤ W) → (∀ (r' g' : Nat → Int) (J' : sa_J), 0 < r' 2 → g' 2 = 0 → (∀ c, c ≤ 2 → (J' 14 (6 + c) = lI (r' c) ∧ 0 ≤ r' c ∧ r' c ≤ W) ∧ J' 13 (3 * i + c) = lI (g' c) ∧ 0 ≤ g' c ∧ g' c ≤ W) → (∀ q, q ≠ 13 → q ≠ 14 → J' q = J q) → (∀ t, t < 6 ∨ 8 < t → J' 14 t = J 14 t) → (∀ t, t < 3 * i ∨ 3 * i + 2 < t → J' 13 t = J 13 t) → (∀ H, Grp H → H (W, 0, 0) → H (0, W, 0) → ((H (trp 2 r) ∧ H (trp 2 g)) ↔ (H (trp 2 r') ∧ H (trp 2 g')))) → P none I J') → Sat (ER l D aI aL ad) M_X7_meet P 0 [(0, .ref (ad 0)), (1, .int (nI 6)), (2, .int (nI (3 * i))), (3, .int (nI 2)), (4, .long (lI W))] [] I J := by
  intro f
  induction f with
  | zero =>
    intro r g J he hp hM k
    refine bX7_meet_0 (j6 := 3 * i + 2) (nI_addE (3 * i) 2) (by omega) (fun _ => bX7_meet_119 (k r g J hp he hM (fun q _ _ => rfl) (fun t _ => rfl) (fun t _ => rfl) (fun H _ _ _ => Iff.rfl))) (fun c => absurd ?_ c)
    rw [(hM 2 (by decide)).2.1, he]; rfl
  | succ f ih =>
    intro r g J he hp hM k
    obtain ⟨⟨rm, rl, ru⟩, gm, gl, gu⟩ := hM 2 (by decide)
    refine bX7_meet_0 (j6 := 3 * i + 2) (nI_addE (3 * i) 2) (by omega) (fun c => ?_) (fun c => ?_)
    · rw [gm] at c
      have c0 := (lI_eq ⟨by omega, by omega⟩ (b := 0) ⟨by omega, by omega⟩).mp c
      exact bX7_meet_119 (k r g J hp c0 hM (fun q _ _ => rfl) (fun t _ => rfl) (fun t _ => rfl) (fun H _ _ _ => Iff.rfl))
    · have c0 : g 2 ≠ 0 := fun q => c (by rw [gm, q]; rfl)
      have cz := c
      rw [gm] at c
      have e2 : eu f (g 2) (r 2 % g 2) := he.resolve_left c0
      have hq := quo_bd (b := g 2) rl ru (by omega)
      have hdm := Int.mul_ediv_add_emod (r 2) (g 2)
      have hmc := Int.mul_comm (g 2) (r 2 / g 2)
      have hm0 := Int.emod_nonneg (r 2) c0
      have hm1 := Int.emod_lt_of_pos (r 2) (show 0 < g 2 by omega)
      have eq : lI (r 2) / lI (g 2) = lI (r 2 / g 2) := lI_quo rl (by omega) (by omega) (by omega)
      generalize hqe : r 2 / g 2 = q at *
      have er : r 2 % g 2 = r 2 - q * g 2 := by omega
      rw [er] at e2
      have rm' : J 14 8 = lI (r 2) := rm
      refine bX7_meet_13 (j19 := 8) (j27 := 3 * i + 2) (v30 := lI q) (v33 := nI 0) rfl (by decide) (nI_addE (3 * i) 2) (by omega) cz (by rw [rm', gm, eq]) rfl ?_
      have i1 : 3 * i + 1 ≠ 3 * i := by omega
      have i2 : 3 * i + 2 ≠ 3 * i := by omega
      have rm0 : J 14 6 = lI (r 0) := (hM 0 (by decide)).1.1
      have gm0 : J 13 (3 * i + 0) = lI (g 0) := (hM 0 (by decide)).2.1
      have hb0 := qc_bd hq ⟨(hM 0 (by decide)).2.2.1, (hM 0 (by decide)).2.2.2⟩ hW
      have rb0 := (hM 0 (by decide)).1.2
      refine bX7_meet_35 (fun c => absurd c (by decide)) (fun _ => ?_)
      refine bX7_meet_41 (j48 := 6) (j59 := 3 * i + 0) (v63 := lI (r 0 - q * g 0)) (j72 := 6) (j80 := 3 * i + 0) (v82 := lI (g 0)) rfl (by decide) (nI_addE (3 * i) 0) (by omega) rfl (nI_addE (3 * i) 0) (by omega) (by decide) (by rw [rm0, gm0, lI_mul, lI_sub]) (gm0) (fun _ => ?_) (fun c => absurd c (by decide))
      rw [show nI (3 * i) + nI 0 = nI (3 * i + 0) from nI_addE _ _]
      refine bX7_meet_102 ?_
      refine v_X7_155 dX7_meet_106 rfl ⟨rfl, rfl, Nat.le_of_ble_eq_true rfl, Nat.le_of_ble_eq_true rfl⟩ (c_floorModE (a := r 0 - q * g 0) (W := W) (z := (r 0 - q * g 0) % W) rfl rfl ⟨by omega, by omega⟩ hW0 hW rfl) rfl rfl (Nat.le_of_ble_eq_true rfl) (fun r1 I1 J1 hp => ?_)
      obtain ⟨rfl, e2', e3'⟩ := hp
      obtain rfl := e2'.symm
      obtain rfl := e3'.symm
      refine bX7_meet_109 (s1 := 3 * i + 0) (v110 := nI 1) (by omega) rfl ?_
      have rm1 : J 14 7 = lI (r 1) := (hM 1 (by decide)).1.1
      have gm1 : J 13 (3 * i + 1) = lI (g 1) := (hM 1 (by decide)).2.1
      have hb1 := qc_bd hq ⟨(hM 1 (by decide)).2.2.1, (hM 1 (by decide)).2.2.2⟩ hW
      have rb1 := (hM 1 (by decide)).1.2
      refine bX7_meet_35 (fun c => absurd c (by decide)) (fun _ => ?_)
      refine bX7_meet_41 (j48 := 7) (j59 := 3 * i + 1) (v63 := lI (r 1 - q * g 1)) (j72 := 7) (j80 := 3 * i + 1) (v82 := lI (g 1)) rfl (by decide) (nI_addE (3 * i) 1) (by omega) rfl (nI_addE (3 * i) 1) (by omega) (by decide) (by simp [sa_uJ_if, rm1, gm1, lI_mul, lI_sub]) (by simp [sa_uJ_if, gm1]) (fun _ => ?_) (fun c => absurd c (by decide))
      rw [show nI (3 * i) + nI 1 = nI (3 * i + 1) from nI_addE _ _]
      refine bX7_meet_102 ?_
      refine v_X7_155 dX7_meet_106 rfl ⟨rfl, rfl, Nat.le_of_ble_eq_true rfl, Nat.le_of_ble_eq_true rfl⟩ (c_floorModE (a := r 1 - q * g 1) (W := W) (z := (r 1 - q * g 1) % W) rfl rfl ⟨by omega, by omega⟩ hW0 hW rfl) rfl rfl (Nat.le_of_ble_eq_true rfl) (fun r1 I1 J1 hp => ?_)
      obtain ⟨rfl, e2', e3'⟩ := hp
      obtain rfl := e2'.symm
      obtain rfl := e3'.symm
      refine bX7_meet_109 (s1 := 3 * i + 1) (v110 := nI 2) (by omega) rfl ?_
      have rm2 : J 14 8 = lI (r 2) := (hM 2 (by decide)).1.1
      have gm2 : J 13 (3 * i + 2) = lI (g 2) := (hM 2 (by decide)).2.1
      have hb2 := qc_bd hq ⟨(hM 2 (by decide)).2.2.1, (hM 2 (by decide)).2.2.2⟩ hW
      have rb2 := (hM 2 (by decide)).1.2
      refine bX7_meet_35 (fun c => absurd c (by decide)) (fun _ => ?_)
      refine bX7_meet_41 (j48 := 8) (j59 := 3 * i + 2) (v63 := lI (r 2 - q * g 2)) (j72 := 8) (j80 := 3 * i + 2) (v82 := lI (g 2)) rfl (by decide) (nI_addE (3 * i) 2) (by omega) rfl (nI_addE (3 * i) 2) (by omega) (by decide) (by simp [sa_uJ_if, rm2, gm2, lI_mul, lI_sub]) (by simp [sa_uJ_if, gm2]) (fun c => absurd rfl c) (fun _ => ?_)
      rw [show nI (3 * i) + nI 2 = nI (3 * i + 2) from nI_addE _ _]
      refine bX7_meet_97 ?_
      refine bX7_meet_109 (s1 := 3 * i + 2) (v110 := nI 3) (by omega) rfl ?_
      refine bX7_meet_35 (fun _ => ?_) (fun c => absurd (by decide) c)
      refine bX7_meet_116 ?_
      refine ih (fun c => g c) (fun t => match t with | 0 => (r 0 - q * g 0) % W | 1 => (r 1 - q * g 1) % W | _ => r 2 - q * g 2) _ e2 (show 0 < g 2 by omega) ?_ ?_
      · intro c hc
        rcases below3 (show c < 3 by omega) with rfl | rfl | rfl
        · exact ⟨⟨by simp [sa_uJ_if], (hM 0 (by decide)).2.2.1, (hM 0 (by decide)).2.2.2⟩, by simp [sa_uJ_if], (mod_bd hW0).1, (mod_bd hW0).2⟩
        · exact ⟨⟨by simp [sa_uJ_if], (hM 1 (by decide)).2.2.1, (hM 1 (by decide)).2.2.2⟩, by simp [sa_uJ_if], (mod_bd hW0).1, (mod_bd hW0).2⟩
        · exact ⟨⟨by simp [sa_uJ_if], (hM 2 (by decide)).2.2.1, (hM 2 (by decide)).2.2.2⟩, by simp [sa_uJ_if], show 0 ≤ r 2 - q * g 2 by omega, show r 2 - q * g 2 ≤ W by omega⟩
      · intro r' g' J' p' z' M' fr' fa' fb' rl'
        refine k r' g' J' p' z' M' (fun q h1 h2 => ?_) (fun t ht => ?_) (fun t ht => ?_) (fun H gg w0 w1 => ?_)
        · rw [fr' q h1 h2]; simp only [sa_uJ_ne h1, sa_uJ_ne h2]
        · rw [fa' t ht]; simp only [sa_uJ_if]; rw [if_neg (by omega)]; rw [if_neg (by omega)]; rw [if_neg (by omega)]; rw [if_neg (by omega)]; rw [if_neg (by omega)]; rw [if_neg (by omega)]
        · rw [fb' t ht]; simp only [sa_uJ_if]; rw [if_neg (by omega)]; rw [if_neg (by omega)]; rw [if_neg (by omega)]; rw [if_neg (by omega)]; rw [if_neg (by omega)]; rw [if_neg (by omega)]
        · exact (st_H2 gg (W := W) (q := q) w0 w1).trans (rl' H gg w0 w1)
end ME
/-- the reference's given numbers -/
def GS (many : Nat) (W : Int) (g : Nat → Nat → Int) (J : sa_J) : Prop := ∀ i, i < many → ∀ c, c < 3 → J 13 (3 * i + c) = lI (g i c) ∧ 0 ≤ g i c ∧ g i c ≤ W
section TG
variable {l : Launch} {D : va_G} {aI aL : ClassId} {ad : Nat → Nat} {P : sa_P} {I : sa_I}
theorem tg_loop0 {W : Int} {many : Nat} (hm : I 0 27 = nI many) (hmany : many ≤ 20) (hW0 : 0 < W) (hW : W ≤ 1000000) : ∀ (d i0 : Nat) (r : Nat → Int) (g : Nat → Nat → Int) (J : sa_J), i0 + d = many → 0 < r 0 → (∀ c, c ≤ 0 → J 14 (0 + c) = lI (r c) ∧ 0 ≤ r c ∧ r c ≤ W) → GS many W g J → (∀ i, i < i0 → g i 0 = 0) → (∀ (r' : Nat → Int) (g' : Nat → Nat → Int) (J' : sa_J), 0 < r' 0 → (∀ c, c ≤ 0 → J' 14 (0 + c) = lI (r' c) ∧ 0 ≤ r' c ∧ r' c ≤ W) → GS many W g' J' → (∀ i, i < many → g' i 0 = 0) → (∀ i, i < many → ∀ c, 0 < c → c < 3 → g' i c = g i c) → (∀ q, q ≠ 13 → q ≠ 14 → J' q = J q) → (∀ t, t < 0 ∨ 0 < t → J' 14 t = J 14 t) → (∀ H, Grp H → ((H (trp 0 r) ∧ ∀ i, i < many → H (trp 0 (g i))) ↔ (H (trp 0 r') ∧ ∀ i, i < many → H (trp 0 (g' i))))) → Sat (ER l D aI aL ad) M_X7_triangle P 136 [(0, .ref (ad 0)), (1, .long (lI W)), (3, .int (nI 0))] [] I J') → Sat (ER l D aI aL ad) M_X7_triangle P 108 [(0, .ref (ad 0)), (1, .long (lI W)), (3, .int (nI 0)), (4, .int (nI i0))] [] I J := by
  intro d
  induction d with
  | zero =>
    intro i0 r g J hd hp hr hG hz k
    refine bX7_triangle_108 (fun _ => k r g J hp hr hG (fun i hi => hz i (by omega)) (fun i _ c _ _ => rfl) (fun q _ _ => rfl) (fun t _ => rfl) (fun H _ => Iff.rfl)) (fun c => absurd ?_ c)
    rw [hm, nJ_le (by omega) (by omega)]; omega
  | succ d ih =>
    intro i0 r g J hd hp hr hG hz k
    refine bX7_triangle_108 (fun c => absurd c (by rw [hm, nJ_le (by omega) (by omega)]; omega)) (fun _ => ?_)
    refine bX7_triangle_117 ?_
    rw [show (3 : Int32) * nI i0 = nI (3 * i0) from nI_mulE 3 i0, show (3 : Int32) * nI 0 = nI 0 from rfl]
    have con : Con (ER l D aI aL ad) M_X7_meet yX7_meet [.ref (ad 0), .int (nI 0), .int (nI (3 * i0)), .int (nI 0), .long (lI W)] I J (fun r1 I1 J1 => r1 = none ∧ I1 = I ∧ ∃ r' g' : Nat → Int, 0 < r' 0 ∧ g' 0 = 0 ∧ (∀ c, c ≤ 0 → (J1 14 (0 + c) = lI (r' c) ∧ 0 ≤ r' c ∧ r' c ≤ W) ∧ J1 13 (3 * i0 + c) = lI (g' c) ∧ 0 ≤ g' c ∧ g' c ≤ W) ∧ (∀ q, q ≠ 13 → q ≠ 14 → J1 q = J q) ∧ (∀ t, t < 0 ∨ 0 < t → J1 14 t = J 14 t) ∧ (∀ t, t < 3 * i0 ∨ 3 * i0 + 0 < t → J1 13 t = J 13 t) ∧ (∀ H, Grp H → ((H (trp 0 r) ∧ H (trp 0 (g i0))) ↔ (H (trp 0 r') ∧ H (trp 0 g'))))) := by
      refine Con.of (by decide +kernel) rfl (Nat.le_of_ble_eq_true rfl) ?_
      refine me_loop0 (i := i0) (by omega) hW0 hW 40 r (g i0) J (eu40 (hG i0 (by omega) 0 (by decide)).2.1 (by have := (hG i0 (by omega) 0 (by decide)).2.2; omega)) hp (fun c hc => ⟨hr c hc, hG i0 (by omega) c (by omega)⟩) (fun r' g' J' a b c d' e f' h => ⟨rfl, rfl, r', g', a, b, c, d', e, f', h⟩)
    refine v_X7_247 dX7_triangle_127 rfl ⟨rfl, rfl, Nat.le_of_ble_eq_true rfl, Nat.le_of_ble_eq_true rfl⟩ con rfl rfl (Nat.le_of_ble_eq_true rfl) (fun r1 I1 J1 hp1 => ?_)
    obtain ⟨rfl, e2, r', g', p', z', M', f1, f2, f3, rl⟩ := hp1
    obtain rfl := e2.symm
    refine bX7_triangle_130 (v130 := nI (i0 + 1)) (nI_addE i0 1) ?_
    refine ih (i0 + 1) r' (fun i c => if i = i0 ∧ c ≤ 0 then g' c else g i c) J1 (by omega) p' (fun c hc => (M' c hc).1) ?_ ?_ ?_
    · intro i hi c hc
      by_cases h : i = i0 ∧ c ≤ 0
      · obtain ⟨rfl, h2⟩ := h
        simp only [h2, and_self, if_true]
        exact (M' c h2).2
      · simp only [if_neg h]
        rw [f3 (3 * i + c) (by omega)]
        exact hG i hi c hc
    · intro i hi
      by_cases h : i = i0
      · subst h; simp only [Nat.le_refl, and_self, if_true]; exact z'
      · simp only [if_neg (fun q : i = i0 ∧ 0 ≤ 0 => h q.1)]; exact hz i (by omega)
    · intro r2 g2 J2 p2 M2 G2 z2 k2 fa fb rl2
      refine k r2 g2 J2 p2 M2 G2 z2 (fun i hi c h1 h2 => ?_) (fun q h1 h2 => (fa q h1 h2).trans (f1 q h1 h2)) (fun t ht => (fb t ht).trans (f2 t ht)) (fun H gg => ?_)
      · rw [k2 i hi c h1 h2]; simp only [if_neg (fun q : i = i0 ∧ c ≤ 0 => by omega)]
      · refine Iff.trans ?_ (rl2 H gg)
        have s := rl H gg
        have es : ∀ i, i ≠ i0 → trp 0 (fun c => if i = i0 ∧ c ≤ 0 then g' c else g i c) = trp 0 (g i) := by
          intro i hne
          simp only [trp, if_neg (fun q : i = i0 ∧ _ => hne q.1)]
        have e0 : trp 0 (fun c => if i0 = i0 ∧ c ≤ 0 then g' c else g i0 c) = trp 0 g' := by simp [trp]
        constructor
        · rintro ⟨a, b⟩
          have s1 := s.mp ⟨a, b i0 (by omega)⟩
          refine ⟨s1.1, fun i hi => ?_⟩
          by_cases h : i = i0
          · subst h; rw [e0]; exact s1.2
          · rw [es i h]; exact b i hi
        · rintro ⟨a, b⟩
          have b0 := b i0 (by omega)
          rw [e0] at b0
          have s1 := s.mpr ⟨a, b0⟩
          refine ⟨s1.1, fun i hi => ?_⟩
          by_cases h : i = i0
          · subst h; exact s1.2
          · have := b i hi
            rw [es i h] at this; exact this
theorem tg_loop1 {W : Int} {many : Nat} (hm : I 0 27 = nI many) (hmany : many ≤ 20) (hW0 : 0 < W) (hW : W ≤ 1000000) : ∀ (d i0 : Nat) (r : Nat → Int) (g : Nat → Nat → Int) (J : sa_J), i0 + d = many → 0 < r 1 → (∀ c, c ≤ 1 → J 14 (3 + c) = lI (r c) ∧ 0 ≤ r c ∧ r c ≤ W) → GS many W g J → (∀ i, i < i0 → g i 1 = 0) → (∀ (r' : Nat → Int) (g' : Nat → Nat → Int) (J' : sa_J), 0 < r' 1 → (∀ c, c ≤ 1 → J' 14 (3 + c) = lI (r' c) ∧ 0 ≤ r' c ∧ r' c ≤ W) → GS many W g' J' → (∀ i, i < many → g' i 1 = 0) → (∀ i, i < many → ∀ c, 1 < c → c < 3 → g' i c = g i c) → (∀ q, q ≠ 13 → q ≠ 14 → J' q = J q) → (∀ t, t < 3 ∨ 4 < t → J' 14 t = J 14 t) → (∀ H, Grp H → H (W, 0, 0) → ((H (trp 1 r) ∧ ∀ i, i < many → H (trp 1 (g i))) ↔ (H (trp 1 r') ∧ ∀ i, i < many → H (trp 1 (g' i))))) → Sat (ER l D aI aL ad) M_X7_triangle P 136 [(0, .ref (ad 0)), (1, .long (lI W)), (3, .int (nI 1))] [] I J') → Sat (ER l D aI aL ad) M_X7_triangle P 108 [(0, .ref (ad 0)), (1, .long (lI W)), (3, .int (nI 1)), (4, .int (nI i0))] [] I J := by
  intro d
  induction d with
  | zero =>
    intro i0 r g J hd hp hr hG hz k
    refine bX7_triangle_108 (fun _ => k r g J hp hr hG (fun i hi => hz i (by omega)) (fun i _ c _ _ => rfl) (fun q _ _ => rfl) (fun t _ => rfl) (fun H _ _ => Iff.rfl)) (fun c => absurd ?_ c)
    rw [hm, nJ_le (by omega) (by omega)]; omega
  | succ d ih =>
    intro i0 r g J hd hp hr hG hz k
    refine bX7_triangle_108 (fun c => absurd c (by rw [hm, nJ_le (by omega) (by omega)]; omega)) (fun _ => ?_)
    refine bX7_triangle_117 ?_
    rw [show (3 : Int32) * nI i0 = nI (3 * i0) from nI_mulE 3 i0, show (3 : Int32) * nI 1 = nI 3 from rfl]
    have con : Con (ER l D aI aL ad) M_X7_meet yX7_meet [.ref (ad 0), .int (nI 3), .int (nI (3 * i0)), .int (nI 1), .long (lI W)] I J (fun r1 I1 J1 => r1 = none ∧ I1 = I ∧ ∃ r' g' : Nat → Int, 0 < r' 1 ∧ g' 1 = 0 ∧ (∀ c, c ≤ 1 → (J1 14 (3 + c) = lI (r' c) ∧ 0 ≤ r' c ∧ r' c ≤ W) ∧ J1 13 (3 * i0 + c) = lI (g' c) ∧ 0 ≤ g' c ∧ g' c ≤ W) ∧ (∀ q, q ≠ 13 → q ≠ 14 → J1 q = J q) ∧ (∀ t, t < 3 ∨ 4 < t → J1 14 t = J 14 t) ∧ (∀ t, t < 3 * i0 ∨ 3 * i0 + 1 < t → J1 13 t = J 13 t) ∧ (∀ H, Grp H → H (W, 0, 0) → ((H (trp 1 r) ∧ H (trp 1 (g i0))) ↔ (H (trp 1 r') ∧ H (trp 1 g'))))) := by
      refine Con.of (by decide +kernel) rfl (Nat.le_of_ble_eq_true rfl) ?_
      refine me_loop1 (i := i0) (by omega) hW0 hW 40 r (g i0) J (eu40 (hG i0 (by omega) 1 (by decide)).2.1 (by have := (hG i0 (by omega) 1 (by decide)).2.2; omega)) hp (fun c hc => ⟨hr c hc, hG i0 (by omega) c (by omega)⟩) (fun r' g' J' a b c d' e f' h => ⟨rfl, rfl, r', g', a, b, c, d', e, f', h⟩)
    refine v_X7_247 dX7_triangle_127 rfl ⟨rfl, rfl, Nat.le_of_ble_eq_true rfl, Nat.le_of_ble_eq_true rfl⟩ con rfl rfl (Nat.le_of_ble_eq_true rfl) (fun r1 I1 J1 hp1 => ?_)
    obtain ⟨rfl, e2, r', g', p', z', M', f1, f2, f3, rl⟩ := hp1
    obtain rfl := e2.symm
    refine bX7_triangle_130 (v130 := nI (i0 + 1)) (nI_addE i0 1) ?_
    refine ih (i0 + 1) r' (fun i c => if i = i0 ∧ c ≤ 1 then g' c else g i c) J1 (by omega) p' (fun c hc => (M' c hc).1) ?_ ?_ ?_
    · intro i hi c hc
      by_cases h : i = i0 ∧ c ≤ 1
      · obtain ⟨rfl, h2⟩ := h
        simp only [h2, and_self, if_true]
        exact (M' c h2).2
      · simp only [if_neg h]
        rw [f3 (3 * i + c) (by omega)]
        exact hG i hi c hc
    · intro i hi
      by_cases h : i = i0
      · subst h; simp only [Nat.le_refl, and_self, if_true]; exact z'
      · simp only [if_neg (fun q : i = i0 ∧ 1 ≤ 1 => h q.1)]; exact hz i (by omega)
    · intro r2 g2 J2 p2 M2 G2 z2 k2 fa fb rl2
      refine k r2 g2 J2 p2 M2 G2 z2 (fun i hi c h1 h2 => ?_) (fun q h1 h2 => (fa q h1 h2).trans (f1 q h1 h2)) (fun t ht => (fb t ht).trans (f2 t ht)) (fun H gg w0 => ?_)
      · rw [k2 i hi c h1 h2]; simp only [if_neg (fun q : i = i0 ∧ c ≤ 1 => by omega)]
      · refine Iff.trans ?_ (rl2 H gg w0)
        have s := rl H gg w0
        have es : ∀ i, i ≠ i0 → trp 1 (fun c => if i = i0 ∧ c ≤ 1 then g' c else g i c) = trp 1 (g i) := by
          intro i hne
          simp only [trp, if_neg (fun q : i = i0 ∧ _ => hne q.1)]
        have e0 : trp 1 (fun c => if i0 = i0 ∧ c ≤ 1 then g' c else g i0 c) = trp 1 g' := by simp [trp]
        constructor
        · rintro ⟨a, b⟩
          have s1 := s.mp ⟨a, b i0 (by omega)⟩
          refine ⟨s1.1, fun i hi => ?_⟩
          by_cases h : i = i0
          · subst h; rw [e0]; exact s1.2
          · rw [es i h]; exact b i hi
        · rintro ⟨a, b⟩
          have b0 := b i0 (by omega)
          rw [e0] at b0
          have s1 := s.mpr ⟨a, b0⟩
          refine ⟨s1.1, fun i hi => ?_⟩
          by_cases h : i = i0
          · subst h; exact s1.2
          · have := b i hi
            rw [es i h] at this; exact this
theorem tg_loop2 {W : Int} {many : Nat} (hm : I 0 27 = nI many) (hmany : many ≤ 20) (hW0 : 0 < W) (hW : W ≤ 1000000) : ∀ (d i0 : Nat) (r : Nat → Int) (g : Nat → Nat → Int) (J : sa_J), i0 + d = many → 0 < r 2 → (∀ c, c ≤ 2 → J 14 (6 + c) = lI (r c) ∧ 0 ≤ r c ∧ r c ≤ W) → GS many W g J → (∀ i, i < i0 → g i 2 = 0) → (∀ (r' : Nat → Int) (g' : Nat → Nat → Int) (J' : sa_J), 0 < r' 2 → (∀ c, c ≤ 2 → J' 14 (6 + c) = lI (r' c) ∧ 0 ≤ r' c ∧ r' c ≤ W) → GS many W g' J' → (∀ i, i < many → g' i 2 = 0) → (∀ i, i < many → ∀ c, 2 < c → c < 3 → g' i c = g i c) → (∀ q, q ≠ 13 → q ≠ 14 → J' q = J q) → (∀ t, t < 6 ∨ 8 < t → J' 14 t = J 14 t) → (∀ H, Grp H → H (W, 0, 0) → H (0, W, 0) → ((H (trp 2 r) ∧ ∀ i, i < many → H (trp 2 (g i))) ↔ (H (trp 2 r') ∧ ∀ i, i < many → H (trp 2 (g' i))))) → Sat (ER l D aI aL ad) M_X7_triangle P 136 [(0, .ref (ad 0)), (1, .long (lI W)), (3, .int (nI 2))] [] I J') → Sat (ER l D aI aL ad) M_X7_triangle P 108 [(0, .ref (ad 0)), (1, .long (lI W)), (3, .int (nI 2)), (4, .int (nI i0))] [] I J := by
  intro d
  induction d with
  | zero =>
    intro i0 r g J hd hp hr hG hz k
    refine bX7_triangle_108 (fun _ => k r g J hp hr hG (fun i hi => hz i (by omega)) (fun i _ c _ _ => rfl) (fun q _ _ => rfl) (fun t _ => rfl) (fun H _ _ _ => Iff.rfl)) (fun c => absurd ?_ c)
    rw [hm, nJ_le (by omega) (by omega)]; omega
  | succ d ih =>
    intro i0 r g J hd hp hr hG hz k
    refine bX7_triangle_108 (fun c => absurd c (by rw [hm, nJ_le (by omega) (by omega)]; omega)) (fun _ => ?_)
    refine bX7_triangle_117 ?_
    rw [show (3 : Int32) * nI i0 = nI (3 * i0) from nI_mulE 3 i0, show (3 : Int32) * nI 2 = nI 6 from rfl]
    have con : Con (ER l D aI aL ad) M_X7_meet yX7_meet [.ref (ad 0), .int (nI 6), .int (nI (3 * i0)), .int (nI 2), .long (lI W)] I J (fun r1 I1 J1 => r1 = none ∧ I1 = I ∧ ∃ r' g' : Nat → Int, 0 < r' 2 ∧ g' 2 = 0 ∧ (∀ c, c ≤ 2 → (J1 14 (6 + c) = lI (r' c) ∧ 0 ≤ r' c ∧ r' c ≤ W) ∧ J1 13 (3 * i0 + c) = lI (g' c) ∧ 0 ≤ g' c ∧ g' c ≤ W) ∧ (∀ q, q ≠ 13 → q ≠ 14 → J1 q = J q) ∧ (∀ t, t < 6 ∨ 8 < t → J1 14 t = J 14 t) ∧ (∀ t, t < 3 * i0 ∨ 3 * i0 + 2 < t → J1 13 t = J 13 t) ∧ (∀ H, Grp H → H (W, 0, 0) → H (0, W, 0) → ((H (trp 2 r) ∧ H (trp 2 (g i0))) ↔ (H (trp 2 r') ∧ H (trp 2 g'))))) := by
      refine Con.of (by decide +kernel) rfl (Nat.le_of_ble_eq_true rfl) ?_
      refine me_loop2 (i := i0) (by omega) hW0 hW 40 r (g i0) J (eu40 (hG i0 (by omega) 2 (by decide)).2.1 (by have := (hG i0 (by omega) 2 (by decide)).2.2; omega)) hp (fun c hc => ⟨hr c hc, hG i0 (by omega) c (by omega)⟩) (fun r' g' J' a b c d' e f' h => ⟨rfl, rfl, r', g', a, b, c, d', e, f', h⟩)
    refine v_X7_247 dX7_triangle_127 rfl ⟨rfl, rfl, Nat.le_of_ble_eq_true rfl, Nat.le_of_ble_eq_true rfl⟩ con rfl rfl (Nat.le_of_ble_eq_true rfl) (fun r1 I1 J1 hp1 => ?_)
    obtain ⟨rfl, e2, r', g', p', z', M', f1, f2, f3, rl⟩ := hp1
    obtain rfl := e2.symm
    refine bX7_triangle_130 (v130 := nI (i0 + 1)) (nI_addE i0 1) ?_
    refine ih (i0 + 1) r' (fun i c => if i = i0 ∧ c ≤ 2 then g' c else g i c) J1 (by omega) p' (fun c hc => (M' c hc).1) ?_ ?_ ?_
    · intro i hi c hc
      by_cases h : i = i0 ∧ c ≤ 2
      · obtain ⟨rfl, h2⟩ := h
        simp only [h2, and_self, if_true]
        exact (M' c h2).2
      · simp only [if_neg h]
        rw [f3 (3 * i + c) (by omega)]
        exact hG i hi c hc
    · intro i hi
      by_cases h : i = i0
      · subst h; simp only [Nat.le_refl, and_self, if_true]; exact z'
      · simp only [if_neg (fun q : i = i0 ∧ 2 ≤ 2 => h q.1)]; exact hz i (by omega)
    · intro r2 g2 J2 p2 M2 G2 z2 k2 fa fb rl2
      refine k r2 g2 J2 p2 M2 G2 z2 (fun i hi c h1 h2 => ?_) (fun q h1 h2 => (fa q h1 h2).trans (f1 q h1 h2)) (fun t ht => (fb t ht).trans (f2 t ht)) (fun H gg w0 w1 => ?_)
      · rw [k2 i hi c h1 h2]; simp only [if_neg (fun q : i = i0 ∧ c ≤ 2 => by omega)]
      · refine Iff.trans ?_ (rl2 H gg w0 w1)
        have s := rl H gg w0 w1
        have es : ∀ i, i ≠ i0 → trp 2 (fun c => if i = i0 ∧ c ≤ 2 then g' c else g i c) = trp 2 (g i) := by
          intro i hne
          simp only [trp, if_neg (fun q : i = i0 ∧ _ => hne q.1)]
        have e0 : trp 2 (fun c => if i0 = i0 ∧ c ≤ 2 then g' c else g i0 c) = trp 2 g' := by simp [trp]
        constructor
        · rintro ⟨a, b⟩
          have s1 := s.mp ⟨a, b i0 (by omega)⟩
          refine ⟨s1.1, fun i hi => ?_⟩
          by_cases h : i = i0
          · subst h; rw [e0]; exact s1.2
          · rw [es i h]; exact b i hi
        · rintro ⟨a, b⟩
          have b0 := b i0 (by omega)
          rw [e0] at b0
          have s1 := s.mpr ⟨a, b0⟩
          refine ⟨s1.1, fun i hi => ?_⟩
          by_cases h : i = i0
          · subst h; exact s1.2
          · have := b i hi
            rw [es i h] at this; exact this
theorem tg_cut {W : Int} {many : Nat} (hm : I 0 27 = nI many) (hmany : many ≤ 20) (hW0 : 0 < W) (hW : W ≤ 1000000) {g : Nat → Nat → Int} (hg : ∀ i, i < many → ∀ c, c < 3 → rg (g i c)) : ∀ (d i0 : Nat) (J : sa_J), i0 + d = many → (∀ i, i < i0 → ∀ c, c < 3 → J 13 (3 * i + c) = lI (g i c % W)) → (∀ i, i0 ≤ i → i < many → ∀ c, c < 3 → J 13 (3 * i + c) = lI (g i c)) → (∀ J', (∀ q, q ≠ 13 → J' q = J q) → GS many W (fun i c => g i c % W) J' → Sat (ER l D aI aL ad) M_X7_triangle P 57 [(0, .ref (ad 0)), (1, .long (lI W))] [] I J') → Sat (ER l D aI aL ad) M_X7_triangle P 2 [(0, .ref (ad 0)), (1, .long (lI W)), (3, .int (nI i0))] [] I J := by
  intro d
  induction d with
  | zero =>
    intro i0 J hd h1 h2 k
    refine bX7_triangle_2 (fun _ => k J (fun q _ => rfl) (fun i hi c hc => ⟨h1 i (by omega) c hc, mod_bd hW0⟩)) (fun c => absurd ?_ c)
    rw [hm, nJ_le (by omega) (by omega)]; omega
  | succ d ih =>
    intro i0 J hd h1 h2 k
    refine bX7_triangle_2 (fun c => absurd c (by rw [hm, nJ_le (by omega) (by omega)]; omega)) (fun _ => ?_)
    refine bX7_triangle_10 (v11 := nI 0) rfl ?_
    refine bX7_triangle_13 (fun c => absurd c (by decide)) (fun _ => ?_)
    refine bX7_triangle_19 (j38 := 3 * i0 + 0) (by rw [show (3 : Int32) * nI i0 = nI (3 * i0) from nI_mulE 3 i0]; exact nI_addE _ _) (by omega) ?_
    rw [show (3 : Int32) * nI i0 = nI (3 * i0) from nI_mulE 3 i0, show nI (3 * i0) + nI 0 = nI (3 * i0 + 0) from nI_addE _ _]
    refine v_X7_155 dX7_triangle_41 rfl ⟨rfl, rfl, Nat.le_of_ble_eq_true rfl, Nat.le_of_ble_eq_true rfl⟩ (c_floorModE (a := g i0 0) (W := W) (z := g i0 0 % W) (h2 i0 (by omega) (by omega) 0 (by decide)) rfl (hg i0 (by omega) 0 (by decide)) hW0 hW rfl) rfl rfl (Nat.le_of_ble_eq_true rfl) (fun r1 I1 J1 hp => ?_)
    obtain ⟨rfl, e2', e3'⟩ := hp
    obtain rfl := e2'.symm
    obtain rfl := e3'.symm
    refine bX7_triangle_44 (s1 := 3 * i0 + 0) (v45 := nI 1) (by omega) rfl ?_
    refine bX7_triangle_13 (fun c => absurd c (by decide)) (fun _ => ?_)
    refine bX7_triangle_19 (j38 := 3 * i0 + 1) (by rw [show (3 : Int32) * nI i0 = nI (3 * i0) from nI_mulE 3 i0]; exact nI_addE _ _) (by omega) ?_
    rw [show (3 : Int32) * nI i0 = nI (3 * i0) from nI_mulE 3 i0, show nI (3 * i0) + nI 1 = nI (3 * i0 + 1) from nI_addE _ _]
    refine v_X7_155 dX7_triangle_41 rfl ⟨rfl, rfl, Nat.le_of_ble_eq_true rfl, Nat.le_of_ble_eq_true rfl⟩ (c_floorModE (a := g i0 1) (W := W) (z := g i0 1 % W) (by simp only [sa_uJ_if]; rw [if_neg (by omega)]; exact h2 i0 (by omega) (by omega) 1 (by decide)) rfl (hg i0 (by omega) 1 (by decide)) hW0 hW rfl) rfl rfl (Nat.le_of_ble_eq_true rfl) (fun r1 I1 J1 hp => ?_)
    obtain ⟨rfl, e2', e3'⟩ := hp
    obtain rfl := e2'.symm
    obtain rfl := e3'.symm
    refine bX7_triangle_44 (s1 := 3 * i0 + 1) (v45 := nI 2) (by omega) rfl ?_
    refine bX7_triangle_13 (fun c => absurd c (by decide)) (fun _ => ?_)
    refine bX7_triangle_19 (j38 := 3 * i0 + 2) (by rw [show (3 : Int32) * nI i0 = nI (3 * i0) from nI_mulE 3 i0]; exact nI_addE _ _) (by omega) ?_
    rw [show (3 : Int32) * nI i0 = nI (3 * i0) from nI_mulE 3 i0, show nI (3 * i0) + nI 2 = nI (3 * i0 + 2) from nI_addE _ _]
    refine v_X7_155 dX7_triangle_41 rfl ⟨rfl, rfl, Nat.le_of_ble_eq_true rfl, Nat.le_of_ble_eq_true rfl⟩ (c_floorModE (a := g i0 2) (W := W) (z := g i0 2 % W) (by simp only [sa_uJ_if]; rw [if_neg (by omega)]; rw [if_neg (by omega)]; exact h2 i0 (by omega) (by omega) 2 (by decide)) rfl (hg i0 (by omega) 2 (by decide)) hW0 hW rfl) rfl rfl (Nat.le_of_ble_eq_true rfl) (fun r1 I1 J1 hp => ?_)
    obtain ⟨rfl, e2', e3'⟩ := hp
    obtain rfl := e2'.symm
    obtain rfl := e3'.symm
    refine bX7_triangle_44 (s1 := 3 * i0 + 2) (v45 := nI 3) (by omega) rfl ?_
    refine bX7_triangle_13 (fun _ => ?_) (fun c => absurd (by decide) c)
    refine bX7_triangle_51 (v51 := nI (i0 + 1)) (nI_addE i0 1) ?_
    refine ih (i0 + 1) _ (by omega) ?_ ?_ ?_
    · intro i hi c hc
      by_cases h : i = i0
      · subst h
        rcases below3 hc with rfl | rfl | rfl
        · simp [sa_uJ_if]
        · simp [sa_uJ_if]
        · simp [sa_uJ_if]
      · simp only [sa_uJ_if]
        rw [if_neg (by omega), if_neg (by omega), if_neg (by omega)]
        exact h1 i (by omega) c hc
    · intro i h3 h4 c hc
      simp only [sa_uJ_if]
      rw [if_neg (by omega), if_neg (by omega), if_neg (by omega)]
      exact h2 i (by omega) h4 c hc
    · intro J' f1 G
      exact k J' (fun q hq => by rw [f1 q hq]; simp only [sa_uJ_ne hq]) G
end TG
