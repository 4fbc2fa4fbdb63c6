section TH
variable {l : Launch} {D : va_G} {aI aL : ClassId} {ad : Nat → Nat} {P : sa_P} {I : sa_I} {J : sa_J}
theorem tg_settle3 {W : Int} {R : Nat → Int} (hn : I 0 1 = nI 3) (hW : W ≤ 1000000) (hM : ∀ t, t < 9 → J 14 t = lI (R t) ∧ 0 ≤ R t ∧ R t ≤ W) (p0 : 0 < R 0) (p4 : 0 < R 4) (kk : ∀ J', (∀ q, q ≠ 14 → J' q = J q) → (∀ t, t < 9 → J' 14 t = lI (setR 3 R t)) → P none I J') : Sat (ER l D aI aL ad) M_X7_triangle P 142 [(0, .ref (ad 0))] [] I J := by
  obtain ⟨m0, l0, u0⟩ := hM 0 (by decide)
  obtain ⟨m1, l1, u1⟩ := hM 1 (by decide)
  obtain ⟨m2, l2, u2⟩ := hM 2 (by decide)
  obtain ⟨m3, l3, u3⟩ := hM 3 (by decide)
  obtain ⟨m4, l4, u4⟩ := hM 4 (by decide)
  obtain ⟨m5, l5, u5⟩ := hM 5 (by decide)
  obtain ⟨m6, l6, u6⟩ := hM 6 (by decide)
  obtain ⟨m7, l7, u7⟩ := hM 7 (by decide)
  obtain ⟨m8, l8, u8⟩ := hM 8 (by decide)
  have d3 := Int.mul_ediv_add_emod (R 3) (R 0)
  have c3 := Int.mul_comm (R 0) (R 3 / R 0)
  have r3 := mod_bd (a := R 3) p0
  refine bX7_triangle_142 (v143 := nI 1) rfl ?_
  refine bX7_triangle_144 (fun c => absurd c (by rw [hn]; decide)) (fun _ => ?_)
  refine bX7_triangle_152 (v155 := nI 0) rfl ?_
  refine bX7_triangle_157 (fun c => absurd c (by decide)) (fun _ => ?_)
  refine bX7_triangle_162 (j171 := 3) (j183 := 0) rfl (by decide) rfl (by decide) ?_
  refine v_X7_151 dX7_triangle_185 rfl ⟨rfl, rfl, Nat.le_of_ble_eq_true rfl, Nat.le_of_ble_eq_true rfl⟩ (c_floorDivE (a := R 3) (W := R 0) (z := R 3 / R 0) m3 m0 ⟨by omega, by omega⟩ p0 (by omega) rfl) rfl rfl (Nat.le_of_ble_eq_true rfl) (fun r I1 J1 hp => ?_)
  obtain ⟨rfl, e2', e3'⟩ := hp
  obtain rfl := e2'.symm
  obtain rfl := e3'.symm
  refine bX7_triangle_188 (v191 := nI 0) rfl ?_
  refine bX7_triangle_193 (fun c => absurd c (by decide)) (fun _ => ?_)
  refine bX7_triangle_200 (j209 := 3) (j224 := 0) (v228 := lI (R 3 % R 0)) (v229 := nI 1) rfl (by decide) rfl (by decide) (by decide) (by rw [m3, m0, lI_mul, lI_sub]; congr 1; omega) rfl ?_
  refine bX7_triangle_193 (fun _ => ?_) (fun c => absurd (by decide) c)
  refine bX7_triangle_235 (v235 := (-1)) rfl ?_
  refine bX7_triangle_157 (fun _ => ?_) (fun c => absurd (by decide) c)
  refine bX7_triangle_241 (v241 := nI 2) rfl ?_
  have d7 := Int.mul_ediv_add_emod (R 7) (R 4)
  have c7 := Int.mul_comm (R 4) (R 7 / R 4)
  have r7 := mod_bd (a := R 7) p4
  have q7 := quo_bd (b := R 4) l7 u7 p4
  have x6 := qc_bd (c := R 3 % R 0) q7 ⟨r3.1, by omega⟩ hW
  have d6 := Int.mul_ediv_add_emod (R 6 - R 7 / R 4 * (R 3 % R 0)) (R 0)
  have c6 := Int.mul_comm (R 0) ((R 6 - R 7 / R 4 * (R 3 % R 0)) / R 0)
  refine bX7_triangle_144 (fun c => absurd c (by rw [hn]; decide)) (fun _ => ?_)
  refine bX7_triangle_152 (v155 := nI 1) rfl ?_
  refine bX7_triangle_157 (fun c => absurd c (by decide)) (fun _ => ?_)
  refine bX7_triangle_162 (j171 := 7) (j183 := 4) rfl (by decide) rfl (by decide) ?_
  refine v_X7_151 dX7_triangle_185 rfl ⟨rfl, rfl, Nat.le_of_ble_eq_true rfl, Nat.le_of_ble_eq_true rfl⟩ (c_floorDivE (a := R 7) (W := R 4) (z := R 7 / R 4) (by simp [sa_uJ_if, m7]) (by simp [sa_uJ_if, m4]) ⟨by omega, by omega⟩ p4 (by omega) rfl) rfl rfl (Nat.le_of_ble_eq_true rfl) (fun r I1 J1 hp => ?_)
  obtain ⟨rfl, e2', e3'⟩ := hp
  obtain rfl := e2'.symm
  obtain rfl := e3'.symm
  refine bX7_triangle_188 (v191 := nI 0) rfl ?_
  refine bX7_triangle_193 (fun c => absurd c (by decide)) (fun _ => ?_)
  refine bX7_triangle_200 (j209 := 6) (j224 := 3) (v228 := lI (R 6 - R 7 / R 4 * (R 3 % R 0))) (v229 := nI 1) rfl (by decide) rfl (by decide) (by decide) (by simp [sa_uJ_if, m6, lI_mul, lI_sub]) rfl ?_
  refine bX7_triangle_193 (fun c => absurd c (by decide)) (fun _ => ?_)
  refine bX7_triangle_200 (j209 := 7) (j224 := 4) (v228 := lI (R 7 % R 4)) (v229 := nI 2) rfl (by decide) rfl (by decide) (by decide) (by simp only [sa_uJ_if]; simp [m7, m4, lI_mul, lI_sub]; congr 1; omega) rfl ?_
  refine bX7_triangle_193 (fun _ => ?_) (fun c => absurd (by decide) c)
  refine bX7_triangle_235 (v235 := nI 0) rfl ?_
  refine bX7_triangle_157 (fun c => absurd c (by decide)) (fun _ => ?_)
  refine bX7_triangle_162 (j171 := 6) (j183 := 0) rfl (by decide) rfl (by decide) ?_
  refine v_X7_151 dX7_triangle_185 rfl ⟨rfl, rfl, Nat.le_of_ble_eq_true rfl, Nat.le_of_ble_eq_true rfl⟩ (c_floorDivE (a := R 6 - R 7 / R 4 * (R 3 % R 0)) (W := R 0) (z := (R 6 - R 7 / R 4 * (R 3 % R 0)) / R 0) (by simp [sa_uJ_if]) (by simp [sa_uJ_if, m0]) ⟨by omega, by omega⟩ p0 (by omega) rfl) rfl rfl (Nat.le_of_ble_eq_true rfl) (fun r I1 J1 hp => ?_)
  obtain ⟨rfl, e2', e3'⟩ := hp
  obtain rfl := e2'.symm
  obtain rfl := e3'.symm
  refine bX7_triangle_188 (v191 := nI 0) rfl ?_
  refine bX7_triangle_193 (fun c => absurd c (by decide)) (fun _ => ?_)
  refine bX7_triangle_200 (j209 := 6) (j224 := 0) (v228 := lI ((R 6 - R 7 / R 4 * (R 3 % R 0)) % R 0)) (v229 := nI 1) rfl (by decide) rfl (by decide) (by decide) (by simp only [sa_uJ_if]; simp [m0, lI_mul, lI_sub]; congr 1; omega) rfl ?_
  refine bX7_triangle_193 (fun _ => ?_) (fun c => absurd (by decide) c)
  refine bX7_triangle_235 (v235 := (-1)) rfl ?_
  refine bX7_triangle_157 (fun _ => ?_) (fun c => absurd (by decide) c)
  refine bX7_triangle_241 (v241 := nI 3) rfl ?_
  refine bX7_triangle_144 (fun _ => bX7_triangle_247 (kk _ (fun q h => by simp only [sa_uJ_ne h]) (fun t ht => ?_))) (fun c => absurd (by rw [hn]; decide) c)
  rcases below9 ht with rfl | rfl | rfl | rfl | rfl | rfl | rfl | rfl | rfl
  · simp [sa_uJ_if, setR, m0]
  · simp [sa_uJ_if, setR, m1]
  · simp [sa_uJ_if, setR, m2]
  · simp [sa_uJ_if, setR]
  · simp [sa_uJ_if, setR, m4]
  · simp [sa_uJ_if, setR, m5]
  · simp [sa_uJ_if, setR]
  · simp [sa_uJ_if, setR]
  · simp [sa_uJ_if, setR, m8]
theorem tg_settle2 {W : Int} {R : Nat → Int} (hn : I 0 1 = nI 2) (hW : W ≤ 1000000) (hM : ∀ t, t < 6 → J 14 t = lI (R t) ∧ 0 ≤ R t ∧ R t ≤ W) (p0 : 0 < R 0) (p4 : 0 < R 4) (kk : ∀ J', (∀ q, q ≠ 14 → J' q = J q) → (∀ t, t < 6 → J' 14 t = lI (setR 2 R t)) → P none I J') : Sat (ER l D aI aL ad) M_X7_triangle P 142 [(0, .ref (ad 0))] [] I J := by
  obtain ⟨m0, l0, u0⟩ := hM 0 (by decide)
  obtain ⟨m1, l1, u1⟩ := hM 1 (by decide)
  obtain ⟨m2, l2, u2⟩ := hM 2 (by decide)
  obtain ⟨m3, l3, u3⟩ := hM 3 (by decide)
  obtain ⟨m4, l4, u4⟩ := hM 4 (by decide)
  obtain ⟨m5, l5, u5⟩ := hM 5 (by decide)
  have d3 := Int.mul_ediv_add_emod (R 3) (R 0)
  have c3 := Int.mul_comm (R 0) (R 3 / R 0)
  have r3 := mod_bd (a := R 3) p0
  refine bX7_triangle_142 (v143 := nI 1) rfl ?_
  refine bX7_triangle_144 (fun c => absurd c (by rw [hn]; decide)) (fun _ => ?_)
  refine bX7_triangle_152 (v155 := nI 0) rfl ?_
  refine bX7_triangle_157 (fun c => absurd c (by decide)) (fun _ => ?_)
  refine bX7_triangle_162 (j171 := 3) (j183 := 0) rfl (by decide) rfl (by decide) ?_
  refine v_X7_151 dX7_triangle_185 rfl ⟨rfl, rfl, Nat.le_of_ble_eq_true rfl, Nat.le_of_ble_eq_true rfl⟩ (c_floorDivE (a := R 3) (W := R 0) (z := R 3 / R 0) m3 m0 ⟨by omega, by omega⟩ p0 (by omega) rfl) rfl rfl (Nat.le_of_ble_eq_true rfl) (fun r I1 J1 hp => ?_)
  obtain ⟨rfl, e2', e3'⟩ := hp
  obtain rfl := e2'.symm
  obtain rfl := e3'.symm
  refine bX7_triangle_188 (v191 := nI 0) rfl ?_
  refine bX7_triangle_193 (fun c => absurd c (by decide)) (fun _ => ?_)
  refine bX7_triangle_200 (j209 := 3) (j224 := 0) (v228 := lI (R 3 % R 0)) (v229 := nI 1) rfl (by decide) rfl (by decide) (by decide) (by rw [m3, m0, lI_mul, lI_sub]; congr 1; omega) rfl ?_
  refine bX7_triangle_193 (fun _ => ?_) (fun c => absurd (by decide) c)
  refine bX7_triangle_235 (v235 := (-1)) rfl ?_
  refine bX7_triangle_157 (fun _ => ?_) (fun c => absurd (by decide) c)
  refine bX7_triangle_241 (v241 := nI 2) rfl ?_
  refine bX7_triangle_144 (fun _ => bX7_triangle_247 (kk _ (fun q h => sa_uJ_ne h) (fun t ht => ?_))) (fun c => absurd (by rw [hn]; decide) c)
  have : t = 0 ∨ t = 1 ∨ t = 2 ∨ t = 3 ∨ t = 4 ∨ t = 5 := by omega
  rcases this with rfl | rfl | rfl | rfl | rfl | rfl
  · simp [sa_uJ_if, setR, m0]
  · simp [sa_uJ_if, setR, m1]
  · simp [sa_uJ_if, setR, m2]
  · simp [sa_uJ_if, setR]
  · simp [sa_uJ_if, setR, m4]
  · simp [sa_uJ_if, setR, m5]
theorem c_triangle3 {W : Int} {many : Nat} {g : Nat → Nat → Int} (hn : I 0 1 = nI 3) (hm : I 0 27 = nI many) (hmany : many ≤ 20) (hW0 : 0 < W) (hW : W ≤ 1000000) (hg : ∀ i, i < many → ∀ c, c < 3 → J 13 (3 * i + c) = lI (g i c) ∧ rg (g i c)) : Con (ER l D aI aL ad) M_X7_triangle yX7_triangle [.ref (ad 0), .long (lI W)] I J (fun r I1 J1 => r = none ∧ I1 = I ∧ (∀ q, q ≠ 13 → q ≠ 14 → J1 q = J q) ∧ ∃ R, Hm R ∧ (∀ t, t < 9 → 0 ≤ R t ∧ R t ≤ W) ∧ (∀ t, t < 9 → J1 14 t = lI (R t)) ∧ ∀ H, Grp H → (In3 H R ↔ (H (W, 0, 0) ∧ H (0, W, 0) ∧ H (0, 0, W) ∧ ∀ i, i < many → H (g i 0, g i 1, g i 2)))) := by
  refine Con.of (by decide +kernel) rfl (Nat.le_of_ble_eq_true rfl) ?_
  refine bX7_triangle_0 (v1 := nI 0) rfl ?_
  refine tg_cut hm hmany hW0 hW (fun i hi c hc => (hg i hi c hc).2) many 0 J (by omega) (fun i hi => by omega) (fun i _ hi c hc => (hg i hi c hc).1) (fun J0 f0 G0 => ?_)
  refine bX7_triangle_57 (v63 := nI 2) (by rw [hn]; rfl) ?_
  refine bX7_triangle_64 (fun c => absurd c (by decide)) (fun _ => ?_)
  refine bX7_triangle_68 (v69 := nI 0) rfl ?_
  refine bX7_triangle_71 (fun c => absurd c (by decide)) (fun _ => ?_)
  refine bX7_triangle_77 (fun _ => ?_) (fun c => absurd c (by decide))
  rw [show (3 : Int32) * nI 2 + nI 0 = nI 6 from rfl]
  refine bX7_triangle_97 ?_
  refine bX7_triangle_98 (s1 := 6) (v99 := nI 1) (by decide) rfl ?_
  refine bX7_triangle_71 (fun c => absurd c (by decide)) (fun _ => ?_)
  refine bX7_triangle_77 (fun _ => ?_) (fun c => absurd c (by decide))
  rw [show (3 : Int32) * nI 2 + nI 1 = nI 7 from rfl]
  refine bX7_triangle_97 ?_
  refine bX7_triangle_98 (s1 := 7) (v99 := nI 2) (by decide) rfl ?_
  refine bX7_triangle_71 (fun c => absurd c (by decide)) (fun _ => ?_)
  refine bX7_triangle_77 (fun c => absurd rfl c) (fun _ => ?_)
  rw [show (3 : Int32) * nI 2 + nI 2 = nI 8 from rfl]
  refine bX7_triangle_93 ?_
  refine bX7_triangle_98 (s1 := 8) (v99 := nI 3) (by decide) rfl ?_
  refine bX7_triangle_71 (fun _ => ?_) (fun c => absurd (by decide) c)
  refine bX7_triangle_105 (v106 := nI 0) rfl ?_
  refine tg_loop2 hm hmany hW0 hW many 0 (fun c => if c = 2 then W else 0) (fun i c => g i c % W) _ (by omega) (by simp; exact hW0) ?_ ?_ (fun i hi => by omega) (fun r2 g2 J2' p2 m2 G2 z2 y2 fa2 fb2 rl2 => ?_)
  · intro c hc
    rcases below3 (show c < 3 by omega) with rfl | rfl | rfl
    · exact ⟨by simp [sa_uJ_if]; rfl, by simp, by simp; omega⟩
    · exact ⟨by simp [sa_uJ_if]; rfl, by simp, by simp; omega⟩
    · exact ⟨by simp [sa_uJ_if], by simp; omega, by simp⟩
  · intro i hi c hc
    obtain ⟨a, b, e⟩ := G0 i hi c hc
    exact ⟨by simp only [sa_uJ_ne (show 13 ≠ 14 by decide)]; exact a, b, e⟩
  refine bX7_triangle_136 (v136 := nI 1) rfl ?_
  refine bX7_triangle_64 (fun c => absurd c (by decide)) (fun _ => ?_)
  refine bX7_triangle_68 (v69 := nI 0) rfl ?_
  refine bX7_triangle_71 (fun c => absurd c (by decide)) (fun _ => ?_)
  refine bX7_triangle_77 (fun _ => ?_) (fun c => absurd c (by decide))
  rw [show (3 : Int32) * nI 1 + nI 0 = nI 3 from rfl]
  refine bX7_triangle_97 ?_
  refine bX7_triangle_98 (s1 := 3) (v99 := nI 1) (by decide) rfl ?_
  refine bX7_triangle_71 (fun c => absurd c (by decide)) (fun _ => ?_)
  refine bX7_triangle_77 (fun c => absurd rfl c) (fun _ => ?_)
  rw [show (3 : Int32) * nI 1 + nI 1 = nI 4 from rfl]
  refine bX7_triangle_93 ?_
  refine bX7_triangle_98 (s1 := 4) (v99 := nI 2) (by decide) rfl ?_
  refine bX7_triangle_71 (fun c => absurd c (by decide)) (fun _ => ?_)
  refine bX7_triangle_77 (fun _ => ?_) (fun c => absurd c (by decide))
  rw [show (3 : Int32) * nI 1 + nI 2 = nI 5 from rfl]
  refine bX7_triangle_97 ?_
  refine bX7_triangle_98 (s1 := 5) (v99 := nI 3) (by decide) rfl ?_
  refine bX7_triangle_71 (fun _ => ?_) (fun c => absurd (by decide) c)
  refine bX7_triangle_105 (v106 := nI 0) rfl ?_
  refine tg_loop1 hm hmany hW0 hW many 0 (fun c => if c = 1 then W else 0) g2 _ (by omega) (by simp; exact hW0) ?_ ?_ (fun i hi => by omega) (fun r1 g1 J1' p1 m1 G1 z1 y1 fa1 fb1 rl1 => ?_)
  · intro c hc
    rcases below3 (show c < 3 by omega) with rfl | rfl | rfl
    · exact ⟨by simp [sa_uJ_if]; rfl, by simp, by simp; omega⟩
    · exact ⟨by simp [sa_uJ_if], by simp; omega, by simp⟩
    · omega
  · intro i hi c hc
    obtain ⟨a, b, e⟩ := G2 i hi c hc
    exact ⟨by simp only [sa_uJ_ne (show 13 ≠ 14 by decide)]; exact a, b, e⟩
  refine bX7_triangle_136 (v136 := nI 0) rfl ?_
  refine bX7_triangle_64 (fun c => absurd c (by decide)) (fun _ => ?_)
  refine bX7_triangle_68 (v69 := nI 0) rfl ?_
  refine bX7_triangle_71 (fun c => absurd c (by decide)) (fun _ => ?_)
  refine bX7_triangle_77 (fun c => absurd rfl c) (fun _ => ?_)
  rw [show (3 : Int32) * nI 0 + nI 0 = nI 0 from rfl]
  refine bX7_triangle_93 ?_
  refine bX7_triangle_98 (s1 := 0) (v99 := nI 1) (by decide) rfl ?_
  refine bX7_triangle_71 (fun c => absurd c (by decide)) (fun _ => ?_)
  refine bX7_triangle_77 (fun _ => ?_) (fun c => absurd c (by decide))
  rw [show (3 : Int32) * nI 0 + nI 1 = nI 1 from rfl]
  refine bX7_triangle_97 ?_
  refine bX7_triangle_98 (s1 := 1) (v99 := nI 2) (by decide) rfl ?_
  refine bX7_triangle_71 (fun c => absurd c (by decide)) (fun _ => ?_)
  refine bX7_triangle_77 (fun _ => ?_) (fun c => absurd c (by decide))
  rw [show (3 : Int32) * nI 0 + nI 2 = nI 2 from rfl]
  refine bX7_triangle_97 ?_
  refine bX7_triangle_98 (s1 := 2) (v99 := nI 3) (by decide) rfl ?_
  refine bX7_triangle_71 (fun _ => ?_) (fun c => absurd (by decide) c)
  refine bX7_triangle_105 (v106 := nI 0) rfl ?_
  refine tg_loop0 hm hmany hW0 hW many 0 (fun c => if c = 0 then W else 0) g1 _ (by omega) (by simp; exact hW0) ?_ ?_ (fun i hi => by omega) (fun r0 g0 J0' p0 m0 G0 z0 y0 fa0 fb0 rl0 => ?_)
  · intro c hc
    rcases below3 (show c < 3 by omega) with rfl | rfl | rfl
    · exact ⟨by simp [sa_uJ_if], by simp; omega, by simp⟩
    · omega
    · omega
  · intro i hi c hc
    obtain ⟨a, b, e⟩ := G1 i hi c hc
    exact ⟨by simp only [sa_uJ_ne (show 13 ≠ 14 by decide)]; exact a, b, e⟩
  refine bX7_triangle_136 (v136 := (-1)) rfl ?_
  refine bX7_triangle_64 (fun _ => ?_) (fun c => absurd (by decide) c)
  have hfin : ∀ t, t < 9 → J0' 14 t = lI ((fun t => match t with | 0 => r0 0 | 3 => r1 0 | 4 => r1 1 | 6 => r2 0 | 7 => r2 1 | 8 => r2 2 | _ => 0 : Nat → Int) t) ∧ 0 ≤ (fun t => match t with | 0 => r0 0 | 3 => r1 0 | 4 => r1 1 | 6 => r2 0 | 7 => r2 1 | 8 => r2 2 | _ => 0 : Nat → Int) t ∧ (fun t => match t with | 0 => r0 0 | 3 => r1 0 | 4 => r1 1 | 6 => r2 0 | 7 => r2 1 | 8 => r2 2 | _ => 0 : Nat → Int) t ≤ W := by
    intro t ht
    rcases below9 ht with rfl | rfl | rfl | rfl | rfl | rfl | rfl | rfl | rfl
    · exact m0 0 (by decide)
    · exact ⟨by rw [fb0 1 (by omega)]; simp [sa_uJ_if]; rfl, Int.le_refl 0, by show (0 : Int) ≤ W; omega⟩
    · exact ⟨by rw [fb0 2 (by omega)]; simp [sa_uJ_if]; rfl, Int.le_refl 0, by show (0 : Int) ≤ W; omega⟩
    · obtain ⟨a, b, e⟩ := m1 0 (by decide)
      exact ⟨by rw [fb0 3 (by omega)]; simp [sa_uJ_if]; exact a, b, e⟩
    · obtain ⟨a, b, e⟩ := m1 1 (by decide)
      exact ⟨by rw [fb0 4 (by omega)]; simp [sa_uJ_if]; exact a, b, e⟩
    · exact ⟨by rw [fb0 5 (by omega)]; simp [sa_uJ_if]; rw [fb1 5 (by omega)]; simp [sa_uJ_if]; rfl, Int.le_refl 0, by show (0 : Int) ≤ W; omega⟩
    · obtain ⟨a, b, e⟩ := m2 0 (by decide)
      exact ⟨by rw [fb0 6 (by omega)]; simp [sa_uJ_if]; rw [fb1 6 (by omega)]; simp [sa_uJ_if]; exact a, b, e⟩
    · obtain ⟨a, b, e⟩ := m2 1 (by decide)
      exact ⟨by rw [fb0 7 (by omega)]; simp [sa_uJ_if]; rw [fb1 7 (by omega)]; simp [sa_uJ_if]; exact a, b, e⟩
    · obtain ⟨a, b, e⟩ := m2 2 (by decide)
      exact ⟨by rw [fb0 8 (by omega)]; simp [sa_uJ_if]; rw [fb1 8 (by omega)]; simp [sa_uJ_if]; exact a, b, e⟩
  have hH : ∀ H, Grp H → (In3 H (fun t => match t with | 0 => r0 0 | 3 => r1 0 | 4 => r1 1 | 6 => r2 0 | 7 => r2 1 | 8 => r2 2 | _ => 0) ↔ (H (W, 0, 0) ∧ H (0, W, 0) ∧ H (0, 0, W) ∧ ∀ i, i < many → H (g i 0, g i 1, g i 2))) := by
    intro H gg
    have cutA : H (W, 0, 0) ∧ H (0, W, 0) ∧ H (0, 0, W) → ((∀ i, i < many → H (g i 0, g i 1, g i 2)) ↔ ∀ i, i < many → H (g i 0 % W, g i 1 % W, g i 2 % W)) := fun w => ⟨fun h i hi => (cut_H gg w).mp (h i hi), fun h i hi => (cut_H gg w).mpr (h i hi)⟩
    have t21 : ∀ i, i < many → trp 2 (g2 i) = trp 1 (g2 i) := fun i hi => by simp [trp, z2 i hi]
    have t10 : ∀ i, i < many → trp 1 (g1 i) = trp 0 (g1 i) := fun i hi => by simp [trp, z1 i hi]
    have t0 : ∀ i, i < many → trp 0 (g0 i) = (0, 0, 0) := fun i hi => by simp [trp, z0 i hi]
    constructor
    · rintro ⟨a, b, c⟩
      have q0 := (rl0 H gg).mpr ⟨a, fun i hi => by rw [t0 i hi]; exact gg.1⟩
      have w0 : H (W, 0, 0) := q0.1
      have q1 := (rl1 H gg w0).mpr ⟨b, fun i hi => by rw [t10 i hi]; exact q0.2 i hi⟩
      have w1 : H (0, W, 0) := q1.1
      have q2 := (rl2 H gg w0 w1).mpr ⟨c, fun i hi => by rw [t21 i hi]; exact q1.2 i hi⟩
      have w2 : H (0, 0, W) := q2.1
      exact ⟨w0, w1, w2, (cutA ⟨w0, w1, w2⟩).mpr (fun i hi => q2.2 i hi)⟩
    · rintro ⟨w0, w1, w2, h⟩
      have q2 := (rl2 H gg w0 w1).mp ⟨w2, fun i hi => (cutA ⟨w0, w1, w2⟩).mp h i hi⟩
      have q1 := (rl1 H gg w0).mp ⟨w1, fun i hi => by rw [← t21 i hi]; exact q2.2 i hi⟩
      have q0 := (rl0 H gg).mp ⟨w0, fun i hi => by rw [← t10 i hi]; exact q1.2 i hi⟩
      exact ⟨q0.1, q1.1, q2.1⟩
  have hT : Tri (fun t => match t with | 0 => r0 0 | 3 => r1 0 | 4 => r1 1 | 6 => r2 0 | 7 => r2 1 | 8 => r2 2 | _ => 0) := ⟨rfl, rfl, rfl, p0, p1, p2⟩
  obtain ⟨sH, sA⟩ := setR_ok (n := 3) hT (fun h => absurd h (by decide))
  refine tg_settle3 hn hW hfin p0 p1 (fun J9 f9 m9 => ⟨rfl, rfl, fun q h13 h14 => ?_, setR 3 (fun t => match t with | 0 => r0 0 | 3 => r1 0 | 4 => r1 1 | 6 => r2 0 | 7 => r2 1 | 8 => r2 2 | _ => 0), sH, ?_, m9, fun H gg => (sA H gg).symm.trans (hH H gg)⟩)
  · rw [f9 q h14, fa0 q h13 h14]; simp only [sa_uJ_ne h14]
    rw [fa1 q h13 h14]; simp only [sa_uJ_ne h14]
    rw [fa2 q h13 h14]; simp only [sa_uJ_ne h14]
    rw [f0 q h13]
  · intro t ht
    obtain ⟨⟨y1, y2, y5, y0, y4, y8⟩, x3, x6, x7⟩ := sH
    have d0 : setR 3 (fun t => match t with | 0 => r0 0 | 3 => r1 0 | 4 => r1 1 | 6 => r2 0 | 7 => r2 1 | 8 => r2 2 | _ => 0) 0 ≤ W := (hfin 0 (by decide)).2.2
    have d4 : setR 3 (fun t => match t with | 0 => r0 0 | 3 => r1 0 | 4 => r1 1 | 6 => r2 0 | 7 => r2 1 | 8 => r2 2 | _ => 0) 4 ≤ W := (hfin 4 (by decide)).2.2
    have d8 : setR 3 (fun t => match t with | 0 => r0 0 | 3 => r1 0 | 4 => r1 1 | 6 => r2 0 | 7 => r2 1 | 8 => r2 2 | _ => 0) 8 ≤ W := (hfin 8 (by decide)).2.2
    rcases below9 ht with rfl | rfl | rfl | rfl | rfl | rfl | rfl | rfl | rfl <;> constructor <;> omega
theorem c_triangle2 {W : Int} {many : Nat} {g : Nat → Nat → Int} (hn : I 0 1 = nI 2) (hm : I 0 27 = nI many) (hmany : many ≤ 20) (hW0 : 0 < W) (hW : W ≤ 1000000) (hg : ∀ i, i < many → ∀ c, c < 3 → J 13 (3 * i + c) = lI (g i c) ∧ rg (g i c)) : Con (ER l D aI aL ad) M_X7_triangle yX7_triangle [.ref (ad 0), .long (lI W)] I J (fun r I1 J1 => r = none ∧ I1 = I ∧ (∀ q, q ≠ 13 → q ≠ 14 → J1 q = J q) ∧ ∃ R, Hm R ∧ (∀ t, t < 9 → 0 ≤ R t ∧ R t ≤ W) ∧ (∀ t, t < 6 → J1 14 t = lI (R t)) ∧ (R 6 = 0 ∧ R 7 = 0 ∧ R 8 = 1) ∧ ∀ H, Grp H → (In3 H R ↔ (H (W, 0, 0) ∧ H (0, W, 0) ∧ H (0, 0, 1) ∧ ∀ i, i < many → H (g i 0, g i 1, 0)))) := by
  refine Con.of (by decide +kernel) rfl (Nat.le_of_ble_eq_true rfl) ?_
  refine bX7_triangle_0 (v1 := nI 0) rfl ?_
  refine tg_cut hm hmany hW0 hW (fun i hi c hc => (hg i hi c hc).2) many 0 J (by omega) (fun i hi => by omega) (fun i _ hi c hc => (hg i hi c hc).1) (fun J0 f0 G0 => ?_)
  refine bX7_triangle_57 (v63 := nI 1) (by rw [hn]; rfl) ?_
  refine bX7_triangle_64 (fun c => absurd c (by decide)) (fun _ => ?_)
  refine bX7_triangle_68 (v69 := nI 0) rfl ?_
  refine bX7_triangle_71 (fun c => absurd c (by decide)) (fun _ => ?_)
  refine bX7_triangle_77 (fun _ => ?_) (fun c => absurd c (by decide))
  rw [show (3 : Int32) * nI 1 + nI 0 = nI 3 from rfl]
  refine bX7_triangle_97 ?_
  refine bX7_triangle_98 (s1 := 3) (v99 := nI 1) (by decide) rfl ?_
  refine bX7_triangle_71 (fun c => absurd c (by decide)) (fun _ => ?_)
  refine bX7_triangle_77 (fun c => absurd rfl c) (fun _ => ?_)
  rw [show (3 : Int32) * nI 1 + nI 1 = nI 4 from rfl]
  refine bX7_triangle_93 ?_
  refine bX7_triangle_98 (s1 := 4) (v99 := nI 2) (by decide) rfl ?_
  refine bX7_triangle_71 (fun c => absurd c (by decide)) (fun _ => ?_)
  refine bX7_triangle_77 (fun _ => ?_) (fun c => absurd c (by decide))
  rw [show (3 : Int32) * nI 1 + nI 2 = nI 5 from rfl]
  refine bX7_triangle_97 ?_
  refine bX7_triangle_98 (s1 := 5) (v99 := nI 3) (by decide) rfl ?_
  refine bX7_triangle_71 (fun _ => ?_) (fun c => absurd (by decide) c)
  refine bX7_triangle_105 (v106 := nI 0) rfl ?_
  refine tg_loop1 hm hmany hW0 hW many 0 (fun c => if c = 1 then W else 0) (fun i c => g i c % W) _ (by omega) (by simp; exact hW0) ?_ ?_ (fun i hi => by omega) (fun r1 g1 J1' p1 m1 G1 z1 y1 fa1 fb1 rl1 => ?_)
  · intro c hc
    rcases below3 (show c < 3 by omega) with rfl | rfl | rfl
    · exact ⟨by simp [sa_uJ_if]; rfl, by simp, by simp; omega⟩
    · exact ⟨by simp [sa_uJ_if], by simp; omega, by simp⟩
    · omega
  · intro i hi c hc
    obtain ⟨a, b, e⟩ := G0 i hi c hc
    exact ⟨by simp only [sa_uJ_ne (show 13 ≠ 14 by decide)]; exact a, b, e⟩
  refine bX7_triangle_136 (v136 := nI 0) rfl ?_
  refine bX7_triangle_64 (fun c => absurd c (by decide)) (fun _ => ?_)
  refine bX7_triangle_68 (v69 := nI 0) rfl ?_
  refine bX7_triangle_71 (fun c => absurd c (by decide)) (fun _ => ?_)
  refine bX7_triangle_77 (fun c => absurd rfl c) (fun _ => ?_)
  rw [show (3 : Int32) * nI 0 + nI 0 = nI 0 from rfl]
  refine bX7_triangle_93 ?_
  refine bX7_triangle_98 (s1 := 0) (v99 := nI 1) (by decide) rfl ?_
  refine bX7_triangle_71 (fun c => absurd c (by decide)) (fun _ => ?_)
  refine bX7_triangle_77 (fun _ => ?_) (fun c => absurd c (by decide))
  rw [show (3 : Int32) * nI 0 + nI 1 = nI 1 from rfl]
  refine bX7_triangle_97 ?_
  refine bX7_triangle_98 (s1 := 1) (v99 := nI 2) (by decide) rfl ?_
  refine bX7_triangle_71 (fun c => absurd c (by decide)) (fun _ => ?_)
  refine bX7_triangle_77 (fun _ => ?_) (fun c => absurd c (by decide))
  rw [show (3 : Int32) * nI 0 + nI 2 = nI 2 from rfl]
  refine bX7_triangle_97 ?_
  refine bX7_triangle_98 (s1 := 2) (v99 := nI 3) (by decide) rfl ?_
  refine bX7_triangle_71 (fun _ => ?_) (fun c => absurd (by decide) c)
  refine bX7_triangle_105 (v106 := nI 0) rfl ?_
  refine tg_loop0 hm hmany hW0 hW many 0 (fun c => if c = 0 then W else 0) g1 _ (by omega) (by simp; exact hW0) ?_ ?_ (fun i hi => by omega) (fun r0 g0 J0' p0 m0 G0 z0 y0 fa0 fb0 rl0 => ?_)
  · intro c hc
    rcases below3 (show c < 3 by omega) with rfl | rfl | rfl
    · exact ⟨by simp [sa_uJ_if], by simp; omega, by simp⟩
    · omega
    · omega
  · intro i hi c hc
    obtain ⟨a, b, e⟩ := G1 i hi c hc
    exact ⟨by simp only [sa_uJ_ne (show 13 ≠ 14 by decide)]; exact a, b, e⟩
  refine bX7_triangle_136 (v136 := (-1)) rfl ?_
  refine bX7_triangle_64 (fun _ => ?_) (fun c => absurd (by decide) c)
  have hfin : ∀ t, t < 6 → J0' 14 t = lI ((fun t => match t with | 0 => r0 0 | 3 => r1 0 | 4 => r1 1 | 8 => 1 | _ => 0 : Nat → Int) t) ∧ 0 ≤ (fun t => match t with | 0 => r0 0 | 3 => r1 0 | 4 => r1 1 | 8 => 1 | _ => 0 : Nat → Int) t ∧ (fun t => match t with | 0 => r0 0 | 3 => r1 0 | 4 => r1 1 | 8 => 1 | _ => 0 : Nat → Int) t ≤ W := by
    intro t ht
    have : t = 0 ∨ t = 1 ∨ t = 2 ∨ t = 3 ∨ t = 4 ∨ t = 5 := by omega
    rcases this with rfl | rfl | rfl | rfl | rfl | rfl
    · exact m0 0 (by decide)
    · exact ⟨by rw [fb0 1 (by omega)]; simp [sa_uJ_if]; rfl, Int.le_refl 0, by show (0 : Int) ≤ W; omega⟩
    · exact ⟨by rw [fb0 2 (by omega)]; simp [sa_uJ_if]; rfl, Int.le_refl 0, by show (0 : Int) ≤ W; omega⟩
    · obtain ⟨a, b, e⟩ := m1 0 (by decide)
      exact ⟨by rw [fb0 3 (by omega)]; simp [sa_uJ_if]; exact a, b, e⟩
    · obtain ⟨a, b, e⟩ := m1 1 (by decide)
      exact ⟨by rw [fb0 4 (by omega)]; simp [sa_uJ_if]; exact a, b, e⟩
    · exact ⟨by rw [fb0 5 (by omega)]; simp [sa_uJ_if]; rw [fb1 5 (by omega)]; simp [sa_uJ_if]; rfl, Int.le_refl 0, by show (0 : Int) ≤ W; omega⟩
  have hH : ∀ H, Grp H → (In3 H (fun t => match t with | 0 => r0 0 | 3 => r1 0 | 4 => r1 1 | 8 => 1 | _ => 0) ↔ (H (W, 0, 0) ∧ H (0, W, 0) ∧ H (0, 0, 1) ∧ ∀ i, i < many → H (g i 0, g i 1, 0))) := by
    intro H gg
    have cutA : H (W, 0, 0) → H (0, W, 0) → H (0, 0, 1) → ((∀ i, i < many → H (g i 0, g i 1, 0)) ↔ ∀ i, i < many → H (g i 0 % W, g i 1 % W, 0)) := fun w0 w1 w2 => ⟨fun h i hi => (cut_H2 gg w0 w1 w2).mp (h i hi), fun h i hi => (cut_H2 gg w0 w1 w2).mpr (h i hi)⟩
    have t10 : ∀ i, i < many → trp 1 (g1 i) = trp 0 (g1 i) := fun i hi => by simp [trp, z1 i hi]
    have t0 : ∀ i, i < many → trp 0 (g0 i) = (0, 0, 0) := fun i hi => by simp [trp, z0 i hi]
    constructor
    · rintro ⟨a, b, c⟩
      have q0 := (rl0 H gg).mpr ⟨a, fun i hi => by rw [t0 i hi]; exact gg.1⟩
      have w0 : H (W, 0, 0) := q0.1
      have q1 := (rl1 H gg w0).mpr ⟨b, fun i hi => by rw [t10 i hi]; exact q0.2 i hi⟩
      have w1 : H (0, W, 0) := q1.1
      exact ⟨w0, w1, c, (cutA w0 w1 c).mpr (fun i hi => q1.2 i hi)⟩
    · rintro ⟨w0, w1, w2, h⟩
      have q1 := (rl1 H gg w0).mp ⟨w1, fun i hi => (cutA w0 w1 w2).mp h i hi⟩
      have q0 := (rl0 H gg).mp ⟨w0, fun i hi => by rw [← t10 i hi]; exact q1.2 i hi⟩
      exact ⟨q0.1, q1.1, w2⟩
  have hT : Tri (fun t => match t with | 0 => r0 0 | 3 => r1 0 | 4 => r1 1 | 8 => 1 | _ => 0) := ⟨rfl, rfl, rfl, p0, p1, (show (0 : Int) < 1 by decide)⟩
  obtain ⟨sH, sA⟩ := setR_ok (n := 2) hT (fun h => ⟨rfl, rfl⟩)
  refine tg_settle2 hn hW hfin p0 p1 (fun J9 f9 m9 => ⟨rfl, rfl, fun q h13 h14 => ?_, setR 2 (fun t => match t with | 0 => r0 0 | 3 => r1 0 | 4 => r1 1 | 8 => 1 | _ => 0), sH, ?_, m9, ⟨rfl, rfl, rfl⟩, fun H gg => (sA H gg).symm.trans (hH H gg)⟩)
  · rw [f9 q h14, fa0 q h13 h14]; simp only [sa_uJ_ne h14]
    rw [fa1 q h13 h14]; simp only [sa_uJ_ne h14]
    skip
    rw [f0 q h13]
  · intro t ht
    obtain ⟨⟨y1, y2, y5, y0, y4, y8⟩, x3, x6, x7⟩ := sH
    have d0 : setR 2 (fun t => match t with | 0 => r0 0 | 3 => r1 0 | 4 => r1 1 | 8 => 1 | _ => 0) 0 ≤ W := (hfin 0 (by decide)).2.2
    have d4 : setR 2 (fun t => match t with | 0 => r0 0 | 3 => r1 0 | 4 => r1 1 | 8 => 1 | _ => 0) 4 ≤ W := (hfin 4 (by decide)).2.2
    have d8 : setR 2 (fun t => match t with | 0 => r0 0 | 3 => r1 0 | 4 => r1 1 | 8 => 1 | _ => 0) 8 ≤ W := by show (1 : Int) ≤ W; omega
    rcases below9 ht with rfl | rfl | rfl | rfl | rfl | rfl | rfl | rfl | rfl <;> constructor <;> omega
end TH
