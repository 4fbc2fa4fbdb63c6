/-- what fc3 says, one by one -/
theorem fc3_of {a b c h d k l e : Int} (H : fc3 a b c h d k l e = true) : (1 ≤ d ∧ d ≤ 90 ∧ 0 ≤ h ∧ h < d) ∧ (1 ≤ e ∧ e ≤ 90 ∧ 0 ≤ k ∧ k < e ∧ 0 ≤ l ∧ l < e) ∧ fsI (pdI a b c) (fun d h => cW3 c b a h 1 0 d) 90 = some (d, h) ∧ ftI (pdI a b c) (fun e g k => cW3 c b a k g 1 e) d 90 = some (e, l, k) ∧ fc3b c b a h d k l e = true ∧ fc3c c b a h d k l e = true ∧ (∀ t, t < 9 → bd (s9 c b a h d k l e t) 40) ∧ asc (s9 c b a h d k l e 0) (s9 c b a h d k l e 1) (s9 c b a h d k l e 2) (s9 c b a h d k l e 3) (s9 c b a h d k l e 4) (s9 c b a h d k l e 5) (s9 c b a h d k l e 6) (s9 c b a h d k l e 7) (s9 c b a h d k l e 8) = true ∧ (pdI a b c).tdiv (d * e * d * e) * (d * e * d * e) = pdI a b c := by
  simp only [fc3, bb3, Bool.and_eq_true, decide_eq_true_eq] at H
  obtain ⟨⟨⟨⟨⟨⟨⟨⟨⟨⟨⟨⟨⟨⟨⟨⟨⟨⟨a1, a2⟩, a3⟩, a4⟩, a5⟩, a6⟩, a7⟩, a8⟩, a9⟩, a10⟩, s1⟩, s2⟩, fb⟩, fc⟩, bx⟩, by'⟩, bz⟩, as⟩, dd⟩ := H
  refine ⟨⟨a1, a2, a3, a4⟩, ⟨a5, a6, a7, a8, a9, a10⟩, s1, s2, fb, fc, ?_, as, dd⟩
  intro t ht
  have : t = 0 ∨ t = 1 ∨ t = 2 ∨ t = 3 ∨ t = 4 ∨ t = 5 ∨ t = 6 ∨ t = 7 ∨ t = 8 := by omega
  rcases this with rfl | rfl | rfl | rfl | rfl | rfl | rfl | rfl | rfl
  · exact bb_bd bx.1.1
  · exact bb_bd bx.1.2
  · exact bb_bd bx.2
  · exact bb_bd by'.1.1
  · exact bb_bd by'.1.2
  · exact bb_bd by'.2
  · exact bb_bd bz.1.1
  · exact bb_bd bz.1.2
  · exact bb_bd bz.2
theorem ft_mem {f0 f1 f2 h d k l e Di : Int} {Jb Jc : sa_J} (q0 : Jb 5 0 = lI f0) (q1 : Jb 5 1 = lI f1) (q2 : Jb 5 2 = lI f2) (q3 : Jb 4 1 = lI Di) (q4 : ∀ t, t < 9 → Jb 6 t = lI (uI h 0 0 t)) (q5 : Jb 7 0 = lI 1) (q6 : Jb 7 1 = lI d) (hf : ftJ Jb d Jc) (hft : ftE (lI Di) (fun e g k => isW 3 (Jb 5) (lI k) (lI g) 1 (lI e)) d 90 = some (e, l, k)) :
    Jc 5 0 = lI f0 ∧ Jc 5 1 = lI f1 ∧ Jc 5 2 = lI f2 ∧ Jc 4 1 = lI Di ∧ (∀ t, t < 9 → Jc 6 t = lI (uI h k l t)) ∧ Jc 7 0 = lI 1 ∧ Jc 7 1 = lI d ∧ Jc 7 2 = lI e ∧ ∀ q, q ≠ 6 → q ≠ 7 → q ≠ 10 → Jc q = Jb q := by
  unfold ftJ at hf
  rw [q3, hft] at hf
  obtain ⟨Jx, ag, rfl⟩ := hf
  have fr : ∀ q, q ≠ 6 → q ≠ 7 → q ≠ 10 → sa_uJ (sa_uJ (sa_uJ Jx 6 6 (lI k)) 6 7 (lI l)) 7 2 (lI e) q = Jb q := fun q h6 h7 h10 => by
    rw [sa_uJ_ne h7, sa_uJ_ne h6, sa_uJ_ne h6, ag q h10]
  refine ⟨?_, ?_, ?_, ?_, ?_, ?_, ?_, ?_, fr⟩
  · rw [fr 5 (by decide) (by decide) (by decide)]; exact q0
  · rw [fr 5 (by decide) (by decide) (by decide)]; exact q1
  · rw [fr 5 (by decide) (by decide) (by decide)]; exact q2
  · rw [fr 4 (by decide) (by decide) (by decide)]; exact q3
  · intro t ht
    rw [sa_uJ_ne (by decide)]
    by_cases c : t = 7
    · subst c; rw [sa_uJ_at]; rfl
    · rw [sa_uJ_off c]
      by_cases c2 : t = 6
      · subst c2; rw [sa_uJ_at]; rfl
      · rw [sa_uJ_off c2, ag 6 (by decide), q4 t ht]
        have : t = 0 ∨ t = 1 ∨ t = 2 ∨ t = 3 ∨ t = 4 ∨ t = 5 ∨ t = 8 := by omega
        rcases this with rfl | rfl | rfl | rfl | rfl | rfl | rfl <;> rfl
  · rw [sa_uJ_off (by decide), sa_uJ_ne (by decide), sa_uJ_ne (by decide), ag 7 (by decide)]; exact q5
  · rw [sa_uJ_off (by decide), sa_uJ_ne (by decide), sa_uJ_ne (by decide), ag 7 (by decide)]; exact q6
  · rw [sa_uJ_at]
theorem pd3_I (a b c : Int) : pd3 (lI a) (lI b) (lI c) = lI (pdI a b c) := by
  unfold pd3 pdI
  rw [show (4 : Int64) = lI 4 from rfl, show (27 : Int64) = lI 27 from rfl, show (18 : Int64) = lI 18 from rfl]
  simp only [lI_mul, lI_sub, lI_add]
theorem cl_cube {a b c h d k l e : Int} {I : sa_I} {J J1 : sa_J} (a1 : -3 ≤ a) (a2 : a ≤ 3) (b1 : -9 ≤ b) (b2 : b ≤ 9) (c1 : -9 ≤ c) (c2 : c ≤ 9) (hc : fc3 a b c h d k l e = true) (hJ : ∃ Ja Jb Jc d, sbJ (cuJ J (lI a) (lI b) (lI c)) Ja ∧ fsJ Ja 3 Jb ∧ Jb 7 1 = lI d ∧ (1 ≤ d ∧ d ≤ 90) ∧ ftJ Jb d Jc ∧ fiJ 3 Jc J1) (hI : I 4 0 = nI 3) :
    clS 3 h d k l e (pdI a b c) ((pdI a b c).tdiv (d * e * d * e)) (T3 (s9 c b a h d k l e)) I J1 ∧ ∀ q, q ≠ 4 → q ≠ 5 → q ≠ 6 → q ≠ 7 → q ≠ 8 → q ≠ 10 → q ≠ 11 → J1 q = J q := by
  obtain ⟨⟨x1, x2, x3, x4⟩, ⟨y1, y2, y3, y4, y5, y6⟩, hfs, hft, hb3, hc3, _, _, _⟩ := fc3_of hc
  simp only [fc3c, Bool.and_eq_true, decide_eq_true_eq] at hc3
  obtain ⟨⟨⟨⟨⟨⟨⟨⟨⟨⟨⟨⟨⟨⟨⟨⟨⟨c00, c01⟩, c02⟩, c10⟩, c11⟩, c12⟩, c20⟩, c21⟩, c22⟩, v00⟩, v01⟩, v02⟩, v10⟩, v20⟩, v11⟩, v12⟩, v21⟩, v22⟩ := hc3
  obtain ⟨Ja, Jb, Jc, d', hs, hf, hd', hdb, hf3, hfi⟩ := hJ
  have ba : bd a 3 := ⟨by omega, by omega⟩
  have bb : bd b 9 := ⟨by omega, by omega⟩
  have bc : bd c 9 := ⟨by omega, by omega⟩
  have bD : bd (pdI a b c) 12000 := bd_mono (bd_add (bd_sub (bd_sub (bd_sub (bd_mul (bd_mul (bd_mul ba ba) bb) bb) (bd_mul (bd_mul (bd_mul (A := 4) ⟨by decide, by decide⟩ bb) bb) bb)) (bd_mul (bd_mul (bd_mul (bd_mul (A := 4) ⟨by decide, by decide⟩ ba) ba) ba) bc)) (bd_mul (bd_mul (A := 27) ⟨by decide, by decide⟩ bc) bc)) (bd_mul (bd_mul (bd_mul (A := 18) ⟨by decide, by decide⟩ ba) bb) bc)) (by decide)
  have s5 : cuJ J (lI a) (lI b) (lI c) 5 0 = lI c ∧ cuJ J (lI a) (lI b) (lI c) 5 1 = lI b ∧ cuJ J (lI a) (lI b) (lI c) 5 2 = lI a := ⟨rfl, rfl, rfl⟩
  have s4 : cuJ J (lI a) (lI b) (lI c) 4 1 = lI (pdI a b c) := pd3_I a b c
  have p0 : Ja 5 0 = lI c := by rw [hs.2.2 5 (by decide) (by decide)]; exact s5.1
  have p1 : Ja 5 1 = lI b := by rw [hs.2.2 5 (by decide) (by decide)]; exact s5.2.1
  have p2 : Ja 5 2 = lI a := by rw [hs.2.2 5 (by decide) (by decide)]; exact s5.2.2
  have hFS : fsD (lI (pdI a b c)) (fun d h => isW 3 (Ja 5) (lI h) 1 0 (lI d)) 90 = some (d, h) := by
    rw [fsD_I (W := fun d h => cW3 c b a h 1 0 d) bD 90 (by decide) (fun d h e1 e2 e3 e4 => by
      show isW3 (Ja 5) (lI h) 1 0 (lI d) = _
      exact cW3_I (u1 := 1) (u2 := 0) p0 p1 p2 ⟨by omega, by omega⟩ ⟨by omega, by omega⟩ ⟨by omega, by omega⟩ ⟨by omega, by omega⟩ ⟨by decide, by decide⟩ ⟨by decide, by decide⟩ e1 (by omega))]
    exact hfs
  obtain ⟨q0, q1, q2, q3, q4, q5, q6, q7, q8⟩ := fs_mem s5 s4 hs hf hFS
  have ed : d' = d := by
    rw [q6] at hd'
    have := (lI_eq (a := d) (b := d') ⟨by omega, by omega⟩ ⟨by omega, by omega⟩).mp hd'
    omega
  subst ed
  have hFT : ftE (lI (pdI a b c)) (fun e g k => isW 3 (Jb 5) (lI k) (lI g) 1 (lI e)) d' 90 = some (e, l, k) := by
    rw [ftE_I (W := fun e g k => cW3 c b a k g 1 e) bD x1 x2 90 (by decide) (fun e g k e1 e2 e3 e4 e5 e6 => by
      show isW3 (Jb 5) (lI k) (lI g) 1 (lI e) = _
      exact cW3_I (u2 := 1) q0 q1 q2 ⟨by omega, by omega⟩ ⟨by omega, by omega⟩ ⟨by omega, by omega⟩ ⟨by omega, by omega⟩ ⟨by omega, by omega⟩ ⟨by decide, by decide⟩ e1 (by omega))]
    exact hft
  obtain ⟨r0, r1, r2, r3, r4, r5, r6, r7, r8⟩ := ft_mem q0 q1 q2 q3 q4 q5 q6 hf3 hFT
  obtain ⟨J0, z5, z6, z7, z4, w8, wq, w4⟩ := hfi
  have hix : Jc 7 1 * Jc 7 2 = lI (d' * e) := by rw [r6, r7, lI_mul]
  rw [hix, lI_mul, r3] at z4 w4
  have dvD : dv (pdI a b c) (d' * e * (d' * e)) = true := by
    have h3 : 1 * 1 ≤ d' * e := Int.mul_le_mul x1 y1 (by decide) (by omega)
    have h4 : d' * e ≤ 90 * 90 := Int.mul_le_mul x2 y2 (by omega) (by decide)
    have h5 : 1 * 1 ≤ d' * e * (d' * e) := Int.mul_le_mul (by omega) (by omega) (by decide) (by omega)
    have h6 : d' * e * (d' * e) ≤ 8100 * 8100 := Int.mul_le_mul (by omega) (by omega) (by omega) (by decide)
    have := bD.1
    have := bD.2
    simp only [dv, Bool.and_eq_true, decide_eq_true_eq]
    omega
  rw [dv_pt dvD] at z4 w4
  have H : cfd J0 c b a h d' k l e := by
    refine ⟨?_, ?_, ?_, ?_, ?_, ?_, ?_, ?_⟩
    · rw [z5]; exact r0
    · rw [z5]; exact r1
    · rw [z5]; exact r2
    · intro t ht; rw [z6]; exact r4 t ht
    · rw [z7]; exact r5
    · rw [z7]; exact r6
    · rw [z7]; exact r7
    · rw [z4, vpL_off (by decide), vpL_at]
  have e00 := cc3_I H (i := 0) (j := 0) (by decide) (by decide) c00
  rw [v00] at e00
  have e01 := cc3_I H (i := 0) (j := 1) (by decide) (by decide) c01
  rw [v01] at e01
  have e02 := cc3_I H (i := 0) (j := 2) (by decide) (by decide) c02
  rw [v02] at e02
  have e10 := cc3_I H (i := 1) (j := 0) (by decide) (by decide) c10
  rw [v10] at e10
  have e11 := cc3_I H (i := 1) (j := 1) (by decide) (by decide) c11
  rw [v11] at e11
  have e12 := cc3_I H (i := 1) (j := 2) (by decide) (by decide) c12
  rw [v12] at e12
  have e20 := cc3_I H (i := 2) (j := 0) (by decide) (by decide) c20
  rw [v20] at e20
  have e21 := cc3_I H (i := 2) (j := 1) (by decide) (by decide) c21
  rw [v21] at e21
  have e22 := cc3_I H (i := 2) (j := 2) (by decide) (by decide) c22
  rw [v22] at e22
  refine ⟨⟨hI, ?_, ?_, ?_, ?_, ?_, ?_⟩, ?_⟩
  · rw [w4, vpL_off (by decide), vpL_off (by decide), r3]
  · rw [w4, vpL_at, ← Int.mul_assoc]
  · rw [w4, vpL_off (by decide), vpL_at]
  · intro t ht; rw [wq 6 (by decide) (by decide) (by decide)]; exact r4 t ht
  · intro t ht
    rw [wq 7 (by decide) (by decide) (by decide)]
    have : t = 0 ∨ t = 1 ∨ t = 2 := by omega
    rcases this with rfl | rfl | rfl
    · exact r5
    · exact r6
    · exact r7
  · intro t ht
    rw [w8 t ht, if_neg (by decide)]
    have : t = 0 ∨ t = 1 ∨ t = 2 ∨ t = 3 ∨ t = 4 ∨ t = 5 ∨ t = 6 ∨ t = 7 ∨ t = 8 ∨ t = 9 ∨ t = 10 ∨ t = 11 ∨ t = 12 ∨ t = 13 ∨ t = 14 ∨ t = 15 ∨ t = 16 ∨ t = 17 ∨ t = 18 ∨ t = 19 ∨ t = 20 ∨ t = 21 ∨ t = 22 ∨ t = 23 ∨ t = 24 ∨ t = 25 ∨ t = 26 := by omega
    rcases this with rfl | rfl | rfl | rfl | rfl | rfl | rfl | rfl | rfl | rfl | rfl | rfl | rfl | rfl | rfl | rfl | rfl | rfl | rfl | rfl | rfl | rfl | rfl | rfl | rfl | rfl | rfl
    · show (cc3 J0 0 0).1 = _; rw [e00]; rfl
    · show (cc3 J0 0 0).2.1 = _; rw [e00]; rfl
    · show (cc3 J0 0 0).2.2 = _; rw [e00]; rfl
    · show (cc3 J0 0 1).1 = _; rw [e01]; rfl
    · show (cc3 J0 0 1).2.1 = _; rw [e01]; rfl
    · show (cc3 J0 0 1).2.2 = _; rw [e01]; rfl
    · show (cc3 J0 0 2).1 = _; rw [e02]; rfl
    · show (cc3 J0 0 2).2.1 = _; rw [e02]; rfl
    · show (cc3 J0 0 2).2.2 = _; rw [e02]; rfl
    · show (cc3 J0 1 0).1 = _; rw [e10]; rfl
    · show (cc3 J0 1 0).2.1 = _; rw [e10]; rfl
    · show (cc3 J0 1 0).2.2 = _; rw [e10]; rfl
    · show (cc3 J0 1 1).1 = _; rw [e11]; rfl
    · show (cc3 J0 1 1).2.1 = _; rw [e11]; rfl
    · show (cc3 J0 1 1).2.2 = _; rw [e11]; rfl
    · show (cc3 J0 1 2).1 = _; rw [e12]; rfl
    · show (cc3 J0 1 2).2.1 = _; rw [e12]; rfl
    · show (cc3 J0 1 2).2.2 = _; rw [e12]; rfl
    · show (cc3 J0 2 0).1 = _; rw [e20]; rfl
    · show (cc3 J0 2 0).2.1 = _; rw [e20]; rfl
    · show (cc3 J0 2 0).2.2 = _; rw [e20]; rfl
    · show (cc3 J0 2 1).1 = _; rw [e21]; rfl
    · show (cc3 J0 2 1).2.1 = _; rw [e21]; rfl
    · show (cc3 J0 2 1).2.2 = _; rw [e21]; rfl
    · show (cc3 J0 2 2).1 = _; rw [e22]; rfl
    · show (cc3 J0 2 2).2.1 = _; rw [e22]; rfl
    · show (cc3 J0 2 2).2.2 = _; rw [e22]; rfl
  · intro q g4 g5 g6 g7 g8 g10 g11
    rw [wq q g4 g8 g11, r8 q g6 g7 g10, q8 q g6 g7 g10]
    unfold cuJ
    rw [sa_uJ_ne g4, sa_uJ_ne g5, sa_uJ_ne g5, sa_uJ_ne g5]
theorem rf_cube {a b c h d k l e : Int} {I I2 : sa_I} {J J2 : sa_J} (hc : fc3 a b c h d k l e = true) (hr : rbS 3 c b a h d k l e (pdI a b c) I J I2 J2) : rfS 3 h d k l e (pdI a b c) ((pdI a b c).tdiv (d * e * d * e)) (T3 (s9 c b a h d k l e)) I2 J2 := by
  obtain ⟨_, _, _, _, hb3, _⟩ := fc3_of hc
  simp only [fc3b, Bool.and_eq_true, decide_eq_true_eq] at hb3
  obtain ⟨⟨⟨⟨⟨⟨⟨⟨⟨⟨⟨⟨⟨⟨d00, d01⟩, d02⟩, d10⟩, d11⟩, d12⟩, d20⟩, d21⟩, d22⟩, t00⟩, t01⟩, t02⟩, t10⟩, t20⟩, t21⟩ := hb3
  obtain ⟨⟨_, _, _, e5, e6, e7, e8, e9, _⟩, e1, _, _, _, _, _, j10, j11, tb, _⟩ := hr
  refine ⟨e1, e5, e6, e7, e8, e9, j10, j11, ?_⟩
  have tb' : ∀ i j, i < 3 → j < 3 → J2 2 (9 * i + 3 * j) = lI (tbI3 c b a h d k l e i j).1 ∧ J2 2 (9 * i + 3 * j + 1) = lI (tbI3 c b a h d k l e i j).2.1 ∧ J2 2 (9 * i + 3 * j + 2) = lI (tbI3 c b a h d k l e i j).2.2 := tb
  intro i j c' hi hj hcc
  have kk : (i = 0 ∧ j = 0) ∨ (i = 0 ∧ j = 1) ∨ (i = 0 ∧ j = 2) ∨ (i = 1 ∧ j = 0) ∨ (i = 1 ∧ j = 1) ∨ (i = 1 ∧ j = 2) ∨ (i = 2 ∧ j = 0) ∨ (i = 2 ∧ j = 1) ∨ (i = 2 ∧ j = 2) := by omega
  have kc : c' = 0 ∨ c' = 1 ∨ c' = 2 := by omega
  rcases kk with ⟨rfl, rfl⟩ | ⟨rfl, rfl⟩ | ⟨rfl, rfl⟩ | ⟨rfl, rfl⟩ | ⟨rfl, rfl⟩ | ⟨rfl, rfl⟩ | ⟨rfl, rfl⟩ | ⟨rfl, rfl⟩ | ⟨rfl, rfl⟩
  · have u := tb' 0 0 (by decide) (by decide)
    rw [t00] at u
    rcases kc with rfl | rfl | rfl
    · exact u.1
    · exact u.2.1
    · exact u.2.2
  · have u := tb' 0 1 (by decide) (by decide)
    rw [t01] at u
    rcases kc with rfl | rfl | rfl
    · exact u.1
    · exact u.2.1
    · exact u.2.2
  · have u := tb' 0 2 (by decide) (by decide)
    rw [t02] at u
    rcases kc with rfl | rfl | rfl
    · exact u.1
    · exact u.2.1
    · exact u.2.2
  · have u := tb' 1 0 (by decide) (by decide)
    rw [t10] at u
    rcases kc with rfl | rfl | rfl
    · exact u.1
    · exact u.2.1
    · exact u.2.2
  · have u := tb' 1 1 (by decide) (by decide)
    rcases kc with rfl | rfl | rfl
    · exact u.1
    · exact u.2.1
    · exact u.2.2
  · have u := tb' 1 2 (by decide) (by decide)
    rcases kc with rfl | rfl | rfl
    · exact u.1
    · exact u.2.1
    · exact u.2.2
  · have u := tb' 2 0 (by decide) (by decide)
    rw [t20] at u
    rcases kc with rfl | rfl | rfl
    · exact u.1
    · exact u.2.1
    · exact u.2.2
  · have u := tb' 2 1 (by decide) (by decide)
    rw [t21] at u
    rcases kc with rfl | rfl | rfl
    · exact u.1
    · exact u.2.1
    · exact u.2.2
  · have u := tb' 2 2 (by decide) (by decide)
    rcases kc with rfl | rfl | rfl
    · exact u.1
    · exact u.2.1
    · exact u.2.2
