/-! both sides behind square and cube, by whole numbers -/
def clS (n : Nat) (h d k l e Di dd : Int) (T : Nat → Int) (I : sa_I) (J : sa_J) : Prop := I 4 0 = nI n ∧ J 4 1 = lI Di ∧ J 4 2 = lI dd ∧ J 4 3 = lI (d * e) ∧ (∀ t, t < 9 → J 6 t = lI (uI h k l t)) ∧ (∀ t, t < 3 → J 7 t = lI (loI d e t)) ∧ ∀ t, t < 27 → J 8 t = lI (T t)
def rfS (n : Nat) (h d k l e Di dd : Int) (T : Nat → Int) (I : sa_I) (J : sa_J) : Prop := I 0 1 = nI n ∧ I 0 5 = iI h ∧ I 0 6 = iI d ∧ I 0 7 = iI k ∧ I 0 8 = iI l ∧ I 0 9 = iI e ∧ J 0 10 = lI dd ∧ J 0 11 = lI Di ∧ ∀ i j c, i < n → j < n → c < 3 → J 2 (9 * i + 3 * j + c) = lI (T (9 * i + 3 * j + c))
theorem lI_one : (1 : Int64) = lI 1 := rfl
theorem lI_zero : (0 : Int64) = lI 0 := rfl
/-- the class's memory behind startBasis and findSecond -/
theorem fs_mem {n : Nat} {f0 f1 f2 h d Di : Int} {Js Ja Jb : sa_J} (s5 : Js 5 0 = lI f0 ∧ Js 5 1 = lI f1 ∧ Js 5 2 = lI f2) (s4 : Js 4 1 = lI Di) (hs : sbJ Js Ja) (hf : fsJ Ja n Jb) (hfs : fsD (lI Di) (fun d h => isW n (Ja 5) (lI h) 1 0 (lI d)) 90 = some (d, h)) :
    Jb 5 0 = lI f0 ∧ Jb 5 1 = lI f1 ∧ Jb 5 2 = lI f2 ∧ Jb 4 1 = lI Di ∧ (∀ t, t < 9 → Jb 6 t = lI (uI h 0 0 t)) ∧ Jb 7 0 = lI 1 ∧ Jb 7 1 = lI d ∧ Jb 7 2 = lI 1 ∧ ∀ q, q ≠ 6 → q ≠ 7 → q ≠ 10 → Jb q = Js q := by
  obtain ⟨a6, a7, aq⟩ := hs
  unfold fsJ at hf
  rw [aq 4 (by decide) (by decide), s4, hfs] at hf
  obtain ⟨Jx, ag, rfl⟩ := hf
  have fr : ∀ q, q ≠ 6 → q ≠ 7 → q ≠ 10 → sa_uJ (sa_uJ Jx 6 3 (lI h)) 7 1 (lI d) q = Js q := fun q h6 h7 h10 => by
    rw [sa_uJ_ne h7, sa_uJ_ne h6, ag q h10, aq q h6 h7]
  refine ⟨?_, ?_, ?_, ?_, ?_, ?_, ?_, ?_, fr⟩
  · rw [fr 5 (by decide) (by decide) (by decide)]; exact s5.1
  · rw [fr 5 (by decide) (by decide) (by decide)]; exact s5.2.1
  · rw [fr 5 (by decide) (by decide) (by decide)]; exact s5.2.2
  · rw [fr 4 (by decide) (by decide) (by decide)]; exact s4
  · intro t ht
    rw [sa_uJ_ne (by decide)]
    by_cases c : t = 3
    · subst c; rw [sa_uJ_at]; rfl
    · rw [sa_uJ_off c, ag 6 (by decide), a6 t ht]
      have : t = 0 ∨ t = 1 ∨ t = 2 ∨ t = 4 ∨ t = 5 ∨ t = 6 ∨ t = 7 ∨ t = 8 := by omega
      rcases this with rfl | rfl | rfl | rfl | rfl | rfl | rfl | rfl <;> rfl
  · rw [sa_uJ_off (by decide), sa_uJ_ne (by decide), ag 7 (by decide), a7 0 (by decide)]; rfl
  · rw [sa_uJ_at]
  · rw [sa_uJ_off (by decide), sa_uJ_ne (by decide), ag 7 (by decide), a7 2 (by decide)]; rfl
theorem vpL_at {f : Nat → Int64} {i : Nat} {v : Int64} : vp_updL f i v i = v := by simp [vp_updL]
theorem vpL_off {f : Nat → Int64} {i j : Nat} {v : Int64} (h : j ≠ i) : vp_updL f i v j = f j := by simp [vp_updL, h]
theorem cl_square {a b h d : Int} {I : sa_I} {J J1 : sa_J} (a1 : -20 ≤ a) (a2 : a ≤ 20) (b1 : -200 ≤ b) (b2 : b ≤ 200) (hp : psq (a * a - 4 * b) = false) (hc : fc2 a b h d = true) (hJ : ∃ Ja Jb, sbJ (sqJ J (lI a) (lI b)) Ja ∧ fsJ Ja 2 Jb ∧ fiJ 2 Jb J1) (hI : I 4 0 = nI 2) :
    clS 2 h d 0 0 1 (a * a - 4 * b) ((a * a - 4 * b).tdiv (d * d)) (T2 (tbI2 b a h d 0 0 1 1 1).1 (tbI2 b a h d 0 0 1 1 1).2.1) I J1 ∧ ∀ q, q ≠ 4 → q ≠ 5 → q ≠ 6 → q ≠ 7 → q ≠ 8 → q ≠ 10 → q ≠ 11 → J1 q = J q := by
  obtain ⟨⟨d1, d2, h1, h2⟩, hfs, _, _, ⟨c00, c01, c10, c11⟩, ⟨v00, v01, v10, v11⟩, _, hdd, hdq, _⟩ := fc2_of hc
  obtain ⟨Ja, Jb, hs, hf, hfi⟩ := hJ
  have ba : bd a 20 := ⟨by omega, by omega⟩
  have baa := bd_mul ba ba
  have ba1 := baa.1
  have ba2 := baa.2
  have bD : bd (a * a - 4 * b) 1200 := ⟨by omega, by omega⟩
  have s5 : sqJ J (lI a) (lI b) 5 0 = lI b ∧ sqJ J (lI a) (lI b) 5 1 = lI a ∧ sqJ J (lI a) (lI b) 5 2 = lI 0 := ⟨rfl, rfl, rfl⟩
  have s4 : sqJ J (lI a) (lI b) 4 1 = lI (a * a - 4 * b) := by
    show lI a * lI a - 4 * lI b = _
    rw [show (4 : Int64) = lI 4 from rfl, lI_mul, lI_mul, lI_sub]
  have p0 : Ja 5 0 = lI b := by rw [hs.2.2 5 (by decide) (by decide)]; exact s5.1
  have p1 : Ja 5 1 = lI a := by rw [hs.2.2 5 (by decide) (by decide)]; exact s5.2.1
  have hD0 : a * a - 4 * b ≠ 0 := by
    intro e; rw [e] at hp; exact absurd hp (by decide)
  have hFS : fsD (lI (a * a - 4 * b)) (fun d h => isW 2 (Ja 5) (lI h) 1 0 (lI d)) 90 = some (d, h) := by
    rw [fsD_I (W := cW2 b a) (bd_mono bD (by decide)) 90 (by decide) (fun d h e1 e2 e3 e4 => by
      show isW2 (Ja 5) (lI h) 1 0 (lI d) = _
      exact cW2_I p0 p1 ⟨by omega, by omega⟩ ⟨by omega, by omega⟩ ⟨by omega, by omega⟩ e1 (by omega)), fsI_cut (m := 34) hD0 (by have := bD.1; have := bD.2; omega) 90 (by decide)]
    exact hfs
  obtain ⟨q0, q1, q2, q3, q4, q5, q6, q7, q8⟩ := fs_mem s5 s4 hs hf hFS
  obtain ⟨J0, z5, z6, z7, z4, w8, wq, w4⟩ := hfi
  have hix : Jb 7 1 * Jb 7 2 = lI (d * 1) := by rw [q6, q7, lI_mul]
  rw [hix, lI_mul, q3] at z4 w4
  have dvD : dv (a * a - 4 * b) (d * 1 * (d * 1)) = true := by
    have : 1 ≤ d * 1 * (d * 1) ∧ d * 1 * (d * 1) ≤ 90 * 90 := by
      have h3 : 1 * 1 ≤ d * d := Int.mul_le_mul d1 d1 (by decide) (by omega)
      have h4 : d * d ≤ 90 * 90 := Int.mul_le_mul d2 d2 (by omega) (by decide)
      rw [Int.mul_one]; omega
    have := bD.1
    have := bD.2
    simp only [dv, Bool.and_eq_true, decide_eq_true_eq]
    omega
  rw [dv_pt dvD] at z4 w4
  have H : cfd J0 b a 0 h d 0 0 1 := by
    refine ⟨?_, ?_, ?_, ?_, ?_, ?_, ?_, ?_⟩
    · rw [z5]; exact q0
    · rw [z5]; exact q1
    · rw [z5]; exact q2
    · intro t ht; rw [z6]; exact q4 t ht
    · rw [z7]; exact q5
    · rw [z7]; exact q6
    · rw [z7]; exact q7
    · rw [z4, vpL_off (by decide), vpL_at]
  have e00 := cc2_I H (i := 0) (j := 0) (by decide) (by decide) c00
  have e01 := cc2_I H (i := 0) (j := 1) (by decide) (by decide) c01
  have e10 := cc2_I H (i := 1) (j := 0) (by decide) (by decide) c10
  have e11 := cc2_I H (i := 1) (j := 1) (by decide) (by decide) c11
  rw [v00] at e00
  rw [v01] at e01
  rw [v10] at e10
  rw [v11] at e11
  refine ⟨⟨hI, ?_, ?_, ?_, ?_, ?_, ?_⟩, ?_⟩
  · rw [w4, vpL_off (by decide), vpL_off (by decide), q3]
  · rw [w4, vpL_at, Int.mul_one]
  · rw [w4, vpL_off (by decide), vpL_at]
  · intro t ht; rw [wq 6 (by decide) (by decide) (by decide)]; exact q4 t ht
  · intro t ht
    rw [wq 7 (by decide) (by decide) (by decide)]
    have : t = 0 ∨ t = 1 ∨ t = 2 := by omega
    rcases this with rfl | rfl | rfl
    · exact q5
    · exact q6
    · exact q7
  · intro t ht
    rw [w8 t ht, if_pos rfl]
    have : t = 0 ∨ t = 1 ∨ t = 2 ∨ t = 3 ∨ t = 4 ∨ t = 5 ∨ t = 6 ∨ t = 7 ∨ t = 8 ∨ t = 9 ∨ t = 10 ∨ t = 11 ∨ t = 12 ∨ t = 13 ∨ 13 < t := by omega
    rcases this with rfl | rfl | rfl | rfl | rfl | rfl | rfl | rfl | rfl | rfl | rfl | rfl | rfl | rfl | g
    · show (cc2 J0 0 0).1 = _; rw [e00]; rfl
    · show (cc2 J0 0 0).2 = _; rw [e00]; rfl
    · rfl
    · show (cc2 J0 0 1).1 = _; rw [e01]; rfl
    · show (cc2 J0 0 1).2 = _; rw [e01]; rfl
    · rfl
    · rfl
    · rfl
    · rfl
    · show (cc2 J0 1 0).1 = _; rw [e10]; rfl
    · show (cc2 J0 1 0).2 = _; rw [e10]; rfl
    · rfl
    · show (cc2 J0 1 1).1 = _; rw [e11]; rfl
    · show (cc2 J0 1 1).2 = _; rw [e11]; rfl
    · have : t = 14 ∨ t = 15 ∨ t = 16 ∨ t = 17 ∨ t = 18 ∨ t = 19 ∨ t = 20 ∨ t = 21 ∨ t = 22 ∨ t = 23 ∨ t = 24 ∨ t = 25 ∨ t = 26 := by omega
      rcases this with rfl | rfl | rfl | rfl | rfl | rfl | rfl | rfl | rfl | rfl | rfl | rfl | rfl <;> rfl
  · intro q g4 g5 g6 g7 g8 g10 g11
    rw [wq q g4 g8 g11, q8 q g6 g7 g10]
    unfold sqJ
    rw [sa_uJ_ne g4, sa_uJ_ne g5, sa_uJ_ne g5, sa_uJ_ne g5]
theorem rf_square {a b h d : Int} {I I2 : sa_I} {J J2 : sa_J} (hc : fc2 a b h d = true) (hr : rbS 2 b a 0 h d 0 0 1 (a * a - 4 * b) I J I2 J2) : rfS 2 h d 0 0 1 (a * a - 4 * b) ((a * a - 4 * b).tdiv (d * d)) (T2 (tbI2 b a h d 0 0 1 1 1).1 (tbI2 b a h d 0 0 1 1 1).2.1) I2 J2 := by
  obtain ⟨_, _, _, ⟨t00, t01, t10⟩, _⟩ := fc2_of hc
  obtain ⟨⟨_, _, _, e5, e6, e7, e8, e9, _⟩, e1, _, _, _, _, _, j10, j11, tb, _⟩ := hr
  refine ⟨e1, e5, e6, e7, e8, e9, ?_, j11, ?_⟩
  · rw [j10, Int.mul_one, Int.mul_one]
  · intro i j c hi hj hcc
    have tb' : ∀ i j, i < 2 → j < 2 → J2 2 (9 * i + 3 * j) = lI (tbI2 b a h d 0 0 1 i j).1 ∧ J2 2 (9 * i + 3 * j + 1) = lI (tbI2 b a h d 0 0 1 i j).2.1 ∧ J2 2 (9 * i + 3 * j + 2) = lI (tbI2 b a h d 0 0 1 i j).2.2 := tb
    have k : (i = 0 ∧ j = 0) ∨ (i = 0 ∧ j = 1) ∨ (i = 1 ∧ j = 0) ∨ (i = 1 ∧ j = 1) := by omega
    have kc : c = 0 ∨ c = 1 ∨ c = 2 := by omega
    rcases k with ⟨rfl, rfl⟩ | ⟨rfl, rfl⟩ | ⟨rfl, rfl⟩ | ⟨rfl, rfl⟩
    · have u := tb' 0 0 (by decide) (by decide)
      rw [t00] at u
      rcases kc with rfl | rfl | rfl
      · exact u.1
      · exact u.2.1
      · exact u.2.2
    · have u := tb' 0 1 (by decide) (by decide)
      rw [t01] at u
      rcases kc with rfl | rfl | rfl
      · exact u.1
      · exact u.2.1
      · exact u.2.2
    · have u := tb' 1 0 (by decide) (by decide)
      rw [t10] at u
      rcases kc with rfl | rfl | rfl
      · exact u.1
      · exact u.2.1
      · exact u.2.2
    · have u := tb' 1 1 (by decide) (by decide)
      rcases kc with rfl | rfl | rfl
      · exact u.1
      · exact u.2.1
      · exact u.2.2
