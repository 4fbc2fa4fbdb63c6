def cdF (a b c : Int) : Bool := hwN a b c 41 (-20) || fz (pdI a b c) fun D => (match bgPF (w3F c b a) 3 D.natAbs 108 2 (0, 1, 0, 1) (0, 0, 1, 1) with
  | none => false
  | some (f, s) => fz f.2.2.2 fun d => fz (f.1 % d) fun h => fz s.2.2.2 fun e => fz (e.tdiv d) fun m => fz (s.2.1 / m) fun u => decide (1 ≤ m) && fz ((s.1 - u * h * m) % e) fun k => fz (s.2.1 - u * m) fun l =>
    tbF3 c b a h d k l e 1 1 (fun x0 x1 x2 => tbF3 c b a h d k l e 1 2 (fun y0 y1 y2 => tbF3 c b a h d k l e 2 2 (fun z0 z1 z2 => dmK (sL x0 x1 x2 y0 y1 y2 z0 z1 z2)))))
def cdO (a b c : Int) : Prop := ∃ h d k l e, rgo 3 c b a (pdI a b c) = some (h, d, k, l, e) ∧ dmK (s9 c b a h d k l e) = true
theorem cdF_of {a b c : Int} (H : cdF a b c = true) (hp : hw7 a b c 41 (-20) = false) : cdO a b c := by
  unfold cdF at H
  rw [fz_eq, hwN_eq, hp, Bool.false_or, bgPF_eq (W := wI 3 c b a) (fun t => (w3F_eq c b a t : w3F c b a t = wI 3 c b a t)) 3 (pdI a b c)] at H
  unfold cdO rgo
  rcases hb : bgP (wI 3 c b a) 3 (pdI a b c) 108 2 (0, 1, 0, 1) (0, 0, 1, 1) with _ | ⟨f, s⟩
  · rw [show ((2 : Nat) : Int) = 2 from rfl, hb] at H; exact absurd H Bool.false_ne_true
  · rw [show ((2 : Nat) : Int) = 2 from rfl, hb] at H
    simp only [fz_eq, tbF3_eq, Bool.and_eq_true, decide_eq_true_eq] at H
    dsimp only
    rw [if_neg (by decide), if_pos H.1]
    refine ⟨_, _, _, _, _, rfl, ?_⟩
    rw [s9_L]
    exact H.2.2.2.2
def allDF (a b : Int) : Nat → Int → Bool
  | 0, _ => true
  | n + 1, c => cdF a b c && fz (c + 1) fun c1 => allDF a b n c1
theorem allDF_of {a b : Int} : ∀ (n : Nat) (c : Int), allDF a b n c = true → ∀ x, c ≤ x → x < c + n → hw7 a b x 41 (-20) = false → cdO a b x := by
  intro n
  induction n with
  | zero => intro b _ x h1 h2; omega
  | succ n ih =>
    intro c h x h1 h2 hp
    unfold allDF at h
    rw [fz_eq, Bool.and_eq_true] at h
    rcases Int.lt_or_eq_of_le h1 with q | q
    · exact ih (c + 1) h.2 x (by omega) (by omega) hp
    · subst q
      exact cdF_of h.1 hp
theorem kd_m3_m9 : allDF (-3) (-9) 19 (-9) = true := by decide +kernel
theorem kd_m3_m8 : allDF (-3) (-8) 19 (-9) = true := by decide +kernel
theorem kd_m3_m7 : allDF (-3) (-7) 19 (-9) = true := by decide +kernel
theorem kd_m3_m6 : allDF (-3) (-6) 19 (-9) = true := by decide +kernel
theorem kd_m3_m5 : allDF (-3) (-5) 19 (-9) = true := by decide +kernel
theorem kd_m3_m4 : allDF (-3) (-4) 19 (-9) = true := by decide +kernel
theorem kd_m3_m3 : allDF (-3) (-3) 19 (-9) = true := by decide +kernel
theorem kd_m3_m2 : allDF (-3) (-2) 19 (-9) = true := by decide +kernel
theorem kd_m3_m1 : allDF (-3) (-1) 19 (-9) = true := by decide +kernel
theorem kd_m3_0 : allDF (-3) 0 19 (-9) = true := by decide +kernel
theorem kd_m3_1 : allDF (-3) 1 19 (-9) = true := by decide +kernel
theorem kd_m3_2 : allDF (-3) 2 19 (-9) = true := by decide +kernel
theorem kd_m3_3 : allDF (-3) 3 19 (-9) = true := by decide +kernel
theorem kd_m3_4 : allDF (-3) 4 19 (-9) = true := by decide +kernel
theorem kd_m3_5 : allDF (-3) 5 19 (-9) = true := by decide +kernel
theorem kd_m3_6 : allDF (-3) 6 19 (-9) = true := by decide +kernel
theorem kd_m3_7 : allDF (-3) 7 19 (-9) = true := by decide +kernel
theorem kd_m3_8 : allDF (-3) 8 19 (-9) = true := by decide +kernel
theorem kd_m3_9 : allDF (-3) 9 19 (-9) = true := by decide +kernel
theorem kd_m2_m9 : allDF (-2) (-9) 19 (-9) = true := by decide +kernel
theorem kd_m2_m8 : allDF (-2) (-8) 19 (-9) = true := by decide +kernel
theorem kd_m2_m7 : allDF (-2) (-7) 19 (-9) = true := by decide +kernel
theorem kd_m2_m6 : allDF (-2) (-6) 19 (-9) = true := by decide +kernel
theorem kd_m2_m5 : allDF (-2) (-5) 19 (-9) = true := by decide +kernel
theorem kd_m2_m4 : allDF (-2) (-4) 19 (-9) = true := by decide +kernel
theorem kd_m2_m3 : allDF (-2) (-3) 19 (-9) = true := by decide +kernel
theorem kd_m2_m2 : allDF (-2) (-2) 19 (-9) = true := by decide +kernel
theorem kd_m2_m1 : allDF (-2) (-1) 19 (-9) = true := by decide +kernel
theorem kd_m2_0 : allDF (-2) 0 19 (-9) = true := by decide +kernel
theorem kd_m2_1 : allDF (-2) 1 19 (-9) = true := by decide +kernel
theorem kd_m2_2 : allDF (-2) 2 19 (-9) = true := by decide +kernel
theorem kd_m2_3 : allDF (-2) 3 19 (-9) = true := by decide +kernel
theorem kd_m2_4 : allDF (-2) 4 19 (-9) = true := by decide +kernel
theorem kd_m2_5 : allDF (-2) 5 19 (-9) = true := by decide +kernel
theorem kd_m2_6 : allDF (-2) 6 19 (-9) = true := by decide +kernel
theorem kd_m2_7 : allDF (-2) 7 19 (-9) = true := by decide +kernel
theorem kd_m2_8 : allDF (-2) 8 19 (-9) = true := by decide +kernel
theorem kd_m2_9 : allDF (-2) 9 19 (-9) = true := by decide +kernel
theorem kd_m1_m9 : allDF (-1) (-9) 19 (-9) = true := by decide +kernel
theorem kd_m1_m8 : allDF (-1) (-8) 19 (-9) = true := by decide +kernel
theorem kd_m1_m7 : allDF (-1) (-7) 19 (-9) = true := by decide +kernel
theorem kd_m1_m6 : allDF (-1) (-6) 19 (-9) = true := by decide +kernel
theorem kd_m1_m5 : allDF (-1) (-5) 19 (-9) = true := by decide +kernel
theorem kd_m1_m4 : allDF (-1) (-4) 19 (-9) = true := by decide +kernel
theorem kd_m1_m3 : allDF (-1) (-3) 19 (-9) = true := by decide +kernel
theorem kd_m1_m2 : allDF (-1) (-2) 19 (-9) = true := by decide +kernel
theorem kd_m1_m1 : allDF (-1) (-1) 19 (-9) = true := by decide +kernel
theorem kd_m1_0 : allDF (-1) 0 19 (-9) = true := by decide +kernel
theorem kd_m1_1 : allDF (-1) 1 19 (-9) = true := by decide +kernel
theorem kd_m1_2 : allDF (-1) 2 19 (-9) = true := by decide +kernel
theorem kd_m1_3 : allDF (-1) 3 19 (-9) = true := by decide +kernel
theorem kd_m1_4 : allDF (-1) 4 19 (-9) = true := by decide +kernel
theorem kd_m1_5 : allDF (-1) 5 19 (-9) = true := by decide +kernel
theorem kd_m1_6 : allDF (-1) 6 19 (-9) = true := by decide +kernel
theorem kd_m1_7 : allDF (-1) 7 19 (-9) = true := by decide +kernel
theorem kd_m1_8 : allDF (-1) 8 19 (-9) = true := by decide +kernel
theorem kd_m1_9 : allDF (-1) 9 19 (-9) = true := by decide +kernel
theorem kd_0_m9 : allDF 0 (-9) 19 (-9) = true := by decide +kernel
theorem kd_0_m8 : allDF 0 (-8) 19 (-9) = true := by decide +kernel
theorem kd_0_m7 : allDF 0 (-7) 19 (-9) = true := by decide +kernel
theorem kd_0_m6 : allDF 0 (-6) 19 (-9) = true := by decide +kernel
theorem kd_0_m5 : allDF 0 (-5) 19 (-9) = true := by decide +kernel
theorem kd_0_m4 : allDF 0 (-4) 19 (-9) = true := by decide +kernel
theorem kd_0_m3 : allDF 0 (-3) 19 (-9) = true := by decide +kernel
theorem kd_0_m2 : allDF 0 (-2) 19 (-9) = true := by decide +kernel
theorem kd_0_m1 : allDF 0 (-1) 19 (-9) = true := by decide +kernel
theorem kd_0_0 : allDF 0 0 19 (-9) = true := by decide +kernel
theorem kd_0_1 : allDF 0 1 19 (-9) = true := by decide +kernel
theorem kd_0_2 : allDF 0 2 19 (-9) = true := by decide +kernel
theorem kd_0_3 : allDF 0 3 19 (-9) = true := by decide +kernel
theorem kd_0_4 : allDF 0 4 19 (-9) = true := by decide +kernel
theorem kd_0_5 : allDF 0 5 19 (-9) = true := by decide +kernel
theorem kd_0_6 : allDF 0 6 19 (-9) = true := by decide +kernel
theorem kd_0_7 : allDF 0 7 19 (-9) = true := by decide +kernel
theorem kd_0_8 : allDF 0 8 19 (-9) = true := by decide +kernel
theorem kd_0_9 : allDF 0 9 19 (-9) = true := by decide +kernel
theorem kd_1_m9 : allDF 1 (-9) 19 (-9) = true := by decide +kernel
theorem kd_1_m8 : allDF 1 (-8) 19 (-9) = true := by decide +kernel
theorem kd_1_m7 : allDF 1 (-7) 19 (-9) = true := by decide +kernel
theorem kd_1_m6 : allDF 1 (-6) 19 (-9) = true := by decide +kernel
theorem kd_1_m5 : allDF 1 (-5) 19 (-9) = true := by decide +kernel
theorem kd_1_m4 : allDF 1 (-4) 19 (-9) = true := by decide +kernel
theorem kd_1_m3 : allDF 1 (-3) 19 (-9) = true := by decide +kernel
theorem kd_1_m2 : allDF 1 (-2) 19 (-9) = true := by decide +kernel
theorem kd_1_m1 : allDF 1 (-1) 19 (-9) = true := by decide +kernel
theorem kd_1_0 : allDF 1 0 19 (-9) = true := by decide +kernel
theorem kd_1_1 : allDF 1 1 19 (-9) = true := by decide +kernel
theorem kd_1_2 : allDF 1 2 19 (-9) = true := by decide +kernel
theorem kd_1_3 : allDF 1 3 19 (-9) = true := by decide +kernel
theorem kd_1_4 : allDF 1 4 19 (-9) = true := by decide +kernel
theorem kd_1_5 : allDF 1 5 19 (-9) = true := by decide +kernel
theorem kd_1_6 : allDF 1 6 19 (-9) = true := by decide +kernel
theorem kd_1_7 : allDF 1 7 19 (-9) = true := by decide +kernel
theorem kd_1_8 : allDF 1 8 19 (-9) = true := by decide +kernel
theorem kd_1_9 : allDF 1 9 19 (-9) = true := by decide +kernel
theorem kd_2_m9 : allDF 2 (-9) 19 (-9) = true := by decide +kernel
theorem kd_2_m8 : allDF 2 (-8) 19 (-9) = true := by decide +kernel
theorem kd_2_m7 : allDF 2 (-7) 19 (-9) = true := by decide +kernel
theorem kd_2_m6 : allDF 2 (-6) 19 (-9) = true := by decide +kernel
theorem kd_2_m5 : allDF 2 (-5) 19 (-9) = true := by decide +kernel
theorem kd_2_m4 : allDF 2 (-4) 19 (-9) = true := by decide +kernel
theorem kd_2_m3 : allDF 2 (-3) 19 (-9) = true := by decide +kernel
theorem kd_2_m2 : allDF 2 (-2) 19 (-9) = true := by decide +kernel
theorem kd_2_m1 : allDF 2 (-1) 19 (-9) = true := by decide +kernel
theorem kd_2_0 : allDF 2 0 19 (-9) = true := by decide +kernel
theorem kd_2_1 : allDF 2 1 19 (-9) = true := by decide +kernel
theorem kd_2_2 : allDF 2 2 19 (-9) = true := by decide +kernel
theorem kd_2_3 : allDF 2 3 19 (-9) = true := by decide +kernel
theorem kd_2_4 : allDF 2 4 19 (-9) = true := by decide +kernel
theorem kd_2_5 : allDF 2 5 19 (-9) = true := by decide +kernel
theorem kd_2_6 : allDF 2 6 19 (-9) = true := by decide +kernel
theorem kd_2_7 : allDF 2 7 19 (-9) = true := by decide +kernel
theorem kd_2_8 : allDF 2 8 19 (-9) = true := by decide +kernel
theorem kd_2_9 : allDF 2 9 19 (-9) = true := by decide +kernel
theorem kd_3_m9 : allDF 3 (-9) 19 (-9) = true := by decide +kernel
theorem kd_3_m8 : allDF 3 (-8) 19 (-9) = true := by decide +kernel
theorem kd_3_m7 : allDF 3 (-7) 19 (-9) = true := by decide +kernel
theorem kd_3_m6 : allDF 3 (-6) 19 (-9) = true := by decide +kernel
theorem kd_3_m5 : allDF 3 (-5) 19 (-9) = true := by decide +kernel
theorem kd_3_m4 : allDF 3 (-4) 19 (-9) = true := by decide +kernel
theorem kd_3_m3 : allDF 3 (-3) 19 (-9) = true := by decide +kernel
theorem kd_3_m2 : allDF 3 (-2) 19 (-9) = true := by decide +kernel
theorem kd_3_m1 : allDF 3 (-1) 19 (-9) = true := by decide +kernel
theorem kd_3_0 : allDF 3 0 19 (-9) = true := by decide +kernel
theorem kd_3_1 : allDF 3 1 19 (-9) = true := by decide +kernel
theorem kd_3_2 : allDF 3 2 19 (-9) = true := by decide +kernel
theorem kd_3_3 : allDF 3 3 19 (-9) = true := by decide +kernel
theorem kd_3_4 : allDF 3 4 19 (-9) = true := by decide +kernel
theorem kd_3_5 : allDF 3 5 19 (-9) = true := by decide +kernel
theorem kd_3_6 : allDF 3 6 19 (-9) = true := by decide +kernel
theorem kd_3_7 : allDF 3 7 19 (-9) = true := by decide +kernel
theorem kd_3_8 : allDF 3 8 19 (-9) = true := by decide +kernel
theorem kd_3_9 : allDF 3 9 19 (-9) = true := by decide +kernel
theorem allD_m3 {b c : Int} (h3 : -9 ≤ b) (h4 : b ≤ 9) (h5 : -9 ≤ c) (h6 : c ≤ 9) (hp : hw7 (-3) b c 41 (-20) = false) : cdO (-3) b c := by
  have : b = -9 ∨ b = -8 ∨ b = -7 ∨ b = -6 ∨ b = -5 ∨ b = -4 ∨ b = -3 ∨ b = -2 ∨ b = -1 ∨ b = 0 ∨ b = 1 ∨ b = 2 ∨ b = 3 ∨ b = 4 ∨ b = 5 ∨ b = 6 ∨ b = 7 ∨ b = 8 ∨ b = 9 := by omega
  rcases this with rfl | rfl | rfl | rfl | rfl | rfl | rfl | rfl | rfl | rfl | rfl | rfl | rfl | rfl | rfl | rfl | rfl | rfl | rfl
  · exact allDF_of 19 (-9) kd_m3_m9 c (by omega) (by omega) hp
  · exact allDF_of 19 (-9) kd_m3_m8 c (by omega) (by omega) hp
  · exact allDF_of 19 (-9) kd_m3_m7 c (by omega) (by omega) hp
  · exact allDF_of 19 (-9) kd_m3_m6 c (by omega) (by omega) hp
  · exact allDF_of 19 (-9) kd_m3_m5 c (by omega) (by omega) hp
  · exact allDF_of 19 (-9) kd_m3_m4 c (by omega) (by omega) hp
  · exact allDF_of 19 (-9) kd_m3_m3 c (by omega) (by omega) hp
  · exact allDF_of 19 (-9) kd_m3_m2 c (by omega) (by omega) hp
  · exact allDF_of 19 (-9) kd_m3_m1 c (by omega) (by omega) hp
  · exact allDF_of 19 (-9) kd_m3_0 c (by omega) (by omega) hp
  · exact allDF_of 19 (-9) kd_m3_1 c (by omega) (by omega) hp
  · exact allDF_of 19 (-9) kd_m3_2 c (by omega) (by omega) hp
  · exact allDF_of 19 (-9) kd_m3_3 c (by omega) (by omega) hp
  · exact allDF_of 19 (-9) kd_m3_4 c (by omega) (by omega) hp
  · exact allDF_of 19 (-9) kd_m3_5 c (by omega) (by omega) hp
  · exact allDF_of 19 (-9) kd_m3_6 c (by omega) (by omega) hp
  · exact allDF_of 19 (-9) kd_m3_7 c (by omega) (by omega) hp
  · exact allDF_of 19 (-9) kd_m3_8 c (by omega) (by omega) hp
  · exact allDF_of 19 (-9) kd_m3_9 c (by omega) (by omega) hp
theorem allD_m2 {b c : Int} (h3 : -9 ≤ b) (h4 : b ≤ 9) (h5 : -9 ≤ c) (h6 : c ≤ 9) (hp : hw7 (-2) b c 41 (-20) = false) : cdO (-2) b c := by
  have : b = -9 ∨ b = -8 ∨ b = -7 ∨ b = -6 ∨ b = -5 ∨ b = -4 ∨ b = -3 ∨ b = -2 ∨ b = -1 ∨ b = 0 ∨ b = 1 ∨ b = 2 ∨ b = 3 ∨ b = 4 ∨ b = 5 ∨ b = 6 ∨ b = 7 ∨ b = 8 ∨ b = 9 := by omega
  rcases this with rfl | rfl | rfl | rfl | rfl | rfl | rfl | rfl | rfl | rfl | rfl | rfl | rfl | rfl | rfl | rfl | rfl | rfl | rfl
  · exact allDF_of 19 (-9) kd_m2_m9 c (by omega) (by omega) hp
  · exact allDF_of 19 (-9) kd_m2_m8 c (by omega) (by omega) hp
  · exact allDF_of 19 (-9) kd_m2_m7 c (by omega) (by omega) hp
  · exact allDF_of 19 (-9) kd_m2_m6 c (by omega) (by omega) hp
  · exact allDF_of 19 (-9) kd_m2_m5 c (by omega) (by omega) hp
  · exact allDF_of 19 (-9) kd_m2_m4 c (by omega) (by omega) hp
  · exact allDF_of 19 (-9) kd_m2_m3 c (by omega) (by omega) hp
  · exact allDF_of 19 (-9) kd_m2_m2 c (by omega) (by omega) hp
  · exact allDF_of 19 (-9) kd_m2_m1 c (by omega) (by omega) hp
  · exact allDF_of 19 (-9) kd_m2_0 c (by omega) (by omega) hp
  · exact allDF_of 19 (-9) kd_m2_1 c (by omega) (by omega) hp
  · exact allDF_of 19 (-9) kd_m2_2 c (by omega) (by omega) hp
  · exact allDF_of 19 (-9) kd_m2_3 c (by omega) (by omega) hp
  · exact allDF_of 19 (-9) kd_m2_4 c (by omega) (by omega) hp
  · exact allDF_of 19 (-9) kd_m2_5 c (by omega) (by omega) hp
  · exact allDF_of 19 (-9) kd_m2_6 c (by omega) (by omega) hp
  · exact allDF_of 19 (-9) kd_m2_7 c (by omega) (by omega) hp
  · exact allDF_of 19 (-9) kd_m2_8 c (by omega) (by omega) hp
  · exact allDF_of 19 (-9) kd_m2_9 c (by omega) (by omega) hp
theorem allD_m1 {b c : Int} (h3 : -9 ≤ b) (h4 : b ≤ 9) (h5 : -9 ≤ c) (h6 : c ≤ 9) (hp : hw7 (-1) b c 41 (-20) = false) : cdO (-1) b c := by
  have : b = -9 ∨ b = -8 ∨ b = -7 ∨ b = -6 ∨ b = -5 ∨ b = -4 ∨ b = -3 ∨ b = -2 ∨ b = -1 ∨ b = 0 ∨ b = 1 ∨ b = 2 ∨ b = 3 ∨ b = 4 ∨ b = 5 ∨ b = 6 ∨ b = 7 ∨ b = 8 ∨ b = 9 := by omega
  rcases this with rfl | rfl | rfl | rfl | rfl | rfl | rfl | rfl | rfl | rfl | rfl | rfl | rfl | rfl | rfl | rfl | rfl | rfl | rfl
  · exact allDF_of 19 (-9) kd_m1_m9 c (by omega) (by omega) hp
  · exact allDF_of 19 (-9) kd_m1_m8 c (by omega) (by omega) hp
  · exact allDF_of 19 (-9) kd_m1_m7 c (by omega) (by omega) hp
  · exact allDF_of 19 (-9) kd_m1_m6 c (by omega) (by omega) hp
  · exact allDF_of 19 (-9) kd_m1_m5 c (by omega) (by omega) hp
  · exact allDF_of 19 (-9) kd_m1_m4 c (by omega) (by omega) hp
  · exact allDF_of 19 (-9) kd_m1_m3 c (by omega) (by omega) hp
  · exact allDF_of 19 (-9) kd_m1_m2 c (by omega) (by omega) hp
  · exact allDF_of 19 (-9) kd_m1_m1 c (by omega) (by omega) hp
  · exact allDF_of 19 (-9) kd_m1_0 c (by omega) (by omega) hp
  · exact allDF_of 19 (-9) kd_m1_1 c (by omega) (by omega) hp
  · exact allDF_of 19 (-9) kd_m1_2 c (by omega) (by omega) hp
  · exact allDF_of 19 (-9) kd_m1_3 c (by omega) (by omega) hp
  · exact allDF_of 19 (-9) kd_m1_4 c (by omega) (by omega) hp
  · exact allDF_of 19 (-9) kd_m1_5 c (by omega) (by omega) hp
  · exact allDF_of 19 (-9) kd_m1_6 c (by omega) (by omega) hp
  · exact allDF_of 19 (-9) kd_m1_7 c (by omega) (by omega) hp
  · exact allDF_of 19 (-9) kd_m1_8 c (by omega) (by omega) hp
  · exact allDF_of 19 (-9) kd_m1_9 c (by omega) (by omega) hp
theorem allD_0 {b c : Int} (h3 : -9 ≤ b) (h4 : b ≤ 9) (h5 : -9 ≤ c) (h6 : c ≤ 9) (hp : hw7 0 b c 41 (-20) = false) : cdO 0 b c := by
  have : b = -9 ∨ b = -8 ∨ b = -7 ∨ b = -6 ∨ b = -5 ∨ b = -4 ∨ b = -3 ∨ b = -2 ∨ b = -1 ∨ b = 0 ∨ b = 1 ∨ b = 2 ∨ b = 3 ∨ b = 4 ∨ b = 5 ∨ b = 6 ∨ b = 7 ∨ b = 8 ∨ b = 9 := by omega
  rcases this with rfl | rfl | rfl | rfl | rfl | rfl | rfl | rfl | rfl | rfl | rfl | rfl | rfl | rfl | rfl | rfl | rfl | rfl | rfl
  · exact allDF_of 19 (-9) kd_0_m9 c (by omega) (by omega) hp
  · exact allDF_of 19 (-9) kd_0_m8 c (by omega) (by omega) hp
  · exact allDF_of 19 (-9) kd_0_m7 c (by omega) (by omega) hp
  · exact allDF_of 19 (-9) kd_0_m6 c (by omega) (by omega) hp
  · exact allDF_of 19 (-9) kd_0_m5 c (by omega) (by omega) hp
  · exact allDF_of 19 (-9) kd_0_m4 c (by omega) (by omega) hp
  · exact allDF_of 19 (-9) kd_0_m3 c (by omega) (by omega) hp
  · exact allDF_of 19 (-9) kd_0_m2 c (by omega) (by omega) hp
  · exact allDF_of 19 (-9) kd_0_m1 c (by omega) (by omega) hp
  · exact allDF_of 19 (-9) kd_0_0 c (by omega) (by omega) hp
  · exact allDF_of 19 (-9) kd_0_1 c (by omega) (by omega) hp
  · exact allDF_of 19 (-9) kd_0_2 c (by omega) (by omega) hp
  · exact allDF_of 19 (-9) kd_0_3 c (by omega) (by omega) hp
  · exact allDF_of 19 (-9) kd_0_4 c (by omega) (by omega) hp
  · exact allDF_of 19 (-9) kd_0_5 c (by omega) (by omega) hp
  · exact allDF_of 19 (-9) kd_0_6 c (by omega) (by omega) hp
  · exact allDF_of 19 (-9) kd_0_7 c (by omega) (by omega) hp
  · exact allDF_of 19 (-9) kd_0_8 c (by omega) (by omega) hp
  · exact allDF_of 19 (-9) kd_0_9 c (by omega) (by omega) hp
theorem allD_1 {b c : Int} (h3 : -9 ≤ b) (h4 : b ≤ 9) (h5 : -9 ≤ c) (h6 : c ≤ 9) (hp : hw7 1 b c 41 (-20) = false) : cdO 1 b c := by
  have : b = -9 ∨ b = -8 ∨ b = -7 ∨ b = -6 ∨ b = -5 ∨ b = -4 ∨ b = -3 ∨ b = -2 ∨ b = -1 ∨ b = 0 ∨ b = 1 ∨ b = 2 ∨ b = 3 ∨ b = 4 ∨ b = 5 ∨ b = 6 ∨ b = 7 ∨ b = 8 ∨ b = 9 := by omega
  rcases this with rfl | rfl | rfl | rfl | rfl | rfl | rfl | rfl | rfl | rfl | rfl | rfl | rfl | rfl | rfl | rfl | rfl | rfl | rfl
  · exact allDF_of 19 (-9) kd_1_m9 c (by omega) (by omega) hp
  · exact allDF_of 19 (-9) kd_1_m8 c (by omega) (by omega) hp
  · exact allDF_of 19 (-9) kd_1_m7 c (by omega) (by omega) hp
  · exact allDF_of 19 (-9) kd_1_m6 c (by omega) (by omega) hp
  · exact allDF_of 19 (-9) kd_1_m5 c (by omega) (by omega) hp
  · exact allDF_of 19 (-9) kd_1_m4 c (by omega) (by omega) hp
  · exact allDF_of 19 (-9) kd_1_m3 c (by omega) (by omega) hp
  · exact allDF_of 19 (-9) kd_1_m2 c (by omega) (by omega) hp
  · exact allDF_of 19 (-9) kd_1_m1 c (by omega) (by omega) hp
  · exact allDF_of 19 (-9) kd_1_0 c (by omega) (by omega) hp
  · exact allDF_of 19 (-9) kd_1_1 c (by omega) (by omega) hp
  · exact allDF_of 19 (-9) kd_1_2 c (by omega) (by omega) hp
  · exact allDF_of 19 (-9) kd_1_3 c (by omega) (by omega) hp
  · exact allDF_of 19 (-9) kd_1_4 c (by omega) (by omega) hp
  · exact allDF_of 19 (-9) kd_1_5 c (by omega) (by omega) hp
  · exact allDF_of 19 (-9) kd_1_6 c (by omega) (by omega) hp
  · exact allDF_of 19 (-9) kd_1_7 c (by omega) (by omega) hp
  · exact allDF_of 19 (-9) kd_1_8 c (by omega) (by omega) hp
  · exact allDF_of 19 (-9) kd_1_9 c (by omega) (by omega) hp
theorem allD_2 {b c : Int} (h3 : -9 ≤ b) (h4 : b ≤ 9) (h5 : -9 ≤ c) (h6 : c ≤ 9) (hp : hw7 2 b c 41 (-20) = false) : cdO 2 b c := by
  have : b = -9 ∨ b = -8 ∨ b = -7 ∨ b = -6 ∨ b = -5 ∨ b = -4 ∨ b = -3 ∨ b = -2 ∨ b = -1 ∨ b = 0 ∨ b = 1 ∨ b = 2 ∨ b = 3 ∨ b = 4 ∨ b = 5 ∨ b = 6 ∨ b = 7 ∨ b = 8 ∨ b = 9 := by omega
  rcases this with rfl | rfl | rfl | rfl | rfl | rfl | rfl | rfl | rfl | rfl | rfl | rfl | rfl | rfl | rfl | rfl | rfl | rfl | rfl
  · exact allDF_of 19 (-9) kd_2_m9 c (by omega) (by omega) hp
  · exact allDF_of 19 (-9) kd_2_m8 c (by omega) (by omega) hp
  · exact allDF_of 19 (-9) kd_2_m7 c (by omega) (by omega) hp
  · exact allDF_of 19 (-9) kd_2_m6 c (by omega) (by omega) hp
  · exact allDF_of 19 (-9) kd_2_m5 c (by omega) (by omega) hp
  · exact allDF_of 19 (-9) kd_2_m4 c (by omega) (by omega) hp
  · exact allDF_of 19 (-9) kd_2_m3 c (by omega) (by omega) hp
  · exact allDF_of 19 (-9) kd_2_m2 c (by omega) (by omega) hp
  · exact allDF_of 19 (-9) kd_2_m1 c (by omega) (by omega) hp
  · exact allDF_of 19 (-9) kd_2_0 c (by omega) (by omega) hp
  · exact allDF_of 19 (-9) kd_2_1 c (by omega) (by omega) hp
  · exact allDF_of 19 (-9) kd_2_2 c (by omega) (by omega) hp
  · exact allDF_of 19 (-9) kd_2_3 c (by omega) (by omega) hp
  · exact allDF_of 19 (-9) kd_2_4 c (by omega) (by omega) hp
  · exact allDF_of 19 (-9) kd_2_5 c (by omega) (by omega) hp
  · exact allDF_of 19 (-9) kd_2_6 c (by omega) (by omega) hp
  · exact allDF_of 19 (-9) kd_2_7 c (by omega) (by omega) hp
  · exact allDF_of 19 (-9) kd_2_8 c (by omega) (by omega) hp
  · exact allDF_of 19 (-9) kd_2_9 c (by omega) (by omega) hp
theorem allD_3 {b c : Int} (h3 : -9 ≤ b) (h4 : b ≤ 9) (h5 : -9 ≤ c) (h6 : c ≤ 9) (hp : hw7 3 b c 41 (-20) = false) : cdO 3 b c := by
  have : b = -9 ∨ b = -8 ∨ b = -7 ∨ b = -6 ∨ b = -5 ∨ b = -4 ∨ b = -3 ∨ b = -2 ∨ b = -1 ∨ b = 0 ∨ b = 1 ∨ b = 2 ∨ b = 3 ∨ b = 4 ∨ b = 5 ∨ b = 6 ∨ b = 7 ∨ b = 8 ∨ b = 9 := by omega
  rcases this with rfl | rfl | rfl | rfl | rfl | rfl | rfl | rfl | rfl | rfl | rfl | rfl | rfl | rfl | rfl | rfl | rfl | rfl | rfl
  · exact allDF_of 19 (-9) kd_3_m9 c (by omega) (by omega) hp
  · exact allDF_of 19 (-9) kd_3_m8 c (by omega) (by omega) hp
  · exact allDF_of 19 (-9) kd_3_m7 c (by omega) (by omega) hp
  · exact allDF_of 19 (-9) kd_3_m6 c (by omega) (by omega) hp
  · exact allDF_of 19 (-9) kd_3_m5 c (by omega) (by omega) hp
  · exact allDF_of 19 (-9) kd_3_m4 c (by omega) (by omega) hp
  · exact allDF_of 19 (-9) kd_3_m3 c (by omega) (by omega) hp
  · exact allDF_of 19 (-9) kd_3_m2 c (by omega) (by omega) hp
  · exact allDF_of 19 (-9) kd_3_m1 c (by omega) (by omega) hp
  · exact allDF_of 19 (-9) kd_3_0 c (by omega) (by omega) hp
  · exact allDF_of 19 (-9) kd_3_1 c (by omega) (by omega) hp
  · exact allDF_of 19 (-9) kd_3_2 c (by omega) (by omega) hp
  · exact allDF_of 19 (-9) kd_3_3 c (by omega) (by omega) hp
  · exact allDF_of 19 (-9) kd_3_4 c (by omega) (by omega) hp
  · exact allDF_of 19 (-9) kd_3_5 c (by omega) (by omega) hp
  · exact allDF_of 19 (-9) kd_3_6 c (by omega) (by omega) hp
  · exact allDF_of 19 (-9) kd_3_7 c (by omega) (by omega) hp
  · exact allDF_of 19 (-9) kd_3_8 c (by omega) (by omega) hp
  · exact allDF_of 19 (-9) kd_3_9 c (by omega) (by omega) hp
theorem allD {a b c : Int} (h1 : -3 ≤ a) (h2 : a ≤ 3) (h3 : -9 ≤ b) (h4 : b ≤ 9) (h5 : -9 ≤ c) (h6 : c ≤ 9) (hp : hw7 a b c 41 (-20) = false) : cdO a b c := by
  have : a = -3 ∨ a = -2 ∨ a = -1 ∨ a = 0 ∨ a = 1 ∨ a = 2 ∨ a = 3 := by omega
  rcases this with rfl | rfl | rfl | rfl | rfl | rfl | rfl
  · exact allD_m3 h3 h4 h5 h6 hp
  · exact allD_m2 h3 h4 h5 h6 hp
  · exact allD_m1 h3 h4 h5 h6 hp
  · exact allD_0 h3 h4 h5 h6 hp
  · exact allD_1 h3 h4 h5 h6 hp
  · exact allD_2 h3 h4 h5 h6 hp
  · exact allD_3 h3 h4 h5 h6 hp
theorem dm_cube {a b c h d k l e : Int} (h1 : -3 ≤ a) (h2 : a ≤ 3) (h3 : -9 ≤ b) (h4 : b ≤ 9) (h5 : -9 ≤ c) (h6 : c ≤ 9) (hp : hw7 a b c 41 (-20) = false) (H : fc3 a b c h d k l e = true) : dmK (s9 c b a h d k l e) = true := by
  obtain ⟨h', d', k', l', e', hr, hm⟩ := allD h1 h2 h3 h4 h5 h6 hp
  have hc := allC h1 h2 h3 h4 h5 h6 hp
  unfold fck3 at hc
  rw [hr] at hc
  obtain ⟨rfl, rfl, rfl, rfl, rfl⟩ := fc3_uniq H hc
  exact hm
