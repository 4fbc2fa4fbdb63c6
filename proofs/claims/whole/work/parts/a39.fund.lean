def fundB (z : Int) : Bool := (decide (z % 4 = 1) || (decide (z % 4 = 0) && (decide (z / 4 % 4 = 2) || decide (z / 4 % 4 = 3)))) && !decide (z % 9 = 0) && !decide (z % 25 = 0) && !decide (z % 49 = 0) && !decide (z % 121 = 0) && !decide (z % 169 = 0) && !decide (z % 289 = 0) && !decide (z % 361 = 0) && !decide (z % 529 = 0) && !decide (z % 841 = 0) && !decide (z % 961 = 0)
def fuF (a b : Int) : Bool := fz (a * a - 4 * b) fun D => psqF D || (match fsN D.natAbs (cW2 b a) 34 with
  | none => false
  | some (d, _) => fz (D.tdiv (d * d)) fundB)
def fuO (a b : Int) : Prop := ∀ d h, fsI (a * a - 4 * b) (cW2 b a) 34 = some (d, h) → fundB ((a * a - 4 * b).tdiv (d * d)) = true
theorem fuF_of {a b : Int} (H : fuF a b = true) (hp : psq (a * a - 4 * b) = false) : fuO a b := by
  intro d h hd
  unfold fuF at H
  rw [fz_eq, psqF_eq, hp, Bool.false_or, fsN_eq (W := cW2 b a) (fun _ _ => rfl), hd] at H
  simp only [fz_eq] at H
  exact H
def allFF (a : Int) : Nat → Int → Bool
  | 0, _ => true
  | n + 1, b => fuF a b && fz (b + 1) fun b1 => allFF a n b1
theorem allFF_of {a : Int} : ∀ (n : Nat) (b : Int), allFF a n b = true → ∀ x, b ≤ x → x < b + n → psq (a * a - 4 * x) = false → fuO a x := by
  intro n
  induction n with
  | zero => intro b _ x h1 h2; omega
  | succ n ih =>
    intro b h x h1 h2 hp
    unfold allFF at h
    rw [fz_eq, Bool.and_eq_true] at h
    rcases Int.lt_or_eq_of_le h1 with q | q
    · exact ih (b + 1) h.2 x (by omega) (by omega) hp
    · subst q
      exact fuF_of h.1 hp
theorem kf_m20 : allFF (-20) 401 (-200) = true := by decide +kernel
theorem kf_m19 : allFF (-19) 401 (-200) = true := by decide +kernel
theorem kf_m18 : allFF (-18) 401 (-200) = true := by decide +kernel
theorem kf_m17 : allFF (-17) 401 (-200) = true := by decide +kernel
theorem kf_m16 : allFF (-16) 401 (-200) = true := by decide +kernel
theorem kf_m15 : allFF (-15) 401 (-200) = true := by decide +kernel
theorem kf_m14 : allFF (-14) 401 (-200) = true := by decide +kernel
theorem kf_m13 : allFF (-13) 401 (-200) = true := by decide +kernel
theorem kf_m12 : allFF (-12) 401 (-200) = true := by decide +kernel
theorem kf_m11 : allFF (-11) 401 (-200) = true := by decide +kernel
theorem kf_m10 : allFF (-10) 401 (-200) = true := by decide +kernel
theorem kf_m9 : allFF (-9) 401 (-200) = true := by decide +kernel
theorem kf_m8 : allFF (-8) 401 (-200) = true := by decide +kernel
theorem kf_m7 : allFF (-7) 401 (-200) = true := by decide +kernel
theorem kf_m6 : allFF (-6) 401 (-200) = true := by decide +kernel
theorem kf_m5 : allFF (-5) 401 (-200) = true := by decide +kernel
theorem kf_m4 : allFF (-4) 401 (-200) = true := by decide +kernel
theorem kf_m3 : allFF (-3) 401 (-200) = true := by decide +kernel
theorem kf_m2 : allFF (-2) 401 (-200) = true := by decide +kernel
theorem kf_m1 : allFF (-1) 401 (-200) = true := by decide +kernel
theorem kf_0 : allFF 0 401 (-200) = true := by decide +kernel
theorem kf_1 : allFF 1 401 (-200) = true := by decide +kernel
theorem kf_2 : allFF 2 401 (-200) = true := by decide +kernel
theorem kf_3 : allFF 3 401 (-200) = true := by decide +kernel
theorem kf_4 : allFF 4 401 (-200) = true := by decide +kernel
theorem kf_5 : allFF 5 401 (-200) = true := by decide +kernel
theorem kf_6 : allFF 6 401 (-200) = true := by decide +kernel
theorem kf_7 : allFF 7 401 (-200) = true := by decide +kernel
theorem kf_8 : allFF 8 401 (-200) = true := by decide +kernel
theorem kf_9 : allFF 9 401 (-200) = true := by decide +kernel
theorem kf_10 : allFF 10 401 (-200) = true := by decide +kernel
theorem kf_11 : allFF 11 401 (-200) = true := by decide +kernel
theorem kf_12 : allFF 12 401 (-200) = true := by decide +kernel
theorem kf_13 : allFF 13 401 (-200) = true := by decide +kernel
theorem kf_14 : allFF 14 401 (-200) = true := by decide +kernel
theorem kf_15 : allFF 15 401 (-200) = true := by decide +kernel
theorem kf_16 : allFF 16 401 (-200) = true := by decide +kernel
theorem kf_17 : allFF 17 401 (-200) = true := by decide +kernel
theorem kf_18 : allFF 18 401 (-200) = true := by decide +kernel
theorem kf_19 : allFF 19 401 (-200) = true := by decide +kernel
theorem kf_20 : allFF 20 401 (-200) = true := by decide +kernel
theorem allFu {a b : Int} (h1 : -20 ≤ a) (h2 : a ≤ 20) (h3 : -200 ≤ b) (h4 : b ≤ 200) (hp : psq (a * a - 4 * b) = false) : fuO a b := by
  have : a = -20 ∨ a = -19 ∨ a = -18 ∨ a = -17 ∨ a = -16 ∨ a = -15 ∨ a = -14 ∨ a = -13 ∨ a = -12 ∨ a = -11 ∨ a = -10 ∨ a = -9 ∨ a = -8 ∨ a = -7 ∨ a = -6 ∨ a = -5 ∨ a = -4 ∨ a = -3 ∨ a = -2 ∨ a = -1 ∨ a = 0 ∨ a = 1 ∨ a = 2 ∨ a = 3 ∨ a = 4 ∨ a = 5 ∨ a = 6 ∨ a = 7 ∨ a = 8 ∨ a = 9 ∨ a = 10 ∨ a = 11 ∨ a = 12 ∨ a = 13 ∨ a = 14 ∨ a = 15 ∨ a = 16 ∨ a = 17 ∨ a = 18 ∨ a = 19 ∨ a = 20 := by omega
  rcases this with rfl | rfl | rfl | rfl | rfl | rfl | rfl | rfl | rfl | rfl | rfl | rfl | rfl | rfl | rfl | rfl | rfl | rfl | rfl | rfl | rfl | rfl | rfl | rfl | rfl | rfl | rfl | rfl | rfl | rfl | rfl | rfl | rfl | rfl | rfl | rfl | rfl | rfl | rfl | rfl | rfl
  · exact allFF_of 401 (-200) kf_m20 b (by omega) (by omega) hp
  · exact allFF_of 401 (-200) kf_m19 b (by omega) (by omega) hp
  · exact allFF_of 401 (-200) kf_m18 b (by omega) (by omega) hp
  · exact allFF_of 401 (-200) kf_m17 b (by omega) (by omega) hp
  · exact allFF_of 401 (-200) kf_m16 b (by omega) (by omega) hp
  · exact allFF_of 401 (-200) kf_m15 b (by omega) (by omega) hp
  · exact allFF_of 401 (-200) kf_m14 b (by omega) (by omega) hp
  · exact allFF_of 401 (-200) kf_m13 b (by omega) (by omega) hp
  · exact allFF_of 401 (-200) kf_m12 b (by omega) (by omega) hp
  · exact allFF_of 401 (-200) kf_m11 b (by omega) (by omega) hp
  · exact allFF_of 401 (-200) kf_m10 b (by omega) (by omega) hp
  · exact allFF_of 401 (-200) kf_m9 b (by omega) (by omega) hp
  · exact allFF_of 401 (-200) kf_m8 b (by omega) (by omega) hp
  · exact allFF_of 401 (-200) kf_m7 b (by omega) (by omega) hp
  · exact allFF_of 401 (-200) kf_m6 b (by omega) (by omega) hp
  · exact allFF_of 401 (-200) kf_m5 b (by omega) (by omega) hp
  · exact allFF_of 401 (-200) kf_m4 b (by omega) (by omega) hp
  · exact allFF_of 401 (-200) kf_m3 b (by omega) (by omega) hp
  · exact allFF_of 401 (-200) kf_m2 b (by omega) (by omega) hp
  · exact allFF_of 401 (-200) kf_m1 b (by omega) (by omega) hp
  · exact allFF_of 401 (-200) kf_0 b (by omega) (by omega) hp
  · exact allFF_of 401 (-200) kf_1 b (by omega) (by omega) hp
  · exact allFF_of 401 (-200) kf_2 b (by omega) (by omega) hp
  · exact allFF_of 401 (-200) kf_3 b (by omega) (by omega) hp
  · exact allFF_of 401 (-200) kf_4 b (by omega) (by omega) hp
  · exact allFF_of 401 (-200) kf_5 b (by omega) (by omega) hp
  · exact allFF_of 401 (-200) kf_6 b (by omega) (by omega) hp
  · exact allFF_of 401 (-200) kf_7 b (by omega) (by omega) hp
  · exact allFF_of 401 (-200) kf_8 b (by omega) (by omega) hp
  · exact allFF_of 401 (-200) kf_9 b (by omega) (by omega) hp
  · exact allFF_of 401 (-200) kf_10 b (by omega) (by omega) hp
  · exact allFF_of 401 (-200) kf_11 b (by omega) (by omega) hp
  · exact allFF_of 401 (-200) kf_12 b (by omega) (by omega) hp
  · exact allFF_of 401 (-200) kf_13 b (by omega) (by omega) hp
  · exact allFF_of 401 (-200) kf_14 b (by omega) (by omega) hp
  · exact allFF_of 401 (-200) kf_15 b (by omega) (by omega) hp
  · exact allFF_of 401 (-200) kf_16 b (by omega) (by omega) hp
  · exact allFF_of 401 (-200) kf_17 b (by omega) (by omega) hp
  · exact allFF_of 401 (-200) kf_18 b (by omega) (by omega) hp
  · exact allFF_of 401 (-200) kf_19 b (by omega) (by omega) hp
  · exact allFF_of 401 (-200) kf_20 b (by omega) (by omega) hp
theorem fu_square {a b h d : Int} (h1 : -20 ≤ a) (h2 : a ≤ 20) (h3 : -200 ≤ b) (h4 : b ≤ 200) (hp : psq (a * a - 4 * b) = false) (H : fc2 a b h d = true) : fundB ((a * a - 4 * b).tdiv (d * d)) = true := by
  refine allFu h1 h2 h3 h4 hp d h ?_
  simp only [fc2, Bool.and_eq_true, decide_eq_true_eq] at H
  simp only [H]
