/-! every field: both sides agree -/
theorem allS {a b : Int} (h1 : -20 ≤ a) (h2 : a ≤ 20) (h3 : -200 ≤ b) (h4 : b ≤ 200) (hp : psq (a * a - 4 * b) = false) : fck2 a b = true := by
  have : a = -20 ∨ a = -19 ∨ a = -18 ∨ a = -17 ∨ a = -16 ∨ a = -15 ∨ a = -14 ∨ a = -13 ∨ a = -12 ∨ a = -11 ∨ a = -10 ∨ a = -9 ∨ a = -8 ∨ a = -7 ∨ a = -6 ∨ a = -5 ∨ a = -4 ∨ a = -3 ∨ a = -2 ∨ a = -1 ∨ a = 0 ∨ a = 1 ∨ a = 2 ∨ a = 3 ∨ a = 4 ∨ a = 5 ∨ a = 6 ∨ a = 7 ∨ a = 8 ∨ a = 9 ∨ a = 10 ∨ a = 11 ∨ a = 12 ∨ a = 13 ∨ a = 14 ∨ a = 15 ∨ a = 16 ∨ a = 17 ∨ a = 18 ∨ a = 19 ∨ a = 20 := by omega
  rcases this with rfl | rfl | rfl | rfl | rfl | rfl | rfl | rfl | rfl | rfl | rfl | rfl | rfl | rfl | rfl | rfl | rfl | rfl | rfl | rfl | rfl | rfl | rfl | rfl | rfl | rfl | rfl | rfl | rfl | rfl | rfl | rfl | rfl | rfl | rfl | rfl | rfl | rfl | rfl | rfl | rfl
  · exact all2F_of 401 (-200) k2_m20 b (by omega) (by omega) hp
  · exact all2F_of 401 (-200) k2_m19 b (by omega) (by omega) hp
  · exact all2F_of 401 (-200) k2_m18 b (by omega) (by omega) hp
  · exact all2F_of 401 (-200) k2_m17 b (by omega) (by omega) hp
  · exact all2F_of 401 (-200) k2_m16 b (by omega) (by omega) hp
  · exact all2F_of 401 (-200) k2_m15 b (by omega) (by omega) hp
  · exact all2F_of 401 (-200) k2_m14 b (by omega) (by omega) hp
  · exact all2F_of 401 (-200) k2_m13 b (by omega) (by omega) hp
  · exact all2F_of 401 (-200) k2_m12 b (by omega) (by omega) hp
  · exact all2F_of 401 (-200) k2_m11 b (by omega) (by omega) hp
  · exact all2F_of 401 (-200) k2_m10 b (by omega) (by omega) hp
  · exact all2F_of 401 (-200) k2_m9 b (by omega) (by omega) hp
  · exact all2F_of 401 (-200) k2_m8 b (by omega) (by omega) hp
  · exact all2F_of 401 (-200) k2_m7 b (by omega) (by omega) hp
  · exact all2F_of 401 (-200) k2_m6 b (by omega) (by omega) hp
  · exact all2F_of 401 (-200) k2_m5 b (by omega) (by omega) hp
  · exact all2F_of 401 (-200) k2_m4 b (by omega) (by omega) hp
  · exact all2F_of 401 (-200) k2_m3 b (by omega) (by omega) hp
  · exact all2F_of 401 (-200) k2_m2 b (by omega) (by omega) hp
  · exact all2F_of 401 (-200) k2_m1 b (by omega) (by omega) hp
  · exact all2F_of 401 (-200) k2_0 b (by omega) (by omega) hp
  · exact all2F_of 401 (-200) k2_1 b (by omega) (by omega) hp
  · exact all2F_of 401 (-200) k2_2 b (by omega) (by omega) hp
  · exact all2F_of 401 (-200) k2_3 b (by omega) (by omega) hp
  · exact all2F_of 401 (-200) k2_4 b (by omega) (by omega) hp
  · exact all2F_of 401 (-200) k2_5 b (by omega) (by omega) hp
  · exact all2F_of 401 (-200) k2_6 b (by omega) (by omega) hp
  · exact all2F_of 401 (-200) k2_7 b (by omega) (by omega) hp
  · exact all2F_of 401 (-200) k2_8 b (by omega) (by omega) hp
  · exact all2F_of 401 (-200) k2_9 b (by omega) (by omega) hp
  · exact all2F_of 401 (-200) k2_10 b (by omega) (by omega) hp
  · exact all2F_of 401 (-200) k2_11 b (by omega) (by omega) hp
  · exact all2F_of 401 (-200) k2_12 b (by omega) (by omega) hp
  · exact all2F_of 401 (-200) k2_13 b (by omega) (by omega) hp
  · exact all2F_of 401 (-200) k2_14 b (by omega) (by omega) hp
  · exact all2F_of 401 (-200) k2_15 b (by omega) (by omega) hp
  · exact all2F_of 401 (-200) k2_16 b (by omega) (by omega) hp
  · exact all2F_of 401 (-200) k2_17 b (by omega) (by omega) hp
  · exact all2F_of 401 (-200) k2_18 b (by omega) (by omega) hp
  · exact all2F_of 401 (-200) k2_19 b (by omega) (by omega) hp
  · exact all2F_of 401 (-200) k2_20 b (by omega) (by omega) hp
theorem allC_m3 {b c : Int} (h3 : -9 ≤ b) (h4 : b ≤ 9) (h5 : -9 ≤ c) (h6 : c ≤ 9) (hp : hw7 (-3) b c 41 (-20) = false) : fck3 (-3) b c = true := by
  have : b = -9 ∨ b = -8 ∨ b = -7 ∨ b = -6 ∨ b = -5 ∨ b = -4 ∨ b = -3 ∨ b = -2 ∨ b = -1 ∨ b = 0 ∨ b = 1 ∨ b = 2 ∨ b = 3 ∨ b = 4 ∨ b = 5 ∨ b = 6 ∨ b = 7 ∨ b = 8 ∨ b = 9 := by omega
  rcases this with rfl | rfl | rfl | rfl | rfl | rfl | rfl | rfl | rfl | rfl | rfl | rfl | rfl | rfl | rfl | rfl | rfl | rfl | rfl
  · exact all3F_of 19 (-9) k3_m3_m9 c (by omega) (by omega) hp
  · exact all3F_of 19 (-9) k3_m3_m8 c (by omega) (by omega) hp
  · exact all3F_of 19 (-9) k3_m3_m7 c (by omega) (by omega) hp
  · exact all3F_of 19 (-9) k3_m3_m6 c (by omega) (by omega) hp
  · exact all3F_of 19 (-9) k3_m3_m5 c (by omega) (by omega) hp
  · exact all3F_of 19 (-9) k3_m3_m4 c (by omega) (by omega) hp
  · exact all3F_of 19 (-9) k3_m3_m3 c (by omega) (by omega) hp
  · exact all3F_of 19 (-9) k3_m3_m2 c (by omega) (by omega) hp
  · exact all3F_of 19 (-9) k3_m3_m1 c (by omega) (by omega) hp
  · exact all3F_of 19 (-9) k3_m3_0 c (by omega) (by omega) hp
  · exact all3F_of 19 (-9) k3_m3_1 c (by omega) (by omega) hp
  · exact all3F_of 19 (-9) k3_m3_2 c (by omega) (by omega) hp
  · exact all3F_of 19 (-9) k3_m3_3 c (by omega) (by omega) hp
  · exact all3F_of 19 (-9) k3_m3_4 c (by omega) (by omega) hp
  · exact all3F_of 19 (-9) k3_m3_5 c (by omega) (by omega) hp
  · exact all3F_of 19 (-9) k3_m3_6 c (by omega) (by omega) hp
  · exact all3F_of 19 (-9) k3_m3_7 c (by omega) (by omega) hp
  · exact all3F_of 19 (-9) k3_m3_8 c (by omega) (by omega) hp
  · exact all3F_of 19 (-9) k3_m3_9 c (by omega) (by omega) hp
theorem allC_m2 {b c : Int} (h3 : -9 ≤ b) (h4 : b ≤ 9) (h5 : -9 ≤ c) (h6 : c ≤ 9) (hp : hw7 (-2) b c 41 (-20) = false) : fck3 (-2) b c = true := by
  have : b = -9 ∨ b = -8 ∨ b = -7 ∨ b = -6 ∨ b = -5 ∨ b = -4 ∨ b = -3 ∨ b = -2 ∨ b = -1 ∨ b = 0 ∨ b = 1 ∨ b = 2 ∨ b = 3 ∨ b = 4 ∨ b = 5 ∨ b = 6 ∨ b = 7 ∨ b = 8 ∨ b = 9 := by omega
  rcases this with rfl | rfl | rfl | rfl | rfl | rfl | rfl | rfl | rfl | rfl | rfl | rfl | rfl | rfl | rfl | rfl | rfl | rfl | rfl
  · exact all3F_of 19 (-9) k3_m2_m9 c (by omega) (by omega) hp
  · exact all3F_of 19 (-9) k3_m2_m8 c (by omega) (by omega) hp
  · exact all3F_of 19 (-9) k3_m2_m7 c (by omega) (by omega) hp
  · exact all3F_of 19 (-9) k3_m2_m6 c (by omega) (by omega) hp
  · exact all3F_of 19 (-9) k3_m2_m5 c (by omega) (by omega) hp
  · exact all3F_of 19 (-9) k3_m2_m4 c (by omega) (by omega) hp
  · exact all3F_of 19 (-9) k3_m2_m3 c (by omega) (by omega) hp
  · exact all3F_of 19 (-9) k3_m2_m2 c (by omega) (by omega) hp
  · exact all3F_of 19 (-9) k3_m2_m1 c (by omega) (by omega) hp
  · exact all3F_of 19 (-9) k3_m2_0 c (by omega) (by omega) hp
  · exact all3F_of 19 (-9) k3_m2_1 c (by omega) (by omega) hp
  · exact all3F_of 19 (-9) k3_m2_2 c (by omega) (by omega) hp
  · exact all3F_of 19 (-9) k3_m2_3 c (by omega) (by omega) hp
  · exact all3F_of 19 (-9) k3_m2_4 c (by omega) (by omega) hp
  · exact all3F_of 19 (-9) k3_m2_5 c (by omega) (by omega) hp
  · exact all3F_of 19 (-9) k3_m2_6 c (by omega) (by omega) hp
  · exact all3F_of 19 (-9) k3_m2_7 c (by omega) (by omega) hp
  · exact all3F_of 19 (-9) k3_m2_8 c (by omega) (by omega) hp
  · exact all3F_of 19 (-9) k3_m2_9 c (by omega) (by omega) hp
theorem allC_m1 {b c : Int} (h3 : -9 ≤ b) (h4 : b ≤ 9) (h5 : -9 ≤ c) (h6 : c ≤ 9) (hp : hw7 (-1) b c 41 (-20) = false) : fck3 (-1) b c = true := by
  have : b = -9 ∨ b = -8 ∨ b = -7 ∨ b = -6 ∨ b = -5 ∨ b = -4 ∨ b = -3 ∨ b = -2 ∨ b = -1 ∨ b = 0 ∨ b = 1 ∨ b = 2 ∨ b = 3 ∨ b = 4 ∨ b = 5 ∨ b = 6 ∨ b = 7 ∨ b = 8 ∨ b = 9 := by omega
  rcases this with rfl | rfl | rfl | rfl | rfl | rfl | rfl | rfl | rfl | rfl | rfl | rfl | rfl | rfl | rfl | rfl | rfl | rfl | rfl
  · exact all3F_of 19 (-9) k3_m1_m9 c (by omega) (by omega) hp
  · exact all3F_of 19 (-9) k3_m1_m8 c (by omega) (by omega) hp
  · exact all3F_of 19 (-9) k3_m1_m7 c (by omega) (by omega) hp
  · exact all3F_of 19 (-9) k3_m1_m6 c (by omega) (by omega) hp
  · exact all3F_of 19 (-9) k3_m1_m5 c (by omega) (by omega) hp
  · exact all3F_of 19 (-9) k3_m1_m4 c (by omega) (by omega) hp
  · exact all3F_of 19 (-9) k3_m1_m3 c (by omega) (by omega) hp
  · exact all3F_of 19 (-9) k3_m1_m2 c (by omega) (by omega) hp
  · exact all3F_of 19 (-9) k3_m1_m1 c (by omega) (by omega) hp
  · exact all3F_of 19 (-9) k3_m1_0 c (by omega) (by omega) hp
  · exact all3F_of 19 (-9) k3_m1_1 c (by omega) (by omega) hp
  · exact all3F_of 19 (-9) k3_m1_2 c (by omega) (by omega) hp
  · exact all3F_of 19 (-9) k3_m1_3 c (by omega) (by omega) hp
  · exact all3F_of 19 (-9) k3_m1_4 c (by omega) (by omega) hp
  · exact all3F_of 19 (-9) k3_m1_5 c (by omega) (by omega) hp
  · exact all3F_of 19 (-9) k3_m1_6 c (by omega) (by omega) hp
  · exact all3F_of 19 (-9) k3_m1_7 c (by omega) (by omega) hp
  · exact all3F_of 19 (-9) k3_m1_8 c (by omega) (by omega) hp
  · exact all3F_of 19 (-9) k3_m1_9 c (by omega) (by omega) hp
theorem allC_0 {b c : Int} (h3 : -9 ≤ b) (h4 : b ≤ 9) (h5 : -9 ≤ c) (h6 : c ≤ 9) (hp : hw7 0 b c 41 (-20) = false) : fck3 0 b c = true := by
  have : b = -9 ∨ b = -8 ∨ b = -7 ∨ b = -6 ∨ b = -5 ∨ b = -4 ∨ b = -3 ∨ b = -2 ∨ b = -1 ∨ b = 0 ∨ b = 1 ∨ b = 2 ∨ b = 3 ∨ b = 4 ∨ b = 5 ∨ b = 6 ∨ b = 7 ∨ b = 8 ∨ b = 9 := by omega
  rcases this with rfl | rfl | rfl | rfl | rfl | rfl | rfl | rfl | rfl | rfl | rfl | rfl | rfl | rfl | rfl | rfl | rfl | rfl | rfl
  · exact all3F_of 19 (-9) k3_0_m9 c (by omega) (by omega) hp
  · exact all3F_of 19 (-9) k3_0_m8 c (by omega) (by omega) hp
  · exact all3F_of 19 (-9) k3_0_m7 c (by omega) (by omega) hp
  · exact all3F_of 19 (-9) k3_0_m6 c (by omega) (by omega) hp
  · exact all3F_of 19 (-9) k3_0_m5 c (by omega) (by omega) hp
  · exact all3F_of 19 (-9) k3_0_m4 c (by omega) (by omega) hp
  · exact all3F_of 19 (-9) k3_0_m3 c (by omega) (by omega) hp
  · exact all3F_of 19 (-9) k3_0_m2 c (by omega) (by omega) hp
  · exact all3F_of 19 (-9) k3_0_m1 c (by omega) (by omega) hp
  · exact all3F_of 19 (-9) k3_0_0 c (by omega) (by omega) hp
  · exact all3F_of 19 (-9) k3_0_1 c (by omega) (by omega) hp
  · exact all3F_of 19 (-9) k3_0_2 c (by omega) (by omega) hp
  · exact all3F_of 19 (-9) k3_0_3 c (by omega) (by omega) hp
  · exact all3F_of 19 (-9) k3_0_4 c (by omega) (by omega) hp
  · exact all3F_of 19 (-9) k3_0_5 c (by omega) (by omega) hp
  · exact all3F_of 19 (-9) k3_0_6 c (by omega) (by omega) hp
  · exact all3F_of 19 (-9) k3_0_7 c (by omega) (by omega) hp
  · exact all3F_of 19 (-9) k3_0_8 c (by omega) (by omega) hp
  · exact all3F_of 19 (-9) k3_0_9 c (by omega) (by omega) hp
theorem allC_1 {b c : Int} (h3 : -9 ≤ b) (h4 : b ≤ 9) (h5 : -9 ≤ c) (h6 : c ≤ 9) (hp : hw7 1 b c 41 (-20) = false) : fck3 1 b c = true := by
  have : b = -9 ∨ b = -8 ∨ b = -7 ∨ b = -6 ∨ b = -5 ∨ b = -4 ∨ b = -3 ∨ b = -2 ∨ b = -1 ∨ b = 0 ∨ b = 1 ∨ b = 2 ∨ b = 3 ∨ b = 4 ∨ b = 5 ∨ b = 6 ∨ b = 7 ∨ b = 8 ∨ b = 9 := by omega
  rcases this with rfl | rfl | rfl | rfl | rfl | rfl | rfl | rfl | rfl | rfl | rfl | rfl | rfl | rfl | rfl | rfl | rfl | rfl | rfl
  · exact all3F_of 19 (-9) k3_1_m9 c (by omega) (by omega) hp
  · exact all3F_of 19 (-9) k3_1_m8 c (by omega) (by omega) hp
  · exact all3F_of 19 (-9) k3_1_m7 c (by omega) (by omega) hp
  · exact all3F_of 19 (-9) k3_1_m6 c (by omega) (by omega) hp
  · exact all3F_of 19 (-9) k3_1_m5 c (by omega) (by omega) hp
  · exact all3F_of 19 (-9) k3_1_m4 c (by omega) (by omega) hp
  · exact all3F_of 19 (-9) k3_1_m3 c (by omega) (by omega) hp
  · exact all3F_of 19 (-9) k3_1_m2 c (by omega) (by omega) hp
  · exact all3F_of 19 (-9) k3_1_m1 c (by omega) (by omega) hp
  · exact all3F_of 19 (-9) k3_1_0 c (by omega) (by omega) hp
  · exact all3F_of 19 (-9) k3_1_1 c (by omega) (by omega) hp
  · exact all3F_of 19 (-9) k3_1_2 c (by omega) (by omega) hp
  · exact all3F_of 19 (-9) k3_1_3 c (by omega) (by omega) hp
  · exact all3F_of 19 (-9) k3_1_4 c (by omega) (by omega) hp
  · exact all3F_of 19 (-9) k3_1_5 c (by omega) (by omega) hp
  · exact all3F_of 19 (-9) k3_1_6 c (by omega) (by omega) hp
  · exact all3F_of 19 (-9) k3_1_7 c (by omega) (by omega) hp
  · exact all3F_of 19 (-9) k3_1_8 c (by omega) (by omega) hp
  · exact all3F_of 19 (-9) k3_1_9 c (by omega) (by omega) hp
theorem allC_2 {b c : Int} (h3 : -9 ≤ b) (h4 : b ≤ 9) (h5 : -9 ≤ c) (h6 : c ≤ 9) (hp : hw7 2 b c 41 (-20) = false) : fck3 2 b c = true := by
  have : b = -9 ∨ b = -8 ∨ b = -7 ∨ b = -6 ∨ b = -5 ∨ b = -4 ∨ b = -3 ∨ b = -2 ∨ b = -1 ∨ b = 0 ∨ b = 1 ∨ b = 2 ∨ b = 3 ∨ b = 4 ∨ b = 5 ∨ b = 6 ∨ b = 7 ∨ b = 8 ∨ b = 9 := by omega
  rcases this with rfl | rfl | rfl | rfl | rfl | rfl | rfl | rfl | rfl | rfl | rfl | rfl | rfl | rfl | rfl | rfl | rfl | rfl | rfl
  · exact all3F_of 19 (-9) k3_2_m9 c (by omega) (by omega) hp
  · exact all3F_of 19 (-9) k3_2_m8 c (by omega) (by omega) hp
  · exact all3F_of 19 (-9) k3_2_m7 c (by omega) (by omega) hp
  · exact all3F_of 19 (-9) k3_2_m6 c (by omega) (by omega) hp
  · exact all3F_of 19 (-9) k3_2_m5 c (by omega) (by omega) hp
  · exact all3F_of 19 (-9) k3_2_m4 c (by omega) (by omega) hp
  · exact all3F_of 19 (-9) k3_2_m3 c (by omega) (by omega) hp
  · exact all3F_of 19 (-9) k3_2_m2 c (by omega) (by omega) hp
  · exact all3F_of 19 (-9) k3_2_m1 c (by omega) (by omega) hp
  · exact all3F_of 19 (-9) k3_2_0 c (by omega) (by omega) hp
  · exact all3F_of 19 (-9) k3_2_1 c (by omega) (by omega) hp
  · exact all3F_of 19 (-9) k3_2_2 c (by omega) (by omega) hp
  · exact all3F_of 19 (-9) k3_2_3 c (by omega) (by omega) hp
  · exact all3F_of 19 (-9) k3_2_4 c (by omega) (by omega) hp
  · exact all3F_of 19 (-9) k3_2_5 c (by omega) (by omega) hp
  · exact all3F_of 19 (-9) k3_2_6 c (by omega) (by omega) hp
  · exact all3F_of 19 (-9) k3_2_7 c (by omega) (by omega) hp
  · exact all3F_of 19 (-9) k3_2_8 c (by omega) (by omega) hp
  · exact all3F_of 19 (-9) k3_2_9 c (by omega) (by omega) hp
theorem allC_3 {b c : Int} (h3 : -9 ≤ b) (h4 : b ≤ 9) (h5 : -9 ≤ c) (h6 : c ≤ 9) (hp : hw7 3 b c 41 (-20) = false) : fck3 3 b c = true := by
  have : b = -9 ∨ b = -8 ∨ b = -7 ∨ b = -6 ∨ b = -5 ∨ b = -4 ∨ b = -3 ∨ b = -2 ∨ b = -1 ∨ b = 0 ∨ b = 1 ∨ b = 2 ∨ b = 3 ∨ b = 4 ∨ b = 5 ∨ b = 6 ∨ b = 7 ∨ b = 8 ∨ b = 9 := by omega
  rcases this with rfl | rfl | rfl | rfl | rfl | rfl | rfl | rfl | rfl | rfl | rfl | rfl | rfl | rfl | rfl | rfl | rfl | rfl | rfl
  · exact all3F_of 19 (-9) k3_3_m9 c (by omega) (by omega) hp
  · exact all3F_of 19 (-9) k3_3_m8 c (by omega) (by omega) hp
  · exact all3F_of 19 (-9) k3_3_m7 c (by omega) (by omega) hp
  · exact all3F_of 19 (-9) k3_3_m6 c (by omega) (by omega) hp
  · exact all3F_of 19 (-9) k3_3_m5 c (by omega) (by omega) hp
  · exact all3F_of 19 (-9) k3_3_m4 c (by omega) (by omega) hp
  · exact all3F_of 19 (-9) k3_3_m3 c (by omega) (by omega) hp
  · exact all3F_of 19 (-9) k3_3_m2 c (by omega) (by omega) hp
  · exact all3F_of 19 (-9) k3_3_m1 c (by omega) (by omega) hp
  · exact all3F_of 19 (-9) k3_3_0 c (by omega) (by omega) hp
  · exact all3F_of 19 (-9) k3_3_1 c (by omega) (by omega) hp
  · exact all3F_of 19 (-9) k3_3_2 c (by omega) (by omega) hp
  · exact all3F_of 19 (-9) k3_3_3 c (by omega) (by omega) hp
  · exact all3F_of 19 (-9) k3_3_4 c (by omega) (by omega) hp
  · exact all3F_of 19 (-9) k3_3_5 c (by omega) (by omega) hp
  · exact all3F_of 19 (-9) k3_3_6 c (by omega) (by omega) hp
  · exact all3F_of 19 (-9) k3_3_7 c (by omega) (by omega) hp
  · exact all3F_of 19 (-9) k3_3_8 c (by omega) (by omega) hp
  · exact all3F_of 19 (-9) k3_3_9 c (by omega) (by omega) hp
theorem allC {a b c : Int} (h1 : -3 ≤ a) (h2 : a ≤ 3) (h3 : -9 ≤ b) (h4 : b ≤ 9) (h5 : -9 ≤ c) (h6 : c ≤ 9) (hp : hw7 a b c 41 (-20) = false) : fck3 a b c = true := by
  have : a = -3 ∨ a = -2 ∨ a = -1 ∨ a = 0 ∨ a = 1 ∨ a = 2 ∨ a = 3 := by omega
  rcases this with rfl | rfl | rfl | rfl | rfl | rfl | rfl
  · exact allC_m3 h3 h4 h5 h6 hp
  · exact allC_m2 h3 h4 h5 h6 hp
  · exact allC_m1 h3 h4 h5 h6 hp
  · exact allC_0 h3 h4 h5 h6 hp
  · exact allC_1 h3 h4 h5 h6 hp
  · exact allC_2 h3 h4 h5 h6 hp
  · exact allC_3 h3 h4 h5 h6 hp
