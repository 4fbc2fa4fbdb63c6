/-! degree 2: Cramer's numbers are those of the conjugate -/
set_option maxHeartbeats 200000 in
theorem di2_0 (a b y z p q : Int64) : a * (0 + y * 1 + z * q) - b * (0 + y * 0 + z * p) = 0 + a * (0 + y * 1 + z * 0 + (0 + y * 1 + z * q) - y) * 1 + a * (-z) * 0 + b * (0 + y * 1 + z * 0 + (0 + y * 1 + z * q) - y) * 0 + b * (-z) * p := by grind
set_option maxHeartbeats 200000 in
theorem di2_1 (a b y z p q : Int64) : (0 + y * 1 + z * 0) * b - (0 + y * 0 + z * 1) * a = 0 + a * (0 + y * 1 + z * 0 + (0 + y * 1 + z * q) - y) * 0 + a * (-z) * 1 + b * (0 + y * 1 + z * 0 + (0 + y * 1 + z * q) - y) * 1 + b * (-z) * q := by grind
set_option maxHeartbeats 200000 in
theorem ab_z2 {X Y T : Nat → Int64} (h0 : T 0 = 1) (h1 : T 1 = 0) (h3 : T 3 = 0) (h4 : T 4 = 1) (h9 : T 9 = 0) (h10 : T 10 = 1) : abv 2 0 (mtx 2 Y T) X = 0 + X 0 * (nrV 2 (mtx 2 Y T) 1 - Y 0) * T 0 + X 0 * (-Y 1) * T 3 + X 1 * (nrV 2 (mtx 2 Y T) 1 - Y 0) * T 9 + X 1 * (-Y 1) * T 12 ∧ abv 2 1 (mtx 2 Y T) X = 0 + X 0 * (nrV 2 (mtx 2 Y T) 1 - Y 0) * T 1 + X 0 * (-Y 1) * T 4 + X 1 * (nrV 2 (mtx 2 Y T) 1 - Y 0) * T 10 + X 1 * (-Y 1) * T 13 := by
  constructor
  · show X 0 * (0 + Y 0 * T 4 + Y 1 * T 13) - X 1 * (0 + Y 0 * T 3 + Y 1 * T 12) = 0 + X 0 * (0 + Y 0 * T 0 + Y 1 * T 9 + (0 + Y 0 * T 4 + Y 1 * T 13) - Y 0) * T 0 + X 0 * (-Y 1) * T 3 + X 1 * (0 + Y 0 * T 0 + Y 1 * T 9 + (0 + Y 0 * T 4 + Y 1 * T 13) - Y 0) * T 9 + X 1 * (-Y 1) * T 12
    rw [h0, h3, h4, h9]; exact di2_0 _ _ _ _ _ _
  · show (0 + Y 0 * T 0 + Y 1 * T 9) * X 1 - (0 + Y 0 * T 1 + Y 1 * T 10) * X 0 = 0 + X 0 * (0 + Y 0 * T 0 + Y 1 * T 9 + (0 + Y 0 * T 4 + Y 1 * T 13) - Y 0) * T 1 + X 0 * (-Y 1) * T 4 + X 1 * (0 + Y 0 * T 0 + Y 1 * T 9 + (0 + Y 0 * T 4 + Y 1 * T 13) - Y 0) * T 10 + X 1 * (-Y 1) * T 13
    rw [h0, h1, h4, h9, h10]; exact di2_1 _ _ _ _ 0 _
