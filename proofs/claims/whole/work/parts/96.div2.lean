/-! degree 2: Cramer's numbers are those of the conjugate -/
set_option maxHeartbeats 200000 in
theorem di2_0 (a b y z p q : Int64) : a * (0 + y * 1 + z * q) - b * (0 + y * 0 + z * p) = 0 + a * (0 + y * 1 + z * 0 + (0 + y * 1 + z * q) - y) * 1 + a * (-z) * 0 + b * (0 + y * 1 + z * 0 + (0 + y * 1 + z * q) - y) * 0 + b * (-z) * p := by grind
set_option maxHeartbeats 200000 in
theorem di2_1 (a b y z p q : Int64) : (0 + y * 1 + z * 0) * b - (0 + y * 0 + z * 1) * a = 0 + a * (0 + y * 1 + z * 0 + (0 + y * 1 + z * q) - y) * 0 + a * (-z) * 1 + b * (0 + y * 1 + z * 0 + (0 + y * 1 + z * q) - y) * 1 + b * (-z) * q := by grind
