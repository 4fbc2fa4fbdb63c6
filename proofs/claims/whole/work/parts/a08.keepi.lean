def nmR (R : Nat → Int) : Int := R 0 * R 4 * R 8
theorem nmR_bd {R : Nat → Int} (h : ∀ t, t < 9 → 0 ≤ R t ∧ R t ≤ 1000000) : 0 ≤ nmR R ∧ nmR R ≤ 1000000000000000000 := by
  have h0 := h 0 (by decide)
  have h4 := h 4 (by decide)
  have h8 := h 8 (by decide)
  have a0 : 0 ≤ R 0 * R 4 := Int.mul_nonneg h0.1 h4.1
  have a1 : R 0 * R 4 ≤ 1000000 * 1000000 := Int.mul_le_mul h0.2 h4.2 h4.1 (by decide)
  have b1 : R 0 * R 4 * R 8 ≤ 1000000000000 * 1000000 := Int.mul_le_mul (by omega) h8.2 h8.1 (by decide)
  exact ⟨Int.mul_nonneg a0 h8.1, by unfold nmR; omega⟩
/-- an ideal's rows, with a norm that is allowed -/
def IdR (n : Nat) (T R : Nat → Int) : Prop := Hm R ∧ R2 n R ∧ Idl n T R ∧ nmR R ≤ 1000000
/-- the ideals of both sides -/
def IdS (n ni : Nat) (T Rv : Nat → Int) (I : sa_I) (J : sa_J) (I' : sa_I) : Prop := ni ≤ 80 ∧ I 0 9 = nI ni ∧ I' 0 14 = nI ni ∧ ∀ i, i < ni → IdR n T (fun t => Rv (9 * i + t)) ∧ (∀ t, t < 9 → J 3 (9 * i + t) = lI (Rv (9 * i + t))) ∧ ∀ t, t < 3 * n → I' 4 (9 * i + t) = iI (Rv (9 * i + t))
theorem Hm.bd {R : Nat → Int} (h : Hm R) {B : Int} (hn : nmR R ≤ B) : ∀ t, t < 9 → 0 ≤ R t ∧ R t ≤ B := by
  obtain ⟨⟨z1, z2, z5, p0, p4, p8⟩, x3, x6, x7⟩ := h
  have a : 1 * 1 ≤ R 0 * R 4 := Int.mul_le_mul (by omega) (by omega) (by decide) (by omega)
  have a0 : R 0 * 1 ≤ R 0 * R 4 := Int.mul_le_mul_of_nonneg_left (by omega) (by omega)
  have a4 : 1 * R 4 ≤ R 0 * R 4 := Int.mul_le_mul_of_nonneg_right (by omega) (by omega)
  have b : R 0 * R 4 * 1 ≤ R 0 * R 4 * R 8 := Int.mul_le_mul_of_nonneg_left (by omega) (by omega)
  have b8 : 1 * R 8 ≤ R 0 * R 4 * R 8 := Int.mul_le_mul_of_nonneg_right (by omega) (by omega)
  unfold nmR at hn
  intro t ht
  rcases below9 ht with rfl | rfl | rfl | rfl | rfl | rfl | rfl | rfl | rfl <;> constructor <;> omega
def kiC (I : sa_I) (J : sa_J) (ni : Nat) (N : Int) : sa_P := fun r I1 J1 =>
  ((1000000 < N ∨ ni = 80) ∧ r = some (.int (-6)) ∧ I1 = rf I 6 ∧ J1 = J) ∨
  (N ≤ 1000000 ∧ ni < 80 ∧ r = some (.int (nI ni)) ∧ I1 0 9 = nI (ni + 1) ∧ (∀ t, t ≠ 9 → I1 0 t = I 0 t) ∧ (∀ q, q ≠ 0 → I1 q = I q) ∧ (∀ c, c < 9 → J1 3 (9 * ni + c) = J 15 c) ∧ (∀ t, t < 9 * ni → J1 3 t = J 3 t) ∧ ∀ q, q ≠ 3 → J1 q = J q)
def kiR (I : sa_I) (J : sa_J) (ni : Nat) (N : Int) : sa_P := fun r I1 J1 =>
  ((1000000 < N ∨ ni = 80) ∧ r = some (.int (-6)) ∧ I1 = rf I 6 ∧ J1 = J) ∨
  (N ≤ 1000000 ∧ ni < 80 ∧ r = some (.int (nI ni)) ∧ I1 0 14 = nI (ni + 1) ∧ (∀ t, t ≠ 14 → I1 0 t = I 0 t) ∧ (∀ q, q ≠ 0 → q ≠ 4 → I1 q = I q) ∧ (∀ c, c < 9 → I1 4 (9 * ni + c) = (J 14 c).toInt32) ∧ (∀ t, t < 9 * ni → I1 4 t = I 4 t) ∧ J1 = J)
theorem kiC.r {I : sa_I} {J : sa_J} {ni : Nat} {N : Int} {r : Option Value} {I1 : sa_I} {J1 : sa_J} (h : kiC I J ni N r I1 J1) : ∃ v, r = some (.int v) := by
  rcases h with ⟨_, h, _⟩ | ⟨_, _, h, _⟩ <;> exact ⟨_, h⟩
theorem kiR.r {I : sa_I} {J : sa_J} {ni : Nat} {N : Int} {r : Option Value} {I1 : sa_I} {J1 : sa_J} (h : kiR I J ni N r I1 J1) : ∃ v, r = some (.int v) := by
  rcases h with ⟨_, h, _⟩ | ⟨_, _, h, _⟩ <;> exact ⟨_, h⟩
section KI
variable {l : Launch} {D : va_G} {aI aL : ClassId} {ad : Nat → Nat} {P : sa_P} {I : sa_I} {J : sa_J}
theorem c_normOfRows6 {E : sa_E} {R : Nat → Int} {a0 q0 n0 p : Nat} (hq0 : sa_iJ E a0 q0 n0) (hn0 : n0 < 2 ^ 31) (hb : p + 9 ≤ n0) (hR : ∀ t, t < 9 → J q0 (p + t) = lI (R t)) : Con E M_X6_normOfRows yX6_normOfRows [.ref a0, .int (nI p)] I J (p_l (lI (nmR R)) I J) := by
  refine Con.of (by decide +kernel) rfl (Nat.le_of_ble_eq_true rfl) ?_
  refine bX6_normOfRows_0 (j1 := p) (j6 := p + 4) (j13 := p + 8) hq0 hn0 rfl (by omega) (nI_addE p 4) (by omega) (nI_addE p 8) (by omega) ⟨?_, rfl, rfl⟩
  have h0 := hR 0 (by decide)
  rw [Nat.add_zero] at h0
  rw [h0, hR 4 (by decide), hR 8 (by decide), lI_mul, lI_mul]; rfl
theorem c_keepIdeal {R : Nat → Int} {ni : Nat} (hR : ∀ t, t < 9 → J 15 t = lI (R t)) (hb : ∀ t, t < 9 → 0 ≤ R t ∧ R t ≤ 1000000) (hni : I 0 9 = nI ni) (h80 : ni ≤ 80) : Con (EC l D aI aL ad) M_X6_keepIdeal yX6_keepIdeal [.ref (ad 0)] I J (kiC I J ni (nmR R)) := by
  refine Con.of (by decide +kernel) rfl (Nat.le_of_ble_eq_true rfl) ?_
  have hN := nmR_bd hb
  have room : (1000000 < nmR R ∨ ni = 80) → Sat (EC l D aI aL ad) M_X6_keepIdeal (kiC I J ni (nmR R)) 30 [(0, .ref (ad 0))] [] I J := by
    intro h
    refine bX6_keepIdeal_30 ?_
    refine v_X6_59 dX6_keepIdeal_33 rfl ⟨rfl, rfl, Nat.le_of_ble_eq_true rfl, Nat.le_of_ble_eq_true rfl⟩ (c_refused 6 (by decide) rfl) rfl rfl (Nat.le_of_ble_eq_true rfl) (fun r I1 J1 hp => ?_)
    obtain ⟨rfl, rfl, rfl⟩ := hp
    exact bX6_keepIdeal_36 (Or.inl ⟨h, rfl, rfl, rfl⟩)
  refine bX6_keepIdeal_0 ?_
  refine v_X6_179 dX6_keepIdeal_11 rfl ⟨rfl, rfl, Nat.le_of_ble_eq_true rfl, Nat.le_of_ble_eq_true rfl⟩ (c_normOfRows6 (p := 0) (R := R) aJ_C15 (by decide) (by decide) (fun t ht => by rw [Nat.zero_add]; exact hR t ht)) rfl rfl (Nat.le_of_ble_eq_true rfl) (fun r I1 J1 hp => ?_)
  obtain ⟨rfl, e2, e3⟩ := hp
  obtain rfl := e2.symm
  obtain rfl := e3.symm
  have ec : (1000000 : Int64) < lI (nmR R) ↔ 1000000 < nmR R := lI_lt (a := 1000000) ⟨by decide, by decide⟩ ⟨by omega, by omega⟩
  refine bX6_keepIdeal_14 (fun c => room (Or.inl (ec.mp c))) (fun c => ?_)
  have c1 : nmR R ≤ 1000000 := by
    have : ¬ 1000000 < nmR R := fun q => c (ec.mpr q)
    omega
  refine bX6_keepIdeal_21 (fun c => ?_) (fun c => room (Or.inr ?_))
  · rw [hni] at c
    have c2 := (nJ_lt (b := 80) (by omega) (by decide)).mp c
    refine bX6_keepIdeal_37 ?_
    rw [hni, show (9 : Int32) * nI ni = nI (9 * ni) from nI_mulE 9 ni]
    refine s_copy (n0 := 9) (sp := 0) (dp := 9 * ni) (n := 9) (n' := 720) aJ_C15 aJ_C3 dX6_keepIdeal_61 (by decide +kernel) (Nat.le_of_ble_eq_true rfl) (Nat.le_of_ble_eq_true rfl) (by decide) (by omega) (by decide) (by omega) (by omega) ?_
    refine bX6_keepIdeal_64 (v71 := nI (ni + 1)) (by rw [hni]; exact nI_addE ni 1) (Or.inr ⟨c1, c2, ?_, sa_uI_at, fun t ht => sa_uI_off ht, fun q hq => sa_uI_ne hq, fun c hc => ?_, fun t ht => ?_, fun q hq => sa_rJ_ne hq⟩)
    · rw [sa_uI_at, nJ_pred]
    · rw [sa_rJ_eq]; unfold va_cpy; rw [if_pos ⟨by omega, by omega⟩, show 0 + (9 * ni + c - 9 * ni) = c by omega]
    · rw [sa_rJ_eq]; unfold va_cpy; rw [if_neg (by omega)]
  · rw [hni] at c
    have : ¬ ni < 80 := fun q => c ((nJ_lt (b := 80) (by omega) (by decide)).mpr q)
    omega
theorem c_normOfRows7_2 {R : Nat → Int} (hn : I 0 1 = nI 2) (h0 : J 14 0 = lI (R 0)) (h4 : J 14 4 = lI (R 4)) (h8 : R 8 = 1) : Con (ER l D aI aL ad) M_X7_normOfRows yX7_normOfRows [.ref (ad 0)] I J (p_l (lI (nmR R)) I J) := by
  refine Con.of (by decide +kernel) rfl (Nat.le_of_ble_eq_true rfl) ?_
  refine bX7_normOfRows_0 (v1 := lI 1) (v3 := nI 0) rfl rfl ?_
  refine bX7_normOfRows_4 (fun c => absurd c (by rw [hn]; decide)) (fun _ => ?_)
  refine bX7_normOfRows_12 (j19 := 0) (v22 := lI (R 0)) (v23 := nI 1) rfl (by decide) (by rw [h0, lI_mul]; congr 1; omega) rfl ?_
  refine bX7_normOfRows_4 (fun c => absurd c (by rw [hn]; decide)) (fun _ => ?_)
  refine bX7_normOfRows_12 (j19 := 4) (v22 := lI (R 0 * R 4)) (v23 := nI 2) rfl (by decide) (by rw [h4, lI_mul]) rfl ?_
  refine bX7_normOfRows_4 (fun _ => bX7_normOfRows_29 ⟨by unfold nmR; rw [h8, Int.mul_one], rfl, rfl⟩) (fun c => absurd (by rw [hn]; decide) c)
theorem c_normOfRows7_3 {R : Nat → Int} (hn : I 0 1 = nI 3) (h0 : J 14 0 = lI (R 0)) (h4 : J 14 4 = lI (R 4)) (h8 : J 14 8 = lI (R 8)) : Con (ER l D aI aL ad) M_X7_normOfRows yX7_normOfRows [.ref (ad 0)] I J (p_l (lI (nmR R)) I J) := by
  refine Con.of (by decide +kernel) rfl (Nat.le_of_ble_eq_true rfl) ?_
  refine bX7_normOfRows_0 (v1 := lI 1) (v3 := nI 0) rfl rfl ?_
  refine bX7_normOfRows_4 (fun c => absurd c (by rw [hn]; decide)) (fun _ => ?_)
  refine bX7_normOfRows_12 (j19 := 0) (v22 := lI (R 0)) (v23 := nI 1) rfl (by decide) (by rw [h0, lI_mul]; congr 1; omega) rfl ?_
  refine bX7_normOfRows_4 (fun c => absurd c (by rw [hn]; decide)) (fun _ => ?_)
  refine bX7_normOfRows_12 (j19 := 4) (v22 := lI (R 0 * R 4)) (v23 := nI 2) rfl (by decide) (by rw [h4, lI_mul]) rfl ?_
  refine bX7_normOfRows_4 (fun c => absurd c (by rw [hn]; decide)) (fun _ => ?_)
  refine bX7_normOfRows_12 (j19 := 8) (v22 := lI (R 0 * R 4 * R 8)) (v23 := nI 3) rfl (by decide) (by rw [h8, lI_mul]) rfl ?_
  refine bX7_normOfRows_4 (fun _ => bX7_normOfRows_29 ⟨by unfold nmR; rfl, rfl, rfl⟩) (fun c => absurd (by rw [hn]; decide) c)
theorem c_keeps {n : Nat} {R : Nat → Int} {ni : Nat} (h0 : n = 2 ∨ n = 3) (hn : I 0 1 = nI n) (hR : ∀ t, t < 3 * n → J 14 t = lI (R t)) (h2 : R2 n R) (hb : ∀ t, t < 9 → 0 ≤ R t ∧ R t ≤ 1000000) (hni : I 0 14 = nI ni) (h80 : ni ≤ 80) : Con (ER l D aI aL ad) M_X7_keeps yX7_keeps [.ref (ad 0)] I J (kiR I J ni (nmR R)) := by
  refine Con.of (by decide +kernel) rfl (Nat.le_of_ble_eq_true rfl) ?_
  have hN := nmR_bd hb
  have room : (1000000 < nmR R ∨ ni = 80) → Sat (ER l D aI aL ad) M_X7_keeps (kiR I J ni (nmR R)) 20 [(0, .ref (ad 0))] [] I J := by
    intro h
    refine bX7_keeps_20 ?_
    refine v_X7_84 dX7_keeps_23 rfl ⟨rfl, rfl, Nat.le_of_ble_eq_true rfl, Nat.le_of_ble_eq_true rfl⟩ (c_refuse 6 (by decide) rfl) rfl rfl (Nat.le_of_ble_eq_true rfl) (fun r I1 J1 hp => ?_)
    obtain ⟨rfl, rfl, rfl⟩ := hp
    exact bX7_keeps_26 (Or.inl ⟨h, rfl, rfl, rfl⟩)
  have con : Con (ER l D aI aL ad) M_X7_normOfRows yX7_normOfRows [.ref (ad 0)] I J (p_l (lI (nmR R)) I J) := by
    rcases h0 with rfl | rfl
    · exact c_normOfRows7_2 hn (hR 0 (by decide)) (hR 4 (by decide)) (h2 rfl).2.2
    · exact c_normOfRows7_3 hn (hR 0 (by decide)) (hR 4 (by decide)) (hR 8 (by decide))
  refine bX7_keeps_0 ?_
  refine v_X7_251 dX7_keeps_1 rfl ⟨rfl, rfl, Nat.le_of_ble_eq_true rfl, Nat.le_of_ble_eq_true rfl⟩ con rfl rfl (Nat.le_of_ble_eq_true rfl) (fun r I1 J1 hp => ?_)
  obtain ⟨rfl, e2, e3⟩ := hp
  obtain rfl := e2.symm
  obtain rfl := e3.symm
  have ec : (1000000 : Int64) < lI (nmR R) ↔ 1000000 < nmR R := lI_lt (a := 1000000) ⟨by decide, by decide⟩ ⟨by omega, by omega⟩
  refine bX7_keeps_4 (fun c => room (Or.inl (ec.mp c))) (fun c => ?_)
  have c1 : nmR R ≤ 1000000 := by
    have : ¬ 1000000 < nmR R := fun q => c (ec.mpr q)
    omega
  refine bX7_keeps_11 (fun c => ?_) (fun c => room (Or.inr ?_))
  rotate_left
  · rw [hni] at c
    exact (nJ_eq (b := 80) (by omega) (by decide)).mp c
  rw [hni] at c
  have c2 : ni < 80 := by
    have : ni ≠ 80 := fun q => c (by rw [q]; rfl)
    omega
  have e9 : (9 : Int32) * nI ni = nI (9 * ni) := nI_mulE 9 ni
  refine bX7_keeps_27 (v28 := nI 0) rfl ?_
  refine bX7_keeps_29 (fun c => absurd c (by decide)) (fun _ => ?_)
  refine bX7_keeps_35 (j47 := 9 * ni + 0) (j52 := 0) (v55 := (J 14 0).toInt32) (v56 := nI 1) (by rw [hni, e9]; exact nI_addE _ _) rfl (by decide) (by omega) rfl rfl ?_
  refine bX7_keeps_29 (fun c => absurd c (by decide)) (fun _ => ?_)
  refine bX7_keeps_35 (j47 := 9 * ni + 1) (j52 := 1) (v55 := (J 14 1).toInt32) (v56 := nI 2) (by simp only [sa_uI_ne (show 0 ≠ 4 by decide)]; rw [hni, e9]; exact nI_addE _ _) rfl (by decide) (by omega) rfl rfl ?_
  refine bX7_keeps_29 (fun c => absurd c (by decide)) (fun _ => ?_)
  refine bX7_keeps_35 (j47 := 9 * ni + 2) (j52 := 2) (v55 := (J 14 2).toInt32) (v56 := nI 3) (by simp only [sa_uI_ne (show 0 ≠ 4 by decide)]; rw [hni, e9]; exact nI_addE _ _) rfl (by decide) (by omega) rfl rfl ?_
  refine bX7_keeps_29 (fun c => absurd c (by decide)) (fun _ => ?_)
  refine bX7_keeps_35 (j47 := 9 * ni + 3) (j52 := 3) (v55 := (J 14 3).toInt32) (v56 := nI 4) (by simp only [sa_uI_ne (show 0 ≠ 4 by decide)]; rw [hni, e9]; exact nI_addE _ _) rfl (by decide) (by omega) rfl rfl ?_
  refine bX7_keeps_29 (fun c => absurd c (by decide)) (fun _ => ?_)
  refine bX7_keeps_35 (j47 := 9 * ni + 4) (j52 := 4) (v55 := (J 14 4).toInt32) (v56 := nI 5) (by simp only [sa_uI_ne (show 0 ≠ 4 by decide)]; rw [hni, e9]; exact nI_addE _ _) rfl (by decide) (by omega) rfl rfl ?_
  refine bX7_keeps_29 (fun c => absurd c (by decide)) (fun _ => ?_)
  refine bX7_keeps_35 (j47 := 9 * ni + 5) (j52 := 5) (v55 := (J 14 5).toInt32) (v56 := nI 6) (by simp only [sa_uI_ne (show 0 ≠ 4 by decide)]; rw [hni, e9]; exact nI_addE _ _) rfl (by decide) (by omega) rfl rfl ?_
  refine bX7_keeps_29 (fun c => absurd c (by decide)) (fun _ => ?_)
  refine bX7_keeps_35 (j47 := 9 * ni + 6) (j52 := 6) (v55 := (J 14 6).toInt32) (v56 := nI 7) (by simp only [sa_uI_ne (show 0 ≠ 4 by decide)]; rw [hni, e9]; exact nI_addE _ _) rfl (by decide) (by omega) rfl rfl ?_
  refine bX7_keeps_29 (fun c => absurd c (by decide)) (fun _ => ?_)
  refine bX7_keeps_35 (j47 := 9 * ni + 7) (j52 := 7) (v55 := (J 14 7).toInt32) (v56 := nI 8) (by simp only [sa_uI_ne (show 0 ≠ 4 by decide)]; rw [hni, e9]; exact nI_addE _ _) rfl (by decide) (by omega) rfl rfl ?_
  refine bX7_keeps_29 (fun c => absurd c (by decide)) (fun _ => ?_)
  refine bX7_keeps_35 (j47 := 9 * ni + 8) (j52 := 8) (v55 := (J 14 8).toInt32) (v56 := nI 9) (by simp only [sa_uI_ne (show 0 ≠ 4 by decide)]; rw [hni, e9]; exact nI_addE _ _) rfl (by decide) (by omega) rfl rfl ?_
  refine bX7_keeps_29 (fun _ => ?_) (fun c => absurd (by decide) c)
  refine bX7_keeps_62 (v69 := nI (ni + 1)) (by simp only [sa_uI_ne (show 0 ≠ 4 by decide)]; rw [hni]; exact nI_addE ni 1) (Or.inr ⟨c1, c2, ?_, sa_uI_at, fun t ht => ?_, fun q h0 h4 => ?_, fun c hc => ?_, fun t ht => ?_, rfl⟩)
  · rw [sa_uI_at, nJ_pred]
  · rw [sa_uI_off ht]; simp only [sa_uI_ne (show 0 ≠ 4 by decide)]
  · rw [sa_uI_ne h0]; simp only [sa_uI_ne h4]
  · rw [sa_uI_ne (by decide)]
    rcases below9 hc with rfl | rfl | rfl | rfl | rfl | rfl | rfl | rfl | rfl <;> simp [sa_uI_if]
  · rw [sa_uI_ne (by decide)]
    simp only [sa_uI_if]
    repeat (rw [if_neg (by omega)])
end KI
/-- both sides keep the same ideal -/
theorem ki_two {n ni : Nat} {T Rv R R' : Nat → Int} {I I' I1 I2 I3 I4 : sa_I} {J J1 J2 J3 J4 : sa_J} {r1 r2' : Option Value} {N : sa_I → sa_J → sa_I → sa_J → Prop} (h0 : n = 2 ∨ n = 3) (H : IdS n ni T Rv I J I') (s1 : SCI I I1) (s2 : SC J J1) (s3 : SRI I' I2) (hR : ∀ t, t < 9 → J1 15 t = lI (R t)) (hR' : ∀ t, t < 3 * n → J2 14 t = lI (R' t)) (hm : Hm R) (hm' : Hm R') (r2 : R2 n R) (ha : Alike R R') (hi : Idl n T R) (p : kiC I1 J1 ni (nmR R) r1 I3 J3) (q : kiR I2 J2 ni (nmR R') r2' I4 J4) (hN6 : N (rf I1 6) J1 (rf I2 6) J2) (hA : ∀ Rv' I3 J3 I4, IdS n (ni + 1) T Rv' I3 J3 I4 → (∀ q, q ≠ 0 → q ≠ 14 → I3 q = I q) → (∀ t, t ≠ 9 → I3 0 t = I 0 t) → (∀ q, kC q → q ≠ 3 → J3 q = J q) → (∀ q, q ≠ 0 → q ≠ 4 → I4 q = I' q) → (∀ t, t ≠ 14 → t ≠ 27 → I4 0 t = I' 0 t) → N I3 J3 I4 J2) : la_ans false r1 r2' ∧ N I3 J3 I4 J4 := by
  have eqR := Hm_uniq hm hm' ha
  have eN : nmR R = nmR R' := by unfold nmR; rw [eqR 0 (by decide), eqR 4 (by decide), eqR 8 (by decide)]
  rw [← eN] at q
  obtain ⟨g1, g2, g3, g4⟩ := H
  rcases p with ⟨a, rfl, rfl, rfl⟩ | ⟨a, b, rfl, p1, p2, p3, p4, p5, p6⟩
  · rcases q with ⟨_, rfl, rfl, rfl⟩ | ⟨a', b', _⟩
    · exact ⟨⟨_, rfl, rfl⟩, hN6⟩
    · rcases a with a | a <;> omega
  · rcases q with ⟨a', _⟩ | ⟨_, _, rfl, q1, q2, q3, q4, q5, rfl⟩
    · rcases a' with a' | a' <;> omega
    · refine ⟨⟨_, rfl, rfl⟩, hA (fun t => if t < 9 * ni then Rv t else R (t - 9 * ni)) I3 J3 I4 ⟨by omega, p1, q1, ?_⟩ ?_ ?_ ?_ ?_ ?_⟩
      · intro i hii
        by_cases c : i < ni
        · obtain ⟨u1, u2, u3⟩ := g4 i c
          have ef : ∀ t, t < 9 → (if 9 * i + t < 9 * ni then Rv (9 * i + t) else R (9 * i + t - 9 * ni)) = Rv (9 * i + t) := fun t ht => if_pos (by omega)
          refine ⟨?_, fun t ht => ?_, fun t ht => ?_⟩
          · obtain ⟨⟨⟨z1, z2, z5, z0, z4, z8⟩, y3, y6, y7⟩, b2, b3, b4⟩ := u1
            dsimp only at *
            have fsp : ∀ v, Sp (fun t => if 9 * i + t < 9 * ni then Rv (9 * i + t) else R (9 * i + t - 9 * ni)) v ↔ Sp (fun t => Rv (9 * i + t)) v := by
              intro v
              unfold Sp
              simp only [ef 0 (by decide), ef 3 (by decide), ef 4 (by decide), ef 6 (by decide), ef 7 (by decide), ef 8 (by decide)]
            refine ⟨?_, ?_, ?_, ?_⟩
            · unfold Hm Tri
              simp only [ef 0 (by decide), ef 1 (by decide), ef 2 (by decide), ef 3 (by decide), ef 4 (by decide), ef 5 (by decide), ef 6 (by decide), ef 7 (by decide), ef 8 (by decide)]
              exact ⟨⟨z1, z2, z5, z0, z4, z8⟩, y3, y6, y7⟩
            · intro hn
              simp only [ef 6 (by decide), ef 7 (by decide), ef 8 (by decide)]
              exact b2 hn
            · intro w v hv
              rw [fsp] at hv ⊢
              exact b3 w v hv
            · unfold nmR
              simp only [ef 0 (by decide), ef 4 (by decide), ef 8 (by decide)]
              exact b4
          · dsimp only
            rw [ef t ht, p5 (9 * i + t) (by omega), s2 3 (by simp [kC])]
            exact u2 t ht
          · dsimp only
            rw [ef t (by omega), q5 (9 * i + t) (by omega), s3.1 4 (by decide)]
            exact u3 t ht
        · obtain rfl : i = ni := by omega
          have ef : ∀ t, (if 9 * i + t < 9 * i then Rv (9 * i + t) else R (9 * i + t - 9 * i)) = R t := fun t => by rw [if_neg (by omega), show 9 * i + t - 9 * i = t by omega]
          refine ⟨?_, fun t ht => ?_, fun t ht => ?_⟩
          · have : (fun t => (if 9 * i + t < 9 * i then Rv (9 * i + t) else R (9 * i + t - 9 * i))) = R := funext ef
            dsimp only
            rw [this]
            exact ⟨hm, r2, hi, a⟩
          · dsimp only
            rw [ef t, p4 t ht]; exact hR t ht
          · dsimp only
            rw [ef t, q4 t (by omega), hR' t ht, lI_iI, eqR t (by omega)]
      · intro q hq h14; exact (p3 q hq).trans (s1 q h14)
      · intro t ht; rw [p2 t ht, s1 0 (by decide)]
      · intro q hk h3; exact (p6 q h3).trans (s2 q hk)
      · intro q h1 h2; exact (q3 q h1 h2).trans (s3.1 q h1)
      · intro t h1 h2; exact (q2 t h1).trans (s3.2 t h2)
