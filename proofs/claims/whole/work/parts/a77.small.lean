/-! the small ideal of a form -/
def smE (y : Int) (f : F3) : Int := (f.2.1 - y).tdiv 2 % f.1
theorem smI_sp {a e : Int} {v : V3} : Sp (smI a e) v ↔ a ∣ (v.1 - v.2.1 * e) := by
  constructor
  · rintro ⟨i, j, k, e1, e2, e3⟩
    have e1 : v.1 = i * a + j * e + k * 0 := e1
    have e2 : v.2.1 = j * 1 + k * 0 := e2
    have ej : j = v.2.1 := by omega
    exact ⟨i, by rw [e1, ← ej, Int.mul_comm a i]; omega⟩
  · rintro ⟨i, hi⟩
    exact ⟨i, v.2.1, v.2.2, by show v.1 = i * a + v.2.1 * e + v.2.2 * 0; rw [Int.mul_comm i a]; omega, by show v.2.1 = v.2.1 * 1 + v.2.2 * 0; omega, by show v.2.2 = v.2.2 * 1; omega⟩
theorem smI_idr {x y a e : Int} (ha : 0 < a) (ha2 : a ≤ 1000000) (e0 : 0 ≤ e) (e1 : e < a) (h : a ∣ (e * e + e * y - x)) : IdR 2 (T2 x y) (smI a e) := by
  refine ⟨⟨⟨rfl, rfl, rfl, ha, by show (0 : Int) < 1; decide, by show (0 : Int) < 1; decide⟩, ⟨e0, e1⟩, ⟨by show (0 : Int) ≤ 0; decide, ha⟩, by show (0 : Int) ≤ 0; decide, by show (0 : Int) < 1; decide⟩, fun _ => ⟨rfl, rfl, rfl⟩, fun w v s => ?_, by show a * 1 * 1 ≤ 1000000; omega⟩
  rw [smI_sp] at s ⊢
  rw [muv2]
  obtain ⟨p, hp⟩ := s
  obtain ⟨q, hq⟩ := h
  show a ∣ (w.1 * v.1 + w.2.1 * v.2.1 * x - (w.1 * v.2.1 + w.2.1 * v.1 + w.2.1 * v.2.1 * y) * e)
  refine ⟨w.1 * p - w.2.1 * p * e - w.2.1 * v.2.1 * q, ?_⟩
  have e2 : w.1 * v.1 + w.2.1 * v.2.1 * x - (w.1 * v.2.1 + w.2.1 * v.1 + w.2.1 * v.2.1 * y) * e = w.1 * (v.1 - v.2.1 * e) - w.2.1 * (v.1 - v.2.1 * e) * e - w.2.1 * v.2.1 * (e * e + e * y - x) := by grind
  rw [e2, hp, hq]; grind
theorem par_eq {y b D x : Int} (hD : D = y * y + 4 * x) {a c : Int} (h : b * b - 4 * a * c = D) : ∃ k, b - y = 2 * k := by
  have e : (b - y) * (b + y) = 4 * (a * c + x) := by
    have : (b - y) * (b + y) = b * b - y * y := by grind
    rw [this]
    have e4 : 4 * a * c = 4 * (a * c) := by rw [Int.mul_assoc]
    omega
  rcases Int.emod_two_eq (b - y) with z | z
  · exact ⟨(b - y) / 2, by omega⟩
  · exfalso
    have z2 : (b + y) % 2 = 1 := by omega
    have : ((b - y) * (b + y)) % 2 = 1 := by rw [Int.mul_emod, z, z2]; rfl
    omega
/-- the ideal of a form with a above 0 -/
theorem smE_of {y x : Int} {f : F3} (h : FI (y * y + 4 * x) f) (ha : 0 < f.1) : (0 ≤ smE y f ∧ smE y f < f.1) ∧ f.1 ∣ (smE y f * smE y f + smE y f * y - x) ∧ ∃ k, 2 * smE y f + y = f.2.1 + 2 * f.1 * k := by
  obtain ⟨k, hk⟩ := par_eq rfl h.1
  have t : (f.2.1 - y).tdiv 2 = k := by rw [hk]; exact Int.mul_tdiv_cancel_left _ (by decide)
  have e := Int.mul_ediv_add_emod k f.1
  unfold smE
  rw [t]
  refine ⟨⟨Int.emod_nonneg _ (by omega), Int.emod_lt_of_pos _ ha⟩, ?_, -(k / f.1), ?_⟩
  · have hc := h.1
    have ek : k % f.1 = k - f.1 * (k / f.1) := by omega
    rw [ek]
    generalize k / f.1 = q
    refine ⟨f.2.2 - 2 * k * q + f.1 * q * q - q * y, ?_⟩
    have eb : f.2.1 = 2 * k + y := by omega
    rw [eb] at hc
    have e2 : 4 * (k * k + k * y - x) = 4 * (f.1 * f.2.2) := by
      have e3 : (2 * k + y) * (2 * k + y) = 4 * (k * k + k * y) + y * y := by grind
      have e4 : 4 * f.1 * f.2.2 = 4 * (f.1 * f.2.2) := by rw [Int.mul_assoc]
      rw [e3, e4] at hc
      omega
    have e5 : k * k + k * y - x = f.1 * f.2.2 := by omega
    have e6 : (k - f.1 * q) * (k - f.1 * q) + (k - f.1 * q) * y - x = (k * k + k * y - x) + f.1 * (f.1 * q * q - 2 * k * q - q * y) := by grind
    rw [e6, e5]; grind
  · have : 2 * f.1 * -(k / f.1) = -(2 * (f.1 * (k / f.1))) := by grind
    rw [this]; omega
