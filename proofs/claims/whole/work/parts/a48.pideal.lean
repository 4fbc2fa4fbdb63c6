/-! prime ideals: prime numbers by trial; ways that bring an ideal to 0 -/
theorem ipF_no {p : Int} (hp : p ≤ 1000000) : ∀ (f : Nat) (q : Int), q + f = 1002 → 2 ≤ q → ipF p f q = true → ∀ d, q ≤ d → d * d ≤ p → ¬ d ∣ p := by
  intro f
  induction f with
  | zero =>
    intro q e h2 _ d hd hdd
    have : 1002 * 1002 ≤ d * d := Int.mul_le_mul (by omega) (by omega) (by omega) (by omega)
    omega
  | succ f ih =>
    intro q e h2 h d hd hdd hdv
    rw [ipF] at h
    have hqq : q * q ≤ d * d := Int.mul_le_mul hd hd (by omega) (by omega)
    rw [if_neg (by omega)] at h
    by_cases c : p % q = 0
    · rw [if_pos c] at h; exact absurd h (by decide)
    · rw [if_neg c] at h
      by_cases c2 : d = q
      · subst c2; exact c (Int.emod_eq_zero_of_dvd hdv)
      · exact ih (q + 1) (by omega) (by omega) h d (by omega) hdd hdv
theorem ipr_dvd {p : Int} (hp : p ≤ 1000000) (h : ipr p = true) : 2 ≤ p ∧ ∀ d, 0 < d → d ∣ p → d = 1 ∨ d = p := by
  simp only [ipr, Bool.and_eq_true, decide_eq_true_eq] at h
  refine ⟨h.1, fun d hd hdv => ?_⟩
  have no := ipF_no hp 1000 2 (by omega) (by omega) h.2
  obtain ⟨e, he⟩ := hdv
  have he0 : 0 < e := by
    rcases Int.lt_or_le 0 e with c | c
    · exact c
    · have := Int.mul_nonneg (show 0 ≤ d by omega) (show 0 ≤ -e by omega); rw [Int.mul_neg] at this; omega
  by_cases c : d = 1
  · exact Or.inl c
  right
  by_cases c2 : e = 1
  · rw [c2, Int.mul_one] at he; exact he.symm
  exfalso
  rcases Int.le_total d e with g | g
  · have : d * d ≤ d * e := Int.mul_le_mul_of_nonneg_left g (by omega)
    exact no d (by omega) (by omega) ⟨e, he⟩
  · have : e * e ≤ d * e := Int.mul_le_mul_of_nonneg_right g (by omega)
    exact no e (by omega) (by omega) ⟨d, by rw [he, Int.mul_comm]⟩
theorem ipF_yes {p : Int} : ∀ (f : Nat) (q : Int), (∀ d, q ≤ d → d * d ≤ p → ¬ d ∣ p) → ipF p f q = true := by
  intro f
  induction f with
  | zero => intro q _; rfl
  | succ f ih =>
    intro q h
    rw [ipF]
    by_cases c : p < q * q
    · rw [if_pos c]
    · rw [if_neg c, if_neg (fun z => h q (Int.le_refl _) (by omega) (Int.dvd_of_emod_eq_zero z))]
      exact ih _ (fun d hd => h d (by omega))
theorem ipr_of {p : Int} (h2 : 2 ≤ p) (h : ∀ d, 2 ≤ d → d < p → ¬ d ∣ p) : ipr p = true := by
  simp only [ipr, Bool.and_eq_true, decide_eq_true_eq]
  refine ⟨h2, ipF_yes _ _ (fun d hd hdd => h d hd ?_)⟩
  have : 2 * d ≤ d * d := Int.mul_le_mul_of_nonneg_right hd (by omega)
  omega
/-- the shape of an ideal that has a prime number first -/
theorem shp {n : Nat} {T R : Nat → Int} (rr : Rg n T) (h : IdR n T R) (hp : ipr (R 0) = true) : (R 4 = 1 ∨ (R 4 = R 0 ∧ R 3 = 0)) ∧ (R 8 = 1 ∨ (R 8 = R 0 ∧ R 6 = 0 ∧ R 7 = 0)) := by
  obtain ⟨hm, r2, hi, hn⟩ := h
  have b0 := (hm.bd hn 0 (by decide)).2
  obtain ⟨p2, hd⟩ := ipr_dvd b0 hp
  have w := idl_WL rr r2 hi
  obtain ⟨tr, h3, h6, h7⟩ := hm
  constructor
  · obtain ⟨i, j, e1, e2⟩ := w.w1 tr
    rcases hd (R 4) tr.2.2.2.2.1 ⟨j, by rw [e2, Int.mul_comm]⟩ with c | c
    · exact Or.inl c
    · refine Or.inr ⟨c, ?_⟩
      have j1 : j = 1 := by
        have q : R 0 = j * R 0 := by rw [c] at e2; exact e2
        exact (eq_of_mul (a := R 0) (b := R 0) (i := j) (j := 1) (by omega) (by omega) q (by omega)).2
      subst j1
      exact (eq_of_rest (x := 0) (y := R 3) (i := i) (b := R 0) (by omega) (by omega) h3.1 h3.2 (by omega)).symm
  · obtain ⟨i, j, k, e1, e2, e3⟩ := w.2.2
    dsimp only at e1 e2 e3
    rcases hd (R 8) tr.2.2.2.2.2 ⟨k, by rw [e3, Int.mul_comm]⟩ with c | c
    · exact Or.inl c
    · refine Or.inr ⟨c, ?_⟩
      have k1 : k = 1 := by
        have q : R 0 = k * R 0 := by rw [c] at e3; exact e3
        exact (eq_of_mul (a := R 0) (b := R 0) (i := k) (j := 1) (by omega) (by omega) q (by omega)).2
      subst k1
      rw [Int.one_mul] at e2
      have z := rest_zero (x := 0) (y := R 7) (i := j) (b := R 4) (by omega) tr.2.2.2.2.1 h7.1 h7.2 e2
      have z7 := eq_of_rest (x := 0) (y := R 7) (i := j) (b := R 4) (by omega) tr.2.2.2.2.1 h7.1 h7.2 e2
      subst z
      rw [Int.zero_mul, Int.one_mul, Int.add_zero] at e1
      have z6 := eq_of_rest (x := 0) (y := R 6) (i := i) (b := R 0) (by omega) (by omega) h6.1 h6.2 e1
      exact ⟨z6.symm, z7.symm⟩
/-- a way that brings the ideal to 0 -/
def KW (n : Nat) (T R : Nat → Int) : Prop := ∃ u v, (n = 2 → v = 0) ∧ wy n T (R 0) u v ∧ R 0 ∣ (R 3 + R 4 * u) ∧ (n = 3 → R 0 ∣ (R 6 + R 7 * u + R 8 * v))
theorem kw_sp {n : Nat} {R : Nat → Int} (h0 : n = 2 ∨ n = 3) (r2 : R2 n R) {u v : Int} (hv : n = 2 → v = 0) (h1 : R 0 ∣ (R 3 + R 4 * u)) (h2 : n = 3 → R 0 ∣ (R 6 + R 7 * u + R 8 * v)) : ∀ x, Sp R x → R 0 ∣ ph u v x := by
  rintro x ⟨i, j, k, e1, e2, e3⟩
  obtain ⟨a, ha⟩ := h1
  have h2' : ∃ b, R 6 + R 7 * u + R 8 * v = R 0 * b := by
    rcases h0 with h | h
    · obtain ⟨q6, q7, q8⟩ := r2 h
      exact ⟨0, by rw [q6, q7, q8, hv h]; omega⟩
    · exact h2 h
  obtain ⟨b, hb⟩ := h2'
  refine ⟨i + j * a + k * b, ?_⟩
  unfold ph
  rw [e1, e2, e3]
  grind
theorem lsV_sp {n : Nat} {R : Nat → Int} (v : V3) : Sp R (vsu v (lsV n R v)) := by
  by_cases c : n = 2
  · refine ⟨(v.1 - v.2.1 / R 4 * R 3) / R 0, v.2.1 / R 4, 0, ?_, ?_, ?_⟩ <;> simp only [vsu, lsV, c, if_true] <;> omega
  · refine ⟨(v.1 - v.2.2 / R 8 * R 6 - (v.2.1 - v.2.2 / R 8 * R 7) / R 4 * R 3) / R 0, (v.2.1 - v.2.2 / R 8 * R 7) / R 4, v.2.2 / R 8, ?_, ?_, ?_⟩ <;> simp only [vsu, lsV, c, if_false] <;> omega
theorem rt_mod {p a b u : Int} (h : p ∣ (u * u - b * u - a)) (hp : 0 < p) : ∃ x, 0 ≤ x ∧ x < p ∧ p ∣ (x * x - b * x - a) := by
  refine ⟨u % p, Int.emod_nonneg _ (by omega), Int.emod_lt_of_pos _ hp, ?_⟩
  obtain ⟨k, hk⟩ := h
  have e := Int.mul_ediv_add_emod u p
  refine ⟨k - (u / p) * (u + u % p - b), ?_⟩
  have : u % p = u - p * (u / p) := by omega
  rw [this]; grind
theorem Hm.le {R : Nat → Int} (h : Hm R) (hn : nmR R ≤ 1000000) : ∀ t, t < 9 → R t ≤ 1000000 := fun t ht => (h.bd hn t ht).2
theorem kw1_2 {T R : Nat → Int} (h : IdR 2 T R) (e4 : R 4 = R 0) (e3 : R 3 = 0) : KW 2 T R ↔ ∃ x, 0 ≤ x ∧ x < R 0 ∧ R 0 ∣ (x * x - (lsV 2 R (T 12, T 13, 0)).2.1 * x - (lsV 2 R (T 12, T 13, 0)).1) := by
  obtain ⟨hm, r2, hi, hn⟩ := h
  have p0 := hm.1.2.2.2.1
  obtain ⟨q6, q7, q8⟩ := r2 rfl
  obtain ⟨i, j, k, a1, a2, a3⟩ := lsV_sp (n := 2) (R := R) (T 12, T 13, 0)
  generalize lsV 2 R (T 12, T 13, 0) = L at a1 a2 a3 ⊢
  simp only [vsu] at a1 a2 a3
  rw [e3, q6] at a1
  rw [e4, q7] at a2
  constructor
  · rintro ⟨u, v, hv, ⟨⟨w, hw⟩, _⟩, _⟩
    simp only [if_true] at hw
    refine rt_mod (u := u) ⟨i + j * u - w, ?_⟩ p0
    grind
  · rintro ⟨x, _, _, ⟨w, hw⟩⟩
    refine ⟨x, 0, fun _ => rfl, ⟨⟨i + j * x - w, ?_⟩, fun h => absurd h (by decide)⟩, ⟨x, by rw [e3, e4]; omega⟩, fun h => absurd h (by decide)⟩
    simp only [if_true]
    grind
theorem kw_g {p r6 r7 x l0 l1 w y y1 y2 t2 t3 t4 t5 t6 t7 t8 t9 t0 : Int} (hw : x * x - l1 * x - l0 = p * w) (hy : t2 - l0 + (t3 - l1) * x + (t4 - 0) * (-r6 - r7 * x) = p * y) (hy1 : r7 * t2 + t5 + (r6 + r7 * t3 + t6) * x + (r7 * t4 + t7) * (-r6 - r7 * x) = p * y1) (hy2 : r7 * t5 + t8 + (r7 * t6 + t9) * x + (r6 + r7 * t7 + t0) * (-r6 - r7 * x) = p * y2) : t2 + t3 * x + t4 * (-r6 - r7 * x) - x * x = p * (y - w) ∧ t5 + t6 * x + t7 * (-r6 - r7 * x) - x * (-r6 - r7 * x) = p * (y1 - r7 * (y - w)) ∧ t8 + t9 * x + t0 * (-r6 - r7 * x) - (-r6 - r7 * x) * (-r6 - r7 * x) = p * (y2 - r7 * (y1 - r7 * (y - w))) := by
  have e1 : t2 + t3 * x + t4 * (-r6 - r7 * x) - x * x = p * (y - w) := by
    rw [Int.mul_sub p y w, ← hy, ← hw]; clear hw hy hy1 hy2; grind
  have e2 : t5 + t6 * x + t7 * (-r6 - r7 * x) - x * (-r6 - r7 * x) = p * (y1 - r7 * (y - w)) := by
    have : p * (y1 - r7 * (y - w)) = p * y1 - r7 * (p * (y - w)) := by clear hw hy hy1 hy2 e1; grind
    rw [this, ← e1, ← hy1]; clear hw hy hy1 hy2 e1 this; grind
  refine ⟨e1, e2, ?_⟩
  have : p * (y2 - r7 * (y1 - r7 * (y - w))) = p * y2 - r7 * (p * (y1 - r7 * (y - w))) := by clear hw hy hy1 hy2 e1 e2; grind
  rw [this, ← e2, ← hy2]; clear hw hy hy1 hy2 e1 e2 this; grind
theorem kw1_3 {T R : Nat → Int} (rr : Rg 3 T) (h : IdR 3 T R) (e4 : R 4 = R 0) (e3 : R 3 = 0) (e8 : R 8 = 1) : KW 3 T R ↔ ∃ x, 0 ≤ x ∧ x < R 0 ∧ R 0 ∣ (x * x - (lsV 3 R (T 12, T 13, T 14)).2.1 * x - (lsV 3 R (T 12, T 13, T 14)).1) := by
  obtain ⟨hm, r2, hi, hn⟩ := h
  have p0 := hm.1.2.2.2.1
  have hl := lsV_bd (Or.inr rfl) hm.1 (hm.le hn) (T 12, T 13, T 14) 2 (by decide)
  have hs := lsV_sp (n := 3) (R := R) (T 12, T 13, T 14)
  generalize lsV 3 R (T 12, T 13, T 14) = L at hl hs ⊢
  have l2 : L.2.2 = 0 := by
    have a : 0 ≤ L.2.2 := hl.1
    have b : L.2.2 < R 8 := hl.2
    omega
  obtain ⟨s, rfl, _⟩ := (rr.resolve_left (fun q => absurd q.1 (by decide))).2
  have hA : Sp R (R 6, R 7, R 8) := (Sp_in R).2.2
  have h1 := hi (0, 1, 0) _ hA
  have h2 := hi (0, 0, 1) _ hA
  constructor
  · rintro ⟨u, v, hv, ⟨⟨w, hw⟩, _⟩, k1, k2⟩
    obtain ⟨y, hy⟩ := kw_sp (Or.inr rfl) r2 hv k1 k2 _ hs
    simp only [vsu, ph] at hy
    refine rt_mod (u := u) ⟨y - w, ?_⟩ p0
    rw [if_neg (by decide)] at hw
    rw [l2] at hy
    grind
  · rintro ⟨x, _, _, ⟨w, hw⟩⟩
    have k1 : R 0 ∣ (R 3 + R 4 * x) := ⟨x, by rw [e3, e4]; omega⟩
    have k2 : (3 : Nat) = 3 → R 0 ∣ (R 6 + R 7 * x + R 8 * (-R 6 - R 7 * x)) := fun _ => ⟨0, by rw [e8]; omega⟩
    have K := kw_sp (n := 3) (Or.inr rfl) r2 (fun h => absurd h (by decide)) k1 k2
    obtain ⟨y, hy⟩ := K _ hs
    obtain ⟨y1, hy1⟩ := K _ h1
    obtain ⟨y2, hy2⟩ := K _ h2
    simp only [vsu, ph] at hy
    simp only [muv, mu3, ph, idx9] at hy1 hy2
    rw [l2] at hy
    simp only [Int.zero_mul, Int.mul_zero, Int.one_mul, Int.zero_add, Int.add_zero, e8, Int.mul_one] at hy1 hy2
    have hn3 : ¬ ((3 : Nat) = 2) := by decide
    simp only [hn3, if_false, Int.zero_add, Int.add_zero, Int.one_mul, Int.mul_one] at hy1 hy2
    refine ⟨x, -R 6 - R 7 * x, fun h => absurd h (by decide), ⟨⟨y - w, ?_⟩, fun _ => ⟨⟨y1 - R 7 * (y - w), ?_⟩, ⟨y2 - R 7 * (y1 - R 7 * (y - w)), ?_⟩⟩⟩, k1, k2⟩
    · rw [if_neg (by decide)]; exact (kw_g hw hy hy1 hy2).1
    · exact (kw_g hw hy hy1 hy2).2.1
    · exact (kw_g hw hy hy1 hy2).2.2
theorem kw2_3 {T R : Nat → Int} (rr : Rg 3 T) (h : IdR 3 T R) (e4 : R 4 = 1) (e8 : R 8 = R 0) (e6 : R 6 = 0) (e7 : R 7 = 0) : KW 3 T R ↔ ∃ x, 0 ≤ x ∧ x < R 0 ∧ R 0 ∣ (x * x - (lsV 3 R (T 24, T 25, T 26)).2.2 * x - (lsV 3 R (T 24, T 25, T 26)).1) := by
  obtain ⟨hm, r2, hi, hn⟩ := h
  have p0 := hm.1.2.2.2.1
  have hl := lsV_bd (Or.inr rfl) hm.1 (hm.le hn) (T 24, T 25, T 26) 1 (by decide)
  have hs := lsV_sp (n := 3) (R := R) (T 24, T 25, T 26)
  generalize lsV 3 R (T 24, T 25, T 26) = L at hl hs ⊢
  have l1 : L.2.1 = 0 := by
    have a : 0 ≤ L.2.1 := hl.1
    have b : L.2.1 < R 4 := hl.2
    omega
  obtain ⟨s, rfl, _⟩ := (rr.resolve_left (fun q => absurd q.1 (by decide))).2
  have hA : Sp R (R 3, R 4, 0) := (Sp_in R).2.1
  have h1 := hi (0, 1, 0) _ hA
  have h2 := hi (0, 0, 1) _ hA
  constructor
  · rintro ⟨u, v, hv, ⟨_, hw⟩, k1, k2⟩
    obtain ⟨_, ⟨w, hw⟩⟩ := hw rfl
    obtain ⟨y, hy⟩ := kw_sp (Or.inr rfl) r2 hv k1 k2 _ hs
    simp only [vsu, ph] at hy
    refine rt_mod (u := v) ⟨y - w, ?_⟩ p0
    rw [l1] at hy
    grind
  · rintro ⟨x, _, _, ⟨w, hw⟩⟩
    have k1 : R 0 ∣ (R 3 + R 4 * (-R 3)) := ⟨0, by rw [e4]; omega⟩
    have k2 : (3 : Nat) = 3 → R 0 ∣ (R 6 + R 7 * (-R 3) + R 8 * x) := fun _ => ⟨x, by rw [e6, e7, e8]; omega⟩
    have K := kw_sp (n := 3) (Or.inr rfl) r2 (fun h => absurd h (by decide)) k1 k2
    obtain ⟨y, hy⟩ := K _ hs
    obtain ⟨y1, hy1⟩ := K _ h1
    obtain ⟨y2, hy2⟩ := K _ h2
    simp only [vsu, ph] at hy
    simp only [muv, mu3, ph, idx9] at hy1 hy2
    rw [l1] at hy
    have hn3 : ¬ ((3 : Nat) = 2) := by decide
    simp only [hn3, if_false, Int.zero_mul, Int.mul_zero, Int.one_mul, Int.zero_add, Int.add_zero, e4, Int.mul_one] at hy1 hy2
    refine ⟨-R 3, x, fun h => absurd h (by decide), ⟨⟨y1, ?_⟩, fun _ => ⟨⟨y2, ?_⟩, ⟨y - w, ?_⟩⟩⟩, k1, k2⟩
    · rw [if_neg (by decide)]; grind
    · grind
    · grind
/-- a prime ideal -/
def PId (n : Nat) (T R : Nat → Int) : Prop := ipr (R 0) = true ∧ (nmR R = R 0 ∨ ¬ KW n T R)
