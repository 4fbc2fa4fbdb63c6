theorem abv_congr {n : Nat} (h0 : n = 2 ∨ n = 3) {m m' X X' : Nat → Int64} (hm : ∀ j k, j < n → k < n → m (3 * j + k) = m' (3 * j + k)) (hX : ∀ c, c < n → X c = X' c) (j : Nat) : abv n j m X = abv n j m' X' := by
  unfold abv
  refine nrV_congr h0 (fun u v hu hv => ?_) 0
  unfold rpl
  by_cases hh : (3 * u + v) / 3 = j
  · rw [if_pos hh, if_pos hh, show (3 * u + v) % 3 = v by omega]; exact hX v hv
  · rw [if_neg hh, if_neg hh]; exact hm u v hu hv
theorem mtx_cg {n : Nat} (h0 : n = 2 ∨ n = 3) {Y Y' T T' : Nat → Int64} (hY : ∀ c, c < n → Y c = Y' c) (hT : ∀ i u v, i < n → u < n → v < 3 → T (9 * i + 3 * u + v) = T' (9 * i + 3 * u + v)) : ∀ u v, u < n → v < n → mtx n Y T (3 * u + v) = mtx n Y' T' (3 * u + v) := by
  intro u v hu hv
  refine mtx_congr h0 hY (fun i hi => ?_)
  rw [← Nat.add_assoc]; exact hT i u v hi hu (by omega)
theorem dvO_congr {n : Nat} (h0 : n = 2 ∨ n = 3) {X X' Y Y' T T' : Nat → Int64} (hX : ∀ c, c < n → X c = X' c) (hY : ∀ c, c < n → Y c = Y' c) (hT : ∀ i u v, i < n → u < n → v < 3 → T (9 * i + 3 * u + v) = T' (9 * i + 3 * u + v)) : dvO n X Y T ↔ dvO n X' Y' T' := by
  have hm := mtx_cg h0 hY hT
  unfold dvO
  rw [nrV_congr h0 hm 0, abv_congr h0 hm hX 0, abv_congr h0 hm hX 1, abv_congr h0 hm hX 2]
theorem mkV_congr {n w : Nat} (h0 : n = 2 ∨ n = 3) {X X' Y Y' T T' : Nat → Int64} (hX : ∀ c, c < 3 → X c = X' c) (hY : ∀ c, c < 3 → Y c = Y' c) (hT : ∀ i u v, i < n → u < n → v < 3 → T (9 * i + 3 * u + v) = T' (9 * i + 3 * u + v)) {c : Nat} (hc : c < 3) : mkV n w X Y T c = mkV n w X' Y' T' c := by
  have hX' : ∀ c, c < n → X c = X' c := fun c h => hX c (by omega)
  have hY' : ∀ c, c < n → Y c = Y' c := fun c h => hY c (by omega)
  have hm := mtx_cg h0 hY' hT
  match w with
  | 0 => show X c + Y c = X' c + Y' c; rw [hX c hc, hY c hc]
  | 1 => show X c - Y c = X' c - Y' c; rw [hX c hc, hY c hc]
  | 2 =>
    show (if n = 2 then pr2 X Y T c else pr3 X Y T c) = if n = 2 then pr2 X' Y' T' c else pr3 X' Y' T' c
    rcases h0 with rfl | rfl
    · rw [if_pos rfl, if_pos rfl]
      have t0 : T 0 = T' 0 := hT 0 0 0 (by decide) (by decide) (by decide)
      have t1 : T 1 = T' 1 := hT 0 0 1 (by decide) (by decide) (by decide)
      have t3 : T 3 = T' 3 := hT 0 1 0 (by decide) (by decide) (by decide)
      have t4 : T 4 = T' 4 := hT 0 1 1 (by decide) (by decide) (by decide)
      have t9 : T 9 = T' 9 := hT 1 0 0 (by decide) (by decide) (by decide)
      have t10 : T 10 = T' 10 := hT 1 0 1 (by decide) (by decide) (by decide)
      have t12 : T 12 = T' 12 := hT 1 1 0 (by decide) (by decide) (by decide)
      have t13 : T 13 = T' 13 := hT 1 1 1 (by decide) (by decide) (by decide)
      rcases below3 hc with rfl | rfl | rfl
      · show 0 + X 0 * Y 0 * T 0 + X 0 * Y 1 * T 3 + X 1 * Y 0 * T 9 + X 1 * Y 1 * T 12 = _
        rw [hX 0 (by decide), hX 1 (by decide), hY 0 (by decide), hY 1 (by decide), t0, t3, t9, t12]; rfl
      · show 0 + X 0 * Y 0 * T 1 + X 0 * Y 1 * T 4 + X 1 * Y 0 * T 10 + X 1 * Y 1 * T 13 = _
        rw [hX 0 (by decide), hX 1 (by decide), hY 0 (by decide), hY 1 (by decide), t1, t4, t10, t13]; rfl
      · rfl
    · rw [if_neg (by decide), if_neg (by decide)]
      refine pr3_congr hc hX hY (fun t ht => ?_)
      have := hT (t / 9) (t % 9 / 3) (t % 3) (by omega) (by omega) (by omega)
      rw [show 9 * (t / 9) + 3 * (t % 9 / 3) + t % 3 = t by omega] at this
      exact this
  | w + 3 =>
    show (if n = 2 ∧ c = 2 then 0 else abv n c (mtx n Y T) X / nrV n (mtx n Y T) 0) = if n = 2 ∧ c = 2 then 0 else abv n c (mtx n Y' T') X' / nrV n (mtx n Y' T') 0
    rw [nrV_congr h0 hm 0, abv_congr h0 hm hX' c]
section SM
variable {l0 : Launch} {D : va_G} {aI aL : ClassId} {ad ad' : Nat → Nat} {I I' : sa_I} {J J' : sa_J} {N : sa_I → sa_J → sa_I → sa_J → Prop} {a1 a2 a3 : Int32} {n ne ni : Nat} {h d k l e Di dd : Int} {T Ev Rv : Nat → Int}
/-- what a step needs of the relation for elements -/
def Nel (n ne : Nat) (N : sa_I → sa_J → sa_I → sa_J → Prop) (I : sa_I) (J : sa_J) (I' : sa_I) (J' : sa_J) : Prop :=
  (∀ I1 J1 I2 J2, SCI I I1 → SC J J1 → SRI I' I2 → SR J' J2 → N I1 J1 I2 J2) ∧
  (∀ j I1 J1 I2 J2, SCI I I1 → SC J J1 → SRI I' I2 → SR J' J2 → N (rf I1 j) J1 (rf I2 j) J2) ∧
  (∀ Ev' I3 J3 I4 J4, ElS n (ne + 1) Ev' I3 J3 I4 → (∀ q, q ≠ 0 → I3 q = I q) → (∀ t, t ≠ 8 → I3 0 t = I 0 t) → (∀ q, kC q → q ≠ 2 → J3 q = J q) → (∀ q, q ≠ 0 → q ≠ 3 → I4 q = I' q) → (∀ t, t ≠ 13 → I4 0 t = I' 0 t) → SR J' J4 → N I3 J3 I4 J4)
theorem st_make (F : Fld n h d k l e Di dd T) (hc : clS n h d k l e Di dd T I J) (hr : rfS n h d k l e Di dd T I' J') (HE : ElS n ne Ev I J I') (hN : Nel n ne N I J I' J') : la_Step l0 D aI aL ad ad' N 7 a1 a2 a3 I J I' J' := by
  obtain ⟨w, hw, rfl⟩ := iI_of a1
  obtain ⟨x, hx, rfl⟩ := iI_of a2
  obtain ⟨y, hy, rfl⟩ := iI_of a3
  have h0 := F.1
  have hT6 : ∀ t, t < 27 → J 8 t = lI (T t) := hc.2.2.2.2.2.2
  have hT7 := hr.2.2.2.2.2.2.2.2
  have hT : ∀ i u v, i < n → u < n → v < 3 → J 8 (9 * i + 3 * u + v) = J' 2 (9 * i + 3 * u + v) := fun i u v h1 h2 h3 => by rw [hT6 _ (by omega), hT7 i u v h1 h2 h3]
  have el : ∀ i, i < ne → ∀ c, c < 3 → J 2 (3 * i + c) = (I' 3 (3 * i + c)).toInt64 := by
    intro i hi c hc
    obtain ⟨g1, g2, g3⟩ := HE.2.2.2.1 (3 * i + c) (by omega)
    rw [g1, g2, iI_lI (bd_i g3 (by decide))]
  have z3 : n = 3 → ∃ s : Nat → Int, asc (s 0) (s 1) (s 2) (s 3) (s 4) (s 5) (s 6) (s 7) (s 8) = true ∧ ∀ t, t < 27 → J' 2 t = lI (T3 s t) := by
    intro hn
    obtain ⟨s, hs, _, ha⟩ := F.2.2.2.2.2.2 hn
    refine ⟨s, ha, fun t ht => ?_⟩
    have := hT7 (t / 9) (t % 9 / 3) (t % 3) (by omega) (by omega) (by omega)
    rw [show 9 * (t / 9) + 3 * (t % 9 / 3) + t % 3 = t by omega, hs] at this
    exact this
  have z2 : n = 2 → J' 2 0 = 1 ∧ J' 2 1 = 0 ∧ J' 2 3 = 0 ∧ J' 2 4 = 1 ∧ J' 2 9 = 0 ∧ J' 2 10 = 1 := by
    intro hn
    obtain ⟨_, _, _, p, q, hs, _⟩ := F.2.2.2.2.2.1 hn
    subst hn
    rw [hs] at hT7
    exact ⟨hT7 0 0 0 (by decide) (by decide) (by decide), hT7 0 0 1 (by decide) (by decide) (by decide), hT7 0 1 0 (by decide) (by decide) (by decide), hT7 0 1 1 (by decide) (by decide) (by decide), hT7 1 0 0 (by decide) (by decide) (by decide), hT7 1 0 1 (by decide) (by decide) (by decide)⟩
  refine ⟨_, _, c_make6 hc.1 h0 HE.2.1 HE.1 hw hx hy, c_make7 hr.1 h0 HE.2.2.1 HE.1 z3 z2 hw hx hy, fun r1 I1 J1 r2 I2 J2 p q => ?_⟩
  unfold mkC at p
  unfold mkR at q
  by_cases cxy : (0 ≤ x ∧ x < ne) ∧ 0 ≤ y ∧ y < ne
  rotate_left
  · rw [if_neg cxy] at p q
    obtain ⟨rfl, rfl, rfl⟩ := p
    obtain ⟨rfl, rfl, rfl⟩ := q
    exact ⟨⟨_, rfl, rfl⟩, hN.2.1 1 _ _ _ _ SCI.rfl' SC.rfl' SRI.rfl' SR.rfl'⟩
  rw [if_pos cxy] at p q
  by_cases cw : 0 ≤ w ∧ w ≤ 3
  rotate_left
  · rw [if_neg cw] at p q
    obtain ⟨rfl, rfl, rfl⟩ := p
    obtain ⟨rfl, rfl, rfl⟩ := q
    exact ⟨⟨_, rfl, rfl⟩, hN.2.1 2 _ _ _ _ SCI.rfl' SC.rfl' SRI.rfl' SR.rfl'⟩
  rw [if_pos cw] at p q
  have eX := el x.toNat (by omega)
  have eY := el y.toNat (by omega)
  have eD := dvO_congr (X := fun c => J 2 (3 * x.toNat + c)) (X' := fun c => (I' 3 (3 * x.toNat + c)).toInt64) (Y := fun c => J 2 (3 * y.toNat + c)) (Y' := fun c => (I' 3 (3 * y.toNat + c)).toInt64) h0 (fun c h => eX c (by omega)) (fun c h => eY c (by omega)) hT
  obtain ⟨Jw, fw, p⟩ := p
  obtain ⟨Jv, fv, q⟩ := q
  have sw : SC J Jw := SC.of (fun q h9 h10 _ _ _ _ _ _ _ => fw q h9 h10)
  have sv : SR J' Jv := SR.of (fun q h9 h10 h11 h12 _ _ _ _ _ => fv q h9 h10 h11 h12)
  rcases p with ⟨p1, p2, rfl, rfl, rfl⟩ | ⟨p1, p2, p3⟩
  · rcases q with ⟨_, _, rfl, rfl, rfl⟩ | ⟨q1, _⟩
    · exact ⟨⟨_, rfl, rfl⟩, hN.2.1 3 _ _ _ _ SCI.rfl' sw SRI.rfl' sv⟩
    · exact absurd (eD.mpr (q1 p1)) p2
  · rcases q with ⟨q1, q2, _⟩ | ⟨_, q2, q3⟩
    · exact absurd (eD.mp (p1 q1)) q2
    · have eV : ∀ c, c < 3 → Jw 9 c = Jv 12 c := fun c hcc => by
        rw [p2 c hcc, q2 c hcc]
        exact mkV_congr (X := fun c => J 2 (3 * x.toNat + c)) (X' := fun c => (I' 3 (3 * x.toNat + c)).toInt64) (Y := fun c => J 2 (3 * y.toNat + c)) (Y' := fun c => (I' 3 (3 * y.toNat + c)).toInt64) h0 eX eY hT hcc
      rw [← eV 0 (by decide), ← eV 1 (by decide), ← eV 2 (by decide)] at q3
      refine ke_two HE (sw 2 (by simp [kC])) ⟨rfl, rfl, rfl⟩ (fun hn => ?_) p3 q3 (hN.2.1 4 _ _ _ _ SCI.rfl' sw SRI.rfl' sv) (hN.2.1 6 _ _ _ _ SCI.rfl' sw SRI.rfl' sv) (fun Ev' I3 J3 I4 z1 z2 z3 z4 z5 z6 => hN.2.2 Ev' I3 J3 I4 _ z1 z2 z3 (fun q hk h2 => (z4 q h2).trans (sw q hk)) z5 z6 sv)
      -- the third place for degree 2
      rw [p2 2 (by decide)]
      have ev2 : ∀ i, i < ne → J 2 (3 * i + 2) = 0 := fun i hi => by rw [(HE.2.2.2.1 (3 * i + 2) (by omega)).1, HE.2.2.2.2 hn i hi]; rfl
      have hw4 : w = 0 ∨ w = 1 ∨ w = 2 ∨ w = 3 := by omega
      rcases hw4 with rfl | rfl | rfl | rfl
      · show J 2 (3 * x.toNat + 2) + J 2 (3 * y.toNat + 2) = 0
        rw [ev2 _ (by omega), ev2 _ (by omega)]; rfl
      · show J 2 (3 * x.toNat + 2) - J 2 (3 * y.toNat + 2) = 0
        rw [ev2 _ (by omega), ev2 _ (by omega)]; rfl
      · show (if n = 2 then _ else _) = _
        rw [if_pos hn]; rfl
      · show (if n = 2 ∧ 2 = 2 then _ else _) = _
        rw [if_pos ⟨hn, rfl⟩]
end SM
