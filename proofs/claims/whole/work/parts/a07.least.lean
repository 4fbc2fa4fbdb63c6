/-- the class's memory, but for what every call lays anew -/
def kC (q : Nat) : Prop := q = 2 ∨ q = 3 ∨ q = 4 ∨ q = 6 ∨ q = 7 ∨ q = 8 ∨ q = 24 ∨ q = 27 ∨ q = 26
def SC (J J1 : sa_J) : Prop := ∀ q, kC q → J1 q = J q
def SCI (I I1 : sa_I) : Prop := ∀ q, q ≠ 14 → I1 q = I q
def SR (J J1 : sa_J) : Prop := (∀ q, q = 2 ∨ q = 18 → J1 q = J q) ∧ ∀ t, t < 42 → J1 0 t = J 0 t
def SRI (I I1 : sa_I) : Prop := (∀ q, q ≠ 0 → I1 q = I q) ∧ ∀ t, t ≠ 27 → I1 0 t = I 0 t
theorem SC.rfl' {J : sa_J} : SC J J := fun _ _ => rfl
theorem SCI.rfl' {I : sa_I} : SCI I I := fun _ _ => rfl
theorem SR.rfl' {J : sa_J} : SR J J := ⟨fun _ _ => rfl, fun _ _ => rfl⟩
theorem SRI.rfl' {I : sa_I} : SRI I I := ⟨fun _ _ => rfl, fun _ _ => rfl⟩
theorem SC.tr {J J1 J2 : sa_J} (h : SC J J1) (g : SC J1 J2) : SC J J2 := fun q k => (g q k).trans (h q k)
theorem SCI.tr {I I1 I2 : sa_I} (h : SCI I I1) (g : SCI I1 I2) : SCI I I2 := fun q k => (g q k).trans (h q k)
theorem SR.tr {J J1 J2 : sa_J} (h : SR J J1) (g : SR J1 J2) : SR J J2 := ⟨fun q k => (g.1 q k).trans (h.1 q k), fun t k => (g.2 t k).trans (h.2 t k)⟩
theorem SRI.tr {I I1 I2 : sa_I} (h : SRI I I1) (g : SRI I1 I2) : SRI I I2 := ⟨fun q k => (g.1 q k).trans (h.1 q k), fun t k => (g.2 t k).trans (h.2 t k)⟩
theorem SC.of {J J1 : sa_J} (h : ∀ q, q ≠ 9 → q ≠ 10 → q ≠ 14 → q ≠ 15 → q ≠ 16 → q ≠ 17 → q ≠ 18 → q ≠ 19 → q ≠ 20 → J1 q = J q) : SC J J1 := fun q k => by
  rcases k with rfl | rfl | rfl | rfl | rfl | rfl | rfl | rfl | rfl <;> exact h _ (by decide) (by decide) (by decide) (by decide) (by decide) (by decide) (by decide) (by decide) (by decide)
theorem SR.of {J J1 : sa_J} (h : ∀ q, q ≠ 9 → q ≠ 10 → q ≠ 11 → q ≠ 12 → q ≠ 13 → q ≠ 14 → q ≠ 15 → q ≠ 16 → q ≠ 17 → J1 q = J q) : SR J J1 := ⟨fun q k => by
  rcases k with rfl | rfl <;> exact h _ (by decide) (by decide) (by decide) (by decide) (by decide) (by decide) (by decide) (by decide) (by decide), fun t _ => by rw [h 0 (by decide) (by decide) (by decide) (by decide) (by decide) (by decide) (by decide) (by decide) (by decide)]⟩
/-- all multiples of m -/
def smR (n : Nat) (m : Int) (t : Nat) : Int := match t with
  | 0 => m | 4 => m | 8 => if n = 2 then 1 else m | _ => 0
theorem smR_Hm {n : Nat} {m : Int} (h : 0 < m) : Hm (smR n m) := by
  have h8 : 0 < smR n m 8 := by show 0 < if n = 2 then 1 else m; by_cases c : n = 2 <;> simp [c]; exact h
  exact ⟨⟨rfl, rfl, rfl, h, h, h8⟩, ⟨Int.le_refl 0, h⟩, ⟨Int.le_refl 0, h⟩, Int.le_refl 0, h⟩
theorem smR_WL {n : Nat} {m : Int} : WL (smR n m) m := by
  refine ⟨⟨1, 0, 0, by simp [smR], by simp [smR], by simp⟩, ⟨0, 1, 0, by simp [smR], by simp [smR], by simp⟩, ?_⟩
  by_cases c : n = 2
  · exact ⟨0, 0, m, by simp [smR], by simp [smR], by simp [smR, c]⟩
  · exact ⟨0, 0, 1, by simp [smR], by simp [smR], by simp [smR, c]⟩
theorem smR_bd {n : Nat} {m : Int} (h : 0 < m) : ∀ t, t < 9 → 0 ≤ smR n m t ∧ smR n m t ≤ m := by
  intro t ht
  rcases below9 ht with rfl | rfl | rfl | rfl | rfl | rfl | rfl | rfl | rfl <;> simp only [smR] <;> (try (by_cases c : n = 2 <;> simp [c])) <;> omega
section LE
variable {l : Launch} {D : va_G} {aI aL : ClassId} {ad : Nat → Nat} {P : sa_P} {I : sa_I} {J : sa_J}
theorem c_includeN {n : Nat} (h0 : n = 2 ∨ n = 3) {W : Int} {R : Nat → Int} {v : V3} {a1 q1 n1 p : Nat} (hL : LatS n W R I J) (hq1 : sa_iJ (EC l D aI aL ad) a1 q1 n1) (hn1 : n1 < 2 ^ 31) (hb : p + n ≤ n1) (hz : q1 ≠ 16) (hv : ∀ j, j < n → J q1 (p + j) = lI (vk v j) ∧ rg (vk v j)) : Con (EC l D aI aL ad) M_X3_include yX3_include [.ref (ad 14), .ref a1, .int (nI p)] I J (fun r I1 J1 => r = none ∧ I1 = I ∧ (∀ q, q ≠ 15 → q ≠ 16 → J1 q = J q) ∧ ∃ R', LatS n W R' I1 J1 ∧ ∀ H, Grp H → (In3 H R' ↔ (In3 H R ∧ H v))) := by
  rcases h0 with rfl | rfl
  · exact c_include2 hL hq1 hn1 hb hz hv
  · exact c_include3 hL hq1 hn1 hb hz hv
/-- settled rows: those of a lattice in Hermite's form -/
def LatH (n : Nat) (W : Int) (R : Nat → Int) (J : sa_J) : Prop := (∀ t, t < 9 → J 15 t = lI (R t) ∧ 0 ≤ R t ∧ R t ≤ W) ∧ Hm R ∧ R2 n R
theorem setR_bd {n : Nat} {W : Int} {R : Nat → Int} (hR : ∀ t, t < 9 → 0 ≤ R t ∧ R t ≤ W) (h : Hm (setR n R)) : ∀ t, t < 9 → 0 ≤ setR n R t ∧ setR n R t ≤ W := by
  obtain ⟨⟨y1, y2, y5, y0, y4, y8⟩, x3, x6, x7⟩ := h
  have d0 : setR n R 0 ≤ W := (hR 0 (by decide)).2
  have d4 : setR n R 4 ≤ W := (hR 4 (by decide)).2
  have d8 : setR n R 8 ≤ W := (hR 8 (by decide)).2
  intro t ht
  rcases below9 ht with rfl | rfl | rfl | rfl | rfl | rfl | rfl | rfl | rfl <;> constructor <;> omega
theorem c_settleN {n : Nat} (h0 : n = 2 ∨ n = 3) {W : Int} {R : Nat → Int} (hL : LatS n W R I J) : Con (EC l D aI aL ad) M_X3_settle yX3_settle [.ref (ad 14)] I J (fun r I1 J1 => r = none ∧ I1 = I ∧ (∀ q, q ≠ 15 → J1 q = J q) ∧ ∃ R', LatH n W R' J1 ∧ Alike R R') := by
  have hR := hL.2.2.1
  have hT := hL.2.2.2.1
  have h2 := hL.2.2.2.2.2.2.2
  obtain ⟨sH, sA⟩ := setR_ok (n := n) hT (fun h => ⟨(h2 h).1, (h2 h).2.1⟩)
  have r2 : R2 n (setR n R) := by
    intro h
    obtain ⟨a, b, c⟩ := h2 h
    exact ⟨by show (if n = 2 then R 6 else _) = 0; rw [if_pos h, a], by show (if n = 2 then R 7 else _) = 0; rw [if_pos h, b], c⟩
  have hb := setR_bd (n := n) (fun t ht => (hR t ht).2) sH
  have done : ∀ r I1 J1, (r = none ∧ I1 = I ∧ (∀ q, q ≠ 15 → J1 q = J q) ∧ (∀ t, t < 9 → J1 15 t = lI (setR n R t))) → (r = (none : Option Value) ∧ I1 = I ∧ (∀ q, q ≠ 15 → J1 q = J q) ∧ ∃ R', LatH n W R' J1 ∧ Alike R R') := by
    rintro r I1 J1 ⟨a, b, c, d⟩
    exact ⟨a, b, c, setR n R, ⟨fun t ht => ⟨d t ht, hb t ht⟩, sH, r2⟩, sA⟩
  rcases h0 with rfl | rfl
  · exact (c_settle2 hL).mono done
  · exact (c_settle3 hL).mono done
theorem c_startMultiples {n : Nat} (h0 : n = 2 ∨ n = 3) {m : Int} (hm : 0 < m) (hm2 : m ≤ 1000000) : Con (EC l D aI aL ad) M_X3_startMultiples yX3_startMultiples [.ref (ad 14), .int (nI n), .long (lI m)] I J (fun r I1 J1 => r = none ∧ SCI I I1 ∧ (∀ q, q ≠ 14 → q ≠ 15 → J1 q = J q) ∧ LatS n m (smR n m) I1 J1) := by
  refine Con.of (by decide +kernel) rfl (Nat.le_of_ble_eq_true rfl) ?_
  refine bX3_startMultiples_0 (v11 := nI 0) rfl ?_
  refine bX3_startMultiples_13 (fun c => absurd c (by decide)) (fun _ => ?_)
  refine bX3_startMultiples_20 (fun c => absurd rfl c) (fun _ => bX3_startMultiples_33 ?_)
  refine bX3_startMultiples_38 (s1 := 0) (v39 := nI 1) (by decide) rfl ?_
  refine bX3_startMultiples_13 (fun c => absurd c (by decide)) (fun _ => ?_)
  refine bX3_startMultiples_20 (fun _ => bX3_startMultiples_37 ?_) (fun c => absurd c (by decide))
  refine bX3_startMultiples_38 (s1 := 1) (v39 := nI 2) (by decide) rfl ?_
  refine bX3_startMultiples_13 (fun c => absurd c (by decide)) (fun _ => ?_)
  refine bX3_startMultiples_20 (fun _ => bX3_startMultiples_37 ?_) (fun c => absurd c (by decide))
  refine bX3_startMultiples_38 (s1 := 2) (v39 := nI 3) (by decide) rfl ?_
  refine bX3_startMultiples_13 (fun c => absurd c (by decide)) (fun _ => ?_)
  refine bX3_startMultiples_20 (fun _ => bX3_startMultiples_37 ?_) (fun c => absurd c (by decide))
  refine bX3_startMultiples_38 (s1 := 3) (v39 := nI 4) (by decide) rfl ?_
  refine bX3_startMultiples_13 (fun c => absurd c (by decide)) (fun _ => ?_)
  refine bX3_startMultiples_20 (fun c => absurd rfl c) (fun _ => bX3_startMultiples_33 ?_)
  refine bX3_startMultiples_38 (s1 := 4) (v39 := nI 5) (by decide) rfl ?_
  refine bX3_startMultiples_13 (fun c => absurd c (by decide)) (fun _ => ?_)
  refine bX3_startMultiples_20 (fun _ => bX3_startMultiples_37 ?_) (fun c => absurd c (by decide))
  refine bX3_startMultiples_38 (s1 := 5) (v39 := nI 6) (by decide) rfl ?_
  refine bX3_startMultiples_13 (fun c => absurd c (by decide)) (fun _ => ?_)
  refine bX3_startMultiples_20 (fun _ => bX3_startMultiples_37 ?_) (fun c => absurd c (by decide))
  refine bX3_startMultiples_38 (s1 := 6) (v39 := nI 7) (by decide) rfl ?_
  refine bX3_startMultiples_13 (fun c => absurd c (by decide)) (fun _ => ?_)
  refine bX3_startMultiples_20 (fun _ => bX3_startMultiples_37 ?_) (fun c => absurd c (by decide))
  refine bX3_startMultiples_38 (s1 := 7) (v39 := nI 8) (by decide) rfl ?_
  refine bX3_startMultiples_13 (fun c => absurd c (by decide)) (fun _ => ?_)
  refine bX3_startMultiples_20 (fun c => absurd rfl c) (fun _ => bX3_startMultiples_33 ?_)
  refine bX3_startMultiples_38 (s1 := 8) (v39 := nI 9) (by decide) rfl ?_
  refine bX3_startMultiples_13 (fun _ => ?_) (fun c => absurd (by decide) c)
  have T := smR_Hm (n := n) hm
  have fin : ∀ (J1 : sa_J), (∀ q, q ≠ 14 → q ≠ 15 → J1 q = J q) → J1 14 3 = lI m → (∀ t, t < 9 → J1 15 t = lI (smR n m t)) → SCI I (sa_uI I 14 2 (nI n)) ∧ (∀ q, q ≠ 14 → q ≠ 15 → J1 q = J q) ∧ LatS n m (smR n m) (sa_uI I 14 2 (nI n)) J1 := by
    intro J1 f1 f2 f3
    exact ⟨fun q hq => sa_uI_ne hq, f1, sa_uI_at, f2, fun t ht => ⟨f3 t ht, smR_bd hm t ht⟩, T.1, smR_WL, hm, hm2, fun h => ⟨rfl, rfl, by show (if n = 2 then (1 : Int) else m) = 1; rw [if_pos h]⟩⟩
  rcases h0 with rfl | rfl
  · refine bX3_startMultiples_45 (fun c => absurd rfl c) (fun _ => bX3_startMultiples_50 (v57 := 1) rfl (bX3_startMultiples_58 ⟨rfl, fin _ (fun q h1 h2 => by simp only [sa_uJ_ne h1, sa_uJ_ne h2]) (by simp [sa_uJ_if]) (fun t ht => ?_)⟩))
    rcases below9 ht with rfl | rfl | rfl | rfl | rfl | rfl | rfl | rfl | rfl <;> simp [sa_uJ_if, smR] <;> rfl
  · refine bX3_startMultiples_45 (fun _ => bX3_startMultiples_58 ⟨rfl, fin _ (fun q h1 h2 => by simp only [sa_uJ_ne h1, sa_uJ_ne h2]) (by simp [sa_uJ_if]) (fun t ht => ?_)⟩) (fun c => absurd c (by decide))
    rcases below9 ht with rfl | rfl | rfl | rfl | rfl | rfl | rfl | rfl | rfl <;> simp [sa_uJ_if, smR] <;> rfl
theorem c_startAll : Con (EC l D aI aL ad) M_X2_startAll yX2_startAll [.ref (ad 13)] I J (fun r I1 J1 => r = none ∧ I1 = I ∧ (∀ q, q ≠ 18 → J1 q = J q) ∧ ∀ i, i < 3 → ∀ j, j < 3 → J1 18 (3 * i + j) = lI (vk (eV i) j)) := by
  refine Con.of (by decide +kernel) rfl (Nat.le_of_ble_eq_true rfl) ?_
  refine bX2_startAll_0 (v1 := nI 0) rfl ?_
  refine bX2_startAll_2 (fun c => absurd c (by decide)) (fun _ => ?_)
  refine bX2_startAll_8 (fun c => absurd rfl c) (fun _ => bX2_startAll_19 ?_)
  refine bX2_startAll_24 (s1 := 0) (v25 := nI 1) (by decide) rfl ?_
  refine bX2_startAll_2 (fun c => absurd c (by decide)) (fun _ => ?_)
  refine bX2_startAll_8 (fun _ => bX2_startAll_23 ?_) (fun c => absurd c (by decide))
  refine bX2_startAll_24 (s1 := 1) (v25 := nI 2) (by decide) rfl ?_
  refine bX2_startAll_2 (fun c => absurd c (by decide)) (fun _ => ?_)
  refine bX2_startAll_8 (fun _ => bX2_startAll_23 ?_) (fun c => absurd c (by decide))
  refine bX2_startAll_24 (s1 := 2) (v25 := nI 3) (by decide) rfl ?_
  refine bX2_startAll_2 (fun c => absurd c (by decide)) (fun _ => ?_)
  refine bX2_startAll_8 (fun _ => bX2_startAll_23 ?_) (fun c => absurd c (by decide))
  refine bX2_startAll_24 (s1 := 3) (v25 := nI 4) (by decide) rfl ?_
  refine bX2_startAll_2 (fun c => absurd c (by decide)) (fun _ => ?_)
  refine bX2_startAll_8 (fun c => absurd rfl c) (fun _ => bX2_startAll_19 ?_)
  refine bX2_startAll_24 (s1 := 4) (v25 := nI 5) (by decide) rfl ?_
  refine bX2_startAll_2 (fun c => absurd c (by decide)) (fun _ => ?_)
  refine bX2_startAll_8 (fun _ => bX2_startAll_23 ?_) (fun c => absurd c (by decide))
  refine bX2_startAll_24 (s1 := 5) (v25 := nI 6) (by decide) rfl ?_
  refine bX2_startAll_2 (fun c => absurd c (by decide)) (fun _ => ?_)
  refine bX2_startAll_8 (fun _ => bX2_startAll_23 ?_) (fun c => absurd c (by decide))
  refine bX2_startAll_24 (s1 := 6) (v25 := nI 7) (by decide) rfl ?_
  refine bX2_startAll_2 (fun c => absurd c (by decide)) (fun _ => ?_)
  refine bX2_startAll_8 (fun _ => bX2_startAll_23 ?_) (fun c => absurd c (by decide))
  refine bX2_startAll_24 (s1 := 7) (v25 := nI 8) (by decide) rfl ?_
  refine bX2_startAll_2 (fun c => absurd c (by decide)) (fun _ => ?_)
  refine bX2_startAll_8 (fun c => absurd rfl c) (fun _ => bX2_startAll_19 ?_)
  refine bX2_startAll_24 (s1 := 8) (v25 := nI 9) (by decide) rfl ?_
  refine bX2_startAll_2 (fun _ => bX2_startAll_31 ⟨rfl, rfl, fun q h => by simp only [sa_uJ_ne h], fun i hi j hj => ?_⟩) (fun c => absurd (by decide) c)
  rcases below3 hi with rfl | rfl | rfl <;> rcases below3 hj with rfl | rfl | rfl <;> simp [sa_uJ_if, vk, eV] <;> rfl
/-- a product of a unit row with a small number is small -/
theorem vk_bd {v : V3} {B : Int} (h : bd v.1 B ∧ bd v.2.1 B ∧ bd v.2.2 B) (c : Nat) : bd (vk v c) B := by
  match c with
  | 0 => exact h.1
  | 1 => exact h.2.1
  | _ + 2 => exact h.2.2
def bdV (v : V3) (B : Int) : Prop := bd v.1 B ∧ bd v.2.1 B ∧ bd v.2.2 B
theorem muv_bd {n : Nat} {T : Nat → Int} (r : Rg n T) {x y : V3} {A B : Int} (hx : bdV x A) (hy : bdV y B) : bdV (muv n T x y) (1000 * (A * B)) := by
  obtain ⟨x0, x1, x2⟩ := hx
  obtain ⟨y0, y1, y2⟩ := hy
  have hA : 0 ≤ A := by have := x0.1; have := x0.2; omega
  have hB : 0 ≤ B := by have := y0.1; have := y0.2; omega
  have hAB : 0 ≤ A * B := Int.mul_nonneg hA hB
  have b2 : ∀ {a b : Int}, bd a A → bd b B → bd (a * b) (A * B) := fun ha hb => bd_mul ha hb
  rcases r with ⟨rfl, p, q, rfl, bp, bq⟩ | ⟨rfl, s, rfl, bs, _⟩
  · rw [muv2]
    have u := b2 x1 y1
    refine ⟨bd_mono (bd_add (b2 x0 y0) (bd_mul u bp)) (by show A * B + A * B * 200 ≤ _; omega), bd_mono (bd_add (bd_add (b2 x0 y1) (b2 x1 y0)) (bd_mul u bq)) (by show A * B + A * B + A * B * 20 ≤ _; omega), bd_mono (b2 x2 y2) (by omega)⟩
  · rw [muv3]
    have u := b2 x1 y1
    have v := bd_add (b2 x1 y2) (b2 x2 y1)
    have w := b2 x2 y2
    refine ⟨bd_mono (bd_add (bd_add (bd_add (b2 x0 y0) (bd_mul u (bs 0 (by decide)))) (bd_mul v (bs 3 (by decide)))) (bd_mul w (bs 6 (by decide)))) ?_, bd_mono (bd_add (bd_add (bd_add (bd_add (b2 x0 y1) (b2 x1 y0)) (bd_mul u (bs 1 (by decide)))) (bd_mul v (bs 4 (by decide)))) (bd_mul w (bs 7 (by decide)))) ?_, bd_mono (bd_add (bd_add (bd_add (bd_add (b2 x0 y2) (b2 x2 y0)) (bd_mul u (bs 2 (by decide)))) (bd_mul v (bs 5 (by decide)))) (bd_mul w (bs 8 (by decide)))) ?_⟩
    · show A * B + A * B * 40 + (A * B + A * B) * 40 + A * B * 40 ≤ _; omega
    · show A * B + A * B + A * B * 40 + (A * B + A * B) * 40 + A * B * 40 ≤ _; omega
    · show A * B + A * B + A * B * 40 + (A * B + A * B) * 40 + A * B * 40 ≤ _; omega
theorem eV_bd (i : Nat) : bdV (eV i) 1 := by
  match i with
  | 0 => exact ⟨⟨by decide, by decide⟩, ⟨by decide, by decide⟩, ⟨by decide, by decide⟩⟩
  | 1 => exact ⟨⟨by decide, by decide⟩, ⟨by decide, by decide⟩, ⟨by decide, by decide⟩⟩
  | _ + 2 => exact (⟨⟨by decide, by decide⟩, ⟨by decide, by decide⟩, ⟨by decide, by decide⟩⟩ : bdV (0, 0, 1) 1)
theorem ml_loop {n : Nat} {T : Nat → Int} {m : Int} (rr : Rg n T) {a3 q3 n3 p : Nat} (hq3 : sa_iJ (EC l D aI aL ad) a3 q3 n3) (hn3 : n3 < 2 ^ 31) (hb : p + n ≤ n3) (hk3 : kC q3) {x : V3} (bx : bdV x 300) : ∀ (d i0 : Nat) (I : sa_I) (J : sa_J) (R : Nat → Int), i0 + d = n → I 4 0 = nI n → (∀ t, t < 27 → J 8 t = lI (T t)) → (∀ i, i < n → J q3 (p + i) = lI (vk x i)) → (∀ i, i < 3 → ∀ j, j < 3 → J 18 (3 * i + j) = lI (vk (eV i) j)) → LatS n m R I J → (∀ J' R', SC J J' → LatS n m R' I J' → (∀ H, Grp H → (In3 H R' ↔ (In3 H R ∧ ∀ i, i0 ≤ i → i < n → H (muv n T (eV i) x)))) → Sat (EC l D aI aL ad) M_X2_makeLeast P 73 [(0, .ref (ad 13))] [] I J') → Sat (EC l D aI aL ad) M_X2_makeLeast P 22 [(0, .ref (ad 13)), (3, .ref a3), (4, .int (nI p)), (5, .int (nI i0))] [] I J := by
  intro d
  have h0 := rr.n
  induction d with
  | zero =>
    intro i0 I J R hd hI hT hx h18 hL kk
    refine bX2_makeLeast_22 hq3 hn3 (fun _ => kk J R SC.rfl' hL (fun H g => ⟨fun h => ⟨h, fun i h1 h2 => by omega⟩, fun h => h.1⟩)) (fun c => absurd ?_ c)
    rw [hI, nJ_le (by omega) (by omega)]; omega
  | succ d ih =>
    intro i0 I J R hd hI hT hx h18 hL kk
    refine bX2_makeLeast_22 hq3 hn3 (fun c => absurd c (by rw [hI, nJ_le (by omega) (by omega)]; omega)) (fun _ => ?_)
    refine bX2_makeLeast_34 hq3 hn3 ?_
    rw [show (3 : Int32) * nI i0 = nI (3 * i0) from nI_mulE 3 i0]
    refine v_X2_52 dX2_makeLeast_49 rfl ⟨rfl, rfl, Nat.le_of_ble_eq_true rfl, Nat.le_of_ble_eq_true rfl⟩ (c_mulI rr hI hT aJ_C18 (by decide) hq3 hn3 (by omega) hb (by decide) (by rcases hk3 with rfl | rfl | rfl | rfl | rfl | rfl | rfl | rfl | rfl <;> decide) (x := eV i0) (y := x) (fun j hj => h18 i0 (by omega) j (by omega)) hx) rfl rfl (Nat.le_of_ble_eq_true rfl) (fun r I1 J1 hp => ?_)
    obtain ⟨rfl, e2, v9, _, f9⟩ := hp
    obtain rfl := e2.symm
    refine bX2_makeLeast_52 hq3 hn3 ?_
    have bv := muv_bd rr (eV_bd i0) bx
    have hL1 : LatS n m R I J1 := by
      obtain ⟨a, b, c, d⟩ := hL
      exact ⟨a, by rw [f9 14 (by decide)]; exact b, fun t ht => by rw [f9 15 (by decide)]; exact c t ht, d⟩
    refine v_X2_59 dX2_makeLeast_64 rfl ⟨rfl, rfl, Nat.le_of_ble_eq_true rfl, Nat.le_of_ble_eq_true rfl⟩ (c_includeN h0 (v := muv n T (eV i0) x) (p := 0) hL1 aJ_C9 (by decide) (by omega) (by decide) (fun j hj => ⟨by rw [Nat.zero_add]; exact v9 j hj, bd_rg (vk_bd bv j) (by decide)⟩)) rfl rfl (Nat.le_of_ble_eq_true rfl) (fun r I1 J2 hp => ?_)
    obtain ⟨rfl, e2, f2, R', hL2, hH⟩ := hp
    obtain rfl := e2.symm
    refine bX2_makeLeast_67 (v67 := nI (i0 + 1)) hq3 hn3 (nI_addE i0 1) ?_
    have s12 : SC J J2 := SC.of (fun q h9 _ _ h15 h16 _ _ _ _ => (f2 q h15 h16).trans (f9 q h9))
    refine ih (i0 + 1) I J2 R' (by omega) hI (fun t ht => by rw [s12 8 (by simp [kC])]; exact hT t ht) (fun i hi => by rw [s12 q3 hk3]; exact hx i hi) (fun i hi j hj => by rw [f2 18 (by decide) (by decide), f9 18 (by decide)]; exact h18 i hi j hj) hL2 (fun J' R2' s' L' H' => ?_)
    refine kk J' R2' (s12.tr s') L' (fun H g => ?_)
    rw [H' H g, hH H g]
    constructor
    · rintro ⟨⟨a, b⟩, c⟩
      refine ⟨a, fun i h1 h2 => ?_⟩
      by_cases h : i = i0
      · subst h; exact b
      · exact c i (by omega) h2
    · rintro ⟨a, b⟩
      exact ⟨⟨a, b i0 (Nat.le_refl _) (by omega)⟩, fun i h1 h2 => b i (by omega) h2⟩
theorem c_makeLeast {n : Nat} {T : Nat → Int} {m : Int} (rr : Rg n T) (hI : I 4 0 = nI n) (hT : ∀ t, t < 27 → J 8 t = lI (T t)) (hm : 0 < m) (hm2 : m ≤ 1000000) {a3 q3 n3 p : Nat} (hq3 : sa_iJ (EC l D aI aL ad) a3 q3 n3) (hn3 : n3 < 2 ^ 31) (hb : p + n ≤ n3) (hk3 : kC q3) {x : V3} (bx : bdV x 300) (hx : ∀ i, i < n → J q3 (p + i) = lI (vk x i)) : Con (EC l D aI aL ad) M_X2_makeLeast yX2_makeLeast [.ref (ad 13), .long (lI m), .ref a3, .int (nI p)] I J (fun r I1 J1 => r = none ∧ SCI I I1 ∧ SC J J1 ∧ ∃ R, LatH n m R J1 ∧ ∀ H, Grp H → (In3 H R ↔ (In3 H (smR n m) ∧ ∀ i, i < n → H (muv n T (eV i) x)))) := by
  refine Con.of (by decide +kernel) rfl (Nat.le_of_ble_eq_true rfl) ?_
  have h0 := rr.n
  refine bX2_makeLeast_0 hq3 hn3 ?_
  rw [hI]
  refine v_X2_45 dX2_makeLeast_12 rfl ⟨rfl, rfl, Nat.le_of_ble_eq_true rfl, Nat.le_of_ble_eq_true rfl⟩ (c_startMultiples h0 hm hm2) rfl rfl (Nat.le_of_ble_eq_true rfl) (fun r I1 J1 hp => ?_)
  obtain ⟨rfl, s1, f1, L1⟩ := hp
  refine bX2_makeLeast_15 hq3 hn3 ?_
  refine v_X2_49 dX2_makeLeast_16 rfl ⟨rfl, rfl, Nat.le_of_ble_eq_true rfl, Nat.le_of_ble_eq_true rfl⟩ c_startAll rfl rfl (Nat.le_of_ble_eq_true rfl) (fun r I2 J2 hp => ?_)
  obtain ⟨rfl, e2, f2, h18⟩ := hp
  obtain rfl := e2.symm
  refine bX2_makeLeast_19 (v20 := nI 0) hq3 hn3 rfl ?_
  have s2 : SC J J2 := SC.of (fun q _ _ h14 h15 _ _ h18 _ _ => (f2 q h18).trans (f1 q h14 h15))
  have L2 : LatS n m (smR n m) I1 J2 := by
    obtain ⟨a, b, c, d⟩ := L1
    exact ⟨a, by rw [f2 14 (by decide)]; exact b, fun t ht => by rw [f2 15 (by decide)]; exact c t ht, d⟩
  refine ml_loop rr hq3 hn3 hb hk3 bx n 0 I1 J2 (smR n m) (by omega) (by rw [s1 4 (by decide)]; exact hI) (fun t ht => by rw [s2 8 (by simp [kC])]; exact hT t ht) (fun i hi => by rw [s2 q3 hk3]; exact hx i hi) h18 L2 (fun J3 R3 s3 L3 H3 => ?_)
  refine bX2_makeLeast_73 ?_
  refine v_X2_63 dX2_makeLeast_77 rfl ⟨rfl, rfl, Nat.le_of_ble_eq_true rfl, Nat.le_of_ble_eq_true rfl⟩ (c_settleN h0 L3) rfl rfl (Nat.le_of_ble_eq_true rfl) (fun r I4 J4 hp => ?_)
  obtain ⟨rfl, e2, f4, R4, L4, A4⟩ := hp
  obtain rfl := e2.symm
  refine bX2_makeLeast_80 ⟨rfl, s1, ?_, R4, L4, fun H g => ?_⟩
  · exact (s2.tr s3).tr (SC.of (fun q _ _ _ h15 _ _ _ _ _ => f4 q h15))
  · rw [← A4 H g, H3 H g]
    exact ⟨fun h => ⟨h.1, fun i hi => h.2 i (by omega) hi⟩, fun h => ⟨h.1, fun i _ hi => h.2 i hi⟩⟩
end LE
