theorem nrV_congr {n : Nat} (h0 : n = 2 ∨ n = 3) {m m' : Nat → Int64} (h : ∀ j k, j < n → k < n → m (3 * j + k) = m' (3 * j + k)) (w : Nat) : nrV n m w = nrV n m' w := by
  rcases h0 with rfl | rfl
  · have a0 : m 0 = m' 0 := h 0 0 (by decide) (by decide)
    have a1 : m 1 = m' 1 := h 0 1 (by decide) (by decide)
    have a3 : m 3 = m' 3 := h 1 0 (by decide) (by decide)
    have a4 : m 4 = m' 4 := h 1 1 (by decide) (by decide)
    unfold nrV; rw [if_pos rfl, if_pos rfl, a0, a1, a3, a4]
  · have a0 : m 0 = m' 0 := h 0 0 (by decide) (by decide)
    have a1 : m 1 = m' 1 := h 0 1 (by decide) (by decide)
    have a2 : m 2 = m' 2 := h 0 2 (by decide) (by decide)
    have a3 : m 3 = m' 3 := h 1 0 (by decide) (by decide)
    have a4 : m 4 = m' 4 := h 1 1 (by decide) (by decide)
    have a5 : m 5 = m' 5 := h 1 2 (by decide) (by decide)
    have a6 : m 6 = m' 6 := h 2 0 (by decide) (by decide)
    have a7 : m 7 = m' 7 := h 2 1 (by decide) (by decide)
    have a8 : m 8 = m' 8 := h 2 2 (by decide) (by decide)
    unfold nrV nm3 md3; rw [if_neg (by decide), if_neg (by decide), a0, a1, a2, a3, a4, a5, a6, a7, a8]
theorem mtx_congr {n : Nat} (h0 : n = 2 ∨ n = 3) {x x' T T' : Nat → Int64} (hx : ∀ c, c < n → x c = x' c) {t : Nat} (hT : ∀ i, i < n → T (9 * i + t) = T' (9 * i + t)) : mtx n x T t = mtx n x' T' t := by
  rcases h0 with rfl | rfl
  · have b0 := hT 0 (by decide)
    have b1 := hT 1 (by decide)
    rw [show 9 * 0 + t = t by omega] at b0
    rw [show 9 * 1 + t = 9 + t by omega] at b1
    unfold mtx; rw [if_pos rfl, if_pos rfl, hx 0 (by decide), hx 1 (by decide), b0, b1]
  · have b0 := hT 0 (by decide)
    have b1 := hT 1 (by decide)
    have b2 := hT 2 (by decide)
    rw [show 9 * 0 + t = t by omega] at b0
    rw [show 9 * 1 + t = 9 + t by omega] at b1
    rw [show 9 * 2 + t = 18 + t by omega] at b2
    unfold mtx; rw [if_neg (by decide), if_neg (by decide), hx 0 (by decide), hx 1 (by decide), hx 2 (by decide), b0, b1, b2]
section SN
variable {l0 : Launch} {D : va_G} {aI aL : ClassId} {ad ad' : Nat → Nat} {I I' : sa_I} {J J' : sa_J} {N : sa_I → sa_J → sa_I → sa_J → Prop} {a1 a2 a3 : Int32} {n ne : Nat} {h d k l e Di dd : Int} {T Ev : Nat → Int}
/-- the matrix of an element is the same on both sides -/
theorem el_mtx (F : Fld n h d k l e Di dd T) (hc : clS n h d k l e Di dd T I J) (hr : rfS n h d k l e Di dd T I' J') (H : ElS n ne Ev I J I') {i : Nat} (hi : i < ne) : ∀ u v, u < n → v < n → mtx n (fun c => J 2 (3 * i + c)) (J 8) (3 * u + v) = mtx n (fun c => (I' 3 (3 * i + c)).toInt64) (J' 2) (3 * u + v) := by
  intro u v hu hv
  have hn := F.1
  refine mtx_congr hn (fun c hcn => ?_) (fun j hj => ?_)
  · obtain ⟨g1, g2, g3⟩ := H.2.2.2.1 (3 * i + c) (by omega)
    show J 2 (3 * i + c) = (I' 3 (3 * i + c)).toInt64
    rw [g1, g2, iI_lI (bd_i g3 (by decide))]
  · rw [← Nat.add_assoc, hc.2.2.2.2.2.2 (9 * j + 3 * u + v) (by omega), hr.2.2.2.2.2.2.2.2 j u v hj hu (by omega)]
theorem st_norm (F : Fld n h d k l e Di dd T) (hc : clS n h d k l e Di dd T I J) (hr : rfS n h d k l e Di dd T I' J') (H : ElS n ne Ev I J I') (hN : ∀ J1 J2, (∀ q, q ≠ 10 → J1 q = J q) → (∀ q, q ≠ 9 → q ≠ 10 → J2 q = J' q) → N I J1 I' J2) (hR1 : N (rf I 1) J (rf I' 1) J') (hR2 : ∀ J2, (∀ q, q ≠ 9 → q ≠ 10 → J2 q = J' q) → N (rf I 2) J (rf I' 2) J2) : la_Step l0 D aI aL ad ad' N 9 a1 a2 a3 I J I' J' := by
  obtain ⟨x, hx, rfl⟩ := iI_of a1
  obtain ⟨y, hy, rfl⟩ := iI_of a2
  have hn := F.1
  have two : ∀ r1 I1 J1 r2 I2 J2, noC n ne x y I J r1 I1 J1 → noR n ne x y I' J' r2 I2 J2 → la_ans true r1 r2 ∧ N I1 J1 I2 J2 := by
    intro r1 I1 J1 r2 I2 J2 p q
    unfold noC at p
    unfold noR at q
    by_cases cx : 0 ≤ x ∧ x < ne
    · rw [if_pos cx] at p q
      by_cases cy : 0 ≤ y ∧ y ≤ 2
      · rw [if_pos cy] at p q
        obtain ⟨rfl, rfl, gp⟩ := p
        obtain ⟨rfl, rfl, gq⟩ := q
        refine ⟨⟨_, rfl, ?_⟩, hN _ _ gp gq⟩
        rw [nrV_congr hn (el_mtx F hc hr H (i := x.toNat) (by omega))]
      · rw [if_neg cy] at p q
        obtain ⟨rfl, rfl, rfl⟩ := p
        obtain ⟨rfl, rfl, gq⟩ := q
        exact ⟨⟨_, rfl, rfl⟩, hR2 _ gq⟩
    · rw [if_neg cx] at p q
      obtain ⟨rfl, rfl, rfl⟩ := p
      obtain ⟨rfl, rfl, rfl⟩ := q
      exact ⟨⟨_, rfl, rfl⟩, hR1⟩
  rcases hn with rfl | rfl
  · exact ⟨_, _, c_norm6_2 hc.1 H.2.1 H.1 hx hy, c_norm7_2 hr.1 H.2.2.1 H.1 hx hy, two⟩
  · exact ⟨_, _, c_norm6_3 hc.1 H.2.1 H.1 hx hy, c_norm7_3 hr.1 H.2.2.1 H.1 hx hy, two⟩
end SN
