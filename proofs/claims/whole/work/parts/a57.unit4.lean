/-- unit of both -/
def unQ (n ne : Nat) (T Ev : Nat → Int) (x : Int) (I : sa_I) (F : sa_J → Prop) (J : sa_J) : sa_P := fun r I1 J1 => (¬ (0 ≤ x ∧ x < ne) ∧ r = some (.int (-1)) ∧ I1 = rf I 1 ∧ J1 = J) ∨ ((0 ≤ x ∧ x < ne) ∧ I1 = I ∧ F J1 ∧ ((¬ (nmU n T (rowV Ev x.toNat) = 1 ∨ nmU n T (rowV Ev x.toNat) = -1) ∧ r = some (.int 0)) ∨ ((nmU n T (rowV Ev x.toNat) = 1 ∨ nmU n T (rowV Ev x.toNat) = -1) ∧ ((P1u n T (rowV Ev x.toNat) ∧ r = some (.int 2)) ∨ (¬ P1u n T (rowV Ev x.toNat) ∧ r = some (.int 1))))))
section UP
variable {l : Launch} {D : va_G} {aI aL : ClassId} {ad : Nat → Nat} {P : sa_P} {I : sa_I} {J : sa_J}
theorem c_unit6 {n ne : Nat} {T Ev : Nat → Int} (rr : Rg n T) (hU : ∀ x, (nmU n T x = 1 ∨ nmU n T x = -1) → USm n T x) {x : Int} (hx : rgi x) (hI : I 4 0 = nI n) (hT : ∀ t, t < 27 → J 8 t = lI (T t)) (hne : I 0 8 = nI ne) (h100 : ne ≤ 100) (HE : ∀ t, t < 3 * ne → J 2 t = lI (Ev t) ∧ bd (Ev t) 300) : Con (EC l D aI aL ad) M_X6_unit yX6_unit [.ref (ad 0), .int (iI x)] I J (unQ n ne T Ev x I (fun J1 => ∀ q, q ≠ 9 → q ≠ 10 → q ≠ 12 → J1 q = J q) J) := by
  refine Con.of (by decide +kernel) rfl (Nat.le_of_ble_eq_true rfl) ?_
  have h0 := rr.n
  refine bX6_unit_0 (fun _ => bX6_unit_17 ?_) (fun c => absurd c (by rw [hI, nI_lit 0, nJ_eq (by omega) (by omega)]; omega))
  refine v_X6_128 dX6_unit_19 rfl ⟨rfl, rfl, Nat.le_of_ble_eq_true rfl, Nat.le_of_ble_eq_true rfl⟩ (c_isElement6) rfl rfl (Nat.le_of_ble_eq_true rfl) (fun r I1 J1 hq => ?_)
  obtain ⟨rfl, e1, e2⟩ := hq
  obtain rfl := e1.symm
  obtain rfl := e2.symm
  rw [hne, inB_I hx (m := ne) (by omega)]
  by_cases cx : 0 ≤ x ∧ x < ne
  rotate_left
  · rw [if_neg cx]
    refine bX6_unit_22 (fun c => absurd rfl c) (fun _ => bX6_unit_25 ?_)
    refine v_X6_59 dX6_unit_27 rfl ⟨rfl, rfl, Nat.le_of_ble_eq_true rfl, Nat.le_of_ble_eq_true rfl⟩ (c_refused 1 (by decide) (x := -1) rfl) rfl rfl (Nat.le_of_ble_eq_true rfl) (fun r I1 J1 hq => ?_)
    obtain ⟨rfl, rfl, rfl⟩ := hq
    exact bX6_unit_30 (Or.inl ⟨cx, rfl, rfl, rfl⟩)
  rw [if_pos cx]
  have h2 : ∀ c, c < 3 → J 2 (3 * x.toNat + c) = lI (vk (rowV Ev x.toNat) c) := fun c hc => by rw [rowV_vk _ _ hc]; exact (HE _ (by omega)).1
  have hb : ∀ c, c < 3 → bd (vk (rowV Ev x.toNat) c) 300 := fun c hc => by rw [rowV_vk _ _ hc]; exact (HE _ (by omega)).2
  have gN := bd_rg (nmU_bd rr hb) (by decide)
  have i100 : x.toNat < 100 := by omega
  have hUx := hU (rowV Ev x.toNat)
  have ex : (3 : Int32) * iI x = nI (3 * x.toNat) := by rw [iI_nat cx.1, nI_lit 3, nI_mulE]
  refine bX6_unit_22 (fun _ => bX6_unit_31 ?_) (fun c => absurd c (by decide))
  rw [ex]
  refine v_X6_145 dX6_unit_42 rfl ⟨rfl, rfl, Nat.le_of_ble_eq_true rfl, Nat.le_of_ble_eq_true rfl⟩ (c_nrm6 rr (x := rowV Ev x.toNat) hI i100 hT h2) rfl rfl (Nat.le_of_ble_eq_true rfl) (fun r I1 J1 hq => ?_)
  obtain ⟨rfl, e1, f, hcon⟩ := hq
  obtain rfl := e1.symm
  refine bX6_unit_45 ?_
  refine v_X6_149 dX6_unit_49 rfl ⟨rfl, rfl, Nat.le_of_ble_eq_true rfl, Nat.le_of_ble_eq_true rfl⟩ (hcon) rfl rfl (Nat.le_of_ble_eq_true rfl) (fun r I2 J2 hq => ?_)
  obtain ⟨rfl, e1, e2⟩ := hq
  obtain rfl := e1.symm
  obtain rfl := e2.symm
  have fin : (nmU n T (rowV Ev x.toNat) = 1 ∨ nmU n T (rowV Ev x.toNat) = -1) → Sat (EC l D aI aL ad) M_X6_unit (unQ n ne T Ev x I (fun J1 => ∀ q, q ≠ 9 → q ≠ 10 → q ≠ 12 → J1 q = J q) J) 69 [(0, .ref (ad 0)), (1, .int (iI x))] [] I J1 := by
    intro hN
    refine bX6_unit_69 ?_
    rw [ex]
    refine v_X6_159 dX6_unit_80 rfl ⟨rfl, rfl, Nat.le_of_ble_eq_true rfl, Nat.le_of_ble_eq_true rfl⟩ (c_hasPowerOne rr hb (hUx hN) hI i100 (fun t ht => by rw [f 8 (by decide)]; exact hT t ht) (fun c hc => by rw [f 2 (by decide)]; exact h2 c hc)) rfl rfl (Nat.le_of_ble_eq_true rfl) (fun r I2 J2 hq => ?_)
    obtain ⟨e1, g, hb'⟩ := hq
    obtain rfl := e1.symm
    have fr : ∀ q, q ≠ 9 → q ≠ 10 → q ≠ 12 → J2 q = J q := fun q a b c => (g q a c).trans (f q b)
    rcases hb' with ⟨b, rfl⟩ | ⟨b, rfl⟩
    · exact bX6_unit_83 (fun c => absurd c (by decide)) (fun _ => bX6_unit_86 (bX6_unit_91 (Or.inr ⟨cx, rfl, fr, Or.inr ⟨hN, Or.inl ⟨b, rfl⟩⟩⟩)))
    · exact bX6_unit_83 (fun _ => bX6_unit_90 (bX6_unit_91 (Or.inr ⟨cx, rfl, fr, Or.inr ⟨hN, Or.inr ⟨b, rfl⟩⟩⟩))) (fun c => absurd rfl c)
  refine bX6_unit_52 (fun c => fin (Or.inl ((lI_eq gN (b := 1) ⟨by omega, by omega⟩).mp c))) (fun c => ?_)
  refine bX6_unit_59 (fun c2 => fin (Or.inr ((lI_eq gN (b := -1) ⟨by omega, by omega⟩).mp c2))) (fun c2 => bX6_unit_67 (Or.inr ⟨cx, rfl, fun q _ b _ => f q b, Or.inl ⟨?_, rfl⟩⟩))
  rintro (q | q)
  · exact c (by rw [q]; rfl)
  · exact c2 (by rw [q]; rfl)
theorem sm6 {z : Int} (hz : bd z 100000000000000000) : ((1000000 : Int64) ≤ lI z.natAbs) ↔ ¬ bd z 999999 := by
  have g : rg ((z.natAbs : Nat) : Int) := ⟨by omega, by have := hz.1; have := hz.2; omega⟩
  rw [show (1000000 : Int64) = lI 1000000 from rfl, lI_le ⟨by omega, by omega⟩ g]
  constructor
  · intro h q; have := q.1; have := q.2; omega
  · intro h
    rcases Int.lt_or_le ((z.natAbs : Nat) : Int) 1000000 with c | c
    · exact absurd ⟨by omega, by omega⟩ h
    · exact c
/-- one place of the power taken over by the reference -/
theorem un7_in {w : V3} (hw : ∀ c, c < 3 → bd (vk w c) 100000000000000000) {k : Nat} {J0 : sa_J} (h12 : ∀ c, c < 3 → J0 12 c = lI (vk w c)) (kgo : ∀ (b : Int32) J1, (b = 1 ∧ ∀ c, c < 3 → bd (vk w c) 999999) ∨ (b = 0 ∧ ∃ c, c < 3 ∧ ¬ bd (vk w c) 999999) → (∀ q, q ≠ 11 → J1 q = J0 q) → (∀ c, c < 3 → J1 11 c = lI (vk w c)) → Sat (ER l D aI aL ad) M_X7_unit P 161 [(0, .ref (ad 0)), (2, .int b), (3, .int (nI k))] [] I J1) : ∀ (d j : Nat), j + d = 3 → ∀ (b : Int32) (J : sa_J), (∀ q, q ≠ 11 → J q = J0 q) → (∀ c, c < j → J 11 c = lI (vk w c)) → ((b = 1 ∧ ∀ c, c < j → bd (vk w c) 999999) ∨ (b = 0 ∧ ∃ c, c < 3 ∧ ¬ bd (vk w c) 999999)) → Sat (ER l D aI aL ad) M_X7_unit P 108 [(0, .ref (ad 0)), (2, .int b), (3, .int (nI k)), (4, .int (nI j))] [] I J := by
  intro d
  induction d with
  | zero =>
    intro j e b J f hj hb
    have ej : j = 3 := by omega
    subst ej
    exact bX7_unit_108 (fun _ => kgo b J hb f hj) (fun c => absurd (by decide) c)
  | succ d ih =>
    intro j e b J f hj hb
    have nx : ∀ b', ((b' = 1 ∧ ∀ c, c < j + 1 → bd (vk w c) 999999) ∨ (b' = 0 ∧ ∃ c, c < 3 ∧ ¬ bd (vk w c) 999999)) → Sat (ER l D aI aL ad) M_X7_unit P 154 [(0, .ref (ad 0)), (3, .int (nI k)), (4, .int (nI j))] [.int b'] I (sa_uJ J 11 j (lI (vk w j))) := by
      intro b' hb'
      refine bX7_unit_154 (v155 := nI (j + 1)) (nI_addE j 1) (ih (j + 1) (by omega) b' _ (fun q h => by rw [sa_uJ_ne h]; exact f q h) (fun c hc => ?_) hb')
      by_cases cc : c = j
      · subst cc; exact sa_uJ_at
      · rw [sa_uJ_off cc]; exact hj c (by omega)
    refine bX7_unit_108 (fun c => absurd c (by rw [nI_lit 3, nJ_le (by omega) (by omega)]; omega)) (fun _ => ?_)
    refine bX7_unit_114 (j118 := j) (j124 := j) (v127 := lI (vk w j)) rfl rfl (by omega) (by omega) (by rw [f 12 (by decide)]; exact h12 j (by omega)) (fun c => bX7_unit_153 (nx 0 (Or.inr ⟨rfl, ?_⟩))) (fun c => bX7_unit_132 (j136 := j) rfl (by omega) ?_)
    · rcases hb with ⟨b1, _⟩ | ⟨_, b1⟩
      · rw [b1] at c; exact absurd c (by decide)
      · exact b1
    · have bw := hw j (by omega)
      have hb1 : ∀ c, c < j → bd (vk w c) 999999 := by
        rcases hb with ⟨_, b2⟩ | ⟨b1, _⟩
        · exact b2
        · exact absurd b1 c
      rw [sa_uJ_ne (by decide), f 12 (by decide), h12 j (by omega)]
      refine v_X7_90 dX7_unit_139 rfl ⟨rfl, rfl, Nat.le_of_ble_eq_true rfl, Nat.le_of_ble_eq_true rfl⟩ (c_abs (a := vk w j) (bd_rg bw (by decide)) (by have := bw.1; omega)) rfl rfl (Nat.le_of_ble_eq_true rfl) (fun r I1 J1 hq => ?_)
      obtain ⟨rfl, e1, e2⟩ := hq
      obtain rfl := e1.symm
      obtain rfl := e2.symm
      refine bX7_unit_142 (fun c => ?_) (fun c => ?_)
      · exact bX7_unit_153 (nx 0 (Or.inr ⟨rfl, j, by omega, (sm6 bw).mp c⟩))
      · refine bX7_unit_149 (nx 1 (Or.inl ⟨rfl, fun c' hc' => ?_⟩))
        by_cases cc : c' = j
        · subst cc; exact Classical.byContradiction (fun q => c ((sm6 bw).mpr q))
        · exact hb1 c' (by omega)
theorem un7_loop {n : Nat} {T : Nat → Int} (rr : Rg n T) {x : V3} (hx : ∀ c, c < 3 → bd (vk x c) 300) (hU : USm n T x) (hI : I 0 1 = nI n) {J0 : sa_J} (hT : ∀ i j c, i < n → j < n → c < 3 → J0 2 (9 * i + 3 * j + c) = lI (T (9 * i + 3 * j + c))) (h10 : ∀ c, c < 3 → J0 10 c = lI (vk x c)) (ky : P1u n T x → ∀ J1, (∀ q, q ≠ 11 → q ≠ 12 → J1 q = J0 q) → P (some (.int 2)) I J1) (kn : ¬ P1u n T x → ∀ J1, (∀ q, q ≠ 11 → q ≠ 12 → J1 q = J0 q) → P (some (.int 1)) I J1) : ∀ (d k : Nat), k + d = 12 → ∀ J : sa_J, (∀ q, q ≠ 11 → q ≠ 12 → J q = J0 q) → (∀ c, c < 3 → J 11 c = lI (vk (pwV n T x k) c)) → (∀ c, c < 3 → bd (vk (pwV n T x k) c) 1000000) → (∀ j, 1 ≤ j → j ≤ k → pwV n T x j ≠ (1, 0, 0)) → Sat (ER l D aI aL ad) M_X7_unit P 91 [(0, .ref (ad 0)), (2, .int 1), (3, .int (nI (k + 1)))] [] I J := by
  have h0 := rr.n
  intro d
  induction d with
  | zero =>
    intro k e J f h11 hb hno
    have ek : k = 12 := by omega
    subst ek
    refine bX7_unit_91 (fun _ => bX7_unit_202 (kn ?_ J f)) (fun c => absurd (by decide) c)
    rintro ⟨j, j1, j2, hj⟩
    exact hno j j1 j2 hj
  | succ d ih =>
    intro k e J f h11 hb hno
    refine bX7_unit_91 (fun c => absurd c (by rw [nI_lit 12, nJ_lt (by omega) (by omega)]; omega)) (fun _ => ?_)
    refine bX7_unit_97 (fun c => absurd c (by decide)) (fun _ => bX7_unit_101 ?_)
    refine v_X7_229 dX7_unit_102 rfl ⟨rfl, rfl, Nat.le_of_ble_eq_true rfl, Nat.le_of_ble_eq_true rfl⟩ (c_prodI rr hI (fun i j c a b d => by rw [f 2 (by decide) (by decide)]; exact hT i j c a b d) (x := x) (y := pwV n T x k) (fun c hc => by rw [f 10 (by decide) (by decide)]; exact h10 c (by omega)) (fun c hc => h11 c (by omega))) rfl rfl (Nat.le_of_ble_eq_true rfl) (fun r I1 J1 hq => ?_)
    obtain ⟨rfl, e1, w12, w122, f12⟩ := hq
    obtain rfl := e1.symm
    have hw := wBd rr hb hx
    have e12 : ∀ c, c < 3 → J1 12 c = lI (vk (pwV n T x (k + 1)) c) := by
      intro c hc
      have ec : muv n T x (pwV n T x k) = pwV n T x (k + 1) := muv_comm n T x _
      rw [ec] at w12
      rcases h0 with rfl | rfl
      · by_cases c2 : c = 2
        · subst c2
          rw [w122 rfl]
          show (0 : Int64) = lI (pwV 2 T x (k + 1)).2.2
          rw [pwV_z2]; rfl
        · exact w12 c (by omega)
      · exact w12 c hc
    refine bX7_unit_105 (v106 := nI 0) rfl ?_
    refine un7_in (w := pwV n T x (k + 1)) hw e12 (fun b J2 hbb g h11' => ?_) 3 0 rfl 1 J1 (fun _ _ => rfl) (fun c hc => absurd hc (by omega)) (Or.inl ⟨rfl, fun c hc => absurd hc (by omega)⟩)
    have f2 : ∀ q, q ≠ 11 → q ≠ 12 → J2 q = J0 q := fun q a b => by rw [g q a, f12 q b]; exact f q a b
    have one := v3_one hw (X := J2 11) h11'
    have go : pwV n T x (k + 1) ≠ (1, 0, 0) → Sat (ER l D aI aL ad) M_X7_unit P 196 [(0, .ref (ad 0)), (2, .int b), (3, .int (nI (k + 1)))] [] I J2 := by
      intro hne
      have hno' : ∀ j, 1 ≤ j → j ≤ k + 1 → pwV n T x j ≠ (1, 0, 0) := by
        intro j j1 j2
        by_cases cj : j = k + 1
        · rw [cj]; exact hne
        · exact hno j j1 (by omega)
      refine bX7_unit_196 (v196 := nI (k + 1 + 1)) (nI_addE (k + 1) 1) ?_
      rcases hbb with ⟨rfl, hs⟩ | ⟨rfl, c, hc, hs⟩
      · exact ih (k + 1) (by omega) J2 f2 h11' (fun c hc => bd_mono (hs c hc) (by decide)) hno'
      · have np : ¬ P1u n T x := fun q => hs (bd_mono (hU q (k + 1) c hc) (by decide))
        exact bX7_unit_91 (fun _ => bX7_unit_202 (kn np J2 f2)) (fun _ => bX7_unit_97 (fun _ => bX7_unit_202 (kn np J2 f2)) (fun q => absurd rfl q))
    refine bX7_unit_161 (fun c => go (fun q => c (one.mpr q).1)) (fun c0 => ?_)
    refine bX7_unit_172 (fun c => go (fun q => c (one.mpr q).2.1)) (fun c1 => ?_)
    refine bX7_unit_183 (fun c => go (fun q => c (one.mpr q).2.2)) (fun c2 => ?_)
    exact bX7_unit_194 (ky ⟨k + 1, by omega, by omega, one.mp ⟨c0, c1, c2⟩⟩ J2 f2)
theorem nrm7 {n : Nat} {T : Nat → Int} (rr : Rg n T) {x : V3} (hI : I 0 1 = nI n) (h9 : ∀ u c, u < n → c < n → J 9 (3 * u + c) = lI (vk (muv n T (eV u) x) c)) : Con (ER l D aI aL ad) M_X7_normOf yX7_normOf [.ref (ad 0)] I J (p_l (lI (nmU n T x)) I J) := by
  rcases rr with ⟨rfl, p, q, rfl, _, _⟩ | ⟨rfl, s, rfl, _, _⟩
  · refine Con.mono ?_ (c_normOf2 hI)
    rintro r I2 J2 ⟨rfl, rfl, rfl⟩
    refine ⟨?_, rfl, rfl⟩
    rw [show J2 9 0 = _ from h9 0 0 (by decide) (by decide), show J2 9 1 = _ from h9 0 1 (by decide) (by decide), show J2 9 3 = _ from h9 1 0 (by decide) (by decide), show J2 9 4 = _ from h9 1 1 (by decide) (by decide)]
    simp only [lI_mul, lI_add, lI_sub]
    congr 3
    show _ = x.1 * x.1 + x.1 * x.2.1 * q - x.2.1 * x.2.1 * p
    simp only [muv2, eV, vk, T2]
    grind
  · refine Con.mono ?_ (c_normOf3 hI)
    rintro r I2 J2 ⟨rfl, rfl, rfl⟩
    refine ⟨?_, rfl, rfl⟩
    rw [show J2 9 0 = _ from h9 0 0 (by decide) (by decide), show J2 9 1 = _ from h9 0 1 (by decide) (by decide), show J2 9 2 = _ from h9 0 2 (by decide) (by decide), show J2 9 3 = _ from h9 1 0 (by decide) (by decide), show J2 9 4 = _ from h9 1 1 (by decide) (by decide), show J2 9 5 = _ from h9 1 2 (by decide) (by decide), show J2 9 6 = _ from h9 2 0 (by decide) (by decide), show J2 9 7 = _ from h9 2 1 (by decide) (by decide), show J2 9 8 = _ from h9 2 2 (by decide) (by decide)]
    simp only [lI_mul, lI_add, lI_sub]
    congr 3
    simp only [muv3, mu3, eV, vk, nmU, nmS, nm3I, ms1, ms2, idx9, T3]
    simp only [Int.mul_zero, Int.mul_one, Int.zero_mul, Int.one_mul, Int.zero_add, Int.add_zero, show ¬ ((3 : Nat) = 2) by decide, if_false]
theorem c_unit7 {n ne : Nat} {T Ev : Nat → Int} (rr : Rg n T) (hU : ∀ x, (nmU n T x = 1 ∨ nmU n T x = -1) → USm n T x) {x : Int} (hx : rgi x) (hI : I 0 1 = nI n) (hT : ∀ i j c, i < n → j < n → c < 3 → J 2 (9 * i + 3 * j + c) = lI (T (9 * i + 3 * j + c))) (hne : I 0 13 = nI ne) (h100 : ne ≤ 100) (HE : ∀ t, t < 3 * ne → I 3 t = iI (Ev t) ∧ bd (Ev t) 300) : Con (ER l D aI aL ad) M_X7_unit yX7_unit [.ref (ad 0), .int (iI x)] I J (unQ n ne T Ev x I (fun J1 => ∀ q, q ≠ 9 → q ≠ 10 → q ≠ 11 → q ≠ 12 → J1 q = J q) J) := by
  refine Con.of (by decide +kernel) rfl (Nat.le_of_ble_eq_true rfl) ?_
  have h0 := rr.n
  refine bX7_unit_0 ?_
  refine v_X7_203 dX7_unit_1 rfl ⟨rfl, rfl, Nat.le_of_ble_eq_true rfl, Nat.le_of_ble_eq_true rfl⟩ (c_isField) rfl rfl (Nat.le_of_ble_eq_true rfl) (fun r I1 J1 hq => ?_)
  obtain ⟨rfl, e1, e2⟩ := hq
  obtain rfl := e1.symm
  obtain rfl := e2.symm
  rw [fld_pos h0 hI]
  refine bX7_unit_4 (fun _ => bX7_unit_14 ?_) (fun c => absurd c (by decide))
  refine v_X7_232 dX7_unit_16 rfl ⟨rfl, rfl, Nat.le_of_ble_eq_true rfl, Nat.le_of_ble_eq_true rfl⟩ (c_isElement7) rfl rfl (Nat.le_of_ble_eq_true rfl) (fun r I1 J1 hq => ?_)
  obtain ⟨rfl, e1, e2⟩ := hq
  obtain rfl := e1.symm
  obtain rfl := e2.symm
  rw [hne, inB_I hx (m := ne) (by omega)]
  by_cases cx : 0 ≤ x ∧ x < ne
  rotate_left
  · rw [if_neg cx]
    refine bX7_unit_19 (fun c => absurd rfl c) (fun _ => bX7_unit_22 ?_)
    refine v_X7_84 dX7_unit_24 rfl ⟨rfl, rfl, Nat.le_of_ble_eq_true rfl, Nat.le_of_ble_eq_true rfl⟩ (c_refuse 1 (by decide) (x := -1) rfl) rfl rfl (Nat.le_of_ble_eq_true rfl) (fun r I1 J1 hq => ?_)
    obtain ⟨rfl, rfl, rfl⟩ := hq
    exact bX7_unit_27 (Or.inl ⟨cx, rfl, rfl, rfl⟩)
  rw [if_pos cx]
  have h2 : ∀ c, c < 3 → (I 3 (3 * x.toNat + c)).toInt64 = lI (vk (rowV Ev x.toNat) c) := fun c hc => by
    have := HE (3 * x.toNat + c) (by omega)
    rw [rowV_vk _ _ hc, this.1]
    exact iI_lI ⟨by have := this.2.1; omega, by have := this.2.2; omega⟩
  have hb : ∀ c, c < 3 → bd (vk (rowV Ev x.toNat) c) 300 := fun c hc => by rw [rowV_vk _ _ hc]; exact (HE _ (by omega)).2
  have bN := nmU_bd rr hb
  have gN := bd_rg bN (by decide)
  have hUx := hU (rowV Ev x.toNat)
  refine bX7_unit_19 (fun _ => bX7_unit_28 ?_) (fun c => absurd c (by decide))
  rw [iI_nat cx.1]
  refine v_X7_235 dX7_unit_34 rfl ⟨rfl, rfl, Nat.le_of_ble_eq_true rfl, Nat.le_of_ble_eq_true rfl⟩ (c_brings10 (i := x.toNat) (by omega)) rfl rfl (Nat.le_of_ble_eq_true rfl) (fun r I1 J1 hq => ?_)
  obtain ⟨rfl, e1, u0, u1, u2, f⟩ := hq
  obtain rfl := e1.symm
  have h10 : ∀ c, c < 3 → J1 10 c = lI (vk (rowV Ev x.toNat) c) := by
    intro c hc
    rcases below3 hc with rfl | rfl | rfl
    · rw [u0]; exact h2 0 (by decide)
    · rw [u1]; exact h2 1 (by decide)
    · rw [u2]; exact h2 2 (by decide)
  have hT1 : ∀ i j c, i < n → j < n → c < 3 → J1 2 (9 * i + 3 * j + c) = lI (T (9 * i + 3 * j + c)) := fun i j c a b d => by rw [f 2 (by decide)]; exact hT i j c a b d
  refine bX7_unit_37 ?_
  refine v_X7_225 dX7_unit_42 rfl ⟨rfl, rfl, Nat.le_of_ble_eq_true rfl, Nat.le_of_ble_eq_true rfl⟩ (c_actsI rr hI hT1 (x := rowV Ev x.toNat) (fun c hc => h10 c (by omega))) rfl rfl (Nat.le_of_ble_eq_true rfl) (fun r I2 J2 hq => ?_)
  obtain ⟨rfl, e1, w9, f9⟩ := hq
  obtain rfl := e1.symm
  refine bX7_unit_45 ?_
  refine v_X7_193 dX7_unit_46 rfl ⟨rfl, rfl, Nat.le_of_ble_eq_true rfl, Nat.le_of_ble_eq_true rfl⟩ (nrm7 rr hI w9) rfl rfl (Nat.le_of_ble_eq_true rfl) (fun r I2 J3 hq => ?_)
  obtain ⟨rfl, e1, e2⟩ := hq
  obtain rfl := e1.symm
  obtain rfl := e2.symm
  refine v_X7_90 dX7_unit_49 rfl ⟨rfl, rfl, Nat.le_of_ble_eq_true rfl, Nat.le_of_ble_eq_true rfl⟩ (c_abs gN (by have := bN.1; omega)) rfl rfl (Nat.le_of_ble_eq_true rfl) (fun r I2 J3 hq => ?_)
  obtain ⟨rfl, e1, e2⟩ := hq
  obtain rfl := e1.symm
  obtain rfl := e2.symm
  have ga : rg (((nmU n T (rowV Ev x.toNat)).natAbs : Nat) : Int) := ⟨by omega, by have := bN.1; have := bN.2; omega⟩
  have fr : ∀ q, q ≠ 9 → q ≠ 10 → q ≠ 11 → q ≠ 12 → J2 q = J q := fun q a b _ _ => (f9 q a).trans (f q b)
  refine bX7_unit_52 (fun c => ?_) (fun c => bX7_unit_57 (Or.inr ⟨cx, rfl, fr, Or.inl ⟨fun q => c ?_, rfl⟩⟩))
  rotate_left
  · rcases q with q | q <;> rw [q] <;> rfl
  have c1 := (lI_eq ga (b := 1) ⟨by omega, by omega⟩).mp c
  have hN : nmU n T (rowV Ev x.toNat) = 1 ∨ nmU n T (rowV Ev x.toNat) = -1 := by omega
  refine bX7_unit_59 (v60 := nI 0) rfl ?_
  refine bX7_unit_61 (fun c => absurd c (by decide)) (fun _ => bX7_unit_66 (fun c => absurd rfl c) (fun _ => bX7_unit_75 ?_))
  refine bX7_unit_80 (s1 := 0) (v81 := nI 1) (by decide) rfl ?_
  refine bX7_unit_61 (fun c => absurd c (by decide)) (fun _ => bX7_unit_66 (fun _ => bX7_unit_79 ?_) (fun c => absurd c (by decide)))
  refine bX7_unit_80 (s1 := 1) (v81 := nI 2) (by decide) rfl ?_
  refine bX7_unit_61 (fun c => absurd c (by decide)) (fun _ => bX7_unit_66 (fun _ => bX7_unit_79 ?_) (fun c => absurd c (by decide)))
  refine bX7_unit_80 (s1 := 2) (v81 := nI 3) (by decide) rfl ?_
  refine bX7_unit_61 (fun _ => bX7_unit_87 (v88 := 1) (v90 := nI 1) rfl rfl ?_) (fun c => absurd (by decide) c)
  refine un7_loop rr hb (hUx hN) hI (J0 := J2) (fun i j c a b d => by rw [f9 2 (by decide)]; exact hT1 i j c a b d) (fun c hc => by rw [f9 10 (by decide)]; exact h10 c hc) (fun hp Jz g => Or.inr ⟨cx, rfl, fun q a b c d => (g q c d).trans (fr q a b c d), Or.inr ⟨hN, Or.inl ⟨hp, rfl⟩⟩⟩) (fun hp Jz g => Or.inr ⟨cx, rfl, fun q a b c d => (g q c d).trans (fr q a b c d), Or.inr ⟨hN, Or.inr ⟨hp, rfl⟩⟩⟩) 12 0 rfl _ (fun q h _ => by rw [sa_uJ_ne h, sa_uJ_ne h, sa_uJ_ne h]) (fun c hc => ?_) (fun c hc => ?_) (fun j a b => absurd a (by omega))
  · rcases below3 hc with rfl | rfl | rfl
    · rw [sa_uJ_off (by decide), sa_uJ_off (by decide), sa_uJ_at]; rfl
    · rw [sa_uJ_off (by decide), sa_uJ_at]; rfl
    · rw [sa_uJ_at]; rfl
  · rcases below3 hc with rfl | rfl | rfl
    · exact (show bd 1 1000000 from ⟨by decide, by decide⟩)
    · exact (show bd 0 1000000 from ⟨by decide, by decide⟩)
    · exact (show bd 0 1000000 from ⟨by decide, by decide⟩)
end UP
section UQ
variable {l0 : Launch} {D : va_G} {aI aL : ClassId} {ad ad' : Nat → Nat} {I I' : sa_I} {J J' : sa_J} {N : sa_I → sa_J → sa_I → sa_J → Prop} {a1 a2 a3 : Int32} {n ne : Nat} {T Ev : Nat → Int}
theorem st_unit (rr : Rg n T) (hU : ∀ x, (nmU n T x = 1 ∨ nmU n T x = -1) → USm n T x) (hI : I 4 0 = nI n) (hT : ∀ t, t < 27 → J 8 t = lI (T t)) (hI' : I' 0 1 = nI n) (hT' : ∀ i j c, i < n → j < n → c < 3 → J' 2 (9 * i + 3 * j + c) = lI (T (9 * i + 3 * j + c))) (HE : ElS n ne Ev I J I') (hN : ∀ J1 J2, SC J J1 → SR J' J2 → N I J1 I' J2) (hR : N (rf I 1) J (rf I' 1) J') : la_Step l0 D aI aL ad ad' N 10 a1 a2 a3 I J I' J' := by
  obtain ⟨x, hx, rfl⟩ := iI_of a1
  obtain ⟨h100, hne, hne', HEv, _⟩ := HE
  refine ⟨_, _, c_unit6 rr hU hx hI hT hne h100 (fun t ht => ⟨(HEv t ht).1, (HEv t ht).2.2⟩), c_unit7 rr hU hx hI' hT' hne' h100 (fun t ht => ⟨(HEv t ht).2.1, (HEv t ht).2.2⟩), fun r1 I1 J1 r2 I2 J2 P Q => ?_⟩
  rcases P with ⟨a, rfl, rfl, rfl⟩ | ⟨a, rfl, f, P⟩
  · rcases Q with ⟨b, rfl, rfl, rfl⟩ | ⟨b, _⟩
    · exact ⟨⟨_, rfl, rfl⟩, hR⟩
    · exact absurd b a
  · rcases Q with ⟨b, _⟩ | ⟨_, rfl, g, Q⟩
    · exact absurd a b
    · have nx := hN J1 J2 (fun q hk => by unfold kC at hk; exact f q (by omega) (by omega) (by omega)) ⟨fun q hq => g q (by omega) (by omega) (by omega) (by omega), fun t _ => by rw [g 0 (by decide) (by decide) (by decide) (by decide)]⟩
      rcases P with ⟨p, rfl⟩ | ⟨p, ⟨p1, rfl⟩ | ⟨p1, rfl⟩⟩
      · rcases Q with ⟨_, rfl⟩ | ⟨q, _⟩
        · exact ⟨⟨_, rfl, rfl⟩, nx⟩
        · exact absurd q p
      · rcases Q with ⟨q, _⟩ | ⟨_, ⟨_, rfl⟩ | ⟨q1, _⟩⟩
        · exact absurd p q
        · exact ⟨⟨_, rfl, rfl⟩, nx⟩
        · exact absurd p1 q1
      · rcases Q with ⟨q, _⟩ | ⟨_, ⟨q1, _⟩ | ⟨_, rfl⟩⟩
        · exact absurd p q
        · exact absurd q1 p1
        · exact ⟨⟨_, rfl, rfl⟩, nx⟩
end UQ
