theorem gcd_many {N w : Int} (hN : 0 < N) (hw : 0 ≤ w) : (0 : Int) < Int.gcd N w ∧ (Int.gcd N w : Int) ≤ N ∧ (∃ u, w = u * (Int.gcd N w : Int)) ∧ (N / (Int.gcd N w : Int)) * (Int.gcd N w : Int) = N ∧ ∀ a, N ∣ a * w → N / (Int.gcd N w : Int) ∣ a := by
  have hg0 : 0 < Int.gcd N w := Nat.gcd_pos_of_pos_left _ (by omega)
  obtain ⟨k, ek⟩ := Int.gcd_dvd_left N w
  obtain ⟨u, eu⟩ := Int.gcd_dvd_right N w
  have hk : N / (Int.gcd N w : Int) = k := quo_ex (by omega) (by rw [Int.mul_comm]; exact ek)
  have hle : (Int.gcd N w : Int) ≤ N := pos_le_of_mul (by omega) hN (by rw [Int.mul_comm] at ek; exact ek)
  refine ⟨by omega, hle, ⟨u, by rw [Int.mul_comm]; exact eu⟩, by rw [hk, Int.mul_comm]; exact ek.symm, ?_⟩
  intro a ha
  have hc := Nat.coprime_div_gcd_div_gcd (m := N.natAbs) (n := w.natAbs) hg0
  have hkN : N / (Int.gcd N w : Int) = ((N.natAbs / Nat.gcd N.natAbs w.natAbs : Nat) : Int) := by
    have e1 : (N.natAbs : Int) = N := by omega
    rw [Int.natCast_ediv, e1]; rfl
  rw [hkN, Int.ofNat_dvd_left]
  refine hc.dvd_of_dvd_mul_right ?_
  have h1 : N.natAbs ∣ a.natAbs * w.natAbs := by rw [← Int.natAbs_mul]; exact Int.natAbs_dvd_natAbs.mpr ha
  have d1 : Nat.gcd N.natAbs w.natAbs ∣ N.natAbs := Nat.gcd_dvd_left _ _
  have d2 : Nat.gcd N.natAbs w.natAbs ∣ w.natAbs := Nat.gcd_dvd_right _ _
  obtain ⟨n1, en⟩ := d1
  obtain ⟨w1, ew⟩ := d2
  have hgn : 0 < Nat.gcd N.natAbs w.natAbs := hg0
  have q1 : N.natAbs / Nat.gcd N.natAbs w.natAbs = n1 := Nat.div_eq_of_eq_mul_right hgn en
  have q2 : w.natAbs / Nat.gcd N.natAbs w.natAbs = w1 := Nat.div_eq_of_eq_mul_right hgn ew
  rw [q1, q2]
  generalize Nat.gcd N.natAbs w.natAbs = g at *
  rw [en, ew] at h1
  obtain ⟨r, er⟩ := h1
  refine ⟨r, Nat.eq_of_mul_eq_mul_left hgn ?_⟩
  have e1 : g * (a.natAbs * w1) = a.natAbs * (g * w1) := by rw [Nat.mul_left_comm]
  rw [e1, er, Nat.mul_assoc]
/-- what a weight is: linear, and nothing for multiples of W -/
def Lin (N W : Int) (f : V3 → Int) : Prop := (∀ a b, f (vad a b) = f a + f b) ∧ (∀ k a, f (vmu k a) = k * f a) ∧ ∀ z, N ∣ f (vmu W z)
theorem Lin.sub {N W : Int} {f : V3 → Int} (h : Lin N W f) (a b : V3) : f (vsu a b) = f a - f b := by
  have e : vsu a b = vad a (vmu (-1) b) := v3_eq (by show a.1 - b.1 = a.1 + -1 * b.1; omega) (by show a.2.1 - b.2.1 = a.2.1 + -1 * b.2.1; omega) (by show a.2.2 - b.2.2 = a.2.2 + -1 * b.2.2; omega)
  rw [e, h.1, h.2.1]; omega
theorem Lin.grp {N W : Int} {f : V3 → Int} (h : Lin N W f) : Grp (fun v => N ∣ f v) := by
  refine ⟨?_, fun a b ha hb => ?_⟩
  · have := h.2.2 (0, 0, 0)
    have e : vmu W (0, 0, 0) = (0, 0, 0) := v3_eq (by simp) (by simp) (by simp)
    rw [e] at this; exact this
  · show N ∣ f (vsu a b)
    rw [h.sub]; exact Int.dvd_sub ha hb
/-- the cut row's weight -/
theorem Lin.cut {N W q : Int} {f : V3 → Int} (h : Lin N W f) (a b : V3) : N ∣ (f ((a.1 - q * b.1) % W, (a.2.1 - q * b.2.1) % W, (a.2.2 - q * b.2.2) % W) - (f a - q * f b)) := by
  have e0 := Int.mul_ediv_add_emod (a.1 - q * b.1) W
  have e1 := Int.mul_ediv_add_emod (a.2.1 - q * b.2.1) W
  have e2 := Int.mul_ediv_add_emod (a.2.2 - q * b.2.2) W
  have hz := h.2.2 ((a.1 - q * b.1) / W, (a.2.1 - q * b.2.1) / W, (a.2.2 - q * b.2.2) / W)
  have e : vsu a (vmu q b) = vad ((a.1 - q * b.1) % W, (a.2.1 - q * b.2.1) % W, (a.2.2 - q * b.2.2) % W) (vmu W ((a.1 - q * b.1) / W, (a.2.1 - q * b.2.1) / W, (a.2.2 - q * b.2.2) / W)) := by
    refine v3_eq ?_ ?_ ?_ <;> simp only [vmu] <;> omega
  have e3 : f a - q * f b = f (vad ((a.1 - q * b.1) % W, (a.2.1 - q * b.2.1) % W, (a.2.2 - q * b.2.2) % W) (vmu W ((a.1 - q * b.1) / W, (a.2.1 - q * b.2.1) / W, (a.2.2 - q * b.2.2) / W))) := by rw [← e, h.sub, h.2.1]
  rw [e3, h.1]
  have e4 : ∀ x y : Int, x - (x + y) = -y := by intro x y; omega
  rw [e4]; exact (Int.dvd_neg).mpr hz
section GA
variable {l : Launch} {D : va_G} {aI aL : ClassId} {ad : Nat → Nat} {P : sa_P} {I : sa_I}
/-- the copied rows and their weights -/
def GA (n : Nat) (N : Int) (f : V3 → Int) (C w : Nat → Int) (J : sa_J) : Prop := (∀ t, t < 9 → J 18 t = lI (C t) ∧ 0 ≤ C t ∧ C t ≤ 1000000) ∧ ∀ k, k < n → J 20 k = lI (w k) ∧ 0 ≤ w k ∧ w k ≤ N ∧ N ∣ (f (rowV C k) - w k)
theorem ga_loop0 {n : Nat} {N W : Int} {f : V3 → Int} (hf : Lin N W f) (hn : 1 < n) (hn3 : n ≤ 3) (hN : N ≤ 1000000) (hW0 : 0 < W) (hW : W ≤ 1000000) : ∀ (fu st : Nat) (C w : Nat → Int) (J : sa_J), eu fu (w 1) (w 0) → st + fu ≤ 999 → GA n N f C w J → (∀ (C' w' : Nat → Int) (J' : sa_J), GA n N f C' w' J' → w' 0 = 0 → (∀ k, k ≠ 0 → k ≠ 1 → w' k = w k) → (∀ q, q ≠ 18 → q ≠ 20 → J' q = J q) → (∀ H, Grp H → (∀ z, H (vmu W z)) → ((∀ k, k < n → H (rowV C k)) ↔ (∀ k, k < n → H (rowV C' k)))) → Sat (EC l D aI aL ad) M_X2_gather P 192 [(0, .ref (ad 13)), (1, .long (lI W)), (3, .int (nI 0))] [] I J') → Sat (EC l D aI aL ad) M_X2_gather P 36 [(0, .ref (ad 13)), (1, .long (lI W)), (3, .int (nI 0)), (4, .int (nI st))] [] I J := by
  intro fu
  induction fu with
  | zero =>
    intro st C w J he hs hG kk
    refine bX2_gather_36 (fun c => absurd ((nJ_le (a := 1000) (by decide) (by omega)).mp c) (by omega)) (fun _ => ?_)
    refine bX2_gather_44 (j48 := 0) rfl (by decide) (fun _ => kk C w J hG he (fun _ _ _ => rfl) (fun _ _ _ => rfl) (fun H _ _ => Iff.rfl)) (fun c => absurd ?_ c)
    rw [(hG.2 0 (by omega)).1, he]; rfl
  | succ fu ih =>
    intro st C w J he hs hG kk
    refine bX2_gather_36 (fun c => absurd ((nJ_le (a := 1000) (by decide) (by omega)).mp c) (by omega)) (fun _ => ?_)
    obtain ⟨m0, l0, u0, d0⟩ := hG.2 0 (by omega)
    obtain ⟨m1, l1, u1, d1⟩ := hG.2 1 (by omega)
    refine bX2_gather_44 (j48 := 0) rfl (by decide) (fun c => ?_) (fun c => ?_)
    · rw [m0] at c
      have c0 := (lI_eq ⟨by omega, by omega⟩ (b := 0) ⟨by omega, by omega⟩).mp c
      exact kk C w J hG c0 (fun _ _ _ => rfl) (fun _ _ _ => rfl) (fun H _ _ => Iff.rfl)
    · have c0 : w 0 ≠ 0 := fun q => c (by rw [m0, q]; rfl)
      have cz := c
      have e2 : eu fu (w 0) (w 1 % w 0) := he.resolve_left c0
      have hq := quo_bd (b := w 0) l1 u1 (by omega)
      have hdm := Int.mul_ediv_add_emod (w 1) (w 0)
      have hmc := Int.mul_comm (w 0) (w 1 / w 0)
      have hm0 := Int.emod_nonneg (w 1) c0
      have hm1 := Int.emod_lt_of_pos (w 1) (show 0 < w 0 by omega)
      have eq : lI (w 1) / lI (w 0) = lI (w 1 / w 0) := lI_quo l1 (by omega) (by omega) (by omega)
      generalize hqe : w 1 / w 0 = q at *
      have er : w 1 % w 0 = w 1 - q * w 0 := by omega
      rw [er] at e2
      have hq2 : 0 ≤ q ∧ q ≤ 1000000 := ⟨hq.1, by omega⟩
      refine bX2_gather_55 (j61 := 1) (j67 := 0) (v70 := lI q) (j78 := 1) (j86 := 0) (v90 := lI (w 1 - q * w 0)) (j98 := 1) (j103 := 0) (v105 := lI (w 0)) (j110 := 0) (v117 := nI 0) rfl (by decide) rfl (by decide) cz rfl (by decide) rfl (by decide) rfl rfl (by decide) (by decide) rfl (by decide) (by rw [m1, m0, eq]) (by rw [m1, m0, lI_mul, lI_sub]) m0 rfl ?_
      obtain ⟨ca0, cal0, cau0⟩ := hG.1 3 (by decide)
      obtain ⟨cb0, cbl0, cbu0⟩ := hG.1 0 (by decide)
      have hb0 := qc_bd hq2 ⟨cbl0, cbu0⟩ (by decide)
      refine bX2_gather_119 (fun c => absurd c (by decide)) (fun _ => ?_)
      refine bX2_gather_129 (j136 := 3) (j144 := 0) rfl (by decide) rfl (by decide) ?_
      refine v_X2_88 dX2_gather_150 rfl ⟨rfl, rfl, Nat.le_of_ble_eq_true rfl, Nat.le_of_ble_eq_true rfl⟩ (c_rest (a := C 3 - q * C 0) (W := W) (z := (C 3 - q * C 0) % W) (by simp [sa_uJ_if, ca0, cb0, lI_mul, lI_sub]) rfl ⟨by omega, by omega⟩ hW0 hW rfl) rfl rfl (Nat.le_of_ble_eq_true rfl) (fun r I1 J1 hp => ?_)
      obtain ⟨rfl, e2', e3'⟩ := hp
      obtain rfl := e2'.symm
      obtain rfl := e3'.symm
      refine bX2_gather_153 (j162 := 3) (j167 := 0) (v170 := lI (C 0)) (j175 := 0) (v180 := nI 1) rfl rfl (by decide) (by decide) rfl (by decide) (by simp [sa_uJ_if, cb0]) rfl ?_
      obtain ⟨ca1, cal1, cau1⟩ := hG.1 4 (by decide)
      obtain ⟨cb1, cbl1, cbu1⟩ := hG.1 1 (by decide)
      have hb1 := qc_bd hq2 ⟨cbl1, cbu1⟩ (by decide)
      refine bX2_gather_119 (fun c => absurd c (by decide)) (fun _ => ?_)
      refine bX2_gather_129 (j136 := 4) (j144 := 1) rfl (by decide) rfl (by decide) ?_
      refine v_X2_88 dX2_gather_150 rfl ⟨rfl, rfl, Nat.le_of_ble_eq_true rfl, Nat.le_of_ble_eq_true rfl⟩ (c_rest (a := C 4 - q * C 1) (W := W) (z := (C 4 - q * C 1) % W) (by simp [sa_uJ_if, ca1, cb1, lI_mul, lI_sub]) rfl ⟨by omega, by omega⟩ hW0 hW rfl) rfl rfl (Nat.le_of_ble_eq_true rfl) (fun r I1 J1 hp => ?_)
      obtain ⟨rfl, e2', e3'⟩ := hp
      obtain rfl := e2'.symm
      obtain rfl := e3'.symm
      refine bX2_gather_153 (j162 := 4) (j167 := 1) (v170 := lI (C 1)) (j175 := 1) (v180 := nI 2) rfl rfl (by decide) (by decide) rfl (by decide) (by simp [sa_uJ_if, cb1]) rfl ?_
      obtain ⟨ca2, cal2, cau2⟩ := hG.1 5 (by decide)
      obtain ⟨cb2, cbl2, cbu2⟩ := hG.1 2 (by decide)
      have hb2 := qc_bd hq2 ⟨cbl2, cbu2⟩ (by decide)
      refine bX2_gather_119 (fun c => absurd c (by decide)) (fun _ => ?_)
      refine bX2_gather_129 (j136 := 5) (j144 := 2) rfl (by decide) rfl (by decide) ?_
      refine v_X2_88 dX2_gather_150 rfl ⟨rfl, rfl, Nat.le_of_ble_eq_true rfl, Nat.le_of_ble_eq_true rfl⟩ (c_rest (a := C 5 - q * C 2) (W := W) (z := (C 5 - q * C 2) % W) (by simp [sa_uJ_if, ca2, cb2, lI_mul, lI_sub]) rfl ⟨by omega, by omega⟩ hW0 hW rfl) rfl rfl (Nat.le_of_ble_eq_true rfl) (fun r I1 J1 hp => ?_)
      obtain ⟨rfl, e2', e3'⟩ := hp
      obtain rfl := e2'.symm
      obtain rfl := e3'.symm
      refine bX2_gather_153 (j162 := 5) (j167 := 2) (v170 := lI (C 2)) (j175 := 2) (v180 := nI 3) rfl rfl (by decide) (by decide) rfl (by decide) (by simp [sa_uJ_if, cb2]) rfl ?_
      refine bX2_gather_119 (fun _ => ?_) (fun c => absurd (by decide) c)
      refine bX2_gather_186 (v186 := nI (st + 1)) (nI_addE st 1) ?_
      have mW : ∀ x : Int, 0 ≤ x % W ∧ x % W ≤ 1000000 := fun x => by have := mod_bd (a := x) hW0; exact ⟨this.1, by omega⟩
      refine ih (st + 1) (fun t => match t with | 3 => C 0 | 4 => C 1 | 5 => C 2 | 0 => (C 3 - q * C 0) % W | 1 => (C 4 - q * C 1) % W | 2 => (C 5 - q * C 2) % W | _ => C t) (fun t => match t with | 1 => w 0 | 0 => w 1 - q * w 0 | _ => w t) _ e2 (by omega) ⟨?_, ?_⟩ ?_
      · intro t ht
        rcases below9 ht with rfl | rfl | rfl | rfl | rfl | rfl | rfl | rfl | rfl
        · exact ⟨by simp [sa_uJ_if], (mW _).1, (mW _).2⟩
        · exact ⟨by simp [sa_uJ_if], (mW _).1, (mW _).2⟩
        · exact ⟨by simp [sa_uJ_if], (mW _).1, (mW _).2⟩
        · exact ⟨by simp [sa_uJ_if], cbl0, cbu0⟩
        · exact ⟨by simp [sa_uJ_if], cbl1, cbu1⟩
        · exact ⟨by simp [sa_uJ_if], cbl2, cbu2⟩
        · obtain ⟨x, y, z⟩ := hG.1 6 (by decide); exact ⟨by simp [sa_uJ_if, x], y, z⟩
        · obtain ⟨x, y, z⟩ := hG.1 7 (by decide); exact ⟨by simp [sa_uJ_if, x], y, z⟩
        · obtain ⟨x, y, z⟩ := hG.1 8 (by decide); exact ⟨by simp [sa_uJ_if, x], y, z⟩
      · intro k hk
        rcases below3 (show k < 3 by omega) with rfl | rfl | rfl
        · refine ⟨by simp [sa_uJ_if], show 0 ≤ w 1 - q * w 0 by omega, show w 1 - q * w 0 ≤ N by omega, ?_⟩
          have hc := hf.cut (q := q) (rowV C 1) (rowV C 0)
          have hd := Int.dvd_sub d1 (Int.dvd_mul_of_dvd_right d0 (b := q))
          have e : ∀ x y z u v : Int, (x - (y - q * z)) + ((y - u) - q * (z - v)) = x - (u - q * v) := by intro x y z u v; grind
          have := Int.dvd_add hc hd
          rw [e] at this
          exact this
        · exact ⟨by simp [sa_uJ_if], l0, u0, d0⟩
        · obtain ⟨x, y, z, u⟩ := hG.2 2 hk; exact ⟨by simp [sa_uJ_if, x], y, z, u⟩
      · intro C' w' J' G' z' s' f' r'
        refine kk C' w' J' G' z' (fun k h1 h2 => ?_) (fun q h1 h2 => ?_) (fun H g hw => ?_)
        · rw [s' k h1 h2]
          match k, h1, h2 with
          | 0, h1, h2 => exact absurd rfl h1
          | 1, h1, h2 => exact absurd rfl h2
          | 2, _, _ => rfl
          | k + 3, _, _ => rfl
        · rw [f' q h1 h2]; simp only [sa_uJ_ne h1, sa_uJ_ne h2]
        · refine Iff.trans ?_ (r' H g hw)
          have s := st_HA g (q := q) hw (a := rowV C 1) (b := rowV C 0)
          constructor
          · intro h k hk
            have q1 := s.mp ⟨h 1 (by omega), h 0 (by omega)⟩
            rcases below3 (show k < 3 by omega) with rfl | rfl | rfl
            · exact q1.2
            · exact q1.1
            · exact h 2 hk
          · intro h k hk
            have q1 := s.mpr ⟨h 1 (by omega), h 0 (by omega)⟩
            rcases below3 (show k < 3 by omega) with rfl | rfl | rfl
            · exact q1.2
            · exact q1.1
            · exact h 2 hk
theorem ga_loop1 {n : Nat} {N W : Int} {f : V3 → Int} (hf : Lin N W f) (hn : 2 < n) (hn3 : n ≤ 3) (hN : N ≤ 1000000) (hW0 : 0 < W) (hW : W ≤ 1000000) : ∀ (fu st : Nat) (C w : Nat → Int) (J : sa_J), eu fu (w 2) (w 1) → st + fu ≤ 999 → GA n N f C w J → (∀ (C' w' : Nat → Int) (J' : sa_J), GA n N f C' w' J' → w' 1 = 0 → (∀ k, k ≠ 1 → k ≠ 2 → w' k = w k) → (∀ q, q ≠ 18 → q ≠ 20 → J' q = J q) → (∀ H, Grp H → (∀ z, H (vmu W z)) → ((∀ k, k < n → H (rowV C k)) ↔ (∀ k, k < n → H (rowV C' k)))) → Sat (EC l D aI aL ad) M_X2_gather P 192 [(0, .ref (ad 13)), (1, .long (lI W)), (3, .int (nI 1))] [] I J') → Sat (EC l D aI aL ad) M_X2_gather P 36 [(0, .ref (ad 13)), (1, .long (lI W)), (3, .int (nI 1)), (4, .int (nI st))] [] I J := by
  intro fu
  induction fu with
  | zero =>
    intro st C w J he hs hG kk
    refine bX2_gather_36 (fun c => absurd ((nJ_le (a := 1000) (by decide) (by omega)).mp c) (by omega)) (fun _ => ?_)
    refine bX2_gather_44 (j48 := 1) rfl (by decide) (fun _ => kk C w J hG he (fun _ _ _ => rfl) (fun _ _ _ => rfl) (fun H _ _ => Iff.rfl)) (fun c => absurd ?_ c)
    rw [(hG.2 1 (by omega)).1, he]; rfl
  | succ fu ih =>
    intro st C w J he hs hG kk
    refine bX2_gather_36 (fun c => absurd ((nJ_le (a := 1000) (by decide) (by omega)).mp c) (by omega)) (fun _ => ?_)
    obtain ⟨m0, l0, u0, d0⟩ := hG.2 1 (by omega)
    obtain ⟨m1, l1, u1, d1⟩ := hG.2 2 (by omega)
    refine bX2_gather_44 (j48 := 1) rfl (by decide) (fun c => ?_) (fun c => ?_)
    · rw [m0] at c
      have c0 := (lI_eq ⟨by omega, by omega⟩ (b := 0) ⟨by omega, by omega⟩).mp c
      exact kk C w J hG c0 (fun _ _ _ => rfl) (fun _ _ _ => rfl) (fun H _ _ => Iff.rfl)
    · have c0 : w 1 ≠ 0 := fun q => c (by rw [m0, q]; rfl)
      have cz := c
      have e2 : eu fu (w 1) (w 2 % w 1) := he.resolve_left c0
      have hq := quo_bd (b := w 1) l1 u1 (by omega)
      have hdm := Int.mul_ediv_add_emod (w 2) (w 1)
      have hmc := Int.mul_comm (w 1) (w 2 / w 1)
      have hm0 := Int.emod_nonneg (w 2) c0
      have hm1 := Int.emod_lt_of_pos (w 2) (show 0 < w 1 by omega)
      have eq : lI (w 2) / lI (w 1) = lI (w 2 / w 1) := lI_quo l1 (by omega) (by omega) (by omega)
      generalize hqe : w 2 / w 1 = q at *
      have er : w 2 % w 1 = w 2 - q * w 1 := by omega
      rw [er] at e2
      have hq2 : 0 ≤ q ∧ q ≤ 1000000 := ⟨hq.1, by omega⟩
      refine bX2_gather_55 (j61 := 2) (j67 := 1) (v70 := lI q) (j78 := 2) (j86 := 1) (v90 := lI (w 2 - q * w 1)) (j98 := 2) (j103 := 1) (v105 := lI (w 1)) (j110 := 1) (v117 := nI 3) rfl (by decide) rfl (by decide) cz rfl (by decide) rfl (by decide) rfl rfl (by decide) (by decide) rfl (by decide) (by rw [m1, m0, eq]) (by rw [m1, m0, lI_mul, lI_sub]) m0 rfl ?_
      obtain ⟨ca0, cal0, cau0⟩ := hG.1 6 (by decide)
      obtain ⟨cb0, cbl0, cbu0⟩ := hG.1 3 (by decide)
      have hb0 := qc_bd hq2 ⟨cbl0, cbu0⟩ (by decide)
      refine bX2_gather_119 (fun c => absurd c (by decide)) (fun _ => ?_)
      refine bX2_gather_129 (j136 := 6) (j144 := 3) rfl (by decide) rfl (by decide) ?_
      refine v_X2_88 dX2_gather_150 rfl ⟨rfl, rfl, Nat.le_of_ble_eq_true rfl, Nat.le_of_ble_eq_true rfl⟩ (c_rest (a := C 6 - q * C 3) (W := W) (z := (C 6 - q * C 3) % W) (by simp [sa_uJ_if, ca0, cb0, lI_mul, lI_sub]) rfl ⟨by omega, by omega⟩ hW0 hW rfl) rfl rfl (Nat.le_of_ble_eq_true rfl) (fun r I1 J1 hp => ?_)
      obtain ⟨rfl, e2', e3'⟩ := hp
      obtain rfl := e2'.symm
      obtain rfl := e3'.symm
      refine bX2_gather_153 (j162 := 6) (j167 := 3) (v170 := lI (C 3)) (j175 := 3) (v180 := nI 4) rfl rfl (by decide) (by decide) rfl (by decide) (by simp [sa_uJ_if, cb0]) rfl ?_
      obtain ⟨ca1, cal1, cau1⟩ := hG.1 7 (by decide)
      obtain ⟨cb1, cbl1, cbu1⟩ := hG.1 4 (by decide)
      have hb1 := qc_bd hq2 ⟨cbl1, cbu1⟩ (by decide)
      refine bX2_gather_119 (fun c => absurd c (by decide)) (fun _ => ?_)
      refine bX2_gather_129 (j136 := 7) (j144 := 4) rfl (by decide) rfl (by decide) ?_
      refine v_X2_88 dX2_gather_150 rfl ⟨rfl, rfl, Nat.le_of_ble_eq_true rfl, Nat.le_of_ble_eq_true rfl⟩ (c_rest (a := C 7 - q * C 4) (W := W) (z := (C 7 - q * C 4) % W) (by simp [sa_uJ_if, ca1, cb1, lI_mul, lI_sub]) rfl ⟨by omega, by omega⟩ hW0 hW rfl) rfl rfl (Nat.le_of_ble_eq_true rfl) (fun r I1 J1 hp => ?_)
      obtain ⟨rfl, e2', e3'⟩ := hp
      obtain rfl := e2'.symm
      obtain rfl := e3'.symm
      refine bX2_gather_153 (j162 := 7) (j167 := 4) (v170 := lI (C 4)) (j175 := 4) (v180 := nI 5) rfl rfl (by decide) (by decide) rfl (by decide) (by simp [sa_uJ_if, cb1]) rfl ?_
      obtain ⟨ca2, cal2, cau2⟩ := hG.1 8 (by decide)
      obtain ⟨cb2, cbl2, cbu2⟩ := hG.1 5 (by decide)
      have hb2 := qc_bd hq2 ⟨cbl2, cbu2⟩ (by decide)
      refine bX2_gather_119 (fun c => absurd c (by decide)) (fun _ => ?_)
      refine bX2_gather_129 (j136 := 8) (j144 := 5) rfl (by decide) rfl (by decide) ?_
      refine v_X2_88 dX2_gather_150 rfl ⟨rfl, rfl, Nat.le_of_ble_eq_true rfl, Nat.le_of_ble_eq_true rfl⟩ (c_rest (a := C 8 - q * C 5) (W := W) (z := (C 8 - q * C 5) % W) (by simp [sa_uJ_if, ca2, cb2, lI_mul, lI_sub]) rfl ⟨by omega, by omega⟩ hW0 hW rfl) rfl rfl (Nat.le_of_ble_eq_true rfl) (fun r I1 J1 hp => ?_)
      obtain ⟨rfl, e2', e3'⟩ := hp
      obtain rfl := e2'.symm
      obtain rfl := e3'.symm
      refine bX2_gather_153 (j162 := 8) (j167 := 5) (v170 := lI (C 5)) (j175 := 5) (v180 := nI 6) rfl rfl (by decide) (by decide) rfl (by decide) (by simp [sa_uJ_if, cb2]) rfl ?_
      refine bX2_gather_119 (fun _ => ?_) (fun c => absurd (by decide) c)
      refine bX2_gather_186 (v186 := nI (st + 1)) (nI_addE st 1) ?_
      have mW : ∀ x : Int, 0 ≤ x % W ∧ x % W ≤ 1000000 := fun x => by have := mod_bd (a := x) hW0; exact ⟨this.1, by omega⟩
      refine ih (st + 1) (fun t => match t with | 6 => C 3 | 7 => C 4 | 8 => C 5 | 3 => (C 6 - q * C 3) % W | 4 => (C 7 - q * C 4) % W | 5 => (C 8 - q * C 5) % W | _ => C t) (fun t => match t with | 2 => w 1 | 1 => w 2 - q * w 1 | _ => w t) _ e2 (by omega) ⟨?_, ?_⟩ ?_
      · intro t ht
        rcases below9 ht with rfl | rfl | rfl | rfl | rfl | rfl | rfl | rfl | rfl
        · obtain ⟨x, y, z⟩ := hG.1 0 (by decide); exact ⟨by simp [sa_uJ_if, x], y, z⟩
        · obtain ⟨x, y, z⟩ := hG.1 1 (by decide); exact ⟨by simp [sa_uJ_if, x], y, z⟩
        · obtain ⟨x, y, z⟩ := hG.1 2 (by decide); exact ⟨by simp [sa_uJ_if, x], y, z⟩
        · exact ⟨by simp [sa_uJ_if], (mW _).1, (mW _).2⟩
        · exact ⟨by simp [sa_uJ_if], (mW _).1, (mW _).2⟩
        · exact ⟨by simp [sa_uJ_if], (mW _).1, (mW _).2⟩
        · exact ⟨by simp [sa_uJ_if], cbl0, cbu0⟩
        · exact ⟨by simp [sa_uJ_if], cbl1, cbu1⟩
        · exact ⟨by simp [sa_uJ_if], cbl2, cbu2⟩
      · intro k hk
        rcases below3 (show k < 3 by omega) with rfl | rfl | rfl
        · obtain ⟨x, y, z, u⟩ := hG.2 0 hk; exact ⟨by simp [sa_uJ_if, x], y, z, u⟩
        · refine ⟨by simp [sa_uJ_if], show 0 ≤ w 2 - q * w 1 by omega, show w 2 - q * w 1 ≤ N by omega, ?_⟩
          have hc := hf.cut (q := q) (rowV C 2) (rowV C 1)
          have hd := Int.dvd_sub d1 (Int.dvd_mul_of_dvd_right d0 (b := q))
          have e : ∀ x y z u v : Int, (x - (y - q * z)) + ((y - u) - q * (z - v)) = x - (u - q * v) := by intro x y z u v; grind
          have := Int.dvd_add hc hd
          rw [e] at this
          exact this
        · exact ⟨by simp [sa_uJ_if], l0, u0, d0⟩
      · intro C' w' J' G' z' s' f' r'
        refine kk C' w' J' G' z' (fun k h1 h2 => ?_) (fun q h1 h2 => ?_) (fun H g hw => ?_)
        · rw [s' k h1 h2]
          match k, h1, h2 with
          | 0, _, _ => rfl
          | 1, h1, h2 => exact absurd rfl h1
          | 2, h1, h2 => exact absurd rfl h2
          | k + 3, _, _ => rfl
        · rw [f' q h1 h2]; simp only [sa_uJ_ne h1, sa_uJ_ne h2]
        · refine Iff.trans ?_ (r' H g hw)
          have s := st_HA g (q := q) hw (a := rowV C 2) (b := rowV C 1)
          constructor
          · intro h k hk
            have q1 := s.mp ⟨h 2 (by omega), h 1 (by omega)⟩
            rcases below3 (show k < 3 by omega) with rfl | rfl | rfl
            · exact h 0 hk
            · exact q1.2
            · exact q1.1
          · intro h k hk
            have q1 := s.mpr ⟨h 2 (by omega), h 1 (by omega)⟩
            rcases below3 (show k < 3 by omega) with rfl | rfl | rfl
            · exact h 0 hk
            · exact q1.2
            · exact q1.1
theorem c_gather {n : Nat} {N W : Int} {f : V3 → Int} {R w : Nat → Int} {J : sa_J} (h0 : n = 2 ∨ n = 3) (hI : I 4 0 = nI n) (hf : Lin N W f) (hN : N ≤ 1000000) (hW0 : 0 < W) (hW : W ≤ 1000000) (hR : ∀ t, t < 9 → J 15 t = lI (R t) ∧ 0 ≤ R t ∧ R t ≤ 1000000) (hw : ∀ k, k < n → J 20 k = lI (w k) ∧ 0 ≤ w k ∧ w k ≤ N ∧ N ∣ (f (rowV R k) - w k)) : Con (EC l D aI aL ad) M_X2_gather yX2_gather [.ref (ad 13), .long (lI W)] I J (fun r I1 J1 => r = none ∧ I1 = I ∧ (∀ q, q ≠ 18 → q ≠ 20 → J1 q = J q) ∧ ∃ C w', GA n N f C w' J1 ∧ (∀ k, k + 1 < n → w' k = 0) ∧ (∀ H, Grp H → (∀ z, H (vmu W z)) → ((∀ k, k < n → H (rowV R k)) ↔ (∀ k, k < n → H (rowV C k))))) := by
  refine Con.of (by decide +kernel) rfl (Nat.le_of_ble_eq_true rfl) ?_
  refine bX2_gather_0 ?_
  refine s_copy (n0 := 9) (sp := 0) (dp := 0) (n := 9) (n' := 9) aJ_C15 aJ_C18 dX2_gather_15 (by decide +kernel) (Nat.le_of_ble_eq_true rfl) (Nat.le_of_ble_eq_true rfl) (by decide) (by decide) (by decide) (by decide) (by decide) ?_
  refine bX2_gather_18 (v19 := nI 0) rfl ?_
  have hG0 : GA n N f R w (sa_rJ J 18 (va_cpy (J 15) (J 18) 0 0 9)) := by
    refine ⟨fun t ht => ?_, fun k hk => ?_⟩
    · rw [sa_rJ_eq]; unfold va_cpy; rw [if_pos ⟨by omega, by omega⟩, Nat.sub_zero, Nat.zero_add]; exact hR t ht
    · rw [sa_rJ_ne (by decide)]; exact hw k hk
  refine bX2_gather_20 (fun c => absurd c (by rw [hI, show nI 0 + (1 : Int32) = nI 1 from rfl, nJ_le (by omega) (by decide)]; omega)) (fun _ => ?_)
  refine bX2_gather_33 (v34 := nI 0) rfl ?_
  refine ga_loop0 hf (by omega) (by omega) hN hW0 hW 40 0 R w _ (eu40 (hw 0 (by omega)).2.1 (by have := (hw 0 (by omega)).2.2.1; omega)) (by decide) hG0 (fun C1 w1 J1 G1 z1 s1 f1 r1 => ?_)
  refine bX2_gather_192 (v192 := nI 1) rfl ?_
  have fr1 : ∀ q, q ≠ 18 → q ≠ 20 → J1 q = J q := fun q h1 h2 => by rw [f1 q h1 h2, sa_rJ_ne h1]
  rcases h0 with rfl | rfl
  · refine bX2_gather_20 (fun _ => bX2_gather_198 ⟨rfl, rfl, fr1, C1, w1, G1, fun k hk => ?_, r1⟩) (fun c => absurd (by rw [hI]; decide) c)
    obtain rfl : k = 0 := by omega
    exact z1
  · refine bX2_gather_20 (fun c => absurd c (by rw [hI]; decide)) (fun _ => ?_)
    refine bX2_gather_33 (v34 := nI 0) rfl ?_
    refine ga_loop1 hf (by omega) (by omega) hN hW0 hW 40 0 C1 w1 J1 (eu40 (G1.2 1 (by omega)).2.1 (by have := (G1.2 1 (by omega)).2.2.1; omega)) (by decide) G1 (fun C2 w2 J2 G2 z2 s2 f2 r2 => ?_)
    refine bX2_gather_192 (v192 := nI 2) rfl ?_
    refine bX2_gather_20 (fun _ => bX2_gather_198 ⟨rfl, rfl, fun q h1 h2 => (f2 q h1 h2).trans (fr1 q h1 h2), C2, w2, G2, fun k hk => ?_, fun H g hw => (r1 H g hw).trans (r2 H g hw)⟩) (fun c => absurd (by rw [hI]; decide) c)
    have : k = 0 ∨ k = 1 := by omega
    rcases this with rfl | rfl
    · rw [s2 0 (by decide) (by decide)]; exact z1
    · exact z2
/-- the last row taken many times, cut down -/
def lastR (n : Nat) (C : Nat → Int) (m W : Int) (t : Nat) : Int := if 3 * (n - 1) ≤ t ∧ t < 3 * n then (C t * m) % W else C t
theorem kl_loop {n : Nat} {W : Int} {Y : Nat → Int} (h0 : n = 2 ∨ n = 3) (by' : ∀ t, t < 9 → 0 ≤ Y t ∧ Y t ≤ 1000000) : ∀ (d i0 : Nat) (I : sa_I) (J : sa_J) (R : Nat → Int), i0 + d = n → I 4 0 = nI n → (∀ t, t < 9 → J 18 t = lI (Y t)) → LatS n W R I J → (∀ J' R', (∀ q, q ≠ 15 → q ≠ 16 → J' q = J q) → LatS n W R' I J' → (∀ H, Grp H → (In3 H R' ↔ (In3 H R ∧ ∀ i, i0 ≤ i → i < n → H (rowV Y i)))) → Sat (EC l D aI aL ad) M_X2_keepLight P 123 [(0, .ref (ad 13))] [] I J') → Sat (EC l D aI aL ad) M_X2_keepLight P 90 [(0, .ref (ad 13)), (8, .int (nI i0))] [] I J := by
  intro d
  induction d with
  | zero =>
    intro i0 I J R hd hI hY hL kk
    refine bX2_keepLight_90 (fun _ => kk J R (fun _ _ _ => rfl) hL (fun H g => ⟨fun h => ⟨h, fun i h1 h2 => by omega⟩, fun h => h.1⟩)) (fun c => absurd ?_ c)
    rw [hI, nJ_le (by omega) (by omega)]; omega
  | succ d ih =>
    intro i0 I J R hd hI hY hL kk
    refine bX2_keepLight_90 (fun c => absurd c (by rw [hI, nJ_le (by omega) (by omega)]; omega)) (fun _ => ?_)
    refine bX2_keepLight_102 ?_
    rw [show (3 : Int32) * nI i0 = nI (3 * i0) from nI_mulE 3 i0]
    refine v_X2_59 dX2_keepLight_114 rfl ⟨rfl, rfl, Nat.le_of_ble_eq_true rfl, Nat.le_of_ble_eq_true rfl⟩ (c_includeN h0 (v := rowV Y i0) (p := 3 * i0) hL aJ_C18 (by decide) (by omega) (by decide) (fun j hj => ⟨by rw [rowV_vk Y i0 (by omega)]; exact hY (3 * i0 + j) (by omega), by rw [rowV_vk Y i0 (by omega)]; have := by' (3 * i0 + j) (by omega); exact ⟨by omega, by omega⟩⟩)) rfl rfl (Nat.le_of_ble_eq_true rfl) (fun r I1 J2 hp => ?_)
    obtain ⟨rfl, e2, f2, R', hL2, hH⟩ := hp
    obtain rfl := e2.symm
    refine bX2_keepLight_117 (v117 := nI (i0 + 1)) (nI_addE i0 1) ?_
    refine ih (i0 + 1) I J2 R' (by omega) hI (fun t ht => by rw [f2 18 (by decide) (by decide)]; exact hY t ht) hL2 (fun J' R2' s' L' H' => ?_)
    refine kk J' R2' (fun q h1 h2 => (s' q h1 h2).trans (f2 q h1 h2)) L' (fun H g => ?_)
    rw [H' H g, hH H g]
    constructor
    · rintro ⟨⟨a, b⟩, c⟩
      refine ⟨a, fun i h1 h2 => ?_⟩
      by_cases h : i = i0
      · subst h; exact b
      · exact c i (by omega) h2
    · rintro ⟨a, b⟩
      exact ⟨⟨a, b i0 (Nat.le_refl _) (by omega)⟩, fun i h1 h2 => b i (by omega) h2⟩
theorem kl_head2 {N W : Int} {C w : Nat → Int} {J : sa_J} (hI : I 4 0 = nI 2) (hN0 : 0 < N) (hN : N ≤ 1000000) (hW0 : 0 < W) (hW : W ≤ 1000000) (hC : ∀ t, t < 9 → J 18 t = lI (C t) ∧ 0 ≤ C t ∧ C t ≤ 1000000) (hw : J 20 1 = lI (w 1) ∧ 0 ≤ w 1 ∧ w 1 ≤ N) (kk : ∀ J', (∀ q, q ≠ 18 → J' q = J q) → (∀ t, t < 9 → J' 18 t = lI (lastR 2 C (N / (Int.gcd N (w 1) : Int)) W t)) → Sat (EC l D aI aL ad) M_X2_keepLight P 72 [(0, .ref (ad 13)), (3, .long (lI W))] [] I J') : Sat (EC l D aI aL ad) M_X2_keepLight P 0 [(0, .ref (ad 13)), (1, .long (lI N)), (3, .long (lI W))] [] I J := by
  obtain ⟨g0, g1, _, g3, _⟩ := gcd_many (w := w 1) hN0 hw.2.1
  refine bX2_keepLight_0 (v9 := nI 1) (j17 := 1) rfl (by decide) (by rw [hI]; rfl) ?_
  refine v_X2_98 dX2_keepLight_20 rfl ⟨rfl, rfl, Nat.le_of_ble_eq_true rfl, Nat.le_of_ble_eq_true rfl⟩ (c_gcd6 (a := N) (b := w 1) rfl hw.1 (by omega) hN hw.2.1 (by omega)) rfl rfl (Nat.le_of_ble_eq_true rfl) (fun r I1 J1 hp => ?_)
  obtain ⟨rfl, e2, e3⟩ := hp
  obtain rfl := e2.symm
  obtain rfl := e3.symm
  refine v_X2_101 dX2_keepLight_23 rfl ⟨rfl, rfl, Nat.le_of_ble_eq_true rfl, Nat.le_of_ble_eq_true rfl⟩ (c_part (a := N) (b := (Int.gcd N (w 1) : Int)) ⟨by omega, by omega⟩ ⟨by omega, by omega⟩ g0) rfl rfl (Nat.le_of_ble_eq_true rfl) (fun r I1 J1 hp => ?_)
  obtain ⟨rfl, e2, e3⟩ := hp
  obtain rfl := e2.symm
  obtain rfl := e3.symm
  rw [Int.tdiv_eq_ediv_of_nonneg (show 0 ≤ N by omega)]
  have qb := quo_bd (a := N) (b := (Int.gcd N (w 1) : Int)) (W := N) (by omega) (Int.le_refl _) g0
  generalize N / (Int.gcd N (w 1) : Int) = m at *
  refine bX2_keepLight_26 (v32 := nI 3) rfl ?_
  obtain ⟨c0, cl0, cu0⟩ := hC 3 (by decide)
  have hb0 := qc_bd (q := C 3) (c := m) (W := 1000000) ⟨cl0, cu0⟩ ⟨qb.1, by omega⟩ (by decide)
  refine bX2_keepLight_34 (fun c => absurd c (by decide)) (fun _ => ?_)
  refine bX2_keepLight_45 (j55 := 3) rfl (by decide) ?_
  refine v_X2_88 dX2_keepLight_62 rfl ⟨rfl, rfl, Nat.le_of_ble_eq_true rfl, Nat.le_of_ble_eq_true rfl⟩ (c_rest (a := C 3 * m) (W := W) (z := (C 3 * m) % W) (by rw [c0, lI_mul]) rfl ⟨by omega, by omega⟩ hW0 hW rfl) rfl rfl (Nat.le_of_ble_eq_true rfl) (fun r I1 J1 hp => ?_)
  obtain ⟨rfl, e2, e3⟩ := hp
  obtain rfl := e2.symm
  obtain rfl := e3.symm
  refine bX2_keepLight_65 (s1 := 3) (v66 := nI 4) (by decide) rfl ?_
  obtain ⟨c1, cl1, cu1⟩ := hC 4 (by decide)
  have hb1 := qc_bd (q := C 4) (c := m) (W := 1000000) ⟨cl1, cu1⟩ ⟨qb.1, by omega⟩ (by decide)
  refine bX2_keepLight_34 (fun c => absurd c (by decide)) (fun _ => ?_)
  refine bX2_keepLight_45 (j55 := 4) rfl (by decide) ?_
  refine v_X2_88 dX2_keepLight_62 rfl ⟨rfl, rfl, Nat.le_of_ble_eq_true rfl, Nat.le_of_ble_eq_true rfl⟩ (c_rest (a := C 4 * m) (W := W) (z := (C 4 * m) % W) (by simp [sa_uJ_if, c1, lI_mul]) rfl ⟨by omega, by omega⟩ hW0 hW rfl) rfl rfl (Nat.le_of_ble_eq_true rfl) (fun r I1 J1 hp => ?_)
  obtain ⟨rfl, e2, e3⟩ := hp
  obtain rfl := e2.symm
  obtain rfl := e3.symm
  refine bX2_keepLight_65 (s1 := 4) (v66 := nI 5) (by decide) rfl ?_
  obtain ⟨c2, cl2, cu2⟩ := hC 5 (by decide)
  have hb2 := qc_bd (q := C 5) (c := m) (W := 1000000) ⟨cl2, cu2⟩ ⟨qb.1, by omega⟩ (by decide)
  refine bX2_keepLight_34 (fun c => absurd c (by decide)) (fun _ => ?_)
  refine bX2_keepLight_45 (j55 := 5) rfl (by decide) ?_
  refine v_X2_88 dX2_keepLight_62 rfl ⟨rfl, rfl, Nat.le_of_ble_eq_true rfl, Nat.le_of_ble_eq_true rfl⟩ (c_rest (a := C 5 * m) (W := W) (z := (C 5 * m) % W) (by simp [sa_uJ_if, c2, lI_mul]) rfl ⟨by omega, by omega⟩ hW0 hW rfl) rfl rfl (Nat.le_of_ble_eq_true rfl) (fun r I1 J1 hp => ?_)
  obtain ⟨rfl, e2, e3⟩ := hp
  obtain rfl := e2.symm
  obtain rfl := e3.symm
  refine bX2_keepLight_65 (s1 := 5) (v66 := nI 6) (by decide) rfl ?_
  refine bX2_keepLight_34 (fun _ => kk _ (fun q hq => by simp only [sa_uJ_ne hq]) (fun t ht => ?_)) (fun c => absurd (by decide) c)
  rcases below9 ht with rfl | rfl | rfl | rfl | rfl | rfl | rfl | rfl | rfl
  · simp [sa_uJ_if, lastR, (hC 0 (by decide)).1]
  · simp [sa_uJ_if, lastR, (hC 1 (by decide)).1]
  · simp [sa_uJ_if, lastR, (hC 2 (by decide)).1]
  · simp [sa_uJ_if, lastR]
  · simp [sa_uJ_if, lastR]
  · simp [sa_uJ_if, lastR]
  · simp [sa_uJ_if, lastR, (hC 6 (by decide)).1]
  · simp [sa_uJ_if, lastR, (hC 7 (by decide)).1]
  · simp [sa_uJ_if, lastR, (hC 8 (by decide)).1]
theorem kl_head3 {N W : Int} {C w : Nat → Int} {J : sa_J} (hI : I 4 0 = nI 3) (hN0 : 0 < N) (hN : N ≤ 1000000) (hW0 : 0 < W) (hW : W ≤ 1000000) (hC : ∀ t, t < 9 → J 18 t = lI (C t) ∧ 0 ≤ C t ∧ C t ≤ 1000000) (hw : J 20 2 = lI (w 2) ∧ 0 ≤ w 2 ∧ w 2 ≤ N) (kk : ∀ J', (∀ q, q ≠ 18 → J' q = J q) → (∀ t, t < 9 → J' 18 t = lI (lastR 3 C (N / (Int.gcd N (w 2) : Int)) W t)) → Sat (EC l D aI aL ad) M_X2_keepLight P 72 [(0, .ref (ad 13)), (3, .long (lI W))] [] I J') : Sat (EC l D aI aL ad) M_X2_keepLight P 0 [(0, .ref (ad 13)), (1, .long (lI N)), (3, .long (lI W))] [] I J := by
  obtain ⟨g0, g1, _, g3, _⟩ := gcd_many (w := w 2) hN0 hw.2.1
  refine bX2_keepLight_0 (v9 := nI 2) (j17 := 2) rfl (by decide) (by rw [hI]; rfl) ?_
  refine v_X2_98 dX2_keepLight_20 rfl ⟨rfl, rfl, Nat.le_of_ble_eq_true rfl, Nat.le_of_ble_eq_true rfl⟩ (c_gcd6 (a := N) (b := w 2) rfl hw.1 (by omega) hN hw.2.1 (by omega)) rfl rfl (Nat.le_of_ble_eq_true rfl) (fun r I1 J1 hp => ?_)
  obtain ⟨rfl, e2, e3⟩ := hp
  obtain rfl := e2.symm
  obtain rfl := e3.symm
  refine v_X2_101 dX2_keepLight_23 rfl ⟨rfl, rfl, Nat.le_of_ble_eq_true rfl, Nat.le_of_ble_eq_true rfl⟩ (c_part (a := N) (b := (Int.gcd N (w 2) : Int)) ⟨by omega, by omega⟩ ⟨by omega, by omega⟩ g0) rfl rfl (Nat.le_of_ble_eq_true rfl) (fun r I1 J1 hp => ?_)
  obtain ⟨rfl, e2, e3⟩ := hp
  obtain rfl := e2.symm
  obtain rfl := e3.symm
  rw [Int.tdiv_eq_ediv_of_nonneg (show 0 ≤ N by omega)]
  have qb := quo_bd (a := N) (b := (Int.gcd N (w 2) : Int)) (W := N) (by omega) (Int.le_refl _) g0
  generalize N / (Int.gcd N (w 2) : Int) = m at *
  refine bX2_keepLight_26 (v32 := nI 6) rfl ?_
  obtain ⟨c0, cl0, cu0⟩ := hC 6 (by decide)
  have hb0 := qc_bd (q := C 6) (c := m) (W := 1000000) ⟨cl0, cu0⟩ ⟨qb.1, by omega⟩ (by decide)
  refine bX2_keepLight_34 (fun c => absurd c (by decide)) (fun _ => ?_)
  refine bX2_keepLight_45 (j55 := 6) rfl (by decide) ?_
  refine v_X2_88 dX2_keepLight_62 rfl ⟨rfl, rfl, Nat.le_of_ble_eq_true rfl, Nat.le_of_ble_eq_true rfl⟩ (c_rest (a := C 6 * m) (W := W) (z := (C 6 * m) % W) (by rw [c0, lI_mul]) rfl ⟨by omega, by omega⟩ hW0 hW rfl) rfl rfl (Nat.le_of_ble_eq_true rfl) (fun r I1 J1 hp => ?_)
  obtain ⟨rfl, e2, e3⟩ := hp
  obtain rfl := e2.symm
  obtain rfl := e3.symm
  refine bX2_keepLight_65 (s1 := 6) (v66 := nI 7) (by decide) rfl ?_
  obtain ⟨c1, cl1, cu1⟩ := hC 7 (by decide)
  have hb1 := qc_bd (q := C 7) (c := m) (W := 1000000) ⟨cl1, cu1⟩ ⟨qb.1, by omega⟩ (by decide)
  refine bX2_keepLight_34 (fun c => absurd c (by decide)) (fun _ => ?_)
  refine bX2_keepLight_45 (j55 := 7) rfl (by decide) ?_
  refine v_X2_88 dX2_keepLight_62 rfl ⟨rfl, rfl, Nat.le_of_ble_eq_true rfl, Nat.le_of_ble_eq_true rfl⟩ (c_rest (a := C 7 * m) (W := W) (z := (C 7 * m) % W) (by simp [sa_uJ_if, c1, lI_mul]) rfl ⟨by omega, by omega⟩ hW0 hW rfl) rfl rfl (Nat.le_of_ble_eq_true rfl) (fun r I1 J1 hp => ?_)
  obtain ⟨rfl, e2, e3⟩ := hp
  obtain rfl := e2.symm
  obtain rfl := e3.symm
  refine bX2_keepLight_65 (s1 := 7) (v66 := nI 8) (by decide) rfl ?_
  obtain ⟨c2, cl2, cu2⟩ := hC 8 (by decide)
  have hb2 := qc_bd (q := C 8) (c := m) (W := 1000000) ⟨cl2, cu2⟩ ⟨qb.1, by omega⟩ (by decide)
  refine bX2_keepLight_34 (fun c => absurd c (by decide)) (fun _ => ?_)
  refine bX2_keepLight_45 (j55 := 8) rfl (by decide) ?_
  refine v_X2_88 dX2_keepLight_62 rfl ⟨rfl, rfl, Nat.le_of_ble_eq_true rfl, Nat.le_of_ble_eq_true rfl⟩ (c_rest (a := C 8 * m) (W := W) (z := (C 8 * m) % W) (by simp [sa_uJ_if, c2, lI_mul]) rfl ⟨by omega, by omega⟩ hW0 hW rfl) rfl rfl (Nat.le_of_ble_eq_true rfl) (fun r I1 J1 hp => ?_)
  obtain ⟨rfl, e2, e3⟩ := hp
  obtain rfl := e2.symm
  obtain rfl := e3.symm
  refine bX2_keepLight_65 (s1 := 8) (v66 := nI 9) (by decide) rfl ?_
  refine bX2_keepLight_34 (fun _ => kk _ (fun q hq => by simp only [sa_uJ_ne hq]) (fun t ht => ?_)) (fun c => absurd (by decide) c)
  rcases below9 ht with rfl | rfl | rfl | rfl | rfl | rfl | rfl | rfl | rfl
  · simp [sa_uJ_if, lastR, (hC 0 (by decide)).1]
  · simp [sa_uJ_if, lastR, (hC 1 (by decide)).1]
  · simp [sa_uJ_if, lastR, (hC 2 (by decide)).1]
  · simp [sa_uJ_if, lastR, (hC 3 (by decide)).1]
  · simp [sa_uJ_if, lastR, (hC 4 (by decide)).1]
  · simp [sa_uJ_if, lastR, (hC 5 (by decide)).1]
  · simp [sa_uJ_if, lastR]
  · simp [sa_uJ_if, lastR]
  · simp [sa_uJ_if, lastR]
theorem lastR_bd {n : Nat} {C : Nat → Int} {m W : Int} (hW0 : 0 < W) (hW : W ≤ 1000000) (hC : ∀ t, t < 9 → 0 ≤ C t ∧ C t ≤ 1000000) : ∀ t, t < 9 → 0 ≤ lastR n C m W t ∧ lastR n C m W t ≤ 1000000 := by
  intro t ht
  unfold lastR
  by_cases h : 3 * (n - 1) ≤ t ∧ t < 3 * n
  · rw [if_pos h]; have := mod_bd (a := C t * m) hW0; exact ⟨this.1, by omega⟩
  · rw [if_neg h]; exact hC t ht
theorem c_keepLight {n : Nat} {N W : Int} {C w : Nat → Int} {J : sa_J} (h0 : n = 2 ∨ n = 3) (hI : I 4 0 = nI n) (hN0 : 0 < N) (hN : N ≤ 1000000) (hW0 : 0 < W) (hW : W ≤ 1000000) (hC : ∀ t, t < 9 → J 18 t = lI (C t) ∧ 0 ≤ C t ∧ C t ≤ 1000000) (hw : J 20 (n - 1) = lI (w (n - 1)) ∧ 0 ≤ w (n - 1) ∧ w (n - 1) ≤ N) : Con (EC l D aI aL ad) M_X2_keepLight yX2_keepLight [.ref (ad 13), .long (lI N), .long (lI W)] I J (fun r I1 J1 => r = none ∧ SCI I I1 ∧ (∀ q, q ≠ 14 → q ≠ 15 → q ≠ 16 → q ≠ 18 → J1 q = J q) ∧ ∃ R', LatH n W R' J1 ∧ ∀ H, Grp H → (In3 H R' ↔ (In3 H (smR n W) ∧ ∀ i, i < n → H (rowV (lastR n C (N / (Int.gcd N (w (n - 1)) : Int)) W) i)))) := by
  refine Con.of (by decide +kernel) rfl (Nat.le_of_ble_eq_true rfl) ?_
  have rest : ∀ J', (∀ q, q ≠ 18 → J' q = J q) → (∀ t, t < 9 → J' 18 t = lI (lastR n C (N / (Int.gcd N (w (n - 1)) : Int)) W t)) → Sat (EC l D aI aL ad) M_X2_keepLight (fun r I1 J1 => r = none ∧ SCI I I1 ∧ (∀ q, q ≠ 14 → q ≠ 15 → q ≠ 16 → q ≠ 18 → J1 q = J q) ∧ ∃ R', LatH n W R' J1 ∧ ∀ H, Grp H → (In3 H R' ↔ (In3 H (smR n W) ∧ ∀ i, i < n → H (rowV (lastR n C (N / (Int.gcd N (w (n - 1)) : Int)) W) i)))) 72 [(0, .ref (ad 13)), (3, .long (lI W))] [] I J' := by
    intro J' f1 h18
    have bl := lastR_bd (n := n) (m := N / (Int.gcd N (w (n - 1)) : Int)) hW0 hW (fun t ht => (hC t ht).2)
    generalize lastR n C (N / (Int.gcd N (w (n - 1)) : Int)) W = Y at *
    refine bX2_keepLight_72 ?_
    rw [hI]
    refine v_X2_45 dX2_keepLight_84 rfl ⟨rfl, rfl, Nat.le_of_ble_eq_true rfl, Nat.le_of_ble_eq_true rfl⟩ (c_startMultiples h0 hW0 hW) rfl rfl (Nat.le_of_ble_eq_true rfl) (fun r I1 J1 hp => ?_)
    obtain ⟨rfl, s1, f2, L1⟩ := hp
    refine bX2_keepLight_87 (v88 := nI 0) rfl ?_
    refine kl_loop h0 bl n 0 I1 J1 _ (by omega) (by rw [s1 4 (by decide)]; exact hI) (fun t ht => by rw [f2 18 (by decide) (by decide)]; exact h18 t ht) L1 (fun J3 R3 f3 L3 H3 => ?_)
    refine bX2_keepLight_123 ?_
    refine v_X2_63 dX2_keepLight_127 rfl ⟨rfl, rfl, Nat.le_of_ble_eq_true rfl, Nat.le_of_ble_eq_true rfl⟩ (c_settleN h0 L3) rfl rfl (Nat.le_of_ble_eq_true rfl) (fun r I4 J4 hp => ?_)
    obtain ⟨rfl, e2, f4, R4, L4, A4⟩ := hp
    obtain rfl := e2.symm
    refine bX2_keepLight_130 ⟨rfl, s1, fun q h14 h15 h16 h18 => by rw [f4 q h15, f3 q h15 h16, f2 q h14 h15, f1 q h18], R4, L4, fun H g => ?_⟩
    rw [← A4 H g, H3 H g]
    exact ⟨fun h => ⟨h.1, fun i hi => h.2 i (by omega) hi⟩, fun h => ⟨h.1, fun i _ hi => h.2 i hi⟩⟩
  rcases h0 with rfl | rfl
  · exact kl_head2 hI hN0 hN hW0 hW hC hw rest
  · exact kl_head3 hI hN0 hN hW0 hW hC hw rest
end GA
