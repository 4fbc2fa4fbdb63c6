/-- the primes over p: exponent, degree, rows -/
def Spc (n : Nat) (T : Nat → Int) (p : Nat) (E : List PE) : Prop :=
  (wu n T p p = [] ∧ E = [(1, (n : Int), smR n p)]) ∨
  ((wu n T p p).length = n ∧ E = (wu n T p p).map (pe p)) ∨
  (n = 2 ∧ ∃ x, wu n T p p = [x] ∧ E = [(2, 1, prR p x.1 x.2)]) ∨
  (n = 3 ∧ ∃ x, wu n T p p = [x] ∧ ram n T p x ∧ E = [(3, 1, prR p x.1 x.2)]) ∨
  (n = 3 ∧ ∃ x, wu n T p p = [x] ∧ ¬ ram n T p x ∧ ∃ R, Hm R ∧ R2 n R ∧ (∀ v, Sp R v ↔ qv n T p x v) ∧ E = [(1, 1, prR p x.1 x.2), (1, 2, R)]) ∨
  (n = 3 ∧ ∃ x y, wu n T p p = [x, y] ∧ ram n T p x ∧ E = [(2, 1, prR p x.1 x.2), (1, 1, prR p y.1 y.2)]) ∨
  (n = 3 ∧ ∃ x y, wu n T p p = [x, y] ∧ ¬ ram n T p x ∧ E = [(1, 1, prR p x.1 x.2), (2, 1, prR p y.1 y.2)])
theorem sm3_ex {p : Int} {x : V3} (g : Sp (smR 3 p) x) : ∃ t, x = vmu p t := by
  rw [Sp_smR (Or.inr rfl)] at g
  obtain ⟨⟨a, ha⟩, ⟨b, hb⟩, g2⟩ := g
  obtain ⟨c, hc⟩ := g2 rfl
  exact ⟨(a, b, c), v3_ext ha hb hc⟩
theorem vmu_cancel {p : Int} (hp : p ≠ 0) {x y : V3} (h : vmu p x = vmu p y) : x = y := by
  have h0 : p * x.1 = p * y.1 := congrArg (fun v : V3 => v.1) h
  have h1 : p * x.2.1 = p * y.2.1 := congrArg (fun v : V3 => v.2.1) h
  have h2 : p * x.2.2 = p * y.2.2 := congrArg (fun v : V3 => v.2.2) h
  exact v3_ext (Int.eq_of_mul_eq_mul_left hp h0) (Int.eq_of_mul_eq_mul_left hp h1) (Int.eq_of_mul_eq_mul_left hp h2)
/-- the square of a prime of degree 1 has p just if it is twice there -/
theorem sq_iff {s : Nat → Int} (rr : Rg 3 (T3 s)) (hm : mxK s = true) {p : Nat} (hp2 : p ≤ 97) (hq : ipr (p : Int) = true) {x : Nat × Nat} (hx : isw 3 (T3 s) p x) {R : Nat → Int} (hR : Hm R) (hp : ∀ H, Grp H → (In3 H R ↔ (In3 H (smR 3 ((p : Int) * p)) ∧ ∀ i, i < 3 → ∀ j, j < 3 → H (muv 3 (T3 s) (rowV (prR p x.1 x.2) i) (rowV (prR p x.1 x.2) j))))) : R 0 = p ↔ ram 3 (T3 s) p x := by
  have hP := prm_small (by omega) hq
  have p2 := hP.1
  have hH := prR_Hm hx.1 hx.lt
  have rin : ∀ i, i < 3 → (p : Int) ∣ ph (-(x.1 : Int)) (-(x.2 : Int)) (rowV (prR p x.1 x.2) i) := by
    intro i hi
    have := (in3_rowsN (Or.inr rfl) hH.1 (fun h => absurd h (by decide)) (Sp (prR p x.1 x.2)) (fun h => absurd h (by decide))).mp (Sp_in _) i hi
    exact Sp_prR.mp this
  constructor
  · intro h0 v hv
    have g : Grp (fun z => ∃ t, (p : Int) ∣ ph (-(x.1 : Int)) (-(x.2 : Int)) t ∧ muv 3 (T3 s) v z = vmu p t) := by
      refine ⟨⟨(0, 0, 0), by unfold ph; dsimp only; exact ⟨0, by omega⟩, by rw [muv_zero]; unfold vmu; simp⟩, ?_⟩
      rintro a b ⟨t, t1, t2⟩ ⟨r, r1, r2⟩
      refine ⟨vsu t r, by rw [ph_sub]; exact Int.dvd_sub t1 r1, ?_⟩
      rw [muv_sub, t2, r2]
      refine v3_ext ?_ ?_ ?_ <;> unfold vsu vmu <;> dsimp only <;> grind
    have sq : ∀ z, ∃ t, (p : Int) ∣ ph (-(x.1 : Int)) (-(x.2 : Int)) t ∧ muv 3 (T3 s) v (vmu ((p : Int) * p) z) = vmu p t := by
      intro z
      refine ⟨vmu p (muv 3 (T3 s) v z), by rw [ph_smul]; exact Int.dvd_mul_right _ _, ?_⟩
      rw [muv_mul]
      refine v3_ext ?_ ?_ ?_ <;> unfold vmu <;> dsimp only <;> grind
    have key := ((hp _ g).mpr ⟨⟨?_, ?_, ?_⟩, fun i hi j hj => ?_⟩).1
    · obtain ⟨t, t1, t2⟩ := key
      have e : ((R 0, 0, 0) : V3) = vmu p (oneV 3) := by
        have o : oneV 3 = (1, 0, 0) := rfl
        rw [o, h0]; refine v3_ext ?_ ?_ ?_ <;> unfold vmu <;> dsimp only <;> omega
      rw [e, muv_mul, muv_one_r (Or.inr rfl)] at t2
      rw [vmu_cancel (by omega) t2]; exact t1
    · have := sq (1, 0, 0)
      have e : vmu ((p : Int) * p) (1, 0, 0) = (smR 3 ((p : Int) * p) 0, 0, 0) := by
        refine v3_ext ?_ ?_ ?_ <;> unfold vmu <;> dsimp only
        · show _ = (p : Int) * p
          rw [Int.mul_one]
        · rw [Int.mul_zero]
        · rw [Int.mul_zero]
      rw [e] at this; exact this
    · have := sq (0, 1, 0)
      have e : vmu ((p : Int) * p) (0, 1, 0) = (smR 3 ((p : Int) * p) 3, smR 3 ((p : Int) * p) 4, 0) := by
        refine v3_ext ?_ ?_ ?_ <;> unfold vmu <;> dsimp only
        · show _ = (0 : Int)
          rw [Int.mul_zero]
        · show _ = (p : Int) * p
          rw [Int.mul_one]
        · rw [Int.mul_zero]
      rw [e] at this; exact this
    · have := sq (0, 0, 1)
      have e : vmu ((p : Int) * p) (0, 0, 1) = (smR 3 ((p : Int) * p) 6, smR 3 ((p : Int) * p) 7, smR 3 ((p : Int) * p) 8) := by
        refine v3_ext ?_ ?_ ?_ <;> unfold vmu <;> dsimp only
        · show _ = (0 : Int)
          rw [Int.mul_zero]
        · show _ = (0 : Int)
          rw [Int.mul_zero]
        · show _ = (p : Int) * p
          rw [Int.mul_one]
      rw [e] at this; exact this
    · obtain ⟨t, ht⟩ := sm3_ex (hv _ (rin i hi))
      refine ⟨muv 3 (T3 s) t (rowV (prR p x.1 x.2) j), by rw [muv_comm]; exact ph_zero hx.2.2 (rin j hj), ?_⟩
      rw [← muv_assoc rr, ht, muv_comm, muv_mul, muv_comm]
  · intro hr
    have rows := ((hp _ (Sp_grp R)).mp (Sp_in R)).2
    have half : ∀ i, i < 3 → ∀ z, Sp (prR p x.1 x.2) z → Sp R (muv 3 (T3 s) (rowV (prR p x.1 x.2) i) z) := by
      intro i hi z hz
      exact ((in3_rowsN (Or.inr rfl) hH.1 (fun h => absurd h (by decide)) (fun z => Sp R (muv 3 (T3 s) (rowV (prR p x.1 x.2) i) z)) (fun h => absurd h (by decide))).mpr (fun j hj => rows i hi j hj)).sp ((Sp_grp R).div 3 (T3 s) _) hz
    have all : ∀ y z, Sp (prR p x.1 x.2) y → Sp (prR p x.1 x.2) z → Sp R (muv 3 (T3 s) y z) := by
      intro y z hy hz
      have := ((in3_rowsN (Or.inr rfl) hH.1 (fun h => absurd h (by decide)) (fun y => Sp R (muv 3 (T3 s) z y)) (fun h => absurd h (by decide))).mpr (fun i hi => by rw [muv_comm]; exact half i hi z hz)).sp ((Sp_grp R).div 3 (T3 s) _) hy
      rw [muv_comm]; exact this
    have hpR := inv_all3 rr hm hp2 hq hx (Sp R) (Sp_grp R) (fun h => absurd h (by decide)) (fun y z hy hz => all y z (Sp_prR.mpr hy) (Sp_prR.mpr (hr z hz)))
    obtain ⟨i, j, k, e0, e1, e2⟩ := hpR
    dsimp only at e0 e1 e2
    have k0 : k = 0 := mul_zero_pos hR.1.2.2.2.2.2 e2.symm
    subst k0
    have j0 : j = 0 := mul_zero_pos hR.1.2.2.2.2.1 (by omega)
    subst j0
    have hin : In3 (Sp (prR p x.1 x.2)) R := by
      refine (hp _ (Sp_grp _)).mpr ⟨⟨?_, ?_, ?_⟩, fun i hi j hj => ?_⟩
      · rw [Sp_prR]; unfold ph; dsimp only
        exact ⟨p, by show (p : Int) * p + 0 * _ + 0 * _ = _; omega⟩
      · rw [Sp_prR]; unfold ph; dsimp only
        refine ⟨p * -(x.1 : Int), ?_⟩
        show (0 : Int) + (p : Int) * p * _ + 0 * _ = _
        grind
      · rw [Sp_prR]; unfold ph; dsimp only
        refine ⟨p * -(x.2 : Int), ?_⟩
        show (0 : Int) + 0 * _ + (p : Int) * p * _ = _
        grind
      · rw [Sp_prR]; exact ph_zero hx.2.2 (rin i hi)
    have h1 := Sp_prR.mp hin.1
    unfold ph at h1
    dsimp only at h1
    obtain ⟨m, hm'⟩ := h1
    have e3 : R 0 = m * p := by rw [Int.mul_comm]; omega
    exact (eq_of_mul hR.1.2.2.2.1 (by omega) e3 (by omega : (p : Int) = i * R 0)).1
def spF (I I1 : sa_I) (J J1 : sa_J) : Prop := (∀ q, q ≠ 14 → q ≠ 21 → q ≠ 22 → q ≠ 23 → I1 q = I q) ∧ (∀ t, t ≠ 0 → t ≠ 8 → I1 21 t = I 21 t) ∧ (∀ q, q ≠ 9 → q ≠ 10 → q ≠ 14 → q ≠ 15 → q ≠ 16 → q ≠ 18 → q ≠ 19 → q ≠ 20 → q ≠ 24 → q ≠ 25 → q ≠ 26 → J1 q = J q) ∧ ∀ t, t ≠ 1 → J1 26 t = J 26 t
/-- the end of the search: what finishCube changes -/
def fcF (I I1 : sa_I) (J J1 : sa_J) : Prop := (∀ q, q ≠ 14 → q ≠ 21 → q ≠ 22 → q ≠ 23 → I1 q = I q) ∧ (∀ t, t ≠ 0 → I1 21 t = I 21 t) ∧ (∀ q, q ≠ 9 → q ≠ 14 → q ≠ 15 → q ≠ 16 → q ≠ 18 → q ≠ 19 → q ≠ 20 → q ≠ 24 → J1 q = J q)
theorem CS.keep {E : List PE} {I I1 : sa_I} {J J1 : sa_J} (h : CS E I J) (h21 : I1 21 0 = I 21 0) (h22 : I1 22 = I 22) (h23 : I1 23 = I 23) (h24 : ∀ t, t < 9 * E.length → J1 24 t = J 24 t) : CS E I1 J1 := by
  refine ⟨by rw [h21]; exact h.1, fun i e he => ?_⟩
  have hl := (List.getElem?_eq_some_iff.mp he).1
  obtain ⟨a, b, c⟩ := h.2 i e he
  exact ⟨by rw [h22]; exact a, by rw [h23]; exact b, fun t ht => by rw [h24 _ (by omega)]; exact c t ht⟩
section PW
variable {l : Launch} {D : va_G} {aI aL : ClassId} {ad : Nat → Nat} {P : sa_P} {I : sa_I} {J : sa_J}
theorem c_finishCube {s : Nat → Int} (rr : Rg 3 (T3 s)) (hm : mxK s = true) {p : Nat} (hp2 : p ≤ 97) (hq : ipr (p : Int) = true) (hL0 : wu 3 (T3 s) p p ≠ []) (hF : FS 3 (T3 s) p (wu 3 (T3 s) p p) I J) : Con (EC l D aI aL ad) M_X5_finishCube yX5_finishCube [.ref (ad 21), .int (nI p)] I J (fun r I1 J1 => r = none ∧ (∃ E, Spc 3 (T3 s) p E ∧ CS E I1 J1) ∧ fcF I I1 J J1) := by
  refine Con.of (by decide +kernel) rfl (Nat.le_of_ble_eq_true rfl) ?_
  have hP := prm_small (by omega) hq
  have p2 := hP.1
  have len := wu_len rr hP
  obtain ⟨hI, hT, _, hC⟩ := hF
  have h21 : I 21 0 = nI (wu 3 (T3 s) p p).length := by have := hC.1; rw [List.length_map] at this; exact this
  refine bX5_finishCube_0 (fun c => ?_) (fun c => bX5_finishCube_8 ⟨rfl, ⟨_, Or.inr (Or.inl ⟨by rw [h21, nI_lit 2, nJ_le (by omega) (by omega)] at c; omega, rfl⟩), hC⟩, ⟨fun _ _ _ _ _ => rfl, fun _ _ => rfl, fun _ _ _ _ _ _ _ _ _ => rfl⟩⟩)
  rw [h21, nI_lit 2, nJ_le (by omega) (by omega)] at c
  obtain ⟨x, L, hL⟩ : ∃ x L, wu 3 (T3 s) p p = x :: L := by
    rcases hw : wu 3 (T3 s) p p with _ | ⟨x, L⟩
    · exact absurd hw hL0
    · exact ⟨x, L, rfl⟩
  have hx : isw 3 (T3 s) p x := wu_isw (by rw [hL]; simp)
  have idx := isw_IdR rr hp2 hx
  have okx := IdR.ok rr idx
  have hX : ∀ t, t < 9 → J 24 (0 + t) = lI (prR p x.1 x.2 t) := by
    intro t ht
    have := (hC.2 0 (pe p x) (by rw [hL]; rfl)).2.2 t ht
    rw [show 0 + t = 9 * 0 + t by omega]; exact this
  refine bX5_finishCube_9 ?_
  have pp : (p : Int) * p ≤ 97 * 97 := Int.mul_le_mul (by omega) (by omega) (by omega) (by omega)
  refine v_X5_107 dX5_finishCube_23 rfl ⟨rfl, rfl, Nat.le_of_ble_eq_true rfl, Nat.le_of_ble_eq_true rfl⟩ (c_makeProduct hI hT okx okx (show (p : Int) * p ≤ 1000000 by omega) rr (p1 := 0) (p3 := 0) aJ_C24 (by decide) aJ_C24 (by decide) (by decide) (by decide) (by decide) (by decide) hX hX) rfl rfl (Nat.le_of_ble_eq_true rfl) (fun r I1 J1 hp => ?_)
  obtain ⟨rfl, sI, oJ, R, hLH, hprod⟩ := hp
  have key := sq_iff rr hm hp2 hq hx hLH.2.1 hprod
  have hC1 : CS ((wu 3 (T3 s) p p).map (pe p)) I1 J1 := hC.keep (by rw [sI 21 (by decide)]) (sI 22 (by decide)) (sI 23 (by decide)) (fun t _ => by rw [oJ 24 (by decide) (by decide) (by decide) (by decide)])
  have h211 : I1 21 0 = nI (wu 3 (T3 s) p p).length := by rw [sI 21 (by decide)]; exact h21
  have test : (J1 15 0 = (nI p).toInt64) ↔ ram 3 (T3 s) p x := by
    rw [← key, (hLH.1 0 (by decide)).1, nI_L (by omega)]
    have b0 := (hLH.1 0 (by decide)).2
    have b1 : R 0 ≤ (p : Int) * p := b0.2
    exact lI_eq ⟨by omega, by omega⟩ ⟨by omega, by omega⟩
  have frI : ∀ q, q ≠ 14 → q ≠ 21 → q ≠ 22 → q ≠ 23 → I1 q = I q := fun q a _ _ _ => sI q a
  have frJ : ∀ q, q ≠ 9 → q ≠ 14 → q ≠ 15 → q ≠ 16 → q ≠ 18 → q ≠ 19 → q ≠ 20 → q ≠ 24 → J1 q = J q := fun q a b c d _ _ _ _ => oJ q a b c d
  -- exponents written at a place
  have wr : ∀ (E' : List PE) (i : Nat) (v : Int32), Spc 3 (T3 s) p E' → CS E' (sa_uI I1 22 i v) J1 → (fun r I2 J2 => r = none ∧ (∃ E, Spc 3 (T3 s) p E ∧ CS E I2 J2) ∧ fcF I I2 J J2 : sa_P) none (sa_uI I1 22 i v) J1 := by
    intro E' i v h1 h2
    exact ⟨rfl, ⟨E', h1, h2⟩, ⟨fun q a b c d => by rw [sa_uI_ne c]; exact frI q a b c d, fun t ht => by rw [sa_uI_ne (by decide), sI 21 (by decide)], frJ⟩⟩
  have x22 : I1 22 0 = iI 1 ∧ I1 23 0 = iI 1 ∧ ∀ t, t < 9 → J1 24 (9 * 0 + t) = lI (prR p x.1 x.2 t) := hC1.2 0 (pe p x) (by rw [hL]; rfl)
  rcases L with _ | ⟨y, L⟩
  · -- one way
    have h1 : I1 21 0 = nI 1 := by rw [h211, hL]; rfl
    have go : ∀ v : Int32, (v = 0 → ¬ ram 3 (T3 s) p x) → (v ≠ 0 → ram 3 (T3 s) p x) → Sat (EC l D aI aL ad) M_X5_finishCube (fun r I2 J2 => r = none ∧ (∃ E, Spc 3 (T3 s) p E ∧ CS E I2 J2) ∧ fcF I I2 J J2) 49 [(0, .ref (ad 21)), (1, .int (nI p))] [.int v] I1 J1 := by
      intro v v0 v1
      refine bX5_finishCube_49 (fun _ => ?_) (fun c => absurd c (by rw [h1]; decide))
      refine bX5_finishCube_76 (fun c => ?_) (fun c => ?_)
      · have nr := v0 c
        refine bX5_finishCube_90 ?_
        rw [nI_L (show p < 2 ^ 31 by omega)]
        refine v_X5_56 dX5_finishCube_100 rfl ⟨rfl, rfl, Nat.le_of_ble_eq_true rfl, Nat.le_of_ble_eq_true rfl⟩ (c_startMultiples (n := 3) (m := (p : Int)) (Or.inr rfl) (by omega) (by omega)) rfl rfl (Nat.le_of_ble_eq_true rfl) (fun r I2 J2 hp => ?_)
        obtain ⟨rfl, sI2, sJ2, hLS⟩ := hp
        refine bX5_finishCube_103 ?_
        refine s_copy (n0 := 9) (sp := 0) (dp := 18) (n := 9) (n' := 27) aJ_C15 aJ_C24 dX5_finishCube_122 (by decide +kernel) (Nat.le_of_ble_eq_true rfl) (Nat.le_of_ble_eq_true rfl) (by decide) (by decide) (by decide) (by decide) (by decide) ?_
        generalize hJa : sa_rJ J2 24 (va_cpy (J2 15) (J2 24) 0 18 9) = Ja
        have fa : ∀ q, q ≠ 24 → Ja q = J2 q := fun q hq => by rw [← hJa]; exact sa_rJ_ne hq
        have a18 : ∀ t, t < 9 → Ja 24 (18 + t) = lI (smR 3 p t) := fun t ht => by
          rw [← hJa, sa_rJ_eq]; unfold va_cpy; rw [if_pos ⟨by omega, by omega⟩, show 0 + (18 + t - 18) = t by omega]; exact (hLS.2.2.1 t ht).1
        have a0 : ∀ t, t < 9 → Ja 24 (0 + t) = lI (prR p x.1 x.2 t) := fun t ht => by
          rw [← hJa, sa_rJ_eq]; unfold va_cpy; rw [if_neg (by omega), sJ2 24 (by decide) (by decide), show 0 + t = 9 * 0 + t by omega]; exact x22.2.2 t ht
        refine bX5_finishCube_125 ?_
        have hI2 : I2 4 0 = nI 3 := by rw [sI2 4 (by decide), sI 4 (by decide)]; exact hI
        have hT2 : ∀ t, t < 27 → Ja 8 t = lI (T3 s t) := fun t ht => by rw [fa 8 (by decide), sJ2 8 (by decide) (by decide), oJ 8 (by decide) (by decide) (by decide) (by decide)]; exact hT t ht
        refine v_X5_111 dX5_finishCube_140 rfl ⟨rfl, rfl, Nat.le_of_ble_eq_true rfl, Nat.le_of_ble_eq_true rfl⟩ (c_makeQuotient hI2 hT2 rr (smR_IdR (Or.inr rfl) (T3 s) (by omega) hp2) okx (p3 := 0) aJ_C24 (by decide) (by decide) (by decide) (p1 := 18) aJ_C24 (by decide) (by decide) (by decide) (by decide) a18 a0) rfl rfl (Nat.le_of_ble_eq_true rfl) (fun r I3 J3 hp => ?_)
        obtain ⟨rfl, sI3, sJ3, R', hQS, hq'⟩ := hp
        refine bX5_finishCube_143 ?_
        have hC3 : CS [pe p x] I3 J3 := by
          refine ⟨by rw [sI3 21 (by decide), sI2 21 (by decide)]; exact h1, fun i e he => ?_⟩
          have hi : i = 0 := by have := (List.getElem?_eq_some_iff.mp he).1; simp at this; exact this
          subst hi
          have he' : pe p x = e := by simpa using he
          subst he'
          refine ⟨by rw [sI3 22 (by decide), sI2 22 (by decide)]; exact x22.1, by rw [sI3 23 (by decide), sI2 23 (by decide)]; exact x22.2.1, fun t ht => ?_⟩
          rw [sJ3 24 (by decide) (by decide) (by decide) (by decide) (by decide) (by decide) (by decide), show 9 * 0 + t = 0 + t by omega]; exact a0 t ht
        refine v_X5_62 dX5_finishCube_146 rfl ⟨rfl, rfl, Nat.le_of_ble_eq_true rfl, Nat.le_of_ble_eq_true rfl⟩ (c_keepMade (x := 1) (y := 2) (R := R') (show [pe p x].length ≤ 2 by simp) hC3 (fun t ht => (hQS.1 t ht).1)) rfl rfl (Nat.le_of_ble_eq_true rfl) (fun r I4 J4 hp => ?_)
        obtain ⟨rfl, hC4, F4⟩ := hp
        refine bX5_finishCube_149 ⟨rfl, ⟨_, Or.inr (Or.inr (Or.inr (Or.inr (Or.inl ⟨rfl, x, hL, nr, R', hQS.2.1, hQS.2.2.1, fun v => ?_, rfl⟩)))), hC4⟩, ⟨fun q a b c d => ?_, fun t ht => ?_, fun q a b c d e f g h => ?_⟩⟩
        · rw [hq' v]; exact qv_rows rr hx v
        · rw [F4.1 q a b c d, sI3 q a, sI2 q a, sI q a]
        · rw [F4.2.1 t ht, sI3 21 (by decide), sI2 21 (by decide), sI 21 (by decide)]
        · rw [F4.2.2 q b c h, sJ3 q a b c d e f g, fa q h, sJ2 q b c, oJ q a b c d]
      · refine bX5_finishCube_80 (v86 := iI 3) rfl (bX5_finishCube_149 (wr _ _ _ (Or.inr (Or.inr (Or.inr (Or.inl ⟨rfl, x, hL, v1 c, rfl⟩)))) ?_))
        refine ⟨by rw [sa_uI_ne (by decide)]; exact h1, fun i e he => ?_⟩
        have hi : i = 0 := by have := (List.getElem?_eq_some_iff.mp he).1; simp at this; exact this
        subst hi
        have he' : ((3, 1, prR p x.1 x.2) : PE) = e := by simpa using he
        subst he'
        exact ⟨by rw [sa_uI_at], by rw [sa_uI_ne (by decide)]; exact x22.2.1, x22.2.2⟩
    refine bX5_finishCube_26 (fun c => bX5_finishCube_48 (go 0 (fun _ h => c (test.mpr h)) (fun c => absurd rfl c))) (fun c => bX5_finishCube_44 (go 1 (fun c => absurd c (by decide)) (fun _ => test.mp c)))
  · -- two ways
    have hLn : L = [] := by
      rw [hL] at c
      rcases L with _ | ⟨z, L⟩
      · rfl
      · simp only [List.length_cons] at c; omega
    subst hLn
    have h1 : I1 21 0 = nI 2 := by rw [h211, hL]; rfl
    have y22 : I1 22 1 = iI 1 ∧ I1 23 1 = iI 1 ∧ ∀ t, t < 9 → J1 24 (9 * 1 + t) = lI (prR p y.1 y.2 t) := hC1.2 1 (pe p y) (by rw [hL]; rfl)
    have two : ∀ i : Nat, i < 2 → i = 0 ∨ i = 1 := fun i h => by omega
    refine bX5_finishCube_26 (fun c => bX5_finishCube_48 ?_) (fun c => bX5_finishCube_44 ?_)
    · refine bX5_finishCube_49 (fun c => absurd h1 c) (fun _ => bX5_finishCube_58 (fun _ => bX5_finishCube_70 ?_) (fun c => absurd rfl c))
      refine bX5_finishCube_71 (s1 := 1) (v72 := iI 2) (by decide) rfl (bX5_finishCube_149 (wr _ _ _ (Or.inr (Or.inr (Or.inr (Or.inr (Or.inr (Or.inr ⟨rfl, x, y, hL, fun h => c (test.mpr h), rfl⟩)))))) ?_))
      refine ⟨by rw [sa_uI_ne (by decide)]; exact h1, fun i e he => ?_⟩
      have hi := two i (List.getElem?_eq_some_iff.mp he).1
      rcases hi with rfl | rfl
      · have he' : ((1, 1, prR p x.1 x.2) : PE) = e := by simpa using he
        subst he'
        exact ⟨by rw [sa_uI_if, if_neg (by omega)]; exact x22.1, by rw [sa_uI_ne (by decide)]; exact x22.2.1, x22.2.2⟩
      · have he' : ((2, 1, prR p y.1 y.2) : PE) = e := by simpa using he
        subst he'
        exact ⟨by rw [sa_uI_at], by rw [sa_uI_ne (by decide)]; exact y22.2.1, y22.2.2⟩
    · refine bX5_finishCube_49 (fun c => absurd h1 c) (fun _ => bX5_finishCube_58 (fun c => absurd c (by decide)) (fun _ => bX5_finishCube_66 ?_))
      refine bX5_finishCube_71 (s1 := 0) (v72 := iI 2) (by decide) rfl (bX5_finishCube_149 (wr _ _ _ (Or.inr (Or.inr (Or.inr (Or.inr (Or.inr (Or.inl ⟨rfl, x, y, hL, test.mp c, rfl⟩)))))) ?_))
      refine ⟨by rw [sa_uI_ne (by decide)]; exact h1, fun i e he => ?_⟩
      have hi := two i (List.getElem?_eq_some_iff.mp he).1
      rcases hi with rfl | rfl
      · have he' : ((2, 1, prR p x.1 x.2) : PE) = e := by simpa using he
        subst he'
        exact ⟨by rw [sa_uI_at], by rw [sa_uI_ne (by decide)]; exact x22.2.1, x22.2.2⟩
      · have he' : ((1, 1, prR p y.1 y.2) : PE) = e := by simpa using he
        subst he'
        exact ⟨by rw [sa_uI_if, if_neg (by omega)]; exact y22.1, by rw [sa_uI_ne (by decide)]; exact y22.2.1, y22.2.2⟩
end PW
