/-- what joining two ideals gives -/
def JR (n : Nat) (T : Nat → Int) (w : Int) (X Y R : Nat → Int) : Prop := (w = 0 → ∀ H, Grp H → (In3 H R ↔ (In3 H X ∧ In3 H Y))) ∧ (w = 1 → Prod2 n T X Y R) ∧ (w = 2 → ∀ v, Sp R v ↔ ∀ i, i < n → Sp X (muv n T v (rowV Y i)))
theorem JR.alike {n : Nat} {T : Nat → Int} {w : Int} {X Y R R' : Nat → Int} (h0 : 0 ≤ w) (h2 : w ≤ 2) (a : JR n T w X Y R) (b : JR n T w X Y R') : Alike R R' := by
  have : w = 0 ∨ w = 1 ∨ w = 2 := by omega
  rcases this with h | h | h
  · exact fun H g => (a.1 h H g).trans (b.1 h H g).symm
  · exact (a.2.1 h).alike (b.2.1 h)
  · exact alike_of_sp (fun v => (a.2.2 h v).trans (b.2.2 h v).symm)
theorem JR.idl {n : Nat} {T : Nat → Int} {w : Int} {X Y R : Nat → Int} (rr : Rg n T) (h0 : 0 ≤ w) (h2 : w ≤ 2) (iX : IdR n T X) (iY : IdR n T Y) (a : JR n T w X Y R) : Idl n T R := by
  have : w = 0 ∨ w = 1 ∨ w = 2 := by omega
  rcases this with h | h | h
  · refine idl_of (fun u => ?_)
    have hs := (a.1 h _ (Sp_grp R)).mp (Sp_in R)
    rw [a.1 h _ ((Sp_grp R).div n T u)]
    have pull : ∀ Z : Nat → Int, Idl n T Z → In3 (Sp R) Z → In3 (fun v => Sp R (muv n T u v)) Z := by
      intro Z iZ hZ
      have q := Sp_in Z
      exact ⟨In3.sp (Sp_grp R) hZ (iZ u _ q.1), In3.sp (Sp_grp R) hZ (iZ u _ q.2.1), In3.sp (Sp_grp R) hZ (iZ u _ q.2.2)⟩
    exact ⟨pull X iX.2.2.1 hs.1, pull Y iY.2.2.1 hs.2⟩
  · exact (a.2.1 h).idl rr (iX.ok rr) (iY.ok rr) iX.2.2.1
  · intro u v hv
    rw [a.2.2 h] at hv ⊢
    intro i hi
    rw [muv_assoc rr]
    exact iX.2.2.1 u _ (hv i hi)
def joC (n ni : Nat) (T Rv : Nat → Int) (w x y : Int) (I : sa_I) (J : sa_J) : sa_P := fun r I2 J2 =>
  if (0 ≤ x ∧ x < ni) ∧ 0 ≤ y ∧ y < ni then
    (if 0 ≤ w ∧ w ≤ 2 then
      ((w = 2 ∧ ¬ (∀ k, k < n → Sp (fun t => Rv (9 * y.toNat + t)) (rowV (fun t => Rv (9 * x.toNat + t)) k)) ∧ r = some (.int (-3)) ∧ I2 = rf I 3 ∧ SC J J2) ∨
       (w = 1 ∧ 1000000 < nmR (fun t => Rv (9 * x.toNat + t)) * nmR (fun t => Rv (9 * y.toNat + t)) ∧ r = some (.int (-6)) ∧ I2 = rf I 6 ∧ J2 = J) ∨
       ((w = 2 → ∀ k, k < n → Sp (fun t => Rv (9 * y.toNat + t)) (rowV (fun t => Rv (9 * x.toNat + t)) k)) ∧ (w = 1 → nmR (fun t => Rv (9 * x.toNat + t)) * nmR (fun t => Rv (9 * y.toNat + t)) ≤ 1000000) ∧ ∃ I1 J1 R, SCI I I1 ∧ SC J J1 ∧ (∀ t, t < 9 → J1 15 t = lI (R t)) ∧ Hm R ∧ R2 n R ∧ JR n T w (fun t => Rv (9 * x.toNat + t)) (fun t => Rv (9 * y.toNat + t)) R ∧ kiC I1 J1 ni (nmR R) r I2 J2))
     else r = some (.int (-2)) ∧ I2 = rf I 2 ∧ J2 = J)
  else r = some (.int (-1)) ∧ I2 = rf I 1 ∧ J2 = J
def joR (n ni : Nat) (T Rv : Nat → Int) (w x y : Int) (I : sa_I) (J : sa_J) : sa_P := fun r I2 J2 =>
  if (0 ≤ x ∧ x < ni) ∧ 0 ≤ y ∧ y < ni then
    (if 0 ≤ w ∧ w ≤ 2 then
      ((w = 2 ∧ ¬ (∀ k, k < n → Sp (fun t => Rv (9 * y.toNat + t)) (rowV (fun t => Rv (9 * x.toNat + t)) k)) ∧ r = some (.int (-3)) ∧ I2 = rf I 3 ∧ SR J J2) ∨
       (w = 1 ∧ 1000000 < nmR (fun t => Rv (9 * x.toNat + t)) * nmR (fun t => Rv (9 * y.toNat + t)) ∧ r = some (.int (-6)) ∧ I2 = rf I 6 ∧ SR J J2) ∨
       ((w = 2 → ∀ k, k < n → Sp (fun t => Rv (9 * y.toNat + t)) (rowV (fun t => Rv (9 * x.toNat + t)) k)) ∧ (w = 1 → nmR (fun t => Rv (9 * x.toNat + t)) * nmR (fun t => Rv (9 * y.toNat + t)) ≤ 1000000) ∧ ∃ I1 J1 R, SRI I I1 ∧ SR J J1 ∧ (∀ t, t < 3 * n → J1 14 t = lI (R t)) ∧ Hm R ∧ JR n T w (fun t => Rv (9 * x.toNat + t)) (fun t => Rv (9 * y.toNat + t)) R ∧ kiR I1 J1 ni (nmR R) r I2 J2))
     else r = some (.int (-2)) ∧ I2 = rf I 2 ∧ J2 = J)
  else r = some (.int (-1)) ∧ I2 = rf I 1 ∧ J2 = J
section JO
variable {l : Launch} {D : va_G} {aI aL : ClassId} {ad : Nat → Nat} {P : sa_P} {I : sa_I} {J : sa_J}
theorem c_join6 {n ni : Nat} {T Rv : Nat → Int} {w x y : Int} (rr : Rg n T) (hd : I 4 0 = nI n) (hT : ∀ t, t < 27 → J 8 t = lI (T t)) (hni : I 0 9 = nI ni) (h80 : ni ≤ 80) (HI : ∀ i, i < ni → IdR n T (fun t => Rv (9 * i + t)) ∧ ∀ t, t < 9 → J 3 (9 * i + t) = lI (Rv (9 * i + t))) (hw : rgi w) (hx : rgi x) (hy : rgi y) : Con (EC l D aI aL ad) M_X6_join yX6_join [.ref (ad 0), .int (iI w), .int (iI x), .int (iI y)] I J (joC n ni T Rv w x y I J) := by
  refine Con.of (by decide +kernel) rfl (Nat.le_of_ble_eq_true rfl) ?_
  have h0 := rr.n
  have hnz : ¬ I 4 0 = 0 := by rw [hd]; rcases h0 with rfl | rfl <;> decide
  have no : ¬ ((0 ≤ x ∧ x < ni) ∧ 0 ≤ y ∧ y < ni) → Sat (EC l D aI aL ad) M_X6_join (joC n ni T Rv w x y I J) 33 [(0, .ref (ad 0))] [] I J := by
    intro h
    refine bX6_join_33 ?_
    refine v_X6_59 dX6_join_35 rfl ⟨rfl, rfl, Nat.le_of_ble_eq_true rfl, Nat.le_of_ble_eq_true rfl⟩ (c_refused 1 (by decide) rfl) rfl rfl (Nat.le_of_ble_eq_true rfl) (fun r I1 J1 hp => ?_)
    obtain ⟨rfl, rfl, rfl⟩ := hp
    refine bX6_join_38 ?_
    unfold joC; rw [if_neg h]; exact ⟨rfl, rfl, rfl⟩
  refine bX6_join_0 (fun _ => bX6_join_17 ?_) (fun c => absurd c hnz)
  refine v_X6_172 dX6_join_19 rfl ⟨rfl, rfl, Nat.le_of_ble_eq_true rfl, Nat.le_of_ble_eq_true rfl⟩ (c_isIdeal6) rfl rfl (Nat.le_of_ble_eq_true rfl) (fun r I1 J1 hp => ?_)
  obtain ⟨rfl, e2, e3⟩ := hp
  obtain rfl := e2.symm
  obtain rfl := e3.symm
  rw [hni, inB_I hx (m := ni) (by omega)]
  by_cases cx : 0 ≤ x ∧ x < ni
  rotate_left
  · rw [if_neg cx]; exact bX6_join_22 (fun _ => no (fun h => cx h.1)) (fun c => absurd rfl c)
  rw [if_pos cx]
  refine bX6_join_22 (fun c => absurd c (by decide)) (fun _ => bX6_join_25 ?_)
  refine v_X6_172 dX6_join_27 rfl ⟨rfl, rfl, Nat.le_of_ble_eq_true rfl, Nat.le_of_ble_eq_true rfl⟩ (c_isIdeal6) rfl rfl (Nat.le_of_ble_eq_true rfl) (fun r I1 J1 hp => ?_)
  obtain ⟨rfl, e2, e3⟩ := hp
  obtain rfl := e2.symm
  obtain rfl := e3.symm
  rw [hni, inB_I hy (m := ni) (by omega)]
  by_cases cy : 0 ≤ y ∧ y < ni
  rotate_left
  · rw [if_neg cy]; exact bX6_join_30 (fun c => absurd rfl c) (fun _ => no (fun h => cy h.2))
  rw [if_pos cy]
  have cxy : (0 ≤ x ∧ x < ni) ∧ 0 ≤ y ∧ y < ni := ⟨cx, cy⟩
  have other : ¬ (0 ≤ w ∧ w ≤ 2) → Sat (EC l D aI aL ad) M_X6_join (joC n ni T Rv w x y I J) 48 [(0, .ref (ad 0))] [] I J := by
    intro h
    refine bX6_join_48 ?_
    refine v_X6_59 dX6_join_51 rfl ⟨rfl, rfl, Nat.le_of_ble_eq_true rfl, Nat.le_of_ble_eq_true rfl⟩ (c_refused 2 (by decide) rfl) rfl rfl (Nat.le_of_ble_eq_true rfl) (fun r I1 J1 hp => ?_)
    obtain ⟨rfl, rfl, rfl⟩ := hp
    refine bX6_join_54 ?_
    unfold joC; rw [if_pos cxy, if_neg h]; exact ⟨rfl, rfl, rfl⟩
  refine bX6_join_30 (fun _ => bX6_join_39 (fun c => other (fun h => by have := (iI_ltc hw (k := 0) ⟨by omega, by omega⟩ rfl).mp c; omega)) (fun c => bX6_join_43 (fun c2 => ?_) (fun c2 => other (fun h => c2 ((iI_lec hw (k := 2) ⟨by omega, by omega⟩ rfl).mpr h.2))))) (fun c => absurd c (by decide))
  have w0 : 0 ≤ w := by
    have : ¬ w < 0 := fun q => c ((iI_ltc hw (k := 0) ⟨by omega, by omega⟩ rfl).mpr q)
    omega
  have w2 := (iI_lec hw (k := 2) ⟨by omega, by omega⟩ rfl).mp c2
  obtain ⟨idX, memX⟩ := HI x.toNat (by omega)
  obtain ⟨idY, memY⟩ := HI y.toNat (by omega)
  have okX := idX.ok rr
  have okY := idY.ok rr
  rw [iI_nat cx.1, iI_nat cy.1]
  have e9x : (9 : Int32) * nI x.toNat = nI (9 * x.toNat) := nI_mulE 9 _
  have e9y : (9 : Int32) * nI y.toNat = nI (9 * y.toNat) := nI_mulE 9 _
  -- the end: the ideal is kept
  have fin : ∀ I1 J1 R, SCI I I1 → SC J J1 → (∀ t, t < 9 → J1 15 t = lI (R t) ∧ 0 ≤ R t ∧ R t ≤ 1000000) → Hm R → R2 n R → JR n T w (fun t => Rv (9 * x.toNat + t)) (fun t => Rv (9 * y.toNat + t)) R → (w = 2 → ∀ k, k < n → Sp (fun t => Rv (9 * y.toNat + t)) (rowV (fun t => Rv (9 * x.toNat + t)) k)) → (w = 1 → nmR (fun t => Rv (9 * x.toNat + t)) * nmR (fun t => Rv (9 * y.toNat + t)) ≤ 1000000) → Sat (EC l D aI aL ad) M_X6_join (joC n ni T Rv w x y I J) 219 [(0, .ref (ad 0))] [] I1 J1 := by
    intro I1 J1 R s1 s2 hR hm r2 jr c2 c1
    refine bX6_join_219 ?_
    refine v_X6_169 dX6_join_220 rfl ⟨rfl, rfl, Nat.le_of_ble_eq_true rfl, Nat.le_of_ble_eq_true rfl⟩ (c_keepIdeal (R := R) (fun t ht => (hR t ht).1) (fun t ht => (hR t ht).2) (by rw [s1 0 (by decide)]; exact hni) h80) rfl rfl (Nat.le_of_ble_eq_true rfl) (fun r I2 J2 hp => ?_)
    obtain ⟨z, rfl⟩ := hp.r
    refine bX6_join_223 ?_
    unfold joC
    rw [if_pos cxy, if_pos ⟨w0, w2⟩]
    exact Or.inr (Or.inr ⟨c2, c1, I1, J1, R, s1, s2, fun t ht => (hR t ht).1, hm, r2, jr, hp⟩)
  have hw3 : w = 0 ∨ w = 1 ∨ w = 2 := by omega
  rcases hw3 with rfl | rfl | rfl
  · refine bX6_join_55 (fun _ => ?_) (fun c => absurd c (by decide))
    refine bX6_join_93 (fun _ => ?_) (fun c => absurd c (by decide))
    refine bX6_join_135 (fun c => absurd rfl c) (fun _ => ?_)
    refine bX6_join_139 ?_
    rw [e9x, e9y]
    refine v_X6_183 dX6_join_159 rfl ⟨rfl, rfl, Nat.le_of_ble_eq_true rfl, Nat.le_of_ble_eq_true rfl⟩ (c_makeSum h0 hd okX okY aJ_C3 (by decide) aJ_C3 (by decide) (by omega) (by omega) (by decide) (by decide) memX memY) rfl rfl (Nat.le_of_ble_eq_true rfl) (fun r I1 J1 hp => ?_)
    obtain ⟨rfl, s1, o1, R, L, hH⟩ := hp
    refine bX6_join_162 (fin I1 J1 R s1 o1.sc (fun t ht => ⟨(L.1 t ht).1, (L.1 t ht).2.1, by have := (L.1 t ht).2.2; have := okX.2.2.2; dsimp only at *; omega⟩) L.2.1 L.2.2 ⟨fun _ => hH, fun h => absurd h (by decide), fun h => absurd h (by decide)⟩ (fun h => absurd h (by decide)) (fun h => absurd h (by decide)))
  · refine bX6_join_55 (fun _ => ?_) (fun c => absurd c (by decide))
    refine bX6_join_93 (fun c => absurd rfl c) (fun _ => ?_)
    refine bX6_join_98 ?_
    rw [e9x]
    refine v_X6_179 dX6_join_106 rfl ⟨rfl, rfl, Nat.le_of_ble_eq_true rfl, Nat.le_of_ble_eq_true rfl⟩ (c_normOfRows6 (R := (fun t => Rv (9 * x.toNat + t))) aJ_C3 (by decide) (by omega) memX) rfl rfl (Nat.le_of_ble_eq_true rfl) (fun r I1 J1 hp => ?_)
    obtain ⟨rfl, e2, e3⟩ := hp
    obtain rfl := e2.symm
    obtain rfl := e3.symm
    refine bX6_join_109 ?_
    rw [e9y]
    refine v_X6_179 dX6_join_117 rfl ⟨rfl, rfl, Nat.le_of_ble_eq_true rfl, Nat.le_of_ble_eq_true rfl⟩ (c_normOfRows6 (R := (fun t => Rv (9 * y.toNat + t))) aJ_C3 (by decide) (by omega) memY) rfl rfl (Nat.le_of_ble_eq_true rfl) (fun r I1 J1 hp => ?_)
    obtain ⟨rfl, e2, e3⟩ := hp
    obtain rfl := e2.symm
    obtain rfl := e3.symm
    have nX : 0 < nmR (fun t => Rv (9 * x.toNat + t)) := Int.mul_pos (Int.mul_pos idX.1.1.2.2.2.1 idX.1.1.2.2.2.2.1) idX.1.1.2.2.2.2.2
    have nY : 0 < nmR (fun t => Rv (9 * y.toNat + t)) := Int.mul_pos (Int.mul_pos idY.1.1.2.2.2.1 idY.1.1.2.2.2.2.1) idY.1.1.2.2.2.2.2
    have bN : nmR (fun t => Rv (9 * x.toNat + t)) * nmR (fun t => Rv (9 * y.toNat + t)) ≤ 1000000 * 1000000 := Int.mul_le_mul idX.2.2.2 idY.2.2.2 (by omega) (by decide)
    have pN := Int.mul_pos nX nY
    have ec : lI (nmR (fun t => Rv (9 * x.toNat + t))) * lI (nmR (fun t => Rv (9 * y.toNat + t))) ≤ (1000000 : Int64) ↔ nmR (fun t => Rv (9 * x.toNat + t)) * nmR (fun t => Rv (9 * y.toNat + t)) ≤ 1000000 := by rw [lI_mul]; exact lI_le ⟨by omega, by omega⟩ (b := 1000000) ⟨by decide, by decide⟩
    refine bX6_join_120 (fun c => ?_) (fun c => ?_)
    · have c1 := ec.mp c
      refine bX6_join_135 (fun _ => ?_) (fun c => absurd c (by decide))
      refine bX6_join_165 (fun c => absurd rfl c) (fun _ => ?_)
      refine bX6_join_170 ?_
      rw [e9x, e9y]
      have le1 : Rv (9 * x.toNat + 0) * Rv (9 * y.toNat + 0) ≤ nmR (fun t => Rv (9 * x.toNat + t)) * nmR (fun t => Rv (9 * y.toNat + t)) := by
        have a1 := pos_le_of_mul (a := Rv (9 * x.toNat + 0)) (b := nmR (fun t => Rv (9 * x.toNat + t))) (j := Rv (9 * x.toNat + 4) * Rv (9 * x.toNat + 8)) idX.1.1.2.2.2.1 nX (by unfold nmR; grind)
        have a2 := pos_le_of_mul (a := Rv (9 * y.toNat + 0)) (b := nmR (fun t => Rv (9 * y.toNat + t))) (j := Rv (9 * y.toNat + 4) * Rv (9 * y.toNat + 8)) idY.1.1.2.2.2.1 nY (by unfold nmR; grind)
        have p0 := idY.1.1.2.2.2.1
        dsimp only at p0
        exact Int.mul_le_mul a1 a2 (by omega) (by omega)
      refine v_X6_186 dX6_join_190 rfl ⟨rfl, rfl, Nat.le_of_ble_eq_true rfl, Nat.le_of_ble_eq_true rfl⟩ (c_makeProduct (T := T) (X := (fun t => Rv (9 * x.toNat + t))) (Y := (fun t => Rv (9 * y.toNat + t))) hd hT okX okY (Int.le_trans le1 c1) rr aJ_C3 (by decide) aJ_C3 (by decide) (by omega) (by omega) (by decide) (by decide) memX memY) rfl rfl (Nat.le_of_ble_eq_true rfl) (fun r I1 J1 hp => ?_)
      obtain ⟨rfl, s1, o1, R, L, hH⟩ := hp
      refine bX6_join_193 (fin I1 J1 R s1 o1.sc (fun t ht => ⟨(L.1 t ht).1, (L.1 t ht).2.1, Int.le_trans (L.1 t ht).2.2 (Int.le_trans le1 c1)⟩) L.2.1 L.2.2 ⟨fun h => absurd h (by decide), fun _ => prod2_of rr okX okY 1 (by simp only [Int.mul_one]; exact hH), fun h => absurd h (by decide)⟩ (fun h => absurd h (by decide)) (fun _ => c1))
    · refine bX6_join_128 ?_
      refine v_X6_59 dX6_join_131 rfl ⟨rfl, rfl, Nat.le_of_ble_eq_true rfl, Nat.le_of_ble_eq_true rfl⟩ (c_refused 6 (by decide) rfl) rfl rfl (Nat.le_of_ble_eq_true rfl) (fun r I1 J1 hp => ?_)
      obtain ⟨rfl, rfl, rfl⟩ := hp
      refine bX6_join_134 ?_
      unfold joC
      rw [if_pos cxy, if_pos ⟨w0, w2⟩]
      exact Or.inr (Or.inl ⟨rfl, by have : ¬ nmR (fun t => Rv (9 * x.toNat + t)) * nmR (fun t => Rv (9 * y.toNat + t)) ≤ 1000000 := fun q => c (ec.mpr q); omega, rfl, rfl, rfl⟩)
  · refine bX6_join_55 (fun c => absurd rfl c) (fun _ => ?_)
    refine bX6_join_60 ?_
    rw [e9x, e9y]
    refine v_X6_175 dX6_join_80 rfl ⟨rfl, rfl, Nat.le_of_ble_eq_true rfl, Nat.le_of_ble_eq_true rfl⟩ (c_hasAll (X := (fun t => Rv (9 * y.toNat + t))) (Y := (fun t => Rv (9 * x.toNat + t))) h0 hd okY.1.1 okY.2.1 okY.bd (fun i hi => okX.row hi) aJ_C3 (by decide) aJ_C3 (by decide) (by omega) (by omega) (by decide) (by decide) memY memX) rfl rfl (Nat.le_of_ble_eq_true rfl) (fun r I1 J1 hp => ?_)
    obtain ⟨e2, f1, hr⟩ := hp
    obtain rfl := e2.symm
    have sc1 : SC J J1 := SC.of (fun q _ _ _ _ _ h17 _ _ _ => f1 q h17)
    rcases hr with ⟨a, rfl⟩ | ⟨a, rfl⟩
    · refine bX6_join_83 (fun _ => ?_) (fun c => absurd c (by decide))
      refine bX6_join_93 (fun _ => ?_) (fun c => absurd c (by decide))
      refine bX6_join_135 (fun _ => ?_) (fun c => absurd c (by decide))
      refine bX6_join_165 (fun _ => ?_) (fun c => absurd c (by decide))
      refine bX6_join_196 ?_
      rw [e9x, e9y]
      have f3 : J1 3 = J 3 := f1 3 (by decide)
      refine v_X6_189 dX6_join_216 rfl ⟨rfl, rfl, Nat.le_of_ble_eq_true rfl, Nat.le_of_ble_eq_true rfl⟩ (c_makeQuotient (T := T) (X := (fun t => Rv (9 * x.toNat + t))) (Y := (fun t => Rv (9 * y.toNat + t))) hd (fun t ht => by rw [f1 8 (by decide)]; exact hT t ht) rr idX okY aJ_C3 (by decide) (by omega) (by decide) aJ_C3 (by decide) (by omega) (by decide) (by decide) (fun t ht => by rw [f3]; exact memX t ht) (fun t ht => by rw [f3]; exact memY t ht)) rfl rfl (Nat.le_of_ble_eq_true rfl) (fun r I2 J2 hp => ?_)
      obtain ⟨rfl, s2, f2, R, Q, hS⟩ := hp
      refine fin I2 J2 R s2 (sc1.tr (SC.of (fun q h9 _ h14 h15 h16 _ h18 h19 h20 => f2 q h9 h14 h15 h16 h18 h19 h20))) Q.1 Q.2.1 Q.2.2.1 ⟨fun h => absurd h (by decide), fun h => absurd h (by decide), fun _ => hS⟩ (fun _ => a) (fun h => absurd h (by decide))
    · refine bX6_join_83 (fun c => absurd rfl c) (fun _ => bX6_join_86 ?_)
      refine v_X6_59 dX6_join_89 rfl ⟨rfl, rfl, Nat.le_of_ble_eq_true rfl, Nat.le_of_ble_eq_true rfl⟩ (c_refused 3 (by decide) rfl) rfl rfl (Nat.le_of_ble_eq_true rfl) (fun r I2 J2 hp => ?_)
      obtain ⟨rfl, rfl, rfl⟩ := hp
      refine bX6_join_92 ?_
      unfold joC
      rw [if_pos cxy, if_pos ⟨w0, w2⟩]
      exact Or.inl ⟨rfl, a, rfl, rfl, sc1⟩
theorem jr_one {n : Nat} {X : Nat → Int} (h0 : n = 2 ∨ n = 3) (bX : ∀ t, t < 9 → 0 ≤ X t ∧ X t ≤ 1000000) : ∀ (d i0 many : Nat) (g : Nat → V3) (I : sa_I) (J : sa_J), i0 + d = n → many + d ≤ 20 → I 0 1 = nI n → (∀ t, t < 3 * n → J 15 t = lI (X t)) → GV many g I J → (∀ many' g' I' J', many' = many + d → SRI I I' → (∀ q, q ≠ 13 → J' q = J q) → GV many' g' I' J' → (∀ H : V3 → Prop, (∀ i, i < many' → H (g' i)) ↔ ((∀ i, i < many → H (g i)) ∧ ∀ i, i0 ≤ i → i < n → H (rowV X i))) → Sat (ER l D aI aL ad) M_X7_join P 206 [(0, .ref (ad 0))] [] I' J') → Sat (ER l D aI aL ad) M_X7_join P 156 [(0, .ref (ad 0)), (4, .int (nI i0))] [] I J := by
  intro d
  induction d with
  | zero =>
    intro i0 many g I J hd hm hI hX hG kk
    refine bX7_join_156 (fun _ => kk many g I J rfl SRI.rfl' (fun _ _ => rfl) hG (fun H => ⟨fun h => ⟨h, fun j h1 h2 => by omega⟩, fun h => h.1⟩)) (fun c => absurd ?_ c)
    rw [hI, nJ_le (by omega) (by omega)]; omega
  | succ d ih =>
    intro i0 many g I J hd hm hI hX hG kk
    refine bX7_join_156 (fun c => absurd c (by rw [hI, nJ_le (by omega) (by omega)]; omega)) (fun _ => ?_)
    have e3 : (3 : Int32) * nI i0 = nI (3 * i0) := nI_mulE 3 i0
    refine bX7_join_165 (j173 := 3 * i0) (j184 := 3 * i0 + 1) (j195 := 3 * i0 + 2) e3 (by omega) (by rw [e3]; exact nI_addE _ _) (by omega) (by rw [e3]; exact nI_addE _ _) (by omega) ?_
    refine v_X7_255 dX7_join_197 rfl ⟨rfl, rfl, Nat.le_of_ble_eq_true rfl, Nat.le_of_ble_eq_true rfl⟩ (c_gives (v := rowV X i0) hG (by omega) (hX _ (by omega)) (hX _ (by omega)) (hX _ (by omega)) (fun c hc => by rw [rowV_vk X i0 hc]; have := bX (3 * i0 + c) (by omega); exact ⟨by omega, by omega⟩)) rfl rfl (Nat.le_of_ble_eq_true rfl) (fun r I2 J2 hp => ?_)
    obtain ⟨rfl, s2, f2, G2⟩ := hp
    refine bX7_join_200 (v200 := nI (i0 + 1)) (nI_addE i0 1) ?_
    refine ih (i0 + 1) (many + 1) _ I2 J2 (by omega) (by omega) (by rw [s2.2 1 (by decide)]; exact hI) (fun t ht => by rw [f2 15 (by decide)]; exact hX t ht) G2 (fun many' g' I' J' em s' f' G' H' => kk many' g' I' J' (by omega) (s2.tr s') (fun q hq => (f' q hq).trans (f2 q hq)) G' (fun H => ?_))
    rw [H' H, updG_all]
    constructor
    · rintro ⟨⟨a, b⟩, c⟩
      refine ⟨a, fun i h1 h2 => ?_⟩
      by_cases h : i = i0
      · subst h; exact b
      · exact c i (by omega) h2
    · rintro ⟨a, b⟩
      exact ⟨⟨a, b i0 (Nat.le_refl _) (by omega)⟩, fun i h1 h2 => b i (by omega) h2⟩
theorem jr_two {n : Nat} {X : Nat → Int} (h0 : n = 2 ∨ n = 3) (bX : ∀ t, t < 9 → 0 ≤ X t ∧ X t ≤ 1000000) : ∀ (d i0 many : Nat) (g : Nat → V3) (I : sa_I) (J : sa_J), i0 + d = n → many + d ≤ 20 → I 0 1 = nI n → (∀ t, t < 3 * n → J 16 t = lI (X t)) → GV many g I J → (∀ many' g' I' J', many' = many + d → SRI I I' → (∀ q, q ≠ 13 → J' q = J q) → GV many' g' I' J' → (∀ H : V3 → Prop, (∀ i, i < many' → H (g' i)) ↔ ((∀ i, i < many → H (g i)) ∧ ∀ i, i0 ≤ i → i < n → H (rowV X i))) → Sat (ER l D aI aL ad) M_X7_join P 259 [(0, .ref (ad 0))] [] I' J') → Sat (ER l D aI aL ad) M_X7_join P 209 [(0, .ref (ad 0)), (4, .int (nI i0))] [] I J := by
  intro d
  induction d with
  | zero =>
    intro i0 many g I J hd hm hI hX hG kk
    refine bX7_join_209 (fun _ => kk many g I J rfl SRI.rfl' (fun _ _ => rfl) hG (fun H => ⟨fun h => ⟨h, fun j h1 h2 => by omega⟩, fun h => h.1⟩)) (fun c => absurd ?_ c)
    rw [hI, nJ_le (by omega) (by omega)]; omega
  | succ d ih =>
    intro i0 many g I J hd hm hI hX hG kk
    refine bX7_join_209 (fun c => absurd c (by rw [hI, nJ_le (by omega) (by omega)]; omega)) (fun _ => ?_)
    have e3 : (3 : Int32) * nI i0 = nI (3 * i0) := nI_mulE 3 i0
    refine bX7_join_218 (j226 := 3 * i0) (j237 := 3 * i0 + 1) (j248 := 3 * i0 + 2) e3 (by omega) (by rw [e3]; exact nI_addE _ _) (by omega) (by rw [e3]; exact nI_addE _ _) (by omega) ?_
    refine v_X7_255 dX7_join_250 rfl ⟨rfl, rfl, Nat.le_of_ble_eq_true rfl, Nat.le_of_ble_eq_true rfl⟩ (c_gives (v := rowV X i0) hG (by omega) (hX _ (by omega)) (hX _ (by omega)) (hX _ (by omega)) (fun c hc => by rw [rowV_vk X i0 hc]; have := bX (3 * i0 + c) (by omega); exact ⟨by omega, by omega⟩)) rfl rfl (Nat.le_of_ble_eq_true rfl) (fun r I2 J2 hp => ?_)
    obtain ⟨rfl, s2, f2, G2⟩ := hp
    refine bX7_join_253 (v253 := nI (i0 + 1)) (nI_addE i0 1) ?_
    refine ih (i0 + 1) (many + 1) _ I2 J2 (by omega) (by omega) (by rw [s2.2 1 (by decide)]; exact hI) (fun t ht => by rw [f2 16 (by decide)]; exact hX t ht) G2 (fun many' g' I' J' em s' f' G' H' => kk many' g' I' J' (by omega) (s2.tr s') (fun q hq => (f' q hq).trans (f2 q hq)) G' (fun H => ?_))
    rw [H' H, updG_all]
    constructor
    · rintro ⟨⟨a, b⟩, c⟩
      refine ⟨a, fun i h1 h2 => ?_⟩
      by_cases h : i = i0
      · subst h; exact b
      · exact c i (by omega) h2
    · rintro ⟨a, b⟩
      exact ⟨⟨a, b i0 (Nat.le_refl _) (by omega)⟩, fun i h1 h2 => b i (by omega) h2⟩
theorem c_join7 {n ni : Nat} {T Rv : Nat → Int} {w x y : Int} (rr : Rg n T) (hd : I 0 1 = nI n) (hT : ∀ i j c, i < n → j < n → c < 3 → J 2 (9 * i + 3 * j + c) = lI (T (9 * i + 3 * j + c))) (hni : I 0 14 = nI ni) (h80 : ni ≤ 80) (HI : ∀ i, i < ni → IdR n T (fun t => Rv (9 * i + t)) ∧ ∀ t, t < 3 * n → I 4 (9 * i + t) = iI (Rv (9 * i + t))) (hw : rgi w) (hx : rgi x) (hy : rgi y) : Con (ER l D aI aL ad) M_X7_join yX7_join [.ref (ad 0), .int (iI w), .int (iI x), .int (iI y)] I J (joR n ni T Rv w x y I J) := by
  refine Con.of (by decide +kernel) rfl (Nat.le_of_ble_eq_true rfl) ?_
  have h0 := rr.n
  have hnz : ¬ I 0 1 ≤ 0 := by rw [hd]; rcases h0 with rfl | rfl <;> decide
  have no : ¬ ((0 ≤ x ∧ x < ni) ∧ 0 ≤ y ∧ y < ni) → Sat (ER l D aI aL ad) M_X7_join (joR n ni T Rv w x y I J) 30 [(0, .ref (ad 0))] [] I J := by
    intro h
    refine bX7_join_30 ?_
    refine v_X7_84 dX7_join_32 rfl ⟨rfl, rfl, Nat.le_of_ble_eq_true rfl, Nat.le_of_ble_eq_true rfl⟩ (c_refuse 1 (by decide) rfl) rfl rfl (Nat.le_of_ble_eq_true rfl) (fun r I1 J1 hp => ?_)
    obtain ⟨rfl, rfl, rfl⟩ := hp
    refine bX7_join_35 ?_
    unfold joR; rw [if_neg h]; exact ⟨rfl, rfl, rfl⟩
  refine bX7_join_0 ?_
  refine v_X7_203 dX7_join_1 rfl ⟨rfl, rfl, Nat.le_of_ble_eq_true rfl, Nat.le_of_ble_eq_true rfl⟩ (c_isField) rfl rfl (Nat.le_of_ble_eq_true rfl) (fun r I1 J1 hp => ?_)
  obtain ⟨rfl, e2, e3⟩ := hp
  obtain rfl := e2.symm
  obtain rfl := e3.symm
  rw [if_neg hnz]
  refine bX7_join_4 (fun _ => bX7_join_14 ?_) (fun c => absurd c (by decide))
  refine v_X7_282 dX7_join_16 rfl ⟨rfl, rfl, Nat.le_of_ble_eq_true rfl, Nat.le_of_ble_eq_true rfl⟩ (c_isIdeal7) rfl rfl (Nat.le_of_ble_eq_true rfl) (fun r I1 J1 hp => ?_)
  obtain ⟨rfl, e2, e3⟩ := hp
  obtain rfl := e2.symm
  obtain rfl := e3.symm
  rw [hni, inB_I hx (m := ni) (by omega)]
  by_cases cx : 0 ≤ x ∧ x < ni
  rotate_left
  · rw [if_neg cx]; exact bX7_join_19 (fun _ => no (fun h => cx h.1)) (fun c => absurd rfl c)
  rw [if_pos cx]
  refine bX7_join_19 (fun c => absurd c (by decide)) (fun _ => bX7_join_22 ?_)
  refine v_X7_282 dX7_join_24 rfl ⟨rfl, rfl, Nat.le_of_ble_eq_true rfl, Nat.le_of_ble_eq_true rfl⟩ (c_isIdeal7) rfl rfl (Nat.le_of_ble_eq_true rfl) (fun r I1 J1 hp => ?_)
  obtain ⟨rfl, e2, e3⟩ := hp
  obtain rfl := e2.symm
  obtain rfl := e3.symm
  rw [hni, inB_I hy (m := ni) (by omega)]
  by_cases cy : 0 ≤ y ∧ y < ni
  rotate_left
  · rw [if_neg cy]; exact bX7_join_27 (fun c => absurd rfl c) (fun _ => no (fun h => cy h.2))
  rw [if_pos cy]
  have cxy : (0 ≤ x ∧ x < ni) ∧ 0 ≤ y ∧ y < ni := ⟨cx, cy⟩
  refine bX7_join_27 (fun _ => bX7_join_36 ?_) (fun c => absurd c (by decide))
  refine v_X7_210 dX7_join_38 rfl ⟨rfl, rfl, Nat.le_of_ble_eq_true rfl, Nat.le_of_ble_eq_true rfl⟩ (c_isIn) rfl rfl (Nat.le_of_ble_eq_true rfl) (fun r I1 J1 hp => ?_)
  obtain ⟨rfl, e2, e3⟩ := hp
  obtain rfl := e2.symm
  obtain rfl := e3.symm
  rw [show (3 : Int32) = nI 3 from rfl, inB_I hw (m := 3) (by decide)]
  by_cases cw : 0 ≤ w ∧ w < (3 : Nat)
  rotate_left
  · rw [if_neg cw]
    refine bX7_join_41 (fun c => absurd rfl c) (fun _ => bX7_join_44 ?_)
    refine v_X7_84 dX7_join_47 rfl ⟨rfl, rfl, Nat.le_of_ble_eq_true rfl, Nat.le_of_ble_eq_true rfl⟩ (c_refuse 2 (by decide) rfl) rfl rfl (Nat.le_of_ble_eq_true rfl) (fun r I1 J1 hp => ?_)
    obtain ⟨rfl, rfl, rfl⟩ := hp
    refine bX7_join_50 ?_
    unfold joR; rw [if_pos cxy, if_neg (fun h => cw ⟨h.1, by omega⟩)]; exact ⟨rfl, rfl, rfl⟩
  rw [if_pos cw]
  have w0 : 0 ≤ w := cw.1
  have w2 : w ≤ 2 := by omega
  obtain ⟨idX, memX⟩ := HI x.toNat (by omega)
  obtain ⟨idY, memY⟩ := HI y.toNat (by omega)
  have okX := idX.ok rr
  have okY := idY.ok rr
  refine bX7_join_41 (fun _ => bX7_join_51 ?_) (fun c => absurd c (by decide))
  rw [iI_nat cx.1, iI_nat cy.1]
  refine v_X7_285 dX7_join_57 rfl ⟨rfl, rfl, Nat.le_of_ble_eq_true rfl, Nat.le_of_ble_eq_true rfl⟩ (c_load15 (i := x.toNat) (by omega)) rfl rfl (Nat.le_of_ble_eq_true rfl) (fun r I1 Ja hp => ?_)
  obtain ⟨rfl, e2, u0, u1, u2, u3, u4, u5, u6, u7, u8, ga⟩ := hp
  obtain rfl := e2.symm
  refine bX7_join_60 ?_
  refine v_X7_285 dX7_join_66 rfl ⟨rfl, rfl, Nat.le_of_ble_eq_true rfl, Nat.le_of_ble_eq_true rfl⟩ (c_load16 (i := y.toNat) (by omega)) rfl rfl (Nat.le_of_ble_eq_true rfl) (fun r I1 Jb hp => ?_)
  obtain ⟨rfl, e2, v0, v1, v2, v3, v4, v5, v6, v7, v8, gb⟩ := hp
  obtain rfl := e2.symm
  have conv : ∀ (R : Nat → Int), okR n R → ∀ (i t : Nat), t < 3 * n → I 4 (9 * i + t) = iI (R t) → (I 4 (9 * i + t)).toInt64 = lI (R t) := by
    intro R ok i t ht e
    have hb := ok.bd t (by omega)
    rw [e, iI_lI ⟨by omega, by omega⟩]
  have hXm : ∀ t, t < 3 * n → Jb 15 t = lI ((fun t => Rv (9 * x.toNat + t)) t) := by
    intro t ht
    rw [gb 15 (by decide), ← conv (fun t => Rv (9 * x.toNat + t)) okX x.toNat t ht (memX t ht)]
    rcases below9 (show t < 9 by omega) with rfl | rfl | rfl | rfl | rfl | rfl | rfl | rfl | rfl
    · exact u0
    · exact u1
    · exact u2
    · exact u3
    · exact u4
    · exact u5
    · exact u6
    · exact u7
    · exact u8
  have hYm : ∀ t, t < 3 * n → Jb 16 t = lI ((fun t => Rv (9 * y.toNat + t)) t) := by
    intro t ht
    rw [← conv (fun t => Rv (9 * y.toNat + t)) okY y.toNat t ht (memY t ht)]
    rcases below9 (show t < 9 by omega) with rfl | rfl | rfl | rfl | rfl | rfl | rfl | rfl | rfl
    · exact v0
    · exact v1
    · exact v2
    · exact v3
    · exact v4
    · exact v5
    · exact v6
    · exact v7
    · exact v8
  have gab : ∀ q, q ≠ 15 → q ≠ 16 → Jb q = J q := fun q h1 h2 => (gb q h2).trans (ga q h1)
  have srb : SR J Jb := SR.of (fun q _ _ _ _ _ _ h15 h16 _ => gab q h15 h16)
  have hTb : ∀ i j c, i < n → j < n → c < 3 → Jb 2 (9 * i + 3 * j + c) = lI (T (9 * i + 3 * j + c)) := fun i j c h1 h2 h3 => by rw [gab 2 (by decide) (by decide)]; exact hT i j c h1 h2 h3
  have nX : 0 < nmR (fun t => Rv (9 * x.toNat + t)) := Int.mul_pos (Int.mul_pos idX.1.1.2.2.2.1 idX.1.1.2.2.2.2.1) idX.1.1.2.2.2.2.2
  have nY : 0 < nmR (fun t => Rv (9 * y.toNat + t)) := Int.mul_pos (Int.mul_pos idY.1.1.2.2.2.1 idY.1.1.2.2.2.2.1) idY.1.1.2.2.2.2.2
  have post : ∀ (r : Option Value) I1 J1 R I2 J2, SRI I I1 → SR J J1 → (∀ t, t < 3 * n → J1 14 t = lI (R t)) → Hm R → JR n T w (fun t => Rv (9 * x.toNat + t)) (fun t => Rv (9 * y.toNat + t)) R → (w = 2 → ∀ k, k < n → Sp (fun t => Rv (9 * y.toNat + t)) (rowV (fun t => Rv (9 * x.toNat + t)) k)) → (w = 1 → nmR (fun t => Rv (9 * x.toNat + t)) * nmR (fun t => Rv (9 * y.toNat + t)) ≤ 1000000) → kiR I1 J1 ni (nmR R) r I2 J2 → joR n ni T Rv w x y I J r I2 J2 := by
    intro r I1 J1 R I2 J2 s1 s2 hR hm jr c2 c1 hp
    unfold joR
    rw [if_pos cxy, if_pos ⟨w0, w2⟩]
    exact Or.inr (Or.inr ⟨c2, c1, I1, J1, R, s1, s2, hR, hm, jr, hp⟩)
  have keep : ∀ (I1 : sa_I) (J1 : sa_J) (R : Nat → Int), SRI I I1 → (∀ t, t < 3 * n → J1 14 t = lI (R t)) → R2 n R → (∀ t, t < 9 → 0 ≤ R t ∧ R t ≤ 1000000) → Con (ER l D aI aL ad) M_X7_keeps yX7_keeps [.ref (ad 0)] I1 J1 (kiR I1 J1 ni (nmR R)) := by
    intro I1 J1 R s1 hR r2 hb
    exact c_keeps (R := R) h0 (by rw [s1.2 1 (by decide)]; exact hd) hR r2 hb (by rw [s1.2 14 (by decide)]; exact hni) h80
  have hw3 : w = 0 ∨ w = 1 ∨ w = 2 := by omega
  rcases hw3 with rfl | rfl | rfl
  · refine bX7_join_69 (fun _ => bX7_join_97 (fun _ => ?_) (fun c => absurd c (by decide))) (fun c => absurd c (by decide))
    refine bX7_join_148 (v150 := nI 0) (v154 := nI 0) rfl rfl ?_
    refine jr_one h0 okX.bd n 0 0 (fun _ => (0, 0, 0)) (sa_uI I 0 27 (nI 0)) Jb (by omega) (by omega) (by rw [sa_uI_off (by decide)]; exact hd) hXm ⟨sa_uI_at, by decide, fun i hi => by omega⟩ (fun m1 g1 I1 J1 em1 s1 f1 G1 H1 => ?_)
    refine bX7_join_206 (v207 := nI 0) rfl ?_
    refine jr_two h0 okY.bd n 0 m1 g1 I1 J1 (by omega) (by omega) (by rw [s1.2 1 (by decide), sa_uI_off (by decide)]; exact hd) (fun t ht => by rw [f1 16 (by decide)]; exact hYm t ht) G1 (fun m2 g2 I2 J2 em2 s2 f2 G2 H2 => ?_)
    have s0 : SRI I I2 := SRI.tr ⟨fun q hq => sa_uI_ne hq, fun t ht => sa_uI_off ht⟩ (s1.tr s2)
    refine bX7_join_259 ?_
    rw [show J2 15 0 = lI ((fun t => Rv (9 * x.toNat + t)) 0) by rw [f2 15 (by decide), f1 15 (by decide)]; exact hXm 0 (by omega)]
    refine v_X7_259 dX7_join_266 rfl ⟨rfl, rfl, Nat.le_of_ble_eq_true rfl, Nat.le_of_ble_eq_true rfl⟩ (c_triangleN h0 (W := (fun t => Rv (9 * x.toNat + t)) 0) (by rw [s0.2 1 (by decide)]; exact hd) G2 okX.1.1.2.2.2.1 okX.2.2.2) rfl rfl (Nat.le_of_ble_eq_true rfl) (fun r I3 J3 hp => ?_)
    obtain ⟨rfl, e2, f3, R, hm1, r2, hb, hR, hH⟩ := hp
    obtain rfl := e2.symm
    refine bX7_join_269 ?_
    have hb6 : ∀ t, t < 9 → 0 ≤ R t ∧ R t ≤ 1000000 := fun t ht => ⟨(hb t ht).1, by have := (hb t ht).2; have := okX.2.2.2; dsimp only at *; omega⟩
    refine v_X7_263 dX7_join_270 rfl ⟨rfl, rfl, Nat.le_of_ble_eq_true rfl, Nat.le_of_ble_eq_true rfl⟩ (keep I2 J3 R s0 hR r2 hb6) rfl rfl (Nat.le_of_ble_eq_true rfl) (fun r I4 J4 hp => ?_)
    obtain ⟨z, rfl⟩ := hp.r
    refine bX7_join_273 (post _ I2 J3 R I4 J4 s0 (srb.tr (SR.of (fun q _ _ _ _ h13 h14 _ _ _ => by rw [f3 q h13 h14, f2 q h13, f1 q h13]))) hR hm1 ⟨fun _ H gg => ?_, fun h => absurd h (by decide), fun h => absurd h (by decide)⟩ (fun h => absurd h (by decide)) (fun h => absurd h (by decide)) hp)
    rw [hH H gg, H2 H, H1 H]
    constructor
    · rintro ⟨a, ⟨_, b⟩, c⟩
      exact ⟨(in3_rowsN h0 okX.1.1 okX.2.1 H (sm_third a)).mpr (fun i hi => b i (by omega) hi), (in3_rowsN h0 okY.1.1 okY.2.1 H (sm_third a)).mpr (fun i hi => c i (by omega) hi)⟩
    · rintro ⟨a, b⟩
      have ra := (in3_rows okX.1.1 H).mp a
      have rb := (in3_rows okY.1.1 H).mp b
      refine ⟨?_, ⟨fun i hi => by omega, fun i _ hi => ra i (by omega)⟩, fun i _ hi => rb i (by omega)⟩
      have wl := okX.2.2.1.all gg a
      refine ⟨wl.1, wl.2.1, ?_⟩
      rcases h0 with h | h
      · have t := a.2.2
        rw [(okX.2.1 h).1, (okX.2.1 h).2.1, (okX.2.1 h).2.2] at t
        subst h; exact t
      · subst h; exact wl.2.2
  · refine bX7_join_69 (fun _ => bX7_join_97 (fun c => absurd rfl c) (fun _ => ?_)) (fun c => absurd c (by decide))
    refine bX7_join_102 ?_
    rw [hd]
    refine v_X7_267 dX7_join_110 rfl ⟨rfl, rfl, Nat.le_of_ble_eq_true rfl, Nat.le_of_ble_eq_true rfl⟩ (c_normOfAll (R := (fun t => Rv (9 * x.toNat + t))) h0 okX.2.1 aJ_R15 (by decide) (by decide) hXm) rfl rfl (Nat.le_of_ble_eq_true rfl) (fun r I1 J1 hp => ?_)
    obtain ⟨rfl, e2, e3⟩ := hp
    obtain rfl := e2.symm
    obtain rfl := e3.symm
    refine bX7_join_113 ?_
    rw [hd]
    refine v_X7_267 dX7_join_121 rfl ⟨rfl, rfl, Nat.le_of_ble_eq_true rfl, Nat.le_of_ble_eq_true rfl⟩ (c_normOfAll (R := (fun t => Rv (9 * y.toNat + t))) h0 okY.2.1 aJ_R16 (by decide) (by decide) hYm) rfl rfl (Nat.le_of_ble_eq_true rfl) (fun r I1 J1 hp => ?_)
    obtain ⟨rfl, e2, e3⟩ := hp
    obtain rfl := e2.symm
    obtain rfl := e3.symm
    have bN : nmR (fun t => Rv (9 * x.toNat + t)) * nmR (fun t => Rv (9 * y.toNat + t)) ≤ 1000000 * 1000000 := Int.mul_le_mul idX.2.2.2 idY.2.2.2 (by omega) (by decide)
    have pN := Int.mul_pos nX nY
    have ec : lI (nmR (fun t => Rv (9 * x.toNat + t))) * lI (nmR (fun t => Rv (9 * y.toNat + t))) ≤ (1000000 : Int64) ↔ nmR (fun t => Rv (9 * x.toNat + t)) * nmR (fun t => Rv (9 * y.toNat + t)) ≤ 1000000 := by rw [lI_mul]; exact lI_le ⟨by omega, by omega⟩ (b := 1000000) ⟨by decide, by decide⟩
    refine bX7_join_124 (fun c => ?_) (fun c => ?_)
    · have c1 := ec.mp c
      refine bX7_join_139 ?_
      refine v_X7_294 dX7_join_140 rfl ⟨rfl, rfl, Nat.le_of_ble_eq_true rfl, Nat.le_of_ble_eq_true rfl⟩ (c_multiplies rr hd okX okY c1 hTb hXm hYm) rfl rfl (Nat.le_of_ble_eq_true rfl) (fun r I1 J1 hp => ?_)
      obtain ⟨rfl, s1, f1, R, hm1, r2, hb, hR, hH⟩ := hp
      refine bX7_join_143 ?_
      refine v_X7_263 dX7_join_144 rfl ⟨rfl, rfl, Nat.le_of_ble_eq_true rfl, Nat.le_of_ble_eq_true rfl⟩ (keep I1 J1 R s1 hR r2 (fun t ht => ⟨(hb t ht).1, by have := (hb t ht).2; omega⟩)) rfl rfl (Nat.le_of_ble_eq_true rfl) (fun r I4 J4 hp => ?_)
      obtain ⟨z, rfl⟩ := hp.r
      refine bX7_join_147 (post _ I1 J1 R I4 J4 s1 (srb.tr (SR.of (fun q _ h10 h11 h12 h13 h14 _ _ _ => f1 q h10 h11 h12 h13 h14))) hR hm1 ⟨fun h => absurd h (by decide), fun _ => ?_, fun h => absurd h (by decide)⟩ (fun h => absurd h (by decide)) (fun _ => c1) hp)
      refine prod2_of rr okX okY ((fun t => Rv (9 * x.toNat + t)) 4 * (fun t => Rv (9 * x.toNat + t)) 8 * ((fun t => Rv (9 * y.toNat + t)) 4 * (fun t => Rv (9 * y.toNat + t)) 8)) (fun H gg => ?_)
      have eN : (fun t => Rv (9 * x.toNat + t)) 0 * (fun t => Rv (9 * y.toNat + t)) 0 * ((fun t => Rv (9 * x.toNat + t)) 4 * (fun t => Rv (9 * x.toNat + t)) 8 * ((fun t => Rv (9 * y.toNat + t)) 4 * (fun t => Rv (9 * y.toNat + t)) 8)) = nmR (fun t => Rv (9 * x.toNat + t)) * nmR (fun t => Rv (9 * y.toNat + t)) := by unfold nmR; grind
      rw [eN]; exact hH H gg
    · refine bX7_join_132 ?_
      refine v_X7_84 dX7_join_135 rfl ⟨rfl, rfl, Nat.le_of_ble_eq_true rfl, Nat.le_of_ble_eq_true rfl⟩ (c_refuse 6 (by decide) rfl) rfl rfl (Nat.le_of_ble_eq_true rfl) (fun r I1 J1 hp => ?_)
      obtain ⟨rfl, rfl, rfl⟩ := hp
      refine bX7_join_138 ?_
      unfold joR
      rw [if_pos cxy, if_pos ⟨w0, w2⟩]
      exact Or.inr (Or.inl ⟨rfl, by have : ¬ nmR (fun t => Rv (9 * x.toNat + t)) * nmR (fun t => Rv (9 * y.toNat + t)) ≤ 1000000 := fun q => c (ec.mpr q); omega, rfl, rfl, srb⟩)
  · refine bX7_join_69 (fun c => absurd rfl c) (fun _ => ?_)
    refine bX7_join_74 ?_
    refine v_X7_288 dX7_join_75 rfl ⟨rfl, rfl, Nat.le_of_ble_eq_true rfl, Nat.le_of_ble_eq_true rfl⟩ (c_isWithin (X := (fun t => Rv (9 * x.toNat + t))) (Y := (fun t => Rv (9 * y.toNat + t))) h0 hd okY.1.1 okY.2.1 okY.bd (fun i hi => okX.row hi) hXm hYm) rfl rfl (Nat.le_of_ble_eq_true rfl) (fun r I1 J1 hp => ?_)
    obtain ⟨e2, e3, hr⟩ := hp
    obtain rfl := e2.symm
    obtain rfl := e3.symm
    rcases hr with ⟨a, rfl⟩ | ⟨a, rfl⟩
    · refine bX7_join_78 (fun _ => bX7_join_88 ?_) (fun c => absurd c (by decide))
      refine v_X7_291 dX7_join_89 rfl ⟨rfl, rfl, Nat.le_of_ble_eq_true rfl, Nat.le_of_ble_eq_true rfl⟩ (c_quotient rr idX okY hd hTb hXm hYm) rfl rfl (Nat.le_of_ble_eq_true rfl) (fun r I1 J1 hp => ?_)
      obtain ⟨rfl, s1, f1, R, hm1, r2, hb, hR, hS⟩ := hp
      refine bX7_join_92 ?_
      refine v_X7_263 dX7_join_93 rfl ⟨rfl, rfl, Nat.le_of_ble_eq_true rfl, Nat.le_of_ble_eq_true rfl⟩ (keep I1 J1 R s1 hR r2 hb) rfl rfl (Nat.le_of_ble_eq_true rfl) (fun r I4 J4 hp => ?_)
      obtain ⟨z, rfl⟩ := hp.r
      exact bX7_join_96 (post _ I1 J1 R I4 J4 s1 (srb.tr (SR.of (fun q _ _ _ h12 h13 h14 _ _ h17 => f1 q h12 h13 h14 h17))) hR hm1 ⟨fun h => absurd h (by decide), fun h => absurd h (by decide), fun _ => hS⟩ (fun _ => a) (fun h => absurd h (by decide)) hp)
    · refine bX7_join_78 (fun c => absurd rfl c) (fun _ => bX7_join_81 ?_)
      refine v_X7_84 dX7_join_84 rfl ⟨rfl, rfl, Nat.le_of_ble_eq_true rfl, Nat.le_of_ble_eq_true rfl⟩ (c_refuse 3 (by decide) rfl) rfl rfl (Nat.le_of_ble_eq_true rfl) (fun r I2 J2 hp => ?_)
      obtain ⟨rfl, rfl, rfl⟩ := hp
      refine bX7_join_87 ?_
      unfold joR
      rw [if_pos cxy, if_pos ⟨w0, w2⟩]
      exact Or.inl ⟨rfl, a, rfl, rfl, srb⟩
end JO
