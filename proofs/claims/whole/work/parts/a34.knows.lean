/-- what the check of degree 3 says -/
def MxT (n : Nat) (T : Nat → Int) : Prop := n = 3 → ∃ s, T = T3 s ∧ mxK s = true
section PX
variable {l : Launch} {D : va_G} {aI aL : ClassId} {ad : Nat → Nat} {P : sa_P} {I : sa_I} {J : sa_J}
theorem c_split {n : Nat} {T : Nat → Int} (rr : Rg n T) (hm : MxT n T) {p : Nat} (hp2 : p ≤ 97) (hq : ipr (p : Int) = true) (hI : I 4 0 = nI n) (hT : ∀ t, t < 27 → J 8 t = lI (T t)) (z0 : J 26 0 = 0) (z2 : J 26 2 = 0) (hc : I 21 8 = nI p → ∃ E, Spc n T p E ∧ CS E I J) : Con (EC l D aI aL ad) M_X5_split yX5_split [.ref (ad 21), .int (nI p)] I J (fun r I1 J1 => r = none ∧ (∃ E, Spc n T p E ∧ CS E I1 J1) ∧ I1 21 8 = nI p ∧ spF I I1 J J1) := by
  refine Con.of (by decide +kernel) rfl (Nat.le_of_ble_eq_true rfl) ?_
  have hP := prm_small (by omega) hq
  have p2 := hP.1
  have h0 := rr.n
  refine bX5_split_0 (fun _ => ?_) (fun c => bX5_split_8 ⟨rfl, hc c.symm, c.symm, ⟨fun _ _ _ _ _ => rfl, fun _ _ _ => rfl, fun _ _ _ _ _ _ _ _ _ _ _ _ => rfl, fun _ _ => rfl⟩⟩)
  refine bX5_split_9 (v16 := 0) rfl ?_
  generalize hIa : sa_uI (sa_uI I 21 8 (nI p)) 21 0 0 = Ia
  have fa : ∀ q, q ≠ 21 → Ia q = I q := fun q h => by rw [← hIa, sa_uI_ne h, sa_uI_ne h]
  have fa2 : ∀ t, t ≠ 0 → t ≠ 8 → Ia 21 t = I 21 t := fun t h h' => by rw [← hIa, sa_uI_if, if_neg (by omega), sa_uI_if, if_neg (by omega)]
  have fa0 : Ia 21 0 = 0 := by rw [← hIa, sa_uI_at]
  have fa8 : Ia 21 8 = nI p := by rw [← hIa, sa_uI_if, if_neg (by omega), sa_uI_at]
  refine v_X5_41 dX5_split_21 rfl ⟨rfl, rfl, Nat.le_of_ble_eq_true rfl, Nat.le_of_ble_eq_true rfl⟩ (c_findFirstDegree rr hP hp2 (by rw [fa 4 (by decide)]; exact hI) hT z0 z2 fa0) rfl rfl (Nat.le_of_ble_eq_true rfl) (fun r I1 J1 hp => ?_)
  obtain ⟨rfl, hF, g⟩ := hp
  have len := wu_len rr hP
  have h21 : I1 21 0 = nI (wu n T p p).length := by have := hF.2.2.2.1; rw [List.length_map] at this; exact this
  have fin : ∀ I2 J2, fcF I1 I2 J1 J2 → I2 21 8 = nI p ∧ spF I I2 J J2 := by
    intro I2 J2 f
    refine ⟨by rw [f.2.1 8 (by decide), g.2.1 8 (by decide)]; exact fa8, ⟨fun q a b c d => ?_, fun t a b => ?_, fun q a b c d e f' g' h i j k' => ?_, fun t ht => ?_⟩⟩
    · rw [f.1 q a b c d, g.1 q a b c d, fa q b]
    · rw [f.2.1 t a, g.2.1 t a, fa2 t a b]
    · rw [f.2.2 q a c d e f' g' h i, g.2.2.1 q b c d i j k']
    · rw [f.2.2 26 (by decide) (by decide) (by decide) (by decide) (by decide) (by decide) (by decide) (by decide), g.2.2.2 t ht]
  refine bX5_split_24 (fun c => ?_) (fun c => ?_)
  · have hne : wu n T p p ≠ [] := fun h => c (by rw [h21, h]; rfl)
    refine bX5_split_65 (fun c2 => ?_) (fun c2 => ?_)
    · have hn : n = 3 := h0.resolve_left (fun h => c2 (by rw [hF.1, h]; rfl))
      subst hn
      obtain ⟨s, rfl, hms⟩ := hm rfl
      refine bX5_split_98 ?_
      refine v_X5_66 dX5_split_100 rfl ⟨rfl, rfl, Nat.le_of_ble_eq_true rfl, Nat.le_of_ble_eq_true rfl⟩ (c_finishCube rr hms hp2 hq hne hF) rfl rfl (Nat.le_of_ble_eq_true rfl) (fun r I2 J2 hp => ?_)
      obtain ⟨rfl, hE, f⟩ := hp
      exact bX5_split_103 ⟨rfl, hE, fin I2 J2 f⟩
    · have hn : n = 2 := h0.resolve_right (fun h => by rw [hF.1, h] at c2; exact absurd c2 (by decide))
      subst hn
      have hC := hF.2.2.2
      have wr : ∀ (E' : List PE) (v : Int32), Spc 2 T p E' → CS E' (sa_uI I1 22 0 v) J1 → Sat (EC l D aI aL ad) M_X5_split (fun r I1 J1 => r = none ∧ (∃ E, Spc 2 T p E ∧ CS E I1 J1) ∧ I1 21 8 = nI p ∧ spF I I1 J J1) 103 [] [] (sa_uI I1 22 0 v) J1 := by
        intro E' v a b
        refine bX5_split_103 ⟨rfl, ⟨E', a, b⟩, fin _ _ ⟨fun q a b c d => by rw [sa_uI_ne c], fun t ht => by rw [sa_uI_ne (by decide)], fun _ _ _ _ _ _ _ _ _ => rfl⟩⟩
      refine bX5_split_76 (fun c3 => bX5_split_93 (bX5_split_94 (s1 := 0) (by decide) ?_)) (fun c3 => bX5_split_89 (bX5_split_94 (s1 := 0) (by decide) ?_))
      · have l2 : (wu 2 T p p).length = 2 := by
          have : (wu 2 T p p).length ≠ 1 := fun h => c3 (by rw [h21, h]; rfl)
          have : (wu 2 T p p).length ≠ 0 := fun h => hne (List.length_eq_zero_iff.mp h)
          omega
        refine wr _ _ (Or.inr (Or.inl ⟨l2, rfl⟩)) ⟨by rw [sa_uI_ne (by decide)]; exact hC.1, fun i e he => ?_⟩
        obtain ⟨a1, a2, a3⟩ := hC.2 i e he
        refine ⟨?_, by rw [sa_uI_ne (by decide)]; exact a2, a3⟩
        by_cases ci : i = 0
        · subst ci
          rw [sa_uI_at]
          rw [List.getElem?_map] at he
          rcases hw : (wu 2 T p p)[0]? with _ | y
          · rw [hw] at he; exact absurd he (by simp)
          · rw [hw] at he
            have he' : pe p y = e := by simpa using he
            rw [← he']; rfl
        · rw [sa_uI_if, if_neg (by omega)]; exact a1
      · have l1 : (wu 2 T p p).length = 1 := by
          rw [h21, nI_lit 1, nJ_eq (by omega) (by omega)] at c3; exact c3
        obtain ⟨x, hx⟩ := List.length_eq_one_iff.mp l1
        refine wr _ _ (Or.inr (Or.inr (Or.inl ⟨rfl, x, hx, rfl⟩))) ⟨by rw [sa_uI_ne (by decide), h21, l1]; rfl, fun i e he => ?_⟩
        have hi : i = 0 := by have := (List.getElem?_eq_some_iff.mp he).1; simp at this; exact this
        subst hi
        have he' : ((2, 1, prR p x.1 x.2) : PE) = e := by simpa using he
        subst he'
        obtain ⟨a1, a2, a3⟩ := hC.2 0 (pe p x) (by rw [hx]; rfl)
        exact ⟨by rw [sa_uI_at]; rfl, by rw [sa_uI_ne (by decide)]; exact a2, a3⟩
  · have hnil : wu n T p p = [] := by
      rw [h21, nI_lit 0, nJ_eq (by omega) (by omega)] at c
      exact List.length_eq_zero_iff.mp c
    refine bX5_split_31 ?_
    rw [hF.1, nI_L (show p < 2 ^ 31 by omega)]
    refine v_X5_56 dX5_split_47 rfl ⟨rfl, rfl, Nat.le_of_ble_eq_true rfl, Nat.le_of_ble_eq_true rfl⟩ (c_startMultiples (m := (p : Int)) h0 (by omega) (by omega)) rfl rfl (Nat.le_of_ble_eq_true rfl) (fun r I2 J2 hp => ?_)
    obtain ⟨rfl, sI, sJ, hLS⟩ := hp
    refine bX5_split_50 ?_
    rw [sI 4 (by decide), hF.1]
    have hC0 : CS [] I2 J2 := ⟨by rw [sI 21 (by decide), h21, hnil]; rfl, fun i e he => by simp at he⟩
    refine v_X5_62 dX5_split_59 rfl ⟨rfl, rfl, Nat.le_of_ble_eq_true rfl, Nat.le_of_ble_eq_true rfl⟩ (c_keepMade (x := 1) (y := (n : Int)) (R := smR n p) (by simp) hC0 (fun t ht => (hLS.2.2.1 t ht).1)) rfl rfl (Nat.le_of_ble_eq_true rfl) (fun r I3 J3 hp => ?_)
    obtain ⟨rfl, hC3, f⟩ := hp
    refine bX5_split_62 (bX5_split_103 ⟨rfl, ⟨_, Or.inl ⟨hnil, rfl⟩, hC3⟩, fin I3 J3 ⟨fun q a b c d => ?_, fun t ht => ?_, fun q a b c d e f' g' h => ?_⟩⟩)
    · rw [f.1 q a b c d, sI q a]
    · rw [f.2.1 t ht, sI 21 (by decide)]
    · rw [f.2.2 q b c h, sJ q b c]
def knG (I I1 : sa_I) (J J1 : sa_J) : Prop := SRI I I1 ∧ ∀ q, q ≠ 12 → q ≠ 13 → q ≠ 14 → q ≠ 15 → q ≠ 16 → q ≠ 17 → J1 q = J q
theorem kn_step {n : Nat} {T : Nat → Int} (rr : Rg n T) {p : Nat} (hp2 : p ≤ 97) (hq : ipr (p : Int) = true) {x : Nat × Nat} (hx : isw n T p x) {N i : Nat} (hi : i < 3) (hI : I 0 1 = nI n) (hT : ∀ i j c, i < n → j < n → c < 3 → J 2 (9 * i + 3 * j + c) = lI (T (9 * i + 3 * j + c))) (h18 : ∀ t, t < 3 * n → J 18 (9 * i + t) = lI (prR p x.1 x.2 t)) (kt : ram n T p x → ∀ I1 J1, knG I I1 J J1 → Sat (ER l D aI aL ad) M_X7_knows P 248 [(0, .ref (ad 0)), (1, .int (nI p)), (2, .int (nI N)), (3, .int (nI i))] [] I1 J1) (kf : ¬ ram n T p x → ∀ I1 J1 R, knG I I1 J J1 → Hm R → R2 n R → (∀ v, Sp R v ↔ qv n T p x v) → (∀ t, t < 3 * n → J1 14 t = lI (R t)) → Sat (ER l D aI aL ad) M_X7_knows P 265 [(0, .ref (ad 0)), (1, .int (nI p)), (2, .int (nI N)), (3, .int (nI i))] [] I1 J1) : Sat (ER l D aI aL ad) M_X7_knows P 202 [(0, .ref (ad 0)), (1, .int (nI p)), (2, .int (nI N)), (3, .int (nI i))] [] I J := by
  have hP := prm_small (by omega) hq
  have p2 := hP.1
  have h0 := rr.n
  have idx := isw_IdR rr hp2 hx
  have okx := IdR.ok rr idx
  refine bX7_knows_202 ?_
  rw [nI_L (show p < 2 ^ 31 by omega)]
  refine v_X7_310 dX7_knows_209 rfl ⟨rfl, rfl, Nat.le_of_ble_eq_true rfl, Nat.le_of_ble_eq_true rfl⟩ (c_wholeRows (m := (p : Int)) h0 hI aJ_R15 (by decide) (by decide)) rfl rfl (Nat.le_of_ble_eq_true rfl) (fun r I1 J1 hp => ?_)
  obtain ⟨rfl, e1, f1, w15⟩ := hp
  obtain rfl := e1.symm
  refine bX7_knows_212 ?_
  refine v_X7_318 dX7_knows_218 rfl ⟨rfl, rfl, Nat.le_of_ble_eq_true rfl, Nat.le_of_ble_eq_true rfl⟩ (c_loadPrime hi aJ_R16 (by decide) (by decide) (by decide)) rfl rfl (Nat.le_of_ble_eq_true rfl) (fun r I2 J2 hp => ?_)
  obtain ⟨rfl, e1, f2, w16⟩ := hp
  obtain rfl := e1.symm
  refine bX7_knows_221 ?_
  refine v_X7_291 dX7_knows_222 rfl ⟨rfl, rfl, Nat.le_of_ble_eq_true rfl, Nat.le_of_ble_eq_true rfl⟩ (c_quotient rr (smR_IdR h0 T (by omega) hp2) okx hI (fun i j c a b d => by rw [f2 2 (by decide), f1 2 (by decide)]; exact hT i j c a b d) (fun t ht => by rw [f2 15 (by decide)]; exact w15 t ht) (fun t ht => by rw [w16 t (by omega), f1 18 (by decide)]; exact h18 t ht)) rfl rfl (Nat.le_of_ble_eq_true rfl) (fun r I3 J3 hp => ?_)
  obtain ⟨rfl, s3, f3, R, hH, hR2, hb, h14, hS⟩ := hp
  have hS' : ∀ v, Sp R v ↔ qv n T p x v := fun v => (hS v).trans (qv_rows rr hx v)
  refine bX7_knows_225 ?_
  refine v_X7_321 dX7_knows_234 rfl ⟨rfl, rfl, Nat.le_of_ble_eq_true rfl, Nat.le_of_ble_eq_true rfl⟩ (c_moves aJ_R14 (by decide) (by decide) aJ_R15 (by decide) (by decide) (by decide)) rfl rfl (Nat.le_of_ble_eq_true rfl) (fun r I4 J4 hp => ?_)
  obtain ⟨rfl, e1, f4, w4⟩ := hp
  obtain rfl := e1.symm
  refine bX7_knows_237 ?_
  have hI3 : I3 0 1 = nI n := by rw [s3.2 1 (by decide)]; exact hI
  refine v_X7_288 dX7_knows_238 rfl ⟨rfl, rfl, Nat.le_of_ble_eq_true rfl, Nat.le_of_ble_eq_true rfl⟩ (c_isWithin h0 (X := R) (Y := prR p x.1 x.2) hI3 idx.1.1 idx.2.1 (fun t ht => (idx.1.bd idx.2.2.2) t ht) (fun i hi => ?_) (fun t ht => by rw [w4 t (by omega)]; exact h14 t ht) (fun t ht => by rw [f4 16 (by decide), f3 16 (by decide) (by decide) (by decide) (by decide), w16 t (by omega), f1 18 (by decide)]; exact h18 t ht)) rfl rfl (Nat.le_of_ble_eq_true rfl) (fun r I5 J5 hp => ?_)
  · have q : ∀ t, t < 9 → bd (R t) 1000000 := fun t ht => bd_of (hb t ht).1 (hb t ht).2
    exact ⟨q _ (by omega), q _ (by omega), q _ (by omega)⟩
  obtain ⟨e1, e2, hr⟩ := hp
  obtain rfl := e1.symm
  obtain rfl := e2.symm
  have g : knG I I3 J J4 := ⟨s3, fun q a b c d e f => by rw [f4 q d, f3 q a b c f, f2 q e, f1 q d]⟩
  have key : (∀ i, i < n → Sp (prR p x.1 x.2) (rowV R i)) ↔ ram n T p x := by
    rw [← in3_rowsN h0 hH.1 hR2 (Sp (prR p x.1 x.2)) (fun e => by rw [Sp_prR]; unfold ph; dsimp only; rw [hx.z e]; exact ⟨0, by omega⟩)]
    constructor
    · intro h v hv; exact Sp_prR.mp (h.sp (Sp_grp _) ((hS' v).mpr hv))
    · intro h
      have := Sp_in R
      exact ⟨Sp_prR.mpr (h _ ((hS' _).mp this.1)), Sp_prR.mpr (h _ ((hS' _).mp this.2.1)), Sp_prR.mpr (h _ ((hS' _).mp this.2.2))⟩
  rcases hr with ⟨a, rfl⟩ | ⟨a, rfl⟩
  · exact bX7_knows_241 (fun c => absurd c (by decide)) (fun _ => kt (key.mp a) _ _ g)
  · exact bX7_knows_241 (fun _ => kf (fun h => a (key.mpr h)) _ _ R g hH hR2 hS' (fun t ht => by rw [f4 14 (by decide)]; exact h14 t ht)) (fun c => absurd rfl c)
def knF (I I1 : sa_I) (J J1 : sa_J) : Prop := (∀ q, q ≠ 0 → q ≠ 19 → q ≠ 20 → I1 q = I q) ∧ (∀ t, t ≠ 27 → t ≠ 32 → I1 0 t = I 0 t) ∧ ∀ q, q ≠ 12 → q ≠ 13 → q ≠ 14 → q ≠ 15 → q ≠ 16 → q ≠ 17 → q ≠ 18 → J1 q = J q
def knW (I I1 : sa_I) (J J1 : sa_J) : Prop := (∀ q, q ≠ 0 → q ≠ 19 → q ≠ 20 → I1 q = I q) ∧ (∀ t, t ≠ 27 → t ≠ 31 → t ≠ 32 → I1 0 t = I 0 t) ∧ ∀ q, q ≠ 12 → q ≠ 13 → q ≠ 14 → q ≠ 15 → q ≠ 16 → q ≠ 17 → q ≠ 18 → J1 q = J q
theorem knF.rfl' : knF I I J J := ⟨fun _ _ _ _ => rfl, fun _ _ _ => rfl, fun _ _ _ _ _ _ _ _ => rfl⟩
theorem knF.tr {I1 I2 : sa_I} {J1 J2 : sa_J} (h : knF I I1 J J1) (g : knF I1 I2 J1 J2) : knF I I2 J J2 := ⟨fun q a b c => (g.1 q a b c).trans (h.1 q a b c), fun t a b => (g.2.1 t a b).trans (h.2.1 t a b), fun q a b c d e f i => (g.2.2 q a b c d e f i).trans (h.2.2 q a b c d e f i)⟩
theorem hoF.kn {I1 : sa_I} {J1 : sa_J} (h : hoF I I1 J J1) : knF I I1 J J1 := ⟨h.1, fun t _ c => h.2.1 t c, fun q _ _ c _ _ _ g => h.2.2 q c g⟩
theorem knG.kn {I1 : sa_I} {J1 : sa_J} (h : knG I I1 J J1) : knF I I1 J J1 := ⟨fun q a _ _ => h.1.1 q a, fun t a _ => h.1.2 t a, fun q a b c d e f _ => h.2 q a b c d e f⟩
theorem RS.g {n : Nat} {E0 : List PE} {I1 : sa_I} {J1 : sa_J} (h : RS n E0 I J) (g : knG I I1 J J1) : RS n E0 I1 J1 := by
  refine ⟨by rw [g.1.2 32 (by decide)]; exact h.1, fun i e he => ?_⟩
  rw [g.1.1 19 (by decide), g.1.1 20 (by decide), g.2 18 (by decide) (by decide) (by decide) (by decide) (by decide) (by decide)]
  exact h.2 i e he
theorem RS.set {n : Nat} {A B : List PE} {x y z : Int} {R : Nat → Int} (h : RS n (A ++ (x, y, R) :: B) I J) {v : Int32} (hv : v = iI z) : RS n (A ++ (z, y, R) :: B) (sa_uI I 19 A.length v) J := by
  subst hv
  refine ⟨by rw [sa_uI_ne (by decide), h.1, List.length_append, List.length_append]; rfl, fun i e he => ?_⟩
  rw [sa_uI_ne (show (20 : Nat) ≠ 19 by decide)]
  by_cases c : i = A.length
  · subst c
    rw [List.getElem?_append_right (Nat.le_refl _), Nat.sub_self] at he
    have he' : (z, y, R) = e := by simpa using he
    subst he'
    obtain ⟨_, a2, a3⟩ := h.2 A.length (x, y, R) (by rw [List.getElem?_append_right (Nat.le_refl _), Nat.sub_self]; rfl)
    exact ⟨by rw [sa_uI_at], a2, a3⟩
  · have he2 : (A ++ (x, y, R) :: B)[i]? = some e := by
      by_cases c2 : i < A.length
      · rw [List.getElem?_append_left c2] at he ⊢; exact he
      · rw [List.getElem?_append_right (by omega)] at he ⊢
        obtain ⟨m, hm⟩ : ∃ m, i - A.length = m + 1 := ⟨i - A.length - 1, by omega⟩
        rw [hm] at he ⊢
        simpa using he
    obtain ⟨a1, a2, a3⟩ := h.2 i e he2
    exact ⟨by rw [sa_uI_if, if_neg (by omega)]; exact a1, a2, a3⟩
theorem kn_end {n : Nat} {T : Nat → Int} (rr : Rg n T) {p : Nat} (hp2 : p ≤ 97) (hq : ipr (p : Int) = true) (hF : FR n T p (wu n T p p) I J) (kk : ∀ I1 J1 E, Spc n T p E → RS n E I1 J1 → knF I I1 J J1 → P (some (.int 1)) I1 J1) : Sat (ER l D aI aL ad) M_X7_knows P 154 [(0, .ref (ad 0)), (1, .int (nI p))] [] I J := by
  have hP := prm_small (by omega) hq
  have p2 := hP.1
  have h0 := rr.n
  have len := wu_len rr hP
  obtain ⟨hI, hT, hR⟩ := hF
  have h32 : I 0 32 = nI (wu n T p p).length := by have := hR.1; rw [List.length_map] at this; exact this
  refine bX7_knows_154 (fun c => ?_) (fun c => ?_)
  · have hne : wu n T p p ≠ [] := fun h => c (by rw [h32, h]; rfl)
    have lp : 0 < (wu n T p p).length := List.length_pos_iff.mpr hne
    refine bX7_knows_182 (v186 := nI (wu n T p p).length) (v188 := nI 0) h32 rfl ?_
    refine bX7_knows_189 (fun c => absurd c (by rw [nJ_le (by omega) (by omega)]; omega)) (fun _ => ?_)
    refine bX7_knows_194 (fun c2 => ?_) (fun c2 => ?_)
    · rw [hI, nJ_le (by omega) (by omega)] at c2
      exact bX7_knows_290 (kk I J _ (Or.inr (Or.inl ⟨by omega, rfl⟩)) hR knF.rfl')
    rw [hI, nJ_le (by omega) (by omega)] at c2
    rcases hw : wu n T p p with _ | ⟨x, L⟩
    · exact absurd hw hne
    have hx : isw n T p x := wu_isw (by rw [hw]; simp)
    rw [hw] at hR c2 len
    have r0 : ∀ t, t < 3 * n → J 18 (9 * 0 + t) = lI (prR p x.1 x.2 t) := (hR.2 0 (pe p x) rfl).2.2
    rcases L with _ | ⟨y, L⟩
    · -- one way
      have e1 : (nI n + (1 : Int32)) - nI 1 = iI n := by
        rcases h0 with rfl | rfl <;> rfl
      have stop : ∀ (I1 : sa_I) (J1 : sa_J) (E : List PE), Spc n T p E → RS n E I1 J1 → knF I I1 J J1 → Sat (ER l D aI aL ad) M_X7_knows P 284 [(0, .ref (ad 0)), (1, .int (nI p)), (2, .int (nI 1)), (3, .int (nI 0))] [] I1 J1 := by
        intro I1 J1 E a b c
        refine bX7_knows_284 (v284 := nI 1) rfl (bX7_knows_189 (fun _ => bX7_knows_290 (kk I1 J1 E a b c)) (fun c => absurd (by decide) c))
      refine kn_step rr hp2 hq hx (N := 1) (i := 0) (by decide) hI hT r0 (fun hram I1 J1 g => ?_) (fun hram I1 J1 R g hH hR2 hS h14 => ?_)
      · refine bX7_knows_248 (j252 := 0) (v261 := iI n) rfl (by decide) (by rw [g.1.2 1 (by decide), hI]; exact e1) ?_
        have hRn := RS.set (A := []) (B := []) (z := (n : Int)) (hR.g g) rfl
        refine stop _ _ [((n : Int), 1, prR p x.1 x.2)] ?_ hRn (g.kn.tr ⟨fun q a b c => by rw [sa_uI_ne b], fun t _ _ => by rw [sa_uI_ne (by decide)], fun _ _ _ _ _ _ _ _ => rfl⟩)
        rcases h0 with rfl | rfl
        · exact Or.inr (Or.inr (Or.inl ⟨rfl, x, hw, rfl⟩))
        · exact Or.inr (Or.inr (Or.inr (Or.inl ⟨rfl, x, hw, hram, rfl⟩)))
      · have hn : n = 3 := h0.resolve_left (fun h => by subst h; exact hram (ram_two rr (by omega) hw))
        subst hn
        have hI1 : I1 0 1 = nI 3 := by rw [g.1.2 1 (by decide)]; exact hI
        refine bX7_knows_265 (fun c => absurd hI1 c) (fun _ => bX7_knows_273 (fun c => absurd rfl c) (fun _ => bX7_knows_278 ?_))
        refine v_X7_314 dX7_knows_281 rfl ⟨rfl, rfl, Nat.le_of_ble_eq_true rfl, Nat.le_of_ble_eq_true rfl⟩ (c_holdsPrime (x := 1) (y := 2) (R := R) (E0 := [pe p x]) (by decide) (show [pe p x].length ≤ 2 by simp) (hR.g g) h14) rfl rfl (Nat.le_of_ble_eq_true rfl) (fun r I2 J2 hp => ?_)
        obtain ⟨rfl, hR2', f2, _⟩ := hp
        exact stop _ _ _ (Or.inr (Or.inr (Or.inr (Or.inr (Or.inl ⟨rfl, x, hw, hram, R, hH, hR2, hS, rfl⟩))))) hR2' (g.kn.tr f2.kn)
    · -- two ways
      have hLn : L = [] := by
        rcases L with _ | ⟨z, L⟩
        · rfl
        · simp only [List.length_cons] at c2; omega
      subst hLn
      have hn : n = 3 := by simp only [List.length_cons, List.length_nil] at c2; omega
      subst hn
      have hy : isw 3 T p y := wu_isw (by rw [hw]; simp)
      have r1 : ∀ t, t < 3 * 3 → J 18 (9 * 1 + t) = lI (prR p y.1 y.2 t) := (hR.2 1 (pe p y) rfl).2.2
      have two := ram_three rr hp2 hq hw
      have stop : ∀ (I1 : sa_I) (J1 : sa_J) (E : List PE), Spc 3 T p E → RS 3 E I1 J1 → knF I I1 J J1 → Sat (ER l D aI aL ad) M_X7_knows P 284 [(0, .ref (ad 0)), (1, .int (nI p)), (2, .int (nI 2)), (3, .int (nI 1))] [] I1 J1 := by
        intro I1 J1 E a b c
        refine bX7_knows_284 (v284 := nI 2) rfl (bX7_knows_189 (fun _ => bX7_knows_290 (kk I1 J1 E a b c)) (fun c => absurd (by decide) c))
      have e2 : (nI 3 + (1 : Int32)) - nI 2 = iI 2 := rfl
      have next : ∀ (I1 : sa_I) (J1 : sa_J), I1 0 1 = nI 3 → Sat (ER l D aI aL ad) M_X7_knows P 202 [(0, .ref (ad 0)), (1, .int (nI p)), (2, .int (nI 2)), (3, .int (nI 1))] [] I1 J1 → Sat (ER l D aI aL ad) M_X7_knows P 284 [(0, .ref (ad 0)), (1, .int (nI p)), (2, .int (nI 2)), (3, .int (nI 0))] [] I1 J1 := by
        intro I1 J1 h1 kk
        refine bX7_knows_284 (v284 := nI 1) rfl (bX7_knows_189 (fun c => absurd c (by decide)) (fun _ => bX7_knows_194 (fun c => absurd c (by rw [h1]; decide)) (fun _ => kk)))
      refine kn_step rr hp2 hq hx (N := 2) (i := 0) (by decide) hI hT r0 (fun hram I1 J1 g => ?_) (fun hram I1 J1 R g _ _ _ _ => ?_)
      · have hnr : ¬ ram 3 T p y := two.elim (fun h => h.2) (fun h => absurd hram h.2)
        have hI1 : I1 0 1 = nI 3 := by rw [g.1.2 1 (by decide)]; exact hI
        refine bX7_knows_248 (j252 := 0) (v261 := iI 2) rfl (by decide) (by rw [hI1]; exact e2) ?_
        have hRn : RS 3 [(2, 1, prR p x.1 x.2), (1, 1, prR p y.1 y.2)] (sa_uI I1 19 0 (iI 2)) J1 := RS.set (A := []) (B := [pe p y]) (z := 2) (hR.g g) rfl
        have gg : knF I (sa_uI I1 19 0 (iI 2)) J J1 := g.kn.tr ⟨fun q a b c => by rw [sa_uI_ne b], fun t _ _ => by rw [sa_uI_ne (by decide)], fun _ _ _ _ _ _ _ _ => rfl⟩
        refine next _ _ (by rw [sa_uI_ne (by decide)]; exact hI1) ?_
        refine kn_step rr hp2 hq hy (N := 2) (i := 1) (by decide) (by rw [sa_uI_ne (by decide)]; exact hI1) (fun i j c a b d => by rw [g.2 2 (by decide) (by decide) (by decide) (by decide) (by decide) (by decide)]; exact hT i j c a b d) (fun t ht => by rw [g.2 18 (by decide) (by decide) (by decide) (by decide) (by decide) (by decide)]; exact r1 t ht) (fun h => absurd h hnr) (fun _ I2 J2 R' g2 _ _ _ _ => ?_)
        have hI2 : I2 0 1 = nI 3 := by rw [g2.1.2 1 (by decide), sa_uI_ne (by decide)]; exact hI1
        refine bX7_knows_265 (fun c => absurd hI2 c) (fun _ => bX7_knows_273 (fun _ => ?_) (fun c => absurd c (by decide)))
        exact stop _ _ _ (Or.inr (Or.inr (Or.inr (Or.inr (Or.inr (Or.inl ⟨rfl, x, y, hw, hram, rfl⟩)))))) (hRn.g g2) (gg.tr g2.kn)
      · have hyr : ram 3 T p y := two.elim (fun h => absurd h.1 hram) (fun h => h.1)
        have hI1 : I1 0 1 = nI 3 := by rw [g.1.2 1 (by decide)]; exact hI
        refine bX7_knows_265 (fun c => absurd hI1 c) (fun _ => bX7_knows_273 (fun _ => ?_) (fun c => absurd c (by decide)))
        refine next _ _ hI1 ?_
        refine kn_step rr hp2 hq hy (N := 2) (i := 1) (by decide) hI1 (fun i j c a b d => by rw [g.2 2 (by decide) (by decide) (by decide) (by decide) (by decide) (by decide)]; exact hT i j c a b d) (fun t ht => by rw [g.2 18 (by decide) (by decide) (by decide) (by decide) (by decide) (by decide)]; exact r1 t ht) (fun _ I2 J2 g2 => ?_) (fun h => absurd hyr h)
        have hI2 : I2 0 1 = nI 3 := by rw [g2.1.2 1 (by decide)]; exact hI1
        refine bX7_knows_248 (j252 := 1) (v261 := iI 2) rfl (by decide) (by rw [hI2]; exact e2) ?_
        have hRn : RS 3 [(1, 1, prR p x.1 x.2), (2, 1, prR p y.1 y.2)] (sa_uI I2 19 1 (iI 2)) J2 := RS.set (A := [pe p x]) (B := []) (z := 2) ((hR.g g).g g2) rfl
        exact stop _ _ _ (Or.inr (Or.inr (Or.inr (Or.inr (Or.inr (Or.inr ⟨rfl, x, y, hw, hram, rfl⟩)))))) hRn ((g.kn.tr g2.kn).tr ⟨fun q a b c => by rw [sa_uI_ne b], fun t _ _ => by rw [sa_uI_ne (by decide)], fun _ _ _ _ _ _ _ _ => rfl⟩)
  · have hnil : wu n T p p = [] := by
      rw [h32, nI_lit 0, nJ_eq (by omega) (by omega)] at c
      exact List.length_eq_zero_iff.mp c
    refine bX7_knows_161 ?_
    rw [nI_L (show p < 2 ^ 31 by omega)]
    refine v_X7_310 dX7_knows_168 rfl ⟨rfl, rfl, Nat.le_of_ble_eq_true rfl, Nat.le_of_ble_eq_true rfl⟩ (c_wholeRows (m := (p : Int)) h0 hI aJ_R14 (by decide) (by decide)) rfl rfl (Nat.le_of_ble_eq_true rfl) (fun r I1 J1 hp => ?_)
    obtain ⟨rfl, e1, f1, w14⟩ := hp
    obtain rfl := e1.symm
    refine bX7_knows_171 ?_
    rw [hI]
    have hR0 : RS n [] I J1 := ⟨by rw [h32, hnil]; rfl, fun i e he => by simp at he⟩
    refine v_X7_314 dX7_knows_177 rfl ⟨rfl, rfl, Nat.le_of_ble_eq_true rfl, Nat.le_of_ble_eq_true rfl⟩ (c_holdsPrime (x := 1) (y := (n : Int)) (R := smR n p) (show n ≤ 3 by omega) (by simp) hR0 w14) rfl rfl (Nat.le_of_ble_eq_true rfl) (fun r I2 J2 hp => ?_)
    obtain ⟨rfl, hR2, f2, _⟩ := hp
    refine bX7_knows_180 (kk _ _ _ (Or.inl ⟨hnil, rfl⟩) hR2 (knF.tr ⟨fun _ _ _ _ => rfl, fun _ _ _ => rfl, fun q a b c d e f g => by rw [f1 q c]⟩ f2.kn))
theorem c_knows_no {p : Int} (hp : rgi p) (h : ¬ (p ≤ 97 ∧ ipr p = true)) : Con (ER l D aI aL ad) M_X7_knows yX7_knows [.ref (ad 0), .int (iI p)] I J (p_i 0 I J) := by
  refine Con.of (by decide +kernel) rfl (Nat.le_of_ble_eq_true rfl) ?_
  refine bX7_knows_0 (fun _ => bX7_knows_18 ⟨rfl, rfl, rfl⟩) (fun _ => ?_)
  refine bX7_knows_5 (fun _ => bX7_knows_18 ⟨rfl, rfl, rfl⟩) (fun c => ?_)
  have h97 : p ≤ 97 := by
    have := iI_clt hp (k := 97) ⟨by omega, by omega⟩ (v := 97) rfl
    have := mt this.mpr c
    omega
  refine bX7_knows_11 ?_
  refine v_X7_125 dX7_knows_12 rfl ⟨rfl, rfl, Nat.le_of_ble_eq_true rfl, Nat.le_of_ble_eq_true rfl⟩ (c_isPrime7 hp (by omega)) rfl rfl (Nat.le_of_ble_eq_true rfl) (fun r I1 J1 hp => ?_)
  obtain ⟨rfl, e1, e2⟩ := hp
  obtain rfl := e1.symm
  obtain rfl := e2.symm
  rw [if_neg (fun c => h ⟨h97, c⟩)]
  exact bX7_knows_15 (fun c => absurd rfl c) (fun _ => bX7_knows_18 ⟨rfl, rfl, rfl⟩)
theorem c_knows {n : Nat} {T : Nat → Int} (rr : Rg n T) {p : Nat} (hp2 : p ≤ 97) (hq : ipr (p : Int) = true) (hI : I 0 1 = nI n) (hT : ∀ i j c, i < n → j < n → c < 3 → J 2 (9 * i + 3 * j + c) = lI (T (9 * i + 3 * j + c))) (hc : I 0 31 = nI p → ∃ E, Spc n T p E ∧ RS n E I J) : Con (ER l D aI aL ad) M_X7_knows yX7_knows [.ref (ad 0), .int (nI p)] I J (fun r I1 J1 => r = some (.int 1) ∧ (∃ E, Spc n T p E ∧ RS n E I1 J1) ∧ I1 0 31 = nI p ∧ knW I I1 J J1) := by
  refine Con.of (by decide +kernel) rfl (Nat.le_of_ble_eq_true rfl) ?_
  have hP := prm_small (by omega) hq
  have p2 := hP.1
  refine bX7_knows_0 (fun c => absurd c (by rw [nI_lit 2, nJ_lt (by omega) (by omega)]; omega)) (fun _ => ?_)
  refine bX7_knows_5 (fun c => absurd c (by rw [nI_lit 97, nJ_lt (by omega) (by omega)]; omega)) (fun _ => bX7_knows_11 ?_)
  refine v_X7_125 dX7_knows_12 rfl ⟨rfl, rfl, Nat.le_of_ble_eq_true rfl, Nat.le_of_ble_eq_true rfl⟩ (c_isPrime7 (p := (p : Int)) ⟨by omega, by omega⟩ (by omega)) rfl rfl (Nat.le_of_ble_eq_true rfl) (fun r I1 J1 hp => ?_)
  obtain ⟨rfl, e1, e2⟩ := hp
  obtain rfl := e1.symm
  obtain rfl := e2.symm
  rw [if_pos hq]
  refine bX7_knows_15 (fun _ => ?_) (fun c => absurd c (by decide))
  refine bX7_knows_20 (fun _ => ?_) (fun c => bX7_knows_28 ⟨rfl, hc c, c, ⟨fun _ _ _ _ => rfl, fun _ _ _ _ => rfl, fun _ _ _ _ _ _ _ _ => rfl⟩⟩)
  refine bX7_knows_30 (v37 := 0) (v41 := nI 0) rfl rfl ?_
  have f0 : FR n T p (wu n T p 0) (sa_uI (sa_uI I 0 31 (nI p)) 0 32 0) J := by
    refine ⟨by rw [sa_uI_if, if_neg (by omega), sa_uI_if, if_neg (by omega)]; exact hI, hT, by rw [sa_uI_at]; rfl, fun i e he => ?_⟩
    rw [wu_zero] at he; simp at he
  refine kn_out rr hP hp2 p 0 (by omega) _ _ f0 (fun I1 J1 hF g => ?_)
  refine kn_end rr hp2 hq hF (fun I2 J2 E a b c => ⟨rfl, ⟨E, a, b⟩, ?_, ?_⟩)
  · rw [c.2.1 31 (by decide) (by decide), g.2.1 31 (by decide), sa_uI_if, if_neg (by omega), sa_uI_at]
  · have gc := g.kn.tr c
    refine ⟨fun q a b c' => ?_, fun t a b c' => ?_, fun q a b c' d e f i => gc.2.2 q a b c' d e f i⟩
    · rw [gc.1 q a b c', sa_uI_ne a, sa_uI_ne a]
    · rw [gc.2.1 t a c', sa_uI_if, if_neg (by omega), sa_uI_if, if_neg (by omega)]
end PX
