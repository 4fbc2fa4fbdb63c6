/-- what a call about forms may change -/
def fxC (I I1 : sa_I) (J J1 : sa_J) : Prop := (∀ q, q ≠ 14 → q ≠ 27 → q ≠ 28 → q ≠ 29 → I1 q = I q) ∧ ∀ q, kC q → q ≠ 27 → J1 q = J q
def fxR (I I1 : sa_I) (J J1 : sa_J) : Prop := (∀ q, q ≠ 0 → q ≠ 21 → q ≠ 22 → q ≠ 23 → q ≠ 24 → I1 q = I q) ∧ (∀ t, t ≠ 27 → t ≠ 36 → I1 0 t = I 0 t) ∧ (∀ q, q = 2 ∨ q = 18 → J1 q = J q) ∧ ∀ t, t < 41 → J1 0 t = J 0 t
theorem fxC.rfl' {I : sa_I} {J : sa_J} : fxC I I J J := ⟨fun _ _ _ _ _ => rfl, fun _ _ _ => rfl⟩
theorem fxR.rfl' {I : sa_I} {J : sa_J} : fxR I I J J := ⟨fun _ _ _ _ _ _ => rfl, fun _ _ _ => rfl, fun _ _ => rfl, fun _ _ => rfl⟩
def Nfo (D : Int) (N : sa_I → sa_J → sa_I → sa_J → Prop) (I : sa_I) (J : sa_J) (I' : sa_I) (J' : sa_J) : Prop :=
  ∀ Ia Ja Ib Jb, fxC I Ia J Ja → fcC D Ia Ja → fxR I' Ib J' Jb → fcR D Ib Jb → N Ia Ja Ib Jb ∧ ∀ j, N (rf Ia j) Ja (rf Ib j) Jb
theorem cyN_rng : ∀ (n i : Nat), cyN ((List.range' i n).map (fun j : Nat => (j : Int))) i = n := by
  intro n
  induction n with
  | zero => intro i; rfl
  | succ n ih =>
    intro i
    rw [List.range'_succ, List.map_cons, cyN, if_pos rfl, ih]; omega
theorem cyN_MR {D : Int} (h : 0 < D → (MZ D).2 = cyN (MZ D).1 0) : cyN (MR D) 0 = cnZ D := by
  unfold MR cnZ
  by_cases c : 0 < D
  · rw [if_pos c, if_pos c, h c]
  · rw [if_neg c, if_neg c]
    unfold rngZ
    rw [List.range_eq_range', cyN_rng]
theorem MZ_len (D : Int) : ∀ (nx : Nat → Nat) (r i : Nat) (m : List Int) (c : Nat), (mkL nx r i m c).1.length = m.length := by
  intro nx r
  induction r with
  | zero => intro i m c; rfl
  | succ r ih =>
    intro i m c
    rw [mkL]
    by_cases q : m.getD i 0 < 0
    · rw [if_pos q, ih, mkW_len]
    · rw [if_neg q, ih]
theorem MR_len (D : Int) : (MR D).length = (LF D).length := by
  unfold MR
  by_cases c : 0 < D
  · rw [if_pos c]; unfold MZ; rw [MZ_len D, List.length_replicate]
  · rw [if_neg c]; unfold rngZ; rw [List.length_map, List.length_range]
theorem mkL_R (nx : Nat → Nat) : ∀ (r i : Nat) (m : List Int) (c : Nat), i + r ≤ 160 → mkRg m → mkRg (mkL nx r i m c).1 := by
  intro r
  induction r with
  | zero => intro i m c _ h; exact h
  | succ r ih =>
    intro i m c hi h
    rw [mkL]
    by_cases q : m.getD i 0 < 0
    · rw [if_pos q]; exact ih _ _ _ (by omega) (mkW_R nx (by omega) _ _ _ h)
    · rw [if_neg q]; exact ih _ _ _ (by omega) h
theorem MR_R {D : Int} (h : (LF D).length < 160) : mkRg (MR D) := by
  unfold MR
  by_cases c : 0 < D
  · rw [if_pos c]; exact mkL_R _ _ _ _ _ (by omega) (fun v hv => by rw [List.eq_of_mem_replicate hv]; omega)
  · rw [if_neg c]
    intro v hv
    unfold rngZ at hv
    rw [List.mem_map] at hv
    obtain ⟨j, hj, rfl⟩ := hv
    rw [List.mem_range] at hj
    omega
section FV
variable {l : Launch} {DD : va_G} {aI aL : ClassId} {ad : Nat → Nat} {P : sa_P} {I : sa_I} {J : sa_J}
theorem c_wrongForms {n : Nat} (h0 : n = 2 ∨ n = 3) (hI : I 0 1 = nI n) : Con (ER l DD aI aL ad) M_X7_wrongForms yX7_wrongForms [.ref (ad 0)] I J (p_i (if n = 2 then 0 else -2) I J) := by
  refine Con.of (by decide +kernel) rfl (Nat.le_of_ble_eq_true rfl) ?_
  refine bX7_wrongForms_0 ?_
  refine v_X7_203 dX7_wrongForms_1 rfl ⟨rfl, rfl, Nat.le_of_ble_eq_true rfl, Nat.le_of_ble_eq_true rfl⟩ (c_isField) rfl rfl (Nat.le_of_ble_eq_true rfl) (fun r I1 J1 hq => ?_)
  obtain ⟨rfl, e1, e2⟩ := hq
  obtain rfl := e1.symm
  obtain rfl := e2.symm
  rw [fld_pos h0 hI]
  refine bX7_wrongForms_4 (fun _ => ?_) (fun c => absurd c (by decide))
  rcases h0 with rfl | rfl
  · exact bX7_wrongForms_12 (fun _ => bX7_wrongForms_25 (bX7_wrongForms_26 ⟨rfl, rfl, rfl⟩)) (fun c => absurd (by rw [hI]; rfl) c)
  · exact bX7_wrongForms_12 (fun c => absurd c (by rw [hI]; decide)) (fun _ => bX7_wrongForms_20 (bX7_wrongForms_26 ⟨rfl, rfl, rfl⟩))
def clC (n : Nat) (D : Int) (I : sa_I) (J : sa_J) : sa_P := fun r I1 J1 => (n ≠ 2 ∧ r = some (.int (-2)) ∧ I1 = rf I 2 ∧ J1 = J) ∨ (n = 2 ∧ r = some (.int (nI (cnZ D))) ∧ fxC I I1 J J1 ∧ fcC D I1 J1)
def clR (n : Nat) (D : Int) (I : sa_I) (J : sa_J) : sa_P := fun r I1 J1 => (n ≠ 2 ∧ r = some (.int (-2)) ∧ I1 = rf I 2 ∧ J1 = J) ∨ (n = 2 ∧ r = some (.int (nI (cnZ D))) ∧ fxR I I1 J J1 ∧ fcR D I1 J1)
/-- what is known of the forms of a field of degree 2 -/
def FOK (n : Nat) (D : Int) : Prop := n = 2 → DOK D ∧ LOK D (LF D) ∧ (0 < D → (MZ D).2 = cyN (MZ D).1 0)
theorem c_classes6 {n : Nat} {D : Int} (h0 : n = 2 ∨ n = 3) (hF : FOK n D) (hI : I 4 0 = nI n) (h42 : n = 2 → J 4 2 = lI D) (hc : n = 2 → fcC D I J) : Con (EC l DD aI aL ad) M_X6_classes yX6_classes [.ref (ad 0)] I J (clC n D I J) := by
  refine Con.of (by decide +kernel) rfl (Nat.le_of_ble_eq_true rfl) ?_
  refine bX6_classes_0 (fun _ => ?_) (fun c => absurd c (by rw [hI, nI_lit 0, nJ_eq (by omega) (by omega)]; omega))
  rcases h0 with rfl | rfl
  · obtain ⟨hD, hL, _⟩ := hF rfl
    refine bX6_classes_17 (fun _ => bX6_classes_35 ?_) (fun c => absurd (by rw [hI]; rfl) c)
    refine v_X6_226 dX6_classes_39 rfl ⟨rfl, rfl, Nat.le_of_ble_eq_true rfl, Nat.le_of_ble_eq_true rfl⟩ (c_list hD hL (h42 rfl) (hc rfl)) rfl rfl (Nat.le_of_ble_eq_true rfl) (fun r I1 J1 hq => ?_)
    obtain ⟨rfl, hr, f1, f2, f3⟩ := hq
    refine bX6_classes_42 (Or.inr ⟨rfl, by rw [hr.2.1], ⟨fun q a b c d => f1 q b c d, fun q _ a => f3 q a⟩, Or.inr hr⟩)
  · refine bX6_classes_17 (fun c => absurd c (by rw [hI]; decide)) (fun _ => bX6_classes_28 ?_)
    refine v_X6_59 dX6_classes_31 rfl ⟨rfl, rfl, Nat.le_of_ble_eq_true rfl, Nat.le_of_ble_eq_true rfl⟩ (c_refused 2 (by decide) (x := -2) rfl) rfl rfl (Nat.le_of_ble_eq_true rfl) (fun r I1 J1 hq => ?_)
    obtain ⟨rfl, rfl, rfl⟩ := hq
    exact bX6_classes_34 (Or.inl ⟨by decide, rfl, rfl, rfl⟩)
theorem cs_loop {D : Int} (hL : (LF D).length < 160) (ho : hoR (LF D) I) (hm : mkM 24 (MR D) I) : ∀ (M : List Int) (i c : Nat), (MR D).drop i = M → i ≤ (LF D).length → P (some (.int (nI (c + cyN M i)))) I J → Sat (ER l DD aI aL ad) M_X7_classes P 23 [(0, .ref (ad 0)), (2, .int (nI c)), (3, .int (nI i))] [] I J := by
  have hlen := MR_len D
  intro M
  induction M with
  | nil =>
    intro i c e hi hP
    have : (MR D).length ≤ i := List.drop_eq_nil_iff.mp e
    exact bX7_classes_23 (fun _ => bX7_classes_55 hP) (fun q => absurd (by rw [ho.1, nJ_le (by omega) (by omega)]; omega) q)
  | cons v M ih =>
    intro i c e hi hP
    have il : i < (MR D).length := by
      rcases Nat.lt_or_ge i (MR D).length with q | q
      · exact q
      · rw [List.drop_eq_nil_iff.mpr q] at e; exact absurd e (by simp)
    have hv : (MR D)[i]? = some v := by
      have := List.getElem?_drop (xs := MR D) (i := i) (j := 0)
      rw [e] at this; simpa using this.symm
    have hr := MR_R hL v (List.mem_of_getElem? hv)
    have e2 : (MR D).drop (i + 1) = M := by rw [← List.drop_drop, e]; rfl
    have key : I 24 i = nI i ↔ v = (i : Int) := by
      rw [hm i v hv, nI_iI, iI_eq ⟨by omega, by omega⟩ ⟨by omega, by omega⟩]
    refine bX7_classes_23 (fun q => absurd q (by rw [ho.1, nJ_le (by omega) (by omega)]; omega)) (fun _ => ?_)
    refine bX7_classes_31 (j36 := i) rfl (by omega) (fun q => bX7_classes_46 ?_) (fun q => bX7_classes_42 ?_)
    · rw [cyN, if_neg (fun z => q (key.mpr z)), Nat.zero_add] at hP
      exact bX7_classes_47 (v48 := nI c) (v49 := nI (i + 1)) (nI_addE c 0) (nI_addE i 1) (ih (i + 1) c e2 (by omega) hP)
    · rw [cyN, if_pos (key.mp q), ← Nat.add_assoc] at hP
      exact bX7_classes_47 (v48 := nI (c + 1)) (v49 := nI (i + 1)) (nI_addE c 1) (nI_addE i 1) (ih (i + 1) (c + 1) e2 (by omega) hP)
theorem fxR_of {D : Int} {I1 : sa_I} {J1 : sa_J} (f1 : ∀ q, q ≠ 0 → q ≠ 21 → q ≠ 22 → q ≠ 23 → q ≠ 24 → I1 q = I q) (f2 : ∀ t, t ≠ 36 → I1 0 t = I 0 t) (f3 : ∀ q, q ≠ 0 → J1 q = J q) (f4 : ∀ t, t ≠ 41 → t ≠ 42 → t ≠ 43 → t ≠ 44 → J1 0 t = J 0 t) : fxR I I1 J J1 := ⟨f1, fun t _ a => f2 t a, fun q h => f3 q (by omega), fun t h => f4 t (by omega) (by omega) (by omega) (by omega)⟩
theorem c_classes7 {n : Nat} {D : Int} (h0 : n = 2 ∨ n = 3) (hF : FOK n D) (hI : I 0 1 = nI n) (h10 : n = 2 → J 0 10 = lI D) (hc : n = 2 → fcR D I J) : Con (ER l DD aI aL ad) M_X7_classes yX7_classes [.ref (ad 0)] I J (clR n D I J) := by
  refine Con.of (by decide +kernel) rfl (Nat.le_of_ble_eq_true rfl) ?_
  refine bX7_classes_0 ?_
  refine v_X7_369 dX7_classes_1 rfl ⟨rfl, rfl, Nat.le_of_ble_eq_true rfl, Nat.le_of_ble_eq_true rfl⟩ (c_wrongForms h0 hI) rfl rfl (Nat.le_of_ble_eq_true rfl) (fun r I1 J1 hq => ?_)
  obtain ⟨rfl, e1, e2⟩ := hq
  obtain rfl := e1.symm
  obtain rfl := e2.symm
  rcases h0 with rfl | rfl
  · obtain ⟨hD, hL, hcy⟩ := hF rfl
    refine bX7_classes_4 (fun _ => bX7_classes_15 ?_) (fun c => absurd rfl c)
    refine v_X7_360 dX7_classes_16 rfl ⟨rfl, rfl, Nat.le_of_ble_eq_true rfl, Nat.le_of_ble_eq_true rfl⟩ (c_findForms hD hL (h10 rfl) (hc rfl)) rfl rfl (Nat.le_of_ble_eq_true rfl) (fun r I1 J1 hq => ?_)
    obtain ⟨rfl, hr, f1, f2, f3, f4⟩ := hq
    refine bX7_classes_19 (v20 := nI 0) (v22 := nI 0) rfl rfl (cs_loop hL.1 hr.1 hr.2.1 (MR D) 0 0 rfl (Nat.zero_le _) (Or.inr ⟨rfl, ?_, fxR_of (D := D) f1 f2 f3 f4, Or.inr hr⟩))
    rw [Nat.zero_add, cyN_MR hcy]
  · refine bX7_classes_4 (fun c => absurd c (by decide)) (fun _ => bX7_classes_9 ?_)
    refine v_X7_84 dX7_classes_11 rfl ⟨rfl, rfl, Nat.le_of_ble_eq_true rfl, Nat.le_of_ble_eq_true rfl⟩ (c_refuse 2 (by decide) (x := -2) rfl) rfl rfl (Nat.le_of_ble_eq_true rfl) (fun r I1 J1 hq => ?_)
    obtain ⟨rfl, rfl, rfl⟩ := hq
    exact bX7_classes_14 (Or.inl ⟨by decide, rfl, rfl, rfl⟩)
end FV
section FW
variable {l0 : Launch} {DD : va_G} {aI aL : ClassId} {ad ad' : Nat → Nat} {I I' : sa_I} {J J' : sa_J} {N : sa_I → sa_J → sa_I → sa_J → Prop} {a1 a2 a3 : Int32} {n : Nat} {D : Int}
theorem st_classes (h0 : n = 2 ∨ n = 3) (hF : FOK n D) (hI : I 4 0 = nI n) (hI' : I' 0 1 = nI n) (h42 : n = 2 → J 4 2 = lI D) (h10 : n = 2 → J' 0 10 = lI D) (hc : n = 2 → fcC D I J) (hc' : n = 2 → fcR D I' J') (hR : N (rf I 2) J (rf I' 2) J') (hN : n = 2 → Nfo D N I J I' J') : la_Step l0 DD aI aL ad ad' N 21 a1 a2 a3 I J I' J' := by
  refine ⟨_, _, c_classes6 h0 hF hI h42 hc, c_classes7 h0 hF hI' h10 hc', fun r1 I1 J1 r2 I2 J2 P Q => ?_⟩
  rcases P with ⟨p, rfl, rfl, rfl⟩ | ⟨p, rfl, f, g⟩
  · rcases Q with ⟨_, rfl, rfl, rfl⟩ | ⟨q, _⟩
    · exact ⟨⟨_, rfl, rfl⟩, hR⟩
    · exact absurd q p
  · rcases Q with ⟨q, _⟩ | ⟨_, rfl, f', g'⟩
    · exact absurd p q
    · exact ⟨⟨_, rfl, rfl⟩, (hN p _ _ _ _ f g f' g').1⟩
end FW
