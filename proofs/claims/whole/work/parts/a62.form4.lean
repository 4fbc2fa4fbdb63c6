/-- marks and number of cycles -/
def MZ (D : Int) : List Int × Nat := mkL (nxi D (LF D)) (LF D).length 0 (List.replicate (LF D).length (-1)) 0
def cnZ (D : Int) : Nat := if 0 < D then (MZ D).2 else (LF D).length
def rdyC (D : Int) (I : sa_I) (J : sa_J) : Prop := hoL (LF D) I ∧ I 27 1 = nI (cnZ D) ∧ (0 < D → mkM 29 (MZ D).1 I) ∧ J 27 9 = lI D ∧ J 27 10 = lI (rtZ D)
def fcC (D : Int) (I : sa_I) (J : sa_J) : Prop := I 27 8 = 0 ∨ rdyC D I J
theorem okF_neg {D a : Int} (hD : D < 0) (ha : 1 ≤ a) : okF D a (-a) = false := by
  unfold okF rdB
  rw [if_pos hD]
  have h1 : ¬ (0 : Int) ≤ -a := by omega
  have h2 : - -a = a := by omega
  simp only [h1, h2, decide_false, decide_true, Bool.not_true, Bool.false_and, Bool.false_or, Bool.and_false]
theorem fB_neg {D a : Int} (hD : D < 0) (ha : 1 ≤ a) : fB D a (-a) (2 * a + 1).toNat = fB D a (1 - a) (2 * a).toNat := by
  have e : (2 * a + 1).toNat = (2 * a).toNat + 1 := by omega
  rw [e, fB, okF_neg hD ha, if_neg (by decide), List.nil_append, show -a + 1 = 1 - a by omega]
section FR
variable {l : Launch} {DD : va_G} {aI aL : ClassId} {ad : Nat → Nat} {P : sa_P} {I : sa_I} {J : sa_J}
theorem li_in {D a z : Int} (hD : bd D 1200) (ba : bd a 100) (bz : bd z 99) {I0 : sa_I} {J0 : sa_J} (m9 : J0 27 9 = lI D) (m10 : J0 27 10 = lI (rtZ D)) : ∀ (n : Nat) (b : Int) (A : List F3) (I : sa_I) (J : sa_J), b + n = z + 1 → -99 ≤ b → hoN A I → (A ++ fB D a b n).length < 160 → lfI I0 I → ffr J0 J → (∀ I1 J1, hoN (A ++ fB D a b n) I1 → lfI I0 I1 → ffr J0 J1 → Sat (EC l DD aI aL ad) M_X1_list P 130 [(0, .ref (ad 27)), (1, .long (lI a))] [] I1 J1) → Sat (EC l DD aI aL ad) M_X1_list P 107 [(0, .ref (ad 27)), (1, .long (lI a)), (3, .long (lI z)), (5, .long (lI b))] [] I J := by
  have z1 := bz.1
  have z2 := bz.2
  have gz := bd_rg bz (by decide)
  intro n
  induction n with
  | zero =>
    intro b A I J e hb hA hl fI fJ kk
    rw [fB, List.append_nil] at kk
    exact bX1_list_107 (fun _ => kk I J hA fI fJ) (fun c => absurd ((lI_lt gz ⟨by omega, by omega⟩).mpr (by omega)) c)
  | succ n ih =>
    intro b A I J e hb hA hl fI fJ kk
    have gb : rg b := ⟨by omega, by omega⟩
    rw [fB, ← List.append_assoc] at kk hl
    have hl2 : A.length < 160 := by rw [List.length_append, List.length_append] at hl; omega
    refine bX1_list_107 (fun c => absurd ((lI_lt gz gb).mp c) (by omega)) (fun _ => bX1_list_114 ?_)
    refine v_X1_62 dX1_list_118 rfl ⟨rfl, rfl, Nat.le_of_ble_eq_true rfl, Nat.le_of_ble_eq_true rfl⟩ (c_listIfReduced hD ba (b := b) ⟨by omega, by omega⟩ hA hl2 (by rw [fJ.2 9 (by decide) (by decide) (by decide)]; exact m9) (by rw [fJ.2 10 (by decide) (by decide) (by decide)]; exact m10)) rfl rfl (Nat.le_of_ble_eq_true rfl) (fun r I1 J1 hq => ?_)
    obtain ⟨rfl, hA1, g1, g2⟩ := hq
    exact bX1_list_121 (lI_add b 1) (ih (b + 1) _ I1 J1 (by omega) (by omega) hA1 hl (fI.tr g1) (fJ.tr g2) kk)
theorem li_out {D : Int} (hD : DOK D) {I0 : sa_I} {J0 : sa_J} (m9 : J0 27 9 = lI D) (m10 : J0 27 10 = lI (rtZ D)) : ∀ (n : Nat) (a : Int) (A : List F3) (I : sa_I) (J : sa_J), a + n = rtZ D + 1 → -34 ≤ a → (D < 0 → 1 ≤ a) → hoN A I → (A ++ fA D (rtZ D) a n).length < 160 → lfI I0 I → ffr J0 J → (∀ I1 J1, hoN (A ++ fA D (rtZ D) a n) I1 → lfI I0 I1 → ffr J0 J1 → Sat (EC l DD aI aL ad) M_X1_list P 137 [(0, .ref (ad 27))] [] I1 J1) → Sat (EC l DD aI aL ad) M_X1_list P 62 [(0, .ref (ad 27)), (1, .long (lI a))] [] I J := by
  have bs := isq_le hD.bd
  have s1 := bs.1
  have s2 := bs.2
  have hr := rt_of hD
  have gs := bd_rg bs (by decide)
  have gD := bd_rg hD.bd (by decide)
  have nz : D ≠ 0 := fun q => hD.nsq 0 (by rw [q]; rfl)
  intro n
  induction n with
  | zero =>
    intro a A I J e ha hneg hA hl fI fJ kk
    have m10' : J 27 10 = lI (rtZ D) := by rw [fJ.2 10 (by decide) (by decide) (by decide)]; exact m10
    rw [fA, List.append_nil] at kk
    exact bX1_list_62 (fun _ => kk I J hA fI fJ) (fun c => absurd (by rw [m10']; exact (lI_lt gs ⟨by omega, by omega⟩).mpr (by omega)) c)
  | succ n ih =>
    intro a A I J e ha hneg hA hl fI fJ kk
    have m9' : J 27 9 = lI D := by rw [fJ.2 9 (by decide) (by decide) (by decide)]; exact m9
    have m10' : J 27 10 = lI (rtZ D) := by rw [fJ.2 10 (by decide) (by decide) (by decide)]; exact m10
    have ba : bd a 99 := ⟨by omega, by omega⟩
    have ga := bd_rg ba (by decide)
    rw [fA, ← List.append_assoc] at kk hl
    have nx : ∀ {L1 : List F3}, L1 = fB D a (if 0 < D then 1 else -a) (if 0 < D then (rtZ D).toNat else (2 * a + 1).toNat) → ∀ I1 J1, hoN (A ++ L1) I1 → lfI I0 I1 → ffr J0 J1 → Sat (EC l DD aI aL ad) M_X1_list P 130 [(0, .ref (ad 27)), (1, .long (lI a))] [] I1 J1 := by
      intro L1 hL1 I1 J1 h1 h2 h3
      rw [hL1] at h1
      exact bX1_list_130 (lI_add a 1) (ih (a + 1) _ I1 J1 (by omega) (by omega) (fun q => by have := hneg q; omega) h1 hl h2 h3 kk)
    have hl3 : (A ++ fB D a (if 0 < D then 1 else -a) (if 0 < D then (rtZ D).toNat else (2 * a + 1).toNat)).length < 160 := by rw [List.length_append] at hl; omega
    refine bX1_list_62 (fun c => absurd (by rw [m10', lI_lt gs ga] at c; exact c) (by omega)) (fun _ => ?_)
    by_cases c : 0 < D
    · have c' : ¬ J 27 9 ≤ 0 := by rw [m9', show (0 : Int64) = lI 0 from rfl, lI_le gD ⟨by omega, by omega⟩]; omega
      refine bX1_list_71 (fun q => absurd q c') (fun _ => bX1_list_80 (bX1_list_88 (fun q => absurd q c') (fun _ => bX1_list_98 (bX1_list_105 ?_))))
      rw [m10']
      rw [if_pos c, if_pos c] at nx hl3
      exact li_in hD.bd (bd_mono ba (by decide)) (bd_mono bs (by decide)) m9 m10 (rtZ D).toNat 1 A I J (by omega) (by omega) hA hl3 fI fJ (nx rfl)
    · have c' : J 27 9 ≤ 0 := by rw [m9', show (0 : Int64) = lI 0 from rfl, lI_le gD ⟨by omega, by omega⟩]; omega
      have dn : D < 0 := by omega
      have a1 := hneg dn
      refine bX1_list_71 (fun _ => bX1_list_87 (bX1_list_88 (fun _ => bX1_list_102 (bX1_list_105 ?_)) (fun q => absurd c' q))) (fun q => absurd c' q)
      rw [show (1 : Int64) = lI 1 from rfl, lI_sub]
      rw [if_neg c, if_neg c, fB_neg dn a1] at nx hl3
      exact li_in hD.bd (bd_mono ba (by decide)) ba m9 m10 (2 * a).toNat (1 - a) A I J (by omega) (by omega) hA hl3 fI fJ (nx rfl)
theorem c_list {D : Int} (hD : DOK D) (hL : LOK D (LF D)) (h42 : J 4 2 = lI D) (hc : fcC D I J) : Con (EC l DD aI aL ad) M_X1_list yX1_list [.ref (ad 27)] I J (fun r I1 J1 => r = none ∧ rdyC D I1 J1 ∧ (∀ q, q ≠ 27 → q ≠ 28 → q ≠ 29 → I1 q = I q) ∧ (∀ t, t ≠ 0 → t ≠ 1 → t ≠ 8 → I1 27 t = I 27 t) ∧ ∀ q, q ≠ 27 → J1 q = J q) := by
  refine Con.of (by decide +kernel) rfl (Nat.le_of_ble_eq_true rfl) ?_
  have h160 := hL.1
  have hr := rt_of hD
  have gD := bd_rg hD.bd (by decide)
  have bs := isq_le hD.bd
  have nz : D ≠ 0 := fun q => hD.nsq 0 (by rw [q]; rfl)
  refine bX1_list_0 (fun _ => ?_) (fun c => bX1_list_7 ⟨rfl, hc.resolve_left c, fun _ _ _ _ => rfl, fun _ _ _ _ => rfl, fun _ _ => rfl⟩)
  refine bX1_list_8 (v10 := 1) (v15 := 0) (v26 := lI D) rfl rfl rfl rfl h42 ?_
  rw [sa_uJ_at]
  refine v_X1_50 dX1_list_34 rfl ⟨rfl, rfl, Nat.le_of_ble_eq_true rfl, Nat.le_of_ble_eq_true rfl⟩ (c_abs gD (by have := hD.1; omega)) rfl rfl (Nat.le_of_ble_eq_true rfl) (fun r I1 J1 hq => ?_)
  obtain ⟨rfl, e1, e2⟩ := hq
  obtain rfl := e1.symm
  obtain rfl := e2.symm
  refine v_X1_56 dX1_list_37 rfl ⟨rfl, rfl, Nat.le_of_ble_eq_true rfl, Nat.le_of_ble_eq_true rfl⟩ (c_wholeRoot (x := ((D.natAbs : Nat) : Int)) (bd_rg (bdAbs hD.bd) (by decide))) rfl rfl (Nat.le_of_ble_eq_true rfl) (fun r I1 J1 hq => ?_)
  obtain ⟨rfl, e1, e2⟩ := hq
  obtain rfl := e1.symm
  obtain rfl := e2.symm
  have e0 : lI ((isqF 1000 0 ((D.natAbs : Nat) : Int) : Nat) : Int) = lI (rtZ D) := rfl
  rw [e0]
  have m9 : sa_uJ (sa_uJ J 27 9 (lI D)) 27 10 (lI (rtZ D)) 27 9 = lI D := by rw [sa_uJ_off (by decide), sa_uJ_at]
  have m10 : sa_uJ (sa_uJ J 27 9 (lI D)) 27 10 (lI (rtZ D)) 27 10 = lI (rtZ D) := sa_uJ_at
  have fJ0 : ∀ q, q ≠ 27 → sa_uJ (sa_uJ J 27 9 (lI D)) 27 10 (lI (rtZ D)) q = J q := fun q h => by rw [sa_uJ_ne h, sa_uJ_ne h]
  have hA : hoN [] (sa_uI (sa_uI I 27 8 1) 27 0 0) := ⟨⟨sa_uI_at, fun k f h => absurd h (by simp)⟩, fun k h => absurd h (by simp)⟩
  have fI0 : ∀ q, q ≠ 27 → sa_uI (sa_uI I 27 8 1) 27 0 0 q = I q := fun q h => by rw [sa_uI_ne h, sa_uI_ne h]
  have fI27 : ∀ t, t ≠ 0 → t ≠ 8 → sa_uI (sa_uI I 27 8 1) 27 0 0 27 t = I 27 t := fun t a b => by rw [sa_uI_off a, sa_uI_off b]
  have up : ∀ {v : Int}, (v = if 0 < D then -rtZ D else 1) → Sat (EC l DD aI aL ad) M_X1_list (fun r I1 J1 => r = none ∧ rdyC D I1 J1 ∧ (∀ q, q ≠ 27 → q ≠ 28 → q ≠ 29 → I1 q = I q) ∧ (∀ t, t ≠ 0 → t ≠ 1 → t ≠ 8 → I1 27 t = I 27 t) ∧ ∀ q, q ≠ 27 → J1 q = J q) 61 [(0, .ref (ad 27))] [.long (lI v)] (sa_uI (sa_uI I 27 8 1) 27 0 0) (sa_uJ (sa_uJ J 27 9 (lI D)) 27 10 (lI (rtZ D))) := by
    intro v hv
    refine bX1_list_61 ?_
    generalize sa_uI (sa_uI I 27 8 1) 27 0 0 = I0 at hA fI0 fI27
    generalize sa_uJ (sa_uJ J 27 9 (lI D)) 27 10 (lI (rtZ D)) = J0 at m9 m10 fJ0
    have v1 : -34 ≤ v ∧ v ≤ 35 := by rw [hv]; by_cases c : 0 < D <;> simp only [c, if_true, if_false] <;> omega
    have ev : LF D = fA D (rtZ D) v (if 0 < D then (2 * rtZ D + 1).toNat else (rtZ D).toNat) := by unfold LF; rw [hv]
    refine li_out hD m9 m10 (if 0 < D then (2 * rtZ D + 1).toNat else (rtZ D).toNat) v [] I0 J0 ?_ v1.1 (fun q => by rw [hv, if_neg (by omega)]; omega) hA (by rw [List.nil_append, ← ev]; exact h160) lfI.rfl' ffr.rfl' (fun I1 J1 h1 fI fJ => ?_)
    · rw [hv]; by_cases c : 0 < D <;> simp only [c, if_true, if_false] <;> omega
    rw [List.nil_append, ← ev] at h1
    have m9' : J1 27 9 = lI D := by rw [fJ.2 9 (by decide) (by decide) (by decide)]; exact m9
    have m10' : J1 27 10 = lI (rtZ D) := by rw [fJ.2 10 (by decide) (by decide) (by decide)]; exact m10
    have fq : ∀ q, q ≠ 27 → q ≠ 28 → q ≠ 29 → I1 q = I q := fun q a b c => (fI.1 q a b c).trans (fI0 q a)
    have ft : ∀ t, t ≠ 0 → t ≠ 1 → t ≠ 8 → I1 27 t = I 27 t := fun t a b c => (fI.2 t a).trans (fI27 t a c)
    have fj : ∀ q, q ≠ 27 → J1 q = J q := fun q a => (fJ.1 q a).trans (fJ0 q a)
    by_cases c : 0 < D
    · have c' : ¬ J1 27 9 ≤ 0 := by rw [m9', show (0 : Int64) = lI 0 from rfl, lI_le gD ⟨by omega, by omega⟩]; omega
      refine bX1_list_137 (fun q => absurd q c') (fun _ => bX1_list_146 ?_)
      refine v_X1_66 dX1_list_147 rfl ⟨rfl, rfl, Nat.le_of_ble_eq_true rfl, Nat.le_of_ble_eq_true rfl⟩ (c_markCycles hD hL c h1 m9' m10') rfl rfl (Nat.le_of_ble_eq_true rfl) (fun r I2 J2 hq => ?_)
      obtain ⟨rfl, hm, h27, g1, g2, g3⟩ := hq
      refine bX1_list_150 (bX1_list_161 ⟨rfl, ⟨h1.1.keep (g2 0 (by decide)) (by rw [g1 28 (by decide) (by decide)]), ?_, fun _ => hm, ?_, ?_⟩, fun q a b c => (g1 q c a).trans (fq q a b c), fun t a b c => (g2 t b).trans (ft t a b c), fun q a => (g3.1 q a).trans (fj q a)⟩)
      · rw [h27]; unfold cnZ; rw [if_pos c]; rfl
      · rw [g3.2 9 (by decide) (by decide) (by decide)]; exact m9'
      · rw [g3.2 10 (by decide) (by decide) (by decide)]; exact m10'
    · have c' : J1 27 9 ≤ 0 := by rw [m9', show (0 : Int64) = lI 0 from rfl, lI_le gD ⟨by omega, by omega⟩]; omega
      refine bX1_list_137 (fun _ => bX1_list_153 (v158 := nI (LF D).length) h1.1.1 (bX1_list_161 ⟨rfl, ⟨h1.1.keep (sa_uI_off (by decide)) (sa_uI_ne (by decide)), ?_, fun q => absurd q c, m9', m10'⟩, fun q a b c => by rw [sa_uI_ne a]; exact fq q a b c, fun t a b c => by rw [sa_uI_off b]; exact ft t a b c, fj⟩)) (fun q => absurd c' q)
      rw [sa_uI_at]; unfold cnZ; rw [if_neg c]
  have e9 : sa_uJ (sa_uJ J 27 9 (lI D)) 27 10 (lI (rtZ D)) 27 9 = lI D := m9
  refine bX1_list_40 (fun c => ?_) (fun c => ?_)
  · rw [e9, show (0 : Int64) = lI 0 from rfl, lI_le gD ⟨by omega, by omega⟩] at c
    exact bX1_list_60 (up (v := 1) (by rw [if_neg (by omega)]))
  · rw [e9, show (0 : Int64) = lI 0 from rfl, lI_le gD ⟨by omega, by omega⟩] at c
    refine bX1_list_52 ?_
    rw [m10, lI_neg]
    exact up (by rw [if_pos (by omega)])
end FR
