/-- the form whose ideal is taken: the next if a is below 0 -/
def posF (D : Int) (f : F3) : F3 := if f.1 < 0 then nxF D (rtZ D) f else f
section OA
variable {l : Launch} {DD : va_G} {aI aL : ClassId} {ad : Nat → Nat} {P : sa_P} {I : sa_I} {J : sa_J} {E : sa_E}
theorem fill_loop {a0 q0 : Nat} (hq0 : sa_iJ E a0 q0 9) {x : Int64} {J0 : sa_J} : ∀ (d i : Nat) (J : sa_J), i + d = 9 → (∀ q, q ≠ q0 → J q = J0 q) → (∀ t, t < i → J q0 t = x) → (∀ J1, (∀ q, q ≠ q0 → J1 q = J0 q) → (∀ t, t < 9 → J1 q0 t = x) → P none I J1) → Sat E M_J7_fill_d0a16 P 6 [(0, .ref a0), (1, .long x), (3, .int (nI i)), (4, .int (nI 9))] [] I J := by
  intro d
  induction d with
  | zero =>
    intro i J e f h kk
    have ei : i = 9 := by omega
    subst ei
    exact bJ7_fill_d0a16_6 hq0 (by decide) (fun _ => bJ7_fill_d0a16_22 (kk J f h)) (fun c => absurd (by decide) c)
  | succ d ih =>
    intro i J e f h kk
    refine bJ7_fill_d0a16_6 hq0 (by decide) (fun c => absurd c (by rw [nJ_le (by omega) (by omega)]; omega)) (fun _ => ?_)
    refine bJ7_fill_d0a16_12 (j13 := i) (v16 := nI (i + 1)) hq0 (by decide) rfl (by omega) (nI_addE i 1) (ih (i + 1) _ (by omega) (fun q hq => by rw [sa_uJ_ne hq]; exact f q hq) (fun t ht => ?_) kk)
    by_cases c : t = i
    · subst c; exact sa_uJ_at
    · rw [sa_uJ_off c]; exact h t (by omega)
theorem c_fill9 {a0 q0 : Nat} (hq0 : sa_iJ E a0 q0 9) {x : Int64} : Con E M_J7_fill_d0a16 yJ7_fill_d0a16 [.ref a0, .long x] I J (fun r I1 J1 => r = none ∧ I1 = I ∧ (∀ q, q ≠ q0 → J1 q = J q) ∧ ∀ t, t < 9 → J1 q0 t = x) := by
  refine Con.ofF (by decide +kernel) rfl (Nat.le_of_ble_eq_true rfl) ?_
  exact bJ7_fill_d0a16_0 (v1 := nI 0) (v4 := nI 9) hq0 (by decide) rfl rfl (fill_loop hq0 9 0 J rfl (fun _ _ => rfl) (fun t h => absurd h (by omega)) (fun J1 a b => ⟨rfl, rfl, a, b⟩))
theorem c_smallRows {x y : Int} {f : F3} (bq : bd y 20) (hD : DOK (y * y + 4 * x)) (hF : FI (y * y + 4 * x) f) (hp : 0 < (posF (y * y + 4 * x) f).1) (hp2 : (posF (y * y + 4 * x) f).1 ≤ 1000000) (hb : bdF f 10000000) (hm : fmS (y * y + 4 * x) f J) (h13 : J 8 13 = lI y) {a1 q1 : Nat} (hq1 : sa_iJ (EC l DD aI aL ad) a1 q1 9) (hz : q1 ≠ 27 ∧ q1 ≠ 8) : Con (EC l DD aI aL ad) M_X1_smallRows yX1_smallRows [.ref (ad 27), .ref a1] I J (fun r I1 J1 => r = none ∧ I1 = I ∧ fmS (y * y + 4 * x) (posF (y * y + 4 * x) f) J1 ∧ (∀ t, t < 9 → J1 q1 t = lI (smI (posF (y * y + 4 * x) f).1 (smE y (posF (y * y + 4 * x) f)) t)) ∧ (∀ q, q ≠ q1 → q ≠ 27 → J1 q = J q) ∧ ∀ t, t ≠ 11 → t ≠ 12 → t ≠ 13 → J1 27 t = J 27 t) := by
  refine Con.of (by decide +kernel) rfl (Nat.le_of_ble_eq_true rfl) ?_
  generalize hDe : y * y + 4 * x = D at *
  have rest : ∀ (g : F3) (Ja : sa_J), g = posF D f → fmS D g Ja → ffr J Ja → bdF g 10000000 → FI D g → Sat (EC l DD aI aL ad) M_X1_smallRows (fun r I1 J1 => r = none ∧ I1 = I ∧ fmS D (posF D f) J1 ∧ (∀ t, t < 9 → J1 q1 t = lI (smI (posF D f).1 (smE y (posF D f)) t)) ∧ (∀ q, q ≠ q1 → q ≠ 27 → J1 q = J q) ∧ ∀ t, t ≠ 11 → t ≠ 12 → t ≠ 13 → J1 27 t = J 27 t) 13 [(0, .ref (ad 27)), (1, .ref a1)] [] I Ja := by
    intro g Ja hg gm gf gb gF
    rw [← hg] at hp hp2 ⊢
    obtain ⟨m9, m10, m11, m12, m13⟩ := gm
    have by2 : bd (g.2.1 - y) 10000020 := bd_sub gb.2.1 bq
    have ga := bd_rg gb.1 (by decide)
    refine bX1_smallRows_13 hq1 (by decide) ?_
    refine v_X1_160 dX1_smallRows_15 rfl ⟨rfl, rfl, Nat.le_of_ble_eq_true rfl, Nat.le_of_ble_eq_true rfl⟩ (c_fill9 hq1) rfl rfl (Nat.le_of_ble_eq_true rfl) (fun r I1 J1 hq => ?_)
    obtain ⟨rfl, e1, f1, z⟩ := hq
    obtain rfl := e1.symm
    have n27 : J1 27 = Ja 27 := f1 27 (Ne.symm hz.1)
    refine bX1_smallRows_18 (v24 := lI g.1) hq1 (by decide) (by decide) (by rw [n27]; exact m11) ?_
    rw [sa_uJ_ne (Ne.symm hz.1), n27, m12]
    refine v_X1_107 dX1_smallRows_35 rfl ⟨rfl, rfl, Nat.le_of_ble_eq_true rfl, Nat.le_of_ble_eq_true rfl⟩ (c_trS2) rfl rfl (Nat.le_of_ble_eq_true rfl) (fun r I2 J2 hq => ?_)
    obtain ⟨rfl, e1, e2⟩ := hq
    obtain rfl := e1.symm
    obtain rfl := e2.symm
    rw [sa_uJ_ne (Ne.symm hz.2), f1 8 (Ne.symm hz.2), gf.1 8 (by decide), h13]
    refine bX1_smallRows_38 hq1 (by decide) ?_
    rw [lI_sub, show (2 : Int64) = lI 2 from rfl]
    refine v_X1_104 dX1_smallRows_42 rfl ⟨rfl, rfl, Nat.le_of_ble_eq_true rfl, Nat.le_of_ble_eq_true rfl⟩ (c_partS (bd_rg by2 (by decide)) (b := 2) ⟨by omega, by omega⟩ (by decide)) rfl rfl (Nat.le_of_ble_eq_true rfl) (fun r I2 J2 hq => ?_)
    obtain ⟨rfl, e1, e2⟩ := hq
    obtain rfl := e1.symm
    obtain rfl := e2.symm
    refine bX1_smallRows_45 hq1 (by decide) ?_
    rw [sa_uJ_ne (Ne.symm hz.1), n27, m11]
    refine v_X1_166 dX1_smallRows_49 rfl ⟨rfl, rfl, Nat.le_of_ble_eq_true rfl, Nat.le_of_ble_eq_true rfl⟩ (c_rest (a := (g.2.1 - y).tdiv 2) (W := g.1) (z := smE y g) rfl rfl (bd_rg (tdiv_bd by2) (by decide)) hp hp2 rfl) rfl rfl (Nat.le_of_ble_eq_true rfl) (fun r I2 J2 hq => ?_)
    obtain ⟨rfl, e1, e2⟩ := hq
    obtain rfl := e1.symm
    obtain rfl := e2.symm
    refine bX1_smallRows_52 (s1 := 3) (v56 := lI 1) (v61 := lI 1) hq1 (by decide) (by decide) (by decide) (by decide) rfl rfl ⟨rfl, rfl, ⟨?_, ?_, ?_, ?_, ?_⟩, fun t ht => ?_, fun q a b => ?_, fun t a b c => ?_⟩
    · rw [sa_uJ_ne (Ne.symm hz.1), sa_uJ_ne (Ne.symm hz.1), sa_uJ_ne (Ne.symm hz.1), sa_uJ_ne (Ne.symm hz.1), n27]; exact m9
    · rw [sa_uJ_ne (Ne.symm hz.1), sa_uJ_ne (Ne.symm hz.1), sa_uJ_ne (Ne.symm hz.1), sa_uJ_ne (Ne.symm hz.1), n27]; exact m10
    · rw [sa_uJ_ne (Ne.symm hz.1), sa_uJ_ne (Ne.symm hz.1), sa_uJ_ne (Ne.symm hz.1), sa_uJ_ne (Ne.symm hz.1), n27]; exact m11
    · rw [sa_uJ_ne (Ne.symm hz.1), sa_uJ_ne (Ne.symm hz.1), sa_uJ_ne (Ne.symm hz.1), sa_uJ_ne (Ne.symm hz.1), n27]; exact m12
    · rw [sa_uJ_ne (Ne.symm hz.1), sa_uJ_ne (Ne.symm hz.1), sa_uJ_ne (Ne.symm hz.1), sa_uJ_ne (Ne.symm hz.1), n27]; exact m13
    · rcases below9 ht with rfl | rfl | rfl | rfl | rfl | rfl | rfl | rfl | rfl
      · rw [sa_uJ_off (by decide), sa_uJ_off (by decide), sa_uJ_off (by decide), sa_uJ_at]; rfl
      · rw [sa_uJ_off (by decide), sa_uJ_off (by decide), sa_uJ_off (by decide), sa_uJ_off (by decide), z 1 (by decide)]; rfl
      · rw [sa_uJ_off (by decide), sa_uJ_off (by decide), sa_uJ_off (by decide), sa_uJ_off (by decide), z 2 (by decide)]; rfl
      · rw [sa_uJ_off (by decide), sa_uJ_off (by decide), sa_uJ_at]; rfl
      · rw [sa_uJ_off (by decide), sa_uJ_at]; rfl
      · rw [sa_uJ_off (by decide), sa_uJ_off (by decide), sa_uJ_off (by decide), sa_uJ_off (by decide), z 5 (by decide)]; rfl
      · rw [sa_uJ_off (by decide), sa_uJ_off (by decide), sa_uJ_off (by decide), sa_uJ_off (by decide), z 6 (by decide)]; rfl
      · rw [sa_uJ_off (by decide), sa_uJ_off (by decide), sa_uJ_off (by decide), sa_uJ_off (by decide), z 7 (by decide)]; rfl
      · rw [sa_uJ_at]; rfl
    · rw [sa_uJ_ne a, sa_uJ_ne a, sa_uJ_ne a, sa_uJ_ne a, f1 q a]; exact gf.1 q b
    · rw [sa_uJ_ne (Ne.symm hz.1), sa_uJ_ne (Ne.symm hz.1), sa_uJ_ne (Ne.symm hz.1), sa_uJ_ne (Ne.symm hz.1), n27]; exact gf.2 t a b c
  have ga := bd_rg hb.1 (by decide)
  refine bX1_smallRows_0 hq1 (by decide) (fun q => ?_) (fun q => bX1_smallRows_9 hq1 (by decide) ?_)
  · rw [hm.2.2.1, show (0 : Int64) = lI 0 from rfl, lI_le ⟨by omega, by omega⟩ ga] at q
    have e : posF D f = f := by unfold posF; rw [if_neg (by omega)]
    exact rest f J e.symm hm ffr.rfl' hb hF
  · rw [hm.2.2.1, show (0 : Int64) = lI 0 from rfl, lI_le ⟨by omega, by omega⟩ ga] at q
    have e : posF D f = nxF D (rtZ D) f := by unfold posF; rw [if_pos (by omega)]
    refine v_X1_93 dX1_smallRows_10 rfl ⟨rfl, rfl, Nat.le_of_ble_eq_true rfl, Nat.le_of_ble_eq_true rfl⟩ (c_goNext hD.bd (bdF_mono hb (by decide)) hF.2.2 hm) rfl rfl (Nat.le_of_ble_eq_true rfl) (fun r I1 J1 hq => ?_)
    obtain ⟨rfl, e1, h1, h2⟩ := hq
    obtain rfl := e1.symm
    have hpD : 0 < D := by
      rcases Int.lt_or_le 0 D with z | z
      · exact z
      · exfalso
        have e1 : (nxF D (rtZ D) f).1 = f.2.2 := rfl
        rw [e, e1] at hp
        have e2 := hF.1
        have n := sq_nn f.2.1
        have m := Int.mul_pos (show 0 < 4 * -f.1 by omega) hp
        have e3 : 4 * -f.1 * f.2.2 = -(4 * f.1 * f.2.2) := by grind
        have nz : D ≠ 0 := fun q => hD.nsq 0 (by rw [q]; rfl)
        omega
    obtain ⟨s1, s2, _⟩ := stp_bd hD (by decide) hF (fun z => absurd z (by omega)) hb
    have es : stpF D f = nxF D (rtZ D) f := by unfold stpF; rw [if_pos hpD]
    rw [es] at s1 s2
    exact rest _ J1 e.symm h1 h2 s1 s2
end OA
