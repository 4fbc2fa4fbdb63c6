/-- every form of the kind met is reduced within 60 steps -/
theorem wi60 {D : Int} (hD : DOK D) {f : F3} (h : FI D f) (hn : D < 0 → 0 < f.1) (ha : f.1 ≤ 1000000) (hb : bdF f 10000000) : wiN D 60 f := by
  have nz : D ≠ 0 := fun q => hD.nsq 0 (by rw [q]; rfl)
  by_cases c : 0 < D
  · have := wi_pos hD c 12 h (by have := hb.2.2.1; have := hb.2.2.2; show _ < (4 : Int) ^ 12; omega)
    exact wiN_le (j := 46) this
  · have := wi_neg (by omega) hD.1 16 h (hn (by omega)) (by show _ < 30 * (2 : Int) ^ 16; omega)
    exact wiN_le (j := 14) this
section GD
variable {l : Launch} {DD : va_G} {aI aL : ClassId} {ad : Nat → Nat} {P : sa_P} {I : sa_I} {J : sa_J}
theorem c_classOfRows6 {x y : Int} {R : Nat → Int} (hb : bd x 200 ∧ bd y 20) (h : IdR 2 (T2 x y) R) (hD : DOK (y * y + 4 * x)) (hL : LOK (y * y + 4 * x) (LF (y * y + 4 * x))) (hr : rdyC (y * y + 4 * x) I J) (h12 : J 8 12 = lI x) (h13 : J 8 13 = lI y) {a1 q1 n1 p1 : Nat} (hq1 : sa_iJ (EC l DD aI aL ad) a1 q1 n1) (hn1 : n1 < 2 ^ 31) (hb1 : p1 + 9 ≤ n1) (hz : q1 ≠ 27) (hR : ∀ t, t < 9 → J q1 (p1 + t) = lI (R t)) : Con (EC l DD aI aL ad) M_X1_classOfRows yX1_classOfRows [.ref (ad 27), .ref a1, .int (nI p1)] I J (fun r I1 J1 => r = some (.int (iI (clsZ (y * y + 4 * x) (pfR (T2 x y) R)))) ∧ I1 = I ∧ fmS (y * y + 4 * x) (RD (y * y + 4 * x) (pfR (T2 x y) R)) J1 ∧ ffr J J1) := by
  refine Con.of (by decide +kernel) rfl (Nat.le_of_ble_eq_true rfl) ?_
  obtain ⟨a, e, c, _, _, a0, _, _, _, amax, epf, hF, hB⟩ := pfR_of hb h (fun b => hD.nsq b)
  refine bX1_classOfRows_0 hq1 hn1 ?_
  refine v_X1_120 dX1_classOfRows_3 rfl ⟨rfl, rfl, Nat.le_of_ble_eq_true rfl, Nat.le_of_ble_eq_true rfl⟩ (c_formOfRows hb h hD hr.2.2.2.1 hr.2.2.2.2 h12 h13 hq1 hn1 hb1 hz hR) rfl rfl (Nat.le_of_ble_eq_true rfl) (fun r I1 J1 hq => ?_)
  obtain ⟨rfl, e1, h1, h2⟩ := hq
  obtain rfl := e1.symm
  refine bX1_classOfRows_6 ?_
  have hr' : rdyC (y * y + 4 * x) I J1 := ⟨hr.1, hr.2.1, hr.2.2.1, h1.1, h1.2.1⟩
  refine v_X1_124 dX1_classOfRows_7 rfl ⟨rfl, rfl, Nat.le_of_ble_eq_true rfl, Nat.le_of_ble_eq_true rfl⟩ (c_classOfForm hD hL (wi60 hD (by rw [epf]; exact hF) (fun _ => by rw [epf]; exact a0) (by rw [epf]; exact amax) (by rw [epf]; exact hB)) (by rw [epf]; exact hF) (fun _ => by rw [epf]; exact a0) (by rw [epf]; exact hB) h1 hr') rfl rfl (Nat.le_of_ble_eq_true rfl) (fun r I2 J2 hq => ?_)
  obtain ⟨rfl, e1, h3, h4, _⟩ := hq
  obtain rfl := e1.symm
  exact bX1_classOfRows_10 ⟨rfl, rfl, h3, h2.tr h4⟩
/-- the reference's way to a reduced form, D below 0 -/
theorem rr_loop {D : Int} (hD : DOK D) (dn : D < 0) (m10 : J 0 10 = lI D) : ∀ (k : Nat) (f : F3), wiN D k f → FI D f → 0 < f.1 → bdF f 10000000 → (∀ g : F3, g = rdN D (k + 1) f → FI D g → bdF g 10000000 → Sat (ER l DD aI aL ad) M_X7_reduced P 125 [(0, .ref (ad 0)), (5, .long (lI g.1)), (7, .long (lI g.2.1))] [] I J) → Sat (ER l DD aI aL ad) M_X7_reduced P 14 [(0, .ref (ad 0)), (5, .long (lI f.1)), (7, .long (lI f.2.1))] [] I J := by
  have d1 := hD.1
  have step : ∀ (f : F3), FI D f → 0 < f.1 → bdF f 10000000 → ((trnF D f).1 < f.1 → Sat (ER l DD aI aL ad) M_X7_reduced P 14 [(0, .ref (ad 0)), (5, .long (lI (trnF D f).1)), (7, .long (lI (trnF D f).2.1))] [] I J) → (¬ (trnF D f).1 < f.1 → Sat (ER l DD aI aL ad) M_X7_reduced P 125 [(0, .ref (ad 0)), (5, .long (lI (trnF D f).1)), (7, .long (lI (trnF D f).2.1))] [] I J) → Sat (ER l DD aI aL ad) M_X7_reduced P 14 [(0, .ref (ad 0)), (5, .long (lI f.1)), (7, .long (lI f.2.1))] [] I J := by
    intro f hF a0 hb k1 k2
    obtain ⟨ba, bb, bc⟩ := hb
    have ga := bd_rg ba (by decide)
    have a1 := ba.2
    obtain ⟨⟨n1, n2⟩, _⟩ := nrm_of (b := f.2.1) a0
    have bn : bd (nrmB f.1 f.2.1) 10000000 := ⟨by omega, by omega⟩
    have gn := bd_rg bn (by decide)
    have bx := bd_sub (bd_mul bn bn) hD.bd
    have b4 : bd (4 * f.1) 40000000 := bd_mul (A := 4) ⟨by decide, by decide⟩ ba
    have g4 := bd_rg b4 (by decide)
    have e4 : (4 : Int64) * lI f.1 = lI (4 * f.1) := by rw [show (4 : Int64) = lI 4 from rfl, lI_mul]
    have bcc := tdiv_bd (b := 4 * f.1) bx
    have gcc := bd_rg bcc (by decide)
    have b2 : bd (2 * f.1) 20000000 := ⟨by omega, by omega⟩
    have r0 := Int.emod_nonneg f.2.1 (show 2 * f.1 ≠ 0 by omega)
    have r1 := Int.emod_lt_of_pos f.2.1 (show 0 < 2 * f.1 by omega)
    have gm : rg (f.2.1 % (2 * f.1)) := ⟨by omega, by omega⟩
    have et : trnF D f = if (nrmB f.1 f.2.1 * nrmB f.1 f.2.1 - D).tdiv (4 * f.1) < f.1 ∨ (f.1 = (nrmB f.1 f.2.1 * nrmB f.1 f.2.1 - D).tdiv (4 * f.1) ∧ nrmB f.1 f.2.1 < 0) then ((nrmB f.1 f.2.1 * nrmB f.1 f.2.1 - D).tdiv (4 * f.1), -nrmB f.1 f.2.1, f.1) else (f.1, nrmB f.1 f.2.1, (nrmB f.1 f.2.1 * nrmB f.1 f.2.1 - D).tdiv (4 * f.1)) := rfl
    have go : ∀ {v : Int}, v = nrmB f.1 f.2.1 → Sat (ER l DD aI aL ad) M_X7_reduced P 49 [(0, .ref (ad 0)), (5, .long (lI f.1))] [.long (lI v)] I J := by
      intro v hv
      subst hv
      rw [et] at k1 k2
      generalize nrmB f.1 f.2.1 = b' at *
      have ef : (lI b' * lI b' - J 0 10) / ((4 : Int64) * lI f.1) = lI ((b' * b' - D).tdiv (4 * f.1)) := by rw [m10, lI_mul, lI_sub, e4, lI_divS (bd_rg bx (by decide)) g4]
      generalize (b' * b' - D).tdiv (4 * f.1) = c1 at *
      have e0 : ∀ {w : Int}, Sat (ER l DD aI aL ad) M_X7_reduced P 125 [(0, .ref (ad 0)), (5, .long (lI f.1)), (7, .long (lI w))] [] I J → Sat (ER l DD aI aL ad) M_X7_reduced P 122 [(0, .ref (ad 0)), (5, .long (lI f.1)), (7, .long (lI w)), (9, .int 0)] [] I J := fun h => bX7_reduced_122 (bX7_reduced_9 (fun _ => h) (fun q => absurd rfl q))
      refine bX7_reduced_49 (v68 := lI c1) (by rw [e4]; exact lI_ne0 g4 (by omega)) ef (fun q => bX7_reduced_82 (bX7_reduced_83 (fun _ => ?_) (fun z => absurd rfl z))) (fun q => bX7_reduced_78 (bX7_reduced_83 (fun z => absurd z (by decide)) (fun _ => ?_)))
      · rw [lI_le ga gcc] at q
        refine bX7_reduced_102 (fun q2 => e0 ?_) (fun q2 => ?_)
        · rw [lI_eq ga gcc] at q2
          have kn : ¬ (c1 < f.1 ∨ (f.1 = c1 ∧ b' < 0)) := by rintro (z | z); omega; exact q2 z.1
          rw [if_neg kn] at k2
          exact k2 (by show ¬ f.1 < f.1; omega)
        rw [lI_eq ga gcc] at q2
        refine bX7_reduced_110 (fun q3 => e0 ?_) (fun q3 => bX7_reduced_117 (lI_neg b') (e0 ?_))
        · rw [show (0 : Int64) = lI 0 from rfl, lI_le ⟨by omega, by omega⟩ gn] at q3
          have kn : ¬ (c1 < f.1 ∨ (f.1 = c1 ∧ b' < 0)) := by rintro (z | z) <;> omega
          rw [if_neg kn] at k2
          exact k2 (by show ¬ f.1 < f.1; omega)
        · rw [show (0 : Int64) = lI 0 from rfl, lI_le ⟨by omega, by omega⟩ gn] at q3
          have kn : c1 < f.1 ∨ (f.1 = c1 ∧ b' < 0) := Or.inr ⟨q2, by omega⟩
          rw [if_pos kn] at k2
          have := k2 (by show ¬ c1 < f.1; omega)
          dsimp only at this
          rw [← q2] at this
          exact this
      · rw [lI_le ga gcc] at q
        have kn : c1 < f.1 ∨ (f.1 = c1 ∧ b' < 0) := Or.inl (by omega)
        rw [if_pos kn] at k1
        refine bX7_reduced_90 (lI_neg b') (bX7_reduced_122 (bX7_reduced_9 (fun z => absurd z (by decide)) (fun _ => k1 (by show c1 < f.1; omega))))
    refine bX7_reduced_14 ?_
    rw [show (2 : Int64) = lI 2 from rfl, lI_mul]
    refine v_X7_155 dX7_reduced_22 rfl ⟨rfl, rfl, Nat.le_of_ble_eq_true rfl, Nat.le_of_ble_eq_true rfl⟩ (c_floorMod (a := f.2.1) (b := 2 * f.1) (bd_rg bb (by decide)) (bd_rg b2 (by decide)) (by omega)) rfl rfl (Nat.le_of_ble_eq_true rfl) (fun r I1 J1 hq => ?_)
    obtain ⟨rfl, e1, e2⟩ := hq
    obtain rfl := e1.symm
    obtain rfl := e2.symm
    refine bX7_reduced_25 (fun q => bX7_reduced_47 (go ?_)) (fun q => bX7_reduced_35 ?_)
    · rw [lI_le gm ga] at q
      unfold nrmB; rw [if_neg (by omega)]
    · rw [lI_le gm ga] at q
      rw [show (2 : Int64) = lI 2 from rfl, lI_mul, lI_sub]
      refine go ?_
      unfold nrmB; rw [if_pos (by omega)]
  /- a reduced form stays -/
  have stay : ∀ f, FI D f → 0 < f.1 → rdB D f.1 f.2.1 f.2.2 = true → trnF D f = f := by
    intro f hF a0 hr
    rw [rdB_neg dn] at hr
    obtain ⟨r1, r2, r3⟩ := hr
    have en : nrmB f.1 f.2.1 = f.2.1 := nrm_id a0 (by rcases r3 with z | z <;> omega) (by omega)
    unfold trnF
    dsimp only
    rw [en, hF.tdiv, if_neg (by rintro (z | z) <;> omega)]
  intro k
  induction k with
  | zero =>
    intro f hw hF a0 hb kk
    have hw' : rdB D f.1 f.2.1 f.2.2 = true := hw
    have es := stay f hF a0 hw'
    have er : rdN D (0 + 1) f = f := by rw [rdN, if_pos hw']
    refine step f hF a0 hb (fun q => ?_) (fun q => ?_)
    · rw [es] at q; omega
    · rw [es]; exact kk f er.symm hF hb
  | succ k ih =>
    intro f hw hF a0 hb kk
    by_cases hr : rdB D f.1 f.2.1 f.2.2 = true
    · have es := stay f hF a0 hr
      have er : rdN D (k + 1 + 1) f = f := by rw [rdN, if_pos hr]
      refine step f hF a0 hb (fun q => ?_) (fun q => ?_)
      · rw [es] at q; omega
      · rw [es]; exact kk f er.symm hF hb
    · have er : rdN D (k + 1 + 1) f = rdN D (k + 1) (trnF D f) := by rw [rdN, if_neg hr, stp_neg dn]
      obtain ⟨s1, s2, s3⟩ := stp_bd hD (by decide) hF (fun _ => a0) hb
      rw [stp_neg dn] at s1 s2 s3
      have hw2 := hw.resolve_left hr
      rw [stp_neg dn] at hw2
      refine step f hF a0 hb (fun q => ih (trnF D f) hw2 s2 (s3 dn) s1 (fun g hg => kk g (by rw [er]; exact hg))) (fun q => ?_)
      have hred := (trn_of dn hF a0).2.resolve_right (fun z => q z.1)
      exact kk (trnF D f) (by rw [er, rdN, if_pos hred]) s2 s1
theorem c_reduced {D : Int} (hD : DOK D) (dn : D < 0) (hL : LOK D (LF D)) (ho : hoR (LF D) I) (m10 : J 0 10 = lI D) {f : F3} (hw : wiN D 60 f) (hF : FI D f) (a0 : 0 < f.1) (hb : bdF f 10000000) : Con (ER l DD aI aL ad) M_X7_reduced yX7_reduced [.ref (ad 0), .long (lI f.1), .long (lI f.2.1)] I J (p_i (iI (clsZ D f)) I J) := by
  refine Con.of (by decide +kernel) rfl (Nat.le_of_ble_eq_true rfl) ?_
  refine bX7_reduced_0 (v7 := 1) rfl (bX7_reduced_9 (fun q => absurd q (by decide)) (fun _ => ?_))
  refine rr_loop hD dn m10 60 f hw hF a0 hb (fun g hg gF gb => bX7_reduced_125 ?_)
  refine v_X7_351 dX7_reduced_130 rfl ⟨rfl, rfl, Nat.le_of_ble_eq_true rfl, Nat.le_of_ble_eq_true rfl⟩ (c_find7 hL.bdL ho (bd_mono gb.1 (by decide)) (bd_mono gb.2.1 (by decide))) rfl rfl (Nat.le_of_ble_eq_true rfl) (fun r I1 J1 hq => ?_)
  obtain ⟨rfl, e1, e2⟩ := hq
  obtain rfl := e1.symm
  obtain rfl := e2.symm
  refine bX7_reduced_133 ⟨?_, rfl, rfl⟩
  unfold clsZ RD
  rw [if_neg (fun z => absurd z.1 (by omega)), hg]
end GD
