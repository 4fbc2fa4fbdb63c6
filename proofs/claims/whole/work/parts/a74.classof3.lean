section GE
variable {l : Launch} {DD : va_G} {aI aL : ClassId} {ad : Nat → Nat} {P : sa_P} {I : sa_I} {J : sa_J}
/-- the reference's way to a form of the list, D above 0 -/
theorem rf_loop {D : Int} (hD : DOK D) (hp : 0 < D) (hL : LOK D (LF D)) {J0 : sa_J} (hr : rdyR D I J0) (m10 : J0 0 10 = lI D) : ∀ (k : Nat) (f : F3) (J : sa_J), wiN D k f → FI D f → bdF f 10000000 → nxS f J → nfr J0 J → (∀ J1, nfr J0 J1 → P (some (.int (iI ((MZ D).1.getD (fdF (rdN D (k + 1) f).1 (rdN D (k + 1) f).2.1 0 (LF D)).toNat 0)))) I J1) → Sat (ER l DD aI aL ad) M_X7_classOfRows P 101 [(0, .ref (ad 0)), (7, .int (iI (fdF f.1 f.2.1 0 (LF D))))] [] I J := by
  have h160 := hL.1
  have fin : ∀ {f : F3} {J : sa_J}, rdB D f.1 f.2.1 f.2.2 = true → FI D f → nfr J0 J → (∀ J1, nfr J0 J1 → P (some (.int (iI ((MZ D).1.getD (fdF f.1 f.2.1 0 (LF D)).toNat 0)))) I J1) → Sat (ER l DD aI aL ad) M_X7_classOfRows P 101 [(0, .ref (ad 0)), (7, .int (iI (fdF f.1 f.2.1 0 (LF D))))] [] I J := by
    intro f J hq hF fJ kk
    have f0 := (fd_iff hD hp hF).mpr hq
    obtain ⟨f1, f2, f3⟩ := fdF_bd (a := f.1) (b := f.2.1) h160
    refine bX7_classOfRows_101 (fun _ => bX7_classOfRows_139 (j143 := (fdF f.1 f.2.1 0 (LF D)).toNat) (iI_nat f0) (by omega) ?_) (fun c => absurd (by rw [show (0 : Int32) = iI 0 from rfl, iI_le ⟨by omega, by omega⟩ ⟨by omega, by omega⟩]; exact f0) c)
    have e : MR D = (MZ D).1 := by unfold MR; rw [if_pos hp]
    have hm := hr.2.1
    rw [e] at hm
    have hlen : (MZ D).1.length = (LF D).length := by unfold MZ; rw [MZ_len D, List.length_replicate]
    rw [mkM_get hm (by rw [hlen]; exact f3 f0)]
    exact kk J fJ
  intro k
  induction k with
  | zero =>
    intro f J hw hF hb ns fJ kk
    have hw' : rdB D f.1 f.2.1 f.2.2 = true := hw
    rw [rdN, if_pos hw'] at kk
    exact fin hw' hF fJ kk
  | succ k ih =>
    intro f J hw hF hb ns fJ kk
    by_cases hq : rdB D f.1 f.2.1 f.2.2 = true
    · rw [rdN, if_pos hq] at kk
      exact fin hq hF fJ kk
    · rw [rdN, if_neg hq] at kk
      have f0 : ¬ 0 ≤ fdF f.1 f.2.1 0 (LF D) := fun z => hq ((fd_iff hD hp hF).mp z)
      obtain ⟨f1, f2, _⟩ := fdF_bd (a := f.1) (b := f.2.1) h160
      obtain ⟨s1, s2, _⟩ := stp_bd hD (by decide) hF (fun z => absurd z (by omega)) hb
      have es : stpF D f = nxF D (rtZ D) f := by unfold stpF; rw [if_pos hp]
      rw [es] at s1 s2 kk
      have hw2 := hw.resolve_left hq
      rw [es] at hw2
      refine bX7_classOfRows_101 (fun c => absurd (by rw [show (0 : Int32) = iI 0 from rfl, iI_le ⟨by omega, by omega⟩ ⟨by omega, by omega⟩] at c; exact c) f0) (fun _ => bX7_classOfRows_106 ?_)
      rw [ns.1, ns.2.1, ns.2.2]
      refine v_X7_342 dX7_classOfRows_119 rfl ⟨rfl, rfl, Nat.le_of_ble_eq_true rfl, Nat.le_of_ble_eq_true rfl⟩ (c_follows hD.bd (bdF_mono hb (by decide)) hF.2.2 (by rw [fJ.2 10 (by decide) (by decide) (by decide)]; exact m10) (by rw [fJ.2 41 (by decide) (by decide) (by decide)]; exact hr.2.2 hp)) rfl rfl (Nat.le_of_ble_eq_true rfl) (fun r I1 J1 hq => ?_)
      obtain ⟨rfl, e1, n1, n2⟩ := hq
      obtain rfl := e1.symm
      refine bX7_classOfRows_122 ?_
      rw [n1.1, n1.2.1]
      refine v_X7_351 dX7_classOfRows_131 rfl ⟨rfl, rfl, Nat.le_of_ble_eq_true rfl, Nat.le_of_ble_eq_true rfl⟩ (c_find7 hL.bdL hr.1 (bd_mono s1.1 (by decide)) (bd_mono s1.2.1 (by decide))) rfl rfl (Nat.le_of_ble_eq_true rfl) (fun r I2 J2 hq => ?_)
      obtain ⟨rfl, e1, e2⟩ := hq
      obtain rfl := e1.symm
      obtain rfl := e2.symm
      exact bX7_classOfRows_134 (ih (nxF D (rtZ D) f) J1 hw2 s2 s1 n1 (fJ.tr n2) kk)
def crR (D : Int) (f : F3) (I : sa_I) (J : sa_J) : sa_P := fun r I1 J1 => r = some (.int (iI (clsZ D f))) ∧ rdyR D I1 J1 ∧ (∀ q, q ≠ 0 → q ≠ 21 → q ≠ 22 → q ≠ 23 → q ≠ 24 → I1 q = I q) ∧ (∀ t, t ≠ 36 → I1 0 t = I 0 t) ∧ (∀ q, q ≠ 0 → J1 q = J q) ∧ ∀ t, t ≠ 41 → t ≠ 42 → t ≠ 43 → t ≠ 44 → J1 0 t = J 0 t
theorem c_classOfRows7 {x y : Int} {R : Nat → Int} (hb : bd x 200 ∧ bd y 20) (h : IdR 2 (T2 x y) R) (hD : DOK (y * y + 4 * x)) (hL : LOK (y * y + 4 * x) (LF (y * y + 4 * x))) (m10 : J 0 10 = lI (y * y + 4 * x)) (hc : fcR (y * y + 4 * x) I J) (h13 : J 2 13 = lI y) (hR : ∀ t, t < 6 → J 15 t = lI (R t)) : Con (ER l DD aI aL ad) M_X7_classOfRows yX7_classOfRows [.ref (ad 0)] I J (crR (y * y + 4 * x) (pfR (T2 x y) R) I J) := by
  refine Con.of (by decide +kernel) rfl (Nat.le_of_ble_eq_true rfl) ?_
  obtain ⟨a, e, c, e0, e3, a0, z0, ea, main, amax, epf, hF, hB⟩ := pfR_of hb h (fun b => hD.nsq b)
  rw [epf]
  generalize hDe : y * y + 4 * x = D at *
  have gD := bd_rg hD.bd (by decide)
  have nz : D ≠ 0 := fun q => hD.nsq 0 (by rw [q]; rfl)
  have bR := h.1.bd h.2.2.2
  have p4 := h.1.1.2.2.2.2.1
  have g0 : rg (R 0) := ⟨by have := bR 0 (by decide); omega, by have := bR 0 (by decide); omega⟩
  have g3 : rg (R 3) := ⟨by have := bR 3 (by decide); omega, by have := bR 3 (by decide); omega⟩
  have g4 : rg (R 4) := ⟨by have := bR 4 (by decide); omega, by have := bR 4 (by decide); omega⟩
  have t0 : (R 0).tdiv (R 4) = a := by rw [e0]; exact Int.mul_tdiv_cancel _ (by omega)
  have t3 : (R 3).tdiv (R 4) = e := by rw [e3]; exact Int.mul_tdiv_cancel _ (by omega)
  have hw := wi60 hD hF (fun _ => a0) amax hB
  have bb : bd (2 * e + y) 10000000 := hB.2.1
  have ba : bd a 10000000 := hB.1
  refine bX7_classOfRows_0 ?_
  refine v_X7_360 dX7_classOfRows_1 rfl ⟨rfl, rfl, Nat.le_of_ble_eq_true rfl, Nat.le_of_ble_eq_true rfl⟩ (c_findForms hD hL m10 hc) rfl rfl (Nat.le_of_ble_eq_true rfl) (fun r I1 J1 hq => ?_)
  obtain ⟨rfl, hr, f1, f2, f3, f4⟩ := hq
  have n4 : J1 15 4 = lI (R 4) := by rw [f3 15 (by decide)]; exact hR 4 (by decide)
  have n0 : J1 15 0 = lI (R 0) := by rw [f3 15 (by decide)]; exact hR 0 (by decide)
  have n3 : J1 15 3 = lI (R 3) := by rw [f3 15 (by decide)]; exact hR 3 (by decide)
  have n13 : J1 2 13 = lI y := by rw [f3 2 (by decide)]; exact h13
  have n10 : J1 0 10 = lI D := by rw [f4 10 (by decide) (by decide) (by decide) (by decide)]; exact m10
  refine bX7_classOfRows_4 (v10 := lI (R 4)) (v19 := lI a) (lI_ne0 g4 (by omega)) (lI_ne0 g4 (by omega)) n4 (by rw [n0, lI_divS g0 g4, t0]) ?_
  rw [n3, lI_divS g3 g4, t3, show (2 : Int64) = lI 2 from rfl, lI_mul]
  refine v_X7_363 dX7_classOfRows_33 rfl ⟨rfl, rfl, Nat.le_of_ble_eq_true rfl, Nat.le_of_ble_eq_true rfl⟩ ((Con.of (by decide +kernel) rfl (Nat.le_of_ble_eq_true rfl) (bX7_traceOfBase_0 ⟨rfl, rfl, rfl⟩) : Con (ER l DD aI aL ad) M_X7_traceOfBase yX7_traceOfBase [.ref (ad 0)] I1 J1 (p_l (J1 2 13) I1 J1))) rfl rfl (Nat.le_of_ble_eq_true rfl) (fun r I2 J2 hq => ?_)
  obtain ⟨rfl, e1, e2⟩ := hq
  obtain rfl := e1.symm
  obtain rfl := e2.symm
  rw [n13]
  refine bX7_classOfRows_36 (v37 := lI (2 * e + y)) (lI_add _ _) (fun q => ?_) (fun q => bX7_classOfRows_48 ?_)
  rotate_left
  · rw [n10, show (0 : Int64) = lI 0 from rfl, lI_le ⟨by omega, by omega⟩ gD] at q
    refine v_X7_366 dX7_classOfRows_52 rfl ⟨rfl, rfl, Nat.le_of_ble_eq_true rfl, Nat.le_of_ble_eq_true rfl⟩ (c_reduced hD (by omega) hL hr.1 n10 (f := (a, 2 * e + y, c)) hw hF a0 hB) rfl rfl (Nat.le_of_ble_eq_true rfl) (fun r I2 J2 hq => ?_)
    obtain ⟨rfl, e1, e2⟩ := hq
    obtain rfl := e1.symm
    obtain rfl := e2.symm
    exact bX7_classOfRows_55 ⟨rfl, hr, f1, f2, f3, f4⟩
  rw [n10, show (0 : Int64) = lI 0 from rfl, lI_le ⟨by omega, by omega⟩ gD] at q
  have hp : 0 < D := by omega
  have b4 : bd (4 * a) 40000000 := bd_mul (A := 4) ⟨by decide, by decide⟩ ba
  have g4a := bd_rg b4 (by decide)
  have e4 : (4 : Int64) * lI a = lI (4 * a) := by rw [show (4 : Int64) = lI 4 from rfl, lI_mul]
  have u10 : sa_uJ (sa_uJ J1 0 42 (lI a)) 0 43 (lI (2 * e + y)) 0 10 = lI D := by rw [sa_uJ_off (by decide), sa_uJ_off (by decide)]; exact n10
  have td : ((2 * e + y) * (2 * e + y) - D).tdiv (4 * a) = c := hF.tdiv
  refine bX7_classOfRows_56 (v84 := lI c) (by rw [e4]; exact lI_ne0 g4a (by omega)) (by rw [u10, lI_mul, lI_sub, e4, lI_divS (bd_rg (bd_sub (bd_mul bb bb) hD.bd) (by decide)) g4a, td]) ?_
  have ns : nxS (a, 2 * e + y, c) (sa_uJ (sa_uJ (sa_uJ J1 0 42 (lI a)) 0 43 (lI (2 * e + y))) 0 44 (lI c)) := ⟨by rw [sa_uJ_off (by decide), sa_uJ_off (by decide), sa_uJ_at], by rw [sa_uJ_off (by decide), sa_uJ_at], sa_uJ_at⟩
  have nf : nfr J1 (sa_uJ (sa_uJ (sa_uJ J1 0 42 (lI a)) 0 43 (lI (2 * e + y))) 0 44 (lI c)) := ⟨fun q h => by rw [sa_uJ_ne h, sa_uJ_ne h, sa_uJ_ne h], fun t x1 x2 x3 => by rw [sa_uJ_off x3, sa_uJ_off x2, sa_uJ_off x1]⟩
  rw [ns.1, ns.2.1]
  generalize sa_uJ (sa_uJ (sa_uJ J1 0 42 (lI a)) 0 43 (lI (2 * e + y))) 0 44 (lI c) = J2 at ns nf
  refine v_X7_351 dX7_classOfRows_96 rfl ⟨rfl, rfl, Nat.le_of_ble_eq_true rfl, Nat.le_of_ble_eq_true rfl⟩ (c_find7 hL.bdL hr.1 (a := a) (b := 2 * e + y) (bd_mono ba (by decide)) (bd_mono bb (by decide))) rfl rfl (Nat.le_of_ble_eq_true rfl) (fun r I2 J3 hq => ?_)
  obtain ⟨rfl, e1, e2⟩ := hq
  obtain rfl := e1.symm
  obtain rfl := e2.symm
  refine bX7_classOfRows_99 (rf_loop hD hp hL hr n10 60 (a, 2 * e + y, c) J2 hw hF hB ns nf (fun J3 g => ⟨?_, ⟨hr.1, hr.2.1, fun z => by rw [g.2 41 (by decide) (by decide) (by decide)]; exact hr.2.2 z⟩, f1, f2, fun q a => (g.1 q a).trans (f3 q a), fun t x0 x1 x2 x3 => (g.2 t x1 x2 x3).trans (f4 t x0 x1 x2 x3)⟩))
  have hred := rdN_red hw
  have f0 : 0 ≤ fdF (RD D (a, 2 * e + y, c)).1 (RD D (a, 2 * e + y, c)).2.1 0 (LF D) := by
    have hFR : FI D (rdN D 61 (a, 2 * e + y, c)) := by
      have aux : ∀ k f, FI D f → FI D (rdN D k f) := by
        intro k
        induction k with
        | zero => intro f hf; exact hf
        | succ k ih =>
          intro f hf
          rw [rdN]
          by_cases z : rdB D f.1 f.2.1 f.2.2 = true
          · rw [if_pos z]; exact hf
          · rw [if_neg z]
            refine ih _ ?_
            unfold stpF; rw [if_pos hp]; exact nxF_FI hD hf (rtZ D)
      exact aux 61 _ hF
    exact (fd_iff hD hp hFR).mpr hred
  unfold clsZ
  rw [if_pos ⟨hp, f0⟩]
  rfl
end GE
