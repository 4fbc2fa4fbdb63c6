/-- a form of the list, made positive -/
theorem posF_of {D : Int} (hD : DOK D) {f : F3} (hF : FI D f) (hr : rdB D f.1 f.2.1 f.2.2 = true) : 0 < (posF D f).1 ∧ FI D (posF D f) ∧ (f.1 < 0 → 0 < D) := by
  have nz : D ≠ 0 := fun q => hD.nsq 0 (by rw [q]; rfl)
  unfold posF
  by_cases c : f.1 < 0
  · rw [if_pos c]
    have hp : 0 < D := by
      rcases Int.lt_or_le 0 D with z | z
      · exact z
      · rw [rdB_neg (by omega)] at hr; omega
    refine ⟨?_, nxF_FI hD hF (rtZ D), fun _ => hp⟩
    show 0 < f.2.2
    rw [rdB_pos hp] at hr
    have e := hF.1
    have c0 := hF.2.2
    rcases Int.lt_or_le 0 f.2.2 with z | z
    · exact z
    · exfalso
      have m := Int.mul_nonneg (show 0 ≤ 4 * -f.1 by omega) (show 0 ≤ -f.2.2 by omega)
      have e3 : 4 * -f.1 * -f.2.2 = 4 * f.1 * f.2.2 := by grind
      omega
  · rw [if_neg c]; exact ⟨by have := hF.2.1; omega, hF, fun q => absurd q c⟩
theorem LF_rd {D : Int} (hD : DOK D) {f : F3} (h : f ∈ LF D) : rdB D f.1 f.2.1 f.2.2 = true := by
  obtain ⟨m1, _, m3, _⟩ := LF_mem hD h
  unfold okF at m3
  simp only [Bool.and_eq_true] at m3
  have := m3.2
  rw [m1.tdiv] at this
  exact this
section OB
variable {l : Launch} {DD : va_G} {aI aL : ClassId} {ad : Nat → Nat} {P : sa_P} {I : sa_I} {J : sa_J}
theorem c_trB : Con (ER l DD aI aL ad) M_X7_traceOfBase yX7_traceOfBase [.ref (ad 0)] I J (p_l (J 2 13) I J) := Con.of (by decide +kernel) rfl (Nat.le_of_ble_eq_true rfl) (bX7_traceOfBase_0 ⟨rfl, rfl, rfl⟩)
theorem c_represents {y D : Int} (bq : bd y 20) (hD : DOK D) (hL : LOK D (LF D)) (hI : I 0 1 = nI 2) (hr : rdyR D I J) (m10 : J 0 10 = lI D) (h13 : J 2 13 = lI y) {i : Nat} {f : F3} (hf : (LF D)[i]? = some f) : Con (ER l DD aI aL ad) M_X7_represents yX7_represents [.ref (ad 0), .int (nI i)] I J (fun r I1 J1 => r = none ∧ I1 = I ∧ (∀ t, t < 6 → J1 15 t = lI (smI (posF D f).1 (smE y (posF D f)) t)) ∧ (∀ q, q ≠ 0 → q ≠ 15 → J1 q = J q) ∧ ∀ t, t ≠ 42 → t ≠ 43 → t ≠ 44 → J1 0 t = J 0 t) := by
  refine Con.of (by decide +kernel) rfl (Nat.le_of_ble_eq_true rfl) ?_
  have h160 := hL.1
  have cv : ∀ {z : Int}, bd z 1000000 → (iI z).toInt64 = lI z := fun h => iI_lI ⟨by have := h.1; omega, by have := h.2; omega⟩
  have lt : ∀ {j : Nat} {g : F3}, (LF D)[j]? = some g → j < (LF D).length := fun {j g} h => by
    rcases Nat.lt_or_ge j (LF D).length with c | c
    · exact c
    · rw [List.getElem?_eq_none c] at h; exact absurd h (by simp)
  have rest : ∀ (g : F3) (j : Nat) (Ja : sa_J), g = posF D f → (LF D)[j]? = some g → nfr J Ja → Sat (ER l DD aI aL ad) M_X7_represents (fun r I1 J1 => r = none ∧ I1 = I ∧ (∀ t, t < 6 → J1 15 t = lI (smI (posF D f).1 (smE y (posF D f)) t)) ∧ (∀ q, q ≠ 0 → q ≠ 15 → J1 q = J q) ∧ ∀ t, t ≠ 42 → t ≠ 43 → t ≠ 44 → J1 0 t = J 0 t) 2 [(0, .ref (ad 0)), (2, .int (nI j))] [] I Ja := by
    intro g j Ja hg hj nf
    have jl := lt hj
    have hm := hL.2.1 g (List.mem_of_getElem? hj)
    have hp := (posF_of hD (hL.2.1 f (List.mem_of_getElem? hf)).1 (LF_rd hD (List.mem_of_getElem? hf))).1
    rw [← hg] at hp ⊢
    obtain ⟨n1, n2, n3⟩ := hr.1.2 j g hj
    have by2 : bd (g.2.1 - y) 1000020 := bd_sub hm.2.2.1 bq
    have g1 := hm.2.1.2
    refine bX7_represents_2 (j6 := j) rfl (by omega) (fun _ => bX7_represents_52 ?_) (fun q => absurd (by rw [n1, show (0 : Int32) = iI 0 from rfl, iI_le ⟨by omega, by omega⟩ ⟨by omega, by omega⟩]; omega) q)
    refine v_X7_310 dX7_represents_58 rfl ⟨rfl, rfl, Nat.le_of_ble_eq_true rfl, Nat.le_of_ble_eq_true rfl⟩ (c_wholeRows2 (m := 1) hI aJ_R15 (by decide) (by decide)) rfl rfl (Nat.le_of_ble_eq_true rfl) (fun r I1 J1 hq => ?_)
    obtain ⟨rfl, e1, f1, w⟩ := hq
    obtain rfl := e1.symm
    refine bX7_represents_61 (j70 := j) (j83 := j) (v73 := lI g.1) rfl (by omega) rfl (by omega) (by rw [n1]; exact cv hm.2.1) ?_
    rw [n2, cv hm.2.2.1]
    refine v_X7_363 dX7_represents_87 rfl ⟨rfl, rfl, Nat.le_of_ble_eq_true rfl, Nat.le_of_ble_eq_true rfl⟩ (c_trB) rfl rfl (Nat.le_of_ble_eq_true rfl) (fun r I2 J2 hq => ?_)
    obtain ⟨rfl, e1, e2⟩ := hq
    obtain rfl := e1.symm
    obtain rfl := e2.symm
    rw [sa_uJ_ne (by decide), f1 2 (by decide), nf.1 2 (by decide), h13]
    refine bX7_represents_90 (j99 := j) rfl (by omega) ?_
    rw [n1, cv hm.2.1, lI_sub, show (2 : Int64) = lI 2 from rfl, lI_divS (bd_rg by2 (by decide)) ⟨by omega, by omega⟩]
    refine v_X7_155 dX7_represents_102 rfl ⟨rfl, rfl, Nat.le_of_ble_eq_true rfl, Nat.le_of_ble_eq_true rfl⟩ (c_floorMod (a := (g.2.1 - y).tdiv 2) (b := g.1) (bd_rg (tdiv_bd by2) (by decide)) ⟨by omega, by omega⟩ hp) rfl rfl (Nat.le_of_ble_eq_true rfl) (fun r I2 J2 hq => ?_)
    obtain ⟨rfl, e1, e2⟩ := hq
    obtain rfl := e1.symm
    obtain rfl := e2.symm
    refine bX7_represents_105 (s1 := 3) (by decide) ⟨rfl, rfl, fun t ht => ?_, fun q a b => ?_, fun t a b c => ?_⟩
    · have h6 : t = 0 ∨ t = 1 ∨ t = 2 ∨ t = 3 ∨ t = 4 ∨ t = 5 := by omega
      rcases h6 with rfl | rfl | rfl | rfl | rfl | rfl
      · rw [sa_uJ_off (by decide), sa_uJ_at]; rfl
      · rw [sa_uJ_off (by decide), sa_uJ_off (by decide), w 1 (by decide)]; rfl
      · rw [sa_uJ_off (by decide), sa_uJ_off (by decide), w 2 (by decide)]; rfl
      · rw [sa_uJ_at]; rfl
      · rw [sa_uJ_off (by decide), sa_uJ_off (by decide), w 4 (by decide)]; rfl
      · rw [sa_uJ_off (by decide), sa_uJ_off (by decide), w 5 (by decide)]; rfl
    · rw [sa_uJ_ne b, sa_uJ_ne b, f1 q b]; exact nf.1 q a
    · rw [sa_uJ_ne (by decide), sa_uJ_ne (by decide), f1 0 (by decide)]; exact nf.2 t a b c
  have il := lt hf
  have hm := hL.2.1 f (List.mem_of_getElem? hf)
  obtain ⟨n1, n2, n3⟩ := hr.1.2 i f hf
  refine bX7_represents_0 ?_
  by_cases c : f.1 < 0
  · have hp := (posF_of hD hm.1 (LF_rd hD (List.mem_of_getElem? hf))).2.2 c
    have a1 := hm.2.1.1
    refine bX7_represents_2 (j6 := i) rfl (by omega) (fun q => absurd q (by rw [n1, show (0 : Int32) = iI 0 from rfl, iI_le ⟨by omega, by omega⟩ ⟨by omega, by omega⟩]; omega)) (fun _ => ?_)
    refine bX7_represents_11 (j16 := i) (j23 := i) (j30 := i) rfl (by omega) rfl (by omega) rfl (by omega) ?_
    rw [n1, n2, n3, cv hm.2.1, cv hm.2.2.1, cv hm.2.2.2]
    refine v_X7_342 dX7_represents_33 rfl ⟨rfl, rfl, Nat.le_of_ble_eq_true rfl, Nat.le_of_ble_eq_true rfl⟩ (c_follows hD.bd (bdF_mono hm.2 (by decide)) hm.1.2.2 m10 (hr.2.2 hp)) rfl rfl (Nat.le_of_ble_eq_true rfl) (fun r I1 J1 hq => ?_)
    obtain ⟨rfl, e1, ns, nf⟩ := hq
    obtain rfl := e1.symm
    obtain ⟨x1, x2⟩ := nxi_get hD (fun f hf => (hL.2.1 f hf).1) (hL.2.2 hp) hf
    have hnL := hL.2.1 _ (List.mem_of_getElem? x1)
    refine bX7_represents_36 ?_
    rw [ns.1, ns.2.1]
    refine v_X7_351 dX7_represents_45 rfl ⟨rfl, rfl, Nat.le_of_ble_eq_true rfl, Nat.le_of_ble_eq_true rfl⟩ (c_find7 hL.bdL hr.1 (bd_mono hnL.2.1 (by decide)) (bd_mono hnL.2.2.1 (by decide))) rfl rfl (Nat.le_of_ble_eq_true rfl) (fun r I2 J2 hq => ?_)
    obtain ⟨rfl, e1, e2⟩ := hq
    obtain rfl := e1.symm
    obtain rfl := e2.symm
    rw [x2, show iI ((nxi D (LF D) i : Nat) : Int) = nI (nxi D (LF D) i) from rfl]
    refine bX7_represents_48 (rest (nxF D (rtZ D) f) (nxi D (LF D) i) J1 ?_ x1 nf)
    unfold posF; rw [if_pos c]
  · exact rest f i J (by unfold posF; rw [if_neg c]) hf nfr.rfl'
end OB
