theorem fB_in {D a b' : Int} : ∀ (n : Nat) (b : Int), b ≤ b' → b' < b + n → okF D a b' = true → frm D a b' ∈ fB D a b n := by
  intro n
  induction n with
  | zero => intro b h1 h2; omega
  | succ n ih =>
    intro b h1 h2 h
    rw [fB, List.mem_append]
    by_cases c : b' = b
    · subst c; left; rw [if_pos h]; exact List.mem_singleton.mpr rfl
    · exact Or.inr (ih (b + 1) (by omega) (by omega) h)
theorem fA_in {D s a' : Int} {f : F3} : ∀ (n : Nat) (a : Int), a ≤ a' → a' < a + n → f ∈ fB D a' (if 0 < D then 1 else -a') (if 0 < D then s.toNat else (2 * a' + 1).toNat) → f ∈ fA D s a n := by
  intro n
  induction n with
  | zero => intro a h1 h2; omega
  | succ n ih =>
    intro a h1 h2 h
    rw [fA, List.mem_append]
    by_cases c : a' = a
    · subst c; exact Or.inl h
    · exact Or.inr (ih (a + 1) (by omega) (by omega) h)
/-- D above 0: a reduced form is in the list -/
theorem LF_in {D : Int} (hD : DOK D) (hp : 0 < D) {f : F3} (h : FI D f) (hr : rdB D f.1 f.2.1 f.2.2 = true) : f ∈ LF D := by
  have hs := rt_of hD
  have eD : ((D.natAbs : Nat) : Int) = D := by omega
  rw [eD] at hs
  have hr' := hr
  rw [rdB_pos hp] at hr
  obtain ⟨r1, r2, r3, r4⟩ := hr
  have bs : f.2.1 ≤ rtZ D := by
    rcases Int.lt_or_le (rtZ D) f.2.1 with c | c
    · have : (rtZ D + 1) * (rtZ D + 1) ≤ f.2.1 * f.2.1 := Int.mul_le_mul (by omega) (by omega) (by omega) (by omega)
      omega
    · exact c
  have as : ((f.1.natAbs : Nat) : Int) ≤ rtZ D := by
    rcases Int.lt_or_le (rtZ D) ((f.1.natAbs : Nat) : Int) with c | c
    · exfalso
      rcases r2 with k | k
      · omega
      · have : (rtZ D + 1) * (rtZ D + 1) ≤ (2 * ((f.1.natAbs : Nat) : Int) - f.2.1) * (2 * ((f.1.natAbs : Nat) : Int) - f.2.1) := Int.mul_le_mul (by omega) (by omega) (by omega) (by omega)
        omega
    · exact c
  have t0 : (f.2.1 * f.2.1 - D).tmod (4 * f.1) = 0 := by
    have e : f.2.1 * f.2.1 - D = 4 * f.1 * f.2.2 := by have := h.1; omega
    rw [e]; exact Int.mul_tmod_right ..
  have ok : okF D f.1 f.2.1 = true := by
    unfold okF
    rw [h.tdiv, hr', t0]
    have := h.2.1
    simp [this]
  have ef : f = frm D f.1 f.2.1 := by
    obtain ⟨a, b, c⟩ := f
    show (a, b, c) = (a, b, _)
    have := h.tdiv
    dsimp only at this
    rw [this]
  rw [ef]
  unfold LF
  rw [if_pos hp, if_pos hp]
  refine fA_in _ _ (by show -rtZ D ≤ f.1; omega) (by show f.1 < -rtZ D + _; omega) ?_
  show frm D f.1 f.2.1 ∈ fB D f.1 _ _
  rw [if_pos hp, if_pos hp]
  exact fB_in _ _ (by omega) (by omega) ok
theorem fd_in {a b : Int} : ∀ (L : List F3) (k : Nat), (∃ f ∈ L, f.1 = a ∧ f.2.1 = b) → 0 ≤ fdF a b k L := by
  intro L
  induction L with
  | nil => rintro k ⟨f, hf, _⟩; exact absurd hf (by simp)
  | cons g L ih =>
    rintro k ⟨f, hf, h1, h2⟩
    rw [fdF]
    by_cases c : g.1 = a ∧ g.2.1 = b
    · rw [if_pos c]; omega
    · rw [if_neg c]
      rcases List.mem_cons.mp hf with q | q
      · subst q; exact absurd ⟨h1, h2⟩ c
      · exact ih (k + 1) ⟨f, q, h1, h2⟩
/-- D above 0: the list has a form just if it is reduced -/
theorem fd_iff {D : Int} (hD : DOK D) (hp : 0 < D) {f : F3} (h : FI D f) : 0 ≤ fdF f.1 f.2.1 0 (LF D) ↔ rdB D f.1 f.2.1 f.2.2 = true := by
  constructor
  · intro q
    rcases fdF_spec f.1 f.2.1 (LF D) 0 with z | ⟨i, g, h1, h2, h3, _⟩
    · rw [z] at q; exact absurd q (by decide)
    · obtain ⟨m1, _, m3, m4⟩ := LF_mem hD (List.mem_of_getElem? h1)
      have : f = g := FI_uniq h m1 h2.symm h3.symm
      subst this
      unfold okF at m3
      simp only [Bool.and_eq_true] at m3
      have := m3.2
      rw [m1.tdiv] at this
      exact this
  · intro q; exact fd_in _ _ ⟨f, LF_in hD hp h q, rfl, rfl⟩
/-- the class of a form: the number of its reduced form, or its cycle's mark -/
def clsZ (D : Int) (f : F3) : Int := if 0 < D ∧ 0 ≤ fdF (RD D f).1 (RD D f).2.1 0 (LF D) then (MZ D).1.getD (fdF (RD D f).1 (RD D f).2.1 0 (LF D)).toNat 0 else fdF (RD D f).1 (RD D f).2.1 0 (LF D)
theorem fdF_bd {a b : Int} {L : List F3} (h : L.length < 160) : -1 ≤ fdF a b 0 L ∧ fdF a b 0 L < 160 ∧ (0 ≤ fdF a b 0 L → (fdF a b 0 L).toNat < L.length) := by
  rcases fdF_spec a b L 0 with z | ⟨i, g, h1, _, _, h4⟩
  · rw [z]; exact ⟨by decide, by decide, fun q => absurd q (by decide)⟩
  · have il : i < L.length := by
      rcases Nat.lt_or_ge i L.length with c | c
      · exact c
      · rw [List.getElem?_eq_none c] at h1; exact absurd h1 (by simp)
    rw [h4]; exact ⟨by omega, by omega, fun _ => by omega⟩
section GC
variable {l : Launch} {DD : va_G} {aI aL : ClassId} {ad : Nat → Nat} {P : sa_P} {I : sa_I} {J : sa_J}
theorem c_trS2 : Con (EC l DD aI aL ad) M_X4_traceOfSecond yX4_traceOfSecond [.ref (ad 4)] I J (p_l (J 8 13) I J) := Con.of (by decide +kernel) rfl (Nat.le_of_ble_eq_true rfl) (bX4_traceOfSecond_0 ⟨rfl, rfl, rfl⟩)
theorem c_nmS2 : Con (EC l DD aI aL ad) M_X4_normOfSecond yX4_normOfSecond [.ref (ad 4)] I J (p_l (-(J 8 12)) I J) := Con.of (by decide +kernel) rfl (Nat.le_of_ble_eq_true rfl) (bX4_normOfSecond_0 ⟨rfl, rfl, rfl⟩)
theorem c_formOfRows {x y : Int} {R : Nat → Int} (hb : bd x 200 ∧ bd y 20) (h : IdR 2 (T2 x y) R) (hD : DOK (y * y + 4 * x)) (m9 : J 27 9 = lI (y * y + 4 * x)) (m10 : J 27 10 = lI (rtZ (y * y + 4 * x))) (h12 : J 8 12 = lI x) (h13 : J 8 13 = lI y) {a1 q1 n1 p1 : Nat} (hq1 : sa_iJ (EC l DD aI aL ad) a1 q1 n1) (hn1 : n1 < 2 ^ 31) (hb1 : p1 + 9 ≤ n1) (hz : q1 ≠ 27) (hR : ∀ t, t < 9 → J q1 (p1 + t) = lI (R t)) : Con (EC l DD aI aL ad) M_X1_formOfRows yX1_formOfRows [.ref (ad 27), .ref a1, .int (nI p1)] I J (fun r I1 J1 => r = none ∧ I1 = I ∧ fmS (y * y + 4 * x) (pfR (T2 x y) R) J1 ∧ ffr J J1) := by
  refine Con.of (by decide +kernel) rfl (Nat.le_of_ble_eq_true rfl) ?_
  obtain ⟨a, e, c, e0, e3, a0, z0, ea, main, amax, epf, hF, hB⟩ := pfR_of hb h (fun b => hD.nsq b)
  rw [epf]
  have bR := h.1.bd h.2.2.2
  have p4 := h.1.1.2.2.2.2.1
  have g0 : rg (R 0) := ⟨by have := bR 0 (by decide); omega, by have := bR 0 (by decide); omega⟩
  have g3 : rg (R 3) := ⟨by have := bR 3 (by decide); omega, by have := bR 3 (by decide); omega⟩
  have g4 : rg (R 4) := ⟨by have := bR 4 (by decide); omega, by have := bR 4 (by decide); omega⟩
  have t0 : (R 0).tdiv (R 4) = a := by rw [e0]; exact Int.mul_tdiv_cancel _ (by omega)
  have t3 : (R 3).tdiv (R 4) = e := by rw [e3]; exact Int.mul_tdiv_cancel _ (by omega)
  have ga : rg a := ⟨by omega, by omega⟩
  have bm : bd (e * e + e * y + -x) 2000000000000 := by
    have be : bd e 1000000 := ⟨by omega, by omega⟩
    have bnx : bd (-x) 200 := ⟨by have := hb.1.2; omega, by have := hb.1.1; omega⟩
    exact bd_mono (bd_add (bd_add (bd_mul be be) (bd_mul be hb.2)) bnx) (by decide)
  refine bX1_formOfRows_0 (j3 := p1 + 4) (j8 := p1) (v5 := lI (R 4)) hq1 hn1 (nI_addE p1 4) (by omega) rfl (by omega) (hR 4 (by decide)) ?_
  rw [show J q1 p1 = lI (R 0) from hR 0 (by decide)]
  refine v_X1_104 dX1_formOfRows_11 rfl ⟨rfl, rfl, Nat.le_of_ble_eq_true rfl, Nat.le_of_ble_eq_true rfl⟩ (c_partS g0 g4 (by omega)) rfl rfl (Nat.le_of_ble_eq_true rfl) (fun r I1 J1 hq => ?_)
  obtain ⟨rfl, e1, e2⟩ := hq
  obtain rfl := e1.symm
  obtain rfl := e2.symm
  rw [t0]
  refine bX1_formOfRows_14 (j20 := p1 + 3) hq1 hn1 (nI_addE p1 3) (by omega) ?_
  rw [sa_uJ_ne hz, hR 3 (by decide)]
  refine v_X1_104 dX1_formOfRows_23 rfl ⟨rfl, rfl, Nat.le_of_ble_eq_true rfl, Nat.le_of_ble_eq_true rfl⟩ (c_partS g3 g4 (by omega)) rfl rfl (Nat.le_of_ble_eq_true rfl) (fun r I1 J1 hq => ?_)
  obtain ⟨rfl, e1, e2⟩ := hq
  obtain rfl := e1.symm
  obtain rfl := e2.symm
  rw [t3]
  refine bX1_formOfRows_26 ?_
  refine v_X1_107 dX1_formOfRows_32 rfl ⟨rfl, rfl, Nat.le_of_ble_eq_true rfl, Nat.le_of_ble_eq_true rfl⟩ (c_trS2) rfl rfl (Nat.le_of_ble_eq_true rfl) (fun r I1 J1 hq => ?_)
  obtain ⟨rfl, e1, e2⟩ := hq
  obtain rfl := e1.symm
  obtain rfl := e2.symm
  rw [sa_uJ_ne (by decide), h13]
  refine bX1_formOfRows_35 (v47 := lI (2 * e + y)) (by rw [show (2 : Int64) = lI 2 from rfl, lI_mul, lI_add]) ?_
  rw [lI_mul, lI_mul, lI_add]
  refine v_X1_111 dX1_formOfRows_66 rfl ⟨rfl, rfl, Nat.le_of_ble_eq_true rfl, Nat.le_of_ble_eq_true rfl⟩ (c_nmS2) rfl rfl (Nat.le_of_ble_eq_true rfl) (fun r I1 J1 hq => ?_)
  obtain ⟨rfl, e1, e2⟩ := hq
  obtain rfl := e1.symm
  obtain rfl := e2.symm
  rw [sa_uJ_ne (by decide), sa_uJ_ne (by decide), h12, lI_neg]
  refine bX1_formOfRows_69 ?_
  rw [sa_uJ_off (by decide), sa_uJ_at, lI_add]
  refine v_X1_104 dX1_formOfRows_74 rfl ⟨rfl, rfl, Nat.le_of_ble_eq_true rfl, Nat.le_of_ble_eq_true rfl⟩ (c_partS (bd_rg bm (by decide)) ga (by omega)) rfl rfl (Nat.le_of_ble_eq_true rfl) (fun r I1 J1 hq => ?_)
  obtain ⟨rfl, e1, e2⟩ := hq
  obtain rfl := e1.symm
  obtain rfl := e2.symm
  have tc : (e * e + e * y + -x).tdiv a = c := by
    rw [show e * e + e * y + -x = a * c by omega]; exact Int.mul_tdiv_cancel_left _ (by omega)
  rw [tc]
  refine bX1_formOfRows_77 ⟨rfl, rfl, ⟨?_, ?_, ?_, ?_, ?_⟩, ((ffr.rfl'.u11).u12).u13⟩
  · rw [sa_uJ_off (by decide), sa_uJ_off (by decide), sa_uJ_off (by decide)]; exact m9
  · rw [sa_uJ_off (by decide), sa_uJ_off (by decide), sa_uJ_off (by decide)]; exact m10
  · rw [sa_uJ_off (by decide), sa_uJ_off (by decide), sa_uJ_at]
  · rw [sa_uJ_off (by decide), sa_uJ_at]
  · exact sa_uJ_at
theorem c_classOfForm {D : Int} (hD : DOK D) (hL : LOK D (LF D)) {f : F3} (hw : wiN D 60 f) (hF : FI D f) (hn : D < 0 → 0 < f.1) (hb : bdF f 10000000) (hm : fmS D f J) (hr : rdyC D I J) : Con (EC l DD aI aL ad) M_X1_classOfForm yX1_classOfForm [.ref (ad 27)] I J (fun r I1 J1 => r = some (.int (iI (clsZ D f))) ∧ I1 = I ∧ fmS D (RD D f) J1 ∧ ffr J J1 ∧ FI D (RD D f) ∧ bdF (RD D f) 10000000) := by
  refine Con.of (by decide +kernel) rfl (Nat.le_of_ble_eq_true rfl) ?_
  have gD := bd_rg hD.bd (by decide)
  have h160 := hL.1
  refine bX1_classOfForm_0 ?_
  refine v_X1_117 dX1_classOfForm_1 rfl ⟨rfl, rfl, Nat.le_of_ble_eq_true rfl, Nat.le_of_ble_eq_true rfl⟩ (c_reduce hD hw hF hn hb hm) rfl rfl (Nat.le_of_ble_eq_true rfl) (fun r I1 J1 hq => ?_)
  obtain ⟨rfl, e1, h1, h2, h3, h4⟩ := hq
  obtain rfl := e1.symm
  refine bX1_classOfForm_4 ?_
  refine v_X1_96 dX1_classOfForm_5 rfl ⟨rfl, rfl, Nat.le_of_ble_eq_true rfl, Nat.le_of_ble_eq_true rfl⟩ (c_numberOfForm hL.bdL hr.1 (bd_mono h4.1 (by decide)) (bd_mono h4.2.1 (by decide)) h1.2.2.1 h1.2.2.2.1) rfl rfl (Nat.le_of_ble_eq_true rfl) (fun r I2 J2 hq => ?_)
  obtain ⟨rfl, e1, e2⟩ := hq
  obtain rfl := e1.symm
  obtain rfl := e2.symm
  obtain ⟨f1, f2, f3⟩ := fdF_bd (a := (RD D f).1) (b := (RD D f).2.1) h160
  have gf : rgi (fdF (RD D f).1 (RD D f).2.1 0 (LF D)) := ⟨by omega, by omega⟩
  refine bX1_classOfForm_8 (fun q => bX1_classOfForm_31 (bX1_classOfForm_32 ⟨?_, rfl, h1, h2, h3, h4⟩)) (fun q => ?_)
  · rw [h1.1, show (0 : Int64) = lI 0 from rfl, lI_le gD ⟨by omega, by omega⟩] at q
    unfold clsZ; rw [if_neg (fun z => absurd z.1 (by omega))]
  rw [h1.1, show (0 : Int64) = lI 0 from rfl, lI_le gD ⟨by omega, by omega⟩] at q
  refine bX1_classOfForm_18 (fun q2 => bX1_classOfForm_31 (bX1_classOfForm_32 ⟨?_, rfl, h1, h2, h3, h4⟩)) (fun q2 => ?_)
  · rw [show (0 : Int32) = iI 0 from rfl, iI_lt gf ⟨by omega, by omega⟩] at q2
    unfold clsZ; rw [if_neg (fun z => absurd z.2 (by omega))]
  rw [show (0 : Int32) = iI 0 from rfl, iI_lt gf ⟨by omega, by omega⟩] at q2
  have f0 : 0 ≤ fdF (RD D f).1 (RD D f).2.1 0 (LF D) := by omega
  refine bX1_classOfForm_22 (j26 := (fdF (RD D f).1 (RD D f).2.1 0 (LF D)).toNat) (iI_nat f0) (by omega) (bX1_classOfForm_32 ⟨?_, rfl, h1, h2, h3, h4⟩)
  have hlen : (MZ D).1.length = (LF D).length := by unfold MZ; rw [MZ_len D, List.length_replicate]
  rw [mkM_get (hr.2.2.1 (by omega)) (by rw [hlen]; exact f3 f0)]
  unfold clsZ; rw [if_pos ⟨by omega, f0⟩]
end GC
