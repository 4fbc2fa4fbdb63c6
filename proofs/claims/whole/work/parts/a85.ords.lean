/-! what the kernel's check says of the orders -/
/-- D below 0: a reduced form is in the list -/
theorem LF_inN {D : Int} (hD : DOK D) (hn : D < 0) {f : F3} (h : FI D f) (hr : rdB D f.1 f.2.1 f.2.2 = true) : f ∈ LF D := by
  have hs := rt_of hD
  have hr' := hr
  rw [rdB_neg hn] at hr
  obtain ⟨r1, r2, r3⟩ := hr
  have a0 := h.2.1
  have ap : 0 < f.1 := by omega
  have as : f.1 ≤ rtZ D := by
    rcases Int.lt_or_le (rtZ D) f.1 with c | c
    · exfalso
      have e := h.1
      have m1 : 4 * f.1 * f.1 ≤ 4 * f.1 * f.2.2 := Int.mul_le_mul_of_nonneg_left r2 (by omega)
      have q := sq_le_of (x := f.2.1) (s := f.1) (by omega) (by omega)
      have m2 : (rtZ D + 1) * (rtZ D + 1) ≤ f.1 * f.1 := Int.mul_le_mul (by omega) (by omega) (by omega) (by omega)
      have e4 : 4 * f.1 * f.1 = 4 * (f.1 * f.1) := by rw [Int.mul_assoc]
      omega
    · exact c
  have t0 : (f.2.1 * f.2.1 - D).tmod (4 * f.1) = 0 := by
    have e : f.2.1 * f.2.1 - D = 4 * f.1 * f.2.2 := by have := h.1; omega
    rw [e]; exact Int.mul_tmod_right ..
  have ok : okF D f.1 f.2.1 = true := by
    unfold okF
    rw [h.tdiv, hr', t0]
    simp [a0]
  have ef : f = frm D f.1 f.2.1 := by
    obtain ⟨a, b, c⟩ := f
    show (a, b, c) = (a, b, _)
    have := h.tdiv
    dsimp only at this
    rw [this]
  have hp : ¬ 0 < D := by omega
  rw [ef]
  unfold LF
  rw [if_neg hp, if_neg hp]
  refine fA_in _ _ (by show 1 ≤ f.1; omega) (by show f.1 < 1 + _; omega) ?_
  show frm D f.1 f.2.1 ∈ fB D f.1 _ _
  rw [if_neg hp, if_neg hp]
  exact fB_in _ _ (by omega) (by omega) ok
theorem LF_inA {D : Int} (hD : DOK D) {f : F3} (h : FI D f) (hr : rdB D f.1 f.2.1 f.2.2 = true) : f ∈ LF D := by
  have nz : D ≠ 0 := fun q => hD.nsq 0 (by rw [q]; rfl)
  by_cases c : 0 < D
  · exact LF_in hD c h hr
  · exact LF_inN hD (by omega) h hr
theorem fd_get {D : Int} (hD : DOK D) {f : F3} (hf : f ∈ LF D) : ∃ j : Nat, fdF f.1 f.2.1 0 (LF D) = (j : Int) ∧ (LF D)[j]? = some f := by
  have h0 := fd_in (a := f.1) (b := f.2.1) (LF D) 0 ⟨f, hf, rfl, rfl⟩
  rcases fdF_spec f.1 f.2.1 (LF D) 0 with z | ⟨i, g, h1, h2, h3, h4⟩
  · rw [z] at h0; exact absurd h0 (by decide)
  · rw [Nat.zero_add] at h4
    exact ⟨i, h4, by rw [h1, FI_uniq (LF_mem hD (List.mem_of_getElem? h1)).1 (LF_mem hD hf).1 h2 h3]⟩
/-- the class of a reduced form -/
def clI (D : Int) (f : F3) : Int := if 0 < D ∧ 0 ≤ fdF f.1 f.2.1 0 (LF D) then (MZ D).1.getD (fdF f.1 f.2.1 0 (LF D)).toNat 0 else fdF f.1 f.2.1 0 (LF D)
theorem clsZ_I (D : Int) (q : F3) : clsZ D q = clI D (RD D q) := rfl
def TOK (D : Int) (T : Nat) : Prop := ∀ f ∈ LF D, dgN T (kyZ f.1 f.2.1) = (clI D f + 1).toNat ∧ -1 ≤ clI D f
theorem prF_of {x y : Int} (hb : bd x 200 ∧ bd y 20) (hD : DOK (y * y + 4 * x)) {g h q : F3} (gG : gdF (y * y + 4 * x) g) (gH : gdF (y * y + 4 * x) h) (hq : prF x y g h = some q) : FI (y * y + 4 * x) (RD (y * y + 4 * x) q) ∧ rdB (y * y + 4 * x) (RD (y * y + 4 * x) q).1 (RD (y * y + 4 * x) q).2.1 (RD (y * y + 4 * x) q).2.2 = true := by
  unfold prF at hq
  cases hz : prdZ x y g.1 (smE y g) h.1 (smE y h) with
  | none => rw [hz] at hq; exact absurd hq (by simp)
  | some z =>
    obtain ⟨r0, r3, r4⟩ := z
    rw [hz] at hq
    have e := Option.some.inj hq
    have iR := prd_ideal hb (gdF_idr gG) (gdF_idr gH) ⟨gG.2.1, gG.2.2⟩ ⟨gH.2.1, gH.2.2⟩ hz
    obtain ⟨pa, _, pc⟩ := pf_all hb hD iR
    rw [← e]
    exact ⟨pa, pc⟩
theorem rnC_of {x y : Int} (hb : bd x 200 ∧ bd y 20) (hD : DOK (y * y + 4 * x)) {T : Nat} (hT : TOK (y * y + 4 * x) T) {goal : Int} (hg : -1 ≤ goal) {base : F3} (gB : gdF (y * y + 4 * x) base) : ∀ (k : Nat) (pw : F3) (rc : Int) (m r : Nat), gdF (y * y + 4 * x) pw → -1 ≤ rc → rnC (decide (0 < y * y + 4 * x)) (y * y + 4 * x) (rtZ (y * y + 4 * x)) T x y (x + 200).toNat (y + 20).toNat (goal + 1).toNat base.1.toNat (smE y base).toNat k pw.1.toNat (smE y pw).toNat (rc + 1).toNat m = r → r ≠ 0 → ordC (y * y + 4 * x) x y goal base k pw rc m = some r := by
  have nz : y * y + 4 * x ≠ 0 := fun q => hD.nsq 0 (by rw [q]; rfl)
  intro k
  induction k with
  | zero => intro pw rc m r _ _ h hr; exact absurd h.symm hr
  | succ k ih =>
    intro pw rc m r gP hrc h hr
    have s : rnC (decide (0 < y * y + 4 * x)) (y * y + 4 * x) (rtZ (y * y + 4 * x)) T x y (x + 200).toNat (y + 20).toNat (goal + 1).toNat base.1.toNat (smE y base).toNat (k + 1) pw.1.toNat (smE y pw).toNat (rc + 1).toNat m = bif Nat.beq (rc + 1).toNat (goal + 1).toNat then m else prK x y (x + 200).toNat (y + 20).toNat pw.1.toNat (smE y pw).toNat base.1.toNat (smE y base).toNat 0 (fun A B C => RDb (decide (0 < y * y + 4 * x)) (y * y + 4 * x) (rtZ (y * y + 4 * x)) (fun a b c => fnl (dgN T (kyZ a b)) fun rc' => psK (y * y + 4 * x) (rtZ (y * y + 4 * x)) a b c fun a' b' => smK y a' b' fun pa' pe' => fnl (Nat.add m 1) fun m' => rnC (decide (0 < y * y + 4 * x)) (y * y + 4 * x) (rtZ (y * y + 4 * x)) T x y (x + 200).toNat (y + 20).toNat (goal + 1).toNat base.1.toNat (smE y base).toNat k pa' pe' rc' m') A B C) := rfl
    rw [s, beq_dec] at h
    rw [ordC]
    by_cases c : rc = goal
    · rw [if_pos c]
      rw [c, decide_eq_true rfl, cond_true] at h
      rw [h]
    rw [if_neg c]
    rw [decide_eq_false (by omega), cond_false, prK_eq hb.1.1 hb.2.1 gP.2.1 gB.2.1] at h
    cases hq : prF x y pw base with
    | none => rw [hq] at h; exact absurd h.symm hr
    | some q =>
      rw [hq] at h
      dsimp only [oF] at h
      obtain ⟨pa, pc⟩ := prF_of hb hD gP gB hq
      obtain ⟨t1, t2⟩ := hT _ (LF_inA hD pa pc)
      rw [RDb_eq nz, fnl_eq, t1, psK_eq, smK_eq, fnl_eq] at h
      exact ih _ _ (m + 1) r (gd_pos hD pa pc) t2 h hr
theorem rnR_of {x y : Int} (hb : bd x 200 ∧ bd y 20) (hD : DOK (y * y + 4 * x)) {T : Nat} (hT : TOK (y * y + 4 * x) T) {goal : Int} (hg : -1 ≤ goal) {base : F3} (gB : gdF (y * y + 4 * x) base) : ∀ (k : Nat) (now : Int) (m r : Nat), -1 ≤ now → rnR (decide (0 < y * y + 4 * x)) (y * y + 4 * x) (rtZ (y * y + 4 * x)) (LF (y * y + 4 * x)) T x y (x + 200).toNat (y + 20).toNat (goal + 1).toNat base.1.toNat (smE y base).toNat k (now + 1).toNat m = r → r ≠ 0 → ordR (y * y + 4 * x) x y goal base k now m = some r := by
  have nz : y * y + 4 * x ≠ 0 := fun q => hD.nsq 0 (by rw [q]; rfl)
  intro k
  induction k with
  | zero => intro now m r _ h hr; exact absurd h.symm hr
  | succ k ih =>
    intro now m r hrc h hr
    have s : rnR (decide (0 < y * y + 4 * x)) (y * y + 4 * x) (rtZ (y * y + 4 * x)) (LF (y * y + 4 * x)) T x y (x + 200).toNat (y + 20).toNat (goal + 1).toNat base.1.toNat (smE y base).toNat (k + 1) (now + 1).toNat m = bif Nat.beq (now + 1).toNat (goal + 1).toNat then m else bif Nat.beq (now + 1).toNat 0 then 0 else match (LF (y * y + 4 * x))[(now + 1).toNat - 1]? with
      | none => 0
      | some g => psK (y * y + 4 * x) (rtZ (y * y + 4 * x)) g.1 g.2.1 g.2.2 fun a b => smK y a b fun pa pe => prK x y (x + 200).toNat (y + 20).toNat pa pe base.1.toNat (smE y base).toNat 0 (fun A B C => RDb (decide (0 < y * y + 4 * x)) (y * y + 4 * x) (rtZ (y * y + 4 * x)) (fun a b c => fnl (dgN T (kyZ a b)) fun rc' => fnl (Nat.add m 1) fun m' => rnR (decide (0 < y * y + 4 * x)) (y * y + 4 * x) (rtZ (y * y + 4 * x)) (LF (y * y + 4 * x)) T x y (x + 200).toNat (y + 20).toNat (goal + 1).toNat base.1.toNat (smE y base).toNat k rc' m') A B C) := rfl
    rw [s, beq_dec, beq_dec] at h
    rw [ordR]
    by_cases c : now = goal
    · rw [if_pos c]
      rw [c, decide_eq_true rfl, cond_true] at h
      rw [h]
    rw [if_neg c]
    rw [decide_eq_false (by omega), cond_false] at h
    by_cases c0 : now < 0
    · rw [decide_eq_true (by omega), cond_true] at h
      exact absurd h.symm hr
    rw [if_neg c0]
    rw [decide_eq_false (by omega), cond_false, show (now + 1).toNat - 1 = now.toNat by omega] at h
    cases hj : (LF (y * y + 4 * x))[now.toNat]? with
    | none => rw [hj] at h; exact absurd h.symm hr
    | some g =>
      rw [hj] at h
      dsimp only at h ⊢
      have mg := List.mem_of_getElem? hj
      have gG := gd_pos hD (LF_mem hD mg).1 (LF_rd hD mg)
      rw [psK_eq, smK_eq, prK_eq hb.1.1 hb.2.1 gG.2.1 gB.2.1] at h
      cases hq : prF x y (posF (y * y + 4 * x) g) base with
      | none => rw [hq] at h; exact absurd h.symm hr
      | some q =>
        rw [hq] at h
        dsimp only [oF] at h
        obtain ⟨pa, pc⟩ := prF_of hb hD gG gB hq
        obtain ⟨t1, t2⟩ := hT _ (LF_inA hD pa pc)
        rw [RDb_eq nz, fnl_eq, t1, fnl_eq] at h
        exact ih _ (m + 1) r t2 h hr
theorem alR_of {p : Bool} {D : Int} {L : List F3} {T : Nat} {x y : Int} {x2 y2 goal : Nat} : ∀ (L' : List F3) (i j r : Nat), (alR p D (rtZ D) L T x y x2 y2 goal i L').getD j 0 = r → r ≠ 0 → ∃ f, L'[j]? = some f ∧ dgN T (kyZ f.1 f.2.1) = i + j ∧ rnR p D (rtZ D) L T x y x2 y2 goal (posF D f).1.toNat (smE y (posF D f)).toNat 160 (i + j) 1 = r := by
  intro L'
  induction L' with
  | nil => intro i j r h hr; rw [alR] at h; exact absurd (by rw [← h]; simp) hr
  | cons f L' ih =>
    intro i j r h hr
    rw [alR, fnl_eq] at h
    cases j with
    | zero =>
      rw [List.getD_cons_zero, beq_dec] at h
      by_cases c : dgN T (kyZ f.1 f.2.1) = i
      · rw [decide_eq_true c, cond_true, psK_eq, smK_eq] at h
        exact ⟨f, rfl, c, h⟩
      · rw [decide_eq_false c, cond_false] at h
        exact absurd h.symm hr
    | succ j =>
      rw [List.getD_cons_succ] at h
      obtain ⟨g, h1, h2, h3⟩ := ih (i + 1) j r h hr
      have e : i + 1 + j = i + (j + 1) := by omega
      rw [e] at h2 h3
      exact ⟨g, by simpa using h1, h2, h3⟩
theorem alC_of {p : Bool} {D : Int} {T : Nat} {x y : Int} {x2 y2 goal : Nat} {RR : List Nat} : ∀ (L' : List F3), alC p D (rtZ D) T x y x2 y2 goal RR L' = true → ∀ f ∈ L', dgN T (kyZ f.1 f.2.1) ≠ 0 ∧ RR.getD (dgN T (kyZ f.1 f.2.1) - 1) 0 ≠ 0 ∧ rnC p D (rtZ D) T x y x2 y2 goal (posF D f).1.toNat (smE y (posF D f)).toNat 160 (posF D f).1.toNat (smE y (posF D f)).toNat (dgN T (kyZ f.1 f.2.1)) 1 = RR.getD (dgN T (kyZ f.1 f.2.1) - 1) 0 := by
  intro L'
  induction L' with
  | nil => intro _ f hf; exact absurd hf (by simp)
  | cons g L' ih =>
    intro h f hf
    rw [alC, Bool.and_eq_true, fnl_eq, Bool.and_eq_true, fnl_eq, Bool.and_eq_true, psK_eq, smK_eq] at h
    obtain ⟨⟨h1, h2, h3⟩, h4⟩ := h
    rcases List.mem_cons.mp hf with rfl | hf
    · rw [beq_dec] at h1 h2 h3
      exact ⟨by simpa using h1, by simpa using h2, of_decide_eq_true h3⟩
    · exact ih h4 f hf
theorem alN_of {D : Int} {T : Nat} {x y : Int} {x2 y2 goal : Nat} : ∀ (L' : List F3), alN D (rtZ D) T x y x2 y2 goal L' = true → ∀ f ∈ L', dgN T (kyZ f.1 f.2.1) ≠ 0 ∧ rnC false D (rtZ D) T x y x2 y2 goal f.1.toNat (smE y f).toNat 160 f.1.toNat (smE y f).toNat (dgN T (kyZ f.1 f.2.1)) 1 ≠ 0 := by
  intro L'
  induction L' with
  | nil => intro _ f hf; exact absurd hf (by simp)
  | cons g L' ih =>
    intro h f hf
    rw [alN, Bool.and_eq_true, fnl_eq, Bool.and_eq_true, smK_eq] at h
    obtain ⟨⟨h1, h2⟩, h4⟩ := h
    rcases List.mem_cons.mp hf with rfl | hf
    · rw [beq_dec] at h1 h2
      exact ⟨by simpa using h1, by simpa using h2⟩
    · exact ih h4 f hf
theorem pos_neg {D : Int} (hD : DOK D) (hn : D < 0) {f : F3} (hF : FI D f) (hr : rdB D f.1 f.2.1 f.2.2 = true) : posF D f = f := by
  have := (posF_of hD hF hr).2.2
  unfold posF
  rw [if_neg (fun c => absurd (this c) (by omega))]
/-- D below 0: both runs are the same -/
theorem or_neg {x y : Int} (hb : bd x 200 ∧ bd y 20) (hD : DOK (y * y + 4 * x)) (hn : y * y + 4 * x < 0) {goal : Int} {base : F3} (gB : gdF (y * y + 4 * x) base) : ∀ (k : Nat) (f : F3) (m r : Nat), f ∈ LF (y * y + 4 * x) → ordC (y * y + 4 * x) x y goal base k f (fdF f.1 f.2.1 0 (LF (y * y + 4 * x))) m = some r → ordR (y * y + 4 * x) x y goal base k (fdF f.1 f.2.1 0 (LF (y * y + 4 * x))) m = some r := by
  intro k
  induction k with
  | zero => intro f m r _ h; exact absurd h (by simp [ordC])
  | succ k ih =>
    intro f m r hf h
    rw [ordC] at h
    rw [ordR]
    obtain ⟨j, ej, gj⟩ := fd_get hD hf
    rw [ej] at h ⊢
    by_cases c : (j : Int) = goal
    · rw [if_pos c] at h ⊢; exact h
    rw [if_neg c] at h ⊢
    rw [if_neg (by omega), Int.toNat_natCast, gj]
    dsimp only
    have p0 := pos_neg hD hn (LF_mem hD hf).1 (LF_rd hD hf)
    have gG := gd_pos hD (LF_mem hD hf).1 (LF_rd hD hf)
    rw [p0] at gG ⊢
    cases hq : prF x y f base with
    | none => rw [hq] at h; exact absurd h (by simp)
    | some q =>
      rw [hq] at h
      dsimp only at h ⊢
      obtain ⟨pa, pc⟩ := prF_of hb hD gG gB hq
      have ec : clsZ (y * y + 4 * x) q = fdF (RD (y * y + 4 * x) q).1 (RD (y * y + 4 * x) q).2.1 0 (LF (y * y + 4 * x)) := by
        rw [clsZ_I]; unfold clI; rw [if_neg (fun z => absurd z.1 (by omega))]
      rw [pos_neg hD hn pa pc, ec] at h
      rw [ec]
      exact ih _ _ _ (LF_inA hD pa pc) h
/-- both count alike -/
def OrP (x y : Int) : Prop := ∀ R : Nat → Int, IdR 2 (T2 x y) R → ∃ (r : Nat) (fb : F3), 0 ≤ clsZ (y * y + 4 * x) (pfR (T2 x y) R) ∧ (LF (y * y + 4 * x))[(clsZ (y * y + 4 * x) (pfR (T2 x y) R)).toNat]? = some fb ∧ ordC (y * y + 4 * x) x y (clsZ (y * y + 4 * x) (pfR (T2 x y) (smI 1 0))) (posF (y * y + 4 * x) (RD (y * y + 4 * x) (pfR (T2 x y) R))) 160 (posF (y * y + 4 * x) (RD (y * y + 4 * x) (pfR (T2 x y) R))) (clsZ (y * y + 4 * x) (pfR (T2 x y) R)) 1 = some r ∧ ordR (y * y + 4 * x) x y (clsZ (y * y + 4 * x) (pfR (T2 x y) (smI 1 0))) (posF (y * y + 4 * x) fb) 160 (clsZ (y * y + 4 * x) (pfR (T2 x y) R)) 1 = some r
theorem pf_uni (x y : Int) : pfR (T2 x y) (smI 1 0) = (1, y, -x) := by
  have e : pfR (T2 x y) (smI 1 0) = ((1 : Int) / 1, 2 * ((0 : Int) / 1) + y, ((0 : Int) / 1 * (0 / 1) + 0 / 1 * y - x) / (1 / 1)) := rfl
  rw [e]
  simp
theorem ckP_of {x y : Int} (hb : bd x 200 ∧ bd y 20) (hD : DOK (y * y + 4 * x)) {T : Nat} (hT : TOK (y * y + 4 * x) T) (h : ckP (decide (0 < y * y + 4 * x)) (y * y + 4 * x) (rtZ (y * y + 4 * x)) (LF (y * y + 4 * x)) T x y = true) : OrP x y := by
  intro R hR
  have nz : y * y + 4 * x ≠ 0 := fun q => hD.nsq 0 (by rw [q]; rfl)
  obtain ⟨ua, _, uc⟩ := pf_all hb hD (uni_idr (x := x) (y := y))
  obtain ⟨u1, u2⟩ := hT _ (LF_inA hD ua uc)
  obtain ⟨fa, _, fc⟩ := pf_all hb hD hR
  have fm := LF_inA hD fa fc
  obtain ⟨f1, f2⟩ := hT _ fm
  have gF := gd_pos hD fa fc
  rw [← clsZ_I] at u1 u2 f1 f2
  have s : ckP (decide (0 < y * y + 4 * x)) (y * y + 4 * x) (rtZ (y * y + 4 * x)) (LF (y * y + 4 * x)) T x y = fzl (-x) fun c => RDb (decide (0 < y * y + 4 * x)) (y * y + 4 * x) (rtZ (y * y + 4 * x)) (fun a b _ => fnl (dgN T (kyZ a b)) fun goal => bif decide (0 < y * y + 4 * x) then flN (alR (decide (0 < y * y + 4 * x)) (y * y + 4 * x) (rtZ (y * y + 4 * x)) (LF (y * y + 4 * x)) T x y (x + 200).toNat (y + 20).toNat goal 1 (LF (y * y + 4 * x))) (fun RR => alC (decide (0 < y * y + 4 * x)) (y * y + 4 * x) (rtZ (y * y + 4 * x)) T x y (x + 200).toNat (y + 20).toNat goal RR (LF (y * y + 4 * x))) else alN (y * y + 4 * x) (rtZ (y * y + 4 * x)) T x y (x + 200).toNat (y + 20).toNat goal (LF (y * y + 4 * x))) 1 y c := rfl
  rw [s, fzl_eq] at h
  have rb := RDb_eq nz (fun a b (_ : Int) => fnl (dgN T (kyZ a b)) fun goal => bif decide (0 < y * y + 4 * x) then flN (alR (decide (0 < y * y + 4 * x)) (y * y + 4 * x) (rtZ (y * y + 4 * x)) (LF (y * y + 4 * x)) T x y (x + 200).toNat (y + 20).toNat goal 1 (LF (y * y + 4 * x))) (fun RR => alC (decide (0 < y * y + 4 * x)) (y * y + 4 * x) (rtZ (y * y + 4 * x)) T x y (x + 200).toNat (y + 20).toNat goal RR (LF (y * y + 4 * x))) else alN (y * y + 4 * x) (rtZ (y * y + 4 * x)) T x y (x + 200).toNat (y + 20).toNat goal (LF (y * y + 4 * x))) (1, y, -x)
  dsimp only at rb
  rw [rb, fnl_eq] at h
  rw [pf_uni] at u1 u2 ⊢
  rw [u1] at h
  by_cases c : 0 < y * y + 4 * x
  · rw [decide_eq_true c, cond_true, flN_eq] at h
    obtain ⟨a1, a2, a3⟩ := alC_of _ h _ fm
    rw [f1] at a1 a2 a3
    obtain ⟨fb, b1, b2, b3⟩ := alR_of _ 1 _ _ rfl a2
    have f0 : 0 ≤ clsZ (y * y + 4 * x) (pfR (T2 x y) R) := by omega
    have ei : (clsZ (y * y + 4 * x) (pfR (T2 x y) R) + 1).toNat - 1 = (clsZ (y * y + 4 * x) (pfR (T2 x y) R)).toNat := by omega
    have ej : 1 + ((clsZ (y * y + 4 * x) (pfR (T2 x y) R) + 1).toNat - 1) = (clsZ (y * y + 4 * x) (pfR (T2 x y) R) + 1).toNat := by omega
    rw [ej] at b3
    have mb := List.mem_of_getElem? b1
    have gB := gd_pos hD (LF_mem hD mb).1 (LF_rd hD mb)
    have dt : true = decide (0 < y * y + 4 * x) := (decide_eq_true c).symm
    rw [dt] at a2 a3 b3
    refine ⟨_, fb, f0, by rw [← ei]; exact b1, rnC_of hb hD hT u2 gF 160 _ _ 1 _ gF f2 a3 a2, ?_⟩
    exact rnR_of hb hD hT u2 gB 160 _ 1 _ f2 b3 a2
  · rw [decide_eq_false c, cond_false] at h
    have hn : y * y + 4 * x < 0 := by omega
    obtain ⟨a1, a2⟩ := alN_of _ h _ fm
    rw [f1] at a1 a2
    have df : false = decide (0 < y * y + 4 * x) := (decide_eq_false c).symm
    have p0 := pos_neg hD hn fa fc
    rw [df] at a2
    rw [p0] at gF ⊢
    have k1 := rnC_of hb hD hT u2 gF 160 _ _ 1 _ gF f2 rfl a2
    obtain ⟨j, ej, gj⟩ := fd_get hD fm
    have ec : clsZ (y * y + 4 * x) (pfR (T2 x y) R) = fdF (RD (y * y + 4 * x) (pfR (T2 x y) R)).1 (RD (y * y + 4 * x) (pfR (T2 x y) R)).2.1 0 (LF (y * y + 4 * x)) := by
      rw [clsZ_I]; unfold clI; rw [if_neg (fun z => absurd z.1 c)]
    refine ⟨_, RD (y * y + 4 * x) (pfR (T2 x y) R), by rw [ec, ej]; omega, by rw [ec, ej, Int.toNat_natCast]; exact gj, k1, ?_⟩
    rw [p0]
    generalize rnC (decide (0 < y * y + 4 * x)) (y * y + 4 * x) (rtZ (y * y + 4 * x)) T x y (x + 200).toNat (y + 20).toNat _ _ _ 160 _ _ _ 1 = r at k1 ⊢
    rw [ec] at k1 ⊢
    exact or_neg hb hD hn gF 160 _ 1 _ fm k1
