theorem third_sp {n : Nat} {R : Nat → Int} (r2 : R2 n R) (e : n = 2) : Sp R (0, 0, 1) := ⟨0, 0, 1, by simp [(r2 e).1], by simp [(r2 e).2.1], by simp [(r2 e).2.2]⟩
theorem inL_rows {n : Nat} (h0 : n = 2 ∨ n = 3) {A B : Nat → Int} (tB : Tri B) (rB : R2 n B) (rA : R2 n A) : (∀ i, i < n → Sp A (rowV B i)) ↔ inL B A := by
  rw [← in3_rowsN h0 tB rB (Sp A) (third_sp rA)]
  exact ⟨fun h v s => h.sp (Sp_grp A) s, fun h => ⟨h _ (Sp_in B).1, h _ (Sp_in B).2.1, h _ (Sp_in B).2.2⟩⟩
theorem q_rows {n : Nat} (h0 : n = 2 ∨ n = 3) {T P B : Nat → Int} (tP : Tri P) (rP : R2 n P) (rB : R2 n B) (v : V3) : (∀ i, i < n → Sp B (muv n T v (rowV P i))) ↔ ∀ x, Sp P x → Sp B (muv n T v x) := by
  have g : Grp (fun x => Sp B (muv n T v x)) := (Sp_grp B).div n T v
  rw [← in3_rowsN h0 tP rP (fun x => Sp B (muv n T v x)) (fun e => (third_eqn (T := T) e v).symm.sp h0 rB (Sp_zero B))]
  exact ⟨fun h x s => h.sp g s, fun h => ⟨h _ (Sp_in P).1, h _ (Sp_in P).2.1, h _ (Sp_in P).2.2⟩⟩
section TM
variable {l : Launch} {D : va_G} {aI aL : ClassId} {ad : Nat → Nat} {Q : sa_P} {I : sa_I} {J : sa_J}
theorem tm7_loop {n : Nat} {T P : Nat → Int} (rr : Rg n T) (iP : IdR n T P) (hP : 2 ≤ nmR P) (hN : NL n T P) : ∀ (f : Nat) (B : Nat → Int) (c : Nat) (I : sa_I) (J : sa_J), nmR B ≤ f → IdR n T B → I 0 1 = nI n → (∀ i j c, i < n → j < n → c < 3 → J 2 (9 * i + 3 * j + c) = lI (T (9 * i + 3 * j + c))) → (∀ t, t < 3 * n → J 15 t = lI (B t)) → (∀ t, t < 3 * n → J 16 t = lI (P t)) → (∀ m I1 J1, cnt n T P m B → knG I I1 J J1 → Q (some (.int (nI (c + m)))) I1 J1) → Sat (ER l D aI aL ad) M_X7_times Q 58 [(0, .ref (ad 0)), (4, .int (nI c))] [] I J := by
  intro f
  have h0 := rr.n
  have okP := IdR.ok rr iP
  induction f with
  | zero =>
    intro B c I J hf hB
    have := nm_pos hB.1
    omega
  | succ f ih =>
    intro B c I J hf hB hI hT h15 h16 kk
    have bB := hB.1.bd hB.2.2.2
    have bb : ∀ t, t < 9 → bd (B t) 1000000 := fun t ht => bd_of (bB t ht).1 (bB t ht).2
    refine bX7_times_58 ?_
    refine v_X7_288 dX7_times_59 rfl ⟨rfl, rfl, Nat.le_of_ble_eq_true rfl, Nat.le_of_ble_eq_true rfl⟩ (c_isWithin h0 (X := B) (Y := P) hI iP.1.1 iP.2.1 (iP.1.bd iP.2.2.2) (fun i hi => ⟨bb _ (by omega), bb _ (by omega), bb _ (by omega)⟩) h15 h16) rfl rfl (Nat.le_of_ble_eq_true rfl) (fun r I1 J1 hq => ?_)
    obtain ⟨e1, e2, hr⟩ := hq
    obtain rfl := e1.symm
    obtain rfl := e2.symm
    have key := inL_rows h0 hB.1.1 hB.2.1 iP.2.1
    rcases hr with ⟨a, rfl⟩ | ⟨a, rfl⟩
    · refine bX7_times_62 (fun c => absurd c (by decide)) (fun _ => bX7_times_65 ?_)
      refine v_X7_291 dX7_times_66 rfl ⟨rfl, rfl, Nat.le_of_ble_eq_true rfl, Nat.le_of_ble_eq_true rfl⟩ (c_quotient rr hB okP hI hT h15 h16) rfl rfl (Nat.le_of_ble_eq_true rfl) (fun r I1 J1 hq => ?_)
      obtain ⟨rfl, s3, f3, M, hH, hR2, hb, h14, hS⟩ := hq
      have hQ : isQ n T P B M := ⟨hH, hR2, fun v => (hS v).trans (q_rows h0 iP.1.1 iP.2.1 hB.2.1 v)⟩
      have hBP := key.mp a
      obtain ⟨hM, hm2⟩ := hQ.idr rr hP hN hB hBP
      refine bX7_times_69 ?_
      refine v_X7_321 dX7_times_78 rfl ⟨rfl, rfl, Nat.le_of_ble_eq_true rfl, Nat.le_of_ble_eq_true rfl⟩ (c_moves aJ_R14 (by decide) (by decide) aJ_R15 (by decide) (by decide) (by decide)) rfl rfl (Nat.le_of_ble_eq_true rfl) (fun r I2 J2 hq => ?_)
      obtain ⟨rfl, e1, f4, w4⟩ := hq
      obtain rfl := e1.symm
      have g : knG I I1 J J2 := ⟨s3, fun q a b c d e f => by rw [f4 q d, f3 q a b c f]⟩
      refine bX7_times_81 (v81 := nI (c + 1)) (nI_addE c 1) ?_
      refine ih M (c + 1) I1 J2 (by have := nm_pos hM.1; omega) hM (by rw [s3.2 1 (by decide)]; exact hI) (fun i j c a b d => by rw [g.2 2 (by decide) (by decide) (by decide) (by decide) (by decide) (by decide)]; exact hT i j c a b d) (fun t ht => by rw [w4 t (by omega)]; exact h14 t ht) (fun t ht => by rw [f4 16 (by decide), f3 16 (by decide) (by decide) (by decide) (by decide)]; exact h16 t ht) (fun m I3 J3 hc g3 => ?_)
      have := kk (m + 1) I3 J3 ⟨hBP, M, hQ, hc⟩ ⟨g.1.tr g3.1, fun q a b c d e f => by rw [g3.2 q a b c d e f, g.2 q a b c d e f]⟩
      rw [show c + (m + 1) = c + 1 + m by omega] at this; exact this
    · refine bX7_times_62 (fun _ => bX7_times_87 ?_) (fun c => absurd rfl c)
      exact kk 0 I J (fun h => a (key.mpr h)) ⟨SRI.rfl', fun _ _ _ _ _ _ _ => rfl⟩
def tmF (I I1 : sa_I) (J J1 : sa_J) : Prop := SCI I I1 ∧ ∀ q, q ≠ 9 → q ≠ 14 → q ≠ 15 → q ≠ 16 → q ≠ 17 → q ≠ 18 → J1 q = J q
theorem tmF.rfl' : tmF I I J J := ⟨SCI.rfl', fun _ _ _ _ _ _ _ => rfl⟩
theorem tmF.tr {I1 I2 : sa_I} {J1 J2 : sa_J} (h : tmF I I1 J J1) (g : tmF I1 I2 J1 J2) : tmF I I2 J J2 := ⟨h.1.tr g.1, fun q a b c d e f => (g.2 q a b c d e f).trans (h.2 q a b c d e f)⟩
theorem tm6_loop {n : Nat} {T P B : Nat → Int} (rr : Rg n T) (iP : IdR n T P) (hP : 2 ≤ nmR P) (hP0 : P 0 ≤ nmR P) (iB : IdR n T B) {a1 q1 n1 p1 a3 q3 n3 p3 : Nat} (hq1 : sa_iJ (EC l D aI aL ad) a1 q1 n1) (hn1 : n1 < 2 ^ 31) (hq3 : sa_iJ (EC l D aI aL ad) a3 q3 n3) (hn3 : n3 < 2 ^ 31) (hb1 : p1 + 9 ≤ n1) (hb3 : p3 + 9 ≤ n3) (hz1 : q1 ≠ 9 ∧ q1 ≠ 14 ∧ q1 ≠ 15 ∧ q1 ≠ 16 ∧ q1 ≠ 17 ∧ q1 ≠ 18) (hz3 : q3 ≠ 9 ∧ q3 ≠ 14 ∧ q3 ≠ 15 ∧ q3 ≠ 16 ∧ q3 ≠ 17 ∧ q3 ≠ 18) : ∀ (d m : Nat), m + d = 41 → ∀ (I : sa_I) (J : sa_J), I 4 0 = nI n → (∀ t, t < 27 → J 8 t = lI (T t)) → (∀ t, t < 9 → J q1 (p1 + t) = lI (P t)) → (∀ t, t < 9 → J q3 (p3 + t) = lI (B t)) → nmR P ^ (m + 1) ≤ 1000000000000 → (∀ j, j < m → ∃ A, Pw n T P j A ∧ inL B A) → (nmR P ^ (m + 1) ≤ nmR B → ∃ A, Pw n T P m A ∧ A 0 ≤ P 0 ^ (m + 1) ∧ (∀ t, t < 9 → J 15 t = lI (A t) ∧ 0 ≤ A t ∧ A t ≤ 1000000)) → (∀ m I1 J1, tmC n T P B m → tmF I I1 J J1 → Q (some (.int (nI m))) I1 J1) → Sat (EC l D aI aL ad) M_X2_timesIn Q 28 [(0, .ref (ad 13)), (1, .ref a1), (2, .int (nI p1)), (3, .ref a3), (4, .int (nI p3)), (5, .long (lI (nmR B))), (7, .long (lI (nmR P))), (9, .long (lI (nmR P ^ (m + 1)))), (11, .int (nI m))] [] I J := by
  intro d
  have h0 := rr.n
  have two : ∀ k : Nat, (2 : Int) ^ k ≤ nmR P ^ k := by
    intro k
    induction k with
    | zero => rw [Int.pow_zero, Int.pow_zero]; exact Int.le_refl _
    | succ k ih =>
      rw [Int.pow_succ, Int.pow_succ]
      exact Int.mul_le_mul ih hP (by decide) (by have : 0 < (2 : Int) ^ k := Int.pow_pos (by decide); omega)
  have okP := IdR.ok rr iP
  induction d with
  | zero =>
    intro m hm I J _ _ _ _ hb
    have : m = 41 := by omega
    subst this
    have := two (41 + 1)
    have e : (2 : Int) ^ (41 + 1) = 4398046511104 := by decide
    omega
  | succ d ih =>
    intro m hm I J hI hT h1 h3 hbd hin hA kk
    have pos : (2 : Int) ≤ nmR P ^ (m + 1) := by
      have := pow_mono (a := nmR P) (by omega) (show 1 ≤ m + 1 by omega)
      rw [Int.pow_succ, Int.pow_zero, Int.one_mul] at this; omega
    have hBn := iB.2.2.2
    have hB1 := nm_pos iB.1
    have hPn := iP.2.2.2
    refine bX2_timesIn_28 hq1 hn1 hq3 hn3 (fun c => absurd c (by rw [nI_lit 1000, nJ_le (by omega) (by omega)]; omega)) (fun _ => ?_)
    refine bX2_timesIn_36 hq1 hn1 hq3 hn3 (fun c => absurd c (by rw [lI_one, lI_le ⟨by omega, by omega⟩ ⟨by omega, by omega⟩]; omega)) (fun _ => ?_)
    refine bX2_timesIn_43 hq1 hn1 hq3 hn3 (fun c => bX2_timesIn_119 (kk m I J ⟨hin, Or.inl ?_⟩ tmF.rfl')) (fun c => ?_)
    · exact (lI_lt ⟨by omega, by omega⟩ ⟨by omega, by omega⟩).mp c
    rw [lI_lt ⟨by omega, by omega⟩ ⟨by omega, by omega⟩] at c
    obtain ⟨A, hPw, hA0, hAm⟩ := hA (by omega)
    have hh := hPw.h
    have bB := iB.1.bd iB.2.2.2
    have bb : ∀ t, t < 9 → bd (B t) 1000000 := fun t ht => bd_of (bB t ht).1 (bB t ht).2
    refine bX2_timesIn_51 hq1 hn1 hq3 hn3 ?_
    refine v_X2_119 dX2_timesIn_63 rfl ⟨rfl, rfl, Nat.le_of_ble_eq_true rfl, Nat.le_of_ble_eq_true rfl⟩ (c_hasAll h0 (X := A) (Y := B) (p1 := 0) hI hh.1.1 hh.2.1 (fun t ht => (hAm t ht).2) (fun i hi => ⟨bb _ (by omega), bb _ (by omega), bb _ (by omega)⟩) aJ_C15 (by decide) hq3 hn3 (by decide) hb3 (by decide) hz3.2.2.2.2.1 (fun t ht => by rw [Nat.zero_add]; exact (hAm t ht).1) h3) rfl rfl (Nat.le_of_ble_eq_true rfl) (fun r I1 J1 hq => ?_)
    obtain ⟨e1, f1, hr⟩ := hq
    obtain rfl := e1.symm
    have key := inL_rows h0 iB.1.1 iB.2.1 hh.2.1
    have g1 : tmF I I J J1 := ⟨SCI.rfl', fun q _ _ _ _ e _ => f1 q e⟩
    rcases hr with ⟨a, rfl⟩ | ⟨a, rfl⟩
    · refine bX2_timesIn_66 hq1 hn1 hq3 hn3 (fun c => absurd c (by decide)) (fun _ => ?_)
      have hin2 : ∀ j, j < m + 1 → ∃ A, Pw n T P j A ∧ inL B A := by
        intro j hj
        by_cases cj : j = m
        · subst cj; exact ⟨A, hPw, key.mp a⟩
        · exact hin j (by omega)
      have eP : nmR P ^ (m + 1) * nmR P = nmR P ^ (m + 1 + 1) := (Int.pow_succ _ _).symm
      have hbd2 : nmR P ^ (m + 1 + 1) ≤ 1000000000000 := by
        rw [← eP]
        have : nmR P ^ (m + 1) * nmR P ≤ 1000000 * 1000000 := Int.mul_le_mul (by omega) (by omega) (by omega) (by omega)
        omega
      have pos2 : (0 : Int) < nmR P ^ (m + 1 + 1) := Int.pow_pos (by omega)
      refine bX2_timesIn_69 hq1 hn1 hq3 hn3 (v69 := nI (m + 1)) (v77 := lI (nmR P ^ (m + 1 + 1))) (nI_addE m 1) (by rw [lI_mul, eP]) (fun c2 => ?_) (fun c2 => ?_)
      · rw [lI_lt ⟨by omega, by omega⟩ ⟨by omega, by omega⟩] at c2
        refine ih (m + 1) (by omega) I J1 hI (fun t ht => by rw [f1 8 (by decide)]; exact hT t ht) (fun t ht => by rw [f1 q1 hz1.2.2.2.2.1]; exact h1 t ht) (fun t ht => by rw [f1 q3 hz3.2.2.2.2.1]; exact h3 t ht) hbd2 hin2 (fun c3 => absurd c3 (by omega)) (fun m' I2 J2 x y => kk m' I2 J2 x (g1.tr y))
      · rw [lI_lt ⟨by omega, by omega⟩ ⟨by omega, by omega⟩] at c2
        refine bX2_timesIn_87 hq1 hn1 hq3 hn3 ?_
        refine s_copy (n0 := 9) (sp := 0) (dp := 0) (n := 9) (n' := 9) aJ_C15 aJ_C18 dX2_timesIn_102 (by decide +kernel) (Nat.le_of_ble_eq_true rfl) (Nat.le_of_ble_eq_true rfl) (by decide) (by decide) (by decide) (by decide) (by decide) ?_
        generalize hJa : sa_rJ J1 18 (va_cpy (J1 15) (J1 18) 0 0 9) = Ja
        have fa : ∀ q, q ≠ 18 → Ja q = J1 q := fun q hq => by rw [← hJa]; exact sa_rJ_ne hq
        have a18 : ∀ t, t < 9 → Ja 18 (0 + t) = lI (A t) := fun t ht => by
          rw [← hJa, sa_rJ_eq, Nat.zero_add]; unfold va_cpy; rw [if_pos ⟨by omega, by omega⟩, Nat.sub_zero, Nat.zero_add, f1 15 (by decide)]; exact (hAm t ht).1
        refine bX2_timesIn_105 hq1 hn1 hq3 hn3 ?_
        have p0 := iP.1.1.2.2.2.1
        have a0 := hh.1.1.2.2.2.1
        have ppow : P 0 ^ (m + 1) * P 0 ≤ nmR P ^ (m + 1 + 1) := by
          rw [← eP]
          have q : P 0 ^ (m + 1) ≤ nmR P ^ (m + 1) := by
            have : ∀ k : Nat, P 0 ^ k ≤ nmR P ^ k := by
              intro k
              induction k with
              | zero => rw [Int.pow_zero, Int.pow_zero]; exact Int.le_refl _
              | succ k ih =>
                rw [Int.pow_succ, Int.pow_succ]
                exact Int.mul_le_mul ih hP0 (by omega) (by have : 0 < nmR P ^ k := Int.pow_pos (by omega); omega)
            exact this _
          exact Int.mul_le_mul q hP0 (by omega) (by omega)
        have hW : A 0 * P 0 ≤ P 0 ^ (m + 1) * P 0 := Int.mul_le_mul_of_nonneg_right hA0 (by omega)
        have okA : okR n A := ⟨hh.1, hh.2.1, idl_WL rr hh.2.1 hh.2.2, (hAm 0 (by decide)).2.2⟩
        refine v_X2_122 dX2_timesIn_113 rfl ⟨rfl, rfl, Nat.le_of_ble_eq_true rfl, Nat.le_of_ble_eq_true rfl⟩ (c_makeProduct (X := A) (Y := P) hI (fun t ht => by rw [fa 8 (by decide), f1 8 (by decide)]; exact hT t ht) okA okP (by omega) rr (p1 := 0) (p3 := p1) aJ_C18 (by decide) hq1 hn1 (by decide) hb1 ⟨by decide, by decide, by decide, by decide⟩ ⟨hz1.1, hz1.2.1, hz1.2.2.1, hz1.2.2.2.1⟩ a18 (fun t ht => by rw [fa q1 hz1.2.2.2.2.2, f1 q1 hz1.2.2.2.2.1]; exact h1 t ht)) rfl rfl (Nat.le_of_ble_eq_true rfl) (fun r I2 J2 hq => ?_)
        obtain ⟨rfl, sI, oJ, R, hLH, hprod⟩ := hq
        have hPr : Prod2 n T A P R := prod2_of rr okA okP 1 (by rw [Int.mul_one]; exact hprod)
        refine bX2_timesIn_116 hq1 hn1 hq3 hn3 ?_
        have g2 : tmF I I2 J J2 := ⟨sI, fun q a b c d e f => by rw [oJ q a b c d, fa q f, f1 q e]⟩
        refine ih (m + 1) (by omega) I2 J2 (by rw [sI 4 (by decide)]; exact hI) (fun t ht => by rw [g2.2 8 (by decide) (by decide) (by decide) (by decide) (by decide) (by decide)]; exact hT t ht) (fun t ht => by rw [g2.2 q1 hz1.1 hz1.2.1 hz1.2.2.1 hz1.2.2.2.1 hz1.2.2.2.2.1 hz1.2.2.2.2.2]; exact h1 t ht) (fun t ht => by rw [g2.2 q3 hz3.1 hz3.2.1 hz3.2.2.1 hz3.2.2.2.1 hz3.2.2.2.2.1 hz3.2.2.2.2.2]; exact h3 t ht) hbd2 hin2 (fun _ => ⟨R, ⟨hLH.2.1, hLH.2.2, hPr.idl rr okA okP hh.2.2, A, hPw, hPr⟩, ?_, fun t ht => ?_⟩) (fun m' I3 J3 x y => kk m' I3 J3 x (g2.tr y))
        · have := (hLH.1 0 (by decide)).2.2
          rw [Int.pow_succ]; omega
        · obtain ⟨u1, u2, u3⟩ := hLH.1 t ht
          exact ⟨u1, u2, by omega⟩
    · refine bX2_timesIn_66 hq1 hn1 hq3 hn3 (fun _ => bX2_timesIn_119 (kk m I J1 ⟨hin, Or.inr ⟨A, hPw, fun h => a (key.mpr h)⟩⟩ g1)) (fun c => absurd rfl c)
theorem c_timesIn {n : Nat} {T P B : Nat → Int} (rr : Rg n T) (iP : IdR n T P) (hP : 2 ≤ nmR P) (hP0 : P 0 ≤ nmR P) (iB : IdR n T B) {a1 q1 n1 p1 a3 q3 n3 p3 : Nat} (hq1 : sa_iJ (EC l D aI aL ad) a1 q1 n1) (hn1 : n1 < 2 ^ 31) (hq3 : sa_iJ (EC l D aI aL ad) a3 q3 n3) (hn3 : n3 < 2 ^ 31) (hb1 : p1 + 9 ≤ n1) (hb3 : p3 + 9 ≤ n3) (hz1 : q1 ≠ 9 ∧ q1 ≠ 14 ∧ q1 ≠ 15 ∧ q1 ≠ 16 ∧ q1 ≠ 17 ∧ q1 ≠ 18) (hz3 : q3 ≠ 9 ∧ q3 ≠ 14 ∧ q3 ≠ 15 ∧ q3 ≠ 16 ∧ q3 ≠ 17 ∧ q3 ≠ 18) (hI : I 4 0 = nI n) (hT : ∀ t, t < 27 → J 8 t = lI (T t)) (h1 : ∀ t, t < 9 → J q1 (p1 + t) = lI (P t)) (h3 : ∀ t, t < 9 → J q3 (p3 + t) = lI (B t)) : Con (EC l D aI aL ad) M_X2_timesIn yX2_timesIn [.ref (ad 13), .ref a1, .int (nI p1), .ref a3, .int (nI p3)] I J (fun r I1 J1 => ∃ m, tmC n T P B m ∧ r = some (.int (nI m)) ∧ tmF I I1 J J1) := by
  refine Con.of (by decide +kernel) rfl (Nat.le_of_ble_eq_true rfl) ?_
  have hPn := iP.2.2.2
  refine bX2_timesIn_0 hq1 hn1 hq3 hn3 ?_
  refine v_X2_69 dX2_timesIn_3 rfl ⟨rfl, rfl, Nat.le_of_ble_eq_true rfl, Nat.le_of_ble_eq_true rfl⟩ (c_normOfRows6 hq3 hn3 hb3 h3) rfl rfl (Nat.le_of_ble_eq_true rfl) (fun r I1 J1 hq => ?_)
  obtain ⟨rfl, e1, e2⟩ := hq
  obtain rfl := e1.symm
  obtain rfl := e2.symm
  refine bX2_timesIn_6 hq1 hn1 hq3 hn3 ?_
  refine v_X2_69 dX2_timesIn_10 rfl ⟨rfl, rfl, Nat.le_of_ble_eq_true rfl, Nat.le_of_ble_eq_true rfl⟩ (c_normOfRows6 hq1 hn1 hb1 h1) rfl rfl (Nat.le_of_ble_eq_true rfl) (fun r I1 J1 hq => ?_)
  obtain ⟨rfl, e1, e2⟩ := hq
  obtain rfl := e1.symm
  obtain rfl := e2.symm
  refine bX2_timesIn_13 hq1 hn1 hq3 hn3 ?_
  refine v_X2_116 dX2_timesIn_18 rfl ⟨rfl, rfl, Nat.le_of_ble_eq_true rfl, Nat.le_of_ble_eq_true rfl⟩ (c_makeCopy hI (IdR.ok rr iP) hq1 hn1 hb1 hz1.2.1 h1) rfl rfl (Nat.le_of_ble_eq_true rfl) (fun r I1 J1 hq => ?_)
  obtain ⟨rfl, sI, sJ, hLS⟩ := hq
  refine bX2_timesIn_21 hq1 hn1 hq3 hn3 (v26 := nI 0) rfl ?_
  have g : tmF I I1 J J1 := ⟨sI, fun q _ b c _ _ _ => sJ q b c⟩
  have e1 : nmR P = nmR P ^ (0 + 1) := by rw [Int.pow_succ, Int.pow_zero, Int.one_mul]
  have lp := tm6_loop (Q := fun r I1 J1 => ∃ m, tmC n T P B m ∧ r = some (.int (nI m)) ∧ tmF I I1 J J1) rr iP hP hP0 iB hq1 hn1 hq3 hn3 hb1 hb3 hz1 hz3 41 0 (by decide) I1 J1 (by rw [sI 4 (by decide)]; exact hI) (fun t ht => by rw [sJ 8 (by decide) (by decide)]; exact hT t ht) (fun t ht => by rw [sJ q1 hz1.2.1 hz1.2.2.1]; exact h1 t ht) (fun t ht => by rw [sJ q3 hz3.2.1 hz3.2.2.1]; exact h3 t ht) (by rw [← e1]; omega) (fun j hj => by omega) (fun _ => ⟨P, ⟨iP.1, iP.2.1, iP.2.2.1, fun v => Iff.rfl⟩, by rw [Int.pow_succ, Int.pow_zero, Int.one_mul]; exact Int.le_refl _, fun t ht => ⟨(hLS.2.2.1 t ht).1, (iP.1.bd iP.2.2.2) t ht⟩⟩) (fun m I2 J2 x y => ⟨m, x, rfl, g.tr y⟩)
  rw [← e1] at lp
  exact lp
end TM
