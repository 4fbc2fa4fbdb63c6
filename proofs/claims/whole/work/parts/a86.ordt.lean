/-! the table, and all D -/
theorem ckT_of {T : Nat} : ∀ (L : List F3) (M : List Int), ckT T L M = true → ∀ (j : Nat) (f : F3), L[j]? = some f → ∃ m : Int, M[j]? = some m ∧ dgN T (kyZ f.1 f.2.1) = (m + 1).toNat := by
  intro L
  induction L with
  | nil => intro M _ j f h; exact absurd h (by simp)
  | cons g L ih =>
    intro M h j f hj
    cases M with
    | nil => exact absurd h (by simp [ckT])
    | cons m M =>
      rw [ckT, Bool.and_eq_true, beq_dec] at h
      cases j with
      | zero =>
        have e : g = f := by simpa using hj
        subst e
        exact ⟨m, rfl, of_decide_eq_true h.1⟩
      | succ j =>
        obtain ⟨m', h1, h2⟩ := ih M h.2 j f (by simpa using hj)
        exact ⟨m', by simpa using h1, h2⟩
theorem izL_get : ∀ (n i j : Nat) (m : Int), (izL n i)[j]? = some m → m = ((i + j : Nat) : Int) := by
  intro n
  induction n with
  | zero => intro i j m h; exact absurd h (by simp [izL])
  | succ n ih =>
    intro i j m h
    rw [izL, fnl_eq] at h
    cases j with
    | zero =>
      have e : Int.ofNat i = m := by simpa using h
      rw [← e]; rfl
    | succ j =>
      have := ih (i + 1) j m (by simpa using h)
      rw [this]; congr 1; omega
theorem mkT_ex {α : Type} (k : Nat → α) : ∀ (L : List F3) (M : List Int) (T : Nat), ∃ T', mkT k T L M = k T' := by
  intro L
  induction L with
  | nil => intro M T; exact ⟨T, by rw [mkT]; intros; contradiction⟩
  | cons f L ih =>
    intro M T
    cases M with
    | nil => exact ⟨T, by rw [mkT]; intros; contradiction⟩
    | cons m M => rw [mkT, fnl_eq]; exact ih M _
theorem cyP_of {p : Bool} {D s : Int} {L : List F3} {T : Nat} : ∀ (n : Nat) (y0 : Int), cyP p D s L T n y0 = true → ∀ x y : Int, y0 ≤ y → y < y0 + n → D = y * y + 4 * x → bd x 200 → ckP p D s L T x y = true := by
  intro n
  induction n with
  | zero => intro y0 _ x y h1 h2; omega
  | succ n ih =>
    intro y0 h x y h1 h2 hD hx
    rw [cyP, Bool.and_eq_true, fzl_eq, fzl_eq, fzl_eq] at h
    rcases Int.lt_or_eq_of_le h1 with q | q
    · exact ih (y0 + 1) h.2 x y (by omega) (by omega) hD hx
    · subst q
      have g := h.1
      have e1 : D - y0 * y0 = 4 * x := by omega
      have e2 : (4 * x) % 4 = 0 := by omega
      have e3 : 4 * x / 4 = x := by omega
      rw [e1, e2, e3, show decide (200 < x) = false from decide_eq_false (by have := hx.2; omega), show decide (x < -200) = false from decide_eq_false (by have := hx.1; omega)] at g
      simpa using g
theorem stL_eq {α : Type} (v : Int) : ∀ (l : List Int) (j : Nat) (k : List Int → α), stL v l j k = k (l.set j v) := by
  intro l
  induction l with
  | nil => intro j k; rw [stL]; rfl
  | cons x t ih =>
    intro j k
    cases j with
    | zero => rw [stL]; rfl
    | succ j => rw [stL, ih]; rfl
theorem gtZ_eq : ∀ (l : List Int) (j : Nat), gtZ l j = l.getD j 0 := by
  intro l
  induction l with
  | nil => intro j; rw [gtZ]; simp
  | cons x t ih =>
    intro j
    cases j with
    | zero => rw [gtZ, List.getD_cons_zero]
    | succ j => rw [gtZ, ih, List.getD_cons_succ]
theorem mkWq_eq {α : Type} (nx : Nat → Nat) (i : Nat) (k : List Int → α) : ∀ (f : Nat) (m : List Int) (j : Nat), mkWq nx i k f m j = k (mkW nx i f m j) := by
  intro f
  induction f with
  | zero => intro m j; rfl
  | succ f ih =>
    intro m j
    rw [mkWq, fnl_eq, mkW, ngZ_eq, gtZ_eq]
    by_cases c : m.getD j 0 < 0
    · rw [decide_eq_true c, cond_true, stL_eq, if_pos c, ih]; rfl
    · rw [decide_eq_false c, cond_false, if_neg c]
theorem mkLq_eq {α : Type} (nx : Nat → Nat) (k : List Int → Nat → α) : ∀ (r i : Nat) (m : List Int) (c : Nat), mkLq nx k r i m c = k (mkL nx r i m c).1 (mkL nx r i m c).2 := by
  intro r
  induction r with
  | zero => intro i m c; rfl
  | succ r ih =>
    intro i m c
    rw [mkLq, fnl_eq, fnl_eq, mkL, ngZ_eq, gtZ_eq]
    by_cases q : m.getD i 0 < 0
    · rw [decide_eq_true q, cond_true, mkWq_eq, if_pos q, ih]
    · rw [decide_eq_false q, cond_false, if_neg q, ih]
theorem ok_q {D a : Int} (hD : 0 < D) {b : Nat} (h : okF D a (b : Int) = true) : (D.toNat - b * b) % (4 * a.natAbs) = 0 := by
  unfold okF at h
  simp only [Bool.and_eq_true, decide_eq_true_eq] at h
  have dv : 4 * a ∣ ((b : Int) * b - D) := Int.dvd_of_tmod_eq_zero h.1.2
  by_cases c : b * b ≤ D.toNat
  · have d2 := Int.natAbs_dvd_natAbs.mpr dv
    rw [Int.natAbs_mul] at d2
    have e0 : ((b : Int) * b) = ((b * b : Nat) : Int) := by push_cast; rfl
    have e1 : ((b : Int) * b - D).natAbs = D.toNat - b * b := by rw [e0]; omega
    rw [e1] at d2
    exact Nat.mod_eq_zero_of_dvd d2
  · rw [show D.toNat - b * b = 0 by omega, Nat.zero_mod]
theorem fBq_eq {D : Int} (hD : 0 < D) (a : Int) : ∀ (n b : Nat), fBq D a D.toNat (4 * a.natAbs) n b = fB D a (b : Int) n := by
  intro n
  induction n with
  | zero => intro b; rfl
  | succ n ih =>
    intro b
    have e : fBq D a D.toNat (4 * a.natAbs) (n + 1) b = bif Nat.beq ((D.toNat - b * b) % (4 * a.natAbs)) 0 then (bif okF D a (b : Int) then [frm D a (b : Int)] else []) ++ fBq D a D.toNat (4 * a.natAbs) n (b + 1) else fBq D a D.toNat (4 * a.natAbs) n (b + 1) := rfl
    have e1 : ((b : Int) + 1) = ((b + 1 : Nat) : Int) := by push_cast; rfl
    rw [e, fB, ih, beq_dec, e1]
    by_cases c : okF D a (b : Int) = true
    · rw [decide_eq_true (ok_q hD c), cond_true, c]; rfl
    · have c' : okF D a (b : Int) = false := by simpa using c
      rw [c']
      cases decide ((D.toNat - b * b) % (4 * a.natAbs) = 0) <;> rfl
theorem fAq_eq {D s : Int} (hD : 0 < D) : ∀ (n : Nat) (a : Int), fAq D D.toNat s.toNat n a = fA D s a n := by
  intro n
  induction n with
  | zero => intro b; rfl
  | succ n ih =>
    intro a
    have e : fAq D D.toNat s.toNat (n + 1) a = fzl a fun a => fBq D a D.toNat (4 * a.natAbs) s.toNat 1 ++ fAq D D.toNat s.toNat n (a + 1) := rfl
    rw [e, fzl_eq, fA, ih, fBq_eq hD, if_pos hD, if_pos hD]
    rfl
theorem nxQ_of {D : Int} (hD : DOK D) (hp : 0 < D) {T : Nat} (hT : ∀ f ∈ LF D, dgN T (kyZ f.1 f.2.1) = (fdF f.1 f.2.1 0 (LF D) + 1).toNat) {f : F3} (hf : FI D f) (h : 0 ≤ nxQ D (rtZ D) T f) : nxQ D (rtZ D) T f = fdF (nxF D (rtZ D) f).1 (nxF D (rtZ D) f).2.1 0 (LF D) := by
  have hg := nxF_FI hD hf (rtZ D)
  have e : nxQ D (rtZ D) T f = bif rdP D (nxF D (rtZ D) f).1 (nxF D (rtZ D) f).2.1 then Int.ofNat (dgN T (kyZ (nxF D (rtZ D) f).1 (nxF D (rtZ D) f).2.1) - 1) else -1 := by
    unfold nxQ
    rw [nxFk_eq D (rtZ D) f.1]
    rfl
  rw [e] at h ⊢
  rw [rdP_eq (c := (nxF D (rtZ D) f).2.2) hp] at h ⊢
  by_cases c : rdB D (nxF D (rtZ D) f).1 (nxF D (rtZ D) f).2.1 (nxF D (rtZ D) f).2.2 = true
  · have hm := LF_in hD hp hg c
    obtain ⟨j, ej, _⟩ := fd_get hD hm
    rw [c, cond_true, hT _ hm, ej]
    show (((((j : Int) + 1).toNat - 1 : Nat)) : Int) = (j : Int)
    omega
  · have c' : rdB D (nxF D (rtZ D) f).1 (nxF D (rtZ D) f).2.1 (nxF D (rtZ D) f).2.2 = false := by simpa using c
    rw [c', cond_false] at h
    exact absurd h (by decide)
theorem ckN_of {x y x0 y0 : Int} (hb : bd x 200 ∧ bd y 20) (hb0 : bd x0 200 ∧ bd y0 20) (E : y0 * y0 + 4 * x0 = y * y + 4 * x) (hD : DOK (y * y + 4 * x)) (hn : y * y + 4 * x < 0) {T : Nat} (hT : TOK (y * y + 4 * x) T) (h : ckP false (y * y + 4 * x) (rtZ (y * y + 4 * x)) (LF (y * y + 4 * x)) T x0 y0 = true) : OrP x y := by
  intro R hR
  have hD0 : DOK (y0 * y0 + 4 * x0) := by rw [E]; exact hD
  have hT0 : TOK (y0 * y0 + 4 * x0) T := by rw [E]; exact hT
  have nz : y * y + 4 * x ≠ 0 := by omega
  obtain ⟨ua, _, uc⟩ := pf_all hb0 hD0 (uni_idr (x := x0) (y := y0))
  obtain ⟨u1, u2⟩ := hT0 _ (LF_inA hD0 ua uc)
  rw [← clsZ_I, pf_uni, E] at u1 u2
  obtain ⟨fa, _, fc⟩ := pf_all hb hD hR
  have fm := LF_inA hD fa fc
  obtain ⟨f1, f2⟩ := hT _ fm
  have gF := gd_pos hD fa fc
  have p0 := pos_neg hD hn fa fc
  rw [p0] at gF
  rw [← clsZ_I] at f1 f2
  have df : false = decide (0 < y * y + 4 * x) := (decide_eq_false (by omega)).symm
  have s : ckP false (y * y + 4 * x) (rtZ (y * y + 4 * x)) (LF (y * y + 4 * x)) T x0 y0 = fzl (-x0) fun c => RDb false (y * y + 4 * x) (rtZ (y * y + 4 * x)) (fun a b _ => fnl (dgN T (kyZ a b)) fun goal => alN (y * y + 4 * x) (rtZ (y * y + 4 * x)) T x0 y0 (x0 + 200).toNat (y0 + 20).toNat goal (LF (y * y + 4 * x))) 1 y0 c := rfl
  rw [s, fzl_eq, df] at h
  have rb := RDb_eq nz (fun a b (_ : Int) => fnl (dgN T (kyZ a b)) fun goal => alN (y * y + 4 * x) (rtZ (y * y + 4 * x)) T x0 y0 (x0 + 200).toNat (y0 + 20).toNat goal (LF (y * y + 4 * x))) (1, y0, -x0)
  dsimp only at rb
  rw [rb, fnl_eq, u1] at h
  obtain ⟨a1, a2⟩ := alN_of _ h _ fm
  rw [f1] at a1 a2
  have gF0 : gdF (y0 * y0 + 4 * x0) (RD (y * y + 4 * x) (pfR (T2 x y) R)) := by rw [E]; exact gF
  have k0 := rnC_of hb0 hD0 hT0 (goal := clsZ (y * y + 4 * x) (1, y0, -x0)) u2 gF0 160 (RD (y * y + 4 * x) (pfR (T2 x y) R)) (clsZ (y * y + 4 * x) (pfR (T2 x y) R)) 1 _ gF0 f2 rfl (by rw [E, ← df]; exact a2)
  generalize rnC _ _ _ _ _ _ _ _ _ _ _ _ _ _ _ _ = r at k0
  rw [E] at k0
  have k1 := ordC_sh hb hb0 E hD hn gF 160 _ _ 1 r gF k0
  rw [goal_sh hb hb0 E hD hn] at k1
  obtain ⟨j, ej, gj⟩ := fd_get hD fm
  have ec : clsZ (y * y + 4 * x) (pfR (T2 x y) R) = fdF (RD (y * y + 4 * x) (pfR (T2 x y) R)).1 (RD (y * y + 4 * x) (pfR (T2 x y) R)).2.1 0 (LF (y * y + 4 * x)) := by
    rw [clsZ_I]; unfold clI; rw [if_neg (fun z => absurd z.1 (by omega))]
  rw [pf_uni, p0]
  refine ⟨r, RD (y * y + 4 * x) (pfR (T2 x y) R), by rw [ec, ej]; omega, by rw [ec, ej, Int.toNat_natCast]; exact gj, k1, ?_⟩
  rw [p0]
  rw [ec] at k1 ⊢
  exact or_neg hb hD hn gF 160 _ 1 _ fm k1
theorem chk_main {D : Int} (hD : DOK D) {M : List Int} (hA : ckA (decide (0 < D)) D (rtZ D) (LF D) M = true) (hM : ∀ (j : Nat) (m : Int), M[j]? = some m → ∀ f : F3, fdF f.1 f.2.1 0 (LF D) = (j : Int) → clI D f = m ∧ -1 ≤ m) (x y : Int) (bx : bd x 200) (b_y : bd y 20) (eD : D = y * y + 4 * x) : OrP x y := by
  unfold ckA at hA
  obtain ⟨T, hT⟩ := mkT_ex (fun T => ckT T (LF D) M && cyP (decide (0 < D)) D (rtZ D) (LF D) T 41 (-20)) (LF D) M 0
  rw [hT, Bool.and_eq_true] at hA
  have tok : TOK D T := by
    intro f hf
    obtain ⟨j, ej, gj⟩ := fd_get hD hf
    obtain ⟨m, m1, m2⟩ := ckT_of _ _ hA.1 j f gj
    obtain ⟨c1, c2⟩ := hM j m m1 f ej
    rw [c1]
    exact ⟨m2, c2⟩
  have kc := cyP_of 41 (-20) hA.2 x y (by have := b_y.1; omega) (by have := b_y.2; omega) eD bx
  subst eD
  exact ckP_of ⟨bx, b_y⟩ hD tok kc
theorem chkO_of {D : Int} (hD : DOK D) (h : chkO D = true) : chkL D = true ∧ ∀ x y, bd x 200 → bd y 20 → D = y * y + 4 * x → OrP x y := by
  unfold chkO at h
  rw [fz_eq] at h
  by_cases c : 0 < D
  · rw [decide_eq_true c, cond_true] at h
    have e1 : fAq D D.toNat (rtZ D).toNat (2 * rtZ D + 1).toNat (-rtZ D) = LF D := by
      rw [fAq_eq c]; unfold LF; rw [if_pos c, if_pos c]
    unfold chkP at h
    rw [e1, flF_eq, fn_eq, Bool.and_eq_true, flI_eq] at h
    obtain ⟨hn, h⟩ := h
    have n160 : (LF D).length < 160 := of_decide_eq_true hn
    obtain ⟨T, hT⟩ := mkT_ex (fun T => ckT T (LF D) (izL (LF D).length 0) && flI ((LF D).map (nxQ D (rtZ D) T)) fun N => N.all (fun v => !(ngZ v)) && mkLq (fun j => (gtZ N j).toNat) (fun m c => decide (c = cyN m 0) && ckA true D (rtZ D) (LF D) m) (LF D).length 0 (List.replicate (LF D).length (-1)) 0) (LF D) (izL (LF D).length 0) 0
    rw [hT, Bool.and_eq_true, flI_eq, Bool.and_eq_true, mkLq_eq, Bool.and_eq_true] at h
    obtain ⟨t1, t2, t3, t4⟩ := h
    have tk : ∀ f ∈ LF D, dgN T (kyZ f.1 f.2.1) = (fdF f.1 f.2.1 0 (LF D) + 1).toNat := by
      intro f hf
      obtain ⟨j, ej, gj⟩ := fd_get hD hf
      obtain ⟨m, m1, m2⟩ := ckT_of _ _ t1 j f gj
      have := izL_get _ 0 j m m1
      rw [Nat.zero_add] at this
      rw [m2, ej, this]
    rw [List.all_eq_true] at t2
    have nx : ∀ f ∈ LF D, nxQ D (rtZ D) T f = fdF (nxF D (rtZ D) f).1 (nxF D (rtZ D) f).2.1 0 (LF D) ∧ 0 ≤ nxQ D (rtZ D) T f := by
      intro f hf
      have q := t2 _ (List.mem_map_of_mem hf)
      rw [ngZ_eq] at q
      have q0 : 0 ≤ nxQ D (rtZ D) T f := by
        have : ¬ nxQ D (rtZ D) T f < 0 := by simpa using q
        omega
      exact ⟨nxQ_of hD c tk (LF_mem hD hf).1 q0, q0⟩
    have e3 : (fun j => (gtZ ((LF D).map (nxQ D (rtZ D) T)) j).toNat) = nxi D (LF D) := by
      funext j
      unfold nxi
      rw [gtZ_eq, List.getD_eq_getElem?_getD, List.getElem?_map]
      cases h : (LF D)[j]? with
      | none => rfl
      | some f => show (nxQ D (rtZ D) T f).toNat = _; rw [(nx f (List.mem_of_getElem? h)).1]
    rw [e3] at t3 t4
    refine ⟨?_, ?_⟩
    · unfold chkL
      rw [Bool.and_eq_true, Bool.or_eq_true, Bool.and_eq_true]
      refine ⟨hn, Or.inr ⟨?_, t3⟩⟩
      rw [List.all_eq_true]
      intro f hf
      obtain ⟨n1, n2⟩ := nx f hf
      rw [n1] at n2
      exact decide_eq_true n2
    · refine chk_main hD (M := (MZ D).1) (by rw [decide_eq_true c]; exact t4) (fun j m hm f ef => ?_)
      have hR' : mkRg (MZ D).1 := by have := MR_R n160; unfold MR at this; rw [if_pos c] at this; exact this
      refine ⟨?_, (hR' m (List.mem_of_getElem? hm)).1⟩
      unfold clI
      rw [ef, if_pos ⟨c, by omega⟩, Int.toNat_natCast, List.getD_eq_getElem?_getD, hm]
      rfl
  · rw [decide_eq_false c, cond_false] at h
    have e1 : fAk D (rtZ D) (rtZ D).toNat 1 = LF D := by
      rw [fAk_eq]; unfold LF; rw [if_neg c, if_neg c]
    unfold chkN at h
    rw [e1, flF_eq, fn_eq, Bool.and_eq_true, flI_eq] at h
    obtain ⟨hn, h⟩ := h
    refine ⟨?_, ?_⟩
    · unfold chkL
      rw [Bool.and_eq_true, Bool.or_eq_true]
      exact ⟨hn, Or.inl (by rw [decide_eq_false c]; rfl)⟩
    · intro x y bx b_y eD
      obtain ⟨T, hT⟩ := mkT_ex (fun T => ckT T (LF D) (izL (LF D).length 0) && fz (D % 2) fun y => fz ((D - y * y) / 4) fun x => ckP false D (rtZ D) (LF D) T x y) (LF D) (izL (LF D).length 0) 0
      rw [hT, Bool.and_eq_true, fz_eq, fz_eq] at h
      obtain ⟨t1, t2⟩ := h
      have nz : D ≠ 0 := fun q => hD.nsq 0 (by rw [q]; rfl)
      have tok : TOK D T := by
        intro f hf
        obtain ⟨j, ej, gj⟩ := fd_get hD hf
        obtain ⟨m, m1, m2⟩ := ckT_of _ _ t1 j f gj
        have := izL_get _ 0 j m m1
        rw [Nat.zero_add] at this
        unfold clI
        rw [if_neg (fun z => absurd z.1 c), ej, m2, this]
        exact ⟨rfl, by omega⟩
      have m4 := hD.2.2.1
      have l1 := hD.1
      have hy : D % 2 = 0 ∨ D % 2 = 1 := by omega
      have ey : D % 2 * (D % 2) = D % 2 := by rcases hy with z | z <;> rw [z] <;> rfl
      rw [ey] at t2
      have E : D % 2 * (D % 2) + 4 * ((D - D % 2) / 4) = D := by rw [ey]; omega
      subst eD
      exact ckN_of ⟨bx, b_y⟩ ⟨⟨by omega, by omega⟩, ⟨by omega, by omega⟩⟩ E hD (by omega) tok t2
noncomputable def chOA : Nat → Int → Bool
  | 0, _ => true
  | n + 1, d => (!(fundB d && !psq d) || chkO d) && fz (d + 1) fun d1 => chOA n d1
theorem chOA_of : ∀ (n : Nat) (d : Int), chOA n d = true → ∀ x, d ≤ x → x < d + n → fundB x = true → psq x = false → chkO x = true := by
  intro n
  induction n with
  | zero => intro d _ x h1 h2; omega
  | succ n ih =>
    intro d h x h1 h2 hf hp
    unfold chOA at h
    rw [fz_eq, Bool.and_eq_true] at h
    rcases Int.lt_or_eq_of_le h1 with q | q
    · exact ih (d + 1) h.2 x (by omega) (by omega) hf hp
    · subst q
      have := h.1
      rw [hf, hp] at this
      simpa using this
