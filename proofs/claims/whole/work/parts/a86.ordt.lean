/-! the table, and all D -/
theorem ckT_of {T : Nat} : ∀ (L : List F3) (M : List Int), ckT T L M = true → ∀ (j : Nat) (f : F3), L[j]? = some f → ∃ m : Int, M[j]? = some m ∧ dgN T (kyZ f.1 f.2.1) = (m + 1).toNat := by
  intro L
  induction L with
  | nil => intro M _ j f h; exact absurd h (by simp)
  | cons g L ih =>
    intro M h j f hj
    cases M with
    | nil => exact absurd h (by simp [ckT])
    | cons m M =>
      rw [ckT, Bool.and_eq_true, beq_dec] at h
      cases j with
      | zero =>
        have e : g = f := by simpa using hj
        subst e
        exact ⟨m, rfl, of_decide_eq_true h.1⟩
      | succ j =>
        obtain ⟨m', h1, h2⟩ := ih M h.2 j f (by simpa using hj)
        exact ⟨m', by simpa using h1, h2⟩
theorem izL_get : ∀ (n i j : Nat) (m : Int), (izL n i)[j]? = some m → m = ((i + j : Nat) : Int) := by
  intro n
  induction n with
  | zero => intro i j m h; exact absurd h (by simp [izL])
  | succ n ih =>
    intro i j m h
    rw [izL, fnl_eq] at h
    cases j with
    | zero =>
      have e : Int.ofNat i = m := by simpa using h
      rw [← e]; rfl
    | succ j =>
      have := ih (i + 1) j m (by simpa using h)
      rw [this]; congr 1; omega
theorem mkT_ex {α : Type} (k : Nat → α) : ∀ (L : List F3) (M : List Int) (T : Nat), ∃ T', mkT k T L M = k T' := by
  intro L
  induction L with
  | nil => intro M T; exact ⟨T, by rw [mkT]; intros; contradiction⟩
  | cons f L ih =>
    intro M T
    cases M with
    | nil => exact ⟨T, by rw [mkT]; intros; contradiction⟩
    | cons m M => rw [mkT, fnl_eq]; exact ih M _
theorem cyP_of {p : Bool} {D s : Int} {L : List F3} {T : Nat} : ∀ (n : Nat) (y0 : Int), cyP p D s L T n y0 = true → ∀ x y : Int, y0 ≤ y → y < y0 + n → D = y * y + 4 * x → bd x 200 → ckP p D s L T x y = true := by
  intro n
  induction n with
  | zero => intro y0 _ x y h1 h2; omega
  | succ n ih =>
    intro y0 h x y h1 h2 hD hx
    rw [cyP, Bool.and_eq_true, fzl_eq, fzl_eq, fzl_eq] at h
    rcases Int.lt_or_eq_of_le h1 with q | q
    · exact ih (y0 + 1) h.2 x y (by omega) (by omega) hD hx
    · subst q
      have g := h.1
      have e1 : D - y0 * y0 = 4 * x := by omega
      have e2 : (4 * x) % 4 = 0 := by omega
      have e3 : 4 * x / 4 = x := by omega
      rw [e1, e2, e3, show decide (200 < x) = false from decide_eq_false (by have := hx.2; omega), show decide (x < -200) = false from decide_eq_false (by have := hx.1; omega)] at g
      simpa using g
theorem chkO_of {D : Int} (h : chkO D = true) : chkL D = true ∧ (DOK D → ∀ x y, bd x 200 → bd y 20 → D = y * y + 4 * x → OrP x y) := by
  have e1 : fAk D (rtZ D) (bif decide (0 < D) then (2 * rtZ D + 1).toNat else (rtZ D).toNat) (bif decide (0 < D) then -rtZ D else 1) = LF D := by
    rw [fAk_eq]
    unfold LF
    by_cases c : 0 < D
    · simp only [c, decide_true, cond_true, if_true]
    · simp only [c, decide_false, cond_false, if_false]
  have e2 : ∀ f, nxK D (rtZ D) (LF D) f = fdF (nxF D (rtZ D) f).1 (nxF D (rtZ D) f).2.1 0 (LF D) := fun f => by unfold nxK; rw [fz_eq]; rfl
  have e3 : (fun j => (((LF D).map (nxK D (rtZ D) (LF D))).getD j 0).toNat) = nxi D (LF D) := by
    funext j
    unfold nxi
    rw [List.getD_eq_getElem?_getD, List.getElem?_map]
    cases h : (LF D)[j]? with
    | none => rfl
    | some f => show (nxK D (rtZ D) (LF D) f).toNat = _; rw [e2]
  unfold chkO at h
  simp only [fz_eq, e1, flF_eq, fn_eq, flI_eq, mkLF_eq, e3] at h
  rw [Bool.and_eq_true] at h
  obtain ⟨hn, h⟩ := h
  have n160 : (LF D).length < 160 := of_decide_eq_true hn
  have main : ∀ (M : List Int), ckA (decide (0 < D)) D (rtZ D) (LF D) M = true → (∀ (j : Nat) (m : Int), M[j]? = some m → ∀ f : F3, fdF f.1 f.2.1 0 (LF D) = (j : Int) → clI D f = m ∧ -1 ≤ m) → DOK D → ∀ x y, bd x 200 → bd y 20 → D = y * y + 4 * x → OrP x y := by
    intro M hA hM hD x y bx b_y eD
    unfold ckA at hA
    obtain ⟨T, hT⟩ := mkT_ex (fun T => ckT T (LF D) M && cyP (decide (0 < D)) D (rtZ D) (LF D) T 41 (-20)) (LF D) M 0
    rw [hT, Bool.and_eq_true] at hA
    have tok : TOK D T := by
      intro f hf
      obtain ⟨j, ej, gj⟩ := fd_get hD hf
      obtain ⟨m, m1, m2⟩ := ckT_of _ _ hA.1 j f gj
      obtain ⟨c1, c2⟩ := hM j m m1 f ej
      rw [c1]
      exact ⟨m2, c2⟩
    have kc := cyP_of 41 (-20) hA.2 x y (by have := b_y.1; omega) (by have := b_y.2; omega) eD bx
    subst eD
    exact ckP_of ⟨bx, b_y⟩ hD tok kc
  by_cases c : 0 < D
  · rw [decide_eq_true c, cond_true, Bool.and_eq_true, Bool.and_eq_true] at h
    obtain ⟨g1, g2, g3⟩ := h
    refine ⟨?_, ?_⟩
    · unfold chkL
      rw [Bool.and_eq_true, Bool.or_eq_true, Bool.and_eq_true]
      refine ⟨hn, Or.inr ⟨?_, g2⟩⟩
      rw [List.all_eq_true] at g1 ⊢
      intro f hf
      have := g1 (nxK D (rtZ D) (LF D) f) (List.mem_map_of_mem hf)
      rw [e2] at this
      exact this
    · refine main (MZ D).1 (by rw [decide_eq_true c]; exact g3) (fun j m hm f ef => ?_)
      have hR' : mkRg (MZ D).1 := by have := MR_R n160; unfold MR at this; rw [if_pos c] at this; exact this
      refine ⟨?_, (hR' m (List.mem_of_getElem? hm)).1⟩
      unfold clI
      rw [ef, if_pos ⟨c, by omega⟩, Int.toNat_natCast, List.getD_eq_getElem?_getD, hm]
      rfl
  · rw [decide_eq_false c, cond_false] at h
    refine ⟨?_, ?_⟩
    · unfold chkL
      rw [Bool.and_eq_true, Bool.or_eq_true]
      exact ⟨hn, Or.inl (by rw [decide_eq_false c]; rfl)⟩
    · refine main (izL (LF D).length 0) (by rw [decide_eq_false c]; exact h) (fun j m hm f ef => ?_)
      have := izL_get _ 0 j m hm
      rw [Nat.zero_add] at this
      unfold clI
      rw [if_neg (fun z => absurd z.1 c), ef, this]
      exact ⟨rfl, by omega⟩
noncomputable def chOA : Nat → Int → Bool
  | 0, _ => true
  | n + 1, d => (!(fundB d && !psq d) || chkO d) && fz (d + 1) fun d1 => chOA n d1
theorem chOA_of : ∀ (n : Nat) (d : Int), chOA n d = true → ∀ x, d ≤ x → x < d + n → fundB x = true → psq x = false → chkO x = true := by
  intro n
  induction n with
  | zero => intro d _ x h1 h2; omega
  | succ n ih =>
    intro d h x h1 h2 hf hp
    unfold chOA at h
    rw [fz_eq, Bool.and_eq_true] at h
    rcases Int.lt_or_eq_of_le h1 with q | q
    · exact ih (d + 1) h.2 x (by omega) (by omega) hf hp
    · subst q
      have := h.1
      rw [hf, hp] at this
      simpa using this
