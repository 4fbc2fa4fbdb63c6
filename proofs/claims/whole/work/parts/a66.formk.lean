def flF {α : Type} : List F3 → (List F3 → α) → α
  | [], k => k []
  | f :: L, k => fz f.1 fun a => fz f.2.1 fun b => fz f.2.2 fun c => flF L fun t => k ((a, b, c) :: t)
theorem flF_eq {α : Type} : ∀ (L : List F3) (k : List F3 → α), flF L k = k L := by
  intro L
  induction L with
  | nil => intro k; rfl
  | cons f L ih => intro k; simp only [flF, fz_eq, ih]
def flI {α : Type} : List Int → (List Int → α) → α
  | [], k => k []
  | f :: L, k => fz f fun a => flI L fun t => k (a :: t)
theorem flI_eq {α : Type} : ∀ (L : List Int) (k : List Int → α), flI L k = k L := by
  intro L
  induction L with
  | nil => intro k; rfl
  | cons f L ih => intro k; simp only [flI, fz_eq, ih]
def fBk (D a : Int) : Nat → Int → List F3
  | 0, _ => []
  | n + 1, b => fz b fun b => (bif okF D a b then [frm D a b] else []) ++ fBk D a n (b + 1)
theorem fBk_eq (D a : Int) : ∀ (n : Nat) (b : Int), fBk D a n b = fB D a b n := by
  intro n
  induction n with
  | zero => intro b; rfl
  | succ n ih => intro b; rw [fBk, fz_eq, fB, ih]; cases okF D a b <;> rfl
def fAk (D s : Int) : Nat → Int → List F3
  | 0, _ => []
  | n + 1, a => fz a fun a => fBk D a (bif decide (0 < D) then s.toNat else (2 * a + 1).toNat) (bif decide (0 < D) then 1 else -a) ++ fAk D s n (a + 1)
theorem fAk_eq (D s : Int) : ∀ (n : Nat) (a : Int), fAk D s n a = fA D s a n := by
  intro n
  induction n with
  | zero => intro b; rfl
  | succ n ih =>
    intro a
    rw [fAk, fz_eq, fA, ih, fBk_eq]
    by_cases c : 0 < D
    · simp only [c, decide_true, cond_true, if_true]
    · simp only [c, decide_false, cond_false, if_false]
def mkWF {α : Type} (nx : Nat → Nat) (i : Nat) (k : List Int → α) : Nat → List Int → Nat → α
  | 0, m, _ => k m
  | f + 1, m, j => fn j fun j => bif decide (m.getD j 0 < 0) then flI (m.set j (i : Int)) (fun m' => mkWF nx i k f m' (nx j)) else k m
theorem mkWF_eq {α : Type} (nx : Nat → Nat) (i : Nat) (k : List Int → α) : ∀ (f : Nat) (m : List Int) (j : Nat), mkWF nx i k f m j = k (mkW nx i f m j) := by
  intro f
  induction f with
  | zero => intro m j; rfl
  | succ f ih =>
    intro m j
    rw [mkWF, fn_eq, mkW]
    by_cases c : m.getD j 0 < 0
    · rw [decide_eq_true c, cond_true, flI_eq, if_pos c, ih]
    · rw [decide_eq_false c, cond_false, if_neg c]
def mkLF {α : Type} (nx : Nat → Nat) (k : List Int → Nat → α) : Nat → Nat → List Int → Nat → α
  | 0, _, m, c => k m c
  | r + 1, i, m, c => fn i fun i => fn c fun c => bif decide (m.getD i 0 < 0) then mkWF nx i (fun m' => mkLF nx k r (i + 1) m' (c + 1)) 161 m i else mkLF nx k r (i + 1) m c
theorem mkLF_eq {α : Type} (nx : Nat → Nat) (k : List Int → Nat → α) : ∀ (r i : Nat) (m : List Int) (c : Nat), mkLF nx k r i m c = k (mkL nx r i m c).1 (mkL nx r i m c).2 := by
  intro r
  induction r with
  | zero => intro i m c; rfl
  | succ r ih =>
    intro i m c
    rw [mkLF, fn_eq, fn_eq, mkL]
    by_cases q : m.getD i 0 < 0
    · rw [decide_eq_true q, cond_true, mkWF_eq, if_pos q, ih]
    · rw [decide_eq_false q, cond_false, if_neg q, ih]
def nxK (D s : Int) (L : List F3) (f : F3) : Int := fz (nxB D s f.2.1 f.2.2) fun b => fdF f.2.2 b 0 L
def chkF (D : Int) : Bool := fz (rtZ D) fun s => flF (fAk D s (bif decide (0 < D) then (2 * s + 1).toNat else s.toNat) (bif decide (0 < D) then -s else 1)) fun L => fn L.length fun n =>
  decide (n < 160) && (!decide (0 < D) || flI (L.map (nxK D s L)) fun M => M.all (fun v => decide (0 ≤ v)) && mkLF (fun j => (M.getD j 0).toNat) (fun m c => decide (c = cyN m 0)) n 0 (List.replicate n (-1)) 0)
theorem chkF_of {D : Int} (h : chkF D = true) : chkL D = true := by
  have e1 : fAk D (rtZ D) (bif decide (0 < D) then (2 * rtZ D + 1).toNat else (rtZ D).toNat) (bif decide (0 < D) then -rtZ D else 1) = LF D := by
    rw [fAk_eq]
    unfold LF
    by_cases c : 0 < D
    · simp only [c, decide_true, cond_true, if_true]
    · simp only [c, decide_false, cond_false, if_false]
  have e2 : ∀ f, nxK D (rtZ D) (LF D) f = fdF (nxF D (rtZ D) f).1 (nxF D (rtZ D) f).2.1 0 (LF D) := fun f => by unfold nxK; rw [fz_eq]; rfl
  have e3 : (fun j => (((LF D).map (nxK D (rtZ D) (LF D))).getD j 0).toNat) = nxi D (LF D) := by
    funext j
    unfold nxi
    rw [List.getD_eq_getElem?_getD, List.getElem?_map]
    cases h : (LF D)[j]? with
    | none => rfl
    | some f => show (nxK D (rtZ D) (LF D) f).toNat = _; rw [e2]
  unfold chkF at h
  simp only [fz_eq, e1, flF_eq, fn_eq, flI_eq, mkLF_eq, e3] at h
  unfold chkL MZ
  rw [Bool.and_eq_true] at h ⊢
  refine ⟨h.1, ?_⟩
  have h2 := h.2
  rw [Bool.or_eq_true] at h2 ⊢
  refine h2.imp id (fun g => ?_)
  rw [Bool.and_eq_true] at g ⊢
  refine ⟨?_, g.2⟩
  rw [List.all_eq_true] at g ⊢
  intro f hf
  have := g.1 (nxK D (rtZ D) (LF D) f) (List.mem_map_of_mem hf)
  rw [e2] at this
  exact this
def chA : Nat → Int → Bool
  | 0, _ => true
  | n + 1, d => (!(fundB d && !psq d) || chkF d) && fz (d + 1) fun d1 => chA n d1
theorem chA_of : ∀ (n : Nat) (d : Int), chA n d = true → ∀ x, d ≤ x → x < d + n → fundB x = true → psq x = false → chkL x = true := by
  intro n
  induction n with
  | zero => intro d _ x h1 h2; omega
  | succ n ih =>
    intro d h x h1 h2 hf hp
    unfold chA at h
    rw [fz_eq, Bool.and_eq_true] at h
    rcases Int.lt_or_eq_of_le h1 with q | q
    · exact ih (d + 1) h.2 x (by omega) (by omega) hf hp
    · subst q
      have := h.1
      rw [hf, hp] at this
      exact chkF_of (by simpa using this)
theorem kfo_0 : chA 50 (-800) = true := by decide +kernel
theorem kfo_1 : chA 50 (-750) = true := by decide +kernel
theorem kfo_2 : chA 50 (-700) = true := by decide +kernel
theorem kfo_3 : chA 50 (-650) = true := by decide +kernel
theorem kfo_4 : chA 50 (-600) = true := by decide +kernel
theorem kfo_5 : chA 50 (-550) = true := by decide +kernel
theorem kfo_6 : chA 50 (-500) = true := by decide +kernel
theorem kfo_7 : chA 50 (-450) = true := by decide +kernel
theorem kfo_8 : chA 50 (-400) = true := by decide +kernel
theorem kfo_9 : chA 50 (-350) = true := by decide +kernel
theorem kfo_10 : chA 50 (-300) = true := by decide +kernel
theorem kfo_11 : chA 50 (-250) = true := by decide +kernel
theorem kfo_12 : chA 50 (-200) = true := by decide +kernel
theorem kfo_13 : chA 50 (-150) = true := by decide +kernel
theorem kfo_14 : chA 50 (-100) = true := by decide +kernel
theorem kfo_15 : chA 50 (-50) = true := by decide +kernel
theorem kfo_16 : chA 50 0 = true := by decide +kernel
theorem kfo_17 : chA 50 50 = true := by decide +kernel
theorem kfo_18 : chA 50 100 = true := by decide +kernel
theorem kfo_19 : chA 50 150 = true := by decide +kernel
theorem kfo_20 : chA 50 200 = true := by decide +kernel
theorem kfo_21 : chA 50 250 = true := by decide +kernel
theorem kfo_22 : chA 50 300 = true := by decide +kernel
theorem kfo_23 : chA 50 350 = true := by decide +kernel
theorem kfo_24 : chA 50 400 = true := by decide +kernel
theorem kfo_25 : chA 50 450 = true := by decide +kernel
theorem kfo_26 : chA 50 500 = true := by decide +kernel
theorem kfo_27 : chA 50 550 = true := by decide +kernel
theorem kfo_28 : chA 50 600 = true := by decide +kernel
theorem kfo_29 : chA 50 650 = true := by decide +kernel
theorem kfo_30 : chA 50 700 = true := by decide +kernel
theorem kfo_31 : chA 50 750 = true := by decide +kernel
theorem kfo_32 : chA 50 800 = true := by decide +kernel
theorem kfo_33 : chA 50 850 = true := by decide +kernel
theorem kfo_34 : chA 50 900 = true := by decide +kernel
theorem kfo_35 : chA 50 950 = true := by decide +kernel
theorem kfo_36 : chA 50 1000 = true := by decide +kernel
theorem kfo_37 : chA 50 1050 = true := by decide +kernel
theorem kfo_38 : chA 50 1100 = true := by decide +kernel
theorem kfo_39 : chA 50 1150 = true := by decide +kernel
theorem kfo_40 : chA 1 1200 = true := by decide +kernel
theorem lok_all {D : Int} (hD : DOK D) (hf : fundB D = true) : chkL D = true := by
  have h1 := hD.1
  have h2 := hD.2.1
  have hp := hD.2.2.2
  by_cases c0 : D < (-750)
  · exact chA_of 50 (-800) kfo_0 D (by omega) (by omega) hf hp
  by_cases c1 : D < (-700)
  · exact chA_of 50 (-750) kfo_1 D (by omega) (by omega) hf hp
  by_cases c2 : D < (-650)
  · exact chA_of 50 (-700) kfo_2 D (by omega) (by omega) hf hp
  by_cases c3 : D < (-600)
  · exact chA_of 50 (-650) kfo_3 D (by omega) (by omega) hf hp
  by_cases c4 : D < (-550)
  · exact chA_of 50 (-600) kfo_4 D (by omega) (by omega) hf hp
  by_cases c5 : D < (-500)
  · exact chA_of 50 (-550) kfo_5 D (by omega) (by omega) hf hp
  by_cases c6 : D < (-450)
  · exact chA_of 50 (-500) kfo_6 D (by omega) (by omega) hf hp
  by_cases c7 : D < (-400)
  · exact chA_of 50 (-450) kfo_7 D (by omega) (by omega) hf hp
  by_cases c8 : D < (-350)
  · exact chA_of 50 (-400) kfo_8 D (by omega) (by omega) hf hp
  by_cases c9 : D < (-300)
  · exact chA_of 50 (-350) kfo_9 D (by omega) (by omega) hf hp
  by_cases c10 : D < (-250)
  · exact chA_of 50 (-300) kfo_10 D (by omega) (by omega) hf hp
  by_cases c11 : D < (-200)
  · exact chA_of 50 (-250) kfo_11 D (by omega) (by omega) hf hp
  by_cases c12 : D < (-150)
  · exact chA_of 50 (-200) kfo_12 D (by omega) (by omega) hf hp
  by_cases c13 : D < (-100)
  · exact chA_of 50 (-150) kfo_13 D (by omega) (by omega) hf hp
  by_cases c14 : D < (-50)
  · exact chA_of 50 (-100) kfo_14 D (by omega) (by omega) hf hp
  by_cases c15 : D < 0
  · exact chA_of 50 (-50) kfo_15 D (by omega) (by omega) hf hp
  by_cases c16 : D < 50
  · exact chA_of 50 0 kfo_16 D (by omega) (by omega) hf hp
  by_cases c17 : D < 100
  · exact chA_of 50 50 kfo_17 D (by omega) (by omega) hf hp
  by_cases c18 : D < 150
  · exact chA_of 50 100 kfo_18 D (by omega) (by omega) hf hp
  by_cases c19 : D < 200
  · exact chA_of 50 150 kfo_19 D (by omega) (by omega) hf hp
  by_cases c20 : D < 250
  · exact chA_of 50 200 kfo_20 D (by omega) (by omega) hf hp
  by_cases c21 : D < 300
  · exact chA_of 50 250 kfo_21 D (by omega) (by omega) hf hp
  by_cases c22 : D < 350
  · exact chA_of 50 300 kfo_22 D (by omega) (by omega) hf hp
  by_cases c23 : D < 400
  · exact chA_of 50 350 kfo_23 D (by omega) (by omega) hf hp
  by_cases c24 : D < 450
  · exact chA_of 50 400 kfo_24 D (by omega) (by omega) hf hp
  by_cases c25 : D < 500
  · exact chA_of 50 450 kfo_25 D (by omega) (by omega) hf hp
  by_cases c26 : D < 550
  · exact chA_of 50 500 kfo_26 D (by omega) (by omega) hf hp
  by_cases c27 : D < 600
  · exact chA_of 50 550 kfo_27 D (by omega) (by omega) hf hp
  by_cases c28 : D < 650
  · exact chA_of 50 600 kfo_28 D (by omega) (by omega) hf hp
  by_cases c29 : D < 700
  · exact chA_of 50 650 kfo_29 D (by omega) (by omega) hf hp
  by_cases c30 : D < 750
  · exact chA_of 50 700 kfo_30 D (by omega) (by omega) hf hp
  by_cases c31 : D < 800
  · exact chA_of 50 750 kfo_31 D (by omega) (by omega) hf hp
  by_cases c32 : D < 850
  · exact chA_of 50 800 kfo_32 D (by omega) (by omega) hf hp
  by_cases c33 : D < 900
  · exact chA_of 50 850 kfo_33 D (by omega) (by omega) hf hp
  by_cases c34 : D < 950
  · exact chA_of 50 900 kfo_34 D (by omega) (by omega) hf hp
  by_cases c35 : D < 1000
  · exact chA_of 50 950 kfo_35 D (by omega) (by omega) hf hp
  by_cases c36 : D < 1050
  · exact chA_of 50 1000 kfo_36 D (by omega) (by omega) hf hp
  by_cases c37 : D < 1100
  · exact chA_of 50 1050 kfo_37 D (by omega) (by omega) hf hp
  by_cases c38 : D < 1150
  · exact chA_of 50 1100 kfo_38 D (by omega) (by omega) hf hp
  by_cases c39 : D < 1200
  · exact chA_of 50 1150 kfo_39 D (by omega) (by omega) hf hp
  by_cases c40 : D < 1201
  · exact chA_of 1 1200 kfo_40 D (by omega) (by omega) hf hp
  omega
