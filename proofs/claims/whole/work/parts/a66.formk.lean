def flF {α : Type} : List F3 → (List F3 → α) → α
  | [], k => k []
  | f :: L, k => fz f.1 fun a => fz f.2.1 fun b => fz f.2.2 fun c => flF L fun t => k ((a, b, c) :: t)
theorem flF_eq {α : Type} : ∀ (L : List F3) (k : List F3 → α), flF L k = k L := by
  intro L
  induction L with
  | nil => intro k; rfl
  | cons f L ih => intro k; simp only [flF, fz_eq, ih]
def flI {α : Type} : List Int → (List Int → α) → α
  | [], k => k []
  | f :: L, k => fz f fun a => flI L fun t => k (a :: t)
theorem flI_eq {α : Type} : ∀ (L : List Int) (k : List Int → α), flI L k = k L := by
  intro L
  induction L with
  | nil => intro k; rfl
  | cons f L ih => intro k; simp only [flI, fz_eq, ih]
def fBk (D a : Int) : Nat → Int → List F3
  | 0, _ => []
  | n + 1, b => fz b fun b => (bif okF D a b then [frm D a b] else []) ++ fBk D a n (b + 1)
theorem fBk_eq (D a : Int) : ∀ (n : Nat) (b : Int), fBk D a n b = fB D a b n := by
  intro n
  induction n with
  | zero => intro b; rfl
  | succ n ih => intro b; rw [fBk, fz_eq, fB, ih]; cases okF D a b <;> rfl
def fAk (D s : Int) : Nat → Int → List F3
  | 0, _ => []
  | n + 1, a => fz a fun a => fBk D a (bif decide (0 < D) then s.toNat else (2 * a + 1).toNat) (bif decide (0 < D) then 1 else -a) ++ fAk D s n (a + 1)
theorem fAk_eq (D s : Int) : ∀ (n : Nat) (a : Int), fAk D s n a = fA D s a n := by
  intro n
  induction n with
  | zero => intro b; rfl
  | succ n ih =>
    intro a
    rw [fAk, fz_eq, fA, ih, fBk_eq]
    by_cases c : 0 < D
    · simp only [c, decide_true, cond_true, if_true]
    · simp only [c, decide_false, cond_false, if_false]
def mkWF {α : Type} (nx : Nat → Nat) (i : Nat) (k : List Int → α) : Nat → List Int → Nat → α
  | 0, m, _ => k m
  | f + 1, m, j => fn j fun j => bif decide (m.getD j 0 < 0) then flI (m.set j (i : Int)) (fun m' => mkWF nx i k f m' (nx j)) else k m
theorem mkWF_eq {α : Type} (nx : Nat → Nat) (i : Nat) (k : List Int → α) : ∀ (f : Nat) (m : List Int) (j : Nat), mkWF nx i k f m j = k (mkW nx i f m j) := by
  intro f
  induction f with
  | zero => intro m j; rfl
  | succ f ih =>
    intro m j
    rw [mkWF, fn_eq, mkW]
    by_cases c : m.getD j 0 < 0
    · rw [decide_eq_true c, cond_true, flI_eq, if_pos c, ih]
    · rw [decide_eq_false c, cond_false, if_neg c]
def mkLF {α : Type} (nx : Nat → Nat) (k : List Int → Nat → α) : Nat → Nat → List Int → Nat → α
  | 0, _, m, c => k m c
  | r + 1, i, m, c => fn i fun i => fn c fun c => bif decide (m.getD i 0 < 0) then mkWF nx i (fun m' => mkLF nx k r (i + 1) m' (c + 1)) 161 m i else mkLF nx k r (i + 1) m c
theorem mkLF_eq {α : Type} (nx : Nat → Nat) (k : List Int → Nat → α) : ∀ (r i : Nat) (m : List Int) (c : Nat), mkLF nx k r i m c = k (mkL nx r i m c).1 (mkL nx r i m c).2 := by
  intro r
  induction r with
  | zero => intro i m c; rfl
  | succ r ih =>
    intro i m c
    rw [mkLF, fn_eq, fn_eq, mkL]
    by_cases q : m.getD i 0 < 0
    · rw [decide_eq_true q, cond_true, mkWF_eq, if_pos q, ih]
    · rw [decide_eq_false q, cond_false, if_neg q, ih]
def nxK (D s : Int) (L : List F3) (f : F3) : Int := fz (nxB D s f.2.1 f.2.2) fun b => fdF f.2.2 b 0 L
def chkF (D : Int) : Bool := fz (rtZ D) fun s => flF (fAk D s (bif decide (0 < D) then (2 * s + 1).toNat else s.toNat) (bif decide (0 < D) then -s else 1)) fun L => fn L.length fun n =>
  decide (n < 160) && (!decide (0 < D) || flI (L.map (nxK D s L)) fun M => M.all (fun v => decide (0 ≤ v)) && mkLF (fun j => (M.getD j 0).toNat) (fun m c => decide (c = cyN m 0)) n 0 (List.replicate n (-1)) 0)
theorem chkF_of {D : Int} (h : chkF D = true) : chkL D = true := by
  have e1 : fAk D (rtZ D) (bif decide (0 < D) then (2 * rtZ D + 1).toNat else (rtZ D).toNat) (bif decide (0 < D) then -rtZ D else 1) = LF D := by
    rw [fAk_eq]
    unfold LF
    by_cases c : 0 < D
    · simp only [c, decide_true, cond_true, if_true]
    · simp only [c, decide_false, cond_false, if_false]
  have e2 : ∀ f, nxK D (rtZ D) (LF D) f = fdF (nxF D (rtZ D) f).1 (nxF D (rtZ D) f).2.1 0 (LF D) := fun f => by unfold nxK; rw [fz_eq]; rfl
  have e3 : (fun j => (((LF D).map (nxK D (rtZ D) (LF D))).getD j 0).toNat) = nxi D (LF D) := by
    funext j
    unfold nxi
    rw [List.getD_eq_getElem?_getD, List.getElem?_map]
    cases h : (LF D)[j]? with
    | none => rfl
    | some f => show (nxK D (rtZ D) (LF D) f).toNat = _; rw [e2]
  unfold chkF at h
  simp only [fz_eq, e1, flF_eq, fn_eq, flI_eq, mkLF_eq, e3] at h
  unfold chkL MZ
  rw [Bool.and_eq_true] at h ⊢
  refine ⟨h.1, ?_⟩
  have h2 := h.2
  rw [Bool.or_eq_true] at h2 ⊢
  refine h2.imp id (fun g => ?_)
  rw [Bool.and_eq_true] at g ⊢
  refine ⟨?_, g.2⟩
  rw [List.all_eq_true] at g ⊢
  intro f hf
  have := g.1 (nxK D (rtZ D) (LF D) f) (List.mem_map_of_mem hf)
  rw [e2] at this
  exact this
