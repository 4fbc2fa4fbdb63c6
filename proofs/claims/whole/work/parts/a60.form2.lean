/-- the list so far, none of it marked -/
def hoN (A : List F3) (I : sa_I) : Prop := hoL A I ∧ ∀ k, k < A.length → I 29 k = -1
def lfI (I I1 : sa_I) : Prop := (∀ q, q ≠ 27 → q ≠ 28 → q ≠ 29 → I1 q = I q) ∧ ∀ t, t ≠ 0 → I1 27 t = I 27 t
theorem lfI.rfl' {I : sa_I} : lfI I I := ⟨fun _ _ _ _ => rfl, fun _ _ => rfl⟩
theorem lfI.tr {I I1 I2 : sa_I} (h : lfI I I1) (g : lfI I1 I2) : lfI I I2 := ⟨fun q a b c => (g.1 q a b c).trans (h.1 q a b c), fun t a => (g.2 t a).trans (h.2 t a)⟩
theorem tdiv_bd {a b A : Int} (h : bd a A) : bd (a.tdiv b) A := by
  have e : (a.tdiv b).natAbs ≤ a.natAbs := by rw [Int.natAbs_tdiv]; exact Nat.div_le_self _ _
  exact ⟨by have := h.1; have := h.2; omega, by have := h.1; have := h.2; omega⟩
theorem get_app {A : List F3} {f : F3} {k : Nat} {g : F3} (h : (A ++ [f])[k]? = some g) : (k < A.length ∧ A[k]? = some g) ∨ (k = A.length ∧ g = f) := by
  rcases Nat.lt_or_ge k A.length with c | c
  · rw [List.getElem?_append_left c] at h; exact Or.inl ⟨c, h⟩
  · rw [List.getElem?_append_right c] at h
    by_cases c2 : k - A.length = 0
    · rw [c2] at h; simp at h; exact Or.inr ⟨by omega, h.symm⟩
    · rw [List.getElem?_eq_none (by simp; omega)] at h; exact absurd h (by simp)
section FP
variable {l : Launch} {DD : va_G} {aI aL : ClassId} {ad : Nat → Nat} {P : sa_P} {I : sa_I} {J : sa_J}
theorem c_listIfReduced {D a b : Int} {A : List F3} (hD : bd D 1200) (ba : bd a 100) (bb : bd b 100) (hA : hoN A I) (h160 : A.length < 160) (m9 : J 27 9 = lI D) (m10 : J 27 10 = lI (rtZ D)) : Con (EC l DD aI aL ad) M_X1_listIfReduced yX1_listIfReduced [.ref (ad 27), .long (lI a), .long (lI b)] I J (fun r I1 J1 => r = none ∧ hoN (A ++ (if okF D a b then [frm D a b] else [])) I1 ∧ lfI I I1 ∧ ffr J J1) := by
  refine Con.of (by decide +kernel) rfl (Nat.le_of_ble_eq_true rfl) ?_
  have ga := bd_rg ba (by decide)
  have gD := bd_rg hD (by decide)
  have bx : bd (b * b - D) 20000 := bd_mono (bd_sub (bd_mul bb bb) hD) (by decide)
  have gx := bd_rg bx (by decide)
  have b4 : bd (4 * a) 400 := bd_mul (A := 4) ⟨by decide, by decide⟩ ba
  have g4 := bd_rg b4 (by decide)
  have bt : bd ((b * b - D).tdiv (4 * a)) 20000 := tdiv_bd bx
  have no : okF D a b = false → hoN (A ++ (if okF D a b then [frm D a b] else [])) I := fun h => by
    rw [h, if_neg (by decide), List.append_nil]; exact hA
  have e4 : (4 : Int64) * lI a = lI (4 * a) := by rw [show (4 : Int64) = lI 4 from rfl, lI_mul]
  refine bX1_listIfReduced_0 (fun c => ?_) (fun c => ?_)
  · have a0 : a = 0 := (lI_eq ga (b := 0) ⟨by omega, by omega⟩).mp c
    exact bX1_listIfReduced_35 ⟨rfl, no (by unfold okF; rw [a0]; rfl), lfI.rfl', ffr.rfl'⟩
  have a0 : a ≠ 0 := fun q => c (by rw [q]; rfl)
  have z4 : ¬ (4 : Int64) * lI a = 0 := by rw [e4]; exact lI_ne0 g4 (by omega)
  refine bX1_listIfReduced_6 (fun c => absurd c (by rw [hA.1.1, nI_lit 160, nJ_le (by omega) (by omega)]; omega)) (fun _ => ?_)
  have ez : lI b * lI b - J 27 9 = lI (b * b - D) := by rw [m9, lI_mul, lI_sub]
  refine bX1_listIfReduced_16 z4 (fun c => ?_) (fun c => ?_)
  rotate_left
  · rw [ez, e4, lI_remS gx g4] at c
    have h0 : ¬ (b * b - D).tmod (4 * a) = 0 := fun q => c (by rw [q]; rfl)
    refine bX1_listIfReduced_35 ⟨rfl, no ?_, lfI.rfl', ffr.rfl'⟩
    unfold okF; simp only [h0, decide_false, Bool.and_false, Bool.false_and]
  rw [ez, e4, lI_remS gx g4] at c
  have h0 : (b * b - D).tmod (4 * a) = 0 := by
    have bm : bd ((b * b - D).tmod (4 * a)) 20000 := by
      have : ((b * b - D).tmod (4 * a)).natAbs ≤ (b * b - D).natAbs := by rw [Int.natAbs_tmod]; exact Nat.mod_le _ _
      exact ⟨by have := bx.1; have := bx.2; omega, by have := bx.1; have := bx.2; omega⟩
    exact (lI_eq (bd_rg bm (by decide)) (b := 0) ⟨by omega, by omega⟩).mp c
  have e12 : sa_uJ (sa_uJ J 27 11 (lI a)) 27 12 (lI b) 27 12 = lI b := sa_uJ_at
  have e9 : sa_uJ (sa_uJ J 27 11 (lI a)) 27 12 (lI b) 27 9 = lI D := by rw [sa_uJ_off (by decide), sa_uJ_off (by decide)]; exact m9
  refine bX1_listIfReduced_36 (v67 := lI ((b * b - D).tdiv (4 * a))) z4 (by rw [e12, e9, lI_mul, lI_sub, e4, lI_divS gx g4]) ?_
  have hfm : fmS D (frm D a b) (sa_uJ (sa_uJ (sa_uJ J 27 11 (lI a)) 27 12 (lI b)) 27 13 (lI ((b * b - D).tdiv (4 * a)))) := by
    refine ⟨?_, ?_, ?_, ?_, ?_⟩
    · rw [sa_uJ_off (by decide)]; exact e9
    · rw [sa_uJ_off (by decide), sa_uJ_off (by decide), sa_uJ_off (by decide)]; exact m10
    · rw [sa_uJ_off (by decide), sa_uJ_off (by decide), sa_uJ_at]; rfl
    · rw [sa_uJ_off (by decide)]; exact e12
    · exact sa_uJ_at
  have fr : ffr J (sa_uJ (sa_uJ (sa_uJ J 27 11 (lI a)) 27 12 (lI b)) 27 13 (lI ((b * b - D).tdiv (4 * a)))) := ((ffr.rfl'.u11).u12).u13
  generalize sa_uJ (sa_uJ (sa_uJ J 27 11 (lI a)) 27 12 (lI b)) 27 13 (lI ((b * b - D).tdiv (4 * a))) = J2 at hfm fr
  have bf : bdF (frm D a b) 100000000 := ⟨bd_mono ba (by decide), bd_mono bb (by decide), bd_mono bt (by decide)⟩
  have ok : okF D a b = rdB D (frm D a b).1 (frm D a b).2.1 (frm D a b).2.2 := by
    unfold okF frm; simp only [h0, a0, decide_true, decide_false, Bool.not_false, Bool.true_and]
  refine v_X1_83 dX1_listIfReduced_71 rfl ⟨rfl, rfl, Nat.le_of_ble_eq_true rfl, Nat.le_of_ble_eq_true rfl⟩ (c_isReduced6 hD bf hfm) rfl rfl (Nat.le_of_ble_eq_true rfl) (fun r I1 J1 hq => ?_)
  obtain ⟨e1, e2, hb⟩ := hq
  obtain rfl := e1.symm
  obtain rfl := e2.symm
  rcases hb with ⟨hb, rfl⟩ | ⟨hb, rfl⟩
  rotate_left
  · refine bX1_listIfReduced_74 (fun _ => bX1_listIfReduced_149 ⟨rfl, no ?_, lfI.rfl', fr⟩) (fun c => absurd rfl c)
    rw [ok]; simpa using hb
  refine bX1_listIfReduced_74 (fun c => absurd c (by decide)) (fun _ => ?_)
  obtain ⟨⟨hn, hk⟩, hmk⟩ := hA
  obtain ⟨_, _, m11, m12, m13⟩ := hfm
  have u28 : ∀ (i : Nat) (v : Int32) (X : sa_I), sa_uI X 28 i v 27 0 = X 27 0 := fun i v X => by rw [sa_uI_ne (by decide)]
  have u29 : ∀ (i : Nat) (v : Int32) (X : sa_I), sa_uI X 29 i v 27 0 = X 27 0 := fun i v X => by rw [sa_uI_ne (by decide)]
  refine bX1_listIfReduced_77 (j86 := 3 * A.length) (v92 := iI a) (j104 := 3 * A.length + 1) (v110 := iI b) (j122 := 3 * A.length + 2) (v128 := iI ((b * b - D).tdiv (4 * a))) (j134 := A.length) (v138 := -1) (v146 := nI (A.length + 1)) (by rw [hn, nI_lit 3, nI_mulE]) (by omega) (by rw [u28, hn, nI_lit 3, nI_lit 1, nI_mulE, nI_addE]) (by omega) (by rw [u28, u28, hn, nI_lit 3, nI_lit 2, nI_mulE, nI_addE]) (by omega) (by rw [u28, u28, u28, hn]) (by omega) (by rw [m11]; exact lI_iI _) (by rw [m12]; exact lI_iI _) (by rw [m13]; exact lI_iI _) rfl (by rw [u29, u28, u28, u28, hn]; exact nI_addE _ 1) ?_
  refine bX1_listIfReduced_149 ⟨rfl, ?_, ⟨fun q a b c => ?_, fun t ht => ?_⟩, fr⟩
  · rw [ok, hb, if_pos rfl]
    refine ⟨⟨?_, fun k f hf => ?_⟩, fun k hk' => ?_⟩
    · rw [sa_uI_at, List.length_append]; rfl
    · rw [sa_uI_ne (by decide), sa_uI_ne (by decide)]
      rcases get_app hf with ⟨kl, hf'⟩ | ⟨rfl, rfl⟩
      · obtain ⟨q1, q2, q3⟩ := hk k f hf'
        refine ⟨?_, ?_, ?_⟩
        · rw [sa_uI_off (by omega), sa_uI_off (by omega), sa_uI_off (by omega)]; exact q1
        · rw [sa_uI_off (by omega), sa_uI_off (by omega), sa_uI_off (by omega)]; exact q2
        · rw [sa_uI_off (by omega), sa_uI_off (by omega), sa_uI_off (by omega)]; exact q3
      · refine ⟨?_, ?_, ?_⟩
        · rw [sa_uI_off (by omega), sa_uI_off (by omega), sa_uI_at]; rfl
        · rw [sa_uI_off (by omega), sa_uI_at]; rfl
        · rw [sa_uI_at]; rfl
    · rw [sa_uI_ne (by decide)]
      by_cases c : k = A.length
      · subst c; exact sa_uI_at
      · rw [sa_uI_off c, sa_uI_ne (by decide), sa_uI_ne (by decide), sa_uI_ne (by decide)]
        rw [List.length_append] at hk'
        exact hmk k (by have : [frm D a b].length = 1 := rfl; omega)
  · rw [sa_uI_ne a, sa_uI_ne c, sa_uI_ne b, sa_uI_ne b, sa_uI_ne b]
  · rw [sa_uI_off ht, sa_uI_ne (by decide), sa_uI_ne (by decide), sa_uI_ne (by decide), sa_uI_ne (by decide)]
end FP
