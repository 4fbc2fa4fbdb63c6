/-- the list in the reference -/
def hoR (L : List F3) (I : sa_I) : Prop := I 0 36 = nI L.length ∧ ∀ k f, L[k]? = some f → I 21 k = iI f.1 ∧ I 22 k = iI f.2.1 ∧ I 23 k = iI f.2.2
def lfR (I I1 : sa_I) : Prop := (∀ q, q ≠ 0 → q ≠ 21 → q ≠ 22 → q ≠ 23 → I1 q = I q) ∧ ∀ t, t ≠ 36 → I1 0 t = I 0 t
theorem lfR.rfl' {I : sa_I} : lfR I I := ⟨fun _ _ _ _ _ => rfl, fun _ _ => rfl⟩
theorem lfR.tr {I I1 I2 : sa_I} (h : lfR I I1) (g : lfR I1 I2) : lfR I I2 := ⟨fun q a b c d => (g.1 q a b c d).trans (h.1 q a b c d), fun t a => (g.2 t a).trans (h.2 t a)⟩
/-- the reference's next form changes these -/
def nfr (J J1 : sa_J) : Prop := (∀ q, q ≠ 0 → J1 q = J q) ∧ ∀ t, t ≠ 42 → t ≠ 43 → t ≠ 44 → J1 0 t = J 0 t
theorem nfr.rfl' {J : sa_J} : nfr J J := ⟨fun _ _ => rfl, fun _ _ _ _ => rfl⟩
theorem nfr.tr {J J1 J2 : sa_J} (h : nfr J J1) (g : nfr J1 J2) : nfr J J2 := ⟨fun q a => (g.1 q a).trans (h.1 q a), fun t a b c => (g.2 t a b c).trans (h.2 t a b c)⟩
def nxS (f : F3) (J : sa_J) : Prop := J 0 42 = lI f.1 ∧ J 0 43 = lI f.2.1 ∧ J 0 44 = lI f.2.2
section FS1
variable {l : Launch} {DD : va_G} {aI aL : ClassId} {ad : Nat → Nat} {P : sa_P} {I : sa_I} {J : sa_J}
theorem c_isReduced7 {D a b : Int} (hD : bd D 1200) (ba : bd a 100000000) (bb : bd b 100000000) (a0 : a ≠ 0) (hp : D < 0 ∨ (0 < D ∧ 0 < b ∧ b * b < D)) (m10 : J 0 10 = lI D) : Con (ER l DD aI aL ad) M_X7_isReduced yX7_isReduced [.ref (ad 0), .long (lI a), .long (lI b)] I J (fun r I1 J1 => I1 = I ∧ J1 = J ∧ bP (rdB D a b ((b * b - D).tdiv (4 * a)) = true) r) := by
  refine Con.of (by decide +kernel) rfl (Nat.le_of_ble_eq_true rfl) ?_
  have gD := bd_rg hD (by decide)
  have ga := bd_rg ba (by decide)
  have gb := bd_rg bb (by decide)
  have bx : bd (b * b - D) 10000000000001200 := bd_sub (bd_mul bb bb) hD
  have gx := bd_rg bx (by decide)
  have b4 : bd (4 * a) 400000000 := bd_mul (A := 4) ⟨by decide, by decide⟩ ba
  have g4 := bd_rg b4 (by decide)
  have bc : bd ((b * b - D).tdiv (4 * a)) 10000000000001200 := tdiv_bd bx
  have e4 : (4 : Int64) * lI a = lI (4 * a) := by rw [show (4 : Int64) = lI 4 from rfl, lI_mul]
  refine bX7_isReduced_0 (v14 := lI ((b * b - D).tdiv (4 * a))) (by rw [e4]; exact lI_ne0 g4 (by omega)) (by rw [m10, lI_mul, lI_sub, e4, lI_divS gx g4]) (fun d => ?_) (fun d => ?_)
  rotate_left
  · rw [m10, show (0 : Int64) = lI 0 from rfl, lI_le ⟨by omega, by omega⟩ gD] at d
    have hd : D < 0 := by omega
    generalize (b * b - D).tdiv (4 * a) = c at bc
    have gc := bd_rg bc (by decide)
    have key : rdB D a b c = true ↔ (((b.natAbs : Nat) : Int) ≤ a ∧ a ≤ c ∧ (0 ≤ b ∨ (-b ≠ a ∧ a ≠ c))) := by
      unfold rdB
      rw [if_pos hd]
      simp only [Bool.and_eq_true, Bool.or_eq_true, decide_eq_true_eq, Bool.not_eq_true', decide_eq_false_iff_not, and_assoc, ne_eq]
    have no : ¬ rdB D a b c = true → Sat (ER l DD aI aL ad) M_X7_isReduced (fun r I1 J1 => I1 = I ∧ J1 = J ∧ bP (rdB D a b c = true) r) 65 [] [] I J := fun h => bX7_isReduced_65 (bX7_isReduced_66 rfl ⟨rfl, rfl, Or.inr ⟨h, rfl⟩⟩)
    have yes : rdB D a b c = true → Sat (ER l DD aI aL ad) M_X7_isReduced (fun r I1 J1 => I1 = I ∧ J1 = J ∧ bP (rdB D a b c = true) r) 61 [] [] I J := fun h => bX7_isReduced_61 (bX7_isReduced_66 rfl ⟨rfl, rfl, Or.inl ⟨h, rfl⟩⟩)
    refine bX7_isReduced_25 (fun c1 => no ?_) (fun c1 => bX7_isReduced_32 ?_)
    · rw [lI_lt gc ga] at c1; rw [key]; rintro ⟨_, h, _⟩; omega
    rw [lI_lt gc ga] at c1
    refine v_X7_90 dX7_isReduced_33 rfl ⟨rfl, rfl, Nat.le_of_ble_eq_true rfl, Nat.le_of_ble_eq_true rfl⟩ (c_abs gb (by have := bb.1; omega)) rfl rfl (Nat.le_of_ble_eq_true rfl) (fun r I1 J1 hq => ?_)
    obtain ⟨rfl, e1, e2⟩ := hq
    obtain rfl := e1.symm
    obtain rfl := e2.symm
    have gab := bd_rg (bdAbs bb) (by decide)
    refine bX7_isReduced_36 (fun c2 => no ?_) (fun c2 => ?_)
    · rw [lI_lt ga gab] at c2; rw [key]; rintro ⟨h, _⟩; omega
    rw [lI_lt ga gab] at c2
    refine bX7_isReduced_41 (fun c3 => yes ?_) (fun c3 => ?_)
    · rw [show (0 : Int64) = lI 0 from rfl, lI_le ⟨by omega, by omega⟩ gb] at c3
      rw [key]; exact ⟨by omega, by omega, Or.inl c3⟩
    rw [show (0 : Int64) = lI 0 from rfl, lI_le ⟨by omega, by omega⟩ gb] at c3
    have gnb : rg (-b) := ⟨by have := bb.2; omega, by have := bb.1; omega⟩
    refine bX7_isReduced_47 (fun c4 => no ?_) (fun c4 => ?_)
    · rw [lI_neg, lI_le ga gnb] at c4; rw [key]; rintro ⟨h, _, h1 | h1⟩
      · omega
      · exact h1.1 (by omega)
    rw [lI_neg, lI_le ga gnb] at c4
    refine bX7_isReduced_54 (fun c5 => no ?_) (fun c5 => yes ?_)
    · rw [lI_le gc ga] at c5; rw [key]; rintro ⟨_, h, h1 | h1⟩
      · omega
      · exact h1.2 (by omega)
    · rw [lI_le gc ga] at c5; rw [key]; exact ⟨by omega, by omega, Or.inr ⟨by omega, by omega⟩⟩
  rw [m10, show (0 : Int64) = lI 0 from rfl, lI_le ⟨by omega, by omega⟩ gD] at d
  obtain ⟨d0, b0, bbD⟩ := hp.resolve_left (by omega)
  generalize (b * b - D).tdiv (4 * a) = c at bc
  have key : rdB D a b c = true ↔ (D < (2 * ((a.natAbs : Nat) : Int) + b) * (2 * ((a.natAbs : Nat) : Int) + b) ∧ (2 * ((a.natAbs : Nat) : Int) ≤ b ∨ (2 * ((a.natAbs : Nat) : Int) - b) * (2 * ((a.natAbs : Nat) : Int) - b) < D) ∧ 0 < b ∧ b * b < D) := by
    unfold rdB
    rw [if_neg (by omega)]
    simp only [Bool.and_eq_true, Bool.or_eq_true, decide_eq_true_eq, and_assoc]
  refine bX7_isReduced_67 ?_
  refine v_X7_90 dX7_isReduced_71 rfl ⟨rfl, rfl, Nat.le_of_ble_eq_true rfl, Nat.le_of_ble_eq_true rfl⟩ (c_abs ga (by have := ba.1; omega)) rfl rfl (Nat.le_of_ble_eq_true rfl) (fun r I1 J1 hq => ?_)
  obtain ⟨rfl, e1, e2⟩ := hq
  obtain rfl := e1.symm
  obtain rfl := e2.symm
  have bt : bd (2 * ((a.natAbs : Nat) : Int)) 200000000 := by have := bdAbs ba; exact ⟨by have := this.1; omega, by have := this.2; omega⟩
  have e87 : (2 : Int64) * lI ((a.natAbs : Nat) : Int) = lI (2 * ((a.natAbs : Nat) : Int)) := by rw [show (2 : Int64) = lI 2 from rfl, lI_mul]
  obtain ⟨t, ht⟩ : ∃ t, t = 2 * ((a.natAbs : Nat) : Int) := ⟨_, rfl⟩
  rw [← ht] at bt key e87
  have gp := bd_rg (bd_mul (bd_add bt bb) (bd_add bt bb)) (by decide)
  have gm := bd_rg (bd_mul (bd_sub bt bb) (bd_sub bt bb)) (by decide)
  have no : ¬ rdB D a b c = true → Sat (ER l DD aI aL ad) M_X7_isReduced (fun r I1 J1 => I1 = I ∧ J1 = J ∧ bP (rdB D a b c = true) r) 122 [] [] I J := fun h => bX7_isReduced_122 (bX7_isReduced_123 rfl ⟨rfl, rfl, Or.inr ⟨h, rfl⟩⟩)
  have yes : rdB D a b c = true → Sat (ER l DD aI aL ad) M_X7_isReduced (fun r I1 J1 => I1 = I ∧ J1 = J ∧ bP (rdB D a b c = true) r) 118 [] [] I J := fun h => bX7_isReduced_118 (bX7_isReduced_123 rfl ⟨rfl, rfl, Or.inl ⟨h, rfl⟩⟩)
  refine bX7_isReduced_74 (v75 := lI t) e87 (fun c1 => no ?_) (fun c1 => ?_)
  · rw [m10, lI_add, lI_mul, lI_le gp gD] at c1; rw [key]; rintro ⟨h, _⟩; omega
  rw [m10, lI_add, lI_mul, lI_le gp gD] at c1
  refine bX7_isReduced_94 (fun c2 => yes ?_) (fun c2 => ?_)
  · rw [lI_lt (bd_rg bt (by decide)) gb] at c2; rw [key]; exact ⟨by omega, Or.inl (by omega), b0, bbD⟩
  rw [lI_lt (bd_rg bt (by decide)) gb] at c2
  refine bX7_isReduced_101 (fun c3 => no ?_) (fun c3 => yes ?_)
  · rw [m10, lI_sub, lI_mul, lI_le gD gm] at c3; rw [key]; rintro ⟨_, h | h, _⟩
    · have e : t - b = 0 := by omega
      rw [e] at c3; omega
    · omega
  · rw [m10, lI_sub, lI_mul, lI_le gD gm] at c3; rw [key]; exact ⟨by omega, Or.inr (by omega), b0, bbD⟩
theorem c_holdsForm {D a b : Int} {A : List F3} (hD : bd D 1200) (ba : bd a 100) (bb : bd b 100) (a0 : a ≠ 0) (hA : hoR A I) (hl : A.length < 3000) (m10 : J 0 10 = lI D) : Con (ER l DD aI aL ad) M_X7_holdsForm yX7_holdsForm [.ref (ad 0), .long (lI a), .long (lI b)] I J (fun r I1 J1 => r = none ∧ hoR (A ++ [frm D a b]) I1 ∧ lfR I I1 ∧ J1 = J) := by
  refine Con.of (by decide +kernel) rfl (Nat.le_of_ble_eq_true rfl) ?_
  have bx : bd (b * b - D) 20000 := bd_mono (bd_sub (bd_mul bb bb) hD) (by decide)
  have b4 : bd (4 * a) 400 := bd_mul (A := 4) ⟨by decide, by decide⟩ ba
  have g4 := bd_rg b4 (by decide)
  have e4 : (4 : Int64) * lI a = lI (4 * a) := by rw [show (4 : Int64) = lI 4 from rfl, lI_mul]
  obtain ⟨hn, hk⟩ := hA
  have u : ∀ (q i : Nat) (v : Int32) (X : sa_I), q ≠ 0 → sa_uI X q i v 0 36 = X 0 36 := fun q i v X h => by rw [sa_uI_ne (Ne.symm h)]
  refine bX7_holdsForm_0 (j5 := A.length) (v10 := iI a) (j16 := A.length) (v21 := iI b) (j27 := A.length) (v45 := iI ((b * b - D).tdiv (4 * a))) (v53 := nI (A.length + 1)) hn (by omega) (by rw [u 21 _ _ _ (by decide)]; exact hn) (by omega) (by rw [u 22 _ _ _ (by decide), u 21 _ _ _ (by decide)]; exact hn) (by rw [e4]; exact lI_ne0 g4 (by omega)) (by omega) (lI_iI _) (lI_iI _) (by rw [m10, lI_mul, lI_sub, e4, lI_divS (bd_rg bx (by decide)) g4]; exact lI_iI _) (by rw [u 23 _ _ _ (by decide), u 22 _ _ _ (by decide), u 21 _ _ _ (by decide), hn]; exact nI_addE _ 1) ⟨rfl, ⟨?_, fun k f hf => ?_⟩, ⟨fun q a b c d => ?_, fun t ht => ?_⟩, rfl⟩
  · rw [sa_uI_at, List.length_append]; rfl
  · rcases get_app hf with ⟨kl, hf'⟩ | ⟨rfl, rfl⟩
    · obtain ⟨q1, q2, q3⟩ := hk k f hf'
      refine ⟨?_, ?_, ?_⟩
      · rw [sa_uI_ne (by decide), sa_uI_ne (by decide), sa_uI_ne (by decide), sa_uI_off (by omega)]; exact q1
      · rw [sa_uI_ne (by decide), sa_uI_ne (by decide), sa_uI_off (by omega), sa_uI_ne (by decide)]; exact q2
      · rw [sa_uI_ne (by decide), sa_uI_off (by omega), sa_uI_ne (by decide), sa_uI_ne (by decide)]; exact q3
    · refine ⟨?_, ?_, ?_⟩
      · rw [sa_uI_ne (by decide), sa_uI_ne (by decide), sa_uI_ne (by decide), sa_uI_at]; rfl
      · rw [sa_uI_ne (by decide), sa_uI_ne (by decide), sa_uI_at]; rfl
      · rw [sa_uI_ne (by decide), sa_uI_at]; rfl
  · rw [sa_uI_ne a, sa_uI_ne d, sa_uI_ne c, sa_uI_ne b]
  · rw [sa_uI_off ht, sa_uI_ne (by decide), sa_uI_ne (by decide), sa_uI_ne (by decide)]
theorem fid_loop {L : List F3} (hb : bdL L) (hL : hoR L I) {a b : Int} (ba : bd a 100000000) (bb : bd b 100000000) : ∀ (M : List F3) (k : Nat), L.drop k = M → k ≤ L.length → P (some (.int (iI (fdF a b k M)))) I J → Sat (ER l DD aI aL ad) M_X7_find P 3 [(0, .ref (ad 0)), (1, .long (lI a)), (3, .long (lI b)), (5, .int (nI k))] [] I J := by
  intro M
  have h160 := hb.1
  induction M with
  | nil =>
    intro k e hk hP
    have : L.length ≤ k := List.drop_eq_nil_iff.mp e
    exact bX7_find_3 (fun _ => bX7_find_47 hP) (fun c => absurd (by rw [hL.1, nJ_le (by omega) (by omega)]; omega) c)
  | cons f M ih =>
    intro k e hk hP
    have kl : k < L.length := by
      rcases Nat.lt_or_ge k L.length with c | c
      · exact c
      · rw [List.drop_eq_nil_iff.mpr c] at e; exact absurd e (by simp)
    have hf : L[k]? = some f := by
      have := List.getElem?_drop (xs := L) (i := k) (j := 0)
      rw [e] at this; simpa using this.symm
    have hm := hb.2 f (List.mem_of_getElem? hf)
    obtain ⟨n1, n2, n3⟩ := hL.2 k f hf
    have e2 : L.drop (k + 1) = M := by rw [← List.drop_drop, e]; rfl
    have g1 : (I 21 k).toInt64 = lI f.1 := by rw [n1]; exact iI_lI ⟨by have := hm.1.1; omega, by have := hm.1.2; omega⟩
    have g2 : (I 22 k).toInt64 = lI f.2.1 := by rw [n2]; exact iI_lI ⟨by have := hm.2.1.1; omega, by have := hm.2.1.2; omega⟩
    have nx : ¬ (f.1 = a ∧ f.2.1 = b) → Sat (ER l DD aI aL ad) M_X7_find P 41 [(0, .ref (ad 0)), (1, .long (lI a)), (3, .long (lI b)), (5, .int (nI k))] [] I J := by
      intro hn
      rw [fdF, if_neg hn] at hP
      exact bX7_find_41 (v41 := nI (k + 1)) (nI_addE k 1) (ih (k + 1) e2 (by omega) hP)
    refine bX7_find_3 (fun c => absurd c (by rw [hL.1, nJ_le (by omega) (by omega)]; omega)) (fun _ => ?_)
    refine bX7_find_12 (j16 := k) rfl (by omega) (fun c => ?_) (fun c => ?_)
    · rw [g1, lI_eq (bd_rg hm.1 (by decide)) (bd_rg ba (by decide))] at c
      exact nx (fun q => c q.1)
    rw [g1, lI_eq (bd_rg hm.1 (by decide)) (bd_rg ba (by decide))] at c
    refine bX7_find_25 (j29 := k) rfl (by omega) (fun c2 => ?_) (fun c2 => ?_)
    · rw [g2, lI_eq (bd_rg hm.2.1 (by decide)) (bd_rg bb (by decide))] at c2
      exact nx (fun q => c2 q.2)
    rw [g2, lI_eq (bd_rg hm.2.1 (by decide)) (bd_rg bb (by decide))] at c2
    rw [fdF, if_pos ⟨c, c2⟩] at hP
    exact bX7_find_38 hP
theorem c_find7 {L : List F3} (hb : bdL L) (hL : hoR L I) {a b : Int} (ba : bd a 100000000) (bb : bd b 100000000) : Con (ER l DD aI aL ad) M_X7_find yX7_find [.ref (ad 0), .long (lI a), .long (lI b)] I J (p_i (iI (fdF a b 0 L)) I J) := by
  refine Con.of (by decide +kernel) rfl (Nat.le_of_ble_eq_true rfl) ?_
  exact bX7_find_0 (v1 := nI 0) rfl (fid_loop hb hL ba bb L 0 rfl (Nat.zero_le _) ⟨rfl, rfl, rfl⟩)
theorem c_follows {D : Int} {f : F3} (hD : bd D 1200) (hf : bdF f 100000000) (h0 : f.2.2 ≠ 0) (m10 : J 0 10 = lI D) (m41 : J 0 41 = lI (rtZ D)) : Con (ER l DD aI aL ad) M_X7_follows yX7_follows [.ref (ad 0), .long (lI f.1), .long (lI f.2.1), .long (lI f.2.2)] I J (fun r I1 J1 => r = none ∧ I1 = I ∧ nxS (nxF D (rtZ D) f) J1 ∧ nfr J J1) := by
  refine Con.of (by decide +kernel) rfl (Nat.le_of_ble_eq_true rfl) ?_
  obtain ⟨ba, bb, bc⟩ := hf
  obtain ⟨a, b, c⟩ := f
  dsimp only at ba bb bc h0 ⊢
  have gD := bd_rg hD (by decide)
  have gc := bd_rg bc (by decide)
  have hs := isq_le hD
  have bac := bdAbs bc
  have gac := bd_rg bac (by decide)
  have bx := nxB_bd (D := D) (b := b) hs bc h0
  have bw : bd (2 * ((c.natAbs : Nat) : Int)) 200000000 := ⟨by have := bac.1; omega, by have := bac.2; omega⟩
  have w0 : 0 < 2 * ((c.natAbs : Nat) : Int) := by omega
  have b4 : bd (4 * c) 400000000 := bd_mul (A := 4) ⟨by decide, by decide⟩ bc
  have g4 := bd_rg b4 (by decide)
  have e4 : (4 : Int64) * lI c = lI (4 * c) := by rw [show (4 : Int64) = lI 4 from rfl, lI_mul]
  have fin : ∀ {v : Int}, v = nxB D (rtZ D) b c → Sat (ER l DD aI aL ad) M_X7_follows (fun r I1 J1 => r = none ∧ I1 = I ∧ nxS (nxF D (rtZ D) (a, b, c)) J1 ∧ nfr J J1) 77 [(0, .ref (ad 0)), (5, .long (lI c)), (9, .long (lI v))] [] I J := by
    intro v hv
    subst hv
    have e10 : sa_uJ (sa_uJ J 0 42 (lI c)) 0 43 (lI (nxB D (rtZ D) b c)) 0 10 = lI D := by rw [sa_uJ_off (by decide), sa_uJ_off (by decide)]; exact m10
    refine bX7_follows_77 (v107 := lI ((nxB D (rtZ D) b c * nxB D (rtZ D) b c - D).tdiv (4 * c))) (by rw [e4]; exact lI_ne0 g4 (by omega)) (by rw [e10, lI_mul, lI_sub, e4, lI_divS (bd_rg (bd_sub (bd_mul bx bx) hD) (by decide)) g4]) ⟨rfl, rfl, ⟨?_, ?_, ?_⟩, ⟨fun q h => by rw [sa_uJ_ne h, sa_uJ_ne h, sa_uJ_ne h], fun t x y z => by rw [sa_uJ_off z, sa_uJ_off y, sa_uJ_off x]⟩⟩
    · rw [sa_uJ_off (by decide), sa_uJ_off (by decide), sa_uJ_at]; rfl
    · rw [sa_uJ_off (by decide), sa_uJ_at]; rfl
    · rw [sa_uJ_at]; rfl
  refine bX7_follows_0 ?_
  refine v_X7_90 dX7_follows_2 rfl ⟨rfl, rfl, Nat.le_of_ble_eq_true rfl, Nat.le_of_ble_eq_true rfl⟩ (c_abs gc (by have := bc.1; omega)) rfl rfl (Nat.le_of_ble_eq_true rfl) (fun r I1 J1 hq => ?_)
  obtain ⟨rfl, e1, e2⟩ := hq
  obtain rfl := e1.symm
  obtain rfl := e2.symm
  have gcc := bd_rg (bd_mul bac bac) (by decide)
  refine bX7_follows_5 ?_
  rw [lI_neg, show (2 : Int64) = lI 2 from rfl, lI_mul]
  refine v_X7_155 dX7_follows_15 rfl ⟨rfl, rfl, Nat.le_of_ble_eq_true rfl, Nat.le_of_ble_eq_true rfl⟩ (c_floorMod (a := -b) (b := 2 * ((c.natAbs : Nat) : Int)) ⟨by have := bb.2; omega, by have := bb.1; omega⟩ (bd_rg bw (by decide)) w0) rfl rfl (Nat.le_of_ble_eq_true rfl) (fun r I1 J1 hq => ?_)
  obtain ⟨rfl, e1, e2⟩ := hq
  obtain rfl := e1.symm
  obtain rfl := e2.symm
  have a3 := Int.emod_nonneg (-b) (show 2 * ((c.natAbs : Nat) : Int) ≠ 0 by omega)
  have a4 := Int.emod_lt_of_pos (-b) w0
  have w1 := bw.2
  have gm : rg ((-b) % (2 * ((c.natAbs : Nat) : Int))) := ⟨by omega, by omega⟩
  refine bX7_follows_18 (fun q => ?_) (fun q => bX7_follows_33 ?_)
  · rw [m10, lI_mul, lI_le gD gcc] at q
    refine bX7_follows_58 (fun q2 => fin ?_) (fun q2 => bX7_follows_66 (v75 := lI ((-b) % (2 * ((c.natAbs : Nat) : Int)) - 2 * ((c.natAbs : Nat) : Int))) (by rw [show (2 : Int64) = lI 2 from rfl, lI_mul, lI_sub]) (fin ?_))
    · rw [lI_le gm gac] at q2
      unfold nxB; rw [if_neg (by omega), if_neg (by omega)]
    · rw [lI_le gm gac] at q2
      unfold nxB; rw [if_neg (by omega), if_pos (by omega)]
  · rw [m10, lI_mul, lI_le gD gcc] at q
    rw [m41, lI_add, show (2 : Int64) = lI 2 from rfl, lI_mul]
    refine v_X7_155 dX7_follows_49 rfl ⟨rfl, rfl, Nat.le_of_ble_eq_true rfl, Nat.le_of_ble_eq_true rfl⟩ (c_floorMod (a := rtZ D + b) (b := 2 * ((c.natAbs : Nat) : Int)) (bd_rg (bd_add hs bb) (by decide)) (bd_rg bw (by decide)) w0) rfl rfl (Nat.le_of_ble_eq_true rfl) (fun r I1 J1 hq => ?_)
    obtain ⟨rfl, e1, e2⟩ := hq
    obtain rfl := e1.symm
    obtain rfl := e2.symm
    refine bX7_follows_52 (v53 := lI (rtZ D - (rtZ D + b) % (2 * ((c.natAbs : Nat) : Int)))) (lI_sub _ _) (fin ?_)
    unfold nxB; rw [if_pos (by omega)]
end FS1
