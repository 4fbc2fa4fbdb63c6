theorem lI_divS {a b : Int} (ha : rg a) (hb : rg b) : lI a / lI b = lI (a.tdiv b) := by
  apply Int64.toInt_inj.mp
  rw [Int64.toInt_div, lI_toInt ha, lI_toInt hb]
  unfold lI
  rw [Int64.toInt_ofInt]
theorem lI_remS {a b : Int} (ha : rg a) (hb : rg b) : lI a - lI a / lI b * lI b = lI (a.tmod b) := by
  rw [lI_divS ha hb, lI_mul, lI_sub]
  congr 1
  have := Int.tmod_def a b
  rw [this, Int.mul_comm]
/-- the form at hand in the class -/
def fmS (D : Int) (f : F3) (J : sa_J) : Prop := J 27 9 = lI D ∧ J 27 10 = lI (rtZ D) ∧ J 27 11 = lI f.1 ∧ J 27 12 = lI f.2.1 ∧ J 27 13 = lI f.2.2
def ffr (J J1 : sa_J) : Prop := (∀ q, q ≠ 27 → J1 q = J q) ∧ ∀ t, t ≠ 11 → t ≠ 12 → t ≠ 13 → J1 27 t = J 27 t
theorem ffr.rfl' {J : sa_J} : ffr J J := ⟨fun _ _ => rfl, fun _ _ _ _ => rfl⟩
theorem ffr.tr {J J1 J2 : sa_J} (h : ffr J J1) (g : ffr J1 J2) : ffr J J2 := ⟨fun q a => (g.1 q a).trans (h.1 q a), fun t a b c => (g.2 t a b c).trans (h.2 t a b c)⟩
theorem ffr.u11 {J J1 : sa_J} {x : Int64} (h : ffr J J1) : ffr J (sa_uJ J1 27 11 x) := ⟨fun q a => by rw [sa_uJ_ne a]; exact h.1 q a, fun t a b c => by rw [sa_uJ_off a]; exact h.2 t a b c⟩
theorem ffr.u12 {J J1 : sa_J} {x : Int64} (h : ffr J J1) : ffr J (sa_uJ J1 27 12 x) := ⟨fun q a => by rw [sa_uJ_ne a]; exact h.1 q a, fun t a b c => by rw [sa_uJ_off b]; exact h.2 t a b c⟩
theorem ffr.u13 {J J1 : sa_J} {x : Int64} (h : ffr J J1) : ffr J (sa_uJ J1 27 13 x) := ⟨fun q a => by rw [sa_uJ_ne a]; exact h.1 q a, fun t a b c => by rw [sa_uJ_off c]; exact h.2 t a b c⟩
def bdF (f : F3) (B : Int) : Prop := bd f.1 B ∧ bd f.2.1 B ∧ bd f.2.2 B
theorem bdAbs {a A : Int} (h : bd a A) : bd ((a.natAbs : Nat) : Int) A := ⟨by have := h.1; have := h.2; omega, by have := h.1; have := h.2; omega⟩
theorem isq_le {D : Int} (h : bd D 1200) : bd (rtZ D) 34 := by
  have hb : ((D.natAbs : Nat) : Int) ≤ 1200 := by have := h.1; have := h.2; omega
  have lo : rtZ D * rtZ D ≤ ((D.natAbs : Nat) : Int) := isq_lo (x := ((D.natAbs : Nat) : Int)) 1000 0 (by show (0 : Int) * 0 ≤ _; omega)
  have n0 : 0 ≤ rtZ D := by unfold rtZ; omega
  refine ⟨by omega, ?_⟩
  rcases Int.lt_or_le 34 (rtZ D) with c | c
  · have : 35 * 35 ≤ rtZ D * rtZ D := Int.mul_le_mul (by omega) (by omega) (by omega) (by omega)
    omega
  · exact c
section FO
variable {l : Launch} {DD : va_G} {aI aL : ClassId} {ad : Nat → Nat} {P : sa_P} {I : sa_I} {J : sa_J} {E : sa_E}
theorem c_partS {a b : Int} (ha : rg a) (hb : rg b) (h0 : b ≠ 0) : Con E M_X6_part yX6_part [.long (lI a), .long (lI b)] I J (p_l (lI (a.tdiv b)) I J) := by
  refine Con.of (by decide +kernel) rfl (Nat.le_of_ble_eq_true rfl) ?_
  have hz : ¬ lI b = 0 := lI_ne0 hb h0
  exact bX6_part_0 (fun _ => bX6_part_10 hz (bX6_part_13 ⟨by rw [lI_divS ha hb], rfl, rfl⟩)) (fun c => absurd c hz)
theorem c_isReduced6 {D : Int} {f : F3} (hD : bd D 1200) (hf : bdF f 100000000) (hm : fmS D f J) : Con (EC l DD aI aL ad) M_X1_isReduced yX1_isReduced [.ref (ad 27)] I J (fun r I1 J1 => I1 = I ∧ J1 = J ∧ bP (rdB D f.1 f.2.1 f.2.2 = true) r) := by
  refine Con.of (by decide +kernel) rfl (Nat.le_of_ble_eq_true rfl) ?_
  obtain ⟨m9, m10, m11, m12, m13⟩ := hm
  obtain ⟨ba, bb, bc⟩ := hf
  obtain ⟨a, b, c⟩ := f
  dsimp only at ba bb bc m11 m12 m13 ⊢
  have gD := bd_rg hD (by decide)
  have ga := bd_rg ba (by decide)
  have gb := bd_rg bb (by decide)
  have gc := bd_rg bc (by decide)
  have yes : rdB D a b c = true → Sat (EC l DD aI aL ad) M_X1_isReduced (fun r I1 J1 => I1 = I ∧ J1 = J ∧ bP (rdB D a b c = true) r) 75 [] [.int 1] I J := fun h => bX1_isReduced_75 rfl ⟨rfl, rfl, Or.inl ⟨h, rfl⟩⟩
  have no : ¬ rdB D a b c = true → Sat (EC l DD aI aL ad) M_X1_isReduced (fun r I1 J1 => I1 = I ∧ J1 = J ∧ bP (rdB D a b c = true) r) 74 [] [] I J := fun h => bX1_isReduced_74 (bX1_isReduced_75 rfl ⟨rfl, rfl, Or.inr ⟨h, rfl⟩⟩)
  refine bX1_isReduced_0 (fun d => ?_) (fun d => ?_)
  rotate_left
  · rw [m9, show (0 : Int64) = lI 0 from rfl, lI_le ⟨by omega, by omega⟩ gD] at d
    have hd : D < 0 := by omega
    have key : rdB D a b c = true ↔ (((b.natAbs : Nat) : Int) ≤ a ∧ a ≤ c ∧ (0 ≤ b ∨ (-b ≠ a ∧ a ≠ c))) := by
      unfold rdB
      rw [if_pos hd]
      simp only [Bool.and_eq_true, Bool.or_eq_true, decide_eq_true_eq, Bool.not_eq_true', decide_eq_false_iff_not, and_assoc, ne_eq]
    refine bX1_isReduced_9 ?_
    rw [m12]
    refine v_X1_50 dX1_isReduced_13 rfl ⟨rfl, rfl, Nat.le_of_ble_eq_true rfl, Nat.le_of_ble_eq_true rfl⟩ (c_abs gb (by have := bb.1; omega)) rfl rfl (Nat.le_of_ble_eq_true rfl) (fun r I1 J1 hq => ?_)
    obtain ⟨rfl, e1, e2⟩ := hq
    obtain rfl := e1.symm
    obtain rfl := e2.symm
    have gab := bd_rg (bdAbs bb) (by decide)
    refine bX1_isReduced_16 (fun c1 => no ?_) (fun c1 => ?_)
    · rw [m11, lI_lt ga gab] at c1
      rw [key]; rintro ⟨h1, _⟩; omega
    rw [m11, lI_lt ga gab] at c1
    refine bX1_isReduced_24 (fun c2 => no ?_) (fun c2 => ?_)
    · rw [m11, m13, lI_lt gc ga] at c2
      rw [key]; rintro ⟨_, h1, _⟩; omega
    rw [m11, m13, lI_lt gc ga] at c2
    refine bX1_isReduced_36 (fun c3 => bX1_isReduced_70 (yes ?_)) (fun c3 => ?_)
    · rw [m12, show (0 : Int64) = lI 0 from rfl, lI_le ⟨by omega, by omega⟩ gb] at c3
      rw [key]; exact ⟨by omega, by omega, Or.inl c3⟩
    rw [m12, show (0 : Int64) = lI 0 from rfl, lI_le ⟨by omega, by omega⟩ gb] at c3
    have gnb : rg (-b) := ⟨by have := bb.2; omega, by have := bb.1; omega⟩
    refine bX1_isReduced_45 (fun c4 => no ?_) (fun c4 => ?_)
    · rw [m11, m12, lI_neg, lI_eq gnb ga] at c4
      rw [key]; rintro ⟨_, _, h1 | h1⟩
      · omega
      · exact h1.1 c4
    rw [m11, m12, lI_neg, lI_eq gnb ga] at c4
    refine bX1_isReduced_58 (fun c5 => no ?_) (fun c5 => bX1_isReduced_70 (yes ?_))
    · rw [m11, m13, lI_eq ga gc] at c5
      rw [key]; rintro ⟨_, _, h1 | h1⟩
      · omega
      · exact h1.2 c5
    · rw [m11, m13, lI_eq ga gc] at c5
      rw [key]; exact ⟨by omega, by omega, Or.inr ⟨c4, c5⟩⟩
  rw [m9, show (0 : Int64) = lI 0 from rfl, lI_le ⟨by omega, by omega⟩ gD] at d
  have hd : ¬ D < 0 := by omega
  have key : rdB D a b c = true ↔ (D < (2 * ((a.natAbs : Nat) : Int) + b) * (2 * ((a.natAbs : Nat) : Int) + b) ∧ (2 * ((a.natAbs : Nat) : Int) ≤ b ∨ (2 * ((a.natAbs : Nat) : Int) - b) * (2 * ((a.natAbs : Nat) : Int) - b) < D) ∧ 0 < b ∧ b * b < D) := by
    unfold rdB
    rw [if_neg hd]
    simp only [Bool.and_eq_true, Bool.or_eq_true, decide_eq_true_eq, and_assoc]
  refine bX1_isReduced_76 ?_
  rw [m11]
  refine v_X1_50 dX1_isReduced_83 rfl ⟨rfl, rfl, Nat.le_of_ble_eq_true rfl, Nat.le_of_ble_eq_true rfl⟩ (c_abs ga (by have := ba.1; omega)) rfl rfl (Nat.le_of_ble_eq_true rfl) (fun r I1 J1 hq => ?_)
  obtain ⟨rfl, e1, e2⟩ := hq
  obtain rfl := e1.symm
  obtain rfl := e2.symm
  have bt : bd (2 * ((a.natAbs : Nat) : Int)) 200000000 := by have := bdAbs ba; exact ⟨by have := this.1; omega, by have := this.2; omega⟩
  have e87 : (2 : Int64) * lI ((a.natAbs : Nat) : Int) = lI (2 * ((a.natAbs : Nat) : Int)) := by rw [show (2 : Int64) = lI 2 from rfl, lI_mul]
  obtain ⟨t, ht⟩ : ∃ t, t = 2 * ((a.natAbs : Nat) : Int) := ⟨_, rfl⟩
  rw [← ht] at bt key e87
  have gp := bd_rg (bd_mul (bd_add bt bb) (bd_add bt bb)) (by decide)
  have gm := bd_rg (bd_mul (bd_sub bt bb) (bd_sub bt bb)) (by decide)
  have gbb := bd_rg (bd_mul bb bb) (by decide)
  have last : ∀ {x3 x4 : Int32} , (x3 = 1 ↔ D < (t + b) * (t + b)) → (x3 = 0 ∨ x3 = 1) → (x4 = 1 ↔ (t ≤ b ∨ (t - b) * (t - b) < D)) → (x4 = 0 ∨ x4 = 1) → Sat (EC l DD aI aL ad) M_X1_isReduced (fun r I1 J1 => I1 = I ∧ J1 = J ∧ bP (rdB D a b c = true) r) 150 [(0, .ref (ad 27)), (3, .int x3)] [.int x4] I J := by
    intro x3 x4 h3 o3 h4 o4
    have no' : ¬ rdB D a b c = true → Sat (EC l DD aI aL ad) M_X1_isReduced (fun r I1 J1 => I1 = I ∧ J1 = J ∧ bP (rdB D a b c = true) r) 191 [] [] I J := fun h => bX1_isReduced_191 (bX1_isReduced_192 rfl ⟨rfl, rfl, Or.inr ⟨h, rfl⟩⟩)
    refine bX1_isReduced_150 (fun c1 => no' ?_) (fun c1 => ?_)
    · rw [m12, show (0 : Int64) = lI 0 from rfl, lI_le gb ⟨by omega, by omega⟩] at c1
      rw [key]; rintro ⟨_, _, h1, _⟩; omega
    rw [m12, show (0 : Int64) = lI 0 from rfl, lI_le gb ⟨by omega, by omega⟩] at c1
    refine bX1_isReduced_161 (fun c2 => no' ?_) (fun c2 => ?_)
    · rw [m12, m9, lI_mul, lI_le gD gbb] at c2
      rw [key]; rintro ⟨_, _, _, h1⟩; omega
    rw [m12, m9, lI_mul, lI_le gD gbb] at c2
    refine bX1_isReduced_178 (fun c3 => no' ?_) (fun c3 => ?_)
    · rw [key]; rintro ⟨h1, _⟩; rw [h3.mpr h1] at c3; exact absurd c3 (by decide)
    refine bX1_isReduced_182 (fun c4 => no' ?_) (fun c4 => bX1_isReduced_187 (bX1_isReduced_192 rfl ⟨rfl, rfl, Or.inl ⟨?_, rfl⟩⟩))
    · rw [key]; rintro ⟨_, h1, _⟩; rw [h4.mpr h1] at c4; exact absurd c4 (by decide)
    · rw [key]; exact ⟨h3.mp (o3.resolve_left c3), h4.mp (o4.resolve_left c4), by omega, by omega⟩
  have mid : ∀ {x3 : Int32}, (x3 = 1 ↔ D < (t + b) * (t + b)) → (x3 = 0 ∨ x3 = 1) → Sat (EC l DD aI aL ad) M_X1_isReduced (fun r I1 J1 => I1 = I ∧ J1 = J ∧ bP (rdB D a b c = true) r) 114 [(0, .ref (ad 27)), (1, .long (lI t))] [.int x3] I J := by
    intro x3 h3 o3
    refine bX1_isReduced_114 (fun c1 => bX1_isReduced_145 (last h3 o3 ⟨fun _ => ?_, fun _ => rfl⟩ (Or.inr rfl))) (fun c1 => ?_)
    · rw [m12, lI_le (bd_rg bt (by decide)) gb] at c1; exact Or.inl c1
    rw [m12, lI_le (bd_rg bt (by decide)) gb] at c1
    refine bX1_isReduced_124 (fun c2 => bX1_isReduced_149 (last h3 o3 ⟨fun q => absurd q (by decide), fun q => ?_⟩ (Or.inl rfl))) (fun c2 => bX1_isReduced_145 (last h3 o3 ⟨fun _ => ?_, fun _ => rfl⟩ (Or.inr rfl)))
    · rw [m12, m9, lI_sub, lI_mul, lI_le gD gm] at c2
      omega
    · rw [m12, m9, lI_sub, lI_mul, lI_le gD gm] at c2
      exact Or.inr (by omega)
  refine bX1_isReduced_86 (v87 := lI t) e87 (fun c1 => bX1_isReduced_113 (mid ⟨fun q => absurd q (by decide), fun q => ?_⟩ (Or.inl rfl))) (fun c1 => bX1_isReduced_109 (mid ⟨fun _ => ?_, fun _ => rfl⟩ (Or.inr rfl)))
  · rw [m12, m9, lI_add, lI_mul, lI_le gp gD] at c1
    omega
  · rw [m12, m9, lI_add, lI_mul, lI_le gp gD] at c1
    omega
/-- the list in the class -/
def hoL (L : List F3) (I : sa_I) : Prop := I 27 0 = nI L.length ∧ ∀ k f, L[k]? = some f → I 28 (3 * k) = iI f.1 ∧ I 28 (3 * k + 1) = iI f.2.1 ∧ I 28 (3 * k + 2) = iI f.2.2
def bdL (L : List F3) : Prop := L.length ≤ 160 ∧ ∀ f ∈ L, bdF f 1000000
theorem nf_loop {L : List F3} (hb : bdL L) (hL : hoL L I) {a b : Int} (ba : bd a 100000000) (bb : bd b 100000000) (m11 : J 27 11 = lI a) (m12 : J 27 12 = lI b) : ∀ (M : List F3) (k : Nat), L.drop k = M → k ≤ L.length → P (some (.int (iI (fdF a b k M)))) I J → Sat (EC l DD aI aL ad) M_X1_numberOfForm P 2 [(0, .ref (ad 27)), (1, .int (nI k))] [] I J := by
  intro M
  have h160 := hb.1
  induction M with
  | nil =>
    intro k e hk hP
    have : L.length ≤ k := List.drop_eq_nil_iff.mp e
    exact bX1_numberOfForm_2 (fun _ => bX1_numberOfForm_54 hP) (fun c => absurd (by rw [hL.1, nJ_le (by omega) (by omega)]; omega) c)
  | cons f M ih =>
    intro k e hk hP
    have kl : k < L.length := by
      rcases Nat.lt_or_ge k L.length with c | c
      · exact c
      · rw [List.drop_eq_nil_iff.mpr c] at e; exact absurd e (by simp)
    have hf : L[k]? = some f := by
      have := List.getElem?_drop (xs := L) (i := k) (j := 0)
      rw [e] at this; simpa using this.symm
    have hm := hb.2 f (List.mem_of_getElem? hf)
    obtain ⟨n1, n2, n3⟩ := hL.2 k f hf
    have e2 : L.drop (k + 1) = M := by rw [← List.drop_drop, e]; rfl
    have g1 : (I 28 (3 * k)).toInt64 = lI f.1 := by rw [n1]; exact iI_lI ⟨by have := hm.1.1; omega, by have := hm.1.2; omega⟩
    have g2 : (I 28 (3 * k + 1)).toInt64 = lI f.2.1 := by rw [n2]; exact iI_lI ⟨by have := hm.2.1.1; omega, by have := hm.2.1.2; omega⟩
    have nx : ¬ (f.1 = a ∧ f.2.1 = b) → Sat (EC l DD aI aL ad) M_X1_numberOfForm P 48 [(0, .ref (ad 27)), (1, .int (nI k))] [] I J := by
      intro hn
      rw [fdF, if_neg hn] at hP
      exact bX1_numberOfForm_48 (v48 := nI (k + 1)) (nI_addE k 1) (ih (k + 1) e2 (by omega) hP)
    refine bX1_numberOfForm_2 (fun c => absurd c (by rw [hL.1, nJ_le (by omega) (by omega)]; omega)) (fun _ => ?_)
    refine bX1_numberOfForm_10 (j16 := 3 * k) (by rw [nI_lit 3, nI_mulE]) (by omega) (fun c => ?_) (fun c => ?_)
    · rw [g1, m11, lI_eq (bd_rg hm.1 (by decide)) (bd_rg ba (by decide))] at c
      exact nx (fun q => c q.1)
    rw [g1, m11, lI_eq (bd_rg hm.1 (by decide)) (bd_rg ba (by decide))] at c
    refine bX1_numberOfForm_27 (j35 := 3 * k + 1) (by rw [nI_lit 3, nI_lit 1, nI_mulE, nI_addE]) (by omega) (fun c2 => ?_) (fun c2 => ?_)
    · rw [g2, m12, lI_eq (bd_rg hm.2.1 (by decide)) (bd_rg bb (by decide))] at c2
      exact nx (fun q => c2 q.2)
    rw [g2, m12, lI_eq (bd_rg hm.2.1 (by decide)) (bd_rg bb (by decide))] at c2
    rw [fdF, if_pos ⟨c, c2⟩] at hP
    exact bX1_numberOfForm_46 hP
theorem c_numberOfForm {L : List F3} (hb : bdL L) (hL : hoL L I) {a b : Int} (ba : bd a 100000000) (bb : bd b 100000000) (m11 : J 27 11 = lI a) (m12 : J 27 12 = lI b) : Con (EC l DD aI aL ad) M_X1_numberOfForm yX1_numberOfForm [.ref (ad 27)] I J (p_i (iI (fdF a b 0 L)) I J) := by
  refine Con.of (by decide +kernel) rfl (Nat.le_of_ble_eq_true rfl) ?_
  exact bX1_numberOfForm_0 (v1 := nI 0) rfl (nf_loop hb hL ba bb m11 m12 L 0 rfl (Nat.zero_le _) ⟨rfl, rfl, rfl⟩)
theorem nxB_bd {D s b c : Int} (hs : bd s 34) (hc : bd c 100000000) (h0 : c ≠ 0) : bd (nxB D s b c) 300000000 := by
  have p0 : 0 < 2 * ((c.natAbs : Nat) : Int) := by omega
  have c1 := hc.1
  have c2 := hc.2
  have s1 := hs.1
  have s2 := hs.2
  have m := fun z : Int => Int.emod_nonneg z (show 2 * ((c.natAbs : Nat) : Int) ≠ 0 by omega)
  have m2 := fun z : Int => Int.emod_lt_of_pos z p0
  unfold nxB
  have a1 := m (s + b)
  have a2 := m2 (s + b)
  have a3 := m (-b)
  have a4 := m2 (-b)
  by_cases q : ((c.natAbs : Nat) : Int) * ((c.natAbs : Nat) : Int) < D
  · rw [if_pos q]; exact ⟨by omega, by omega⟩
  · rw [if_neg q]
    by_cases q2 : ((c.natAbs : Nat) : Int) < (-b) % (2 * ((c.natAbs : Nat) : Int))
    · rw [if_pos q2]; exact ⟨by omega, by omega⟩
    · rw [if_neg q2]; exact ⟨by omega, by omega⟩
theorem c_goNext {D : Int} {f : F3} (hD : bd D 1200) (hf : bdF f 100000000) (h0 : f.2.2 ≠ 0) (hm : fmS D f J) : Con (EC l DD aI aL ad) M_X1_goNext yX1_goNext [.ref (ad 27)] I J (fun r I1 J1 => r = none ∧ I1 = I ∧ fmS D (nxF D (rtZ D) f) J1 ∧ ffr J J1) := by
  refine Con.of (by decide +kernel) rfl (Nat.le_of_ble_eq_true rfl) ?_
  obtain ⟨m9, m10, m11, m12, m13⟩ := hm
  obtain ⟨ba, bb, bc⟩ := hf
  obtain ⟨a, b, c⟩ := f
  dsimp only at ba bb bc m11 m12 m13 h0 ⊢
  have gD := bd_rg hD (by decide)
  have gc := bd_rg bc (by decide)
  have hs := isq_le hD
  have bac := bdAbs bc
  have gac := bd_rg bac (by decide)
  have bx := nxB_bd (D := D) (b := b) hs bc h0
  have bw : bd (2 * ((c.natAbs : Nat) : Int)) 200000000 := ⟨by have := bac.1; omega, by have := bac.2; omega⟩
  have w0 : 0 < 2 * ((c.natAbs : Nat) : Int) := by omega
  have fin : ∀ {v : Int}, v = nxB D (rtZ D) b c → Sat (EC l DD aI aL ad) M_X1_goNext (fun r I1 J1 => r = none ∧ I1 = I ∧ fmS D (nxF D (rtZ D) (a, b, c)) J1 ∧ ffr J J1) 84 [(0, .ref (ad 27)), (3, .long (lI v))] [] I J := by
    intro v hv
    subst hv
    refine bX1_goNext_84 (v89 := lI c) m13 ?_
    have e11 : sa_uJ (sa_uJ J 27 11 (lI c)) 27 12 (lI (nxB D (rtZ D) b c)) 27 11 = lI c := by rw [sa_uJ_off (by decide), sa_uJ_at]
    have e12 : sa_uJ (sa_uJ J 27 11 (lI c)) 27 12 (lI (nxB D (rtZ D) b c)) 27 12 = lI (nxB D (rtZ D) b c) := sa_uJ_at
    have e9 : sa_uJ (sa_uJ J 27 11 (lI c)) 27 12 (lI (nxB D (rtZ D) b c)) 27 9 = lI D := by rw [sa_uJ_off (by decide), sa_uJ_off (by decide)]; exact m9
    rw [e11, e12, e9, show (4 : Int64) = lI 4 from rfl, lI_mul, lI_mul, lI_sub]
    refine v_X1_104 dX1_goNext_120 rfl ⟨rfl, rfl, Nat.le_of_ble_eq_true rfl, Nat.le_of_ble_eq_true rfl⟩ (c_partS (bd_rg (bd_sub (bd_mul bx bx) hD) (by decide)) (bd_rg (bd_mul (A := 4) ⟨by decide, by decide⟩ bc) (by decide)) (by omega)) rfl rfl (Nat.le_of_ble_eq_true rfl) (fun r I1 J1 hq => ?_)
    obtain ⟨rfl, e1, e2⟩ := hq
    obtain rfl := e1.symm
    obtain rfl := e2.symm
    refine bX1_goNext_123 ⟨rfl, rfl, ⟨?_, ?_, ?_, ?_, ?_⟩, ((ffr.rfl'.u11).u12).u13⟩
    · rw [sa_uJ_off (by decide)]; exact e9
    · rw [sa_uJ_off (by decide), sa_uJ_off (by decide), sa_uJ_off (by decide)]; exact m10
    · rw [sa_uJ_off (by decide)]; exact e11
    · rw [sa_uJ_off (by decide)]; exact e12
    · exact sa_uJ_at
  refine bX1_goNext_0 ?_
  rw [m13]
  refine v_X1_50 dX1_goNext_4 rfl ⟨rfl, rfl, Nat.le_of_ble_eq_true rfl, Nat.le_of_ble_eq_true rfl⟩ (c_abs gc (by have := bc.1; omega)) rfl rfl (Nat.le_of_ble_eq_true rfl) (fun r I1 J1 hq => ?_)
  obtain ⟨rfl, e1, e2⟩ := hq
  obtain rfl := e1.symm
  obtain rfl := e2.symm
  refine bX1_goNext_7 (fun _ => ?_) (fun q => absurd ((lI_eq gac (b := 0) ⟨by omega, by omega⟩).mp q) (by omega))
  have gcc := bd_rg (bd_mul bac bac) (by decide)
  refine bX1_goNext_15 (fun q => bX1_goNext_52 ?_) (fun q => bX1_goNext_26 ?_)
  · rw [m9, lI_mul, lI_le gD gcc] at q
    rw [m12, lI_neg, show (2 : Int64) = lI 2 from rfl, lI_mul]
    refine v_X1_100 dX1_goNext_62 rfl ⟨rfl, rfl, Nat.le_of_ble_eq_true rfl, Nat.le_of_ble_eq_true rfl⟩ (c_floorMod (a := -b) (b := 2 * ((c.natAbs : Nat) : Int)) ⟨by have := bb.2; omega, by have := bb.1; omega⟩ (bd_rg bw (by decide)) w0) rfl rfl (Nat.le_of_ble_eq_true rfl) (fun r I1 J1 hq => ?_)
    obtain ⟨rfl, e1, e2⟩ := hq
    obtain rfl := e1.symm
    obtain rfl := e2.symm
    have a3 := Int.emod_nonneg (-b) (show 2 * ((c.natAbs : Nat) : Int) ≠ 0 by omega)
    have a4 := Int.emod_lt_of_pos (-b) w0
    have w1 := bw.2
    have gm : rg ((-b) % (2 * ((c.natAbs : Nat) : Int))) := ⟨by omega, by omega⟩
    refine bX1_goNext_65 (fun q2 => bX1_goNext_82 (bX1_goNext_83 (fin ?_))) (fun q2 => bX1_goNext_72 (bX1_goNext_83 ?_))
    · rw [lI_le gm gac] at q2
      unfold nxB; rw [if_neg (by omega), if_neg (by omega)]
    · rw [lI_le gm gac] at q2
      rw [show (2 : Int64) = lI 2 from rfl, lI_mul, lI_sub]
      refine fin ?_
      unfold nxB; rw [if_neg (by omega), if_pos (by omega)]
  · rw [m9, lI_mul, lI_le gD gcc] at q
    rw [m10, m12, lI_add, show (2 : Int64) = lI 2 from rfl, lI_mul]
    refine v_X1_100 dX1_goNext_44 rfl ⟨rfl, rfl, Nat.le_of_ble_eq_true rfl, Nat.le_of_ble_eq_true rfl⟩ (c_floorMod (a := rtZ D + b) (b := 2 * ((c.natAbs : Nat) : Int)) (bd_rg (bd_add hs bb) (by decide)) (bd_rg bw (by decide)) w0) rfl rfl (Nat.le_of_ble_eq_true rfl) (fun r I1 J1 hq => ?_)
    obtain ⟨rfl, e1, e2⟩ := hq
    obtain rfl := e1.symm
    obtain rfl := e2.symm
    refine bX1_goNext_47 (v48 := lI (rtZ D - (rtZ D + b) % (2 * ((c.natAbs : Nat) : Int)))) (lI_sub _ _) (fin ?_)
    unfold nxB; rw [if_pos (by omega)]
end FO
