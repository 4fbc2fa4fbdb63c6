/-- the reference's basis over one divisor -/
def bsL (I : sa_I) (i j : Nat) : Int64 := match i, j with
  | 0, 0 => (I 0 6).toInt64 * (I 0 9).toInt64
  | 0, _ => 0
  | 1, 0 => (I 0 5).toInt64 * (I 0 9).toInt64
  | 1, 1 => (I 0 9).toInt64
  | 1, _ => 0
  | _, 0 => (I 0 7).toInt64 * (I 0 6).toInt64
  | _, 1 => (I 0 8).toInt64 * (I 0 6).toInt64
  | _, _ => (I 0 6).toInt64
def tw2 (b : Nat → Nat → Int64) (i j t : Nat) : Int64 := match t with
  | 0 => 0 + b i 0 * b j 0
  | 1 => 0 + b i 0 * b j 1 + b i 1 * b j 0
  | 2 => 0 + b i 1 * b j 1
  | _ => 0
def tw3 (b : Nat → Nat → Int64) (i j t : Nat) : Int64 := match t with
  | 0 => 0 + b i 0 * b j 0
  | 1 => 0 + b i 0 * b j 1 + b i 1 * b j 0
  | 2 => 0 + b i 0 * b j 2 + b i 1 * b j 1 + b i 2 * b j 0
  | 3 => 0 + b i 1 * b j 2 + b i 2 * b j 1
  | 4 => 0 + b i 2 * b j 2
  | _ => 0
def tvZ (I : sa_I) (q p2 : Int64) : Int64 := p2 * (I 0 9).toInt64 / q
def tvY (I : sa_I) (q p1 z : Int64) : Int64 := (p1 - z * (I 0 8).toInt64 * (q / (I 0 9).toInt64)) * (I 0 6).toInt64 / q
def tvX (I : sa_I) (q p0 y z : Int64) : Int64 := (p0 - y * (I 0 5).toInt64 * (q / (I 0 6).toInt64) - z * (I 0 7).toInt64 * (q / (I 0 9).toInt64)) / q
def lw2 (I : sa_I) (i j : Nat) := lo2 (I 0 2).toInt64 (I 0 3).toInt64 (tw2 (bsL I) i j)
def lw3 (I : sa_I) (i j : Nat) := lo3 (I 0 2).toInt64 (I 0 3).toInt64 (I 0 4).toInt64 (tw3 (bsL I) i j)
/-- the reference's table, by longs -/
def tb2L (I : sa_I) (q : Int64) (i j : Nat) : Int64 × Int64 × Int64 := (tvX I q (lw2 I i j).1 (tvY I q (lw2 I i j).2 0) 0, tvY I q (lw2 I i j).2 0, 0)
def tb3L (I : sa_I) (q : Int64) (i j : Nat) : Int64 × Int64 × Int64 := (tvX I q (lw3 I i j).1 (tvY I q (lw3 I i j).2.1 (tvZ I q (lw3 I i j).2.2)) (tvZ I q (lw3 I i j).2.2), tvY I q (lw3 I i j).2.1 (tvZ I q (lw3 I i j).2.2), tvZ I q (lw3 I i j).2.2)
theorem lo2_congr {a b : Int64} {w v : Nat → Int64} (h0 : w 0 = v 0) (h1 : w 1 = v 1) (h2 : w 2 = v 2) (h3 : w 3 = v 3) (h4 : w 4 = v 4) : lo2 a b w = lo2 a b v := by
  unfold lo2; rw [h0, h1, h2, h3, h4]
theorem lo3_congr {a b c : Int64} {w v : Nat → Int64} (h0 : w 0 = v 0) (h1 : w 1 = v 1) (h2 : w 2 = v 2) (h3 : w 3 = v 3) (h4 : w 4 = v 4) : lo3 a b c w = lo3 a b c v := by
  unfold lo3; rw [h0, h1, h2, h3, h4]
section TB
variable {l : Launch} {D : va_G} {aI aL : ClassId} {ad : Nat → Nat} {P : sa_P} {I : sa_I} {J : sa_J}
theorem c_base00  : Con (ER l D aI aL ad) M_X7_base yX7_base [.ref (ad 0), .int (nI 0), .int (nI 0)] I J (p_l (bsL I 0 0) I J) := by
  refine Con.of (by decide +kernel) rfl (Nat.le_of_ble_eq_true rfl) ?_
  refine bX7_base_0  (fun c => absurd c (by decide)) (fun _ => ?_)
  refine bX7_base_4  (fun c => absurd c (by decide)) (fun _ => ?_)
  refine bX7_base_8  ?_
  exact bX7_base_23  ⟨rfl, rfl, rfl⟩
theorem c_base01  : Con (ER l D aI aL ad) M_X7_base yX7_base [.ref (ad 0), .int (nI 0), .int (nI 1)] I J (p_l (bsL I 0 1) I J) := by
  refine Con.of (by decide +kernel) rfl (Nat.le_of_ble_eq_true rfl) ?_
  refine bX7_base_0  (fun c => absurd c (by decide)) (fun _ => ?_)
  refine bX7_base_4  (fun _ => ?_) (fun c => absurd c (by decide))
  refine bX7_base_22  ?_
  exact bX7_base_23  ⟨rfl, rfl, rfl⟩
theorem c_base02  : Con (ER l D aI aL ad) M_X7_base yX7_base [.ref (ad 0), .int (nI 0), .int (nI 2)] I J (p_l (bsL I 0 2) I J) := by
  refine Con.of (by decide +kernel) rfl (Nat.le_of_ble_eq_true rfl) ?_
  refine bX7_base_0  (fun c => absurd c (by decide)) (fun _ => ?_)
  refine bX7_base_4  (fun _ => ?_) (fun c => absurd c (by decide))
  refine bX7_base_22  ?_
  exact bX7_base_23  ⟨rfl, rfl, rfl⟩
theorem c_base10  : Con (ER l D aI aL ad) M_X7_base yX7_base [.ref (ad 0), .int (nI 1), .int (nI 0)] I J (p_l (bsL I 1 0) I J) := by
  refine Con.of (by decide +kernel) rfl (Nat.le_of_ble_eq_true rfl) ?_
  refine bX7_base_0  (fun _ => ?_) (fun c => absurd c (by decide))
  refine bX7_base_24  (fun c => absurd c (by decide)) (fun _ => ?_)
  refine bX7_base_29  (fun c => absurd c (by decide)) (fun _ => ?_)
  refine bX7_base_33  ?_
  exact bX7_base_61  ⟨rfl, rfl, rfl⟩
theorem c_base11  : Con (ER l D aI aL ad) M_X7_base yX7_base [.ref (ad 0), .int (nI 1), .int (nI 1)] I J (p_l (bsL I 1 1) I J) := by
  refine Con.of (by decide +kernel) rfl (Nat.le_of_ble_eq_true rfl) ?_
  refine bX7_base_0  (fun _ => ?_) (fun c => absurd c (by decide))
  refine bX7_base_24  (fun c => absurd c (by decide)) (fun _ => ?_)
  refine bX7_base_29  (fun _ => ?_) (fun c => absurd c (by decide))
  refine bX7_base_47  (fun c => absurd c (by decide)) (fun _ => ?_)
  refine bX7_base_52  ?_
  exact bX7_base_61  ⟨rfl, rfl, rfl⟩
theorem c_base12  : Con (ER l D aI aL ad) M_X7_base yX7_base [.ref (ad 0), .int (nI 1), .int (nI 2)] I J (p_l (bsL I 1 2) I J) := by
  refine Con.of (by decide +kernel) rfl (Nat.le_of_ble_eq_true rfl) ?_
  refine bX7_base_0  (fun _ => ?_) (fun c => absurd c (by decide))
  refine bX7_base_24  (fun c => absurd c (by decide)) (fun _ => ?_)
  refine bX7_base_29  (fun _ => ?_) (fun c => absurd c (by decide))
  refine bX7_base_47  (fun _ => ?_) (fun c => absurd c (by decide))
  refine bX7_base_60  ?_
  exact bX7_base_61  ⟨rfl, rfl, rfl⟩
theorem c_base20  : Con (ER l D aI aL ad) M_X7_base yX7_base [.ref (ad 0), .int (nI 2), .int (nI 0)] I J (p_l (bsL I 2 0) I J) := by
  refine Con.of (by decide +kernel) rfl (Nat.le_of_ble_eq_true rfl) ?_
  refine bX7_base_0  (fun _ => ?_) (fun c => absurd c (by decide))
  refine bX7_base_24  (fun _ => ?_) (fun c => absurd c (by decide))
  refine bX7_base_62  (fun c => absurd c (by decide)) (fun _ => ?_)
  refine bX7_base_66  ?_
  exact bX7_base_104  ⟨rfl, rfl, rfl⟩
theorem c_base21  : Con (ER l D aI aL ad) M_X7_base yX7_base [.ref (ad 0), .int (nI 2), .int (nI 1)] I J (p_l (bsL I 2 1) I J) := by
  refine Con.of (by decide +kernel) rfl (Nat.le_of_ble_eq_true rfl) ?_
  refine bX7_base_0  (fun _ => ?_) (fun c => absurd c (by decide))
  refine bX7_base_24  (fun _ => ?_) (fun c => absurd c (by decide))
  refine bX7_base_62  (fun _ => ?_) (fun c => absurd c (by decide))
  refine bX7_base_80  (fun c => absurd c (by decide)) (fun _ => ?_)
  refine bX7_base_85  ?_
  exact bX7_base_104  ⟨rfl, rfl, rfl⟩
theorem c_base22  : Con (ER l D aI aL ad) M_X7_base yX7_base [.ref (ad 0), .int (nI 2), .int (nI 2)] I J (p_l (bsL I 2 2) I J) := by
  refine Con.of (by decide +kernel) rfl (Nat.le_of_ble_eq_true rfl) ?_
  refine bX7_base_0  (fun _ => ?_) (fun c => absurd c (by decide))
  refine bX7_base_24  (fun _ => ?_) (fun c => absurd c (by decide))
  refine bX7_base_62  (fun _ => ?_) (fun c => absurd c (by decide))
  refine bX7_base_80  (fun _ => ?_) (fun c => absurd c (by decide))
  refine bX7_base_99  ?_
  exact bX7_base_104  ⟨rfl, rfl, rfl⟩
theorem tb7_2_00 {x1 : Int64} (hn : I 0 1 = nI 2) (hq : ¬ x1 * x1 = 0) (he : ¬ (I 0 9).toInt64 = 0) (hd : ¬ (I 0 6).toInt64 = 0) (k : ∀ Jm : sa_J, Jm 2 0 = (tb2L I (x1 * x1) 0 0).1 → Jm 2 1 = (tb2L I (x1 * x1) 0 0).2.1 → Jm 2 2 = (tb2L I (x1 * x1) 0 0).2.2 → (∀ t, t ≠ 0 → t ≠ 1 → t ≠ 2 → Jm 2 t = J 2 t) → (∀ q, q ≠ 2 → q ≠ 8 → Jm q = J q) → Sat (ER l D aI aL ad) M_X7_tables P 25 [(0, .ref (ad 0)), (1, .long x1), (3, .int (nI 0)), (4, .int (nI 1))] [] I Jm) : Sat (ER l D aI aL ad) M_X7_tables P 34 [(0, .ref (ad 0)), (1, .long x1), (3, .int (nI 0)), (4, .int (nI 0))] [] I J := by
  refine bX7_tables_34 (v35 := nI 0) rfl ?_
  refine bX7_tables_37  (fun c => absurd c (by decide)) (fun _ => ?_)
  refine bX7_tables_43 (j47 := 0) (v51 := nI 1) rfl (by decide) rfl rfl ?_
  refine bX7_tables_37  (fun c => absurd c (by decide)) (fun _ => ?_)
  refine bX7_tables_43 (j47 := 1) (v51 := nI 2) rfl (by decide) rfl rfl ?_
  refine bX7_tables_37  (fun c => absurd c (by decide)) (fun _ => ?_)
  refine bX7_tables_43 (j47 := 2) (v51 := nI 3) rfl (by decide) rfl rfl ?_
  refine bX7_tables_37  (fun c => absurd c (by decide)) (fun _ => ?_)
  refine bX7_tables_43 (j47 := 3) (v51 := nI 4) rfl (by decide) rfl rfl ?_
  refine bX7_tables_37  (fun c => absurd c (by decide)) (fun _ => ?_)
  refine bX7_tables_43 (j47 := 4) (v51 := nI 5) rfl (by decide) rfl rfl ?_
  refine bX7_tables_37  (fun _ => ?_) (fun c => absurd c (by decide))
  refine bX7_tables_57 (v58 := nI 0) rfl ?_
  refine bX7_tables_60  (fun c => absurd c (by simp only [hn]; decide)) (fun _ => ?_)
  refine bX7_tables_69 (v70 := nI 0) rfl ?_
  refine bX7_tables_72  (fun c => absurd c (by simp only [hn]; decide)) (fun _ => ?_)
  refine bX7_tables_81 (j89 := 0) rfl (by decide) ?_
  refine v_X7_199 dX7_tables_96 rfl ⟨rfl, rfl, Nat.le_of_ble_eq_true rfl, Nat.le_of_ble_eq_true rfl⟩ (c_base00) rfl rfl (Nat.le_of_ble_eq_true rfl) (fun r I1 J1 hp => ?_)
  obtain ⟨rfl, e2, e3⟩ := hp
  obtain rfl := e2.symm
  obtain rfl := e3.symm
  refine bX7_tables_99  ?_
  refine v_X7_199 dX7_tables_104 rfl ⟨rfl, rfl, Nat.le_of_ble_eq_true rfl, Nat.le_of_ble_eq_true rfl⟩ (c_base00) rfl rfl (Nat.le_of_ble_eq_true rfl) (fun r I1 J1 hp => ?_)
  obtain ⟨rfl, e2, e3⟩ := hp
  obtain rfl := e2.symm
  obtain rfl := e3.symm
  refine bX7_tables_107 (s1 := 0) (v110 := nI 1) (v109 := 0 + bsL I 0 0 * bsL I 0 0) (by decide) rfl rfl ?_
  refine bX7_tables_72  (fun c => absurd c (by simp only [hn]; decide)) (fun _ => ?_)
  refine bX7_tables_81 (j89 := 1) rfl (by decide) ?_
  refine v_X7_199 dX7_tables_96 rfl ⟨rfl, rfl, Nat.le_of_ble_eq_true rfl, Nat.le_of_ble_eq_true rfl⟩ (c_base00) rfl rfl (Nat.le_of_ble_eq_true rfl) (fun r I1 J1 hp => ?_)
  obtain ⟨rfl, e2, e3⟩ := hp
  obtain rfl := e2.symm
  obtain rfl := e3.symm
  refine bX7_tables_99  ?_
  refine v_X7_199 dX7_tables_104 rfl ⟨rfl, rfl, Nat.le_of_ble_eq_true rfl, Nat.le_of_ble_eq_true rfl⟩ (c_base01) rfl rfl (Nat.le_of_ble_eq_true rfl) (fun r I1 J1 hp => ?_)
  obtain ⟨rfl, e2, e3⟩ := hp
  obtain rfl := e2.symm
  obtain rfl := e3.symm
  refine bX7_tables_107 (s1 := 1) (v110 := nI 2) (v109 := 0 + bsL I 0 0 * bsL I 0 1) (by decide) rfl rfl ?_
  refine bX7_tables_72  (fun _ => ?_) (fun c => absurd c (by simp only [hn]; decide))
  refine bX7_tables_116 (v116 := nI 1) rfl ?_
  refine bX7_tables_60  (fun c => absurd c (by simp only [hn]; decide)) (fun _ => ?_)
  refine bX7_tables_69 (v70 := nI 0) rfl ?_
  refine bX7_tables_72  (fun c => absurd c (by simp only [hn]; decide)) (fun _ => ?_)
  refine bX7_tables_81 (j89 := 1) rfl (by decide) ?_
  refine v_X7_199 dX7_tables_96 rfl ⟨rfl, rfl, Nat.le_of_ble_eq_true rfl, Nat.le_of_ble_eq_true rfl⟩ (c_base01) rfl rfl (Nat.le_of_ble_eq_true rfl) (fun r I1 J1 hp => ?_)
  obtain ⟨rfl, e2, e3⟩ := hp
  obtain rfl := e2.symm
  obtain rfl := e3.symm
  refine bX7_tables_99  ?_
  refine v_X7_199 dX7_tables_104 rfl ⟨rfl, rfl, Nat.le_of_ble_eq_true rfl, Nat.le_of_ble_eq_true rfl⟩ (c_base00) rfl rfl (Nat.le_of_ble_eq_true rfl) (fun r I1 J1 hp => ?_)
  obtain ⟨rfl, e2, e3⟩ := hp
  obtain rfl := e2.symm
  obtain rfl := e3.symm
  refine bX7_tables_107 (s1 := 1) (v110 := nI 1) (v109 := 0 + bsL I 0 0 * bsL I 0 1 + bsL I 0 1 * bsL I 0 0) (by decide) rfl rfl ?_
  refine bX7_tables_72  (fun c => absurd c (by simp only [hn]; decide)) (fun _ => ?_)
  refine bX7_tables_81 (j89 := 2) rfl (by decide) ?_
  refine v_X7_199 dX7_tables_96 rfl ⟨rfl, rfl, Nat.le_of_ble_eq_true rfl, Nat.le_of_ble_eq_true rfl⟩ (c_base01) rfl rfl (Nat.le_of_ble_eq_true rfl) (fun r I1 J1 hp => ?_)
  obtain ⟨rfl, e2, e3⟩ := hp
  obtain rfl := e2.symm
  obtain rfl := e3.symm
  refine bX7_tables_99  ?_
  refine v_X7_199 dX7_tables_104 rfl ⟨rfl, rfl, Nat.le_of_ble_eq_true rfl, Nat.le_of_ble_eq_true rfl⟩ (c_base01) rfl rfl (Nat.le_of_ble_eq_true rfl) (fun r I1 J1 hp => ?_)
  obtain ⟨rfl, e2, e3⟩ := hp
  obtain rfl := e2.symm
  obtain rfl := e3.symm
  refine bX7_tables_107 (s1 := 2) (v110 := nI 2) (v109 := 0 + bsL I 0 1 * bsL I 0 1) (by decide) rfl rfl ?_
  refine bX7_tables_72  (fun _ => ?_) (fun c => absurd c (by simp only [hn]; decide))
  refine bX7_tables_116 (v116 := nI 2) rfl ?_
  refine bX7_tables_60  (fun _ => ?_) (fun c => absurd c (by simp only [hn]; decide))
  refine bX7_tables_122  ?_
  refine v_X7_186 dX7_tables_123 rfl ⟨rfl, rfl, Nat.le_of_ble_eq_true rfl, Nat.le_of_ble_eq_true rfl⟩ (c_lower2 hn) rfl rfl (Nat.le_of_ble_eq_true rfl) (fun r I1 Ja hp => ?_)
  obtain ⟨rfl, e2, o0, o1, g⟩ := hp
  obtain rfl := e2.symm
  have hl := lo2_congr (a := (I 0 2).toInt64) (b := (I 0 3).toInt64) (show _ = tw2 (bsL I) 0 0 0 from rfl) (show _ = tw2 (bsL I) 0 0 1 from rfl) (show _ = tw2 (bsL I) 0 0 2 from rfl) (show _ = tw2 (bsL I) 0 0 3 from rfl) (show _ = tw2 (bsL I) 0 0 4 from rfl)
  have a0 : Ja 8 0 = (lw2 I 0 0).1 := o0.trans (congrArg (fun x => x.1) hl)
  have a1 : Ja 8 1 = (lw2 I 0 0).2 := o1.trans (congrArg (fun x => x.2) hl)
  clear o0 o1 hl
  refine bX7_tables_126 rfl (fun _ => ?_) (fun c => absurd c (by simp only [hn]; decide))
  refine bX7_tables_157  ?_
  refine bX7_tables_158 (j207 := 0) (j268 := 1) (j286 := 2) (v290 := nI 1) he hq rfl hd he hq (by decide) rfl (by decide) rfl (by decide) rfl rfl rfl ?_
  refine k _ ?_ ?_ ?_ ?_ ?_
  · exact (show _ = tvX I (x1 * x1) (Ja 8 0) (tvY I (x1 * x1) (Ja 8 1) 0) 0 from rfl).trans (by rw [a0, a1]; rfl)
  · exact (show _ = tvY I (x1 * x1) (Ja 8 1) 0 from rfl).trans (by rw [a1]; rfl)
  · rfl
  · intro t h1 h2 h3; simp only [sa_uJ_off h1, sa_uJ_off h2, sa_uJ_off h3, g 2 (by decide)]; rfl
  · intro q h1 h2; simp only [sa_uJ_ne h1, g q h2, sa_uJ_ne h2]
theorem tb7_2_01 {x1 : Int64} (hn : I 0 1 = nI 2) (hq : ¬ x1 * x1 = 0) (he : ¬ (I 0 9).toInt64 = 0) (hd : ¬ (I 0 6).toInt64 = 0) (k : ∀ Jm : sa_J, Jm 2 3 = (tb2L I (x1 * x1) 0 1).1 → Jm 2 4 = (tb2L I (x1 * x1) 0 1).2.1 → Jm 2 5 = (tb2L I (x1 * x1) 0 1).2.2 → (∀ t, t ≠ 3 → t ≠ 4 → t ≠ 5 → Jm 2 t = J 2 t) → (∀ q, q ≠ 2 → q ≠ 8 → Jm q = J q) → Sat (ER l D aI aL ad) M_X7_tables P 25 [(0, .ref (ad 0)), (1, .long x1), (3, .int (nI 0)), (4, .int (nI 2))] [] I Jm) : Sat (ER l D aI aL ad) M_X7_tables P 34 [(0, .ref (ad 0)), (1, .long x1), (3, .int (nI 0)), (4, .int (nI 1))] [] I J := by
  refine bX7_tables_34 (v35 := nI 0) rfl ?_
  refine bX7_tables_37  (fun c => absurd c (by decide)) (fun _ => ?_)
  refine bX7_tables_43 (j47 := 0) (v51 := nI 1) rfl (by decide) rfl rfl ?_
  refine bX7_tables_37  (fun c => absurd c (by decide)) (fun _ => ?_)
  refine bX7_tables_43 (j47 := 1) (v51 := nI 2) rfl (by decide) rfl rfl ?_
  refine bX7_tables_37  (fun c => absurd c (by decide)) (fun _ => ?_)
  refine bX7_tables_43 (j47 := 2) (v51 := nI 3) rfl (by decide) rfl rfl ?_
  refine bX7_tables_37  (fun c => absurd c (by decide)) (fun _ => ?_)
  refine bX7_tables_43 (j47 := 3) (v51 := nI 4) rfl (by decide) rfl rfl ?_
  refine bX7_tables_37  (fun c => absurd c (by decide)) (fun _ => ?_)
  refine bX7_tables_43 (j47 := 4) (v51 := nI 5) rfl (by decide) rfl rfl ?_
  refine bX7_tables_37  (fun _ => ?_) (fun c => absurd c (by decide))
  refine bX7_tables_57 (v58 := nI 0) rfl ?_
  refine bX7_tables_60  (fun c => absurd c (by simp only [hn]; decide)) (fun _ => ?_)
  refine bX7_tables_69 (v70 := nI 0) rfl ?_
  refine bX7_tables_72  (fun c => absurd c (by simp only [hn]; decide)) (fun _ => ?_)
  refine bX7_tables_81 (j89 := 0) rfl (by decide) ?_
  refine v_X7_199 dX7_tables_96 rfl ⟨rfl, rfl, Nat.le_of_ble_eq_true rfl, Nat.le_of_ble_eq_true rfl⟩ (c_base00) rfl rfl (Nat.le_of_ble_eq_true rfl) (fun r I1 J1 hp => ?_)
  obtain ⟨rfl, e2, e3⟩ := hp
  obtain rfl := e2.symm
  obtain rfl := e3.symm
  refine bX7_tables_99  ?_
  refine v_X7_199 dX7_tables_104 rfl ⟨rfl, rfl, Nat.le_of_ble_eq_true rfl, Nat.le_of_ble_eq_true rfl⟩ (c_base10) rfl rfl (Nat.le_of_ble_eq_true rfl) (fun r I1 J1 hp => ?_)
  obtain ⟨rfl, e2, e3⟩ := hp
  obtain rfl := e2.symm
  obtain rfl := e3.symm
  refine bX7_tables_107 (s1 := 0) (v110 := nI 1) (v109 := 0 + bsL I 0 0 * bsL I 1 0) (by decide) rfl rfl ?_
  refine bX7_tables_72  (fun c => absurd c (by simp only [hn]; decide)) (fun _ => ?_)
  refine bX7_tables_81 (j89 := 1) rfl (by decide) ?_
  refine v_X7_199 dX7_tables_96 rfl ⟨rfl, rfl, Nat.le_of_ble_eq_true rfl, Nat.le_of_ble_eq_true rfl⟩ (c_base00) rfl rfl (Nat.le_of_ble_eq_true rfl) (fun r I1 J1 hp => ?_)
  obtain ⟨rfl, e2, e3⟩ := hp
  obtain rfl := e2.symm
  obtain rfl := e3.symm
  refine bX7_tables_99  ?_
  refine v_X7_199 dX7_tables_104 rfl ⟨rfl, rfl, Nat.le_of_ble_eq_true rfl, Nat.le_of_ble_eq_true rfl⟩ (c_base11) rfl rfl (Nat.le_of_ble_eq_true rfl) (fun r I1 J1 hp => ?_)
  obtain ⟨rfl, e2, e3⟩ := hp
  obtain rfl := e2.symm
  obtain rfl := e3.symm
  refine bX7_tables_107 (s1 := 1) (v110 := nI 2) (v109 := 0 + bsL I 0 0 * bsL I 1 1) (by decide) rfl rfl ?_
  refine bX7_tables_72  (fun _ => ?_) (fun c => absurd c (by simp only [hn]; decide))
  refine bX7_tables_116 (v116 := nI 1) rfl ?_
  refine bX7_tables_60  (fun c => absurd c (by simp only [hn]; decide)) (fun _ => ?_)
  refine bX7_tables_69 (v70 := nI 0) rfl ?_
  refine bX7_tables_72  (fun c => absurd c (by simp only [hn]; decide)) (fun _ => ?_)
  refine bX7_tables_81 (j89 := 1) rfl (by decide) ?_
  refine v_X7_199 dX7_tables_96 rfl ⟨rfl, rfl, Nat.le_of_ble_eq_true rfl, Nat.le_of_ble_eq_true rfl⟩ (c_base01) rfl rfl (Nat.le_of_ble_eq_true rfl) (fun r I1 J1 hp => ?_)
  obtain ⟨rfl, e2, e3⟩ := hp
  obtain rfl := e2.symm
  obtain rfl := e3.symm
  refine bX7_tables_99  ?_
  refine v_X7_199 dX7_tables_104 rfl ⟨rfl, rfl, Nat.le_of_ble_eq_true rfl, Nat.le_of_ble_eq_true rfl⟩ (c_base10) rfl rfl (Nat.le_of_ble_eq_true rfl) (fun r I1 J1 hp => ?_)
  obtain ⟨rfl, e2, e3⟩ := hp
  obtain rfl := e2.symm
  obtain rfl := e3.symm
  refine bX7_tables_107 (s1 := 1) (v110 := nI 1) (v109 := 0 + bsL I 0 0 * bsL I 1 1 + bsL I 0 1 * bsL I 1 0) (by decide) rfl rfl ?_
  refine bX7_tables_72  (fun c => absurd c (by simp only [hn]; decide)) (fun _ => ?_)
  refine bX7_tables_81 (j89 := 2) rfl (by decide) ?_
  refine v_X7_199 dX7_tables_96 rfl ⟨rfl, rfl, Nat.le_of_ble_eq_true rfl, Nat.le_of_ble_eq_true rfl⟩ (c_base01) rfl rfl (Nat.le_of_ble_eq_true rfl) (fun r I1 J1 hp => ?_)
  obtain ⟨rfl, e2, e3⟩ := hp
  obtain rfl := e2.symm
  obtain rfl := e3.symm
  refine bX7_tables_99  ?_
  refine v_X7_199 dX7_tables_104 rfl ⟨rfl, rfl, Nat.le_of_ble_eq_true rfl, Nat.le_of_ble_eq_true rfl⟩ (c_base11) rfl rfl (Nat.le_of_ble_eq_true rfl) (fun r I1 J1 hp => ?_)
  obtain ⟨rfl, e2, e3⟩ := hp
  obtain rfl := e2.symm
  obtain rfl := e3.symm
  refine bX7_tables_107 (s1 := 2) (v110 := nI 2) (v109 := 0 + bsL I 0 1 * bsL I 1 1) (by decide) rfl rfl ?_
  refine bX7_tables_72  (fun _ => ?_) (fun c => absurd c (by simp only [hn]; decide))
  refine bX7_tables_116 (v116 := nI 2) rfl ?_
  refine bX7_tables_60  (fun _ => ?_) (fun c => absurd c (by simp only [hn]; decide))
  refine bX7_tables_122  ?_
  refine v_X7_186 dX7_tables_123 rfl ⟨rfl, rfl, Nat.le_of_ble_eq_true rfl, Nat.le_of_ble_eq_true rfl⟩ (c_lower2 hn) rfl rfl (Nat.le_of_ble_eq_true rfl) (fun r I1 Ja hp => ?_)
  obtain ⟨rfl, e2, o0, o1, g⟩ := hp
  obtain rfl := e2.symm
  have hl := lo2_congr (a := (I 0 2).toInt64) (b := (I 0 3).toInt64) (show _ = tw2 (bsL I) 0 1 0 from rfl) (show _ = tw2 (bsL I) 0 1 1 from rfl) (show _ = tw2 (bsL I) 0 1 2 from rfl) (show _ = tw2 (bsL I) 0 1 3 from rfl) (show _ = tw2 (bsL I) 0 1 4 from rfl)
  have a0 : Ja 8 0 = (lw2 I 0 1).1 := o0.trans (congrArg (fun x => x.1) hl)
  have a1 : Ja 8 1 = (lw2 I 0 1).2 := o1.trans (congrArg (fun x => x.2) hl)
  clear o0 o1 hl
  refine bX7_tables_126 rfl (fun _ => ?_) (fun c => absurd c (by simp only [hn]; decide))
  refine bX7_tables_157  ?_
  refine bX7_tables_158 (j207 := 3) (j268 := 4) (j286 := 5) (v290 := nI 2) he hq rfl hd he hq (by decide) rfl (by decide) rfl (by decide) rfl rfl rfl ?_
  refine k _ ?_ ?_ ?_ ?_ ?_
  · exact (show _ = tvX I (x1 * x1) (Ja 8 0) (tvY I (x1 * x1) (Ja 8 1) 0) 0 from rfl).trans (by rw [a0, a1]; rfl)
  · exact (show _ = tvY I (x1 * x1) (Ja 8 1) 0 from rfl).trans (by rw [a1]; rfl)
  · rfl
  · intro t h1 h2 h3; simp only [sa_uJ_off h1, sa_uJ_off h2, sa_uJ_off h3, g 2 (by decide)]; rfl
  · intro q h1 h2; simp only [sa_uJ_ne h1, g q h2, sa_uJ_ne h2]
theorem tb7_2_10 {x1 : Int64} (hn : I 0 1 = nI 2) (hq : ¬ x1 * x1 = 0) (he : ¬ (I 0 9).toInt64 = 0) (hd : ¬ (I 0 6).toInt64 = 0) (k : ∀ Jm : sa_J, Jm 2 9 = (tb2L I (x1 * x1) 1 0).1 → Jm 2 10 = (tb2L I (x1 * x1) 1 0).2.1 → Jm 2 11 = (tb2L I (x1 * x1) 1 0).2.2 → (∀ t, t ≠ 9 → t ≠ 10 → t ≠ 11 → Jm 2 t = J 2 t) → (∀ q, q ≠ 2 → q ≠ 8 → Jm q = J q) → Sat (ER l D aI aL ad) M_X7_tables P 25 [(0, .ref (ad 0)), (1, .long x1), (3, .int (nI 1)), (4, .int (nI 1))] [] I Jm) : Sat (ER l D aI aL ad) M_X7_tables P 34 [(0, .ref (ad 0)), (1, .long x1), (3, .int (nI 1)), (4, .int (nI 0))] [] I J := by
  refine bX7_tables_34 (v35 := nI 0) rfl ?_
  refine bX7_tables_37  (fun c => absurd c (by decide)) (fun _ => ?_)
  refine bX7_tables_43 (j47 := 0) (v51 := nI 1) rfl (by decide) rfl rfl ?_
  refine bX7_tables_37  (fun c => absurd c (by decide)) (fun _ => ?_)
  refine bX7_tables_43 (j47 := 1) (v51 := nI 2) rfl (by decide) rfl rfl ?_
  refine bX7_tables_37  (fun c => absurd c (by decide)) (fun _ => ?_)
  refine bX7_tables_43 (j47 := 2) (v51 := nI 3) rfl (by decide) rfl rfl ?_
  refine bX7_tables_37  (fun c => absurd c (by decide)) (fun _ => ?_)
  refine bX7_tables_43 (j47 := 3) (v51 := nI 4) rfl (by decide) rfl rfl ?_
  refine bX7_tables_37  (fun c => absurd c (by decide)) (fun _ => ?_)
  refine bX7_tables_43 (j47 := 4) (v51 := nI 5) rfl (by decide) rfl rfl ?_
  refine bX7_tables_37  (fun _ => ?_) (fun c => absurd c (by decide))
  refine bX7_tables_57 (v58 := nI 0) rfl ?_
  refine bX7_tables_60  (fun c => absurd c (by simp only [hn]; decide)) (fun _ => ?_)
  refine bX7_tables_69 (v70 := nI 0) rfl ?_
  refine bX7_tables_72  (fun c => absurd c (by simp only [hn]; decide)) (fun _ => ?_)
  refine bX7_tables_81 (j89 := 0) rfl (by decide) ?_
  refine v_X7_199 dX7_tables_96 rfl ⟨rfl, rfl, Nat.le_of_ble_eq_true rfl, Nat.le_of_ble_eq_true rfl⟩ (c_base10) rfl rfl (Nat.le_of_ble_eq_true rfl) (fun r I1 J1 hp => ?_)
  obtain ⟨rfl, e2, e3⟩ := hp
  obtain rfl := e2.symm
  obtain rfl := e3.symm
  refine bX7_tables_99  ?_
  refine v_X7_199 dX7_tables_104 rfl ⟨rfl, rfl, Nat.le_of_ble_eq_true rfl, Nat.le_of_ble_eq_true rfl⟩ (c_base00) rfl rfl (Nat.le_of_ble_eq_true rfl) (fun r I1 J1 hp => ?_)
  obtain ⟨rfl, e2, e3⟩ := hp
  obtain rfl := e2.symm
  obtain rfl := e3.symm
  refine bX7_tables_107 (s1 := 0) (v110 := nI 1) (v109 := 0 + bsL I 1 0 * bsL I 0 0) (by decide) rfl rfl ?_
  refine bX7_tables_72  (fun c => absurd c (by simp only [hn]; decide)) (fun _ => ?_)
  refine bX7_tables_81 (j89 := 1) rfl (by decide) ?_
  refine v_X7_199 dX7_tables_96 rfl ⟨rfl, rfl, Nat.le_of_ble_eq_true rfl, Nat.le_of_ble_eq_true rfl⟩ (c_base10) rfl rfl (Nat.le_of_ble_eq_true rfl) (fun r I1 J1 hp => ?_)
  obtain ⟨rfl, e2, e3⟩ := hp
  obtain rfl := e2.symm
  obtain rfl := e3.symm
  refine bX7_tables_99  ?_
  refine v_X7_199 dX7_tables_104 rfl ⟨rfl, rfl, Nat.le_of_ble_eq_true rfl, Nat.le_of_ble_eq_true rfl⟩ (c_base01) rfl rfl (Nat.le_of_ble_eq_true rfl) (fun r I1 J1 hp => ?_)
  obtain ⟨rfl, e2, e3⟩ := hp
  obtain rfl := e2.symm
  obtain rfl := e3.symm
  refine bX7_tables_107 (s1 := 1) (v110 := nI 2) (v109 := 0 + bsL I 1 0 * bsL I 0 1) (by decide) rfl rfl ?_
  refine bX7_tables_72  (fun _ => ?_) (fun c => absurd c (by simp only [hn]; decide))
  refine bX7_tables_116 (v116 := nI 1) rfl ?_
  refine bX7_tables_60  (fun c => absurd c (by simp only [hn]; decide)) (fun _ => ?_)
  refine bX7_tables_69 (v70 := nI 0) rfl ?_
  refine bX7_tables_72  (fun c => absurd c (by simp only [hn]; decide)) (fun _ => ?_)
  refine bX7_tables_81 (j89 := 1) rfl (by decide) ?_
  refine v_X7_199 dX7_tables_96 rfl ⟨rfl, rfl, Nat.le_of_ble_eq_true rfl, Nat.le_of_ble_eq_true rfl⟩ (c_base11) rfl rfl (Nat.le_of_ble_eq_true rfl) (fun r I1 J1 hp => ?_)
  obtain ⟨rfl, e2, e3⟩ := hp
  obtain rfl := e2.symm
  obtain rfl := e3.symm
  refine bX7_tables_99  ?_
  refine v_X7_199 dX7_tables_104 rfl ⟨rfl, rfl, Nat.le_of_ble_eq_true rfl, Nat.le_of_ble_eq_true rfl⟩ (c_base00) rfl rfl (Nat.le_of_ble_eq_true rfl) (fun r I1 J1 hp => ?_)
  obtain ⟨rfl, e2, e3⟩ := hp
  obtain rfl := e2.symm
  obtain rfl := e3.symm
  refine bX7_tables_107 (s1 := 1) (v110 := nI 1) (v109 := 0 + bsL I 1 0 * bsL I 0 1 + bsL I 1 1 * bsL I 0 0) (by decide) rfl rfl ?_
  refine bX7_tables_72  (fun c => absurd c (by simp only [hn]; decide)) (fun _ => ?_)
  refine bX7_tables_81 (j89 := 2) rfl (by decide) ?_
  refine v_X7_199 dX7_tables_96 rfl ⟨rfl, rfl, Nat.le_of_ble_eq_true rfl, Nat.le_of_ble_eq_true rfl⟩ (c_base11) rfl rfl (Nat.le_of_ble_eq_true rfl) (fun r I1 J1 hp => ?_)
  obtain ⟨rfl, e2, e3⟩ := hp
  obtain rfl := e2.symm
  obtain rfl := e3.symm
  refine bX7_tables_99  ?_
  refine v_X7_199 dX7_tables_104 rfl ⟨rfl, rfl, Nat.le_of_ble_eq_true rfl, Nat.le_of_ble_eq_true rfl⟩ (c_base01) rfl rfl (Nat.le_of_ble_eq_true rfl) (fun r I1 J1 hp => ?_)
  obtain ⟨rfl, e2, e3⟩ := hp
  obtain rfl := e2.symm
  obtain rfl := e3.symm
  refine bX7_tables_107 (s1 := 2) (v110 := nI 2) (v109 := 0 + bsL I 1 1 * bsL I 0 1) (by decide) rfl rfl ?_
  refine bX7_tables_72  (fun _ => ?_) (fun c => absurd c (by simp only [hn]; decide))
  refine bX7_tables_116 (v116 := nI 2) rfl ?_
  refine bX7_tables_60  (fun _ => ?_) (fun c => absurd c (by simp only [hn]; decide))
  refine bX7_tables_122  ?_
  refine v_X7_186 dX7_tables_123 rfl ⟨rfl, rfl, Nat.le_of_ble_eq_true rfl, Nat.le_of_ble_eq_true rfl⟩ (c_lower2 hn) rfl rfl (Nat.le_of_ble_eq_true rfl) (fun r I1 Ja hp => ?_)
  obtain ⟨rfl, e2, o0, o1, g⟩ := hp
  obtain rfl := e2.symm
  have hl := lo2_congr (a := (I 0 2).toInt64) (b := (I 0 3).toInt64) (show _ = tw2 (bsL I) 1 0 0 from rfl) (show _ = tw2 (bsL I) 1 0 1 from rfl) (show _ = tw2 (bsL I) 1 0 2 from rfl) (show _ = tw2 (bsL I) 1 0 3 from rfl) (show _ = tw2 (bsL I) 1 0 4 from rfl)
  have a0 : Ja 8 0 = (lw2 I 1 0).1 := o0.trans (congrArg (fun x => x.1) hl)
  have a1 : Ja 8 1 = (lw2 I 1 0).2 := o1.trans (congrArg (fun x => x.2) hl)
  clear o0 o1 hl
  refine bX7_tables_126 rfl (fun _ => ?_) (fun c => absurd c (by simp only [hn]; decide))
  refine bX7_tables_157  ?_
  refine bX7_tables_158 (j207 := 9) (j268 := 10) (j286 := 11) (v290 := nI 1) he hq rfl hd he hq (by decide) rfl (by decide) rfl (by decide) rfl rfl rfl ?_
  refine k _ ?_ ?_ ?_ ?_ ?_
  · exact (show _ = tvX I (x1 * x1) (Ja 8 0) (tvY I (x1 * x1) (Ja 8 1) 0) 0 from rfl).trans (by rw [a0, a1]; rfl)
  · exact (show _ = tvY I (x1 * x1) (Ja 8 1) 0 from rfl).trans (by rw [a1]; rfl)
  · rfl
  · intro t h1 h2 h3; simp only [sa_uJ_off h1, sa_uJ_off h2, sa_uJ_off h3, g 2 (by decide)]; rfl
  · intro q h1 h2; simp only [sa_uJ_ne h1, g q h2, sa_uJ_ne h2]
theorem tb7_2_11 {x1 : Int64} (hn : I 0 1 = nI 2) (hq : ¬ x1 * x1 = 0) (he : ¬ (I 0 9).toInt64 = 0) (hd : ¬ (I 0 6).toInt64 = 0) (k : ∀ Jm : sa_J, Jm 2 12 = (tb2L I (x1 * x1) 1 1).1 → Jm 2 13 = (tb2L I (x1 * x1) 1 1).2.1 → Jm 2 14 = (tb2L I (x1 * x1) 1 1).2.2 → (∀ t, t ≠ 12 → t ≠ 13 → t ≠ 14 → Jm 2 t = J 2 t) → (∀ q, q ≠ 2 → q ≠ 8 → Jm q = J q) → Sat (ER l D aI aL ad) M_X7_tables P 25 [(0, .ref (ad 0)), (1, .long x1), (3, .int (nI 1)), (4, .int (nI 2))] [] I Jm) : Sat (ER l D aI aL ad) M_X7_tables P 34 [(0, .ref (ad 0)), (1, .long x1), (3, .int (nI 1)), (4, .int (nI 1))] [] I J := by
  refine bX7_tables_34 (v35 := nI 0) rfl ?_
  refine bX7_tables_37  (fun c => absurd c (by decide)) (fun _ => ?_)
  refine bX7_tables_43 (j47 := 0) (v51 := nI 1) rfl (by decide) rfl rfl ?_
  refine bX7_tables_37  (fun c => absurd c (by decide)) (fun _ => ?_)
  refine bX7_tables_43 (j47 := 1) (v51 := nI 2) rfl (by decide) rfl rfl ?_
  refine bX7_tables_37  (fun c => absurd c (by decide)) (fun _ => ?_)
  refine bX7_tables_43 (j47 := 2) (v51 := nI 3) rfl (by decide) rfl rfl ?_
  refine bX7_tables_37  (fun c => absurd c (by decide)) (fun _ => ?_)
  refine bX7_tables_43 (j47 := 3) (v51 := nI 4) rfl (by decide) rfl rfl ?_
  refine bX7_tables_37  (fun c => absurd c (by decide)) (fun _ => ?_)
  refine bX7_tables_43 (j47 := 4) (v51 := nI 5) rfl (by decide) rfl rfl ?_
  refine bX7_tables_37  (fun _ => ?_) (fun c => absurd c (by decide))
  refine bX7_tables_57 (v58 := nI 0) rfl ?_
  refine bX7_tables_60  (fun c => absurd c (by simp only [hn]; decide)) (fun _ => ?_)
  refine bX7_tables_69 (v70 := nI 0) rfl ?_
  refine bX7_tables_72  (fun c => absurd c (by simp only [hn]; decide)) (fun _ => ?_)
  refine bX7_tables_81 (j89 := 0) rfl (by decide) ?_
  refine v_X7_199 dX7_tables_96 rfl ⟨rfl, rfl, Nat.le_of_ble_eq_true rfl, Nat.le_of_ble_eq_true rfl⟩ (c_base10) rfl rfl (Nat.le_of_ble_eq_true rfl) (fun r I1 J1 hp => ?_)
  obtain ⟨rfl, e2, e3⟩ := hp
  obtain rfl := e2.symm
  obtain rfl := e3.symm
  refine bX7_tables_99  ?_
  refine v_X7_199 dX7_tables_104 rfl ⟨rfl, rfl, Nat.le_of_ble_eq_true rfl, Nat.le_of_ble_eq_true rfl⟩ (c_base10) rfl rfl (Nat.le_of_ble_eq_true rfl) (fun r I1 J1 hp => ?_)
  obtain ⟨rfl, e2, e3⟩ := hp
  obtain rfl := e2.symm
  obtain rfl := e3.symm
  refine bX7_tables_107 (s1 := 0) (v110 := nI 1) (v109 := 0 + bsL I 1 0 * bsL I 1 0) (by decide) rfl rfl ?_
  refine bX7_tables_72  (fun c => absurd c (by simp only [hn]; decide)) (fun _ => ?_)
  refine bX7_tables_81 (j89 := 1) rfl (by decide) ?_
  refine v_X7_199 dX7_tables_96 rfl ⟨rfl, rfl, Nat.le_of_ble_eq_true rfl, Nat.le_of_ble_eq_true rfl⟩ (c_base10) rfl rfl (Nat.le_of_ble_eq_true rfl) (fun r I1 J1 hp => ?_)
  obtain ⟨rfl, e2, e3⟩ := hp
  obtain rfl := e2.symm
  obtain rfl := e3.symm
  refine bX7_tables_99  ?_
  refine v_X7_199 dX7_tables_104 rfl ⟨rfl, rfl, Nat.le_of_ble_eq_true rfl, Nat.le_of_ble_eq_true rfl⟩ (c_base11) rfl rfl (Nat.le_of_ble_eq_true rfl) (fun r I1 J1 hp => ?_)
  obtain ⟨rfl, e2, e3⟩ := hp
  obtain rfl := e2.symm
  obtain rfl := e3.symm
  refine bX7_tables_107 (s1 := 1) (v110 := nI 2) (v109 := 0 + bsL I 1 0 * bsL I 1 1) (by decide) rfl rfl ?_
  refine bX7_tables_72  (fun _ => ?_) (fun c => absurd c (by simp only [hn]; decide))
  refine bX7_tables_116 (v116 := nI 1) rfl ?_
  refine bX7_tables_60  (fun c => absurd c (by simp only [hn]; decide)) (fun _ => ?_)
  refine bX7_tables_69 (v70 := nI 0) rfl ?_
  refine bX7_tables_72  (fun c => absurd c (by simp only [hn]; decide)) (fun _ => ?_)
  refine bX7_tables_81 (j89 := 1) rfl (by decide) ?_
  refine v_X7_199 dX7_tables_96 rfl ⟨rfl, rfl, Nat.le_of_ble_eq_true rfl, Nat.le_of_ble_eq_true rfl⟩ (c_base11) rfl rfl (Nat.le_of_ble_eq_true rfl) (fun r I1 J1 hp => ?_)
  obtain ⟨rfl, e2, e3⟩ := hp
  obtain rfl := e2.symm
  obtain rfl := e3.symm
  refine bX7_tables_99  ?_
  refine v_X7_199 dX7_tables_104 rfl ⟨rfl, rfl, Nat.le_of_ble_eq_true rfl, Nat.le_of_ble_eq_true rfl⟩ (c_base10) rfl rfl (Nat.le_of_ble_eq_true rfl) (fun r I1 J1 hp => ?_)
  obtain ⟨rfl, e2, e3⟩ := hp
  obtain rfl := e2.symm
  obtain rfl := e3.symm
  refine bX7_tables_107 (s1 := 1) (v110 := nI 1) (v109 := 0 + bsL I 1 0 * bsL I 1 1 + bsL I 1 1 * bsL I 1 0) (by decide) rfl rfl ?_
  refine bX7_tables_72  (fun c => absurd c (by simp only [hn]; decide)) (fun _ => ?_)
  refine bX7_tables_81 (j89 := 2) rfl (by decide) ?_
  refine v_X7_199 dX7_tables_96 rfl ⟨rfl, rfl, Nat.le_of_ble_eq_true rfl, Nat.le_of_ble_eq_true rfl⟩ (c_base11) rfl rfl (Nat.le_of_ble_eq_true rfl) (fun r I1 J1 hp => ?_)
  obtain ⟨rfl, e2, e3⟩ := hp
  obtain rfl := e2.symm
  obtain rfl := e3.symm
  refine bX7_tables_99  ?_
  refine v_X7_199 dX7_tables_104 rfl ⟨rfl, rfl, Nat.le_of_ble_eq_true rfl, Nat.le_of_ble_eq_true rfl⟩ (c_base11) rfl rfl (Nat.le_of_ble_eq_true rfl) (fun r I1 J1 hp => ?_)
  obtain ⟨rfl, e2, e3⟩ := hp
  obtain rfl := e2.symm
  obtain rfl := e3.symm
  refine bX7_tables_107 (s1 := 2) (v110 := nI 2) (v109 := 0 + bsL I 1 1 * bsL I 1 1) (by decide) rfl rfl ?_
  refine bX7_tables_72  (fun _ => ?_) (fun c => absurd c (by simp only [hn]; decide))
  refine bX7_tables_116 (v116 := nI 2) rfl ?_
  refine bX7_tables_60  (fun _ => ?_) (fun c => absurd c (by simp only [hn]; decide))
  refine bX7_tables_122  ?_
  refine v_X7_186 dX7_tables_123 rfl ⟨rfl, rfl, Nat.le_of_ble_eq_true rfl, Nat.le_of_ble_eq_true rfl⟩ (c_lower2 hn) rfl rfl (Nat.le_of_ble_eq_true rfl) (fun r I1 Ja hp => ?_)
  obtain ⟨rfl, e2, o0, o1, g⟩ := hp
  obtain rfl := e2.symm
  have hl := lo2_congr (a := (I 0 2).toInt64) (b := (I 0 3).toInt64) (show _ = tw2 (bsL I) 1 1 0 from rfl) (show _ = tw2 (bsL I) 1 1 1 from rfl) (show _ = tw2 (bsL I) 1 1 2 from rfl) (show _ = tw2 (bsL I) 1 1 3 from rfl) (show _ = tw2 (bsL I) 1 1 4 from rfl)
  have a0 : Ja 8 0 = (lw2 I 1 1).1 := o0.trans (congrArg (fun x => x.1) hl)
  have a1 : Ja 8 1 = (lw2 I 1 1).2 := o1.trans (congrArg (fun x => x.2) hl)
  clear o0 o1 hl
  refine bX7_tables_126 rfl (fun _ => ?_) (fun c => absurd c (by simp only [hn]; decide))
  refine bX7_tables_157  ?_
  refine bX7_tables_158 (j207 := 12) (j268 := 13) (j286 := 14) (v290 := nI 2) he hq rfl hd he hq (by decide) rfl (by decide) rfl (by decide) rfl rfl rfl ?_
  refine k _ ?_ ?_ ?_ ?_ ?_
  · exact (show _ = tvX I (x1 * x1) (Ja 8 0) (tvY I (x1 * x1) (Ja 8 1) 0) 0 from rfl).trans (by rw [a0, a1]; rfl)
  · exact (show _ = tvY I (x1 * x1) (Ja 8 1) 0 from rfl).trans (by rw [a1]; rfl)
  · rfl
  · intro t h1 h2 h3; simp only [sa_uJ_off h1, sa_uJ_off h2, sa_uJ_off h3, g 2 (by decide)]; rfl
  · intro q h1 h2; simp only [sa_uJ_ne h1, g q h2, sa_uJ_ne h2]
theorem c_tables2 (hn : I 0 1 = nI 2) (hq : ¬ ((I 0 6).toInt64 * (I 0 9).toInt64 * ((I 0 6).toInt64 * (I 0 9).toInt64)) = 0) (he : ¬ (I 0 9).toInt64 = 0) (hd : ¬ (I 0 6).toInt64 = 0) : Con (ER l D aI aL ad) M_X7_tables yX7_tables [.ref (ad 0)] I J (fun r I1 J1 => r = none ∧ I1 = I ∧ (J1 2 0 = (tb2L I ((I 0 6).toInt64 * (I 0 9).toInt64 * ((I 0 6).toInt64 * (I 0 9).toInt64)) 0 0).1 ∧ J1 2 1 = (tb2L I ((I 0 6).toInt64 * (I 0 9).toInt64 * ((I 0 6).toInt64 * (I 0 9).toInt64)) 0 0).2.1 ∧ J1 2 2 = (tb2L I ((I 0 6).toInt64 * (I 0 9).toInt64 * ((I 0 6).toInt64 * (I 0 9).toInt64)) 0 0).2.2) ∧ (J1 2 3 = (tb2L I ((I 0 6).toInt64 * (I 0 9).toInt64 * ((I 0 6).toInt64 * (I 0 9).toInt64)) 0 1).1 ∧ J1 2 4 = (tb2L I ((I 0 6).toInt64 * (I 0 9).toInt64 * ((I 0 6).toInt64 * (I 0 9).toInt64)) 0 1).2.1 ∧ J1 2 5 = (tb2L I ((I 0 6).toInt64 * (I 0 9).toInt64 * ((I 0 6).toInt64 * (I 0 9).toInt64)) 0 1).2.2) ∧ (J1 2 9 = (tb2L I ((I 0 6).toInt64 * (I 0 9).toInt64 * ((I 0 6).toInt64 * (I 0 9).toInt64)) 1 0).1 ∧ J1 2 10 = (tb2L I ((I 0 6).toInt64 * (I 0 9).toInt64 * ((I 0 6).toInt64 * (I 0 9).toInt64)) 1 0).2.1 ∧ J1 2 11 = (tb2L I ((I 0 6).toInt64 * (I 0 9).toInt64 * ((I 0 6).toInt64 * (I 0 9).toInt64)) 1 0).2.2) ∧ (J1 2 12 = (tb2L I ((I 0 6).toInt64 * (I 0 9).toInt64 * ((I 0 6).toInt64 * (I 0 9).toInt64)) 1 1).1 ∧ J1 2 13 = (tb2L I ((I 0 6).toInt64 * (I 0 9).toInt64 * ((I 0 6).toInt64 * (I 0 9).toInt64)) 1 1).2.1 ∧ J1 2 14 = (tb2L I ((I 0 6).toInt64 * (I 0 9).toInt64 * ((I 0 6).toInt64 * (I 0 9).toInt64)) 1 1).2.2) ∧ ∀ q, q ≠ 2 → q ≠ 8 → J1 q = J q) := by
  refine Con.of (by decide +kernel) rfl (Nat.le_of_ble_eq_true rfl) ?_
  refine bX7_tables_0 (v13 := nI 0) rfl rfl ?_
  refine bX7_tables_14 (fun c => absurd c (by simp only [hn]; decide)) (fun _ => ?_)
  refine bX7_tables_22 (v23 := nI 0) rfl ?_
  refine bX7_tables_25 (fun c => absurd c (by simp only [hn]; decide)) (fun _ => ?_)
  refine tb7_2_00 hn hq he hd (fun J00 a00 b00 c00 f00 g00 => ?_)
  refine bX7_tables_25 (fun c => absurd c (by simp only [hn]; decide)) (fun _ => ?_)
  refine tb7_2_01 hn hq he hd (fun J01 a01 b01 c01 f01 g01 => ?_)
  refine bX7_tables_25 (fun _ => ?_) (fun c => absurd c (by simp only [hn]; decide))
  refine bX7_tables_296 (v296 := nI 1) rfl ?_
  refine bX7_tables_14 (fun c => absurd c (by simp only [hn]; decide)) (fun _ => ?_)
  refine bX7_tables_22 (v23 := nI 0) rfl ?_
  refine bX7_tables_25 (fun c => absurd c (by simp only [hn]; decide)) (fun _ => ?_)
  refine tb7_2_10 hn hq he hd (fun J10 a10 b10 c10 f10 g10 => ?_)
  refine bX7_tables_25 (fun c => absurd c (by simp only [hn]; decide)) (fun _ => ?_)
  refine tb7_2_11 hn hq he hd (fun J11 a11 b11 c11 f11 g11 => ?_)
  refine bX7_tables_25 (fun _ => ?_) (fun c => absurd c (by simp only [hn]; decide))
  refine bX7_tables_296 (v296 := nI 2) rfl ?_
  refine bX7_tables_14 (fun _ => ?_) (fun c => absurd c (by simp only [hn]; decide))
  refine bX7_tables_302 ⟨rfl, rfl, ⟨?_, ?_, ?_⟩, ⟨?_, ?_, ?_⟩, ⟨?_, ?_, ?_⟩, ⟨?_, ?_, ?_⟩, ?_⟩
  · exact (f11 0 (by decide) (by decide) (by decide)).trans ((f10 0 (by decide) (by decide) (by decide)).trans ((f01 0 (by decide) (by decide) (by decide)).trans (a00)))
  · exact (f11 1 (by decide) (by decide) (by decide)).trans ((f10 1 (by decide) (by decide) (by decide)).trans ((f01 1 (by decide) (by decide) (by decide)).trans (b00)))
  · exact (f11 2 (by decide) (by decide) (by decide)).trans ((f10 2 (by decide) (by decide) (by decide)).trans ((f01 2 (by decide) (by decide) (by decide)).trans (c00)))
  · exact (f11 3 (by decide) (by decide) (by decide)).trans ((f10 3 (by decide) (by decide) (by decide)).trans (a01))
  · exact (f11 4 (by decide) (by decide) (by decide)).trans ((f10 4 (by decide) (by decide) (by decide)).trans (b01))
  · exact (f11 5 (by decide) (by decide) (by decide)).trans ((f10 5 (by decide) (by decide) (by decide)).trans (c01))
  · exact (f11 9 (by decide) (by decide) (by decide)).trans (a10)
  · exact (f11 10 (by decide) (by decide) (by decide)).trans (b10)
  · exact (f11 11 (by decide) (by decide) (by decide)).trans (c10)
  · exact a11
  · exact b11
  · exact c11
  · intro q h1 h2; rw [g11 q h1 h2, g10 q h1 h2, g01 q h1 h2, g00 q h1 h2]
theorem tb7_3_00 {x1 : Int64} (hn : I 0 1 = nI 3) (hq : ¬ x1 * x1 = 0) (he : ¬ (I 0 9).toInt64 = 0) (hd : ¬ (I 0 6).toInt64 = 0) (k : ∀ Jm : sa_J, Jm 2 0 = (tb3L I (x1 * x1) 0 0).1 → Jm 2 1 = (tb3L I (x1 * x1) 0 0).2.1 → Jm 2 2 = (tb3L I (x1 * x1) 0 0).2.2 → (∀ t, t ≠ 0 → t ≠ 1 → t ≠ 2 → Jm 2 t = J 2 t) → (∀ q, q ≠ 2 → q ≠ 8 → Jm q = J q) → Sat (ER l D aI aL ad) M_X7_tables P 25 [(0, .ref (ad 0)), (1, .long x1), (3, .int (nI 0)), (4, .int (nI 1))] [] I Jm) : Sat (ER l D aI aL ad) M_X7_tables P 34 [(0, .ref (ad 0)), (1, .long x1), (3, .int (nI 0)), (4, .int (nI 0))] [] I J := by
  refine bX7_tables_34 (v35 := nI 0) rfl ?_
  refine bX7_tables_37  (fun c => absurd c (by decide)) (fun _ => ?_)
  refine bX7_tables_43 (j47 := 0) (v51 := nI 1) rfl (by decide) rfl rfl ?_
  refine bX7_tables_37  (fun c => absurd c (by decide)) (fun _ => ?_)
  refine bX7_tables_43 (j47 := 1) (v51 := nI 2) rfl (by decide) rfl rfl ?_
  refine bX7_tables_37  (fun c => absurd c (by decide)) (fun _ => ?_)
  refine bX7_tables_43 (j47 := 2) (v51 := nI 3) rfl (by decide) rfl rfl ?_
  refine bX7_tables_37  (fun c => absurd c (by decide)) (fun _ => ?_)
  refine bX7_tables_43 (j47 := 3) (v51 := nI 4) rfl (by decide) rfl rfl ?_
  refine bX7_tables_37  (fun c => absurd c (by decide)) (fun _ => ?_)
  refine bX7_tables_43 (j47 := 4) (v51 := nI 5) rfl (by decide) rfl rfl ?_
  refine bX7_tables_37  (fun _ => ?_) (fun c => absurd c (by decide))
  refine bX7_tables_57 (v58 := nI 0) rfl ?_
  refine bX7_tables_60  (fun c => absurd c (by simp only [hn]; decide)) (fun _ => ?_)
  refine bX7_tables_69 (v70 := nI 0) rfl ?_
  refine bX7_tables_72  (fun c => absurd c (by simp only [hn]; decide)) (fun _ => ?_)
  refine bX7_tables_81 (j89 := 0) rfl (by decide) ?_
  refine v_X7_199 dX7_tables_96 rfl ⟨rfl, rfl, Nat.le_of_ble_eq_true rfl, Nat.le_of_ble_eq_true rfl⟩ (c_base00) rfl rfl (Nat.le_of_ble_eq_true rfl) (fun r I1 J1 hp => ?_)
  obtain ⟨rfl, e2, e3⟩ := hp
  obtain rfl := e2.symm
  obtain rfl := e3.symm
  refine bX7_tables_99  ?_
  refine v_X7_199 dX7_tables_104 rfl ⟨rfl, rfl, Nat.le_of_ble_eq_true rfl, Nat.le_of_ble_eq_true rfl⟩ (c_base00) rfl rfl (Nat.le_of_ble_eq_true rfl) (fun r I1 J1 hp => ?_)
  obtain ⟨rfl, e2, e3⟩ := hp
  obtain rfl := e2.symm
  obtain rfl := e3.symm
  refine bX7_tables_107 (s1 := 0) (v110 := nI 1) (v109 := 0 + bsL I 0 0 * bsL I 0 0) (by decide) rfl rfl ?_
  refine bX7_tables_72  (fun c => absurd c (by simp only [hn]; decide)) (fun _ => ?_)
  refine bX7_tables_81 (j89 := 1) rfl (by decide) ?_
  refine v_X7_199 dX7_tables_96 rfl ⟨rfl, rfl, Nat.le_of_ble_eq_true rfl, Nat.le_of_ble_eq_true rfl⟩ (c_base00) rfl rfl (Nat.le_of_ble_eq_true rfl) (fun r I1 J1 hp => ?_)
  obtain ⟨rfl, e2, e3⟩ := hp
  obtain rfl := e2.symm
  obtain rfl := e3.symm
  refine bX7_tables_99  ?_
  refine v_X7_199 dX7_tables_104 rfl ⟨rfl, rfl, Nat.le_of_ble_eq_true rfl, Nat.le_of_ble_eq_true rfl⟩ (c_base01) rfl rfl (Nat.le_of_ble_eq_true rfl) (fun r I1 J1 hp => ?_)
  obtain ⟨rfl, e2, e3⟩ := hp
  obtain rfl := e2.symm
  obtain rfl := e3.symm
  refine bX7_tables_107 (s1 := 1) (v110 := nI 2) (v109 := 0 + bsL I 0 0 * bsL I 0 1) (by decide) rfl rfl ?_
  refine bX7_tables_72  (fun c => absurd c (by simp only [hn]; decide)) (fun _ => ?_)
  refine bX7_tables_81 (j89 := 2) rfl (by decide) ?_
  refine v_X7_199 dX7_tables_96 rfl ⟨rfl, rfl, Nat.le_of_ble_eq_true rfl, Nat.le_of_ble_eq_true rfl⟩ (c_base00) rfl rfl (Nat.le_of_ble_eq_true rfl) (fun r I1 J1 hp => ?_)
  obtain ⟨rfl, e2, e3⟩ := hp
  obtain rfl := e2.symm
  obtain rfl := e3.symm
  refine bX7_tables_99  ?_
  refine v_X7_199 dX7_tables_104 rfl ⟨rfl, rfl, Nat.le_of_ble_eq_true rfl, Nat.le_of_ble_eq_true rfl⟩ (c_base02) rfl rfl (Nat.le_of_ble_eq_true rfl) (fun r I1 J1 hp => ?_)
  obtain ⟨rfl, e2, e3⟩ := hp
  obtain rfl := e2.symm
  obtain rfl := e3.symm
  refine bX7_tables_107 (s1 := 2) (v110 := nI 3) (v109 := 0 + bsL I 0 0 * bsL I 0 2) (by decide) rfl rfl ?_
  refine bX7_tables_72  (fun _ => ?_) (fun c => absurd c (by simp only [hn]; decide))
  refine bX7_tables_116 (v116 := nI 1) rfl ?_
  refine bX7_tables_60  (fun c => absurd c (by simp only [hn]; decide)) (fun _ => ?_)
  refine bX7_tables_69 (v70 := nI 0) rfl ?_
  refine bX7_tables_72  (fun c => absurd c (by simp only [hn]; decide)) (fun _ => ?_)
  refine bX7_tables_81 (j89 := 1) rfl (by decide) ?_
  refine v_X7_199 dX7_tables_96 rfl ⟨rfl, rfl, Nat.le_of_ble_eq_true rfl, Nat.le_of_ble_eq_true rfl⟩ (c_base01) rfl rfl (Nat.le_of_ble_eq_true rfl) (fun r I1 J1 hp => ?_)
  obtain ⟨rfl, e2, e3⟩ := hp
  obtain rfl := e2.symm
  obtain rfl := e3.symm
  refine bX7_tables_99  ?_
  refine v_X7_199 dX7_tables_104 rfl ⟨rfl, rfl, Nat.le_of_ble_eq_true rfl, Nat.le_of_ble_eq_true rfl⟩ (c_base00) rfl rfl (Nat.le_of_ble_eq_true rfl) (fun r I1 J1 hp => ?_)
  obtain ⟨rfl, e2, e3⟩ := hp
  obtain rfl := e2.symm
  obtain rfl := e3.symm
  refine bX7_tables_107 (s1 := 1) (v110 := nI 1) (v109 := 0 + bsL I 0 0 * bsL I 0 1 + bsL I 0 1 * bsL I 0 0) (by decide) rfl rfl ?_
  refine bX7_tables_72  (fun c => absurd c (by simp only [hn]; decide)) (fun _ => ?_)
  refine bX7_tables_81 (j89 := 2) rfl (by decide) ?_
  refine v_X7_199 dX7_tables_96 rfl ⟨rfl, rfl, Nat.le_of_ble_eq_true rfl, Nat.le_of_ble_eq_true rfl⟩ (c_base01) rfl rfl (Nat.le_of_ble_eq_true rfl) (fun r I1 J1 hp => ?_)
  obtain ⟨rfl, e2, e3⟩ := hp
  obtain rfl := e2.symm
  obtain rfl := e3.symm
  refine bX7_tables_99  ?_
  refine v_X7_199 dX7_tables_104 rfl ⟨rfl, rfl, Nat.le_of_ble_eq_true rfl, Nat.le_of_ble_eq_true rfl⟩ (c_base01) rfl rfl (Nat.le_of_ble_eq_true rfl) (fun r I1 J1 hp => ?_)
  obtain ⟨rfl, e2, e3⟩ := hp
  obtain rfl := e2.symm
  obtain rfl := e3.symm
  refine bX7_tables_107 (s1 := 2) (v110 := nI 2) (v109 := 0 + bsL I 0 0 * bsL I 0 2 + bsL I 0 1 * bsL I 0 1) (by decide) rfl rfl ?_
  refine bX7_tables_72  (fun c => absurd c (by simp only [hn]; decide)) (fun _ => ?_)
  refine bX7_tables_81 (j89 := 3) rfl (by decide) ?_
  refine v_X7_199 dX7_tables_96 rfl ⟨rfl, rfl, Nat.le_of_ble_eq_true rfl, Nat.le_of_ble_eq_true rfl⟩ (c_base01) rfl rfl (Nat.le_of_ble_eq_true rfl) (fun r I1 J1 hp => ?_)
  obtain ⟨rfl, e2, e3⟩ := hp
  obtain rfl := e2.symm
  obtain rfl := e3.symm
  refine bX7_tables_99  ?_
  refine v_X7_199 dX7_tables_104 rfl ⟨rfl, rfl, Nat.le_of_ble_eq_true rfl, Nat.le_of_ble_eq_true rfl⟩ (c_base02) rfl rfl (Nat.le_of_ble_eq_true rfl) (fun r I1 J1 hp => ?_)
  obtain ⟨rfl, e2, e3⟩ := hp
  obtain rfl := e2.symm
  obtain rfl := e3.symm
  refine bX7_tables_107 (s1 := 3) (v110 := nI 3) (v109 := 0 + bsL I 0 1 * bsL I 0 2) (by decide) rfl rfl ?_
  refine bX7_tables_72  (fun _ => ?_) (fun c => absurd c (by simp only [hn]; decide))
  refine bX7_tables_116 (v116 := nI 2) rfl ?_
  refine bX7_tables_60  (fun c => absurd c (by simp only [hn]; decide)) (fun _ => ?_)
  refine bX7_tables_69 (v70 := nI 0) rfl ?_
  refine bX7_tables_72  (fun c => absurd c (by simp only [hn]; decide)) (fun _ => ?_)
  refine bX7_tables_81 (j89 := 2) rfl (by decide) ?_
  refine v_X7_199 dX7_tables_96 rfl ⟨rfl, rfl, Nat.le_of_ble_eq_true rfl, Nat.le_of_ble_eq_true rfl⟩ (c_base02) rfl rfl (Nat.le_of_ble_eq_true rfl) (fun r I1 J1 hp => ?_)
  obtain ⟨rfl, e2, e3⟩ := hp
  obtain rfl := e2.symm
  obtain rfl := e3.symm
  refine bX7_tables_99  ?_
  refine v_X7_199 dX7_tables_104 rfl ⟨rfl, rfl, Nat.le_of_ble_eq_true rfl, Nat.le_of_ble_eq_true rfl⟩ (c_base00) rfl rfl (Nat.le_of_ble_eq_true rfl) (fun r I1 J1 hp => ?_)
  obtain ⟨rfl, e2, e3⟩ := hp
  obtain rfl := e2.symm
  obtain rfl := e3.symm
  refine bX7_tables_107 (s1 := 2) (v110 := nI 1) (v109 := 0 + bsL I 0 0 * bsL I 0 2 + bsL I 0 1 * bsL I 0 1 + bsL I 0 2 * bsL I 0 0) (by decide) rfl rfl ?_
  refine bX7_tables_72  (fun c => absurd c (by simp only [hn]; decide)) (fun _ => ?_)
  refine bX7_tables_81 (j89 := 3) rfl (by decide) ?_
  refine v_X7_199 dX7_tables_96 rfl ⟨rfl, rfl, Nat.le_of_ble_eq_true rfl, Nat.le_of_ble_eq_true rfl⟩ (c_base02) rfl rfl (Nat.le_of_ble_eq_true rfl) (fun r I1 J1 hp => ?_)
  obtain ⟨rfl, e2, e3⟩ := hp
  obtain rfl := e2.symm
  obtain rfl := e3.symm
  refine bX7_tables_99  ?_
  refine v_X7_199 dX7_tables_104 rfl ⟨rfl, rfl, Nat.le_of_ble_eq_true rfl, Nat.le_of_ble_eq_true rfl⟩ (c_base01) rfl rfl (Nat.le_of_ble_eq_true rfl) (fun r I1 J1 hp => ?_)
  obtain ⟨rfl, e2, e3⟩ := hp
  obtain rfl := e2.symm
  obtain rfl := e3.symm
  refine bX7_tables_107 (s1 := 3) (v110 := nI 2) (v109 := 0 + bsL I 0 1 * bsL I 0 2 + bsL I 0 2 * bsL I 0 1) (by decide) rfl rfl ?_
  refine bX7_tables_72  (fun c => absurd c (by simp only [hn]; decide)) (fun _ => ?_)
  refine bX7_tables_81 (j89 := 4) rfl (by decide) ?_
  refine v_X7_199 dX7_tables_96 rfl ⟨rfl, rfl, Nat.le_of_ble_eq_true rfl, Nat.le_of_ble_eq_true rfl⟩ (c_base02) rfl rfl (Nat.le_of_ble_eq_true rfl) (fun r I1 J1 hp => ?_)
  obtain ⟨rfl, e2, e3⟩ := hp
  obtain rfl := e2.symm
  obtain rfl := e3.symm
  refine bX7_tables_99  ?_
  refine v_X7_199 dX7_tables_104 rfl ⟨rfl, rfl, Nat.le_of_ble_eq_true rfl, Nat.le_of_ble_eq_true rfl⟩ (c_base02) rfl rfl (Nat.le_of_ble_eq_true rfl) (fun r I1 J1 hp => ?_)
  obtain ⟨rfl, e2, e3⟩ := hp
  obtain rfl := e2.symm
  obtain rfl := e3.symm
  refine bX7_tables_107 (s1 := 4) (v110 := nI 3) (v109 := 0 + bsL I 0 2 * bsL I 0 2) (by decide) rfl rfl ?_
  refine bX7_tables_72  (fun _ => ?_) (fun c => absurd c (by simp only [hn]; decide))
  refine bX7_tables_116 (v116 := nI 3) rfl ?_
  refine bX7_tables_60  (fun _ => ?_) (fun c => absurd c (by simp only [hn]; decide))
  refine bX7_tables_122  ?_
  refine v_X7_186 dX7_tables_123 rfl ⟨rfl, rfl, Nat.le_of_ble_eq_true rfl, Nat.le_of_ble_eq_true rfl⟩ (c_lower3 hn) rfl rfl (Nat.le_of_ble_eq_true rfl) (fun r I1 Ja hp => ?_)
  obtain ⟨rfl, e2, o0, o1, o2, g⟩ := hp
  obtain rfl := e2.symm
  have hl := lo3_congr (a := (I 0 2).toInt64) (b := (I 0 3).toInt64) (c := (I 0 4).toInt64) (show _ = tw3 (bsL I) 0 0 0 from rfl) (show _ = tw3 (bsL I) 0 0 1 from rfl) (show _ = tw3 (bsL I) 0 0 2 from rfl) (show _ = tw3 (bsL I) 0 0 3 from rfl) (show _ = tw3 (bsL I) 0 0 4 from rfl)
  have a0 : Ja 8 0 = (lw3 I 0 0).1 := o0.trans (congrArg (fun x => x.1) hl)
  have a1 : Ja 8 1 = (lw3 I 0 0).2.1 := o1.trans (congrArg (fun x => x.2.1) hl)
  have a2 : Ja 8 2 = (lw3 I 0 0).2.2 := o2.trans (congrArg (fun x => x.2.2) hl)
  clear o0 o1 o2 hl
  refine bX7_tables_126 rfl (fun c => absurd c (by simp only [hn]; decide)) (fun _ => ?_)
  refine bX7_tables_139 hq ?_
  refine bX7_tables_158 (j207 := 0) (j268 := 1) (j286 := 2) (v290 := nI 1) he hq rfl hd he hq (by decide) rfl (by decide) rfl (by decide) rfl rfl rfl ?_
  refine k _ ?_ ?_ ?_ ?_ ?_
  · exact (show _ = tvX I (x1 * x1) (Ja 8 0) (tvY I (x1 * x1) (Ja 8 1) (tvZ I (x1 * x1) (Ja 8 2))) (tvZ I (x1 * x1) (Ja 8 2)) from rfl).trans (by rw [a0, a1, a2]; rfl)
  · exact (show _ = tvY I (x1 * x1) (Ja 8 1) (tvZ I (x1 * x1) (Ja 8 2)) from rfl).trans (by rw [a1, a2]; rfl)
  · exact (show _ = (tvZ I (x1 * x1) (Ja 8 2)) from rfl).trans (by rw [a2]; rfl)
  · intro t h1 h2 h3; simp only [sa_uJ_off h1, sa_uJ_off h2, sa_uJ_off h3, g 2 (by decide)]; rfl
  · intro q h1 h2; simp only [sa_uJ_ne h1, g q h2, sa_uJ_ne h2]
theorem tb7_3_01 {x1 : Int64} (hn : I 0 1 = nI 3) (hq : ¬ x1 * x1 = 0) (he : ¬ (I 0 9).toInt64 = 0) (hd : ¬ (I 0 6).toInt64 = 0) (k : ∀ Jm : sa_J, Jm 2 3 = (tb3L I (x1 * x1) 0 1).1 → Jm 2 4 = (tb3L I (x1 * x1) 0 1).2.1 → Jm 2 5 = (tb3L I (x1 * x1) 0 1).2.2 → (∀ t, t ≠ 3 → t ≠ 4 → t ≠ 5 → Jm 2 t = J 2 t) → (∀ q, q ≠ 2 → q ≠ 8 → Jm q = J q) → Sat (ER l D aI aL ad) M_X7_tables P 25 [(0, .ref (ad 0)), (1, .long x1), (3, .int (nI 0)), (4, .int (nI 2))] [] I Jm) : Sat (ER l D aI aL ad) M_X7_tables P 34 [(0, .ref (ad 0)), (1, .long x1), (3, .int (nI 0)), (4, .int (nI 1))] [] I J := by
  refine bX7_tables_34 (v35 := nI 0) rfl ?_
  refine bX7_tables_37  (fun c => absurd c (by decide)) (fun _ => ?_)
  refine bX7_tables_43 (j47 := 0) (v51 := nI 1) rfl (by decide) rfl rfl ?_
  refine bX7_tables_37  (fun c => absurd c (by decide)) (fun _ => ?_)
  refine bX7_tables_43 (j47 := 1) (v51 := nI 2) rfl (by decide) rfl rfl ?_
  refine bX7_tables_37  (fun c => absurd c (by decide)) (fun _ => ?_)
  refine bX7_tables_43 (j47 := 2) (v51 := nI 3) rfl (by decide) rfl rfl ?_
  refine bX7_tables_37  (fun c => absurd c (by decide)) (fun _ => ?_)
  refine bX7_tables_43 (j47 := 3) (v51 := nI 4) rfl (by decide) rfl rfl ?_
  refine bX7_tables_37  (fun c => absurd c (by decide)) (fun _ => ?_)
  refine bX7_tables_43 (j47 := 4) (v51 := nI 5) rfl (by decide) rfl rfl ?_
  refine bX7_tables_37  (fun _ => ?_) (fun c => absurd c (by decide))
  refine bX7_tables_57 (v58 := nI 0) rfl ?_
  refine bX7_tables_60  (fun c => absurd c (by simp only [hn]; decide)) (fun _ => ?_)
  refine bX7_tables_69 (v70 := nI 0) rfl ?_
  refine bX7_tables_72  (fun c => absurd c (by simp only [hn]; decide)) (fun _ => ?_)
  refine bX7_tables_81 (j89 := 0) rfl (by decide) ?_
  refine v_X7_199 dX7_tables_96 rfl ⟨rfl, rfl, Nat.le_of_ble_eq_true rfl, Nat.le_of_ble_eq_true rfl⟩ (c_base00) rfl rfl (Nat.le_of_ble_eq_true rfl) (fun r I1 J1 hp => ?_)
  obtain ⟨rfl, e2, e3⟩ := hp
  obtain rfl := e2.symm
  obtain rfl := e3.symm
  refine bX7_tables_99  ?_
  refine v_X7_199 dX7_tables_104 rfl ⟨rfl, rfl, Nat.le_of_ble_eq_true rfl, Nat.le_of_ble_eq_true rfl⟩ (c_base10) rfl rfl (Nat.le_of_ble_eq_true rfl) (fun r I1 J1 hp => ?_)
  obtain ⟨rfl, e2, e3⟩ := hp
  obtain rfl := e2.symm
  obtain rfl := e3.symm
  refine bX7_tables_107 (s1 := 0) (v110 := nI 1) (v109 := 0 + bsL I 0 0 * bsL I 1 0) (by decide) rfl rfl ?_
  refine bX7_tables_72  (fun c => absurd c (by simp only [hn]; decide)) (fun _ => ?_)
  refine bX7_tables_81 (j89 := 1) rfl (by decide) ?_
  refine v_X7_199 dX7_tables_96 rfl ⟨rfl, rfl, Nat.le_of_ble_eq_true rfl, Nat.le_of_ble_eq_true rfl⟩ (c_base00) rfl rfl (Nat.le_of_ble_eq_true rfl) (fun r I1 J1 hp => ?_)
  obtain ⟨rfl, e2, e3⟩ := hp
  obtain rfl := e2.symm
  obtain rfl := e3.symm
  refine bX7_tables_99  ?_
  refine v_X7_199 dX7_tables_104 rfl ⟨rfl, rfl, Nat.le_of_ble_eq_true rfl, Nat.le_of_ble_eq_true rfl⟩ (c_base11) rfl rfl (Nat.le_of_ble_eq_true rfl) (fun r I1 J1 hp => ?_)
  obtain ⟨rfl, e2, e3⟩ := hp
  obtain rfl := e2.symm
  obtain rfl := e3.symm
  refine bX7_tables_107 (s1 := 1) (v110 := nI 2) (v109 := 0 + bsL I 0 0 * bsL I 1 1) (by decide) rfl rfl ?_
  refine bX7_tables_72  (fun c => absurd c (by simp only [hn]; decide)) (fun _ => ?_)
  refine bX7_tables_81 (j89 := 2) rfl (by decide) ?_
  refine v_X7_199 dX7_tables_96 rfl ⟨rfl, rfl, Nat.le_of_ble_eq_true rfl, Nat.le_of_ble_eq_true rfl⟩ (c_base00) rfl rfl (Nat.le_of_ble_eq_true rfl) (fun r I1 J1 hp => ?_)
  obtain ⟨rfl, e2, e3⟩ := hp
  obtain rfl := e2.symm
  obtain rfl := e3.symm
  refine bX7_tables_99  ?_
  refine v_X7_199 dX7_tables_104 rfl ⟨rfl, rfl, Nat.le_of_ble_eq_true rfl, Nat.le_of_ble_eq_true rfl⟩ (c_base12) rfl rfl (Nat.le_of_ble_eq_true rfl) (fun r I1 J1 hp => ?_)
  obtain ⟨rfl, e2, e3⟩ := hp
  obtain rfl := e2.symm
  obtain rfl := e3.symm
  refine bX7_tables_107 (s1 := 2) (v110 := nI 3) (v109 := 0 + bsL I 0 0 * bsL I 1 2) (by decide) rfl rfl ?_
  refine bX7_tables_72  (fun _ => ?_) (fun c => absurd c (by simp only [hn]; decide))
  refine bX7_tables_116 (v116 := nI 1) rfl ?_
  refine bX7_tables_60  (fun c => absurd c (by simp only [hn]; decide)) (fun _ => ?_)
  refine bX7_tables_69 (v70 := nI 0) rfl ?_
  refine bX7_tables_72  (fun c => absurd c (by simp only [hn]; decide)) (fun _ => ?_)
  refine bX7_tables_81 (j89 := 1) rfl (by decide) ?_
  refine v_X7_199 dX7_tables_96 rfl ⟨rfl, rfl, Nat.le_of_ble_eq_true rfl, Nat.le_of_ble_eq_true rfl⟩ (c_base01) rfl rfl (Nat.le_of_ble_eq_true rfl) (fun r I1 J1 hp => ?_)
  obtain ⟨rfl, e2, e3⟩ := hp
  obtain rfl := e2.symm
  obtain rfl := e3.symm
  refine bX7_tables_99  ?_
  refine v_X7_199 dX7_tables_104 rfl ⟨rfl, rfl, Nat.le_of_ble_eq_true rfl, Nat.le_of_ble_eq_true rfl⟩ (c_base10) rfl rfl (Nat.le_of_ble_eq_true rfl) (fun r I1 J1 hp => ?_)
  obtain ⟨rfl, e2, e3⟩ := hp
  obtain rfl := e2.symm
  obtain rfl := e3.symm
  refine bX7_tables_107 (s1 := 1) (v110 := nI 1) (v109 := 0 + bsL I 0 0 * bsL I 1 1 + bsL I 0 1 * bsL I 1 0) (by decide) rfl rfl ?_
  refine bX7_tables_72  (fun c => absurd c (by simp only [hn]; decide)) (fun _ => ?_)
  refine bX7_tables_81 (j89 := 2) rfl (by decide) ?_
  refine v_X7_199 dX7_tables_96 rfl ⟨rfl, rfl, Nat.le_of_ble_eq_true rfl, Nat.le_of_ble_eq_true rfl⟩ (c_base01) rfl rfl (Nat.le_of_ble_eq_true rfl) (fun r I1 J1 hp => ?_)
  obtain ⟨rfl, e2, e3⟩ := hp
  obtain rfl := e2.symm
  obtain rfl := e3.symm
  refine bX7_tables_99  ?_
  refine v_X7_199 dX7_tables_104 rfl ⟨rfl, rfl, Nat.le_of_ble_eq_true rfl, Nat.le_of_ble_eq_true rfl⟩ (c_base11) rfl rfl (Nat.le_of_ble_eq_true rfl) (fun r I1 J1 hp => ?_)
  obtain ⟨rfl, e2, e3⟩ := hp
  obtain rfl := e2.symm
  obtain rfl := e3.symm
  refine bX7_tables_107 (s1 := 2) (v110 := nI 2) (v109 := 0 + bsL I 0 0 * bsL I 1 2 + bsL I 0 1 * bsL I 1 1) (by decide) rfl rfl ?_
  refine bX7_tables_72  (fun c => absurd c (by simp only [hn]; decide)) (fun _ => ?_)
  refine bX7_tables_81 (j89 := 3) rfl (by decide) ?_
  refine v_X7_199 dX7_tables_96 rfl ⟨rfl, rfl, Nat.le_of_ble_eq_true rfl, Nat.le_of_ble_eq_true rfl⟩ (c_base01) rfl rfl (Nat.le_of_ble_eq_true rfl) (fun r I1 J1 hp => ?_)
  obtain ⟨rfl, e2, e3⟩ := hp
  obtain rfl := e2.symm
  obtain rfl := e3.symm
  refine bX7_tables_99  ?_
  refine v_X7_199 dX7_tables_104 rfl ⟨rfl, rfl, Nat.le_of_ble_eq_true rfl, Nat.le_of_ble_eq_true rfl⟩ (c_base12) rfl rfl (Nat.le_of_ble_eq_true rfl) (fun r I1 J1 hp => ?_)
  obtain ⟨rfl, e2, e3⟩ := hp
  obtain rfl := e2.symm
  obtain rfl := e3.symm
  refine bX7_tables_107 (s1 := 3) (v110 := nI 3) (v109 := 0 + bsL I 0 1 * bsL I 1 2) (by decide) rfl rfl ?_
  refine bX7_tables_72  (fun _ => ?_) (fun c => absurd c (by simp only [hn]; decide))
  refine bX7_tables_116 (v116 := nI 2) rfl ?_
  refine bX7_tables_60  (fun c => absurd c (by simp only [hn]; decide)) (fun _ => ?_)
  refine bX7_tables_69 (v70 := nI 0) rfl ?_
  refine bX7_tables_72  (fun c => absurd c (by simp only [hn]; decide)) (fun _ => ?_)
  refine bX7_tables_81 (j89 := 2) rfl (by decide) ?_
  refine v_X7_199 dX7_tables_96 rfl ⟨rfl, rfl, Nat.le_of_ble_eq_true rfl, Nat.le_of_ble_eq_true rfl⟩ (c_base02) rfl rfl (Nat.le_of_ble_eq_true rfl) (fun r I1 J1 hp => ?_)
  obtain ⟨rfl, e2, e3⟩ := hp
  obtain rfl := e2.symm
  obtain rfl := e3.symm
  refine bX7_tables_99  ?_
  refine v_X7_199 dX7_tables_104 rfl ⟨rfl, rfl, Nat.le_of_ble_eq_true rfl, Nat.le_of_ble_eq_true rfl⟩ (c_base10) rfl rfl (Nat.le_of_ble_eq_true rfl) (fun r I1 J1 hp => ?_)
  obtain ⟨rfl, e2, e3⟩ := hp
  obtain rfl := e2.symm
  obtain rfl := e3.symm
  refine bX7_tables_107 (s1 := 2) (v110 := nI 1) (v109 := 0 + bsL I 0 0 * bsL I 1 2 + bsL I 0 1 * bsL I 1 1 + bsL I 0 2 * bsL I 1 0) (by decide) rfl rfl ?_
  refine bX7_tables_72  (fun c => absurd c (by simp only [hn]; decide)) (fun _ => ?_)
  refine bX7_tables_81 (j89 := 3) rfl (by decide) ?_
  refine v_X7_199 dX7_tables_96 rfl ⟨rfl, rfl, Nat.le_of_ble_eq_true rfl, Nat.le_of_ble_eq_true rfl⟩ (c_base02) rfl rfl (Nat.le_of_ble_eq_true rfl) (fun r I1 J1 hp => ?_)
  obtain ⟨rfl, e2, e3⟩ := hp
  obtain rfl := e2.symm
  obtain rfl := e3.symm
  refine bX7_tables_99  ?_
  refine v_X7_199 dX7_tables_104 rfl ⟨rfl, rfl, Nat.le_of_ble_eq_true rfl, Nat.le_of_ble_eq_true rfl⟩ (c_base11) rfl rfl (Nat.le_of_ble_eq_true rfl) (fun r I1 J1 hp => ?_)
  obtain ⟨rfl, e2, e3⟩ := hp
  obtain rfl := e2.symm
  obtain rfl := e3.symm
  refine bX7_tables_107 (s1 := 3) (v110 := nI 2) (v109 := 0 + bsL I 0 1 * bsL I 1 2 + bsL I 0 2 * bsL I 1 1) (by decide) rfl rfl ?_
  refine bX7_tables_72  (fun c => absurd c (by simp only [hn]; decide)) (fun _ => ?_)
  refine bX7_tables_81 (j89 := 4) rfl (by decide) ?_
  refine v_X7_199 dX7_tables_96 rfl ⟨rfl, rfl, Nat.le_of_ble_eq_true rfl, Nat.le_of_ble_eq_true rfl⟩ (c_base02) rfl rfl (Nat.le_of_ble_eq_true rfl) (fun r I1 J1 hp => ?_)
  obtain ⟨rfl, e2, e3⟩ := hp
  obtain rfl := e2.symm
  obtain rfl := e3.symm
  refine bX7_tables_99  ?_
  refine v_X7_199 dX7_tables_104 rfl ⟨rfl, rfl, Nat.le_of_ble_eq_true rfl, Nat.le_of_ble_eq_true rfl⟩ (c_base12) rfl rfl (Nat.le_of_ble_eq_true rfl) (fun r I1 J1 hp => ?_)
  obtain ⟨rfl, e2, e3⟩ := hp
  obtain rfl := e2.symm
  obtain rfl := e3.symm
  refine bX7_tables_107 (s1 := 4) (v110 := nI 3) (v109 := 0 + bsL I 0 2 * bsL I 1 2) (by decide) rfl rfl ?_
  refine bX7_tables_72  (fun _ => ?_) (fun c => absurd c (by simp only [hn]; decide))
  refine bX7_tables_116 (v116 := nI 3) rfl ?_
  refine bX7_tables_60  (fun _ => ?_) (fun c => absurd c (by simp only [hn]; decide))
  refine bX7_tables_122  ?_
  refine v_X7_186 dX7_tables_123 rfl ⟨rfl, rfl, Nat.le_of_ble_eq_true rfl, Nat.le_of_ble_eq_true rfl⟩ (c_lower3 hn) rfl rfl (Nat.le_of_ble_eq_true rfl) (fun r I1 Ja hp => ?_)
  obtain ⟨rfl, e2, o0, o1, o2, g⟩ := hp
  obtain rfl := e2.symm
  have hl := lo3_congr (a := (I 0 2).toInt64) (b := (I 0 3).toInt64) (c := (I 0 4).toInt64) (show _ = tw3 (bsL I) 0 1 0 from rfl) (show _ = tw3 (bsL I) 0 1 1 from rfl) (show _ = tw3 (bsL I) 0 1 2 from rfl) (show _ = tw3 (bsL I) 0 1 3 from rfl) (show _ = tw3 (bsL I) 0 1 4 from rfl)
  have a0 : Ja 8 0 = (lw3 I 0 1).1 := o0.trans (congrArg (fun x => x.1) hl)
  have a1 : Ja 8 1 = (lw3 I 0 1).2.1 := o1.trans (congrArg (fun x => x.2.1) hl)
  have a2 : Ja 8 2 = (lw3 I 0 1).2.2 := o2.trans (congrArg (fun x => x.2.2) hl)
  clear o0 o1 o2 hl
  refine bX7_tables_126 rfl (fun c => absurd c (by simp only [hn]; decide)) (fun _ => ?_)
  refine bX7_tables_139 hq ?_
  refine bX7_tables_158 (j207 := 3) (j268 := 4) (j286 := 5) (v290 := nI 2) he hq rfl hd he hq (by decide) rfl (by decide) rfl (by decide) rfl rfl rfl ?_
  refine k _ ?_ ?_ ?_ ?_ ?_
  · exact (show _ = tvX I (x1 * x1) (Ja 8 0) (tvY I (x1 * x1) (Ja 8 1) (tvZ I (x1 * x1) (Ja 8 2))) (tvZ I (x1 * x1) (Ja 8 2)) from rfl).trans (by rw [a0, a1, a2]; rfl)
  · exact (show _ = tvY I (x1 * x1) (Ja 8 1) (tvZ I (x1 * x1) (Ja 8 2)) from rfl).trans (by rw [a1, a2]; rfl)
  · exact (show _ = (tvZ I (x1 * x1) (Ja 8 2)) from rfl).trans (by rw [a2]; rfl)
  · intro t h1 h2 h3; simp only [sa_uJ_off h1, sa_uJ_off h2, sa_uJ_off h3, g 2 (by decide)]; rfl
  · intro q h1 h2; simp only [sa_uJ_ne h1, g q h2, sa_uJ_ne h2]
theorem tb7_3_02 {x1 : Int64} (hn : I 0 1 = nI 3) (hq : ¬ x1 * x1 = 0) (he : ¬ (I 0 9).toInt64 = 0) (hd : ¬ (I 0 6).toInt64 = 0) (k : ∀ Jm : sa_J, Jm 2 6 = (tb3L I (x1 * x1) 0 2).1 → Jm 2 7 = (tb3L I (x1 * x1) 0 2).2.1 → Jm 2 8 = (tb3L I (x1 * x1) 0 2).2.2 → (∀ t, t ≠ 6 → t ≠ 7 → t ≠ 8 → Jm 2 t = J 2 t) → (∀ q, q ≠ 2 → q ≠ 8 → Jm q = J q) → Sat (ER l D aI aL ad) M_X7_tables P 25 [(0, .ref (ad 0)), (1, .long x1), (3, .int (nI 0)), (4, .int (nI 3))] [] I Jm) : Sat (ER l D aI aL ad) M_X7_tables P 34 [(0, .ref (ad 0)), (1, .long x1), (3, .int (nI 0)), (4, .int (nI 2))] [] I J := by
  refine bX7_tables_34 (v35 := nI 0) rfl ?_
  refine bX7_tables_37  (fun c => absurd c (by decide)) (fun _ => ?_)
  refine bX7_tables_43 (j47 := 0) (v51 := nI 1) rfl (by decide) rfl rfl ?_
  refine bX7_tables_37  (fun c => absurd c (by decide)) (fun _ => ?_)
  refine bX7_tables_43 (j47 := 1) (v51 := nI 2) rfl (by decide) rfl rfl ?_
  refine bX7_tables_37  (fun c => absurd c (by decide)) (fun _ => ?_)
  refine bX7_tables_43 (j47 := 2) (v51 := nI 3) rfl (by decide) rfl rfl ?_
  refine bX7_tables_37  (fun c => absurd c (by decide)) (fun _ => ?_)
  refine bX7_tables_43 (j47 := 3) (v51 := nI 4) rfl (by decide) rfl rfl ?_
  refine bX7_tables_37  (fun c => absurd c (by decide)) (fun _ => ?_)
  refine bX7_tables_43 (j47 := 4) (v51 := nI 5) rfl (by decide) rfl rfl ?_
  refine bX7_tables_37  (fun _ => ?_) (fun c => absurd c (by decide))
  refine bX7_tables_57 (v58 := nI 0) rfl ?_
  refine bX7_tables_60  (fun c => absurd c (by simp only [hn]; decide)) (fun _ => ?_)
  refine bX7_tables_69 (v70 := nI 0) rfl ?_
  refine bX7_tables_72  (fun c => absurd c (by simp only [hn]; decide)) (fun _ => ?_)
  refine bX7_tables_81 (j89 := 0) rfl (by decide) ?_
  refine v_X7_199 dX7_tables_96 rfl ⟨rfl, rfl, Nat.le_of_ble_eq_true rfl, Nat.le_of_ble_eq_true rfl⟩ (c_base00) rfl rfl (Nat.le_of_ble_eq_true rfl) (fun r I1 J1 hp => ?_)
  obtain ⟨rfl, e2, e3⟩ := hp
  obtain rfl := e2.symm
  obtain rfl := e3.symm
  refine bX7_tables_99  ?_
  refine v_X7_199 dX7_tables_104 rfl ⟨rfl, rfl, Nat.le_of_ble_eq_true rfl, Nat.le_of_ble_eq_true rfl⟩ (c_base20) rfl rfl (Nat.le_of_ble_eq_true rfl) (fun r I1 J1 hp => ?_)
  obtain ⟨rfl, e2, e3⟩ := hp
  obtain rfl := e2.symm
  obtain rfl := e3.symm
  refine bX7_tables_107 (s1 := 0) (v110 := nI 1) (v109 := 0 + bsL I 0 0 * bsL I 2 0) (by decide) rfl rfl ?_
  refine bX7_tables_72  (fun c => absurd c (by simp only [hn]; decide)) (fun _ => ?_)
  refine bX7_tables_81 (j89 := 1) rfl (by decide) ?_
  refine v_X7_199 dX7_tables_96 rfl ⟨rfl, rfl, Nat.le_of_ble_eq_true rfl, Nat.le_of_ble_eq_true rfl⟩ (c_base00) rfl rfl (Nat.le_of_ble_eq_true rfl) (fun r I1 J1 hp => ?_)
  obtain ⟨rfl, e2, e3⟩ := hp
  obtain rfl := e2.symm
  obtain rfl := e3.symm
  refine bX7_tables_99  ?_
  refine v_X7_199 dX7_tables_104 rfl ⟨rfl, rfl, Nat.le_of_ble_eq_true rfl, Nat.le_of_ble_eq_true rfl⟩ (c_base21) rfl rfl (Nat.le_of_ble_eq_true rfl) (fun r I1 J1 hp => ?_)
  obtain ⟨rfl, e2, e3⟩ := hp
  obtain rfl := e2.symm
  obtain rfl := e3.symm
  refine bX7_tables_107 (s1 := 1) (v110 := nI 2) (v109 := 0 + bsL I 0 0 * bsL I 2 1) (by decide) rfl rfl ?_
  refine bX7_tables_72  (fun c => absurd c (by simp only [hn]; decide)) (fun _ => ?_)
  refine bX7_tables_81 (j89 := 2) rfl (by decide) ?_
  refine v_X7_199 dX7_tables_96 rfl ⟨rfl, rfl, Nat.le_of_ble_eq_true rfl, Nat.le_of_ble_eq_true rfl⟩ (c_base00) rfl rfl (Nat.le_of_ble_eq_true rfl) (fun r I1 J1 hp => ?_)
  obtain ⟨rfl, e2, e3⟩ := hp
  obtain rfl := e2.symm
  obtain rfl := e3.symm
  refine bX7_tables_99  ?_
  refine v_X7_199 dX7_tables_104 rfl ⟨rfl, rfl, Nat.le_of_ble_eq_true rfl, Nat.le_of_ble_eq_true rfl⟩ (c_base22) rfl rfl (Nat.le_of_ble_eq_true rfl) (fun r I1 J1 hp => ?_)
  obtain ⟨rfl, e2, e3⟩ := hp
  obtain rfl := e2.symm
  obtain rfl := e3.symm
  refine bX7_tables_107 (s1 := 2) (v110 := nI 3) (v109 := 0 + bsL I 0 0 * bsL I 2 2) (by decide) rfl rfl ?_
  refine bX7_tables_72  (fun _ => ?_) (fun c => absurd c (by simp only [hn]; decide))
  refine bX7_tables_116 (v116 := nI 1) rfl ?_
  refine bX7_tables_60  (fun c => absurd c (by simp only [hn]; decide)) (fun _ => ?_)
  refine bX7_tables_69 (v70 := nI 0) rfl ?_
  refine bX7_tables_72  (fun c => absurd c (by simp only [hn]; decide)) (fun _ => ?_)
  refine bX7_tables_81 (j89 := 1) rfl (by decide) ?_
  refine v_X7_199 dX7_tables_96 rfl ⟨rfl, rfl, Nat.le_of_ble_eq_true rfl, Nat.le_of_ble_eq_true rfl⟩ (c_base01) rfl rfl (Nat.le_of_ble_eq_true rfl) (fun r I1 J1 hp => ?_)
  obtain ⟨rfl, e2, e3⟩ := hp
  obtain rfl := e2.symm
  obtain rfl := e3.symm
  refine bX7_tables_99  ?_
  refine v_X7_199 dX7_tables_104 rfl ⟨rfl, rfl, Nat.le_of_ble_eq_true rfl, Nat.le_of_ble_eq_true rfl⟩ (c_base20) rfl rfl (Nat.le_of_ble_eq_true rfl) (fun r I1 J1 hp => ?_)
  obtain ⟨rfl, e2, e3⟩ := hp
  obtain rfl := e2.symm
  obtain rfl := e3.symm
  refine bX7_tables_107 (s1 := 1) (v110 := nI 1) (v109 := 0 + bsL I 0 0 * bsL I 2 1 + bsL I 0 1 * bsL I 2 0) (by decide) rfl rfl ?_
  refine bX7_tables_72  (fun c => absurd c (by simp only [hn]; decide)) (fun _ => ?_)
  refine bX7_tables_81 (j89 := 2) rfl (by decide) ?_
  refine v_X7_199 dX7_tables_96 rfl ⟨rfl, rfl, Nat.le_of_ble_eq_true rfl, Nat.le_of_ble_eq_true rfl⟩ (c_base01) rfl rfl (Nat.le_of_ble_eq_true rfl) (fun r I1 J1 hp => ?_)
  obtain ⟨rfl, e2, e3⟩ := hp
  obtain rfl := e2.symm
  obtain rfl := e3.symm
  refine bX7_tables_99  ?_
  refine v_X7_199 dX7_tables_104 rfl ⟨rfl, rfl, Nat.le_of_ble_eq_true rfl, Nat.le_of_ble_eq_true rfl⟩ (c_base21) rfl rfl (Nat.le_of_ble_eq_true rfl) (fun r I1 J1 hp => ?_)
  obtain ⟨rfl, e2, e3⟩ := hp
  obtain rfl := e2.symm
  obtain rfl := e3.symm
  refine bX7_tables_107 (s1 := 2) (v110 := nI 2) (v109 := 0 + bsL I 0 0 * bsL I 2 2 + bsL I 0 1 * bsL I 2 1) (by decide) rfl rfl ?_
  refine bX7_tables_72  (fun c => absurd c (by simp only [hn]; decide)) (fun _ => ?_)
  refine bX7_tables_81 (j89 := 3) rfl (by decide) ?_
  refine v_X7_199 dX7_tables_96 rfl ⟨rfl, rfl, Nat.le_of_ble_eq_true rfl, Nat.le_of_ble_eq_true rfl⟩ (c_base01) rfl rfl (Nat.le_of_ble_eq_true rfl) (fun r I1 J1 hp => ?_)
  obtain ⟨rfl, e2, e3⟩ := hp
  obtain rfl := e2.symm
  obtain rfl := e3.symm
  refine bX7_tables_99  ?_
  refine v_X7_199 dX7_tables_104 rfl ⟨rfl, rfl, Nat.le_of_ble_eq_true rfl, Nat.le_of_ble_eq_true rfl⟩ (c_base22) rfl rfl (Nat.le_of_ble_eq_true rfl) (fun r I1 J1 hp => ?_)
  obtain ⟨rfl, e2, e3⟩ := hp
  obtain rfl := e2.symm
  obtain rfl := e3.symm
  refine bX7_tables_107 (s1 := 3) (v110 := nI 3) (v109 := 0 + bsL I 0 1 * bsL I 2 2) (by decide) rfl rfl ?_
  refine bX7_tables_72  (fun _ => ?_) (fun c => absurd c (by simp only [hn]; decide))
  refine bX7_tables_116 (v116 := nI 2) rfl ?_
  refine bX7_tables_60  (fun c => absurd c (by simp only [hn]; decide)) (fun _ => ?_)
  refine bX7_tables_69 (v70 := nI 0) rfl ?_
  refine bX7_tables_72  (fun c => absurd c (by simp only [hn]; decide)) (fun _ => ?_)
  refine bX7_tables_81 (j89 := 2) rfl (by decide) ?_
  refine v_X7_199 dX7_tables_96 rfl ⟨rfl, rfl, Nat.le_of_ble_eq_true rfl, Nat.le_of_ble_eq_true rfl⟩ (c_base02) rfl rfl (Nat.le_of_ble_eq_true rfl) (fun r I1 J1 hp => ?_)
  obtain ⟨rfl, e2, e3⟩ := hp
  obtain rfl := e2.symm
  obtain rfl := e3.symm
  refine bX7_tables_99  ?_
  refine v_X7_199 dX7_tables_104 rfl ⟨rfl, rfl, Nat.le_of_ble_eq_true rfl, Nat.le_of_ble_eq_true rfl⟩ (c_base20) rfl rfl (Nat.le_of_ble_eq_true rfl) (fun r I1 J1 hp => ?_)
  obtain ⟨rfl, e2, e3⟩ := hp
  obtain rfl := e2.symm
  obtain rfl := e3.symm
  refine bX7_tables_107 (s1 := 2) (v110 := nI 1) (v109 := 0 + bsL I 0 0 * bsL I 2 2 + bsL I 0 1 * bsL I 2 1 + bsL I 0 2 * bsL I 2 0) (by decide) rfl rfl ?_
  refine bX7_tables_72  (fun c => absurd c (by simp only [hn]; decide)) (fun _ => ?_)
  refine bX7_tables_81 (j89 := 3) rfl (by decide) ?_
  refine v_X7_199 dX7_tables_96 rfl ⟨rfl, rfl, Nat.le_of_ble_eq_true rfl, Nat.le_of_ble_eq_true rfl⟩ (c_base02) rfl rfl (Nat.le_of_ble_eq_true rfl) (fun r I1 J1 hp => ?_)
  obtain ⟨rfl, e2, e3⟩ := hp
  obtain rfl := e2.symm
  obtain rfl := e3.symm
  refine bX7_tables_99  ?_
  refine v_X7_199 dX7_tables_104 rfl ⟨rfl, rfl, Nat.le_of_ble_eq_true rfl, Nat.le_of_ble_eq_true rfl⟩ (c_base21) rfl rfl (Nat.le_of_ble_eq_true rfl) (fun r I1 J1 hp => ?_)
  obtain ⟨rfl, e2, e3⟩ := hp
  obtain rfl := e2.symm
  obtain rfl := e3.symm
  refine bX7_tables_107 (s1 := 3) (v110 := nI 2) (v109 := 0 + bsL I 0 1 * bsL I 2 2 + bsL I 0 2 * bsL I 2 1) (by decide) rfl rfl ?_
  refine bX7_tables_72  (fun c => absurd c (by simp only [hn]; decide)) (fun _ => ?_)
  refine bX7_tables_81 (j89 := 4) rfl (by decide) ?_
  refine v_X7_199 dX7_tables_96 rfl ⟨rfl, rfl, Nat.le_of_ble_eq_true rfl, Nat.le_of_ble_eq_true rfl⟩ (c_base02) rfl rfl (Nat.le_of_ble_eq_true rfl) (fun r I1 J1 hp => ?_)
  obtain ⟨rfl, e2, e3⟩ := hp
  obtain rfl := e2.symm
  obtain rfl := e3.symm
  refine bX7_tables_99  ?_
  refine v_X7_199 dX7_tables_104 rfl ⟨rfl, rfl, Nat.le_of_ble_eq_true rfl, Nat.le_of_ble_eq_true rfl⟩ (c_base22) rfl rfl (Nat.le_of_ble_eq_true rfl) (fun r I1 J1 hp => ?_)
  obtain ⟨rfl, e2, e3⟩ := hp
  obtain rfl := e2.symm
  obtain rfl := e3.symm
  refine bX7_tables_107 (s1 := 4) (v110 := nI 3) (v109 := 0 + bsL I 0 2 * bsL I 2 2) (by decide) rfl rfl ?_
  refine bX7_tables_72  (fun _ => ?_) (fun c => absurd c (by simp only [hn]; decide))
  refine bX7_tables_116 (v116 := nI 3) rfl ?_
  refine bX7_tables_60  (fun _ => ?_) (fun c => absurd c (by simp only [hn]; decide))
  refine bX7_tables_122  ?_
  refine v_X7_186 dX7_tables_123 rfl ⟨rfl, rfl, Nat.le_of_ble_eq_true rfl, Nat.le_of_ble_eq_true rfl⟩ (c_lower3 hn) rfl rfl (Nat.le_of_ble_eq_true rfl) (fun r I1 Ja hp => ?_)
  obtain ⟨rfl, e2, o0, o1, o2, g⟩ := hp
  obtain rfl := e2.symm
  have hl := lo3_congr (a := (I 0 2).toInt64) (b := (I 0 3).toInt64) (c := (I 0 4).toInt64) (show _ = tw3 (bsL I) 0 2 0 from rfl) (show _ = tw3 (bsL I) 0 2 1 from rfl) (show _ = tw3 (bsL I) 0 2 2 from rfl) (show _ = tw3 (bsL I) 0 2 3 from rfl) (show _ = tw3 (bsL I) 0 2 4 from rfl)
  have a0 : Ja 8 0 = (lw3 I 0 2).1 := o0.trans (congrArg (fun x => x.1) hl)
  have a1 : Ja 8 1 = (lw3 I 0 2).2.1 := o1.trans (congrArg (fun x => x.2.1) hl)
  have a2 : Ja 8 2 = (lw3 I 0 2).2.2 := o2.trans (congrArg (fun x => x.2.2) hl)
  clear o0 o1 o2 hl
  refine bX7_tables_126 rfl (fun c => absurd c (by simp only [hn]; decide)) (fun _ => ?_)
  refine bX7_tables_139 hq ?_
  refine bX7_tables_158 (j207 := 6) (j268 := 7) (j286 := 8) (v290 := nI 3) he hq rfl hd he hq (by decide) rfl (by decide) rfl (by decide) rfl rfl rfl ?_
  refine k _ ?_ ?_ ?_ ?_ ?_
  · exact (show _ = tvX I (x1 * x1) (Ja 8 0) (tvY I (x1 * x1) (Ja 8 1) (tvZ I (x1 * x1) (Ja 8 2))) (tvZ I (x1 * x1) (Ja 8 2)) from rfl).trans (by rw [a0, a1, a2]; rfl)
  · exact (show _ = tvY I (x1 * x1) (Ja 8 1) (tvZ I (x1 * x1) (Ja 8 2)) from rfl).trans (by rw [a1, a2]; rfl)
  · exact (show _ = (tvZ I (x1 * x1) (Ja 8 2)) from rfl).trans (by rw [a2]; rfl)
  · intro t h1 h2 h3; simp only [sa_uJ_off h1, sa_uJ_off h2, sa_uJ_off h3, g 2 (by decide)]; rfl
  · intro q h1 h2; simp only [sa_uJ_ne h1, g q h2, sa_uJ_ne h2]
theorem tb7_3_10 {x1 : Int64} (hn : I 0 1 = nI 3) (hq : ¬ x1 * x1 = 0) (he : ¬ (I 0 9).toInt64 = 0) (hd : ¬ (I 0 6).toInt64 = 0) (k : ∀ Jm : sa_J, Jm 2 9 = (tb3L I (x1 * x1) 1 0).1 → Jm 2 10 = (tb3L I (x1 * x1) 1 0).2.1 → Jm 2 11 = (tb3L I (x1 * x1) 1 0).2.2 → (∀ t, t ≠ 9 → t ≠ 10 → t ≠ 11 → Jm 2 t = J 2 t) → (∀ q, q ≠ 2 → q ≠ 8 → Jm q = J q) → Sat (ER l D aI aL ad) M_X7_tables P 25 [(0, .ref (ad 0)), (1, .long x1), (3, .int (nI 1)), (4, .int (nI 1))] [] I Jm) : Sat (ER l D aI aL ad) M_X7_tables P 34 [(0, .ref (ad 0)), (1, .long x1), (3, .int (nI 1)), (4, .int (nI 0))] [] I J := by
  refine bX7_tables_34 (v35 := nI 0) rfl ?_
  refine bX7_tables_37  (fun c => absurd c (by decide)) (fun _ => ?_)
  refine bX7_tables_43 (j47 := 0) (v51 := nI 1) rfl (by decide) rfl rfl ?_
  refine bX7_tables_37  (fun c => absurd c (by decide)) (fun _ => ?_)
  refine bX7_tables_43 (j47 := 1) (v51 := nI 2) rfl (by decide) rfl rfl ?_
  refine bX7_tables_37  (fun c => absurd c (by decide)) (fun _ => ?_)
  refine bX7_tables_43 (j47 := 2) (v51 := nI 3) rfl (by decide) rfl rfl ?_
  refine bX7_tables_37  (fun c => absurd c (by decide)) (fun _ => ?_)
  refine bX7_tables_43 (j47 := 3) (v51 := nI 4) rfl (by decide) rfl rfl ?_
  refine bX7_tables_37  (fun c => absurd c (by decide)) (fun _ => ?_)
  refine bX7_tables_43 (j47 := 4) (v51 := nI 5) rfl (by decide) rfl rfl ?_
  refine bX7_tables_37  (fun _ => ?_) (fun c => absurd c (by decide))
  refine bX7_tables_57 (v58 := nI 0) rfl ?_
  refine bX7_tables_60  (fun c => absurd c (by simp only [hn]; decide)) (fun _ => ?_)
  refine bX7_tables_69 (v70 := nI 0) rfl ?_
  refine bX7_tables_72  (fun c => absurd c (by simp only [hn]; decide)) (fun _ => ?_)
  refine bX7_tables_81 (j89 := 0) rfl (by decide) ?_
  refine v_X7_199 dX7_tables_96 rfl ⟨rfl, rfl, Nat.le_of_ble_eq_true rfl, Nat.le_of_ble_eq_true rfl⟩ (c_base10) rfl rfl (Nat.le_of_ble_eq_true rfl) (fun r I1 J1 hp => ?_)
  obtain ⟨rfl, e2, e3⟩ := hp
  obtain rfl := e2.symm
  obtain rfl := e3.symm
  refine bX7_tables_99  ?_
  refine v_X7_199 dX7_tables_104 rfl ⟨rfl, rfl, Nat.le_of_ble_eq_true rfl, Nat.le_of_ble_eq_true rfl⟩ (c_base00) rfl rfl (Nat.le_of_ble_eq_true rfl) (fun r I1 J1 hp => ?_)
  obtain ⟨rfl, e2, e3⟩ := hp
  obtain rfl := e2.symm
  obtain rfl := e3.symm
  refine bX7_tables_107 (s1 := 0) (v110 := nI 1) (v109 := 0 + bsL I 1 0 * bsL I 0 0) (by decide) rfl rfl ?_
  refine bX7_tables_72  (fun c => absurd c (by simp only [hn]; decide)) (fun _ => ?_)
  refine bX7_tables_81 (j89 := 1) rfl (by decide) ?_
  refine v_X7_199 dX7_tables_96 rfl ⟨rfl, rfl, Nat.le_of_ble_eq_true rfl, Nat.le_of_ble_eq_true rfl⟩ (c_base10) rfl rfl (Nat.le_of_ble_eq_true rfl) (fun r I1 J1 hp => ?_)
  obtain ⟨rfl, e2, e3⟩ := hp
  obtain rfl := e2.symm
  obtain rfl := e3.symm
  refine bX7_tables_99  ?_
  refine v_X7_199 dX7_tables_104 rfl ⟨rfl, rfl, Nat.le_of_ble_eq_true rfl, Nat.le_of_ble_eq_true rfl⟩ (c_base01) rfl rfl (Nat.le_of_ble_eq_true rfl) (fun r I1 J1 hp => ?_)
  obtain ⟨rfl, e2, e3⟩ := hp
  obtain rfl := e2.symm
  obtain rfl := e3.symm
  refine bX7_tables_107 (s1 := 1) (v110 := nI 2) (v109 := 0 + bsL I 1 0 * bsL I 0 1) (by decide) rfl rfl ?_
  refine bX7_tables_72  (fun c => absurd c (by simp only [hn]; decide)) (fun _ => ?_)
  refine bX7_tables_81 (j89 := 2) rfl (by decide) ?_
  refine v_X7_199 dX7_tables_96 rfl ⟨rfl, rfl, Nat.le_of_ble_eq_true rfl, Nat.le_of_ble_eq_true rfl⟩ (c_base10) rfl rfl (Nat.le_of_ble_eq_true rfl) (fun r I1 J1 hp => ?_)
  obtain ⟨rfl, e2, e3⟩ := hp
  obtain rfl := e2.symm
  obtain rfl := e3.symm
  refine bX7_tables_99  ?_
  refine v_X7_199 dX7_tables_104 rfl ⟨rfl, rfl, Nat.le_of_ble_eq_true rfl, Nat.le_of_ble_eq_true rfl⟩ (c_base02) rfl rfl (Nat.le_of_ble_eq_true rfl) (fun r I1 J1 hp => ?_)
  obtain ⟨rfl, e2, e3⟩ := hp
  obtain rfl := e2.symm
  obtain rfl := e3.symm
  refine bX7_tables_107 (s1 := 2) (v110 := nI 3) (v109 := 0 + bsL I 1 0 * bsL I 0 2) (by decide) rfl rfl ?_
  refine bX7_tables_72  (fun _ => ?_) (fun c => absurd c (by simp only [hn]; decide))
  refine bX7_tables_116 (v116 := nI 1) rfl ?_
  refine bX7_tables_60  (fun c => absurd c (by simp only [hn]; decide)) (fun _ => ?_)
  refine bX7_tables_69 (v70 := nI 0) rfl ?_
  refine bX7_tables_72  (fun c => absurd c (by simp only [hn]; decide)) (fun _ => ?_)
  refine bX7_tables_81 (j89 := 1) rfl (by decide) ?_
  refine v_X7_199 dX7_tables_96 rfl ⟨rfl, rfl, Nat.le_of_ble_eq_true rfl, Nat.le_of_ble_eq_true rfl⟩ (c_base11) rfl rfl (Nat.le_of_ble_eq_true rfl) (fun r I1 J1 hp => ?_)
  obtain ⟨rfl, e2, e3⟩ := hp
  obtain rfl := e2.symm
  obtain rfl := e3.symm
  refine bX7_tables_99  ?_
  refine v_X7_199 dX7_tables_104 rfl ⟨rfl, rfl, Nat.le_of_ble_eq_true rfl, Nat.le_of_ble_eq_true rfl⟩ (c_base00) rfl rfl (Nat.le_of_ble_eq_true rfl) (fun r I1 J1 hp => ?_)
  obtain ⟨rfl, e2, e3⟩ := hp
  obtain rfl := e2.symm
  obtain rfl := e3.symm
  refine bX7_tables_107 (s1 := 1) (v110 := nI 1) (v109 := 0 + bsL I 1 0 * bsL I 0 1 + bsL I 1 1 * bsL I 0 0) (by decide) rfl rfl ?_
  refine bX7_tables_72  (fun c => absurd c (by simp only [hn]; decide)) (fun _ => ?_)
  refine bX7_tables_81 (j89 := 2) rfl (by decide) ?_
  refine v_X7_199 dX7_tables_96 rfl ⟨rfl, rfl, Nat.le_of_ble_eq_true rfl, Nat.le_of_ble_eq_true rfl⟩ (c_base11) rfl rfl (Nat.le_of_ble_eq_true rfl) (fun r I1 J1 hp => ?_)
  obtain ⟨rfl, e2, e3⟩ := hp
  obtain rfl := e2.symm
  obtain rfl := e3.symm
  refine bX7_tables_99  ?_
  refine v_X7_199 dX7_tables_104 rfl ⟨rfl, rfl, Nat.le_of_ble_eq_true rfl, Nat.le_of_ble_eq_true rfl⟩ (c_base01) rfl rfl (Nat.le_of_ble_eq_true rfl) (fun r I1 J1 hp => ?_)
  obtain ⟨rfl, e2, e3⟩ := hp
  obtain rfl := e2.symm
  obtain rfl := e3.symm
  refine bX7_tables_107 (s1 := 2) (v110 := nI 2) (v109 := 0 + bsL I 1 0 * bsL I 0 2 + bsL I 1 1 * bsL I 0 1) (by decide) rfl rfl ?_
  refine bX7_tables_72  (fun c => absurd c (by simp only [hn]; decide)) (fun _ => ?_)
  refine bX7_tables_81 (j89 := 3) rfl (by decide) ?_
  refine v_X7_199 dX7_tables_96 rfl ⟨rfl, rfl, Nat.le_of_ble_eq_true rfl, Nat.le_of_ble_eq_true rfl⟩ (c_base11) rfl rfl (Nat.le_of_ble_eq_true rfl) (fun r I1 J1 hp => ?_)
  obtain ⟨rfl, e2, e3⟩ := hp
  obtain rfl := e2.symm
  obtain rfl := e3.symm
  refine bX7_tables_99  ?_
  refine v_X7_199 dX7_tables_104 rfl ⟨rfl, rfl, Nat.le_of_ble_eq_true rfl, Nat.le_of_ble_eq_true rfl⟩ (c_base02) rfl rfl (Nat.le_of_ble_eq_true rfl) (fun r I1 J1 hp => ?_)
  obtain ⟨rfl, e2, e3⟩ := hp
  obtain rfl := e2.symm
  obtain rfl := e3.symm
  refine bX7_tables_107 (s1 := 3) (v110 := nI 3) (v109 := 0 + bsL I 1 1 * bsL I 0 2) (by decide) rfl rfl ?_
  refine bX7_tables_72  (fun _ => ?_) (fun c => absurd c (by simp only [hn]; decide))
  refine bX7_tables_116 (v116 := nI 2) rfl ?_
  refine bX7_tables_60  (fun c => absurd c (by simp only [hn]; decide)) (fun _ => ?_)
  refine bX7_tables_69 (v70 := nI 0) rfl ?_
  refine bX7_tables_72  (fun c => absurd c (by simp only [hn]; decide)) (fun _ => ?_)
  refine bX7_tables_81 (j89 := 2) rfl (by decide) ?_
  refine v_X7_199 dX7_tables_96 rfl ⟨rfl, rfl, Nat.le_of_ble_eq_true rfl, Nat.le_of_ble_eq_true rfl⟩ (c_base12) rfl rfl (Nat.le_of_ble_eq_true rfl) (fun r I1 J1 hp => ?_)
  obtain ⟨rfl, e2, e3⟩ := hp
  obtain rfl := e2.symm
  obtain rfl := e3.symm
  refine bX7_tables_99  ?_
  refine v_X7_199 dX7_tables_104 rfl ⟨rfl, rfl, Nat.le_of_ble_eq_true rfl, Nat.le_of_ble_eq_true rfl⟩ (c_base00) rfl rfl (Nat.le_of_ble_eq_true rfl) (fun r I1 J1 hp => ?_)
  obtain ⟨rfl, e2, e3⟩ := hp
  obtain rfl := e2.symm
  obtain rfl := e3.symm
  refine bX7_tables_107 (s1 := 2) (v110 := nI 1) (v109 := 0 + bsL I 1 0 * bsL I 0 2 + bsL I 1 1 * bsL I 0 1 + bsL I 1 2 * bsL I 0 0) (by decide) rfl rfl ?_
  refine bX7_tables_72  (fun c => absurd c (by simp only [hn]; decide)) (fun _ => ?_)
  refine bX7_tables_81 (j89 := 3) rfl (by decide) ?_
  refine v_X7_199 dX7_tables_96 rfl ⟨rfl, rfl, Nat.le_of_ble_eq_true rfl, Nat.le_of_ble_eq_true rfl⟩ (c_base12) rfl rfl (Nat.le_of_ble_eq_true rfl) (fun r I1 J1 hp => ?_)
  obtain ⟨rfl, e2, e3⟩ := hp
  obtain rfl := e2.symm
  obtain rfl := e3.symm
  refine bX7_tables_99  ?_
  refine v_X7_199 dX7_tables_104 rfl ⟨rfl, rfl, Nat.le_of_ble_eq_true rfl, Nat.le_of_ble_eq_true rfl⟩ (c_base01) rfl rfl (Nat.le_of_ble_eq_true rfl) (fun r I1 J1 hp => ?_)
  obtain ⟨rfl, e2, e3⟩ := hp
  obtain rfl := e2.symm
  obtain rfl := e3.symm
  refine bX7_tables_107 (s1 := 3) (v110 := nI 2) (v109 := 0 + bsL I 1 1 * bsL I 0 2 + bsL I 1 2 * bsL I 0 1) (by decide) rfl rfl ?_
  refine bX7_tables_72  (fun c => absurd c (by simp only [hn]; decide)) (fun _ => ?_)
  refine bX7_tables_81 (j89 := 4) rfl (by decide) ?_
  refine v_X7_199 dX7_tables_96 rfl ⟨rfl, rfl, Nat.le_of_ble_eq_true rfl, Nat.le_of_ble_eq_true rfl⟩ (c_base12) rfl rfl (Nat.le_of_ble_eq_true rfl) (fun r I1 J1 hp => ?_)
  obtain ⟨rfl, e2, e3⟩ := hp
  obtain rfl := e2.symm
  obtain rfl := e3.symm
  refine bX7_tables_99  ?_
  refine v_X7_199 dX7_tables_104 rfl ⟨rfl, rfl, Nat.le_of_ble_eq_true rfl, Nat.le_of_ble_eq_true rfl⟩ (c_base02) rfl rfl (Nat.le_of_ble_eq_true rfl) (fun r I1 J1 hp => ?_)
  obtain ⟨rfl, e2, e3⟩ := hp
  obtain rfl := e2.symm
  obtain rfl := e3.symm
  refine bX7_tables_107 (s1 := 4) (v110 := nI 3) (v109 := 0 + bsL I 1 2 * bsL I 0 2) (by decide) rfl rfl ?_
  refine bX7_tables_72  (fun _ => ?_) (fun c => absurd c (by simp only [hn]; decide))
  refine bX7_tables_116 (v116 := nI 3) rfl ?_
  refine bX7_tables_60  (fun _ => ?_) (fun c => absurd c (by simp only [hn]; decide))
  refine bX7_tables_122  ?_
  refine v_X7_186 dX7_tables_123 rfl ⟨rfl, rfl, Nat.le_of_ble_eq_true rfl, Nat.le_of_ble_eq_true rfl⟩ (c_lower3 hn) rfl rfl (Nat.le_of_ble_eq_true rfl) (fun r I1 Ja hp => ?_)
  obtain ⟨rfl, e2, o0, o1, o2, g⟩ := hp
  obtain rfl := e2.symm
  have hl := lo3_congr (a := (I 0 2).toInt64) (b := (I 0 3).toInt64) (c := (I 0 4).toInt64) (show _ = tw3 (bsL I) 1 0 0 from rfl) (show _ = tw3 (bsL I) 1 0 1 from rfl) (show _ = tw3 (bsL I) 1 0 2 from rfl) (show _ = tw3 (bsL I) 1 0 3 from rfl) (show _ = tw3 (bsL I) 1 0 4 from rfl)
  have a0 : Ja 8 0 = (lw3 I 1 0).1 := o0.trans (congrArg (fun x => x.1) hl)
  have a1 : Ja 8 1 = (lw3 I 1 0).2.1 := o1.trans (congrArg (fun x => x.2.1) hl)
  have a2 : Ja 8 2 = (lw3 I 1 0).2.2 := o2.trans (congrArg (fun x => x.2.2) hl)
  clear o0 o1 o2 hl
  refine bX7_tables_126 rfl (fun c => absurd c (by simp only [hn]; decide)) (fun _ => ?_)
  refine bX7_tables_139 hq ?_
  refine bX7_tables_158 (j207 := 9) (j268 := 10) (j286 := 11) (v290 := nI 1) he hq rfl hd he hq (by decide) rfl (by decide) rfl (by decide) rfl rfl rfl ?_
  refine k _ ?_ ?_ ?_ ?_ ?_
  · exact (show _ = tvX I (x1 * x1) (Ja 8 0) (tvY I (x1 * x1) (Ja 8 1) (tvZ I (x1 * x1) (Ja 8 2))) (tvZ I (x1 * x1) (Ja 8 2)) from rfl).trans (by rw [a0, a1, a2]; rfl)
  · exact (show _ = tvY I (x1 * x1) (Ja 8 1) (tvZ I (x1 * x1) (Ja 8 2)) from rfl).trans (by rw [a1, a2]; rfl)
  · exact (show _ = (tvZ I (x1 * x1) (Ja 8 2)) from rfl).trans (by rw [a2]; rfl)
  · intro t h1 h2 h3; simp only [sa_uJ_off h1, sa_uJ_off h2, sa_uJ_off h3, g 2 (by decide)]; rfl
  · intro q h1 h2; simp only [sa_uJ_ne h1, g q h2, sa_uJ_ne h2]
theorem tb7_3_11 {x1 : Int64} (hn : I 0 1 = nI 3) (hq : ¬ x1 * x1 = 0) (he : ¬ (I 0 9).toInt64 = 0) (hd : ¬ (I 0 6).toInt64 = 0) (k : ∀ Jm : sa_J, Jm 2 12 = (tb3L I (x1 * x1) 1 1).1 → Jm 2 13 = (tb3L I (x1 * x1) 1 1).2.1 → Jm 2 14 = (tb3L I (x1 * x1) 1 1).2.2 → (∀ t, t ≠ 12 → t ≠ 13 → t ≠ 14 → Jm 2 t = J 2 t) → (∀ q, q ≠ 2 → q ≠ 8 → Jm q = J q) → Sat (ER l D aI aL ad) M_X7_tables P 25 [(0, .ref (ad 0)), (1, .long x1), (3, .int (nI 1)), (4, .int (nI 2))] [] I Jm) : Sat (ER l D aI aL ad) M_X7_tables P 34 [(0, .ref (ad 0)), (1, .long x1), (3, .int (nI 1)), (4, .int (nI 1))] [] I J := by
  refine bX7_tables_34 (v35 := nI 0) rfl ?_
  refine bX7_tables_37  (fun c => absurd c (by decide)) (fun _ => ?_)
  refine bX7_tables_43 (j47 := 0) (v51 := nI 1) rfl (by decide) rfl rfl ?_
  refine bX7_tables_37  (fun c => absurd c (by decide)) (fun _ => ?_)
  refine bX7_tables_43 (j47 := 1) (v51 := nI 2) rfl (by decide) rfl rfl ?_
  refine bX7_tables_37  (fun c => absurd c (by decide)) (fun _ => ?_)
  refine bX7_tables_43 (j47 := 2) (v51 := nI 3) rfl (by decide) rfl rfl ?_
  refine bX7_tables_37  (fun c => absurd c (by decide)) (fun _ => ?_)
  refine bX7_tables_43 (j47 := 3) (v51 := nI 4) rfl (by decide) rfl rfl ?_
  refine bX7_tables_37  (fun c => absurd c (by decide)) (fun _ => ?_)
  refine bX7_tables_43 (j47 := 4) (v51 := nI 5) rfl (by decide) rfl rfl ?_
  refine bX7_tables_37  (fun _ => ?_) (fun c => absurd c (by decide))
  refine bX7_tables_57 (v58 := nI 0) rfl ?_
  refine bX7_tables_60  (fun c => absurd c (by simp only [hn]; decide)) (fun _ => ?_)
  refine bX7_tables_69 (v70 := nI 0) rfl ?_
  refine bX7_tables_72  (fun c => absurd c (by simp only [hn]; decide)) (fun _ => ?_)
  refine bX7_tables_81 (j89 := 0) rfl (by decide) ?_
  refine v_X7_199 dX7_tables_96 rfl ⟨rfl, rfl, Nat.le_of_ble_eq_true rfl, Nat.le_of_ble_eq_true rfl⟩ (c_base10) rfl rfl (Nat.le_of_ble_eq_true rfl) (fun r I1 J1 hp => ?_)
  obtain ⟨rfl, e2, e3⟩ := hp
  obtain rfl := e2.symm
  obtain rfl := e3.symm
  refine bX7_tables_99  ?_
  refine v_X7_199 dX7_tables_104 rfl ⟨rfl, rfl, Nat.le_of_ble_eq_true rfl, Nat.le_of_ble_eq_true rfl⟩ (c_base10) rfl rfl (Nat.le_of_ble_eq_true rfl) (fun r I1 J1 hp => ?_)
  obtain ⟨rfl, e2, e3⟩ := hp
  obtain rfl := e2.symm
  obtain rfl := e3.symm
  refine bX7_tables_107 (s1 := 0) (v110 := nI 1) (v109 := 0 + bsL I 1 0 * bsL I 1 0) (by decide) rfl rfl ?_
  refine bX7_tables_72  (fun c => absurd c (by simp only [hn]; decide)) (fun _ => ?_)
  refine bX7_tables_81 (j89 := 1) rfl (by decide) ?_
  refine v_X7_199 dX7_tables_96 rfl ⟨rfl, rfl, Nat.le_of_ble_eq_true rfl, Nat.le_of_ble_eq_true rfl⟩ (c_base10) rfl rfl (Nat.le_of_ble_eq_true rfl) (fun r I1 J1 hp => ?_)
  obtain ⟨rfl, e2, e3⟩ := hp
  obtain rfl := e2.symm
  obtain rfl := e3.symm
  refine bX7_tables_99  ?_
  refine v_X7_199 dX7_tables_104 rfl ⟨rfl, rfl, Nat.le_of_ble_eq_true rfl, Nat.le_of_ble_eq_true rfl⟩ (c_base11) rfl rfl (Nat.le_of_ble_eq_true rfl) (fun r I1 J1 hp => ?_)
  obtain ⟨rfl, e2, e3⟩ := hp
  obtain rfl := e2.symm
  obtain rfl := e3.symm
  refine bX7_tables_107 (s1 := 1) (v110 := nI 2) (v109 := 0 + bsL I 1 0 * bsL I 1 1) (by decide) rfl rfl ?_
  refine bX7_tables_72  (fun c => absurd c (by simp only [hn]; decide)) (fun _ => ?_)
  refine bX7_tables_81 (j89 := 2) rfl (by decide) ?_
  refine v_X7_199 dX7_tables_96 rfl ⟨rfl, rfl, Nat.le_of_ble_eq_true rfl, Nat.le_of_ble_eq_true rfl⟩ (c_base10) rfl rfl (Nat.le_of_ble_eq_true rfl) (fun r I1 J1 hp => ?_)
  obtain ⟨rfl, e2, e3⟩ := hp
  obtain rfl := e2.symm
  obtain rfl := e3.symm
  refine bX7_tables_99  ?_
  refine v_X7_199 dX7_tables_104 rfl ⟨rfl, rfl, Nat.le_of_ble_eq_true rfl, Nat.le_of_ble_eq_true rfl⟩ (c_base12) rfl rfl (Nat.le_of_ble_eq_true rfl) (fun r I1 J1 hp => ?_)
  obtain ⟨rfl, e2, e3⟩ := hp
  obtain rfl := e2.symm
  obtain rfl := e3.symm
  refine bX7_tables_107 (s1 := 2) (v110 := nI 3) (v109 := 0 + bsL I 1 0 * bsL I 1 2) (by decide) rfl rfl ?_
  refine bX7_tables_72  (fun _ => ?_) (fun c => absurd c (by simp only [hn]; decide))
  refine bX7_tables_116 (v116 := nI 1) rfl ?_
  refine bX7_tables_60  (fun c => absurd c (by simp only [hn]; decide)) (fun _ => ?_)
  refine bX7_tables_69 (v70 := nI 0) rfl ?_
  refine bX7_tables_72  (fun c => absurd c (by simp only [hn]; decide)) (fun _ => ?_)
  refine bX7_tables_81 (j89 := 1) rfl (by decide) ?_
  refine v_X7_199 dX7_tables_96 rfl ⟨rfl, rfl, Nat.le_of_ble_eq_true rfl, Nat.le_of_ble_eq_true rfl⟩ (c_base11) rfl rfl (Nat.le_of_ble_eq_true rfl) (fun r I1 J1 hp => ?_)
  obtain ⟨rfl, e2, e3⟩ := hp
  obtain rfl := e2.symm
  obtain rfl := e3.symm
  refine bX7_tables_99  ?_
  refine v_X7_199 dX7_tables_104 rfl ⟨rfl, rfl, Nat.le_of_ble_eq_true rfl, Nat.le_of_ble_eq_true rfl⟩ (c_base10) rfl rfl (Nat.le_of_ble_eq_true rfl) (fun r I1 J1 hp => ?_)
  obtain ⟨rfl, e2, e3⟩ := hp
  obtain rfl := e2.symm
  obtain rfl := e3.symm
  refine bX7_tables_107 (s1 := 1) (v110 := nI 1) (v109 := 0 + bsL I 1 0 * bsL I 1 1 + bsL I 1 1 * bsL I 1 0) (by decide) rfl rfl ?_
  refine bX7_tables_72  (fun c => absurd c (by simp only [hn]; decide)) (fun _ => ?_)
  refine bX7_tables_81 (j89 := 2) rfl (by decide) ?_
  refine v_X7_199 dX7_tables_96 rfl ⟨rfl, rfl, Nat.le_of_ble_eq_true rfl, Nat.le_of_ble_eq_true rfl⟩ (c_base11) rfl rfl (Nat.le_of_ble_eq_true rfl) (fun r I1 J1 hp => ?_)
  obtain ⟨rfl, e2, e3⟩ := hp
  obtain rfl := e2.symm
  obtain rfl := e3.symm
  refine bX7_tables_99  ?_
  refine v_X7_199 dX7_tables_104 rfl ⟨rfl, rfl, Nat.le_of_ble_eq_true rfl, Nat.le_of_ble_eq_true rfl⟩ (c_base11) rfl rfl (Nat.le_of_ble_eq_true rfl) (fun r I1 J1 hp => ?_)
  obtain ⟨rfl, e2, e3⟩ := hp
  obtain rfl := e2.symm
  obtain rfl := e3.symm
  refine bX7_tables_107 (s1 := 2) (v110 := nI 2) (v109 := 0 + bsL I 1 0 * bsL I 1 2 + bsL I 1 1 * bsL I 1 1) (by decide) rfl rfl ?_
  refine bX7_tables_72  (fun c => absurd c (by simp only [hn]; decide)) (fun _ => ?_)
  refine bX7_tables_81 (j89 := 3) rfl (by decide) ?_
  refine v_X7_199 dX7_tables_96 rfl ⟨rfl, rfl, Nat.le_of_ble_eq_true rfl, Nat.le_of_ble_eq_true rfl⟩ (c_base11) rfl rfl (Nat.le_of_ble_eq_true rfl) (fun r I1 J1 hp => ?_)
  obtain ⟨rfl, e2, e3⟩ := hp
  obtain rfl := e2.symm
  obtain rfl := e3.symm
  refine bX7_tables_99  ?_
  refine v_X7_199 dX7_tables_104 rfl ⟨rfl, rfl, Nat.le_of_ble_eq_true rfl, Nat.le_of_ble_eq_true rfl⟩ (c_base12) rfl rfl (Nat.le_of_ble_eq_true rfl) (fun r I1 J1 hp => ?_)
  obtain ⟨rfl, e2, e3⟩ := hp
  obtain rfl := e2.symm
  obtain rfl := e3.symm
  refine bX7_tables_107 (s1 := 3) (v110 := nI 3) (v109 := 0 + bsL I 1 1 * bsL I 1 2) (by decide) rfl rfl ?_
  refine bX7_tables_72  (fun _ => ?_) (fun c => absurd c (by simp only [hn]; decide))
  refine bX7_tables_116 (v116 := nI 2) rfl ?_
  refine bX7_tables_60  (fun c => absurd c (by simp only [hn]; decide)) (fun _ => ?_)
  refine bX7_tables_69 (v70 := nI 0) rfl ?_
  refine bX7_tables_72  (fun c => absurd c (by simp only [hn]; decide)) (fun _ => ?_)
  refine bX7_tables_81 (j89 := 2) rfl (by decide) ?_
  refine v_X7_199 dX7_tables_96 rfl ⟨rfl, rfl, Nat.le_of_ble_eq_true rfl, Nat.le_of_ble_eq_true rfl⟩ (c_base12) rfl rfl (Nat.le_of_ble_eq_true rfl) (fun r I1 J1 hp => ?_)
  obtain ⟨rfl, e2, e3⟩ := hp
  obtain rfl := e2.symm
  obtain rfl := e3.symm
  refine bX7_tables_99  ?_
  refine v_X7_199 dX7_tables_104 rfl ⟨rfl, rfl, Nat.le_of_ble_eq_true rfl, Nat.le_of_ble_eq_true rfl⟩ (c_base10) rfl rfl (Nat.le_of_ble_eq_true rfl) (fun r I1 J1 hp => ?_)
  obtain ⟨rfl, e2, e3⟩ := hp
  obtain rfl := e2.symm
  obtain rfl := e3.symm
  refine bX7_tables_107 (s1 := 2) (v110 := nI 1) (v109 := 0 + bsL I 1 0 * bsL I 1 2 + bsL I 1 1 * bsL I 1 1 + bsL I 1 2 * bsL I 1 0) (by decide) rfl rfl ?_
  refine bX7_tables_72  (fun c => absurd c (by simp only [hn]; decide)) (fun _ => ?_)
  refine bX7_tables_81 (j89 := 3) rfl (by decide) ?_
  refine v_X7_199 dX7_tables_96 rfl ⟨rfl, rfl, Nat.le_of_ble_eq_true rfl, Nat.le_of_ble_eq_true rfl⟩ (c_base12) rfl rfl (Nat.le_of_ble_eq_true rfl) (fun r I1 J1 hp => ?_)
  obtain ⟨rfl, e2, e3⟩ := hp
  obtain rfl := e2.symm
  obtain rfl := e3.symm
  refine bX7_tables_99  ?_
  refine v_X7_199 dX7_tables_104 rfl ⟨rfl, rfl, Nat.le_of_ble_eq_true rfl, Nat.le_of_ble_eq_true rfl⟩ (c_base11) rfl rfl (Nat.le_of_ble_eq_true rfl) (fun r I1 J1 hp => ?_)
  obtain ⟨rfl, e2, e3⟩ := hp
  obtain rfl := e2.symm
  obtain rfl := e3.symm
  refine bX7_tables_107 (s1 := 3) (v110 := nI 2) (v109 := 0 + bsL I 1 1 * bsL I 1 2 + bsL I 1 2 * bsL I 1 1) (by decide) rfl rfl ?_
  refine bX7_tables_72  (fun c => absurd c (by simp only [hn]; decide)) (fun _ => ?_)
  refine bX7_tables_81 (j89 := 4) rfl (by decide) ?_
  refine v_X7_199 dX7_tables_96 rfl ⟨rfl, rfl, Nat.le_of_ble_eq_true rfl, Nat.le_of_ble_eq_true rfl⟩ (c_base12) rfl rfl (Nat.le_of_ble_eq_true rfl) (fun r I1 J1 hp => ?_)
  obtain ⟨rfl, e2, e3⟩ := hp
  obtain rfl := e2.symm
  obtain rfl := e3.symm
  refine bX7_tables_99  ?_
  refine v_X7_199 dX7_tables_104 rfl ⟨rfl, rfl, Nat.le_of_ble_eq_true rfl, Nat.le_of_ble_eq_true rfl⟩ (c_base12) rfl rfl (Nat.le_of_ble_eq_true rfl) (fun r I1 J1 hp => ?_)
  obtain ⟨rfl, e2, e3⟩ := hp
  obtain rfl := e2.symm
  obtain rfl := e3.symm
  refine bX7_tables_107 (s1 := 4) (v110 := nI 3) (v109 := 0 + bsL I 1 2 * bsL I 1 2) (by decide) rfl rfl ?_
  refine bX7_tables_72  (fun _ => ?_) (fun c => absurd c (by simp only [hn]; decide))
  refine bX7_tables_116 (v116 := nI 3) rfl ?_
  refine bX7_tables_60  (fun _ => ?_) (fun c => absurd c (by simp only [hn]; decide))
  refine bX7_tables_122  ?_
  refine v_X7_186 dX7_tables_123 rfl ⟨rfl, rfl, Nat.le_of_ble_eq_true rfl, Nat.le_of_ble_eq_true rfl⟩ (c_lower3 hn) rfl rfl (Nat.le_of_ble_eq_true rfl) (fun r I1 Ja hp => ?_)
  obtain ⟨rfl, e2, o0, o1, o2, g⟩ := hp
  obtain rfl := e2.symm
  have hl := lo3_congr (a := (I 0 2).toInt64) (b := (I 0 3).toInt64) (c := (I 0 4).toInt64) (show _ = tw3 (bsL I) 1 1 0 from rfl) (show _ = tw3 (bsL I) 1 1 1 from rfl) (show _ = tw3 (bsL I) 1 1 2 from rfl) (show _ = tw3 (bsL I) 1 1 3 from rfl) (show _ = tw3 (bsL I) 1 1 4 from rfl)
  have a0 : Ja 8 0 = (lw3 I 1 1).1 := o0.trans (congrArg (fun x => x.1) hl)
  have a1 : Ja 8 1 = (lw3 I 1 1).2.1 := o1.trans (congrArg (fun x => x.2.1) hl)
  have a2 : Ja 8 2 = (lw3 I 1 1).2.2 := o2.trans (congrArg (fun x => x.2.2) hl)
  clear o0 o1 o2 hl
  refine bX7_tables_126 rfl (fun c => absurd c (by simp only [hn]; decide)) (fun _ => ?_)
  refine bX7_tables_139 hq ?_
  refine bX7_tables_158 (j207 := 12) (j268 := 13) (j286 := 14) (v290 := nI 2) he hq rfl hd he hq (by decide) rfl (by decide) rfl (by decide) rfl rfl rfl ?_
  refine k _ ?_ ?_ ?_ ?_ ?_
  · exact (show _ = tvX I (x1 * x1) (Ja 8 0) (tvY I (x1 * x1) (Ja 8 1) (tvZ I (x1 * x1) (Ja 8 2))) (tvZ I (x1 * x1) (Ja 8 2)) from rfl).trans (by rw [a0, a1, a2]; rfl)
  · exact (show _ = tvY I (x1 * x1) (Ja 8 1) (tvZ I (x1 * x1) (Ja 8 2)) from rfl).trans (by rw [a1, a2]; rfl)
  · exact (show _ = (tvZ I (x1 * x1) (Ja 8 2)) from rfl).trans (by rw [a2]; rfl)
  · intro t h1 h2 h3; simp only [sa_uJ_off h1, sa_uJ_off h2, sa_uJ_off h3, g 2 (by decide)]; rfl
  · intro q h1 h2; simp only [sa_uJ_ne h1, g q h2, sa_uJ_ne h2]
theorem tb7_3_12 {x1 : Int64} (hn : I 0 1 = nI 3) (hq : ¬ x1 * x1 = 0) (he : ¬ (I 0 9).toInt64 = 0) (hd : ¬ (I 0 6).toInt64 = 0) (k : ∀ Jm : sa_J, Jm 2 15 = (tb3L I (x1 * x1) 1 2).1 → Jm 2 16 = (tb3L I (x1 * x1) 1 2).2.1 → Jm 2 17 = (tb3L I (x1 * x1) 1 2).2.2 → (∀ t, t ≠ 15 → t ≠ 16 → t ≠ 17 → Jm 2 t = J 2 t) → (∀ q, q ≠ 2 → q ≠ 8 → Jm q = J q) → Sat (ER l D aI aL ad) M_X7_tables P 25 [(0, .ref (ad 0)), (1, .long x1), (3, .int (nI 1)), (4, .int (nI 3))] [] I Jm) : Sat (ER l D aI aL ad) M_X7_tables P 34 [(0, .ref (ad 0)), (1, .long x1), (3, .int (nI 1)), (4, .int (nI 2))] [] I J := by
  refine bX7_tables_34 (v35 := nI 0) rfl ?_
  refine bX7_tables_37  (fun c => absurd c (by decide)) (fun _ => ?_)
  refine bX7_tables_43 (j47 := 0) (v51 := nI 1) rfl (by decide) rfl rfl ?_
  refine bX7_tables_37  (fun c => absurd c (by decide)) (fun _ => ?_)
  refine bX7_tables_43 (j47 := 1) (v51 := nI 2) rfl (by decide) rfl rfl ?_
  refine bX7_tables_37  (fun c => absurd c (by decide)) (fun _ => ?_)
  refine bX7_tables_43 (j47 := 2) (v51 := nI 3) rfl (by decide) rfl rfl ?_
  refine bX7_tables_37  (fun c => absurd c (by decide)) (fun _ => ?_)
  refine bX7_tables_43 (j47 := 3) (v51 := nI 4) rfl (by decide) rfl rfl ?_
  refine bX7_tables_37  (fun c => absurd c (by decide)) (fun _ => ?_)
  refine bX7_tables_43 (j47 := 4) (v51 := nI 5) rfl (by decide) rfl rfl ?_
  refine bX7_tables_37  (fun _ => ?_) (fun c => absurd c (by decide))
  refine bX7_tables_57 (v58 := nI 0) rfl ?_
  refine bX7_tables_60  (fun c => absurd c (by simp only [hn]; decide)) (fun _ => ?_)
  refine bX7_tables_69 (v70 := nI 0) rfl ?_
  refine bX7_tables_72  (fun c => absurd c (by simp only [hn]; decide)) (fun _ => ?_)
  refine bX7_tables_81 (j89 := 0) rfl (by decide) ?_
  refine v_X7_199 dX7_tables_96 rfl ⟨rfl, rfl, Nat.le_of_ble_eq_true rfl, Nat.le_of_ble_eq_true rfl⟩ (c_base10) rfl rfl (Nat.le_of_ble_eq_true rfl) (fun r I1 J1 hp => ?_)
  obtain ⟨rfl, e2, e3⟩ := hp
  obtain rfl := e2.symm
  obtain rfl := e3.symm
  refine bX7_tables_99  ?_
  refine v_X7_199 dX7_tables_104 rfl ⟨rfl, rfl, Nat.le_of_ble_eq_true rfl, Nat.le_of_ble_eq_true rfl⟩ (c_base20) rfl rfl (Nat.le_of_ble_eq_true rfl) (fun r I1 J1 hp => ?_)
  obtain ⟨rfl, e2, e3⟩ := hp
  obtain rfl := e2.symm
  obtain rfl := e3.symm
  refine bX7_tables_107 (s1 := 0) (v110 := nI 1) (v109 := 0 + bsL I 1 0 * bsL I 2 0) (by decide) rfl rfl ?_
  refine bX7_tables_72  (fun c => absurd c (by simp only [hn]; decide)) (fun _ => ?_)
  refine bX7_tables_81 (j89 := 1) rfl (by decide) ?_
  refine v_X7_199 dX7_tables_96 rfl ⟨rfl, rfl, Nat.le_of_ble_eq_true rfl, Nat.le_of_ble_eq_true rfl⟩ (c_base10) rfl rfl (Nat.le_of_ble_eq_true rfl) (fun r I1 J1 hp => ?_)
  obtain ⟨rfl, e2, e3⟩ := hp
  obtain rfl := e2.symm
  obtain rfl := e3.symm
  refine bX7_tables_99  ?_
  refine v_X7_199 dX7_tables_104 rfl ⟨rfl, rfl, Nat.le_of_ble_eq_true rfl, Nat.le_of_ble_eq_true rfl⟩ (c_base21) rfl rfl (Nat.le_of_ble_eq_true rfl) (fun r I1 J1 hp => ?_)
  obtain ⟨rfl, e2, e3⟩ := hp
  obtain rfl := e2.symm
  obtain rfl := e3.symm
  refine bX7_tables_107 (s1 := 1) (v110 := nI 2) (v109 := 0 + bsL I 1 0 * bsL I 2 1) (by decide) rfl rfl ?_
  refine bX7_tables_72  (fun c => absurd c (by simp only [hn]; decide)) (fun _ => ?_)
  refine bX7_tables_81 (j89 := 2) rfl (by decide) ?_
  refine v_X7_199 dX7_tables_96 rfl ⟨rfl, rfl, Nat.le_of_ble_eq_true rfl, Nat.le_of_ble_eq_true rfl⟩ (c_base10) rfl rfl (Nat.le_of_ble_eq_true rfl) (fun r I1 J1 hp => ?_)
  obtain ⟨rfl, e2, e3⟩ := hp
  obtain rfl := e2.symm
  obtain rfl := e3.symm
  refine bX7_tables_99  ?_
  refine v_X7_199 dX7_tables_104 rfl ⟨rfl, rfl, Nat.le_of_ble_eq_true rfl, Nat.le_of_ble_eq_true rfl⟩ (c_base22) rfl rfl (Nat.le_of_ble_eq_true rfl) (fun r I1 J1 hp => ?_)
  obtain ⟨rfl, e2, e3⟩ := hp
  obtain rfl := e2.symm
  obtain rfl := e3.symm
  refine bX7_tables_107 (s1 := 2) (v110 := nI 3) (v109 := 0 + bsL I 1 0 * bsL I 2 2) (by decide) rfl rfl ?_
  refine bX7_tables_72  (fun _ => ?_) (fun c => absurd c (by simp only [hn]; decide))
  refine bX7_tables_116 (v116 := nI 1) rfl ?_
  refine bX7_tables_60  (fun c => absurd c (by simp only [hn]; decide)) (fun _ => ?_)
  refine bX7_tables_69 (v70 := nI 0) rfl ?_
  refine bX7_tables_72  (fun c => absurd c (by simp only [hn]; decide)) (fun _ => ?_)
  refine bX7_tables_81 (j89 := 1) rfl (by decide) ?_
  refine v_X7_199 dX7_tables_96 rfl ⟨rfl, rfl, Nat.le_of_ble_eq_true rfl, Nat.le_of_ble_eq_true rfl⟩ (c_base11) rfl rfl (Nat.le_of_ble_eq_true rfl) (fun r I1 J1 hp => ?_)
  obtain ⟨rfl, e2, e3⟩ := hp
  obtain rfl := e2.symm
  obtain rfl := e3.symm
  refine bX7_tables_99  ?_
  refine v_X7_199 dX7_tables_104 rfl ⟨rfl, rfl, Nat.le_of_ble_eq_true rfl, Nat.le_of_ble_eq_true rfl⟩ (c_base20) rfl rfl (Nat.le_of_ble_eq_true rfl) (fun r I1 J1 hp => ?_)
  obtain ⟨rfl, e2, e3⟩ := hp
  obtain rfl := e2.symm
  obtain rfl := e3.symm
  refine bX7_tables_107 (s1 := 1) (v110 := nI 1) (v109 := 0 + bsL I 1 0 * bsL I 2 1 + bsL I 1 1 * bsL I 2 0) (by decide) rfl rfl ?_
  refine bX7_tables_72  (fun c => absurd c (by simp only [hn]; decide)) (fun _ => ?_)
  refine bX7_tables_81 (j89 := 2) rfl (by decide) ?_
  refine v_X7_199 dX7_tables_96 rfl ⟨rfl, rfl, Nat.le_of_ble_eq_true rfl, Nat.le_of_ble_eq_true rfl⟩ (c_base11) rfl rfl (Nat.le_of_ble_eq_true rfl) (fun r I1 J1 hp => ?_)
  obtain ⟨rfl, e2, e3⟩ := hp
  obtain rfl := e2.symm
  obtain rfl := e3.symm
  refine bX7_tables_99  ?_
  refine v_X7_199 dX7_tables_104 rfl ⟨rfl, rfl, Nat.le_of_ble_eq_true rfl, Nat.le_of_ble_eq_true rfl⟩ (c_base21) rfl rfl (Nat.le_of_ble_eq_true rfl) (fun r I1 J1 hp => ?_)
  obtain ⟨rfl, e2, e3⟩ := hp
  obtain rfl := e2.symm
  obtain rfl := e3.symm
  refine bX7_tables_107 (s1 := 2) (v110 := nI 2) (v109 := 0 + bsL I 1 0 * bsL I 2 2 + bsL I 1 1 * bsL I 2 1) (by decide) rfl rfl ?_
  refine bX7_tables_72  (fun c => absurd c (by simp only [hn]; decide)) (fun _ => ?_)
  refine bX7_tables_81 (j89 := 3) rfl (by decide) ?_
  refine v_X7_199 dX7_tables_96 rfl ⟨rfl, rfl, Nat.le_of_ble_eq_true rfl, Nat.le_of_ble_eq_true rfl⟩ (c_base11) rfl rfl (Nat.le_of_ble_eq_true rfl) (fun r I1 J1 hp => ?_)
  obtain ⟨rfl, e2, e3⟩ := hp
  obtain rfl := e2.symm
  obtain rfl := e3.symm
  refine bX7_tables_99  ?_
  refine v_X7_199 dX7_tables_104 rfl ⟨rfl, rfl, Nat.le_of_ble_eq_true rfl, Nat.le_of_ble_eq_true rfl⟩ (c_base22) rfl rfl (Nat.le_of_ble_eq_true rfl) (fun r I1 J1 hp => ?_)
  obtain ⟨rfl, e2, e3⟩ := hp
  obtain rfl := e2.symm
  obtain rfl := e3.symm
  refine bX7_tables_107 (s1 := 3) (v110 := nI 3) (v109 := 0 + bsL I 1 1 * bsL I 2 2) (by decide) rfl rfl ?_
  refine bX7_tables_72  (fun _ => ?_) (fun c => absurd c (by simp only [hn]; decide))
  refine bX7_tables_116 (v116 := nI 2) rfl ?_
  refine bX7_tables_60  (fun c => absurd c (by simp only [hn]; decide)) (fun _ => ?_)
  refine bX7_tables_69 (v70 := nI 0) rfl ?_
  refine bX7_tables_72  (fun c => absurd c (by simp only [hn]; decide)) (fun _ => ?_)
  refine bX7_tables_81 (j89 := 2) rfl (by decide) ?_
  refine v_X7_199 dX7_tables_96 rfl ⟨rfl, rfl, Nat.le_of_ble_eq_true rfl, Nat.le_of_ble_eq_true rfl⟩ (c_base12) rfl rfl (Nat.le_of_ble_eq_true rfl) (fun r I1 J1 hp => ?_)
  obtain ⟨rfl, e2, e3⟩ := hp
  obtain rfl := e2.symm
  obtain rfl := e3.symm
  refine bX7_tables_99  ?_
  refine v_X7_199 dX7_tables_104 rfl ⟨rfl, rfl, Nat.le_of_ble_eq_true rfl, Nat.le_of_ble_eq_true rfl⟩ (c_base20) rfl rfl (Nat.le_of_ble_eq_true rfl) (fun r I1 J1 hp => ?_)
  obtain ⟨rfl, e2, e3⟩ := hp
  obtain rfl := e2.symm
  obtain rfl := e3.symm
  refine bX7_tables_107 (s1 := 2) (v110 := nI 1) (v109 := 0 + bsL I 1 0 * bsL I 2 2 + bsL I 1 1 * bsL I 2 1 + bsL I 1 2 * bsL I 2 0) (by decide) rfl rfl ?_
  refine bX7_tables_72  (fun c => absurd c (by simp only [hn]; decide)) (fun _ => ?_)
  refine bX7_tables_81 (j89 := 3) rfl (by decide) ?_
  refine v_X7_199 dX7_tables_96 rfl ⟨rfl, rfl, Nat.le_of_ble_eq_true rfl, Nat.le_of_ble_eq_true rfl⟩ (c_base12) rfl rfl (Nat.le_of_ble_eq_true rfl) (fun r I1 J1 hp => ?_)
  obtain ⟨rfl, e2, e3⟩ := hp
  obtain rfl := e2.symm
  obtain rfl := e3.symm
  refine bX7_tables_99  ?_
  refine v_X7_199 dX7_tables_104 rfl ⟨rfl, rfl, Nat.le_of_ble_eq_true rfl, Nat.le_of_ble_eq_true rfl⟩ (c_base21) rfl rfl (Nat.le_of_ble_eq_true rfl) (fun r I1 J1 hp => ?_)
  obtain ⟨rfl, e2, e3⟩ := hp
  obtain rfl := e2.symm
  obtain rfl := e3.symm
  refine bX7_tables_107 (s1 := 3) (v110 := nI 2) (v109 := 0 + bsL I 1 1 * bsL I 2 2 + bsL I 1 2 * bsL I 2 1) (by decide) rfl rfl ?_
  refine bX7_tables_72  (fun c => absurd c (by simp only [hn]; decide)) (fun _ => ?_)
  refine bX7_tables_81 (j89 := 4) rfl (by decide) ?_
  refine v_X7_199 dX7_tables_96 rfl ⟨rfl, rfl, Nat.le_of_ble_eq_true rfl, Nat.le_of_ble_eq_true rfl⟩ (c_base12) rfl rfl (Nat.le_of_ble_eq_true rfl) (fun r I1 J1 hp => ?_)
  obtain ⟨rfl, e2, e3⟩ := hp
  obtain rfl := e2.symm
  obtain rfl := e3.symm
  refine bX7_tables_99  ?_
  refine v_X7_199 dX7_tables_104 rfl ⟨rfl, rfl, Nat.le_of_ble_eq_true rfl, Nat.le_of_ble_eq_true rfl⟩ (c_base22) rfl rfl (Nat.le_of_ble_eq_true rfl) (fun r I1 J1 hp => ?_)
  obtain ⟨rfl, e2, e3⟩ := hp
  obtain rfl := e2.symm
  obtain rfl := e3.symm
  refine bX7_tables_107 (s1 := 4) (v110 := nI 3) (v109 := 0 + bsL I 1 2 * bsL I 2 2) (by decide) rfl rfl ?_
  refine bX7_tables_72  (fun _ => ?_) (fun c => absurd c (by simp only [hn]; decide))
  refine bX7_tables_116 (v116 := nI 3) rfl ?_
  refine bX7_tables_60  (fun _ => ?_) (fun c => absurd c (by simp only [hn]; decide))
  refine bX7_tables_122  ?_
  refine v_X7_186 dX7_tables_123 rfl ⟨rfl, rfl, Nat.le_of_ble_eq_true rfl, Nat.le_of_ble_eq_true rfl⟩ (c_lower3 hn) rfl rfl (Nat.le_of_ble_eq_true rfl) (fun r I1 Ja hp => ?_)
  obtain ⟨rfl, e2, o0, o1, o2, g⟩ := hp
  obtain rfl := e2.symm
  have hl := lo3_congr (a := (I 0 2).toInt64) (b := (I 0 3).toInt64) (c := (I 0 4).toInt64) (show _ = tw3 (bsL I) 1 2 0 from rfl) (show _ = tw3 (bsL I) 1 2 1 from rfl) (show _ = tw3 (bsL I) 1 2 2 from rfl) (show _ = tw3 (bsL I) 1 2 3 from rfl) (show _ = tw3 (bsL I) 1 2 4 from rfl)
  have a0 : Ja 8 0 = (lw3 I 1 2).1 := o0.trans (congrArg (fun x => x.1) hl)
  have a1 : Ja 8 1 = (lw3 I 1 2).2.1 := o1.trans (congrArg (fun x => x.2.1) hl)
  have a2 : Ja 8 2 = (lw3 I 1 2).2.2 := o2.trans (congrArg (fun x => x.2.2) hl)
  clear o0 o1 o2 hl
  refine bX7_tables_126 rfl (fun c => absurd c (by simp only [hn]; decide)) (fun _ => ?_)
  refine bX7_tables_139 hq ?_
  refine bX7_tables_158 (j207 := 15) (j268 := 16) (j286 := 17) (v290 := nI 3) he hq rfl hd he hq (by decide) rfl (by decide) rfl (by decide) rfl rfl rfl ?_
  refine k _ ?_ ?_ ?_ ?_ ?_
  · exact (show _ = tvX I (x1 * x1) (Ja 8 0) (tvY I (x1 * x1) (Ja 8 1) (tvZ I (x1 * x1) (Ja 8 2))) (tvZ I (x1 * x1) (Ja 8 2)) from rfl).trans (by rw [a0, a1, a2]; rfl)
  · exact (show _ = tvY I (x1 * x1) (Ja 8 1) (tvZ I (x1 * x1) (Ja 8 2)) from rfl).trans (by rw [a1, a2]; rfl)
  · exact (show _ = (tvZ I (x1 * x1) (Ja 8 2)) from rfl).trans (by rw [a2]; rfl)
  · intro t h1 h2 h3; simp only [sa_uJ_off h1, sa_uJ_off h2, sa_uJ_off h3, g 2 (by decide)]; rfl
  · intro q h1 h2; simp only [sa_uJ_ne h1, g q h2, sa_uJ_ne h2]
theorem tb7_3_20 {x1 : Int64} (hn : I 0 1 = nI 3) (hq : ¬ x1 * x1 = 0) (he : ¬ (I 0 9).toInt64 = 0) (hd : ¬ (I 0 6).toInt64 = 0) (k : ∀ Jm : sa_J, Jm 2 18 = (tb3L I (x1 * x1) 2 0).1 → Jm 2 19 = (tb3L I (x1 * x1) 2 0).2.1 → Jm 2 20 = (tb3L I (x1 * x1) 2 0).2.2 → (∀ t, t ≠ 18 → t ≠ 19 → t ≠ 20 → Jm 2 t = J 2 t) → (∀ q, q ≠ 2 → q ≠ 8 → Jm q = J q) → Sat (ER l D aI aL ad) M_X7_tables P 25 [(0, .ref (ad 0)), (1, .long x1), (3, .int (nI 2)), (4, .int (nI 1))] [] I Jm) : Sat (ER l D aI aL ad) M_X7_tables P 34 [(0, .ref (ad 0)), (1, .long x1), (3, .int (nI 2)), (4, .int (nI 0))] [] I J := by
  refine bX7_tables_34 (v35 := nI 0) rfl ?_
  refine bX7_tables_37  (fun c => absurd c (by decide)) (fun _ => ?_)
  refine bX7_tables_43 (j47 := 0) (v51 := nI 1) rfl (by decide) rfl rfl ?_
  refine bX7_tables_37  (fun c => absurd c (by decide)) (fun _ => ?_)
  refine bX7_tables_43 (j47 := 1) (v51 := nI 2) rfl (by decide) rfl rfl ?_
  refine bX7_tables_37  (fun c => absurd c (by decide)) (fun _ => ?_)
  refine bX7_tables_43 (j47 := 2) (v51 := nI 3) rfl (by decide) rfl rfl ?_
  refine bX7_tables_37  (fun c => absurd c (by decide)) (fun _ => ?_)
  refine bX7_tables_43 (j47 := 3) (v51 := nI 4) rfl (by decide) rfl rfl ?_
  refine bX7_tables_37  (fun c => absurd c (by decide)) (fun _ => ?_)
  refine bX7_tables_43 (j47 := 4) (v51 := nI 5) rfl (by decide) rfl rfl ?_
  refine bX7_tables_37  (fun _ => ?_) (fun c => absurd c (by decide))
  refine bX7_tables_57 (v58 := nI 0) rfl ?_
  refine bX7_tables_60  (fun c => absurd c (by simp only [hn]; decide)) (fun _ => ?_)
  refine bX7_tables_69 (v70 := nI 0) rfl ?_
  refine bX7_tables_72  (fun c => absurd c (by simp only [hn]; decide)) (fun _ => ?_)
  refine bX7_tables_81 (j89 := 0) rfl (by decide) ?_
  refine v_X7_199 dX7_tables_96 rfl ⟨rfl, rfl, Nat.le_of_ble_eq_true rfl, Nat.le_of_ble_eq_true rfl⟩ (c_base20) rfl rfl (Nat.le_of_ble_eq_true rfl) (fun r I1 J1 hp => ?_)
  obtain ⟨rfl, e2, e3⟩ := hp
  obtain rfl := e2.symm
  obtain rfl := e3.symm
  refine bX7_tables_99  ?_
  refine v_X7_199 dX7_tables_104 rfl ⟨rfl, rfl, Nat.le_of_ble_eq_true rfl, Nat.le_of_ble_eq_true rfl⟩ (c_base00) rfl rfl (Nat.le_of_ble_eq_true rfl) (fun r I1 J1 hp => ?_)
  obtain ⟨rfl, e2, e3⟩ := hp
  obtain rfl := e2.symm
  obtain rfl := e3.symm
  refine bX7_tables_107 (s1 := 0) (v110 := nI 1) (v109 := 0 + bsL I 2 0 * bsL I 0 0) (by decide) rfl rfl ?_
  refine bX7_tables_72  (fun c => absurd c (by simp only [hn]; decide)) (fun _ => ?_)
  refine bX7_tables_81 (j89 := 1) rfl (by decide) ?_
  refine v_X7_199 dX7_tables_96 rfl ⟨rfl, rfl, Nat.le_of_ble_eq_true rfl, Nat.le_of_ble_eq_true rfl⟩ (c_base20) rfl rfl (Nat.le_of_ble_eq_true rfl) (fun r I1 J1 hp => ?_)
  obtain ⟨rfl, e2, e3⟩ := hp
  obtain rfl := e2.symm
  obtain rfl := e3.symm
  refine bX7_tables_99  ?_
  refine v_X7_199 dX7_tables_104 rfl ⟨rfl, rfl, Nat.le_of_ble_eq_true rfl, Nat.le_of_ble_eq_true rfl⟩ (c_base01) rfl rfl (Nat.le_of_ble_eq_true rfl) (fun r I1 J1 hp => ?_)
  obtain ⟨rfl, e2, e3⟩ := hp
  obtain rfl := e2.symm
  obtain rfl := e3.symm
  refine bX7_tables_107 (s1 := 1) (v110 := nI 2) (v109 := 0 + bsL I 2 0 * bsL I 0 1) (by decide) rfl rfl ?_
  refine bX7_tables_72  (fun c => absurd c (by simp only [hn]; decide)) (fun _ => ?_)
  refine bX7_tables_81 (j89 := 2) rfl (by decide) ?_
  refine v_X7_199 dX7_tables_96 rfl ⟨rfl, rfl, Nat.le_of_ble_eq_true rfl, Nat.le_of_ble_eq_true rfl⟩ (c_base20) rfl rfl (Nat.le_of_ble_eq_true rfl) (fun r I1 J1 hp => ?_)
  obtain ⟨rfl, e2, e3⟩ := hp
  obtain rfl := e2.symm
  obtain rfl := e3.symm
  refine bX7_tables_99  ?_
  refine v_X7_199 dX7_tables_104 rfl ⟨rfl, rfl, Nat.le_of_ble_eq_true rfl, Nat.le_of_ble_eq_true rfl⟩ (c_base02) rfl rfl (Nat.le_of_ble_eq_true rfl) (fun r I1 J1 hp => ?_)
  obtain ⟨rfl, e2, e3⟩ := hp
  obtain rfl := e2.symm
  obtain rfl := e3.symm
  refine bX7_tables_107 (s1 := 2) (v110 := nI 3) (v109 := 0 + bsL I 2 0 * bsL I 0 2) (by decide) rfl rfl ?_
  refine bX7_tables_72  (fun _ => ?_) (fun c => absurd c (by simp only [hn]; decide))
  refine bX7_tables_116 (v116 := nI 1) rfl ?_
  refine bX7_tables_60  (fun c => absurd c (by simp only [hn]; decide)) (fun _ => ?_)
  refine bX7_tables_69 (v70 := nI 0) rfl ?_
  refine bX7_tables_72  (fun c => absurd c (by simp only [hn]; decide)) (fun _ => ?_)
  refine bX7_tables_81 (j89 := 1) rfl (by decide) ?_
  refine v_X7_199 dX7_tables_96 rfl ⟨rfl, rfl, Nat.le_of_ble_eq_true rfl, Nat.le_of_ble_eq_true rfl⟩ (c_base21) rfl rfl (Nat.le_of_ble_eq_true rfl) (fun r I1 J1 hp => ?_)
  obtain ⟨rfl, e2, e3⟩ := hp
  obtain rfl := e2.symm
  obtain rfl := e3.symm
  refine bX7_tables_99  ?_
  refine v_X7_199 dX7_tables_104 rfl ⟨rfl, rfl, Nat.le_of_ble_eq_true rfl, Nat.le_of_ble_eq_true rfl⟩ (c_base00) rfl rfl (Nat.le_of_ble_eq_true rfl) (fun r I1 J1 hp => ?_)
  obtain ⟨rfl, e2, e3⟩ := hp
  obtain rfl := e2.symm
  obtain rfl := e3.symm
  refine bX7_tables_107 (s1 := 1) (v110 := nI 1) (v109 := 0 + bsL I 2 0 * bsL I 0 1 + bsL I 2 1 * bsL I 0 0) (by decide) rfl rfl ?_
  refine bX7_tables_72  (fun c => absurd c (by simp only [hn]; decide)) (fun _ => ?_)
  refine bX7_tables_81 (j89 := 2) rfl (by decide) ?_
  refine v_X7_199 dX7_tables_96 rfl ⟨rfl, rfl, Nat.le_of_ble_eq_true rfl, Nat.le_of_ble_eq_true rfl⟩ (c_base21) rfl rfl (Nat.le_of_ble_eq_true rfl) (fun r I1 J1 hp => ?_)
  obtain ⟨rfl, e2, e3⟩ := hp
  obtain rfl := e2.symm
  obtain rfl := e3.symm
  refine bX7_tables_99  ?_
  refine v_X7_199 dX7_tables_104 rfl ⟨rfl, rfl, Nat.le_of_ble_eq_true rfl, Nat.le_of_ble_eq_true rfl⟩ (c_base01) rfl rfl (Nat.le_of_ble_eq_true rfl) (fun r I1 J1 hp => ?_)
  obtain ⟨rfl, e2, e3⟩ := hp
  obtain rfl := e2.symm
  obtain rfl := e3.symm
  refine bX7_tables_107 (s1 := 2) (v110 := nI 2) (v109 := 0 + bsL I 2 0 * bsL I 0 2 + bsL I 2 1 * bsL I 0 1) (by decide) rfl rfl ?_
  refine bX7_tables_72  (fun c => absurd c (by simp only [hn]; decide)) (fun _ => ?_)
  refine bX7_tables_81 (j89 := 3) rfl (by decide) ?_
  refine v_X7_199 dX7_tables_96 rfl ⟨rfl, rfl, Nat.le_of_ble_eq_true rfl, Nat.le_of_ble_eq_true rfl⟩ (c_base21) rfl rfl (Nat.le_of_ble_eq_true rfl) (fun r I1 J1 hp => ?_)
  obtain ⟨rfl, e2, e3⟩ := hp
  obtain rfl := e2.symm
  obtain rfl := e3.symm
  refine bX7_tables_99  ?_
  refine v_X7_199 dX7_tables_104 rfl ⟨rfl, rfl, Nat.le_of_ble_eq_true rfl, Nat.le_of_ble_eq_true rfl⟩ (c_base02) rfl rfl (Nat.le_of_ble_eq_true rfl) (fun r I1 J1 hp => ?_)
  obtain ⟨rfl, e2, e3⟩ := hp
  obtain rfl := e2.symm
  obtain rfl := e3.symm
  refine bX7_tables_107 (s1 := 3) (v110 := nI 3) (v109 := 0 + bsL I 2 1 * bsL I 0 2) (by decide) rfl rfl ?_
  refine bX7_tables_72  (fun _ => ?_) (fun c => absurd c (by simp only [hn]; decide))
  refine bX7_tables_116 (v116 := nI 2) rfl ?_
  refine bX7_tables_60  (fun c => absurd c (by simp only [hn]; decide)) (fun _ => ?_)
  refine bX7_tables_69 (v70 := nI 0) rfl ?_
  refine bX7_tables_72  (fun c => absurd c (by simp only [hn]; decide)) (fun _ => ?_)
  refine bX7_tables_81 (j89 := 2) rfl (by decide) ?_
  refine v_X7_199 dX7_tables_96 rfl ⟨rfl, rfl, Nat.le_of_ble_eq_true rfl, Nat.le_of_ble_eq_true rfl⟩ (c_base22) rfl rfl (Nat.le_of_ble_eq_true rfl) (fun r I1 J1 hp => ?_)
  obtain ⟨rfl, e2, e3⟩ := hp
  obtain rfl := e2.symm
  obtain rfl := e3.symm
  refine bX7_tables_99  ?_
  refine v_X7_199 dX7_tables_104 rfl ⟨rfl, rfl, Nat.le_of_ble_eq_true rfl, Nat.le_of_ble_eq_true rfl⟩ (c_base00) rfl rfl (Nat.le_of_ble_eq_true rfl) (fun r I1 J1 hp => ?_)
  obtain ⟨rfl, e2, e3⟩ := hp
  obtain rfl := e2.symm
  obtain rfl := e3.symm
  refine bX7_tables_107 (s1 := 2) (v110 := nI 1) (v109 := 0 + bsL I 2 0 * bsL I 0 2 + bsL I 2 1 * bsL I 0 1 + bsL I 2 2 * bsL I 0 0) (by decide) rfl rfl ?_
  refine bX7_tables_72  (fun c => absurd c (by simp only [hn]; decide)) (fun _ => ?_)
  refine bX7_tables_81 (j89 := 3) rfl (by decide) ?_
  refine v_X7_199 dX7_tables_96 rfl ⟨rfl, rfl, Nat.le_of_ble_eq_true rfl, Nat.le_of_ble_eq_true rfl⟩ (c_base22) rfl rfl (Nat.le_of_ble_eq_true rfl) (fun r I1 J1 hp => ?_)
  obtain ⟨rfl, e2, e3⟩ := hp
  obtain rfl := e2.symm
  obtain rfl := e3.symm
  refine bX7_tables_99  ?_
  refine v_X7_199 dX7_tables_104 rfl ⟨rfl, rfl, Nat.le_of_ble_eq_true rfl, Nat.le_of_ble_eq_true rfl⟩ (c_base01) rfl rfl (Nat.le_of_ble_eq_true rfl) (fun r I1 J1 hp => ?_)
  obtain ⟨rfl, e2, e3⟩ := hp
  obtain rfl := e2.symm
  obtain rfl := e3.symm
  refine bX7_tables_107 (s1 := 3) (v110 := nI 2) (v109 := 0 + bsL I 2 1 * bsL I 0 2 + bsL I 2 2 * bsL I 0 1) (by decide) rfl rfl ?_
  refine bX7_tables_72  (fun c => absurd c (by simp only [hn]; decide)) (fun _ => ?_)
  refine bX7_tables_81 (j89 := 4) rfl (by decide) ?_
  refine v_X7_199 dX7_tables_96 rfl ⟨rfl, rfl, Nat.le_of_ble_eq_true rfl, Nat.le_of_ble_eq_true rfl⟩ (c_base22) rfl rfl (Nat.le_of_ble_eq_true rfl) (fun r I1 J1 hp => ?_)
  obtain ⟨rfl, e2, e3⟩ := hp
  obtain rfl := e2.symm
  obtain rfl := e3.symm
  refine bX7_tables_99  ?_
  refine v_X7_199 dX7_tables_104 rfl ⟨rfl, rfl, Nat.le_of_ble_eq_true rfl, Nat.le_of_ble_eq_true rfl⟩ (c_base02) rfl rfl (Nat.le_of_ble_eq_true rfl) (fun r I1 J1 hp => ?_)
  obtain ⟨rfl, e2, e3⟩ := hp
  obtain rfl := e2.symm
  obtain rfl := e3.symm
  refine bX7_tables_107 (s1 := 4) (v110 := nI 3) (v109 := 0 + bsL I 2 2 * bsL I 0 2) (by decide) rfl rfl ?_
  refine bX7_tables_72  (fun _ => ?_) (fun c => absurd c (by simp only [hn]; decide))
  refine bX7_tables_116 (v116 := nI 3) rfl ?_
  refine bX7_tables_60  (fun _ => ?_) (fun c => absurd c (by simp only [hn]; decide))
  refine bX7_tables_122  ?_
  refine v_X7_186 dX7_tables_123 rfl ⟨rfl, rfl, Nat.le_of_ble_eq_true rfl, Nat.le_of_ble_eq_true rfl⟩ (c_lower3 hn) rfl rfl (Nat.le_of_ble_eq_true rfl) (fun r I1 Ja hp => ?_)
  obtain ⟨rfl, e2, o0, o1, o2, g⟩ := hp
  obtain rfl := e2.symm
  have hl := lo3_congr (a := (I 0 2).toInt64) (b := (I 0 3).toInt64) (c := (I 0 4).toInt64) (show _ = tw3 (bsL I) 2 0 0 from rfl) (show _ = tw3 (bsL I) 2 0 1 from rfl) (show _ = tw3 (bsL I) 2 0 2 from rfl) (show _ = tw3 (bsL I) 2 0 3 from rfl) (show _ = tw3 (bsL I) 2 0 4 from rfl)
  have a0 : Ja 8 0 = (lw3 I 2 0).1 := o0.trans (congrArg (fun x => x.1) hl)
  have a1 : Ja 8 1 = (lw3 I 2 0).2.1 := o1.trans (congrArg (fun x => x.2.1) hl)
  have a2 : Ja 8 2 = (lw3 I 2 0).2.2 := o2.trans (congrArg (fun x => x.2.2) hl)
  clear o0 o1 o2 hl
  refine bX7_tables_126 rfl (fun c => absurd c (by simp only [hn]; decide)) (fun _ => ?_)
  refine bX7_tables_139 hq ?_
  refine bX7_tables_158 (j207 := 18) (j268 := 19) (j286 := 20) (v290 := nI 1) he hq rfl hd he hq (by decide) rfl (by decide) rfl (by decide) rfl rfl rfl ?_
  refine k _ ?_ ?_ ?_ ?_ ?_
  · exact (show _ = tvX I (x1 * x1) (Ja 8 0) (tvY I (x1 * x1) (Ja 8 1) (tvZ I (x1 * x1) (Ja 8 2))) (tvZ I (x1 * x1) (Ja 8 2)) from rfl).trans (by rw [a0, a1, a2]; rfl)
  · exact (show _ = tvY I (x1 * x1) (Ja 8 1) (tvZ I (x1 * x1) (Ja 8 2)) from rfl).trans (by rw [a1, a2]; rfl)
  · exact (show _ = (tvZ I (x1 * x1) (Ja 8 2)) from rfl).trans (by rw [a2]; rfl)
  · intro t h1 h2 h3; simp only [sa_uJ_off h1, sa_uJ_off h2, sa_uJ_off h3, g 2 (by decide)]; rfl
  · intro q h1 h2; simp only [sa_uJ_ne h1, g q h2, sa_uJ_ne h2]
theorem tb7_3_21 {x1 : Int64} (hn : I 0 1 = nI 3) (hq : ¬ x1 * x1 = 0) (he : ¬ (I 0 9).toInt64 = 0) (hd : ¬ (I 0 6).toInt64 = 0) (k : ∀ Jm : sa_J, Jm 2 21 = (tb3L I (x1 * x1) 2 1).1 → Jm 2 22 = (tb3L I (x1 * x1) 2 1).2.1 → Jm 2 23 = (tb3L I (x1 * x1) 2 1).2.2 → (∀ t, t ≠ 21 → t ≠ 22 → t ≠ 23 → Jm 2 t = J 2 t) → (∀ q, q ≠ 2 → q ≠ 8 → Jm q = J q) → Sat (ER l D aI aL ad) M_X7_tables P 25 [(0, .ref (ad 0)), (1, .long x1), (3, .int (nI 2)), (4, .int (nI 2))] [] I Jm) : Sat (ER l D aI aL ad) M_X7_tables P 34 [(0, .ref (ad 0)), (1, .long x1), (3, .int (nI 2)), (4, .int (nI 1))] [] I J := by
  refine bX7_tables_34 (v35 := nI 0) rfl ?_
  refine bX7_tables_37  (fun c => absurd c (by decide)) (fun _ => ?_)
  refine bX7_tables_43 (j47 := 0) (v51 := nI 1) rfl (by decide) rfl rfl ?_
  refine bX7_tables_37  (fun c => absurd c (by decide)) (fun _ => ?_)
  refine bX7_tables_43 (j47 := 1) (v51 := nI 2) rfl (by decide) rfl rfl ?_
  refine bX7_tables_37  (fun c => absurd c (by decide)) (fun _ => ?_)
  refine bX7_tables_43 (j47 := 2) (v51 := nI 3) rfl (by decide) rfl rfl ?_
  refine bX7_tables_37  (fun c => absurd c (by decide)) (fun _ => ?_)
  refine bX7_tables_43 (j47 := 3) (v51 := nI 4) rfl (by decide) rfl rfl ?_
  refine bX7_tables_37  (fun c => absurd c (by decide)) (fun _ => ?_)
  refine bX7_tables_43 (j47 := 4) (v51 := nI 5) rfl (by decide) rfl rfl ?_
  refine bX7_tables_37  (fun _ => ?_) (fun c => absurd c (by decide))
  refine bX7_tables_57 (v58 := nI 0) rfl ?_
  refine bX7_tables_60  (fun c => absurd c (by simp only [hn]; decide)) (fun _ => ?_)
  refine bX7_tables_69 (v70 := nI 0) rfl ?_
  refine bX7_tables_72  (fun c => absurd c (by simp only [hn]; decide)) (fun _ => ?_)
  refine bX7_tables_81 (j89 := 0) rfl (by decide) ?_
  refine v_X7_199 dX7_tables_96 rfl ⟨rfl, rfl, Nat.le_of_ble_eq_true rfl, Nat.le_of_ble_eq_true rfl⟩ (c_base20) rfl rfl (Nat.le_of_ble_eq_true rfl) (fun r I1 J1 hp => ?_)
  obtain ⟨rfl, e2, e3⟩ := hp
  obtain rfl := e2.symm
  obtain rfl := e3.symm
  refine bX7_tables_99  ?_
  refine v_X7_199 dX7_tables_104 rfl ⟨rfl, rfl, Nat.le_of_ble_eq_true rfl, Nat.le_of_ble_eq_true rfl⟩ (c_base10) rfl rfl (Nat.le_of_ble_eq_true rfl) (fun r I1 J1 hp => ?_)
  obtain ⟨rfl, e2, e3⟩ := hp
  obtain rfl := e2.symm
  obtain rfl := e3.symm
  refine bX7_tables_107 (s1 := 0) (v110 := nI 1) (v109 := 0 + bsL I 2 0 * bsL I 1 0) (by decide) rfl rfl ?_
  refine bX7_tables_72  (fun c => absurd c (by simp only [hn]; decide)) (fun _ => ?_)
  refine bX7_tables_81 (j89 := 1) rfl (by decide) ?_
  refine v_X7_199 dX7_tables_96 rfl ⟨rfl, rfl, Nat.le_of_ble_eq_true rfl, Nat.le_of_ble_eq_true rfl⟩ (c_base20) rfl rfl (Nat.le_of_ble_eq_true rfl) (fun r I1 J1 hp => ?_)
  obtain ⟨rfl, e2, e3⟩ := hp
  obtain rfl := e2.symm
  obtain rfl := e3.symm
  refine bX7_tables_99  ?_
  refine v_X7_199 dX7_tables_104 rfl ⟨rfl, rfl, Nat.le_of_ble_eq_true rfl, Nat.le_of_ble_eq_true rfl⟩ (c_base11) rfl rfl (Nat.le_of_ble_eq_true rfl) (fun r I1 J1 hp => ?_)
  obtain ⟨rfl, e2, e3⟩ := hp
  obtain rfl := e2.symm
  obtain rfl := e3.symm
  refine bX7_tables_107 (s1 := 1) (v110 := nI 2) (v109 := 0 + bsL I 2 0 * bsL I 1 1) (by decide) rfl rfl ?_
  refine bX7_tables_72  (fun c => absurd c (by simp only [hn]; decide)) (fun _ => ?_)
  refine bX7_tables_81 (j89 := 2) rfl (by decide) ?_
  refine v_X7_199 dX7_tables_96 rfl ⟨rfl, rfl, Nat.le_of_ble_eq_true rfl, Nat.le_of_ble_eq_true rfl⟩ (c_base20) rfl rfl (Nat.le_of_ble_eq_true rfl) (fun r I1 J1 hp => ?_)
  obtain ⟨rfl, e2, e3⟩ := hp
  obtain rfl := e2.symm
  obtain rfl := e3.symm
  refine bX7_tables_99  ?_
  refine v_X7_199 dX7_tables_104 rfl ⟨rfl, rfl, Nat.le_of_ble_eq_true rfl, Nat.le_of_ble_eq_true rfl⟩ (c_base12) rfl rfl (Nat.le_of_ble_eq_true rfl) (fun r I1 J1 hp => ?_)
  obtain ⟨rfl, e2, e3⟩ := hp
  obtain rfl := e2.symm
  obtain rfl := e3.symm
  refine bX7_tables_107 (s1 := 2) (v110 := nI 3) (v109 := 0 + bsL I 2 0 * bsL I 1 2) (by decide) rfl rfl ?_
  refine bX7_tables_72  (fun _ => ?_) (fun c => absurd c (by simp only [hn]; decide))
  refine bX7_tables_116 (v116 := nI 1) rfl ?_
  refine bX7_tables_60  (fun c => absurd c (by simp only [hn]; decide)) (fun _ => ?_)
  refine bX7_tables_69 (v70 := nI 0) rfl ?_
  refine bX7_tables_72  (fun c => absurd c (by simp only [hn]; decide)) (fun _ => ?_)
  refine bX7_tables_81 (j89 := 1) rfl (by decide) ?_
  refine v_X7_199 dX7_tables_96 rfl ⟨rfl, rfl, Nat.le_of_ble_eq_true rfl, Nat.le_of_ble_eq_true rfl⟩ (c_base21) rfl rfl (Nat.le_of_ble_eq_true rfl) (fun r I1 J1 hp => ?_)
  obtain ⟨rfl, e2, e3⟩ := hp
  obtain rfl := e2.symm
  obtain rfl := e3.symm
  refine bX7_tables_99  ?_
  refine v_X7_199 dX7_tables_104 rfl ⟨rfl, rfl, Nat.le_of_ble_eq_true rfl, Nat.le_of_ble_eq_true rfl⟩ (c_base10) rfl rfl (Nat.le_of_ble_eq_true rfl) (fun r I1 J1 hp => ?_)
  obtain ⟨rfl, e2, e3⟩ := hp
  obtain rfl := e2.symm
  obtain rfl := e3.symm
  refine bX7_tables_107 (s1 := 1) (v110 := nI 1) (v109 := 0 + bsL I 2 0 * bsL I 1 1 + bsL I 2 1 * bsL I 1 0) (by decide) rfl rfl ?_
  refine bX7_tables_72  (fun c => absurd c (by simp only [hn]; decide)) (fun _ => ?_)
  refine bX7_tables_81 (j89 := 2) rfl (by decide) ?_
  refine v_X7_199 dX7_tables_96 rfl ⟨rfl, rfl, Nat.le_of_ble_eq_true rfl, Nat.le_of_ble_eq_true rfl⟩ (c_base21) rfl rfl (Nat.le_of_ble_eq_true rfl) (fun r I1 J1 hp => ?_)
  obtain ⟨rfl, e2, e3⟩ := hp
  obtain rfl := e2.symm
  obtain rfl := e3.symm
  refine bX7_tables_99  ?_
  refine v_X7_199 dX7_tables_104 rfl ⟨rfl, rfl, Nat.le_of_ble_eq_true rfl, Nat.le_of_ble_eq_true rfl⟩ (c_base11) rfl rfl (Nat.le_of_ble_eq_true rfl) (fun r I1 J1 hp => ?_)
  obtain ⟨rfl, e2, e3⟩ := hp
  obtain rfl := e2.symm
  obtain rfl := e3.symm
  refine bX7_tables_107 (s1 := 2) (v110 := nI 2) (v109 := 0 + bsL I 2 0 * bsL I 1 2 + bsL I 2 1 * bsL I 1 1) (by decide) rfl rfl ?_
  refine bX7_tables_72  (fun c => absurd c (by simp only [hn]; decide)) (fun _ => ?_)
  refine bX7_tables_81 (j89 := 3) rfl (by decide) ?_
  refine v_X7_199 dX7_tables_96 rfl ⟨rfl, rfl, Nat.le_of_ble_eq_true rfl, Nat.le_of_ble_eq_true rfl⟩ (c_base21) rfl rfl (Nat.le_of_ble_eq_true rfl) (fun r I1 J1 hp => ?_)
  obtain ⟨rfl, e2, e3⟩ := hp
  obtain rfl := e2.symm
  obtain rfl := e3.symm
  refine bX7_tables_99  ?_
  refine v_X7_199 dX7_tables_104 rfl ⟨rfl, rfl, Nat.le_of_ble_eq_true rfl, Nat.le_of_ble_eq_true rfl⟩ (c_base12) rfl rfl (Nat.le_of_ble_eq_true rfl) (fun r I1 J1 hp => ?_)
  obtain ⟨rfl, e2, e3⟩ := hp
  obtain rfl := e2.symm
  obtain rfl := e3.symm
  refine bX7_tables_107 (s1 := 3) (v110 := nI 3) (v109 := 0 + bsL I 2 1 * bsL I 1 2) (by decide) rfl rfl ?_
  refine bX7_tables_72  (fun _ => ?_) (fun c => absurd c (by simp only [hn]; decide))
  refine bX7_tables_116 (v116 := nI 2) rfl ?_
  refine bX7_tables_60  (fun c => absurd c (by simp only [hn]; decide)) (fun _ => ?_)
  refine bX7_tables_69 (v70 := nI 0) rfl ?_
  refine bX7_tables_72  (fun c => absurd c (by simp only [hn]; decide)) (fun _ => ?_)
  refine bX7_tables_81 (j89 := 2) rfl (by decide) ?_
  refine v_X7_199 dX7_tables_96 rfl ⟨rfl, rfl, Nat.le_of_ble_eq_true rfl, Nat.le_of_ble_eq_true rfl⟩ (c_base22) rfl rfl (Nat.le_of_ble_eq_true rfl) (fun r I1 J1 hp => ?_)
  obtain ⟨rfl, e2, e3⟩ := hp
  obtain rfl := e2.symm
  obtain rfl := e3.symm
  refine bX7_tables_99  ?_
  refine v_X7_199 dX7_tables_104 rfl ⟨rfl, rfl, Nat.le_of_ble_eq_true rfl, Nat.le_of_ble_eq_true rfl⟩ (c_base10) rfl rfl (Nat.le_of_ble_eq_true rfl) (fun r I1 J1 hp => ?_)
  obtain ⟨rfl, e2, e3⟩ := hp
  obtain rfl := e2.symm
  obtain rfl := e3.symm
  refine bX7_tables_107 (s1 := 2) (v110 := nI 1) (v109 := 0 + bsL I 2 0 * bsL I 1 2 + bsL I 2 1 * bsL I 1 1 + bsL I 2 2 * bsL I 1 0) (by decide) rfl rfl ?_
  refine bX7_tables_72  (fun c => absurd c (by simp only [hn]; decide)) (fun _ => ?_)
  refine bX7_tables_81 (j89 := 3) rfl (by decide) ?_
  refine v_X7_199 dX7_tables_96 rfl ⟨rfl, rfl, Nat.le_of_ble_eq_true rfl, Nat.le_of_ble_eq_true rfl⟩ (c_base22) rfl rfl (Nat.le_of_ble_eq_true rfl) (fun r I1 J1 hp => ?_)
  obtain ⟨rfl, e2, e3⟩ := hp
  obtain rfl := e2.symm
  obtain rfl := e3.symm
  refine bX7_tables_99  ?_
  refine v_X7_199 dX7_tables_104 rfl ⟨rfl, rfl, Nat.le_of_ble_eq_true rfl, Nat.le_of_ble_eq_true rfl⟩ (c_base11) rfl rfl (Nat.le_of_ble_eq_true rfl) (fun r I1 J1 hp => ?_)
  obtain ⟨rfl, e2, e3⟩ := hp
  obtain rfl := e2.symm
  obtain rfl := e3.symm
  refine bX7_tables_107 (s1 := 3) (v110 := nI 2) (v109 := 0 + bsL I 2 1 * bsL I 1 2 + bsL I 2 2 * bsL I 1 1) (by decide) rfl rfl ?_
  refine bX7_tables_72  (fun c => absurd c (by simp only [hn]; decide)) (fun _ => ?_)
  refine bX7_tables_81 (j89 := 4) rfl (by decide) ?_
  refine v_X7_199 dX7_tables_96 rfl ⟨rfl, rfl, Nat.le_of_ble_eq_true rfl, Nat.le_of_ble_eq_true rfl⟩ (c_base22) rfl rfl (Nat.le_of_ble_eq_true rfl) (fun r I1 J1 hp => ?_)
  obtain ⟨rfl, e2, e3⟩ := hp
  obtain rfl := e2.symm
  obtain rfl := e3.symm
  refine bX7_tables_99  ?_
  refine v_X7_199 dX7_tables_104 rfl ⟨rfl, rfl, Nat.le_of_ble_eq_true rfl, Nat.le_of_ble_eq_true rfl⟩ (c_base12) rfl rfl (Nat.le_of_ble_eq_true rfl) (fun r I1 J1 hp => ?_)
  obtain ⟨rfl, e2, e3⟩ := hp
  obtain rfl := e2.symm
  obtain rfl := e3.symm
  refine bX7_tables_107 (s1 := 4) (v110 := nI 3) (v109 := 0 + bsL I 2 2 * bsL I 1 2) (by decide) rfl rfl ?_
  refine bX7_tables_72  (fun _ => ?_) (fun c => absurd c (by simp only [hn]; decide))
  refine bX7_tables_116 (v116 := nI 3) rfl ?_
  refine bX7_tables_60  (fun _ => ?_) (fun c => absurd c (by simp only [hn]; decide))
  refine bX7_tables_122  ?_
  refine v_X7_186 dX7_tables_123 rfl ⟨rfl, rfl, Nat.le_of_ble_eq_true rfl, Nat.le_of_ble_eq_true rfl⟩ (c_lower3 hn) rfl rfl (Nat.le_of_ble_eq_true rfl) (fun r I1 Ja hp => ?_)
  obtain ⟨rfl, e2, o0, o1, o2, g⟩ := hp
  obtain rfl := e2.symm
  have hl := lo3_congr (a := (I 0 2).toInt64) (b := (I 0 3).toInt64) (c := (I 0 4).toInt64) (show _ = tw3 (bsL I) 2 1 0 from rfl) (show _ = tw3 (bsL I) 2 1 1 from rfl) (show _ = tw3 (bsL I) 2 1 2 from rfl) (show _ = tw3 (bsL I) 2 1 3 from rfl) (show _ = tw3 (bsL I) 2 1 4 from rfl)
  have a0 : Ja 8 0 = (lw3 I 2 1).1 := o0.trans (congrArg (fun x => x.1) hl)
  have a1 : Ja 8 1 = (lw3 I 2 1).2.1 := o1.trans (congrArg (fun x => x.2.1) hl)
  have a2 : Ja 8 2 = (lw3 I 2 1).2.2 := o2.trans (congrArg (fun x => x.2.2) hl)
  clear o0 o1 o2 hl
  refine bX7_tables_126 rfl (fun c => absurd c (by simp only [hn]; decide)) (fun _ => ?_)
  refine bX7_tables_139 hq ?_
  refine bX7_tables_158 (j207 := 21) (j268 := 22) (j286 := 23) (v290 := nI 2) he hq rfl hd he hq (by decide) rfl (by decide) rfl (by decide) rfl rfl rfl ?_
  refine k _ ?_ ?_ ?_ ?_ ?_
  · exact (show _ = tvX I (x1 * x1) (Ja 8 0) (tvY I (x1 * x1) (Ja 8 1) (tvZ I (x1 * x1) (Ja 8 2))) (tvZ I (x1 * x1) (Ja 8 2)) from rfl).trans (by rw [a0, a1, a2]; rfl)
  · exact (show _ = tvY I (x1 * x1) (Ja 8 1) (tvZ I (x1 * x1) (Ja 8 2)) from rfl).trans (by rw [a1, a2]; rfl)
  · exact (show _ = (tvZ I (x1 * x1) (Ja 8 2)) from rfl).trans (by rw [a2]; rfl)
  · intro t h1 h2 h3; simp only [sa_uJ_off h1, sa_uJ_off h2, sa_uJ_off h3, g 2 (by decide)]; rfl
  · intro q h1 h2; simp only [sa_uJ_ne h1, g q h2, sa_uJ_ne h2]
theorem tb7_3_22 {x1 : Int64} (hn : I 0 1 = nI 3) (hq : ¬ x1 * x1 = 0) (he : ¬ (I 0 9).toInt64 = 0) (hd : ¬ (I 0 6).toInt64 = 0) (k : ∀ Jm : sa_J, Jm 2 24 = (tb3L I (x1 * x1) 2 2).1 → Jm 2 25 = (tb3L I (x1 * x1) 2 2).2.1 → Jm 2 26 = (tb3L I (x1 * x1) 2 2).2.2 → (∀ t, t ≠ 24 → t ≠ 25 → t ≠ 26 → Jm 2 t = J 2 t) → (∀ q, q ≠ 2 → q ≠ 8 → Jm q = J q) → Sat (ER l D aI aL ad) M_X7_tables P 25 [(0, .ref (ad 0)), (1, .long x1), (3, .int (nI 2)), (4, .int (nI 3))] [] I Jm) : Sat (ER l D aI aL ad) M_X7_tables P 34 [(0, .ref (ad 0)), (1, .long x1), (3, .int (nI 2)), (4, .int (nI 2))] [] I J := by
  refine bX7_tables_34 (v35 := nI 0) rfl ?_
  refine bX7_tables_37  (fun c => absurd c (by decide)) (fun _ => ?_)
  refine bX7_tables_43 (j47 := 0) (v51 := nI 1) rfl (by decide) rfl rfl ?_
  refine bX7_tables_37  (fun c => absurd c (by decide)) (fun _ => ?_)
  refine bX7_tables_43 (j47 := 1) (v51 := nI 2) rfl (by decide) rfl rfl ?_
  refine bX7_tables_37  (fun c => absurd c (by decide)) (fun _ => ?_)
  refine bX7_tables_43 (j47 := 2) (v51 := nI 3) rfl (by decide) rfl rfl ?_
  refine bX7_tables_37  (fun c => absurd c (by decide)) (fun _ => ?_)
  refine bX7_tables_43 (j47 := 3) (v51 := nI 4) rfl (by decide) rfl rfl ?_
  refine bX7_tables_37  (fun c => absurd c (by decide)) (fun _ => ?_)
  refine bX7_tables_43 (j47 := 4) (v51 := nI 5) rfl (by decide) rfl rfl ?_
  refine bX7_tables_37  (fun _ => ?_) (fun c => absurd c (by decide))
  refine bX7_tables_57 (v58 := nI 0) rfl ?_
  refine bX7_tables_60  (fun c => absurd c (by simp only [hn]; decide)) (fun _ => ?_)
  refine bX7_tables_69 (v70 := nI 0) rfl ?_
  refine bX7_tables_72  (fun c => absurd c (by simp only [hn]; decide)) (fun _ => ?_)
  refine bX7_tables_81 (j89 := 0) rfl (by decide) ?_
  refine v_X7_199 dX7_tables_96 rfl ⟨rfl, rfl, Nat.le_of_ble_eq_true rfl, Nat.le_of_ble_eq_true rfl⟩ (c_base20) rfl rfl (Nat.le_of_ble_eq_true rfl) (fun r I1 J1 hp => ?_)
  obtain ⟨rfl, e2, e3⟩ := hp
  obtain rfl := e2.symm
  obtain rfl := e3.symm
  refine bX7_tables_99  ?_
  refine v_X7_199 dX7_tables_104 rfl ⟨rfl, rfl, Nat.le_of_ble_eq_true rfl, Nat.le_of_ble_eq_true rfl⟩ (c_base20) rfl rfl (Nat.le_of_ble_eq_true rfl) (fun r I1 J1 hp => ?_)
  obtain ⟨rfl, e2, e3⟩ := hp
  obtain rfl := e2.symm
  obtain rfl := e3.symm
  refine bX7_tables_107 (s1 := 0) (v110 := nI 1) (v109 := 0 + bsL I 2 0 * bsL I 2 0) (by decide) rfl rfl ?_
  refine bX7_tables_72  (fun c => absurd c (by simp only [hn]; decide)) (fun _ => ?_)
  refine bX7_tables_81 (j89 := 1) rfl (by decide) ?_
  refine v_X7_199 dX7_tables_96 rfl ⟨rfl, rfl, Nat.le_of_ble_eq_true rfl, Nat.le_of_ble_eq_true rfl⟩ (c_base20) rfl rfl (Nat.le_of_ble_eq_true rfl) (fun r I1 J1 hp => ?_)
  obtain ⟨rfl, e2, e3⟩ := hp
  obtain rfl := e2.symm
  obtain rfl := e3.symm
  refine bX7_tables_99  ?_
  refine v_X7_199 dX7_tables_104 rfl ⟨rfl, rfl, Nat.le_of_ble_eq_true rfl, Nat.le_of_ble_eq_true rfl⟩ (c_base21) rfl rfl (Nat.le_of_ble_eq_true rfl) (fun r I1 J1 hp => ?_)
  obtain ⟨rfl, e2, e3⟩ := hp
  obtain rfl := e2.symm
  obtain rfl := e3.symm
  refine bX7_tables_107 (s1 := 1) (v110 := nI 2) (v109 := 0 + bsL I 2 0 * bsL I 2 1) (by decide) rfl rfl ?_
  refine bX7_tables_72  (fun c => absurd c (by simp only [hn]; decide)) (fun _ => ?_)
  refine bX7_tables_81 (j89 := 2) rfl (by decide) ?_
  refine v_X7_199 dX7_tables_96 rfl ⟨rfl, rfl, Nat.le_of_ble_eq_true rfl, Nat.le_of_ble_eq_true rfl⟩ (c_base20) rfl rfl (Nat.le_of_ble_eq_true rfl) (fun r I1 J1 hp => ?_)
  obtain ⟨rfl, e2, e3⟩ := hp
  obtain rfl := e2.symm
  obtain rfl := e3.symm
  refine bX7_tables_99  ?_
  refine v_X7_199 dX7_tables_104 rfl ⟨rfl, rfl, Nat.le_of_ble_eq_true rfl, Nat.le_of_ble_eq_true rfl⟩ (c_base22) rfl rfl (Nat.le_of_ble_eq_true rfl) (fun r I1 J1 hp => ?_)
  obtain ⟨rfl, e2, e3⟩ := hp
  obtain rfl := e2.symm
  obtain rfl := e3.symm
  refine bX7_tables_107 (s1 := 2) (v110 := nI 3) (v109 := 0 + bsL I 2 0 * bsL I 2 2) (by decide) rfl rfl ?_
  refine bX7_tables_72  (fun _ => ?_) (fun c => absurd c (by simp only [hn]; decide))
  refine bX7_tables_116 (v116 := nI 1) rfl ?_
  refine bX7_tables_60  (fun c => absurd c (by simp only [hn]; decide)) (fun _ => ?_)
  refine bX7_tables_69 (v70 := nI 0) rfl ?_
  refine bX7_tables_72  (fun c => absurd c (by simp only [hn]; decide)) (fun _ => ?_)
  refine bX7_tables_81 (j89 := 1) rfl (by decide) ?_
  refine v_X7_199 dX7_tables_96 rfl ⟨rfl, rfl, Nat.le_of_ble_eq_true rfl, Nat.le_of_ble_eq_true rfl⟩ (c_base21) rfl rfl (Nat.le_of_ble_eq_true rfl) (fun r I1 J1 hp => ?_)
  obtain ⟨rfl, e2, e3⟩ := hp
  obtain rfl := e2.symm
  obtain rfl := e3.symm
  refine bX7_tables_99  ?_
  refine v_X7_199 dX7_tables_104 rfl ⟨rfl, rfl, Nat.le_of_ble_eq_true rfl, Nat.le_of_ble_eq_true rfl⟩ (c_base20) rfl rfl (Nat.le_of_ble_eq_true rfl) (fun r I1 J1 hp => ?_)
  obtain ⟨rfl, e2, e3⟩ := hp
  obtain rfl := e2.symm
  obtain rfl := e3.symm
  refine bX7_tables_107 (s1 := 1) (v110 := nI 1) (v109 := 0 + bsL I 2 0 * bsL I 2 1 + bsL I 2 1 * bsL I 2 0) (by decide) rfl rfl ?_
  refine bX7_tables_72  (fun c => absurd c (by simp only [hn]; decide)) (fun _ => ?_)
  refine bX7_tables_81 (j89 := 2) rfl (by decide) ?_
  refine v_X7_199 dX7_tables_96 rfl ⟨rfl, rfl, Nat.le_of_ble_eq_true rfl, Nat.le_of_ble_eq_true rfl⟩ (c_base21) rfl rfl (Nat.le_of_ble_eq_true rfl) (fun r I1 J1 hp => ?_)
  obtain ⟨rfl, e2, e3⟩ := hp
  obtain rfl := e2.symm
  obtain rfl := e3.symm
  refine bX7_tables_99  ?_
  refine v_X7_199 dX7_tables_104 rfl ⟨rfl, rfl, Nat.le_of_ble_eq_true rfl, Nat.le_of_ble_eq_true rfl⟩ (c_base21) rfl rfl (Nat.le_of_ble_eq_true rfl) (fun r I1 J1 hp => ?_)
  obtain ⟨rfl, e2, e3⟩ := hp
  obtain rfl := e2.symm
  obtain rfl := e3.symm
  refine bX7_tables_107 (s1 := 2) (v110 := nI 2) (v109 := 0 + bsL I 2 0 * bsL I 2 2 + bsL I 2 1 * bsL I 2 1) (by decide) rfl rfl ?_
  refine bX7_tables_72  (fun c => absurd c (by simp only [hn]; decide)) (fun _ => ?_)
  refine bX7_tables_81 (j89 := 3) rfl (by decide) ?_
  refine v_X7_199 dX7_tables_96 rfl ⟨rfl, rfl, Nat.le_of_ble_eq_true rfl, Nat.le_of_ble_eq_true rfl⟩ (c_base21) rfl rfl (Nat.le_of_ble_eq_true rfl) (fun r I1 J1 hp => ?_)
  obtain ⟨rfl, e2, e3⟩ := hp
  obtain rfl := e2.symm
  obtain rfl := e3.symm
  refine bX7_tables_99  ?_
  refine v_X7_199 dX7_tables_104 rfl ⟨rfl, rfl, Nat.le_of_ble_eq_true rfl, Nat.le_of_ble_eq_true rfl⟩ (c_base22) rfl rfl (Nat.le_of_ble_eq_true rfl) (fun r I1 J1 hp => ?_)
  obtain ⟨rfl, e2, e3⟩ := hp
  obtain rfl := e2.symm
  obtain rfl := e3.symm
  refine bX7_tables_107 (s1 := 3) (v110 := nI 3) (v109 := 0 + bsL I 2 1 * bsL I 2 2) (by decide) rfl rfl ?_
  refine bX7_tables_72  (fun _ => ?_) (fun c => absurd c (by simp only [hn]; decide))
  refine bX7_tables_116 (v116 := nI 2) rfl ?_
  refine bX7_tables_60  (fun c => absurd c (by simp only [hn]; decide)) (fun _ => ?_)
  refine bX7_tables_69 (v70 := nI 0) rfl ?_
  refine bX7_tables_72  (fun c => absurd c (by simp only [hn]; decide)) (fun _ => ?_)
  refine bX7_tables_81 (j89 := 2) rfl (by decide) ?_
  refine v_X7_199 dX7_tables_96 rfl ⟨rfl, rfl, Nat.le_of_ble_eq_true rfl, Nat.le_of_ble_eq_true rfl⟩ (c_base22) rfl rfl (Nat.le_of_ble_eq_true rfl) (fun r I1 J1 hp => ?_)
  obtain ⟨rfl, e2, e3⟩ := hp
  obtain rfl := e2.symm
  obtain rfl := e3.symm
  refine bX7_tables_99  ?_
  refine v_X7_199 dX7_tables_104 rfl ⟨rfl, rfl, Nat.le_of_ble_eq_true rfl, Nat.le_of_ble_eq_true rfl⟩ (c_base20) rfl rfl (Nat.le_of_ble_eq_true rfl) (fun r I1 J1 hp => ?_)
  obtain ⟨rfl, e2, e3⟩ := hp
  obtain rfl := e2.symm
  obtain rfl := e3.symm
  refine bX7_tables_107 (s1 := 2) (v110 := nI 1) (v109 := 0 + bsL I 2 0 * bsL I 2 2 + bsL I 2 1 * bsL I 2 1 + bsL I 2 2 * bsL I 2 0) (by decide) rfl rfl ?_
  refine bX7_tables_72  (fun c => absurd c (by simp only [hn]; decide)) (fun _ => ?_)
  refine bX7_tables_81 (j89 := 3) rfl (by decide) ?_
  refine v_X7_199 dX7_tables_96 rfl ⟨rfl, rfl, Nat.le_of_ble_eq_true rfl, Nat.le_of_ble_eq_true rfl⟩ (c_base22) rfl rfl (Nat.le_of_ble_eq_true rfl) (fun r I1 J1 hp => ?_)
  obtain ⟨rfl, e2, e3⟩ := hp
  obtain rfl := e2.symm
  obtain rfl := e3.symm
  refine bX7_tables_99  ?_
  refine v_X7_199 dX7_tables_104 rfl ⟨rfl, rfl, Nat.le_of_ble_eq_true rfl, Nat.le_of_ble_eq_true rfl⟩ (c_base21) rfl rfl (Nat.le_of_ble_eq_true rfl) (fun r I1 J1 hp => ?_)
  obtain ⟨rfl, e2, e3⟩ := hp
  obtain rfl := e2.symm
  obtain rfl := e3.symm
  refine bX7_tables_107 (s1 := 3) (v110 := nI 2) (v109 := 0 + bsL I 2 1 * bsL I 2 2 + bsL I 2 2 * bsL I 2 1) (by decide) rfl rfl ?_
  refine bX7_tables_72  (fun c => absurd c (by simp only [hn]; decide)) (fun _ => ?_)
  refine bX7_tables_81 (j89 := 4) rfl (by decide) ?_
  refine v_X7_199 dX7_tables_96 rfl ⟨rfl, rfl, Nat.le_of_ble_eq_true rfl, Nat.le_of_ble_eq_true rfl⟩ (c_base22) rfl rfl (Nat.le_of_ble_eq_true rfl) (fun r I1 J1 hp => ?_)
  obtain ⟨rfl, e2, e3⟩ := hp
  obtain rfl := e2.symm
  obtain rfl := e3.symm
  refine bX7_tables_99  ?_
  refine v_X7_199 dX7_tables_104 rfl ⟨rfl, rfl, Nat.le_of_ble_eq_true rfl, Nat.le_of_ble_eq_true rfl⟩ (c_base22) rfl rfl (Nat.le_of_ble_eq_true rfl) (fun r I1 J1 hp => ?_)
  obtain ⟨rfl, e2, e3⟩ := hp
  obtain rfl := e2.symm
  obtain rfl := e3.symm
  refine bX7_tables_107 (s1 := 4) (v110 := nI 3) (v109 := 0 + bsL I 2 2 * bsL I 2 2) (by decide) rfl rfl ?_
  refine bX7_tables_72  (fun _ => ?_) (fun c => absurd c (by simp only [hn]; decide))
  refine bX7_tables_116 (v116 := nI 3) rfl ?_
  refine bX7_tables_60  (fun _ => ?_) (fun c => absurd c (by simp only [hn]; decide))
  refine bX7_tables_122  ?_
  refine v_X7_186 dX7_tables_123 rfl ⟨rfl, rfl, Nat.le_of_ble_eq_true rfl, Nat.le_of_ble_eq_true rfl⟩ (c_lower3 hn) rfl rfl (Nat.le_of_ble_eq_true rfl) (fun r I1 Ja hp => ?_)
  obtain ⟨rfl, e2, o0, o1, o2, g⟩ := hp
  obtain rfl := e2.symm
  have hl := lo3_congr (a := (I 0 2).toInt64) (b := (I 0 3).toInt64) (c := (I 0 4).toInt64) (show _ = tw3 (bsL I) 2 2 0 from rfl) (show _ = tw3 (bsL I) 2 2 1 from rfl) (show _ = tw3 (bsL I) 2 2 2 from rfl) (show _ = tw3 (bsL I) 2 2 3 from rfl) (show _ = tw3 (bsL I) 2 2 4 from rfl)
  have a0 : Ja 8 0 = (lw3 I 2 2).1 := o0.trans (congrArg (fun x => x.1) hl)
  have a1 : Ja 8 1 = (lw3 I 2 2).2.1 := o1.trans (congrArg (fun x => x.2.1) hl)
  have a2 : Ja 8 2 = (lw3 I 2 2).2.2 := o2.trans (congrArg (fun x => x.2.2) hl)
  clear o0 o1 o2 hl
  refine bX7_tables_126 rfl (fun c => absurd c (by simp only [hn]; decide)) (fun _ => ?_)
  refine bX7_tables_139 hq ?_
  refine bX7_tables_158 (j207 := 24) (j268 := 25) (j286 := 26) (v290 := nI 3) he hq rfl hd he hq (by decide) rfl (by decide) rfl (by decide) rfl rfl rfl ?_
  refine k _ ?_ ?_ ?_ ?_ ?_
  · exact (show _ = tvX I (x1 * x1) (Ja 8 0) (tvY I (x1 * x1) (Ja 8 1) (tvZ I (x1 * x1) (Ja 8 2))) (tvZ I (x1 * x1) (Ja 8 2)) from rfl).trans (by rw [a0, a1, a2]; rfl)
  · exact (show _ = tvY I (x1 * x1) (Ja 8 1) (tvZ I (x1 * x1) (Ja 8 2)) from rfl).trans (by rw [a1, a2]; rfl)
  · exact (show _ = (tvZ I (x1 * x1) (Ja 8 2)) from rfl).trans (by rw [a2]; rfl)
  · intro t h1 h2 h3; simp only [sa_uJ_off h1, sa_uJ_off h2, sa_uJ_off h3, g 2 (by decide)]; rfl
  · intro q h1 h2; simp only [sa_uJ_ne h1, g q h2, sa_uJ_ne h2]
theorem c_tables3 (hn : I 0 1 = nI 3) (hq : ¬ ((I 0 6).toInt64 * (I 0 9).toInt64 * ((I 0 6).toInt64 * (I 0 9).toInt64)) = 0) (he : ¬ (I 0 9).toInt64 = 0) (hd : ¬ (I 0 6).toInt64 = 0) : Con (ER l D aI aL ad) M_X7_tables yX7_tables [.ref (ad 0)] I J (fun r I1 J1 => r = none ∧ I1 = I ∧ (J1 2 0 = (tb3L I ((I 0 6).toInt64 * (I 0 9).toInt64 * ((I 0 6).toInt64 * (I 0 9).toInt64)) 0 0).1 ∧ J1 2 1 = (tb3L I ((I 0 6).toInt64 * (I 0 9).toInt64 * ((I 0 6).toInt64 * (I 0 9).toInt64)) 0 0).2.1 ∧ J1 2 2 = (tb3L I ((I 0 6).toInt64 * (I 0 9).toInt64 * ((I 0 6).toInt64 * (I 0 9).toInt64)) 0 0).2.2) ∧ (J1 2 3 = (tb3L I ((I 0 6).toInt64 * (I 0 9).toInt64 * ((I 0 6).toInt64 * (I 0 9).toInt64)) 0 1).1 ∧ J1 2 4 = (tb3L I ((I 0 6).toInt64 * (I 0 9).toInt64 * ((I 0 6).toInt64 * (I 0 9).toInt64)) 0 1).2.1 ∧ J1 2 5 = (tb3L I ((I 0 6).toInt64 * (I 0 9).toInt64 * ((I 0 6).toInt64 * (I 0 9).toInt64)) 0 1).2.2) ∧ (J1 2 6 = (tb3L I ((I 0 6).toInt64 * (I 0 9).toInt64 * ((I 0 6).toInt64 * (I 0 9).toInt64)) 0 2).1 ∧ J1 2 7 = (tb3L I ((I 0 6).toInt64 * (I 0 9).toInt64 * ((I 0 6).toInt64 * (I 0 9).toInt64)) 0 2).2.1 ∧ J1 2 8 = (tb3L I ((I 0 6).toInt64 * (I 0 9).toInt64 * ((I 0 6).toInt64 * (I 0 9).toInt64)) 0 2).2.2) ∧ (J1 2 9 = (tb3L I ((I 0 6).toInt64 * (I 0 9).toInt64 * ((I 0 6).toInt64 * (I 0 9).toInt64)) 1 0).1 ∧ J1 2 10 = (tb3L I ((I 0 6).toInt64 * (I 0 9).toInt64 * ((I 0 6).toInt64 * (I 0 9).toInt64)) 1 0).2.1 ∧ J1 2 11 = (tb3L I ((I 0 6).toInt64 * (I 0 9).toInt64 * ((I 0 6).toInt64 * (I 0 9).toInt64)) 1 0).2.2) ∧ (J1 2 12 = (tb3L I ((I 0 6).toInt64 * (I 0 9).toInt64 * ((I 0 6).toInt64 * (I 0 9).toInt64)) 1 1).1 ∧ J1 2 13 = (tb3L I ((I 0 6).toInt64 * (I 0 9).toInt64 * ((I 0 6).toInt64 * (I 0 9).toInt64)) 1 1).2.1 ∧ J1 2 14 = (tb3L I ((I 0 6).toInt64 * (I 0 9).toInt64 * ((I 0 6).toInt64 * (I 0 9).toInt64)) 1 1).2.2) ∧ (J1 2 15 = (tb3L I ((I 0 6).toInt64 * (I 0 9).toInt64 * ((I 0 6).toInt64 * (I 0 9).toInt64)) 1 2).1 ∧ J1 2 16 = (tb3L I ((I 0 6).toInt64 * (I 0 9).toInt64 * ((I 0 6).toInt64 * (I 0 9).toInt64)) 1 2).2.1 ∧ J1 2 17 = (tb3L I ((I 0 6).toInt64 * (I 0 9).toInt64 * ((I 0 6).toInt64 * (I 0 9).toInt64)) 1 2).2.2) ∧ (J1 2 18 = (tb3L I ((I 0 6).toInt64 * (I 0 9).toInt64 * ((I 0 6).toInt64 * (I 0 9).toInt64)) 2 0).1 ∧ J1 2 19 = (tb3L I ((I 0 6).toInt64 * (I 0 9).toInt64 * ((I 0 6).toInt64 * (I 0 9).toInt64)) 2 0).2.1 ∧ J1 2 20 = (tb3L I ((I 0 6).toInt64 * (I 0 9).toInt64 * ((I 0 6).toInt64 * (I 0 9).toInt64)) 2 0).2.2) ∧ (J1 2 21 = (tb3L I ((I 0 6).toInt64 * (I 0 9).toInt64 * ((I 0 6).toInt64 * (I 0 9).toInt64)) 2 1).1 ∧ J1 2 22 = (tb3L I ((I 0 6).toInt64 * (I 0 9).toInt64 * ((I 0 6).toInt64 * (I 0 9).toInt64)) 2 1).2.1 ∧ J1 2 23 = (tb3L I ((I 0 6).toInt64 * (I 0 9).toInt64 * ((I 0 6).toInt64 * (I 0 9).toInt64)) 2 1).2.2) ∧ (J1 2 24 = (tb3L I ((I 0 6).toInt64 * (I 0 9).toInt64 * ((I 0 6).toInt64 * (I 0 9).toInt64)) 2 2).1 ∧ J1 2 25 = (tb3L I ((I 0 6).toInt64 * (I 0 9).toInt64 * ((I 0 6).toInt64 * (I 0 9).toInt64)) 2 2).2.1 ∧ J1 2 26 = (tb3L I ((I 0 6).toInt64 * (I 0 9).toInt64 * ((I 0 6).toInt64 * (I 0 9).toInt64)) 2 2).2.2) ∧ ∀ q, q ≠ 2 → q ≠ 8 → J1 q = J q) := by
  refine Con.of (by decide +kernel) rfl (Nat.le_of_ble_eq_true rfl) ?_
  refine bX7_tables_0 (v13 := nI 0) rfl rfl ?_
  refine bX7_tables_14 (fun c => absurd c (by simp only [hn]; decide)) (fun _ => ?_)
  refine bX7_tables_22 (v23 := nI 0) rfl ?_
  refine bX7_tables_25 (fun c => absurd c (by simp only [hn]; decide)) (fun _ => ?_)
  refine tb7_3_00 hn hq he hd (fun J00 a00 b00 c00 f00 g00 => ?_)
  refine bX7_tables_25 (fun c => absurd c (by simp only [hn]; decide)) (fun _ => ?_)
  refine tb7_3_01 hn hq he hd (fun J01 a01 b01 c01 f01 g01 => ?_)
  refine bX7_tables_25 (fun c => absurd c (by simp only [hn]; decide)) (fun _ => ?_)
  refine tb7_3_02 hn hq he hd (fun J02 a02 b02 c02 f02 g02 => ?_)
  refine bX7_tables_25 (fun _ => ?_) (fun c => absurd c (by simp only [hn]; decide))
  refine bX7_tables_296 (v296 := nI 1) rfl ?_
  refine bX7_tables_14 (fun c => absurd c (by simp only [hn]; decide)) (fun _ => ?_)
  refine bX7_tables_22 (v23 := nI 0) rfl ?_
  refine bX7_tables_25 (fun c => absurd c (by simp only [hn]; decide)) (fun _ => ?_)
  refine tb7_3_10 hn hq he hd (fun J10 a10 b10 c10 f10 g10 => ?_)
  refine bX7_tables_25 (fun c => absurd c (by simp only [hn]; decide)) (fun _ => ?_)
  refine tb7_3_11 hn hq he hd (fun J11 a11 b11 c11 f11 g11 => ?_)
  refine bX7_tables_25 (fun c => absurd c (by simp only [hn]; decide)) (fun _ => ?_)
  refine tb7_3_12 hn hq he hd (fun J12 a12 b12 c12 f12 g12 => ?_)
  refine bX7_tables_25 (fun _ => ?_) (fun c => absurd c (by simp only [hn]; decide))
  refine bX7_tables_296 (v296 := nI 2) rfl ?_
  refine bX7_tables_14 (fun c => absurd c (by simp only [hn]; decide)) (fun _ => ?_)
  refine bX7_tables_22 (v23 := nI 0) rfl ?_
  refine bX7_tables_25 (fun c => absurd c (by simp only [hn]; decide)) (fun _ => ?_)
  refine tb7_3_20 hn hq he hd (fun J20 a20 b20 c20 f20 g20 => ?_)
  refine bX7_tables_25 (fun c => absurd c (by simp only [hn]; decide)) (fun _ => ?_)
  refine tb7_3_21 hn hq he hd (fun J21 a21 b21 c21 f21 g21 => ?_)
  refine bX7_tables_25 (fun c => absurd c (by simp only [hn]; decide)) (fun _ => ?_)
  refine tb7_3_22 hn hq he hd (fun J22 a22 b22 c22 f22 g22 => ?_)
  refine bX7_tables_25 (fun _ => ?_) (fun c => absurd c (by simp only [hn]; decide))
  refine bX7_tables_296 (v296 := nI 3) rfl ?_
  refine bX7_tables_14 (fun _ => ?_) (fun c => absurd c (by simp only [hn]; decide))
  refine bX7_tables_302 ⟨rfl, rfl, ⟨?_, ?_, ?_⟩, ⟨?_, ?_, ?_⟩, ⟨?_, ?_, ?_⟩, ⟨?_, ?_, ?_⟩, ⟨?_, ?_, ?_⟩, ⟨?_, ?_, ?_⟩, ⟨?_, ?_, ?_⟩, ⟨?_, ?_, ?_⟩, ⟨?_, ?_, ?_⟩, ?_⟩
  · exact (f22 0 (by decide) (by decide) (by decide)).trans ((f21 0 (by decide) (by decide) (by decide)).trans ((f20 0 (by decide) (by decide) (by decide)).trans ((f12 0 (by decide) (by decide) (by decide)).trans ((f11 0 (by decide) (by decide) (by decide)).trans ((f10 0 (by decide) (by decide) (by decide)).trans ((f02 0 (by decide) (by decide) (by decide)).trans ((f01 0 (by decide) (by decide) (by decide)).trans (a00))))))))
  · exact (f22 1 (by decide) (by decide) (by decide)).trans ((f21 1 (by decide) (by decide) (by decide)).trans ((f20 1 (by decide) (by decide) (by decide)).trans ((f12 1 (by decide) (by decide) (by decide)).trans ((f11 1 (by decide) (by decide) (by decide)).trans ((f10 1 (by decide) (by decide) (by decide)).trans ((f02 1 (by decide) (by decide) (by decide)).trans ((f01 1 (by decide) (by decide) (by decide)).trans (b00))))))))
  · exact (f22 2 (by decide) (by decide) (by decide)).trans ((f21 2 (by decide) (by decide) (by decide)).trans ((f20 2 (by decide) (by decide) (by decide)).trans ((f12 2 (by decide) (by decide) (by decide)).trans ((f11 2 (by decide) (by decide) (by decide)).trans ((f10 2 (by decide) (by decide) (by decide)).trans ((f02 2 (by decide) (by decide) (by decide)).trans ((f01 2 (by decide) (by decide) (by decide)).trans (c00))))))))
  · exact (f22 3 (by decide) (by decide) (by decide)).trans ((f21 3 (by decide) (by decide) (by decide)).trans ((f20 3 (by decide) (by decide) (by decide)).trans ((f12 3 (by decide) (by decide) (by decide)).trans ((f11 3 (by decide) (by decide) (by decide)).trans ((f10 3 (by decide) (by decide) (by decide)).trans ((f02 3 (by decide) (by decide) (by decide)).trans (a01)))))))
  · exact (f22 4 (by decide) (by decide) (by decide)).trans ((f21 4 (by decide) (by decide) (by decide)).trans ((f20 4 (by decide) (by decide) (by decide)).trans ((f12 4 (by decide) (by decide) (by decide)).trans ((f11 4 (by decide) (by decide) (by decide)).trans ((f10 4 (by decide) (by decide) (by decide)).trans ((f02 4 (by decide) (by decide) (by decide)).trans (b01)))))))
  · exact (f22 5 (by decide) (by decide) (by decide)).trans ((f21 5 (by decide) (by decide) (by decide)).trans ((f20 5 (by decide) (by decide) (by decide)).trans ((f12 5 (by decide) (by decide) (by decide)).trans ((f11 5 (by decide) (by decide) (by decide)).trans ((f10 5 (by decide) (by decide) (by decide)).trans ((f02 5 (by decide) (by decide) (by decide)).trans (c01)))))))
  · exact (f22 6 (by decide) (by decide) (by decide)).trans ((f21 6 (by decide) (by decide) (by decide)).trans ((f20 6 (by decide) (by decide) (by decide)).trans ((f12 6 (by decide) (by decide) (by decide)).trans ((f11 6 (by decide) (by decide) (by decide)).trans ((f10 6 (by decide) (by decide) (by decide)).trans (a02))))))
  · exact (f22 7 (by decide) (by decide) (by decide)).trans ((f21 7 (by decide) (by decide) (by decide)).trans ((f20 7 (by decide) (by decide) (by decide)).trans ((f12 7 (by decide) (by decide) (by decide)).trans ((f11 7 (by decide) (by decide) (by decide)).trans ((f10 7 (by decide) (by decide) (by decide)).trans (b02))))))
  · exact (f22 8 (by decide) (by decide) (by decide)).trans ((f21 8 (by decide) (by decide) (by decide)).trans ((f20 8 (by decide) (by decide) (by decide)).trans ((f12 8 (by decide) (by decide) (by decide)).trans ((f11 8 (by decide) (by decide) (by decide)).trans ((f10 8 (by decide) (by decide) (by decide)).trans (c02))))))
  · exact (f22 9 (by decide) (by decide) (by decide)).trans ((f21 9 (by decide) (by decide) (by decide)).trans ((f20 9 (by decide) (by decide) (by decide)).trans ((f12 9 (by decide) (by decide) (by decide)).trans ((f11 9 (by decide) (by decide) (by decide)).trans (a10)))))
  · exact (f22 10 (by decide) (by decide) (by decide)).trans ((f21 10 (by decide) (by decide) (by decide)).trans ((f20 10 (by decide) (by decide) (by decide)).trans ((f12 10 (by decide) (by decide) (by decide)).trans ((f11 10 (by decide) (by decide) (by decide)).trans (b10)))))
  · exact (f22 11 (by decide) (by decide) (by decide)).trans ((f21 11 (by decide) (by decide) (by decide)).trans ((f20 11 (by decide) (by decide) (by decide)).trans ((f12 11 (by decide) (by decide) (by decide)).trans ((f11 11 (by decide) (by decide) (by decide)).trans (c10)))))
  · exact (f22 12 (by decide) (by decide) (by decide)).trans ((f21 12 (by decide) (by decide) (by decide)).trans ((f20 12 (by decide) (by decide) (by decide)).trans ((f12 12 (by decide) (by decide) (by decide)).trans (a11))))
  · exact (f22 13 (by decide) (by decide) (by decide)).trans ((f21 13 (by decide) (by decide) (by decide)).trans ((f20 13 (by decide) (by decide) (by decide)).trans ((f12 13 (by decide) (by decide) (by decide)).trans (b11))))
  · exact (f22 14 (by decide) (by decide) (by decide)).trans ((f21 14 (by decide) (by decide) (by decide)).trans ((f20 14 (by decide) (by decide) (by decide)).trans ((f12 14 (by decide) (by decide) (by decide)).trans (c11))))
  · exact (f22 15 (by decide) (by decide) (by decide)).trans ((f21 15 (by decide) (by decide) (by decide)).trans ((f20 15 (by decide) (by decide) (by decide)).trans (a12)))
  · exact (f22 16 (by decide) (by decide) (by decide)).trans ((f21 16 (by decide) (by decide) (by decide)).trans ((f20 16 (by decide) (by decide) (by decide)).trans (b12)))
  · exact (f22 17 (by decide) (by decide) (by decide)).trans ((f21 17 (by decide) (by decide) (by decide)).trans ((f20 17 (by decide) (by decide) (by decide)).trans (c12)))
  · exact (f22 18 (by decide) (by decide) (by decide)).trans ((f21 18 (by decide) (by decide) (by decide)).trans (a20))
  · exact (f22 19 (by decide) (by decide) (by decide)).trans ((f21 19 (by decide) (by decide) (by decide)).trans (b20))
  · exact (f22 20 (by decide) (by decide) (by decide)).trans ((f21 20 (by decide) (by decide) (by decide)).trans (c20))
  · exact (f22 21 (by decide) (by decide) (by decide)).trans (a21)
  · exact (f22 22 (by decide) (by decide) (by decide)).trans (b21)
  · exact (f22 23 (by decide) (by decide) (by decide)).trans (c21)
  · exact a22
  · exact b22
  · exact c22
  · intro q h1 h2; rw [g22 q h1 h2, g21 q h1 h2, g20 q h1 h2, g12 q h1 h2, g11 q h1 h2, g10 q h1 h2, g02 q h1 h2, g01 q h1 h2, g00 q h1 h2]
end TB
