/-- a matrix with one row replaced, and the norms that divide asks for -/
def rpl (j : Nat) (m X : Nat → Int64) (t : Nat) : Int64 := if t / 3 = j then X (t % 3) else m t
def abv (n j : Nat) (m X : Nat → Int64) : Int64 := nrV n (rpl j m X) 0
def fr9 (J J1 : sa_J) : Prop := ∀ q, q ≠ 9 → q ≠ 10 → J1 q = J q
theorem c_mnE2 {l : Launch} {D : va_G} {aI aL : ClassId} {ad : Nat → Nat} {I : sa_I} {J : sa_J} {A : Int64} (hd : I 4 0 = nI 2) (h : J 10 0 * J 10 4 - J 10 1 * J 10 3 = A) : Con (EC l D aI aL ad) M_X4_matrixNorm yX4_matrixNorm [.ref (ad 4)] I J (p_l A I J) := by
  rw [← h]; exact c_matrixNorm2 hd
theorem c_mnE3 {l : Launch} {D : va_G} {aI aL : ClassId} {ad : Nat → Nat} {I : sa_I} {J : sa_J} {A : Int64} (hd : I 4 0 = nI 3) (h : J 10 0 * (J 10 4 * J 10 8 - J 10 5 * J 10 7) - J 10 1 * (J 10 3 * J 10 8 - J 10 5 * J 10 6) + J 10 2 * (J 10 3 * J 10 7 - J 10 4 * J 10 6) = A) : Con (EC l D aI aL ad) M_X4_matrixNorm yX4_matrixNorm [.ref (ad 4)] I J (p_l A I J) := by
  rw [← h]; exact c_matrixNorm3 hd
section DI
variable {l : Launch} {D : va_G} {aI aL : ClassId} {ad : Nat → Nat} {P : sa_P} {I : sa_I} {J : sa_J}
theorem dvb2_0 {a1 q1 n1 p2 p3 : Nat} {be : Int64} {Jc : sa_J} (hd : I 4 0 = nI 2) (hq1 : sa_iJ (EC l D aI aL ad) a1 q1 n1) (hn1 : n1 < 2 ^ 31) (hb2 : p2 + 3 ≤ n1) (hb3 : p3 + 3 ≤ n1) (hz9 : q1 ≠ 9) (hz10 : q1 ≠ 10) (hbe : ¬ be = 0) (hf : fr9 J Jc) (kg : rm (abv 2 0 (mtx 2 (fun c => J q1 (p3 + c)) (J 8)) (fun c => J q1 (p2 + c))) be = 0 → ∀ J2, fr9 J J2 → J2 9 0 = abv 2 0 (mtx 2 (fun c => J q1 (p3 + c)) (J 8)) (fun c => J q1 (p2 + c)) / be → (∀ t, t ≠ 0 → J2 9 t = Jc 9 t) → Sat (EC l D aI aL ad) M_X4_divide P 31 [(0, .ref (ad 4)), (1, .ref a1), (2, .int (nI p2)), (3, .int (nI p3)), (4, .long be), (6, .int (nI 1))] [] I J2) (kb : ¬ rm (abv 2 0 (mtx 2 (fun c => J q1 (p3 + c)) (J 8)) (fun c => J q1 (p2 + c))) be = 0 → ∀ J2, fr9 J J2 → P (some (.int 0)) I J2) : Sat (EC l D aI aL ad) M_X4_divide P 31 [(0, .ref (ad 4)), (1, .ref a1), (2, .int (nI p2)), (3, .int (nI p3)), (4, .long be), (6, .int (nI 0))] [] I Jc := by
  have f1 : Jc q1 = J q1 := hf q1 hz9 hz10
  have f8 : Jc 8 = J 8 := hf 8 (by decide) (by decide)
  refine bX4_divide_31 hq1 hn1 (fun c => absurd c (by rw [hd]; decide)) (fun _ => bX4_divide_40 hq1 hn1 ?_)
  refine v_X4_103 dX4_divide_43 rfl ⟨rfl, rfl, Nat.le_of_ble_eq_true rfl, Nat.le_of_ble_eq_true rfl⟩ (c_matrixOf2 hd hq1 hn1 (by omega) hz10) rfl rfl (Nat.le_of_ble_eq_true rfl) (fun r I1 Jm hp => ?_)
  obtain ⟨rfl, e2, m0, m1, m3, m4, g⟩ := hp
  obtain rfl := e2.symm
  rw [f1, f8] at m0 m1 m3 m4
  have g1 : Jm q1 = J q1 := (g q1 hz10).trans f1
  refine bX4_divide_46 (v47 := nI 0) hq1 hn1 rfl ?_
  refine bX4_divide_49 hq1 hn1 (fun c => absurd c (by rw [hd]; decide)) (fun _ => ?_)
  refine bX4_divide_58 (j68 := 0) (j73 := p2 + 0) (v75 := J q1 (p2 + 0)) (v76 := nI 1) hq1 hn1 rfl (nI_addE p2 0) (by omega) (by decide) (by simp only [sa_uJ_ne hz10, g1]) rfl ?_
  refine bX4_divide_49 hq1 hn1 (fun c => absurd c (by rw [hd]; decide)) (fun _ => ?_)
  refine bX4_divide_58 (j68 := 1) (j73 := p2 + 1) (v75 := J q1 (p2 + 1)) (v76 := nI 2) hq1 hn1 rfl (nI_addE p2 1) (by omega) (by decide) (by simp only [sa_uJ_ne hz10, g1]) rfl ?_
  refine bX4_divide_49 hq1 hn1 (fun _ => ?_) (fun c => absurd (by rw [hd]; decide) c)
  refine bX4_divide_82 hq1 hn1 ?_
  refine v_X4_78 dX4_divide_83 rfl ⟨rfl, rfl, Nat.le_of_ble_eq_true rfl, Nat.le_of_ble_eq_true rfl⟩ (c_mnE2 hd (A := abv 2 0 (mtx 2 (fun c => J q1 (p3 + c)) (J 8)) (fun c => J q1 (p2 + c))) ?_) rfl rfl (Nat.le_of_ble_eq_true rfl) (fun r I1 J1 hp => ?_)
  · show J q1 (p2 + 0) * Jm 10 4 - J q1 (p2 + 1) * Jm 10 3 = _
    rw [m3, m4]; rfl
  obtain ⟨rfl, e2, e3⟩ := hp
  obtain rfl := e2.symm
  obtain rfl := e3.symm
  have fm : fr9 J (sa_uJ (sa_uJ Jm 10 0 (J q1 (p2 + 0))) 10 1 (J q1 (p2 + 1))) := fun q h9 h10 => by rw [sa_uJ_ne h10, sa_uJ_ne h10, g q h10]; exact hf q h9 h10
  have f9 : (sa_uJ (sa_uJ Jm 10 0 (J q1 (p2 + 0))) 10 1 (J q1 (p2 + 1))) 9 = Jc 9 := by rw [sa_uJ_ne (by decide), sa_uJ_ne (by decide), g 9 (by decide)]
  refine bX4_divide_86 hq1 hn1 hbe (fun c => ?_) (fun c => bX4_divide_98 (kb c _ fm))
  refine bX4_divide_100 (j104 := 0) (v112 := nI 1) hq1 hn1 rfl hbe (by decide) rfl rfl (kg c _ (fun q h9 h10 => by rw [sa_uJ_ne h9]; exact fm q h9 h10) sa_uJ_at (fun t ht => by rw [sa_uJ_off ht, f9]))
theorem dvb2_1 {a1 q1 n1 p2 p3 : Nat} {be : Int64} {Jc : sa_J} (hd : I 4 0 = nI 2) (hq1 : sa_iJ (EC l D aI aL ad) a1 q1 n1) (hn1 : n1 < 2 ^ 31) (hb2 : p2 + 3 ≤ n1) (hb3 : p3 + 3 ≤ n1) (hz9 : q1 ≠ 9) (hz10 : q1 ≠ 10) (hbe : ¬ be = 0) (hf : fr9 J Jc) (kg : rm (abv 2 1 (mtx 2 (fun c => J q1 (p3 + c)) (J 8)) (fun c => J q1 (p2 + c))) be = 0 → ∀ J2, fr9 J J2 → J2 9 1 = abv 2 1 (mtx 2 (fun c => J q1 (p3 + c)) (J 8)) (fun c => J q1 (p2 + c)) / be → (∀ t, t ≠ 1 → J2 9 t = Jc 9 t) → Sat (EC l D aI aL ad) M_X4_divide P 31 [(0, .ref (ad 4)), (1, .ref a1), (2, .int (nI p2)), (3, .int (nI p3)), (4, .long be), (6, .int (nI 2))] [] I J2) (kb : ¬ rm (abv 2 1 (mtx 2 (fun c => J q1 (p3 + c)) (J 8)) (fun c => J q1 (p2 + c))) be = 0 → ∀ J2, fr9 J J2 → P (some (.int 0)) I J2) : Sat (EC l D aI aL ad) M_X4_divide P 31 [(0, .ref (ad 4)), (1, .ref a1), (2, .int (nI p2)), (3, .int (nI p3)), (4, .long be), (6, .int (nI 1))] [] I Jc := by
  have f1 : Jc q1 = J q1 := hf q1 hz9 hz10
  have f8 : Jc 8 = J 8 := hf 8 (by decide) (by decide)
  refine bX4_divide_31 hq1 hn1 (fun c => absurd c (by rw [hd]; decide)) (fun _ => bX4_divide_40 hq1 hn1 ?_)
  refine v_X4_103 dX4_divide_43 rfl ⟨rfl, rfl, Nat.le_of_ble_eq_true rfl, Nat.le_of_ble_eq_true rfl⟩ (c_matrixOf2 hd hq1 hn1 (by omega) hz10) rfl rfl (Nat.le_of_ble_eq_true rfl) (fun r I1 Jm hp => ?_)
  obtain ⟨rfl, e2, m0, m1, m3, m4, g⟩ := hp
  obtain rfl := e2.symm
  rw [f1, f8] at m0 m1 m3 m4
  have g1 : Jm q1 = J q1 := (g q1 hz10).trans f1
  refine bX4_divide_46 (v47 := nI 0) hq1 hn1 rfl ?_
  refine bX4_divide_49 hq1 hn1 (fun c => absurd c (by rw [hd]; decide)) (fun _ => ?_)
  refine bX4_divide_58 (j68 := 3) (j73 := p2 + 0) (v75 := J q1 (p2 + 0)) (v76 := nI 1) hq1 hn1 rfl (nI_addE p2 0) (by omega) (by decide) (by simp only [sa_uJ_ne hz10, g1]) rfl ?_
  refine bX4_divide_49 hq1 hn1 (fun c => absurd c (by rw [hd]; decide)) (fun _ => ?_)
  refine bX4_divide_58 (j68 := 4) (j73 := p2 + 1) (v75 := J q1 (p2 + 1)) (v76 := nI 2) hq1 hn1 rfl (nI_addE p2 1) (by omega) (by decide) (by simp only [sa_uJ_ne hz10, g1]) rfl ?_
  refine bX4_divide_49 hq1 hn1 (fun _ => ?_) (fun c => absurd (by rw [hd]; decide) c)
  refine bX4_divide_82 hq1 hn1 ?_
  refine v_X4_78 dX4_divide_83 rfl ⟨rfl, rfl, Nat.le_of_ble_eq_true rfl, Nat.le_of_ble_eq_true rfl⟩ (c_mnE2 hd (A := abv 2 1 (mtx 2 (fun c => J q1 (p3 + c)) (J 8)) (fun c => J q1 (p2 + c))) ?_) rfl rfl (Nat.le_of_ble_eq_true rfl) (fun r I1 J1 hp => ?_)
  · show Jm 10 0 * J q1 (p2 + 1) - Jm 10 1 * J q1 (p2 + 0) = _
    rw [m0, m1]; rfl
  obtain ⟨rfl, e2, e3⟩ := hp
  obtain rfl := e2.symm
  obtain rfl := e3.symm
  have fm : fr9 J (sa_uJ (sa_uJ Jm 10 3 (J q1 (p2 + 0))) 10 4 (J q1 (p2 + 1))) := fun q h9 h10 => by rw [sa_uJ_ne h10, sa_uJ_ne h10, g q h10]; exact hf q h9 h10
  have f9 : (sa_uJ (sa_uJ Jm 10 3 (J q1 (p2 + 0))) 10 4 (J q1 (p2 + 1))) 9 = Jc 9 := by rw [sa_uJ_ne (by decide), sa_uJ_ne (by decide), g 9 (by decide)]
  refine bX4_divide_86 hq1 hn1 hbe (fun c => ?_) (fun c => bX4_divide_98 (kb c _ fm))
  refine bX4_divide_100 (j104 := 1) (v112 := nI 2) hq1 hn1 rfl hbe (by decide) rfl rfl (kg c _ (fun q h9 h10 => by rw [sa_uJ_ne h9]; exact fm q h9 h10) sa_uJ_at (fun t ht => by rw [sa_uJ_off ht, f9]))
theorem c_divide2 {a1 q1 n1 p2 p3 : Nat} (hd : I 4 0 = nI 2) (hq1 : sa_iJ (EC l D aI aL ad) a1 q1 n1) (hn1 : n1 < 2 ^ 31) (hb2 : p2 + 3 ≤ n1) (hb3 : p3 + 3 ≤ n1) (hz9 : q1 ≠ 9) (hz10 : q1 ≠ 10) : Con (EC l D aI aL ad) M_X4_divide yX4_divide [.ref (ad 4), .ref a1, .int (nI p2), .int (nI p3)] I J (fun r I1 J1 => I1 = I ∧ fr9 J J1 ∧ if ¬ (nrV 2 (mtx 2 (fun c => J q1 (p3 + c)) (J 8)) 0) = 0 ∧ rm (abv 2 0 (mtx 2 (fun c => J q1 (p3 + c)) (J 8)) (fun c => J q1 (p2 + c))) (nrV 2 (mtx 2 (fun c => J q1 (p3 + c)) (J 8)) 0) = 0 ∧ rm (abv 2 1 (mtx 2 (fun c => J q1 (p3 + c)) (J 8)) (fun c => J q1 (p2 + c))) (nrV 2 (mtx 2 (fun c => J q1 (p3 + c)) (J 8)) 0) = 0 then r = some (.int 1) ∧ J1 9 0 = abv 2 0 (mtx 2 (fun c => J q1 (p3 + c)) (J 8)) (fun c => J q1 (p2 + c)) / (nrV 2 (mtx 2 (fun c => J q1 (p3 + c)) (J 8)) 0) ∧ J1 9 1 = abv 2 1 (mtx 2 (fun c => J q1 (p3 + c)) (J 8)) (fun c => J q1 (p2 + c)) / (nrV 2 (mtx 2 (fun c => J q1 (p3 + c)) (J 8)) 0) ∧ J1 9 2 = 0 else r = some (.int 0)) := by
  refine Con.of (by decide +kernel) rfl (Nat.le_of_ble_eq_true rfl) ?_
  refine bX4_divide_0 hq1 hn1 ?_
  refine v_X4_103 dX4_divide_3 rfl ⟨rfl, rfl, Nat.le_of_ble_eq_true rfl, Nat.le_of_ble_eq_true rfl⟩ (c_matrixOf2 hd hq1 hn1 (by omega) hz10) rfl rfl (Nat.le_of_ble_eq_true rfl) (fun r I1 Jm hp => ?_)
  obtain ⟨rfl, e2, m0, m1, m3, m4, g⟩ := hp
  obtain rfl := e2.symm
  refine bX4_divide_6 hq1 hn1 ?_
  refine v_X4_78 dX4_divide_7 rfl ⟨rfl, rfl, Nat.le_of_ble_eq_true rfl, Nat.le_of_ble_eq_true rfl⟩ (c_mnE2 hd (A := (nrV 2 (mtx 2 (fun c => J q1 (p3 + c)) (J 8)) 0)) (by rw [m0, m1, m3, m4]; rfl)) rfl rfl (Nat.le_of_ble_eq_true rfl) (fun r I1 J1 hp => ?_)
  obtain ⟨rfl, e2, e3⟩ := hp
  obtain rfl := e2.symm
  obtain rfl := e3.symm
  have fm : fr9 J Jm := fun q _ h10 => g q h10
  refine bX4_divide_10 hq1 hn1 (fun c => ?_) (fun c => bX4_divide_19 ⟨rfl, fm, by rw [if_neg (fun h => h.1 c)]⟩)
  refine bX4_divide_21 (v29 := nI 0) hq1 hn1 rfl rfl ?_
  have f0 : fr9 J (sa_uJ Jm 9 2 0) := fun q h9 h10 => by rw [sa_uJ_ne h9]; exact fm q h9 h10
  refine dvb2_0 hd hq1 hn1 hb2 hb3 hz9 hz10 c f0 (fun c0 K0 fr0 v0 o0 => ?_) (fun c0 K0 fr0 => ⟨rfl, fr0, by rw [if_neg (fun h => c0 h.2.1)]⟩)
  refine dvb2_1 hd hq1 hn1 hb2 hb3 hz9 hz10 c fr0 (fun c1 K1 fr1 v1 o1 => ?_) (fun c1 K1 fr1 => ⟨rfl, fr1, by rw [if_neg (fun h => c1 h.2.2)]⟩)
  refine bX4_divide_31 hq1 hn1 (fun _ => bX4_divide_118 ⟨rfl, fr1, ?_⟩) (fun c => absurd (by rw [hd]; decide) c)
  rw [if_pos ⟨c, c0, c1⟩]
  exact ⟨rfl, (o1 0 (by decide)).trans (v0), v1, (o1 2 (by decide)).trans ((o0 2 (by decide)).trans sa_uJ_at)⟩
theorem dvb3_0 {a1 q1 n1 p2 p3 : Nat} {be : Int64} {Jc : sa_J} (hd : I 4 0 = nI 3) (hq1 : sa_iJ (EC l D aI aL ad) a1 q1 n1) (hn1 : n1 < 2 ^ 31) (hb2 : p2 + 3 ≤ n1) (hb3 : p3 + 3 ≤ n1) (hz9 : q1 ≠ 9) (hz10 : q1 ≠ 10) (hbe : ¬ be = 0) (hf : fr9 J Jc) (kg : rm (abv 3 0 (mtx 3 (fun c => J q1 (p3 + c)) (J 8)) (fun c => J q1 (p2 + c))) be = 0 → ∀ J2, fr9 J J2 → J2 9 0 = abv 3 0 (mtx 3 (fun c => J q1 (p3 + c)) (J 8)) (fun c => J q1 (p2 + c)) / be → (∀ t, t ≠ 0 → J2 9 t = Jc 9 t) → Sat (EC l D aI aL ad) M_X4_divide P 31 [(0, .ref (ad 4)), (1, .ref a1), (2, .int (nI p2)), (3, .int (nI p3)), (4, .long be), (6, .int (nI 1))] [] I J2) (kb : ¬ rm (abv 3 0 (mtx 3 (fun c => J q1 (p3 + c)) (J 8)) (fun c => J q1 (p2 + c))) be = 0 → ∀ J2, fr9 J J2 → P (some (.int 0)) I J2) : Sat (EC l D aI aL ad) M_X4_divide P 31 [(0, .ref (ad 4)), (1, .ref a1), (2, .int (nI p2)), (3, .int (nI p3)), (4, .long be), (6, .int (nI 0))] [] I Jc := by
  have f1 : Jc q1 = J q1 := hf q1 hz9 hz10
  have f8 : Jc 8 = J 8 := hf 8 (by decide) (by decide)
  refine bX4_divide_31 hq1 hn1 (fun c => absurd c (by rw [hd]; decide)) (fun _ => bX4_divide_40 hq1 hn1 ?_)
  refine v_X4_103 dX4_divide_43 rfl ⟨rfl, rfl, Nat.le_of_ble_eq_true rfl, Nat.le_of_ble_eq_true rfl⟩ (c_matrixOf3 hd hq1 hn1 (by omega) hz10) rfl rfl (Nat.le_of_ble_eq_true rfl) (fun r I1 Jm hp => ?_)
  obtain ⟨rfl, e2, m0, m1, m2, m3, m4, m5, m6, m7, m8, g⟩ := hp
  obtain rfl := e2.symm
  rw [f1, f8] at m0 m1 m2 m3 m4 m5 m6 m7 m8
  have g1 : Jm q1 = J q1 := (g q1 hz10).trans f1
  refine bX4_divide_46 (v47 := nI 0) hq1 hn1 rfl ?_
  refine bX4_divide_49 hq1 hn1 (fun c => absurd c (by rw [hd]; decide)) (fun _ => ?_)
  refine bX4_divide_58 (j68 := 0) (j73 := p2 + 0) (v75 := J q1 (p2 + 0)) (v76 := nI 1) hq1 hn1 rfl (nI_addE p2 0) (by omega) (by decide) (by simp only [sa_uJ_ne hz10, g1]) rfl ?_
  refine bX4_divide_49 hq1 hn1 (fun c => absurd c (by rw [hd]; decide)) (fun _ => ?_)
  refine bX4_divide_58 (j68 := 1) (j73 := p2 + 1) (v75 := J q1 (p2 + 1)) (v76 := nI 2) hq1 hn1 rfl (nI_addE p2 1) (by omega) (by decide) (by simp only [sa_uJ_ne hz10, g1]) rfl ?_
  refine bX4_divide_49 hq1 hn1 (fun c => absurd c (by rw [hd]; decide)) (fun _ => ?_)
  refine bX4_divide_58 (j68 := 2) (j73 := p2 + 2) (v75 := J q1 (p2 + 2)) (v76 := nI 3) hq1 hn1 rfl (nI_addE p2 2) (by omega) (by decide) (by simp only [sa_uJ_ne hz10, g1]) rfl ?_
  refine bX4_divide_49 hq1 hn1 (fun _ => ?_) (fun c => absurd (by rw [hd]; decide) c)
  refine bX4_divide_82 hq1 hn1 ?_
  refine v_X4_78 dX4_divide_83 rfl ⟨rfl, rfl, Nat.le_of_ble_eq_true rfl, Nat.le_of_ble_eq_true rfl⟩ (c_mnE3 hd (A := abv 3 0 (mtx 3 (fun c => J q1 (p3 + c)) (J 8)) (fun c => J q1 (p2 + c))) ?_) rfl rfl (Nat.le_of_ble_eq_true rfl) (fun r I1 J1 hp => ?_)
  · show J q1 (p2 + 0) * (Jm 10 4 * Jm 10 8 - Jm 10 5 * Jm 10 7) - J q1 (p2 + 1) * (Jm 10 3 * Jm 10 8 - Jm 10 5 * Jm 10 6) + J q1 (p2 + 2) * (Jm 10 3 * Jm 10 7 - Jm 10 4 * Jm 10 6) = _
    rw [m3, m4, m5, m6, m7, m8]; rfl
  obtain ⟨rfl, e2, e3⟩ := hp
  obtain rfl := e2.symm
  obtain rfl := e3.symm
  have fm : fr9 J (sa_uJ (sa_uJ (sa_uJ Jm 10 0 (J q1 (p2 + 0))) 10 1 (J q1 (p2 + 1))) 10 2 (J q1 (p2 + 2))) := fun q h9 h10 => by rw [sa_uJ_ne h10, sa_uJ_ne h10, sa_uJ_ne h10, g q h10]; exact hf q h9 h10
  have f9 : (sa_uJ (sa_uJ (sa_uJ Jm 10 0 (J q1 (p2 + 0))) 10 1 (J q1 (p2 + 1))) 10 2 (J q1 (p2 + 2))) 9 = Jc 9 := by rw [sa_uJ_ne (by decide), sa_uJ_ne (by decide), sa_uJ_ne (by decide), g 9 (by decide)]
  refine bX4_divide_86 hq1 hn1 hbe (fun c => ?_) (fun c => bX4_divide_98 (kb c _ fm))
  refine bX4_divide_100 (j104 := 0) (v112 := nI 1) hq1 hn1 rfl hbe (by decide) rfl rfl (kg c _ (fun q h9 h10 => by rw [sa_uJ_ne h9]; exact fm q h9 h10) sa_uJ_at (fun t ht => by rw [sa_uJ_off ht, f9]))
theorem dvb3_1 {a1 q1 n1 p2 p3 : Nat} {be : Int64} {Jc : sa_J} (hd : I 4 0 = nI 3) (hq1 : sa_iJ (EC l D aI aL ad) a1 q1 n1) (hn1 : n1 < 2 ^ 31) (hb2 : p2 + 3 ≤ n1) (hb3 : p3 + 3 ≤ n1) (hz9 : q1 ≠ 9) (hz10 : q1 ≠ 10) (hbe : ¬ be = 0) (hf : fr9 J Jc) (kg : rm (abv 3 1 (mtx 3 (fun c => J q1 (p3 + c)) (J 8)) (fun c => J q1 (p2 + c))) be = 0 → ∀ J2, fr9 J J2 → J2 9 1 = abv 3 1 (mtx 3 (fun c => J q1 (p3 + c)) (J 8)) (fun c => J q1 (p2 + c)) / be → (∀ t, t ≠ 1 → J2 9 t = Jc 9 t) → Sat (EC l D aI aL ad) M_X4_divide P 31 [(0, .ref (ad 4)), (1, .ref a1), (2, .int (nI p2)), (3, .int (nI p3)), (4, .long be), (6, .int (nI 2))] [] I J2) (kb : ¬ rm (abv 3 1 (mtx 3 (fun c => J q1 (p3 + c)) (J 8)) (fun c => J q1 (p2 + c))) be = 0 → ∀ J2, fr9 J J2 → P (some (.int 0)) I J2) : Sat (EC l D aI aL ad) M_X4_divide P 31 [(0, .ref (ad 4)), (1, .ref a1), (2, .int (nI p2)), (3, .int (nI p3)), (4, .long be), (6, .int (nI 1))] [] I Jc := by
  have f1 : Jc q1 = J q1 := hf q1 hz9 hz10
  have f8 : Jc 8 = J 8 := hf 8 (by decide) (by decide)
  refine bX4_divide_31 hq1 hn1 (fun c => absurd c (by rw [hd]; decide)) (fun _ => bX4_divide_40 hq1 hn1 ?_)
  refine v_X4_103 dX4_divide_43 rfl ⟨rfl, rfl, Nat.le_of_ble_eq_true rfl, Nat.le_of_ble_eq_true rfl⟩ (c_matrixOf3 hd hq1 hn1 (by omega) hz10) rfl rfl (Nat.le_of_ble_eq_true rfl) (fun r I1 Jm hp => ?_)
  obtain ⟨rfl, e2, m0, m1, m2, m3, m4, m5, m6, m7, m8, g⟩ := hp
  obtain rfl := e2.symm
  rw [f1, f8] at m0 m1 m2 m3 m4 m5 m6 m7 m8
  have g1 : Jm q1 = J q1 := (g q1 hz10).trans f1
  refine bX4_divide_46 (v47 := nI 0) hq1 hn1 rfl ?_
  refine bX4_divide_49 hq1 hn1 (fun c => absurd c (by rw [hd]; decide)) (fun _ => ?_)
  refine bX4_divide_58 (j68 := 3) (j73 := p2 + 0) (v75 := J q1 (p2 + 0)) (v76 := nI 1) hq1 hn1 rfl (nI_addE p2 0) (by omega) (by decide) (by simp only [sa_uJ_ne hz10, g1]) rfl ?_
  refine bX4_divide_49 hq1 hn1 (fun c => absurd c (by rw [hd]; decide)) (fun _ => ?_)
  refine bX4_divide_58 (j68 := 4) (j73 := p2 + 1) (v75 := J q1 (p2 + 1)) (v76 := nI 2) hq1 hn1 rfl (nI_addE p2 1) (by omega) (by decide) (by simp only [sa_uJ_ne hz10, g1]) rfl ?_
  refine bX4_divide_49 hq1 hn1 (fun c => absurd c (by rw [hd]; decide)) (fun _ => ?_)
  refine bX4_divide_58 (j68 := 5) (j73 := p2 + 2) (v75 := J q1 (p2 + 2)) (v76 := nI 3) hq1 hn1 rfl (nI_addE p2 2) (by omega) (by decide) (by simp only [sa_uJ_ne hz10, g1]) rfl ?_
  refine bX4_divide_49 hq1 hn1 (fun _ => ?_) (fun c => absurd (by rw [hd]; decide) c)
  refine bX4_divide_82 hq1 hn1 ?_
  refine v_X4_78 dX4_divide_83 rfl ⟨rfl, rfl, Nat.le_of_ble_eq_true rfl, Nat.le_of_ble_eq_true rfl⟩ (c_mnE3 hd (A := abv 3 1 (mtx 3 (fun c => J q1 (p3 + c)) (J 8)) (fun c => J q1 (p2 + c))) ?_) rfl rfl (Nat.le_of_ble_eq_true rfl) (fun r I1 J1 hp => ?_)
  · show Jm 10 0 * (J q1 (p2 + 1) * Jm 10 8 - J q1 (p2 + 2) * Jm 10 7) - Jm 10 1 * (J q1 (p2 + 0) * Jm 10 8 - J q1 (p2 + 2) * Jm 10 6) + Jm 10 2 * (J q1 (p2 + 0) * Jm 10 7 - J q1 (p2 + 1) * Jm 10 6) = _
    rw [m0, m1, m2, m6, m7, m8]; rfl
  obtain ⟨rfl, e2, e3⟩ := hp
  obtain rfl := e2.symm
  obtain rfl := e3.symm
  have fm : fr9 J (sa_uJ (sa_uJ (sa_uJ Jm 10 3 (J q1 (p2 + 0))) 10 4 (J q1 (p2 + 1))) 10 5 (J q1 (p2 + 2))) := fun q h9 h10 => by rw [sa_uJ_ne h10, sa_uJ_ne h10, sa_uJ_ne h10, g q h10]; exact hf q h9 h10
  have f9 : (sa_uJ (sa_uJ (sa_uJ Jm 10 3 (J q1 (p2 + 0))) 10 4 (J q1 (p2 + 1))) 10 5 (J q1 (p2 + 2))) 9 = Jc 9 := by rw [sa_uJ_ne (by decide), sa_uJ_ne (by decide), sa_uJ_ne (by decide), g 9 (by decide)]
  refine bX4_divide_86 hq1 hn1 hbe (fun c => ?_) (fun c => bX4_divide_98 (kb c _ fm))
  refine bX4_divide_100 (j104 := 1) (v112 := nI 2) hq1 hn1 rfl hbe (by decide) rfl rfl (kg c _ (fun q h9 h10 => by rw [sa_uJ_ne h9]; exact fm q h9 h10) sa_uJ_at (fun t ht => by rw [sa_uJ_off ht, f9]))
theorem dvb3_2 {a1 q1 n1 p2 p3 : Nat} {be : Int64} {Jc : sa_J} (hd : I 4 0 = nI 3) (hq1 : sa_iJ (EC l D aI aL ad) a1 q1 n1) (hn1 : n1 < 2 ^ 31) (hb2 : p2 + 3 ≤ n1) (hb3 : p3 + 3 ≤ n1) (hz9 : q1 ≠ 9) (hz10 : q1 ≠ 10) (hbe : ¬ be = 0) (hf : fr9 J Jc) (kg : rm (abv 3 2 (mtx 3 (fun c => J q1 (p3 + c)) (J 8)) (fun c => J q1 (p2 + c))) be = 0 → ∀ J2, fr9 J J2 → J2 9 2 = abv 3 2 (mtx 3 (fun c => J q1 (p3 + c)) (J 8)) (fun c => J q1 (p2 + c)) / be → (∀ t, t ≠ 2 → J2 9 t = Jc 9 t) → Sat (EC l D aI aL ad) M_X4_divide P 31 [(0, .ref (ad 4)), (1, .ref a1), (2, .int (nI p2)), (3, .int (nI p3)), (4, .long be), (6, .int (nI 3))] [] I J2) (kb : ¬ rm (abv 3 2 (mtx 3 (fun c => J q1 (p3 + c)) (J 8)) (fun c => J q1 (p2 + c))) be = 0 → ∀ J2, fr9 J J2 → P (some (.int 0)) I J2) : Sat (EC l D aI aL ad) M_X4_divide P 31 [(0, .ref (ad 4)), (1, .ref a1), (2, .int (nI p2)), (3, .int (nI p3)), (4, .long be), (6, .int (nI 2))] [] I Jc := by
  have f1 : Jc q1 = J q1 := hf q1 hz9 hz10
  have f8 : Jc 8 = J 8 := hf 8 (by decide) (by decide)
  refine bX4_divide_31 hq1 hn1 (fun c => absurd c (by rw [hd]; decide)) (fun _ => bX4_divide_40 hq1 hn1 ?_)
  refine v_X4_103 dX4_divide_43 rfl ⟨rfl, rfl, Nat.le_of_ble_eq_true rfl, Nat.le_of_ble_eq_true rfl⟩ (c_matrixOf3 hd hq1 hn1 (by omega) hz10) rfl rfl (Nat.le_of_ble_eq_true rfl) (fun r I1 Jm hp => ?_)
  obtain ⟨rfl, e2, m0, m1, m2, m3, m4, m5, m6, m7, m8, g⟩ := hp
  obtain rfl := e2.symm
  rw [f1, f8] at m0 m1 m2 m3 m4 m5 m6 m7 m8
  have g1 : Jm q1 = J q1 := (g q1 hz10).trans f1
  refine bX4_divide_46 (v47 := nI 0) hq1 hn1 rfl ?_
  refine bX4_divide_49 hq1 hn1 (fun c => absurd c (by rw [hd]; decide)) (fun _ => ?_)
  refine bX4_divide_58 (j68 := 6) (j73 := p2 + 0) (v75 := J q1 (p2 + 0)) (v76 := nI 1) hq1 hn1 rfl (nI_addE p2 0) (by omega) (by decide) (by simp only [sa_uJ_ne hz10, g1]) rfl ?_
  refine bX4_divide_49 hq1 hn1 (fun c => absurd c (by rw [hd]; decide)) (fun _ => ?_)
  refine bX4_divide_58 (j68 := 7) (j73 := p2 + 1) (v75 := J q1 (p2 + 1)) (v76 := nI 2) hq1 hn1 rfl (nI_addE p2 1) (by omega) (by decide) (by simp only [sa_uJ_ne hz10, g1]) rfl ?_
  refine bX4_divide_49 hq1 hn1 (fun c => absurd c (by rw [hd]; decide)) (fun _ => ?_)
  refine bX4_divide_58 (j68 := 8) (j73 := p2 + 2) (v75 := J q1 (p2 + 2)) (v76 := nI 3) hq1 hn1 rfl (nI_addE p2 2) (by omega) (by decide) (by simp only [sa_uJ_ne hz10, g1]) rfl ?_
  refine bX4_divide_49 hq1 hn1 (fun _ => ?_) (fun c => absurd (by rw [hd]; decide) c)
  refine bX4_divide_82 hq1 hn1 ?_
  refine v_X4_78 dX4_divide_83 rfl ⟨rfl, rfl, Nat.le_of_ble_eq_true rfl, Nat.le_of_ble_eq_true rfl⟩ (c_mnE3 hd (A := abv 3 2 (mtx 3 (fun c => J q1 (p3 + c)) (J 8)) (fun c => J q1 (p2 + c))) ?_) rfl rfl (Nat.le_of_ble_eq_true rfl) (fun r I1 J1 hp => ?_)
  · show Jm 10 0 * (Jm 10 4 * J q1 (p2 + 2) - Jm 10 5 * J q1 (p2 + 1)) - Jm 10 1 * (Jm 10 3 * J q1 (p2 + 2) - Jm 10 5 * J q1 (p2 + 0)) + Jm 10 2 * (Jm 10 3 * J q1 (p2 + 1) - Jm 10 4 * J q1 (p2 + 0)) = _
    rw [m0, m1, m2, m3, m4, m5]; rfl
  obtain ⟨rfl, e2, e3⟩ := hp
  obtain rfl := e2.symm
  obtain rfl := e3.symm
  have fm : fr9 J (sa_uJ (sa_uJ (sa_uJ Jm 10 6 (J q1 (p2 + 0))) 10 7 (J q1 (p2 + 1))) 10 8 (J q1 (p2 + 2))) := fun q h9 h10 => by rw [sa_uJ_ne h10, sa_uJ_ne h10, sa_uJ_ne h10, g q h10]; exact hf q h9 h10
  have f9 : (sa_uJ (sa_uJ (sa_uJ Jm 10 6 (J q1 (p2 + 0))) 10 7 (J q1 (p2 + 1))) 10 8 (J q1 (p2 + 2))) 9 = Jc 9 := by rw [sa_uJ_ne (by decide), sa_uJ_ne (by decide), sa_uJ_ne (by decide), g 9 (by decide)]
  refine bX4_divide_86 hq1 hn1 hbe (fun c => ?_) (fun c => bX4_divide_98 (kb c _ fm))
  refine bX4_divide_100 (j104 := 2) (v112 := nI 3) hq1 hn1 rfl hbe (by decide) rfl rfl (kg c _ (fun q h9 h10 => by rw [sa_uJ_ne h9]; exact fm q h9 h10) sa_uJ_at (fun t ht => by rw [sa_uJ_off ht, f9]))
theorem c_divide3 {a1 q1 n1 p2 p3 : Nat} (hd : I 4 0 = nI 3) (hq1 : sa_iJ (EC l D aI aL ad) a1 q1 n1) (hn1 : n1 < 2 ^ 31) (hb2 : p2 + 3 ≤ n1) (hb3 : p3 + 3 ≤ n1) (hz9 : q1 ≠ 9) (hz10 : q1 ≠ 10) : Con (EC l D aI aL ad) M_X4_divide yX4_divide [.ref (ad 4), .ref a1, .int (nI p2), .int (nI p3)] I J (fun r I1 J1 => I1 = I ∧ fr9 J J1 ∧ if ¬ (nrV 3 (mtx 3 (fun c => J q1 (p3 + c)) (J 8)) 0) = 0 ∧ rm (abv 3 0 (mtx 3 (fun c => J q1 (p3 + c)) (J 8)) (fun c => J q1 (p2 + c))) (nrV 3 (mtx 3 (fun c => J q1 (p3 + c)) (J 8)) 0) = 0 ∧ rm (abv 3 1 (mtx 3 (fun c => J q1 (p3 + c)) (J 8)) (fun c => J q1 (p2 + c))) (nrV 3 (mtx 3 (fun c => J q1 (p3 + c)) (J 8)) 0) = 0 ∧ rm (abv 3 2 (mtx 3 (fun c => J q1 (p3 + c)) (J 8)) (fun c => J q1 (p2 + c))) (nrV 3 (mtx 3 (fun c => J q1 (p3 + c)) (J 8)) 0) = 0 then r = some (.int 1) ∧ J1 9 0 = abv 3 0 (mtx 3 (fun c => J q1 (p3 + c)) (J 8)) (fun c => J q1 (p2 + c)) / (nrV 3 (mtx 3 (fun c => J q1 (p3 + c)) (J 8)) 0) ∧ J1 9 1 = abv 3 1 (mtx 3 (fun c => J q1 (p3 + c)) (J 8)) (fun c => J q1 (p2 + c)) / (nrV 3 (mtx 3 (fun c => J q1 (p3 + c)) (J 8)) 0) ∧ J1 9 2 = abv 3 2 (mtx 3 (fun c => J q1 (p3 + c)) (J 8)) (fun c => J q1 (p2 + c)) / (nrV 3 (mtx 3 (fun c => J q1 (p3 + c)) (J 8)) 0) else r = some (.int 0)) := by
  refine Con.of (by decide +kernel) rfl (Nat.le_of_ble_eq_true rfl) ?_
  refine bX4_divide_0 hq1 hn1 ?_
  refine v_X4_103 dX4_divide_3 rfl ⟨rfl, rfl, Nat.le_of_ble_eq_true rfl, Nat.le_of_ble_eq_true rfl⟩ (c_matrixOf3 hd hq1 hn1 (by omega) hz10) rfl rfl (Nat.le_of_ble_eq_true rfl) (fun r I1 Jm hp => ?_)
  obtain ⟨rfl, e2, m0, m1, m2, m3, m4, m5, m6, m7, m8, g⟩ := hp
  obtain rfl := e2.symm
  refine bX4_divide_6 hq1 hn1 ?_
  refine v_X4_78 dX4_divide_7 rfl ⟨rfl, rfl, Nat.le_of_ble_eq_true rfl, Nat.le_of_ble_eq_true rfl⟩ (c_mnE3 hd (A := (nrV 3 (mtx 3 (fun c => J q1 (p3 + c)) (J 8)) 0)) (by rw [m0, m1, m2, m3, m4, m5, m6, m7, m8]; rfl)) rfl rfl (Nat.le_of_ble_eq_true rfl) (fun r I1 J1 hp => ?_)
  obtain ⟨rfl, e2, e3⟩ := hp
  obtain rfl := e2.symm
  obtain rfl := e3.symm
  have fm : fr9 J Jm := fun q _ h10 => g q h10
  refine bX4_divide_10 hq1 hn1 (fun c => ?_) (fun c => bX4_divide_19 ⟨rfl, fm, by rw [if_neg (fun h => h.1 c)]⟩)
  refine bX4_divide_21 (v29 := nI 0) hq1 hn1 rfl rfl ?_
  have f0 : fr9 J (sa_uJ Jm 9 2 0) := fun q h9 h10 => by rw [sa_uJ_ne h9]; exact fm q h9 h10
  refine dvb3_0 hd hq1 hn1 hb2 hb3 hz9 hz10 c f0 (fun c0 K0 fr0 v0 o0 => ?_) (fun c0 K0 fr0 => ⟨rfl, fr0, by rw [if_neg (fun h => c0 h.2.1)]⟩)
  refine dvb3_1 hd hq1 hn1 hb2 hb3 hz9 hz10 c fr0 (fun c1 K1 fr1 v1 o1 => ?_) (fun c1 K1 fr1 => ⟨rfl, fr1, by rw [if_neg (fun h => c1 h.2.2.1)]⟩)
  refine dvb3_2 hd hq1 hn1 hb2 hb3 hz9 hz10 c fr1 (fun c2 K2 fr2 v2 o2 => ?_) (fun c2 K2 fr2 => ⟨rfl, fr2, by rw [if_neg (fun h => c2 h.2.2.2)]⟩)
  refine bX4_divide_31 hq1 hn1 (fun _ => bX4_divide_118 ⟨rfl, fr2, ?_⟩) (fun c => absurd (by rw [hd]; decide) c)
  rw [if_pos ⟨c, c0, c1, c2⟩]
  exact ⟨rfl, (o2 0 (by decide)).trans ((o1 0 (by decide)).trans (v0)), (o2 1 (by decide)).trans (v1), v2⟩
end DI
