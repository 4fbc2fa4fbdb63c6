def frB (J0 Jc : sa_J) : Prop := ∀ q, q ≠ 8 → q ≠ 11 → Jc q = J0 q
/-- the coordinates of w i times w j, as the class makes them -/
def cc2 (J : sa_J) (i j : Nat) : Int64 × Int64 := tl2 (J 6) (wd2 (J 5) (ur (J 6) i) (ur (J 6) j)) (J 7 0) (J 7 1) (J 4 3) (J 7 i * J 7 j)
def cc3 (J : sa_J) (i j : Nat) : Int64 × Int64 × Int64 := tl3 (J 6) (wd3 (J 5) (ur (J 6) i) (ur (J 6) j)) (J 7 0) (J 7 1) (J 7 2) (J 4 3) (J 7 i * J 7 j)
theorem tl2_eq {u w w' : Nat → Int64} {l0 l1 x b : Int64} (h0 : w 0 = w' 0) (h1 : w 1 = w' 1) : tl2 u w l0 l1 x b = tl2 u w' l0 l1 x b := by unfold tl2; rw [h0, h1]
theorem tl3_eq {u w w' : Nat → Int64} {l0 l1 l2 x b : Int64} (h0 : w 0 = w' 0) (h1 : w 1 = w' 1) (h2 : w 2 = w' 2) : tl3 u w l0 l1 l2 x b = tl3 u w' l0 l1 l2 x b := by unfold tl3; rw [h0, h1, h2]
section FR
variable {l : Launch} {D : va_G} {aI aL : ClassId} {ad : Nat → Nat} {P : sa_P} {I : sa_I} {J : sa_J}
theorem fr2_00 (hd : I 4 0 = nI 2) {J0 Jc : sa_J} (hf : frB J0 Jc) (k : ∀ Jn, Jn 8 = vp_updL (vp_updL (Jc 8) 1 (cc2 J0 0 0).2) 0 (cc2 J0 0 0).1 → frB J0 Jn → Sat (EC l D aI aL ad) M_X4_finishRing P 109 [(0, .ref (ad 4)), (1, .int (nI 0)), (2, .int (nI 0))] [] I Jn) : Sat (EC l D aI aL ad) M_X4_finishRing P 78 [(0, .ref (ad 4)), (1, .int (nI 0)), (2, .int (nI 0))] [] I Jc := by
  refine bX4_finishRing_78 (v_X4_95 dX4_finishRing_81 rfl ⟨rfl, rfl, Nat.le_of_ble_eq_true rfl, Nat.le_of_ble_eq_true rfl⟩ (c_mm2_00 hd) rfl rfl (Nat.le_of_ble_eq_true rfl) (fun r I1 J1 hp => ?_))
  obtain ⟨rfl, rfl, m0, m1, hg⟩ := hp
  refine bX4_finishRing_84 (j89 := 0) (j95 := 0) rfl (by decide) rfl (by decide) (v_X4_99 dX4_finishRing_106 rfl ⟨rfl, rfl, Nat.le_of_ble_eq_true rfl, Nat.le_of_ble_eq_true rfl⟩ (c_tb2_00 hd) rfl rfl (Nat.le_of_ble_eq_true rfl) (fun r I2 J2 hp => ?_))
  obtain ⟨rfl, rfl, h8, hh⟩ := hp
  refine k J2 ?_ (fun q h1 h2 => (hh q h1 h2).trans ((hg q h2).trans (hf q h1 h2)))
  rw [h8, hg 8 (by decide), tl2_eq m0 m1, hg 6 (by decide), hg 7 (by decide), hg 4 (by decide), hf 5 (by decide) (by decide), hf 6 (by decide) (by decide), hf 7 (by decide) (by decide), hf 4 (by decide) (by decide)]
  rfl
theorem fr2_01 (hd : I 4 0 = nI 2) {J0 Jc : sa_J} (hf : frB J0 Jc) (k : ∀ Jn, Jn 8 = vp_updL (vp_updL (Jc 8) 4 (cc2 J0 0 1).2) 3 (cc2 J0 0 1).1 → frB J0 Jn → Sat (EC l D aI aL ad) M_X4_finishRing P 109 [(0, .ref (ad 4)), (1, .int (nI 0)), (2, .int (nI 1))] [] I Jn) : Sat (EC l D aI aL ad) M_X4_finishRing P 78 [(0, .ref (ad 4)), (1, .int (nI 0)), (2, .int (nI 1))] [] I Jc := by
  refine bX4_finishRing_78 (v_X4_95 dX4_finishRing_81 rfl ⟨rfl, rfl, Nat.le_of_ble_eq_true rfl, Nat.le_of_ble_eq_true rfl⟩ (c_mm2_01 hd) rfl rfl (Nat.le_of_ble_eq_true rfl) (fun r I1 J1 hp => ?_))
  obtain ⟨rfl, rfl, m0, m1, hg⟩ := hp
  refine bX4_finishRing_84 (j89 := 0) (j95 := 1) rfl (by decide) rfl (by decide) (v_X4_99 dX4_finishRing_106 rfl ⟨rfl, rfl, Nat.le_of_ble_eq_true rfl, Nat.le_of_ble_eq_true rfl⟩ (c_tb2_01 hd) rfl rfl (Nat.le_of_ble_eq_true rfl) (fun r I2 J2 hp => ?_))
  obtain ⟨rfl, rfl, h8, hh⟩ := hp
  refine k J2 ?_ (fun q h1 h2 => (hh q h1 h2).trans ((hg q h2).trans (hf q h1 h2)))
  rw [h8, hg 8 (by decide), tl2_eq m0 m1, hg 6 (by decide), hg 7 (by decide), hg 4 (by decide), hf 5 (by decide) (by decide), hf 6 (by decide) (by decide), hf 7 (by decide) (by decide), hf 4 (by decide) (by decide)]
  rfl
theorem fr2_10 (hd : I 4 0 = nI 2) {J0 Jc : sa_J} (hf : frB J0 Jc) (k : ∀ Jn, Jn 8 = vp_updL (vp_updL (Jc 8) 10 (cc2 J0 1 0).2) 9 (cc2 J0 1 0).1 → frB J0 Jn → Sat (EC l D aI aL ad) M_X4_finishRing P 109 [(0, .ref (ad 4)), (1, .int (nI 1)), (2, .int (nI 0))] [] I Jn) : Sat (EC l D aI aL ad) M_X4_finishRing P 78 [(0, .ref (ad 4)), (1, .int (nI 1)), (2, .int (nI 0))] [] I Jc := by
  refine bX4_finishRing_78 (v_X4_95 dX4_finishRing_81 rfl ⟨rfl, rfl, Nat.le_of_ble_eq_true rfl, Nat.le_of_ble_eq_true rfl⟩ (c_mm2_10 hd) rfl rfl (Nat.le_of_ble_eq_true rfl) (fun r I1 J1 hp => ?_))
  obtain ⟨rfl, rfl, m0, m1, hg⟩ := hp
  refine bX4_finishRing_84 (j89 := 1) (j95 := 0) rfl (by decide) rfl (by decide) (v_X4_99 dX4_finishRing_106 rfl ⟨rfl, rfl, Nat.le_of_ble_eq_true rfl, Nat.le_of_ble_eq_true rfl⟩ (c_tb2_10 hd) rfl rfl (Nat.le_of_ble_eq_true rfl) (fun r I2 J2 hp => ?_))
  obtain ⟨rfl, rfl, h8, hh⟩ := hp
  refine k J2 ?_ (fun q h1 h2 => (hh q h1 h2).trans ((hg q h2).trans (hf q h1 h2)))
  rw [h8, hg 8 (by decide), tl2_eq m0 m1, hg 6 (by decide), hg 7 (by decide), hg 4 (by decide), hf 5 (by decide) (by decide), hf 6 (by decide) (by decide), hf 7 (by decide) (by decide), hf 4 (by decide) (by decide)]
  rfl
theorem fr2_11 (hd : I 4 0 = nI 2) {J0 Jc : sa_J} (hf : frB J0 Jc) (k : ∀ Jn, Jn 8 = vp_updL (vp_updL (Jc 8) 13 (cc2 J0 1 1).2) 12 (cc2 J0 1 1).1 → frB J0 Jn → Sat (EC l D aI aL ad) M_X4_finishRing P 109 [(0, .ref (ad 4)), (1, .int (nI 1)), (2, .int (nI 1))] [] I Jn) : Sat (EC l D aI aL ad) M_X4_finishRing P 78 [(0, .ref (ad 4)), (1, .int (nI 1)), (2, .int (nI 1))] [] I Jc := by
  refine bX4_finishRing_78 (v_X4_95 dX4_finishRing_81 rfl ⟨rfl, rfl, Nat.le_of_ble_eq_true rfl, Nat.le_of_ble_eq_true rfl⟩ (c_mm2_11 hd) rfl rfl (Nat.le_of_ble_eq_true rfl) (fun r I1 J1 hp => ?_))
  obtain ⟨rfl, rfl, m0, m1, hg⟩ := hp
  refine bX4_finishRing_84 (j89 := 1) (j95 := 1) rfl (by decide) rfl (by decide) (v_X4_99 dX4_finishRing_106 rfl ⟨rfl, rfl, Nat.le_of_ble_eq_true rfl, Nat.le_of_ble_eq_true rfl⟩ (c_tb2_11 hd) rfl rfl (Nat.le_of_ble_eq_true rfl) (fun r I2 J2 hp => ?_))
  obtain ⟨rfl, rfl, h8, hh⟩ := hp
  refine k J2 ?_ (fun q h1 h2 => (hh q h1 h2).trans ((hg q h2).trans (hf q h1 h2)))
  rw [h8, hg 8 (by decide), tl2_eq m0 m1, hg 6 (by decide), hg 7 (by decide), hg 4 (by decide), hf 5 (by decide) (by decide), hf 6 (by decide) (by decide), hf 7 (by decide) (by decide), hf 4 (by decide) (by decide)]
  rfl
theorem fr3_00 (hd : I 4 0 = nI 3) {J0 Jc : sa_J} (hf : frB J0 Jc) (k : ∀ Jn, Jn 8 = vp_updL (vp_updL (vp_updL (Jc 8) 2 (cc3 J0 0 0).2.2) 1 (cc3 J0 0 0).2.1) 0 (cc3 J0 0 0).1 → frB J0 Jn → Sat (EC l D aI aL ad) M_X4_finishRing P 109 [(0, .ref (ad 4)), (1, .int (nI 0)), (2, .int (nI 0))] [] I Jn) : Sat (EC l D aI aL ad) M_X4_finishRing P 78 [(0, .ref (ad 4)), (1, .int (nI 0)), (2, .int (nI 0))] [] I Jc := by
  refine bX4_finishRing_78 (v_X4_95 dX4_finishRing_81 rfl ⟨rfl, rfl, Nat.le_of_ble_eq_true rfl, Nat.le_of_ble_eq_true rfl⟩ (c_mm3_00 hd) rfl rfl (Nat.le_of_ble_eq_true rfl) (fun r I1 J1 hp => ?_))
  obtain ⟨rfl, rfl, m0, m1, m2, hg⟩ := hp
  refine bX4_finishRing_84 (j89 := 0) (j95 := 0) rfl (by decide) rfl (by decide) (v_X4_99 dX4_finishRing_106 rfl ⟨rfl, rfl, Nat.le_of_ble_eq_true rfl, Nat.le_of_ble_eq_true rfl⟩ (c_tb3_00 hd) rfl rfl (Nat.le_of_ble_eq_true rfl) (fun r I2 J2 hp => ?_))
  obtain ⟨rfl, rfl, h8, hh⟩ := hp
  refine k J2 ?_ (fun q h1 h2 => (hh q h1 h2).trans ((hg q h2).trans (hf q h1 h2)))
  rw [h8, hg 8 (by decide), tl3_eq m0 m1 m2, hg 6 (by decide), hg 7 (by decide), hg 4 (by decide), hf 5 (by decide) (by decide), hf 6 (by decide) (by decide), hf 7 (by decide) (by decide), hf 4 (by decide) (by decide)]
  rfl
theorem fr3_01 (hd : I 4 0 = nI 3) {J0 Jc : sa_J} (hf : frB J0 Jc) (k : ∀ Jn, Jn 8 = vp_updL (vp_updL (vp_updL (Jc 8) 5 (cc3 J0 0 1).2.2) 4 (cc3 J0 0 1).2.1) 3 (cc3 J0 0 1).1 → frB J0 Jn → Sat (EC l D aI aL ad) M_X4_finishRing P 109 [(0, .ref (ad 4)), (1, .int (nI 0)), (2, .int (nI 1))] [] I Jn) : Sat (EC l D aI aL ad) M_X4_finishRing P 78 [(0, .ref (ad 4)), (1, .int (nI 0)), (2, .int (nI 1))] [] I Jc := by
  refine bX4_finishRing_78 (v_X4_95 dX4_finishRing_81 rfl ⟨rfl, rfl, Nat.le_of_ble_eq_true rfl, Nat.le_of_ble_eq_true rfl⟩ (c_mm3_01 hd) rfl rfl (Nat.le_of_ble_eq_true rfl) (fun r I1 J1 hp => ?_))
  obtain ⟨rfl, rfl, m0, m1, m2, hg⟩ := hp
  refine bX4_finishRing_84 (j89 := 0) (j95 := 1) rfl (by decide) rfl (by decide) (v_X4_99 dX4_finishRing_106 rfl ⟨rfl, rfl, Nat.le_of_ble_eq_true rfl, Nat.le_of_ble_eq_true rfl⟩ (c_tb3_01 hd) rfl rfl (Nat.le_of_ble_eq_true rfl) (fun r I2 J2 hp => ?_))
  obtain ⟨rfl, rfl, h8, hh⟩ := hp
  refine k J2 ?_ (fun q h1 h2 => (hh q h1 h2).trans ((hg q h2).trans (hf q h1 h2)))
  rw [h8, hg 8 (by decide), tl3_eq m0 m1 m2, hg 6 (by decide), hg 7 (by decide), hg 4 (by decide), hf 5 (by decide) (by decide), hf 6 (by decide) (by decide), hf 7 (by decide) (by decide), hf 4 (by decide) (by decide)]
  rfl
theorem fr3_02 (hd : I 4 0 = nI 3) {J0 Jc : sa_J} (hf : frB J0 Jc) (k : ∀ Jn, Jn 8 = vp_updL (vp_updL (vp_updL (Jc 8) 8 (cc3 J0 0 2).2.2) 7 (cc3 J0 0 2).2.1) 6 (cc3 J0 0 2).1 → frB J0 Jn → Sat (EC l D aI aL ad) M_X4_finishRing P 109 [(0, .ref (ad 4)), (1, .int (nI 0)), (2, .int (nI 2))] [] I Jn) : Sat (EC l D aI aL ad) M_X4_finishRing P 78 [(0, .ref (ad 4)), (1, .int (nI 0)), (2, .int (nI 2))] [] I Jc := by
  refine bX4_finishRing_78 (v_X4_95 dX4_finishRing_81 rfl ⟨rfl, rfl, Nat.le_of_ble_eq_true rfl, Nat.le_of_ble_eq_true rfl⟩ (c_mm3_02 hd) rfl rfl (Nat.le_of_ble_eq_true rfl) (fun r I1 J1 hp => ?_))
  obtain ⟨rfl, rfl, m0, m1, m2, hg⟩ := hp
  refine bX4_finishRing_84 (j89 := 0) (j95 := 2) rfl (by decide) rfl (by decide) (v_X4_99 dX4_finishRing_106 rfl ⟨rfl, rfl, Nat.le_of_ble_eq_true rfl, Nat.le_of_ble_eq_true rfl⟩ (c_tb3_02 hd) rfl rfl (Nat.le_of_ble_eq_true rfl) (fun r I2 J2 hp => ?_))
  obtain ⟨rfl, rfl, h8, hh⟩ := hp
  refine k J2 ?_ (fun q h1 h2 => (hh q h1 h2).trans ((hg q h2).trans (hf q h1 h2)))
  rw [h8, hg 8 (by decide), tl3_eq m0 m1 m2, hg 6 (by decide), hg 7 (by decide), hg 4 (by decide), hf 5 (by decide) (by decide), hf 6 (by decide) (by decide), hf 7 (by decide) (by decide), hf 4 (by decide) (by decide)]
  rfl
theorem fr3_10 (hd : I 4 0 = nI 3) {J0 Jc : sa_J} (hf : frB J0 Jc) (k : ∀ Jn, Jn 8 = vp_updL (vp_updL (vp_updL (Jc 8) 11 (cc3 J0 1 0).2.2) 10 (cc3 J0 1 0).2.1) 9 (cc3 J0 1 0).1 → frB J0 Jn → Sat (EC l D aI aL ad) M_X4_finishRing P 109 [(0, .ref (ad 4)), (1, .int (nI 1)), (2, .int (nI 0))] [] I Jn) : Sat (EC l D aI aL ad) M_X4_finishRing P 78 [(0, .ref (ad 4)), (1, .int (nI 1)), (2, .int (nI 0))] [] I Jc := by
  refine bX4_finishRing_78 (v_X4_95 dX4_finishRing_81 rfl ⟨rfl, rfl, Nat.le_of_ble_eq_true rfl, Nat.le_of_ble_eq_true rfl⟩ (c_mm3_10 hd) rfl rfl (Nat.le_of_ble_eq_true rfl) (fun r I1 J1 hp => ?_))
  obtain ⟨rfl, rfl, m0, m1, m2, hg⟩ := hp
  refine bX4_finishRing_84 (j89 := 1) (j95 := 0) rfl (by decide) rfl (by decide) (v_X4_99 dX4_finishRing_106 rfl ⟨rfl, rfl, Nat.le_of_ble_eq_true rfl, Nat.le_of_ble_eq_true rfl⟩ (c_tb3_10 hd) rfl rfl (Nat.le_of_ble_eq_true rfl) (fun r I2 J2 hp => ?_))
  obtain ⟨rfl, rfl, h8, hh⟩ := hp
  refine k J2 ?_ (fun q h1 h2 => (hh q h1 h2).trans ((hg q h2).trans (hf q h1 h2)))
  rw [h8, hg 8 (by decide), tl3_eq m0 m1 m2, hg 6 (by decide), hg 7 (by decide), hg 4 (by decide), hf 5 (by decide) (by decide), hf 6 (by decide) (by decide), hf 7 (by decide) (by decide), hf 4 (by decide) (by decide)]
  rfl
theorem fr3_11 (hd : I 4 0 = nI 3) {J0 Jc : sa_J} (hf : frB J0 Jc) (k : ∀ Jn, Jn 8 = vp_updL (vp_updL (vp_updL (Jc 8) 14 (cc3 J0 1 1).2.2) 13 (cc3 J0 1 1).2.1) 12 (cc3 J0 1 1).1 → frB J0 Jn → Sat (EC l D aI aL ad) M_X4_finishRing P 109 [(0, .ref (ad 4)), (1, .int (nI 1)), (2, .int (nI 1))] [] I Jn) : Sat (EC l D aI aL ad) M_X4_finishRing P 78 [(0, .ref (ad 4)), (1, .int (nI 1)), (2, .int (nI 1))] [] I Jc := by
  refine bX4_finishRing_78 (v_X4_95 dX4_finishRing_81 rfl ⟨rfl, rfl, Nat.le_of_ble_eq_true rfl, Nat.le_of_ble_eq_true rfl⟩ (c_mm3_11 hd) rfl rfl (Nat.le_of_ble_eq_true rfl) (fun r I1 J1 hp => ?_))
  obtain ⟨rfl, rfl, m0, m1, m2, hg⟩ := hp
  refine bX4_finishRing_84 (j89 := 1) (j95 := 1) rfl (by decide) rfl (by decide) (v_X4_99 dX4_finishRing_106 rfl ⟨rfl, rfl, Nat.le_of_ble_eq_true rfl, Nat.le_of_ble_eq_true rfl⟩ (c_tb3_11 hd) rfl rfl (Nat.le_of_ble_eq_true rfl) (fun r I2 J2 hp => ?_))
  obtain ⟨rfl, rfl, h8, hh⟩ := hp
  refine k J2 ?_ (fun q h1 h2 => (hh q h1 h2).trans ((hg q h2).trans (hf q h1 h2)))
  rw [h8, hg 8 (by decide), tl3_eq m0 m1 m2, hg 6 (by decide), hg 7 (by decide), hg 4 (by decide), hf 5 (by decide) (by decide), hf 6 (by decide) (by decide), hf 7 (by decide) (by decide), hf 4 (by decide) (by decide)]
  rfl
theorem fr3_12 (hd : I 4 0 = nI 3) {J0 Jc : sa_J} (hf : frB J0 Jc) (k : ∀ Jn, Jn 8 = vp_updL (vp_updL (vp_updL (Jc 8) 17 (cc3 J0 1 2).2.2) 16 (cc3 J0 1 2).2.1) 15 (cc3 J0 1 2).1 → frB J0 Jn → Sat (EC l D aI aL ad) M_X4_finishRing P 109 [(0, .ref (ad 4)), (1, .int (nI 1)), (2, .int (nI 2))] [] I Jn) : Sat (EC l D aI aL ad) M_X4_finishRing P 78 [(0, .ref (ad 4)), (1, .int (nI 1)), (2, .int (nI 2))] [] I Jc := by
  refine bX4_finishRing_78 (v_X4_95 dX4_finishRing_81 rfl ⟨rfl, rfl, Nat.le_of_ble_eq_true rfl, Nat.le_of_ble_eq_true rfl⟩ (c_mm3_12 hd) rfl rfl (Nat.le_of_ble_eq_true rfl) (fun r I1 J1 hp => ?_))
  obtain ⟨rfl, rfl, m0, m1, m2, hg⟩ := hp
  refine bX4_finishRing_84 (j89 := 1) (j95 := 2) rfl (by decide) rfl (by decide) (v_X4_99 dX4_finishRing_106 rfl ⟨rfl, rfl, Nat.le_of_ble_eq_true rfl, Nat.le_of_ble_eq_true rfl⟩ (c_tb3_12 hd) rfl rfl (Nat.le_of_ble_eq_true rfl) (fun r I2 J2 hp => ?_))
  obtain ⟨rfl, rfl, h8, hh⟩ := hp
  refine k J2 ?_ (fun q h1 h2 => (hh q h1 h2).trans ((hg q h2).trans (hf q h1 h2)))
  rw [h8, hg 8 (by decide), tl3_eq m0 m1 m2, hg 6 (by decide), hg 7 (by decide), hg 4 (by decide), hf 5 (by decide) (by decide), hf 6 (by decide) (by decide), hf 7 (by decide) (by decide), hf 4 (by decide) (by decide)]
  rfl
theorem fr3_20 (hd : I 4 0 = nI 3) {J0 Jc : sa_J} (hf : frB J0 Jc) (k : ∀ Jn, Jn 8 = vp_updL (vp_updL (vp_updL (Jc 8) 20 (cc3 J0 2 0).2.2) 19 (cc3 J0 2 0).2.1) 18 (cc3 J0 2 0).1 → frB J0 Jn → Sat (EC l D aI aL ad) M_X4_finishRing P 109 [(0, .ref (ad 4)), (1, .int (nI 2)), (2, .int (nI 0))] [] I Jn) : Sat (EC l D aI aL ad) M_X4_finishRing P 78 [(0, .ref (ad 4)), (1, .int (nI 2)), (2, .int (nI 0))] [] I Jc := by
  refine bX4_finishRing_78 (v_X4_95 dX4_finishRing_81 rfl ⟨rfl, rfl, Nat.le_of_ble_eq_true rfl, Nat.le_of_ble_eq_true rfl⟩ (c_mm3_20 hd) rfl rfl (Nat.le_of_ble_eq_true rfl) (fun r I1 J1 hp => ?_))
  obtain ⟨rfl, rfl, m0, m1, m2, hg⟩ := hp
  refine bX4_finishRing_84 (j89 := 2) (j95 := 0) rfl (by decide) rfl (by decide) (v_X4_99 dX4_finishRing_106 rfl ⟨rfl, rfl, Nat.le_of_ble_eq_true rfl, Nat.le_of_ble_eq_true rfl⟩ (c_tb3_20 hd) rfl rfl (Nat.le_of_ble_eq_true rfl) (fun r I2 J2 hp => ?_))
  obtain ⟨rfl, rfl, h8, hh⟩ := hp
  refine k J2 ?_ (fun q h1 h2 => (hh q h1 h2).trans ((hg q h2).trans (hf q h1 h2)))
  rw [h8, hg 8 (by decide), tl3_eq m0 m1 m2, hg 6 (by decide), hg 7 (by decide), hg 4 (by decide), hf 5 (by decide) (by decide), hf 6 (by decide) (by decide), hf 7 (by decide) (by decide), hf 4 (by decide) (by decide)]
  rfl
theorem fr3_21 (hd : I 4 0 = nI 3) {J0 Jc : sa_J} (hf : frB J0 Jc) (k : ∀ Jn, Jn 8 = vp_updL (vp_updL (vp_updL (Jc 8) 23 (cc3 J0 2 1).2.2) 22 (cc3 J0 2 1).2.1) 21 (cc3 J0 2 1).1 → frB J0 Jn → Sat (EC l D aI aL ad) M_X4_finishRing P 109 [(0, .ref (ad 4)), (1, .int (nI 2)), (2, .int (nI 1))] [] I Jn) : Sat (EC l D aI aL ad) M_X4_finishRing P 78 [(0, .ref (ad 4)), (1, .int (nI 2)), (2, .int (nI 1))] [] I Jc := by
  refine bX4_finishRing_78 (v_X4_95 dX4_finishRing_81 rfl ⟨rfl, rfl, Nat.le_of_ble_eq_true rfl, Nat.le_of_ble_eq_true rfl⟩ (c_mm3_21 hd) rfl rfl (Nat.le_of_ble_eq_true rfl) (fun r I1 J1 hp => ?_))
  obtain ⟨rfl, rfl, m0, m1, m2, hg⟩ := hp
  refine bX4_finishRing_84 (j89 := 2) (j95 := 1) rfl (by decide) rfl (by decide) (v_X4_99 dX4_finishRing_106 rfl ⟨rfl, rfl, Nat.le_of_ble_eq_true rfl, Nat.le_of_ble_eq_true rfl⟩ (c_tb3_21 hd) rfl rfl (Nat.le_of_ble_eq_true rfl) (fun r I2 J2 hp => ?_))
  obtain ⟨rfl, rfl, h8, hh⟩ := hp
  refine k J2 ?_ (fun q h1 h2 => (hh q h1 h2).trans ((hg q h2).trans (hf q h1 h2)))
  rw [h8, hg 8 (by decide), tl3_eq m0 m1 m2, hg 6 (by decide), hg 7 (by decide), hg 4 (by decide), hf 5 (by decide) (by decide), hf 6 (by decide) (by decide), hf 7 (by decide) (by decide), hf 4 (by decide) (by decide)]
  rfl
theorem fr3_22 (hd : I 4 0 = nI 3) {J0 Jc : sa_J} (hf : frB J0 Jc) (k : ∀ Jn, Jn 8 = vp_updL (vp_updL (vp_updL (Jc 8) 26 (cc3 J0 2 2).2.2) 25 (cc3 J0 2 2).2.1) 24 (cc3 J0 2 2).1 → frB J0 Jn → Sat (EC l D aI aL ad) M_X4_finishRing P 109 [(0, .ref (ad 4)), (1, .int (nI 2)), (2, .int (nI 2))] [] I Jn) : Sat (EC l D aI aL ad) M_X4_finishRing P 78 [(0, .ref (ad 4)), (1, .int (nI 2)), (2, .int (nI 2))] [] I Jc := by
  refine bX4_finishRing_78 (v_X4_95 dX4_finishRing_81 rfl ⟨rfl, rfl, Nat.le_of_ble_eq_true rfl, Nat.le_of_ble_eq_true rfl⟩ (c_mm3_22 hd) rfl rfl (Nat.le_of_ble_eq_true rfl) (fun r I1 J1 hp => ?_))
  obtain ⟨rfl, rfl, m0, m1, m2, hg⟩ := hp
  refine bX4_finishRing_84 (j89 := 2) (j95 := 2) rfl (by decide) rfl (by decide) (v_X4_99 dX4_finishRing_106 rfl ⟨rfl, rfl, Nat.le_of_ble_eq_true rfl, Nat.le_of_ble_eq_true rfl⟩ (c_tb3_22 hd) rfl rfl (Nat.le_of_ble_eq_true rfl) (fun r I2 J2 hp => ?_))
  obtain ⟨rfl, rfl, h8, hh⟩ := hp
  refine k J2 ?_ (fun q h1 h2 => (hh q h1 h2).trans ((hg q h2).trans (hf q h1 h2)))
  rw [h8, hg 8 (by decide), tl3_eq m0 m1 m2, hg 6 (by decide), hg 7 (by decide), hg 4 (by decide), hf 5 (by decide) (by decide), hf 6 (by decide) (by decide), hf 7 (by decide) (by decide), hf 4 (by decide) (by decide)]
  rfl
theorem fr_zero {J0 : sa_J} (k : ∀ Jn, (∀ j, j < 27 → Jn 8 j = 0) → (∀ q, q ≠ 8 → Jn q = J0 q) → Sat (EC l D aI aL ad) M_X4_finishRing P 58 [(0, .ref (ad 4))] [] I Jn) : ∀ (f i : Nat) (Jc : sa_J), i + f = 27 → (∀ j, j < i → Jc 8 j = 0) → (∀ q, q ≠ 8 → Jc q = J0 q) → Sat (EC l D aI aL ad) M_X4_finishRing P 39 [(0, .ref (ad 4)), (1, .int (nI i))] [] I Jc := by
  intro f
  induction f with
  | zero =>
    intro i Jc e h8 hf
    obtain rfl : i = 27 := by omega
    exact bX4_finishRing_39 (fun _ => k Jc h8 hf) (fun c => absurd (by decide) c)
  | succ f ih =>
    intro i Jc e h8 hf
    refine bX4_finishRing_39 (fun c => absurd c (nI_ge (b := 27) (by omega) (by decide))) (fun _ => ?_)
    refine bX4_finishRing_45 (v52 := nI (i + 1)) rfl (by omega) rfl (nI_1 i) (ih (i + 1) _ (by omega) (fun j hj => ?_) (fun q hq => ?_))
    · rcases (show j = i ∨ j < i by omega) with rfl | h
      · exact sa_uJ_at
      · rw [sa_uJ_off (by omega)]; exact h8 j h
    · rw [sa_uJ_ne hq]; exact hf q hq
def tb2 (J0 : sa_J) (j : Nat) : Int64 := match j with | 0 => (cc2 J0 0 0).1 | 1 => (cc2 J0 0 0).2 | 3 => (cc2 J0 0 1).1 | 4 => (cc2 J0 0 1).2 | 9 => (cc2 J0 1 0).1 | 10 => (cc2 J0 1 0).2 | 12 => (cc2 J0 1 1).1 | 13 => (cc2 J0 1 1).2 | _ => 0
theorem c_finishRing2 (hd : I 4 0 = nI 2) : Con (EC l D aI aL ad) M_X4_finishRing yX4_finishRing [.ref (ad 4)] I J (fun r I1 J1 => r = none ∧ I1 = I ∧ ∃ J0 : sa_J, J0 5 = J 5 ∧ J0 6 = J 6 ∧ J0 7 = J 7 ∧ J0 4 = vp_updL (vp_updL (J 4) 3 (J 7 1 * J 7 2)) 2 (pt (J 4 1) (J 7 1 * J 7 2 * (J 7 1 * J 7 2))) ∧ (∀ j, j < 27 → J1 8 j = tb2 J0 j) ∧ (∀ q, q ≠ 4 → q ≠ 8 → q ≠ 11 → J1 q = J q) ∧ J1 4 = vp_updL (vp_updL (J 4) 3 (J 7 1 * J 7 2)) 2 (pt (J 4 1) (J 7 1 * J 7 2 * (J 7 1 * J 7 2)))) := by
  refine Con.of (by decide +kernel) rfl (Nat.le_of_ble_eq_true rfl) ?_
  refine bX4_finishRing_0 rfl (v_X4_88 dX4_finishRing_31 rfl ⟨rfl, rfl, Nat.le_of_ble_eq_true rfl, Nat.le_of_ble_eq_true rfl⟩ c_partL rfl rfl (Nat.le_of_ble_eq_true rfl) (fun r I1 J1 hp => ?_))
  obtain ⟨rfl, rfl, rfl⟩ := hp
  refine bX4_finishRing_34 (v38 := nI 0) rfl (fr_zero (fun J0 z8 zf => ?_) 27 0 _ rfl (fun j hj => absurd hj (Nat.not_lt_zero j)) (fun _ _ => rfl))
  have hf : frB J0 J0 := fun _ _ _ => rfl
  refine bX4_finishRing_58 (v59 := nI 0) rfl ?_
  refine bX4_finishRing_60 (fun c => absurd c (by simp only [hd]; decide)) (fun _ => bX4_finishRing_68 (v69 := nI 0) rfl ?_)
  refine bX4_finishRing_70 (fun c => absurd c (by simp only [hd]; decide)) (fun _ => fr2_00 hd hf (fun J00 h00 f00 => bX4_finishRing_109 (v109 := nI 1) rfl ?_))
  refine bX4_finishRing_70 (fun c => absurd c (by simp only [hd]; decide)) (fun _ => fr2_01 hd f00 (fun J01 h01 f01 => bX4_finishRing_109 (v109 := nI 2) rfl ?_))
  refine bX4_finishRing_70 (fun _ => bX4_finishRing_115 (v115 := nI 1) rfl ?_) (fun c => absurd (by simp only [hd]; decide) c)
  refine bX4_finishRing_60 (fun c => absurd c (by simp only [hd]; decide)) (fun _ => bX4_finishRing_68 (v69 := nI 0) rfl ?_)
  refine bX4_finishRing_70 (fun c => absurd c (by simp only [hd]; decide)) (fun _ => fr2_10 hd f01 (fun J10 h10 f10 => bX4_finishRing_109 (v109 := nI 1) rfl ?_))
  refine bX4_finishRing_70 (fun c => absurd c (by simp only [hd]; decide)) (fun _ => fr2_11 hd f10 (fun J11 h11 f11 => bX4_finishRing_109 (v109 := nI 2) rfl ?_))
  refine bX4_finishRing_70 (fun _ => bX4_finishRing_115 (v115 := nI 2) rfl ?_) (fun c => absurd (by simp only [hd]; decide) c)
  refine bX4_finishRing_60 (fun _ => bX4_finishRing_121 ?_) (fun c => absurd (by simp only [hd]; decide) c)
  have z5 : J0 5 = J 5 := zf 5 (by decide)
  have z6 : J0 6 = J 6 := zf 6 (by decide)
  have z7 : J0 7 = J 7 := zf 7 (by decide)
  have z4 : J0 4 = vp_updL (vp_updL (J 4) 3 (J 7 1 * J 7 2)) 2 (pt (J 4 1) (J 7 1 * J 7 2 * (J 7 1 * J 7 2))) := zf 4 (by decide)
  refine ⟨rfl, rfl, J0, z5, z6, z7, z4, ?_, fun q a1 a2 a3 => (f11 q a2 a3).trans ((zf q a2).trans (by rw [sa_uJ_ne a1, sa_uJ_ne a1])), (f11 4 (by decide) (by decide)).trans z4⟩
  intro j hj
  rw [h11, h10, h01, h00]
  rcases (show j = 0 ∨ j = 1 ∨ j = 2 ∨ j = 3 ∨ j = 4 ∨ j = 5 ∨ j = 6 ∨ j = 7 ∨ j = 8 ∨ j = 9 ∨ j = 10 ∨ j = 11 ∨ j = 12 ∨ j = 13 ∨ j = 14 ∨ j = 15 ∨ j = 16 ∨ j = 17 ∨ j = 18 ∨ j = 19 ∨ j = 20 ∨ j = 21 ∨ j = 22 ∨ j = 23 ∨ j = 24 ∨ j = 25 ∨ j = 26 by omega) with rfl | rfl | rfl | rfl | rfl | rfl | rfl | rfl | rfl | rfl | rfl | rfl | rfl | rfl | rfl | rfl | rfl | rfl | rfl | rfl | rfl | rfl | rfl | rfl | rfl | rfl | rfl <;> first | rfl | exact z8 _ (by decide)
def tb3 (J0 : sa_J) (j : Nat) : Int64 := match j with | 0 => (cc3 J0 0 0).1 | 1 => (cc3 J0 0 0).2.1 | 2 => (cc3 J0 0 0).2.2 | 3 => (cc3 J0 0 1).1 | 4 => (cc3 J0 0 1).2.1 | 5 => (cc3 J0 0 1).2.2 | 6 => (cc3 J0 0 2).1 | 7 => (cc3 J0 0 2).2.1 | 8 => (cc3 J0 0 2).2.2 | 9 => (cc3 J0 1 0).1 | 10 => (cc3 J0 1 0).2.1 | 11 => (cc3 J0 1 0).2.2 | 12 => (cc3 J0 1 1).1 | 13 => (cc3 J0 1 1).2.1 | 14 => (cc3 J0 1 1).2.2 | 15 => (cc3 J0 1 2).1 | 16 => (cc3 J0 1 2).2.1 | 17 => (cc3 J0 1 2).2.2 | 18 => (cc3 J0 2 0).1 | 19 => (cc3 J0 2 0).2.1 | 20 => (cc3 J0 2 0).2.2 | 21 => (cc3 J0 2 1).1 | 22 => (cc3 J0 2 1).2.1 | 23 => (cc3 J0 2 1).2.2 | 24 => (cc3 J0 2 2).1 | 25 => (cc3 J0 2 2).2.1 | 26 => (cc3 J0 2 2).2.2 | _ => 0
theorem c_finishRing3 (hd : I 4 0 = nI 3) : Con (EC l D aI aL ad) M_X4_finishRing yX4_finishRing [.ref (ad 4)] I J (fun r I1 J1 => r = none ∧ I1 = I ∧ ∃ J0 : sa_J, J0 5 = J 5 ∧ J0 6 = J 6 ∧ J0 7 = J 7 ∧ J0 4 = vp_updL (vp_updL (J 4) 3 (J 7 1 * J 7 2)) 2 (pt (J 4 1) (J 7 1 * J 7 2 * (J 7 1 * J 7 2))) ∧ (∀ j, j < 27 → J1 8 j = tb3 J0 j) ∧ (∀ q, q ≠ 4 → q ≠ 8 → q ≠ 11 → J1 q = J q) ∧ J1 4 = vp_updL (vp_updL (J 4) 3 (J 7 1 * J 7 2)) 2 (pt (J 4 1) (J 7 1 * J 7 2 * (J 7 1 * J 7 2)))) := by
  refine Con.of (by decide +kernel) rfl (Nat.le_of_ble_eq_true rfl) ?_
  refine bX4_finishRing_0 rfl (v_X4_88 dX4_finishRing_31 rfl ⟨rfl, rfl, Nat.le_of_ble_eq_true rfl, Nat.le_of_ble_eq_true rfl⟩ c_partL rfl rfl (Nat.le_of_ble_eq_true rfl) (fun r I1 J1 hp => ?_))
  obtain ⟨rfl, rfl, rfl⟩ := hp
  refine bX4_finishRing_34 (v38 := nI 0) rfl (fr_zero (fun J0 z8 zf => ?_) 27 0 _ rfl (fun j hj => absurd hj (Nat.not_lt_zero j)) (fun _ _ => rfl))
  have hf : frB J0 J0 := fun _ _ _ => rfl
  refine bX4_finishRing_58 (v59 := nI 0) rfl ?_
  refine bX4_finishRing_60 (fun c => absurd c (by simp only [hd]; decide)) (fun _ => bX4_finishRing_68 (v69 := nI 0) rfl ?_)
  refine bX4_finishRing_70 (fun c => absurd c (by simp only [hd]; decide)) (fun _ => fr3_00 hd hf (fun J00 h00 f00 => bX4_finishRing_109 (v109 := nI 1) rfl ?_))
  refine bX4_finishRing_70 (fun c => absurd c (by simp only [hd]; decide)) (fun _ => fr3_01 hd f00 (fun J01 h01 f01 => bX4_finishRing_109 (v109 := nI 2) rfl ?_))
  refine bX4_finishRing_70 (fun c => absurd c (by simp only [hd]; decide)) (fun _ => fr3_02 hd f01 (fun J02 h02 f02 => bX4_finishRing_109 (v109 := nI 3) rfl ?_))
  refine bX4_finishRing_70 (fun _ => bX4_finishRing_115 (v115 := nI 1) rfl ?_) (fun c => absurd (by simp only [hd]; decide) c)
  refine bX4_finishRing_60 (fun c => absurd c (by simp only [hd]; decide)) (fun _ => bX4_finishRing_68 (v69 := nI 0) rfl ?_)
  refine bX4_finishRing_70 (fun c => absurd c (by simp only [hd]; decide)) (fun _ => fr3_10 hd f02 (fun J10 h10 f10 => bX4_finishRing_109 (v109 := nI 1) rfl ?_))
  refine bX4_finishRing_70 (fun c => absurd c (by simp only [hd]; decide)) (fun _ => fr3_11 hd f10 (fun J11 h11 f11 => bX4_finishRing_109 (v109 := nI 2) rfl ?_))
  refine bX4_finishRing_70 (fun c => absurd c (by simp only [hd]; decide)) (fun _ => fr3_12 hd f11 (fun J12 h12 f12 => bX4_finishRing_109 (v109 := nI 3) rfl ?_))
  refine bX4_finishRing_70 (fun _ => bX4_finishRing_115 (v115 := nI 2) rfl ?_) (fun c => absurd (by simp only [hd]; decide) c)
  refine bX4_finishRing_60 (fun c => absurd c (by simp only [hd]; decide)) (fun _ => bX4_finishRing_68 (v69 := nI 0) rfl ?_)
  refine bX4_finishRing_70 (fun c => absurd c (by simp only [hd]; decide)) (fun _ => fr3_20 hd f12 (fun J20 h20 f20 => bX4_finishRing_109 (v109 := nI 1) rfl ?_))
  refine bX4_finishRing_70 (fun c => absurd c (by simp only [hd]; decide)) (fun _ => fr3_21 hd f20 (fun J21 h21 f21 => bX4_finishRing_109 (v109 := nI 2) rfl ?_))
  refine bX4_finishRing_70 (fun c => absurd c (by simp only [hd]; decide)) (fun _ => fr3_22 hd f21 (fun J22 h22 f22 => bX4_finishRing_109 (v109 := nI 3) rfl ?_))
  refine bX4_finishRing_70 (fun _ => bX4_finishRing_115 (v115 := nI 3) rfl ?_) (fun c => absurd (by simp only [hd]; decide) c)
  refine bX4_finishRing_60 (fun _ => bX4_finishRing_121 ?_) (fun c => absurd (by simp only [hd]; decide) c)
  have z5 : J0 5 = J 5 := zf 5 (by decide)
  have z6 : J0 6 = J 6 := zf 6 (by decide)
  have z7 : J0 7 = J 7 := zf 7 (by decide)
  have z4 : J0 4 = vp_updL (vp_updL (J 4) 3 (J 7 1 * J 7 2)) 2 (pt (J 4 1) (J 7 1 * J 7 2 * (J 7 1 * J 7 2))) := zf 4 (by decide)
  refine ⟨rfl, rfl, J0, z5, z6, z7, z4, ?_, fun q a1 a2 a3 => (f22 q a2 a3).trans ((zf q a2).trans (by rw [sa_uJ_ne a1, sa_uJ_ne a1])), (f22 4 (by decide) (by decide)).trans z4⟩
  intro j hj
  rw [h22, h21, h20, h12, h11, h10, h02, h01, h00]
  rcases (show j = 0 ∨ j = 1 ∨ j = 2 ∨ j = 3 ∨ j = 4 ∨ j = 5 ∨ j = 6 ∨ j = 7 ∨ j = 8 ∨ j = 9 ∨ j = 10 ∨ j = 11 ∨ j = 12 ∨ j = 13 ∨ j = 14 ∨ j = 15 ∨ j = 16 ∨ j = 17 ∨ j = 18 ∨ j = 19 ∨ j = 20 ∨ j = 21 ∨ j = 22 ∨ j = 23 ∨ j = 24 ∨ j = 25 ∨ j = 26 by omega) with rfl | rfl | rfl | rfl | rfl | rfl | rfl | rfl | rfl | rfl | rfl | rfl | rfl | rfl | rfl | rfl | rfl | rfl | rfl | rfl | rfl | rfl | rfl | rfl | rfl | rfl | rfl <;> first | rfl | exact z8 _ (by decide)
end FR
