/-- floorMod of longs, the second above 0 -/
def fm (a b : Int64) : Int64 := lI (a.toInt % b.toInt)
theorem c_fm {E : sa_E} {I : sa_I} {J : sa_J} {a b : Int64} (hb : 0 < b.toInt) : Con E M_J9_floorMod_f86c9 yJ9_floorMod_f86c9 [.long a, .long b] I J (p_l (fm a b) I J) := by
  have h := c_floorMod (E := E) (I := I) (J := J) (rg_toInt a) (rg_toInt b) hb
  rw [show lI a.toInt = a from Int64.ofInt_toInt a, show lI b.toInt = b from Int64.ofInt_toInt b] at h
  exact h
def pw2 (i : Nat) (x : Nat → Int64) : Nat → Int64 := fun t => if t = i then x 0 else if t = i + 1 then x 1 else 0
def pw3 (i : Nat) (x : Nat → Int64) : Nat → Int64 := fun t => if t = i then x 0 else if t = i + 1 then x 1 else if t = i + 2 then x 2 else 0
section RW7
variable {l : Launch} {D : va_G} {aI aL : ClassId} {ad : Nat → Nat} {P : sa_P} {I : sa_I} {J : sa_J}
theorem w7_pre2 (hn : I 0 1 = nI 2) (hq : 0 < (J 7 3).toInt) (k : ∀ Jm : sa_J, Jm 9 0 = (lo2 (I 0 2).toInt64 (I 0 3).toInt64 (pw2 0 (fun j => fm (J 7 j) (J 7 3)))).1 → Jm 9 1 = (lo2 (I 0 2).toInt64 (I 0 3).toInt64 (pw2 0 (fun j => fm (J 7 j) (J 7 3)))).2 → Jm 9 3 = (lo2 (I 0 2).toInt64 (I 0 3).toInt64 (pw2 1 (fun j => fm (J 7 j) (J 7 3)))).1 → Jm 9 4 = (lo2 (I 0 2).toInt64 (I 0 3).toInt64 (pw2 1 (fun j => fm (J 7 j) (J 7 3)))).2 → (∀ q, q ≠ 8 → q ≠ 9 → Jm q = J q) → Sat (ER l D aI aL ad) M_X7_isWhole P 124 [(0, .ref (ad 0)), (1, .long (J 7 3))] [] I Jm) : Sat (ER l D aI aL ad) M_X7_isWhole P 0 [(0, .ref (ad 0))] [] I J := by
  refine bX7_isWhole_0 (v8 := nI 0) rfl rfl ?_
  refine bX7_isWhole_9  (fun c => absurd c (by simp only [hn]; decide)) (fun _ => ?_)
  refine bX7_isWhole_17 (v18 := nI 0) rfl ?_
  refine bX7_isWhole_20  (fun c => absurd c (by decide)) (fun _ => ?_)
  refine bX7_isWhole_26 (j30 := 0) (v34 := nI 1) rfl (by decide) rfl rfl ?_
  refine bX7_isWhole_20  (fun c => absurd c (by decide)) (fun _ => ?_)
  refine bX7_isWhole_26 (j30 := 1) (v34 := nI 2) rfl (by decide) rfl rfl ?_
  refine bX7_isWhole_20  (fun c => absurd c (by decide)) (fun _ => ?_)
  refine bX7_isWhole_26 (j30 := 2) (v34 := nI 3) rfl (by decide) rfl rfl ?_
  refine bX7_isWhole_20  (fun c => absurd c (by decide)) (fun _ => ?_)
  refine bX7_isWhole_26 (j30 := 3) (v34 := nI 4) rfl (by decide) rfl rfl ?_
  refine bX7_isWhole_20  (fun c => absurd c (by decide)) (fun _ => ?_)
  refine bX7_isWhole_26 (j30 := 4) (v34 := nI 5) rfl (by decide) rfl rfl ?_
  refine bX7_isWhole_20  (fun _ => ?_) (fun c => absurd c (by decide))
  refine bX7_isWhole_40 (v41 := nI 0) rfl ?_
  refine bX7_isWhole_43  (fun c => absurd c (by simp only [hn]; decide)) (fun _ => ?_)
  refine bX7_isWhole_52 (j64 := 0) rfl (by decide) ?_
  refine v_X7_155 dX7_isWhole_68 rfl ⟨rfl, rfl, Nat.le_of_ble_eq_true rfl, Nat.le_of_ble_eq_true rfl⟩ (c_fm hq) rfl rfl (Nat.le_of_ble_eq_true rfl) (fun r I1 J1 hp => ?_)
  obtain ⟨rfl, rfl, rfl⟩ := hp
  refine bX7_isWhole_71 (s1 := 0) (v72 := nI 1) (by decide) rfl ?_
  refine bX7_isWhole_43  (fun c => absurd c (by simp only [hn]; decide)) (fun _ => ?_)
  refine bX7_isWhole_52 (j64 := 1) rfl (by decide) ?_
  refine v_X7_155 dX7_isWhole_68 rfl ⟨rfl, rfl, Nat.le_of_ble_eq_true rfl, Nat.le_of_ble_eq_true rfl⟩ (c_fm hq) rfl rfl (Nat.le_of_ble_eq_true rfl) (fun r I1 J1 hp => ?_)
  obtain ⟨rfl, rfl, rfl⟩ := hp
  refine bX7_isWhole_71 (s1 := 1) (v72 := nI 2) (by decide) rfl ?_
  refine bX7_isWhole_43  (fun _ => ?_) (fun c => absurd c (by simp only [hn]; decide))
  refine bX7_isWhole_78  ?_
  refine v_X7_186 dX7_isWhole_79 rfl ⟨rfl, rfl, Nat.le_of_ble_eq_true rfl, Nat.le_of_ble_eq_true rfl⟩ (c_lower2 hn) rfl rfl (Nat.le_of_ble_eq_true rfl) (fun r I1 Ja0 hp => ?_)
  obtain ⟨rfl, rfl, a00, a01, g0⟩ := hp
  refine bX7_isWhole_82 (v83 := nI 0) rfl ?_
  refine bX7_isWhole_85  (fun c => absurd c (by simp only [hn]; decide)) (fun _ => ?_)
  refine bX7_isWhole_94 (j103 := 0) (j108 := 0) (v112 := nI 1) rfl rfl (by decide) (by decide) rfl rfl ?_
  refine bX7_isWhole_85  (fun c => absurd c (by simp only [hn]; decide)) (fun _ => ?_)
  refine bX7_isWhole_94 (j103 := 1) (j108 := 1) (v112 := nI 2) rfl rfl (by decide) (by decide) rfl rfl ?_
  refine bX7_isWhole_85  (fun _ => ?_) (fun c => absurd c (by simp only [hn]; decide))
  refine bX7_isWhole_118 (v118 := nI 1) rfl ?_
  refine bX7_isWhole_9  (fun c => absurd c (by simp only [hn]; decide)) (fun _ => ?_)
  refine bX7_isWhole_17 (v18 := nI 0) rfl ?_
  refine bX7_isWhole_20  (fun c => absurd c (by decide)) (fun _ => ?_)
  refine bX7_isWhole_26 (j30 := 0) (v34 := nI 1) rfl (by decide) rfl rfl ?_
  refine bX7_isWhole_20  (fun c => absurd c (by decide)) (fun _ => ?_)
  refine bX7_isWhole_26 (j30 := 1) (v34 := nI 2) rfl (by decide) rfl rfl ?_
  refine bX7_isWhole_20  (fun c => absurd c (by decide)) (fun _ => ?_)
  refine bX7_isWhole_26 (j30 := 2) (v34 := nI 3) rfl (by decide) rfl rfl ?_
  refine bX7_isWhole_20  (fun c => absurd c (by decide)) (fun _ => ?_)
  refine bX7_isWhole_26 (j30 := 3) (v34 := nI 4) rfl (by decide) rfl rfl ?_
  refine bX7_isWhole_20  (fun c => absurd c (by decide)) (fun _ => ?_)
  refine bX7_isWhole_26 (j30 := 4) (v34 := nI 5) rfl (by decide) rfl rfl ?_
  refine bX7_isWhole_20  (fun _ => ?_) (fun c => absurd c (by decide))
  refine bX7_isWhole_40 (v41 := nI 0) rfl ?_
  refine bX7_isWhole_43  (fun c => absurd c (by simp only [hn]; decide)) (fun _ => ?_)
  refine bX7_isWhole_52 (j64 := 0) rfl (by decide) ?_
  refine v_X7_155 dX7_isWhole_68 rfl ⟨rfl, rfl, Nat.le_of_ble_eq_true rfl, Nat.le_of_ble_eq_true rfl⟩ (c_fm hq) rfl rfl (Nat.le_of_ble_eq_true rfl) (fun r I1 J1 hp => ?_)
  obtain ⟨rfl, rfl, rfl⟩ := hp
  refine bX7_isWhole_71 (s1 := 1) (v72 := nI 1) (by decide) rfl ?_
  refine bX7_isWhole_43  (fun c => absurd c (by simp only [hn]; decide)) (fun _ => ?_)
  refine bX7_isWhole_52 (j64 := 1) rfl (by decide) ?_
  refine v_X7_155 dX7_isWhole_68 rfl ⟨rfl, rfl, Nat.le_of_ble_eq_true rfl, Nat.le_of_ble_eq_true rfl⟩ (c_fm hq) rfl rfl (Nat.le_of_ble_eq_true rfl) (fun r I1 J1 hp => ?_)
  obtain ⟨rfl, rfl, rfl⟩ := hp
  refine bX7_isWhole_71 (s1 := 2) (v72 := nI 2) (by decide) rfl ?_
  refine bX7_isWhole_43  (fun _ => ?_) (fun c => absurd c (by simp only [hn]; decide))
  refine bX7_isWhole_78  ?_
  refine v_X7_186 dX7_isWhole_79 rfl ⟨rfl, rfl, Nat.le_of_ble_eq_true rfl, Nat.le_of_ble_eq_true rfl⟩ (c_lower2 hn) rfl rfl (Nat.le_of_ble_eq_true rfl) (fun r I1 Ja1 hp => ?_)
  obtain ⟨rfl, rfl, a10, a11, g1⟩ := hp
  refine bX7_isWhole_82 (v83 := nI 0) rfl ?_
  refine bX7_isWhole_85  (fun c => absurd c (by simp only [hn]; decide)) (fun _ => ?_)
  refine bX7_isWhole_94 (j103 := 3) (j108 := 0) (v112 := nI 1) rfl rfl (by decide) (by decide) rfl rfl ?_
  refine bX7_isWhole_85  (fun c => absurd c (by simp only [hn]; decide)) (fun _ => ?_)
  refine bX7_isWhole_94 (j103 := 4) (j108 := 1) (v112 := nI 2) rfl rfl (by decide) (by decide) rfl rfl ?_
  refine bX7_isWhole_85  (fun _ => ?_) (fun c => absurd c (by simp only [hn]; decide))
  refine bX7_isWhole_118 (v118 := nI 2) rfl ?_
  refine bX7_isWhole_9  (fun _ => ?_) (fun c => absurd c (by simp only [hn]; decide))
  have z0 : J 7 = J 7 := rfl
  have z1 : Ja0 7 = J 7 := g0 7 (by decide)
  refine k _ ?_ ?_ ?_ ?_ ?_
  · exact (congrFun (g1 9 (by decide)) 0).trans (a00)
  · exact (congrFun (g1 9 (by decide)) 1).trans (a01)
  · exact (show _ = (lo2 _ _ (pw2 1 (fun j => fm (Ja0 7 j) (J 7 3)))).1 from a10).trans (by rw [z1])
  · exact (show _ = (lo2 _ _ (pw2 1 (fun j => fm (Ja0 7 j) (J 7 3)))).2 from a11).trans (by rw [z1])
  · intro q h8 h9
    simp only [sa_uJ_ne h8, sa_uJ_ne h9, g1 q h8, g0 q h8]
theorem w7_pre3 (hn : I 0 1 = nI 3) (hq : 0 < (J 7 3).toInt) (k : ∀ Jm : sa_J, Jm 9 0 = (lo3 (I 0 2).toInt64 (I 0 3).toInt64 (I 0 4).toInt64 (pw3 0 (fun j => fm (J 7 j) (J 7 3)))).1 → Jm 9 1 = (lo3 (I 0 2).toInt64 (I 0 3).toInt64 (I 0 4).toInt64 (pw3 0 (fun j => fm (J 7 j) (J 7 3)))).2.1 → Jm 9 2 = (lo3 (I 0 2).toInt64 (I 0 3).toInt64 (I 0 4).toInt64 (pw3 0 (fun j => fm (J 7 j) (J 7 3)))).2.2 → Jm 9 3 = (lo3 (I 0 2).toInt64 (I 0 3).toInt64 (I 0 4).toInt64 (pw3 1 (fun j => fm (J 7 j) (J 7 3)))).1 → Jm 9 4 = (lo3 (I 0 2).toInt64 (I 0 3).toInt64 (I 0 4).toInt64 (pw3 1 (fun j => fm (J 7 j) (J 7 3)))).2.1 → Jm 9 5 = (lo3 (I 0 2).toInt64 (I 0 3).toInt64 (I 0 4).toInt64 (pw3 1 (fun j => fm (J 7 j) (J 7 3)))).2.2 → Jm 9 6 = (lo3 (I 0 2).toInt64 (I 0 3).toInt64 (I 0 4).toInt64 (pw3 2 (fun j => fm (J 7 j) (J 7 3)))).1 → Jm 9 7 = (lo3 (I 0 2).toInt64 (I 0 3).toInt64 (I 0 4).toInt64 (pw3 2 (fun j => fm (J 7 j) (J 7 3)))).2.1 → Jm 9 8 = (lo3 (I 0 2).toInt64 (I 0 3).toInt64 (I 0 4).toInt64 (pw3 2 (fun j => fm (J 7 j) (J 7 3)))).2.2 → (∀ q, q ≠ 8 → q ≠ 9 → Jm q = J q) → Sat (ER l D aI aL ad) M_X7_isWhole P 124 [(0, .ref (ad 0)), (1, .long (J 7 3))] [] I Jm) : Sat (ER l D aI aL ad) M_X7_isWhole P 0 [(0, .ref (ad 0))] [] I J := by
  refine bX7_isWhole_0 (v8 := nI 0) rfl rfl ?_
  refine bX7_isWhole_9  (fun c => absurd c (by simp only [hn]; decide)) (fun _ => ?_)
  refine bX7_isWhole_17 (v18 := nI 0) rfl ?_
  refine bX7_isWhole_20  (fun c => absurd c (by decide)) (fun _ => ?_)
  refine bX7_isWhole_26 (j30 := 0) (v34 := nI 1) rfl (by decide) rfl rfl ?_
  refine bX7_isWhole_20  (fun c => absurd c (by decide)) (fun _ => ?_)
  refine bX7_isWhole_26 (j30 := 1) (v34 := nI 2) rfl (by decide) rfl rfl ?_
  refine bX7_isWhole_20  (fun c => absurd c (by decide)) (fun _ => ?_)
  refine bX7_isWhole_26 (j30 := 2) (v34 := nI 3) rfl (by decide) rfl rfl ?_
  refine bX7_isWhole_20  (fun c => absurd c (by decide)) (fun _ => ?_)
  refine bX7_isWhole_26 (j30 := 3) (v34 := nI 4) rfl (by decide) rfl rfl ?_
  refine bX7_isWhole_20  (fun c => absurd c (by decide)) (fun _ => ?_)
  refine bX7_isWhole_26 (j30 := 4) (v34 := nI 5) rfl (by decide) rfl rfl ?_
  refine bX7_isWhole_20  (fun _ => ?_) (fun c => absurd c (by decide))
  refine bX7_isWhole_40 (v41 := nI 0) rfl ?_
  refine bX7_isWhole_43  (fun c => absurd c (by simp only [hn]; decide)) (fun _ => ?_)
  refine bX7_isWhole_52 (j64 := 0) rfl (by decide) ?_
  refine v_X7_155 dX7_isWhole_68 rfl ⟨rfl, rfl, Nat.le_of_ble_eq_true rfl, Nat.le_of_ble_eq_true rfl⟩ (c_fm hq) rfl rfl (Nat.le_of_ble_eq_true rfl) (fun r I1 J1 hp => ?_)
  obtain ⟨rfl, rfl, rfl⟩ := hp
  refine bX7_isWhole_71 (s1 := 0) (v72 := nI 1) (by decide) rfl ?_
  refine bX7_isWhole_43  (fun c => absurd c (by simp only [hn]; decide)) (fun _ => ?_)
  refine bX7_isWhole_52 (j64 := 1) rfl (by decide) ?_
  refine v_X7_155 dX7_isWhole_68 rfl ⟨rfl, rfl, Nat.le_of_ble_eq_true rfl, Nat.le_of_ble_eq_true rfl⟩ (c_fm hq) rfl rfl (Nat.le_of_ble_eq_true rfl) (fun r I1 J1 hp => ?_)
  obtain ⟨rfl, rfl, rfl⟩ := hp
  refine bX7_isWhole_71 (s1 := 1) (v72 := nI 2) (by decide) rfl ?_
  refine bX7_isWhole_43  (fun c => absurd c (by simp only [hn]; decide)) (fun _ => ?_)
  refine bX7_isWhole_52 (j64 := 2) rfl (by decide) ?_
  refine v_X7_155 dX7_isWhole_68 rfl ⟨rfl, rfl, Nat.le_of_ble_eq_true rfl, Nat.le_of_ble_eq_true rfl⟩ (c_fm hq) rfl rfl (Nat.le_of_ble_eq_true rfl) (fun r I1 J1 hp => ?_)
  obtain ⟨rfl, rfl, rfl⟩ := hp
  refine bX7_isWhole_71 (s1 := 2) (v72 := nI 3) (by decide) rfl ?_
  refine bX7_isWhole_43  (fun _ => ?_) (fun c => absurd c (by simp only [hn]; decide))
  refine bX7_isWhole_78  ?_
  refine v_X7_186 dX7_isWhole_79 rfl ⟨rfl, rfl, Nat.le_of_ble_eq_true rfl, Nat.le_of_ble_eq_true rfl⟩ (c_lower3 hn) rfl rfl (Nat.le_of_ble_eq_true rfl) (fun r I1 Ja0 hp => ?_)
  obtain ⟨rfl, rfl, a00, a01, a02, g0⟩ := hp
  refine bX7_isWhole_82 (v83 := nI 0) rfl ?_
  refine bX7_isWhole_85  (fun c => absurd c (by simp only [hn]; decide)) (fun _ => ?_)
  refine bX7_isWhole_94 (j103 := 0) (j108 := 0) (v112 := nI 1) rfl rfl (by decide) (by decide) rfl rfl ?_
  refine bX7_isWhole_85  (fun c => absurd c (by simp only [hn]; decide)) (fun _ => ?_)
  refine bX7_isWhole_94 (j103 := 1) (j108 := 1) (v112 := nI 2) rfl rfl (by decide) (by decide) rfl rfl ?_
  refine bX7_isWhole_85  (fun c => absurd c (by simp only [hn]; decide)) (fun _ => ?_)
  refine bX7_isWhole_94 (j103 := 2) (j108 := 2) (v112 := nI 3) rfl rfl (by decide) (by decide) rfl rfl ?_
  refine bX7_isWhole_85  (fun _ => ?_) (fun c => absurd c (by simp only [hn]; decide))
  refine bX7_isWhole_118 (v118 := nI 1) rfl ?_
  refine bX7_isWhole_9  (fun c => absurd c (by simp only [hn]; decide)) (fun _ => ?_)
  refine bX7_isWhole_17 (v18 := nI 0) rfl ?_
  refine bX7_isWhole_20  (fun c => absurd c (by decide)) (fun _ => ?_)
  refine bX7_isWhole_26 (j30 := 0) (v34 := nI 1) rfl (by decide) rfl rfl ?_
  refine bX7_isWhole_20  (fun c => absurd c (by decide)) (fun _ => ?_)
  refine bX7_isWhole_26 (j30 := 1) (v34 := nI 2) rfl (by decide) rfl rfl ?_
  refine bX7_isWhole_20  (fun c => absurd c (by decide)) (fun _ => ?_)
  refine bX7_isWhole_26 (j30 := 2) (v34 := nI 3) rfl (by decide) rfl rfl ?_
  refine bX7_isWhole_20  (fun c => absurd c (by decide)) (fun _ => ?_)
  refine bX7_isWhole_26 (j30 := 3) (v34 := nI 4) rfl (by decide) rfl rfl ?_
  refine bX7_isWhole_20  (fun c => absurd c (by decide)) (fun _ => ?_)
  refine bX7_isWhole_26 (j30 := 4) (v34 := nI 5) rfl (by decide) rfl rfl ?_
  refine bX7_isWhole_20  (fun _ => ?_) (fun c => absurd c (by decide))
  refine bX7_isWhole_40 (v41 := nI 0) rfl ?_
  refine bX7_isWhole_43  (fun c => absurd c (by simp only [hn]; decide)) (fun _ => ?_)
  refine bX7_isWhole_52 (j64 := 0) rfl (by decide) ?_
  refine v_X7_155 dX7_isWhole_68 rfl ⟨rfl, rfl, Nat.le_of_ble_eq_true rfl, Nat.le_of_ble_eq_true rfl⟩ (c_fm hq) rfl rfl (Nat.le_of_ble_eq_true rfl) (fun r I1 J1 hp => ?_)
  obtain ⟨rfl, rfl, rfl⟩ := hp
  refine bX7_isWhole_71 (s1 := 1) (v72 := nI 1) (by decide) rfl ?_
  refine bX7_isWhole_43  (fun c => absurd c (by simp only [hn]; decide)) (fun _ => ?_)
  refine bX7_isWhole_52 (j64 := 1) rfl (by decide) ?_
  refine v_X7_155 dX7_isWhole_68 rfl ⟨rfl, rfl, Nat.le_of_ble_eq_true rfl, Nat.le_of_ble_eq_true rfl⟩ (c_fm hq) rfl rfl (Nat.le_of_ble_eq_true rfl) (fun r I1 J1 hp => ?_)
  obtain ⟨rfl, rfl, rfl⟩ := hp
  refine bX7_isWhole_71 (s1 := 2) (v72 := nI 2) (by decide) rfl ?_
  refine bX7_isWhole_43  (fun c => absurd c (by simp only [hn]; decide)) (fun _ => ?_)
  refine bX7_isWhole_52 (j64 := 2) rfl (by decide) ?_
  refine v_X7_155 dX7_isWhole_68 rfl ⟨rfl, rfl, Nat.le_of_ble_eq_true rfl, Nat.le_of_ble_eq_true rfl⟩ (c_fm hq) rfl rfl (Nat.le_of_ble_eq_true rfl) (fun r I1 J1 hp => ?_)
  obtain ⟨rfl, rfl, rfl⟩ := hp
  refine bX7_isWhole_71 (s1 := 3) (v72 := nI 3) (by decide) rfl ?_
  refine bX7_isWhole_43  (fun _ => ?_) (fun c => absurd c (by simp only [hn]; decide))
  refine bX7_isWhole_78  ?_
  refine v_X7_186 dX7_isWhole_79 rfl ⟨rfl, rfl, Nat.le_of_ble_eq_true rfl, Nat.le_of_ble_eq_true rfl⟩ (c_lower3 hn) rfl rfl (Nat.le_of_ble_eq_true rfl) (fun r I1 Ja1 hp => ?_)
  obtain ⟨rfl, rfl, a10, a11, a12, g1⟩ := hp
  refine bX7_isWhole_82 (v83 := nI 0) rfl ?_
  refine bX7_isWhole_85  (fun c => absurd c (by simp only [hn]; decide)) (fun _ => ?_)
  refine bX7_isWhole_94 (j103 := 3) (j108 := 0) (v112 := nI 1) rfl rfl (by decide) (by decide) rfl rfl ?_
  refine bX7_isWhole_85  (fun c => absurd c (by simp only [hn]; decide)) (fun _ => ?_)
  refine bX7_isWhole_94 (j103 := 4) (j108 := 1) (v112 := nI 2) rfl rfl (by decide) (by decide) rfl rfl ?_
  refine bX7_isWhole_85  (fun c => absurd c (by simp only [hn]; decide)) (fun _ => ?_)
  refine bX7_isWhole_94 (j103 := 5) (j108 := 2) (v112 := nI 3) rfl rfl (by decide) (by decide) rfl rfl ?_
  refine bX7_isWhole_85  (fun _ => ?_) (fun c => absurd c (by simp only [hn]; decide))
  refine bX7_isWhole_118 (v118 := nI 2) rfl ?_
  refine bX7_isWhole_9  (fun c => absurd c (by simp only [hn]; decide)) (fun _ => ?_)
  refine bX7_isWhole_17 (v18 := nI 0) rfl ?_
  refine bX7_isWhole_20  (fun c => absurd c (by decide)) (fun _ => ?_)
  refine bX7_isWhole_26 (j30 := 0) (v34 := nI 1) rfl (by decide) rfl rfl ?_
  refine bX7_isWhole_20  (fun c => absurd c (by decide)) (fun _ => ?_)
  refine bX7_isWhole_26 (j30 := 1) (v34 := nI 2) rfl (by decide) rfl rfl ?_
  refine bX7_isWhole_20  (fun c => absurd c (by decide)) (fun _ => ?_)
  refine bX7_isWhole_26 (j30 := 2) (v34 := nI 3) rfl (by decide) rfl rfl ?_
  refine bX7_isWhole_20  (fun c => absurd c (by decide)) (fun _ => ?_)
  refine bX7_isWhole_26 (j30 := 3) (v34 := nI 4) rfl (by decide) rfl rfl ?_
  refine bX7_isWhole_20  (fun c => absurd c (by decide)) (fun _ => ?_)
  refine bX7_isWhole_26 (j30 := 4) (v34 := nI 5) rfl (by decide) rfl rfl ?_
  refine bX7_isWhole_20  (fun _ => ?_) (fun c => absurd c (by decide))
  refine bX7_isWhole_40 (v41 := nI 0) rfl ?_
  refine bX7_isWhole_43  (fun c => absurd c (by simp only [hn]; decide)) (fun _ => ?_)
  refine bX7_isWhole_52 (j64 := 0) rfl (by decide) ?_
  refine v_X7_155 dX7_isWhole_68 rfl ⟨rfl, rfl, Nat.le_of_ble_eq_true rfl, Nat.le_of_ble_eq_true rfl⟩ (c_fm hq) rfl rfl (Nat.le_of_ble_eq_true rfl) (fun r I1 J1 hp => ?_)
  obtain ⟨rfl, rfl, rfl⟩ := hp
  refine bX7_isWhole_71 (s1 := 2) (v72 := nI 1) (by decide) rfl ?_
  refine bX7_isWhole_43  (fun c => absurd c (by simp only [hn]; decide)) (fun _ => ?_)
  refine bX7_isWhole_52 (j64 := 1) rfl (by decide) ?_
  refine v_X7_155 dX7_isWhole_68 rfl ⟨rfl, rfl, Nat.le_of_ble_eq_true rfl, Nat.le_of_ble_eq_true rfl⟩ (c_fm hq) rfl rfl (Nat.le_of_ble_eq_true rfl) (fun r I1 J1 hp => ?_)
  obtain ⟨rfl, rfl, rfl⟩ := hp
  refine bX7_isWhole_71 (s1 := 3) (v72 := nI 2) (by decide) rfl ?_
  refine bX7_isWhole_43  (fun c => absurd c (by simp only [hn]; decide)) (fun _ => ?_)
  refine bX7_isWhole_52 (j64 := 2) rfl (by decide) ?_
  refine v_X7_155 dX7_isWhole_68 rfl ⟨rfl, rfl, Nat.le_of_ble_eq_true rfl, Nat.le_of_ble_eq_true rfl⟩ (c_fm hq) rfl rfl (Nat.le_of_ble_eq_true rfl) (fun r I1 J1 hp => ?_)
  obtain ⟨rfl, rfl, rfl⟩ := hp
  refine bX7_isWhole_71 (s1 := 4) (v72 := nI 3) (by decide) rfl ?_
  refine bX7_isWhole_43  (fun _ => ?_) (fun c => absurd c (by simp only [hn]; decide))
  refine bX7_isWhole_78  ?_
  refine v_X7_186 dX7_isWhole_79 rfl ⟨rfl, rfl, Nat.le_of_ble_eq_true rfl, Nat.le_of_ble_eq_true rfl⟩ (c_lower3 hn) rfl rfl (Nat.le_of_ble_eq_true rfl) (fun r I1 Ja2 hp => ?_)
  obtain ⟨rfl, rfl, a20, a21, a22, g2⟩ := hp
  refine bX7_isWhole_82 (v83 := nI 0) rfl ?_
  refine bX7_isWhole_85  (fun c => absurd c (by simp only [hn]; decide)) (fun _ => ?_)
  refine bX7_isWhole_94 (j103 := 6) (j108 := 0) (v112 := nI 1) rfl rfl (by decide) (by decide) rfl rfl ?_
  refine bX7_isWhole_85  (fun c => absurd c (by simp only [hn]; decide)) (fun _ => ?_)
  refine bX7_isWhole_94 (j103 := 7) (j108 := 1) (v112 := nI 2) rfl rfl (by decide) (by decide) rfl rfl ?_
  refine bX7_isWhole_85  (fun c => absurd c (by simp only [hn]; decide)) (fun _ => ?_)
  refine bX7_isWhole_94 (j103 := 8) (j108 := 2) (v112 := nI 3) rfl rfl (by decide) (by decide) rfl rfl ?_
  refine bX7_isWhole_85  (fun _ => ?_) (fun c => absurd c (by simp only [hn]; decide))
  refine bX7_isWhole_118 (v118 := nI 3) rfl ?_
  refine bX7_isWhole_9  (fun _ => ?_) (fun c => absurd c (by simp only [hn]; decide))
  have z0 : J 7 = J 7 := rfl
  have z1 : Ja0 7 = J 7 := g0 7 (by decide)
  have z2 : Ja1 7 = J 7 := (g1 7 (by decide)).trans z1
  refine k _ ?_ ?_ ?_ ?_ ?_ ?_ ?_ ?_ ?_ ?_
  · exact (congrFun (g2 9 (by decide)) 0).trans ((congrFun (g1 9 (by decide)) 0).trans (a00))
  · exact (congrFun (g2 9 (by decide)) 1).trans ((congrFun (g1 9 (by decide)) 1).trans (a01))
  · exact (congrFun (g2 9 (by decide)) 2).trans ((congrFun (g1 9 (by decide)) 2).trans (a02))
  · exact (congrFun (g2 9 (by decide)) 3).trans ((show _ = (lo3 _ _ _ (pw3 1 (fun j => fm (Ja0 7 j) (J 7 3)))).1 from a10).trans (by rw [z1]))
  · exact (congrFun (g2 9 (by decide)) 4).trans ((show _ = (lo3 _ _ _ (pw3 1 (fun j => fm (Ja0 7 j) (J 7 3)))).2.1 from a11).trans (by rw [z1]))
  · exact (congrFun (g2 9 (by decide)) 5).trans ((show _ = (lo3 _ _ _ (pw3 1 (fun j => fm (Ja0 7 j) (J 7 3)))).2.2 from a12).trans (by rw [z1]))
  · exact (show _ = (lo3 _ _ _ (pw3 2 (fun j => fm (Ja1 7 j) (J 7 3)))).1 from a20).trans (by rw [z2])
  · exact (show _ = (lo3 _ _ _ (pw3 2 (fun j => fm (Ja1 7 j) (J 7 3)))).2.1 from a21).trans (by rw [z2])
  · exact (show _ = (lo3 _ _ _ (pw3 2 (fun j => fm (Ja1 7 j) (J 7 3)))).2.2 from a22).trans (by rw [z2])
  · intro q h8 h9
    simp only [sa_uJ_ne h8, sa_uJ_ne h9, g2 q h8, g1 q h8, g0 q h8]
end RW7
