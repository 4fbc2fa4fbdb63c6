/-- what make answers by, in longs -/
def pr2 (X Y T : Nat → Int64) (c : Nat) : Int64 := match c with
  | 0 => 0 + X 0 * Y 0 * T 0 + X 0 * Y 1 * T 3 + X 1 * Y 0 * T 9 + X 1 * Y 1 * T 12
  | 1 => 0 + X 0 * Y 0 * T 1 + X 0 * Y 1 * T 4 + X 1 * Y 0 * T 10 + X 1 * Y 1 * T 13
  | _ => 0
def mkV (n w : Nat) (X Y T : Nat → Int64) (c : Nat) : Int64 := match w with
  | 0 => X c + Y c
  | 1 => X c - Y c
  | 2 => if n = 2 then pr2 X Y T c else pr3 X Y T c
  | _ => if n = 2 ∧ c = 2 then 0 else abv n c (mtx n Y T) X / nrV n (mtx n Y T) 0
def dvO (n : Nat) (X Y T : Nat → Int64) : Prop := ¬ nrV n (mtx n Y T) 0 = 0 ∧ rm (abv n 0 (mtx n Y T) X) (nrV n (mtx n Y T) 0) = 0 ∧ rm (abv n 1 (mtx n Y T) X) (nrV n (mtx n Y T) 0) = 0 ∧ (n = 3 → rm (abv n 2 (mtx n Y T) X) (nrV n (mtx n Y T) 0) = 0)
def mkC (n ne : Nat) (w x y : Int) (I : sa_I) (J : sa_J) : sa_P := fun r I1 J1 =>
  if (0 ≤ x ∧ x < ne) ∧ 0 ≤ y ∧ y < ne then
    (if 0 ≤ w ∧ w ≤ 3 then ∃ Jw, fr9 J Jw ∧ ((w = 3 ∧ ¬ dvO n (fun c => J 2 (3 * x.toNat + c)) (fun c => J 2 (3 * y.toNat + c)) (J 8) ∧ r = some (.int (-3)) ∧ I1 = rf I 3 ∧ J1 = Jw) ∨ ((w = 3 → dvO n (fun c => J 2 (3 * x.toNat + c)) (fun c => J 2 (3 * y.toNat + c)) (J 8)) ∧ (∀ c, c < 3 → Jw 9 c = mkV n w.toNat (fun c => J 2 (3 * x.toNat + c)) (fun c => J 2 (3 * y.toNat + c)) (J 8) c) ∧ keC I Jw ne (Jw 9 0) (Jw 9 1) (Jw 9 2) r I1 J1))
    else r = some (.int (-2)) ∧ I1 = rf I 2 ∧ J1 = J)
  else r = some (.int (-1)) ∧ I1 = rf I 1 ∧ J1 = J
def fr12 (J J1 : sa_J) : Prop := ∀ q, q ≠ 9 → q ≠ 10 → q ≠ 11 → q ≠ 12 → J1 q = J q
def mkR (n ne : Nat) (w x y : Int) (I : sa_I) (J : sa_J) : sa_P := fun r I1 J1 =>
  if (0 ≤ x ∧ x < ne) ∧ 0 ≤ y ∧ y < ne then
    (if 0 ≤ w ∧ w ≤ 3 then ∃ Jw, fr12 J Jw ∧ ((w = 3 ∧ ¬ dvO n (fun c => (I 3 (3 * x.toNat + c)).toInt64) (fun c => (I 3 (3 * y.toNat + c)).toInt64) (J 2) ∧ r = some (.int (-3)) ∧ I1 = rf I 3 ∧ J1 = Jw) ∨ ((w = 3 → dvO n (fun c => (I 3 (3 * x.toNat + c)).toInt64) (fun c => (I 3 (3 * y.toNat + c)).toInt64) (J 2)) ∧ (∀ c, c < 3 → Jw 12 c = mkV n w.toNat (fun c => (I 3 (3 * x.toNat + c)).toInt64) (fun c => (I 3 (3 * y.toNat + c)).toInt64) (J 2) c) ∧ keR I Jw ne (Jw 12 0) (Jw 12 1) (Jw 12 2) r I1 J1))
    else r = some (.int (-2)) ∧ I1 = rf I 2 ∧ J1 = J)
  else r = some (.int (-1)) ∧ I1 = rf I 1 ∧ J1 = J
theorem one_mulL (x : Int64) : (1 : Int64) * x = x := Int64.one_mul x
theorem neg_mulL (x y : Int64) : x + (-1 : Int64) * y = x - y := by rw [Int64.sub_eq_add_neg, Int64.neg_mul, Int64.one_mul]
section MK
variable {l : Launch} {D : va_G} {aI aL : ClassId} {ad : Nat → Nat} {I : sa_I} {J : sa_J}
theorem c_make6 {n ne : Nat} {w x y : Int} (hd : I 4 0 = nI n) (h0 : n = 2 ∨ n = 3) (hne : I 0 8 = nI ne) (h100 : ne ≤ 100) (hw : rgi w) (hx : rgi x) (hy : rgi y) : Con (EC l D aI aL ad) M_X6_make yX6_make [.ref (ad 0), .int (iI w), .int (iI x), .int (iI y)] I J (mkC n ne w x y I J) := by
  refine Con.of (by decide +kernel) rfl (Nat.le_of_ble_eq_true rfl) ?_
  have hnz : ¬ I 4 0 = 0 := by rw [hd]; rcases h0 with rfl | rfl <;> decide
  have no : ¬ ((0 ≤ x ∧ x < ne) ∧ 0 ≤ y ∧ y < ne) → Sat (EC l D aI aL ad) M_X6_make (mkC n ne w x y I J) 33 [(0, .ref (ad 0))] [] I J := by
    intro h
    refine bX6_make_33 ?_
    refine v_X6_59 dX6_make_35 rfl ⟨rfl, rfl, Nat.le_of_ble_eq_true rfl, Nat.le_of_ble_eq_true rfl⟩ (c_refused 1 (by decide) rfl) rfl rfl (Nat.le_of_ble_eq_true rfl) (fun r I1 J1 hp => ?_)
    obtain ⟨rfl, rfl, rfl⟩ := hp
    refine bX6_make_38 ?_
    unfold mkC; rw [if_neg h]; exact ⟨rfl, rfl, rfl⟩
  refine bX6_make_0 (fun _ => bX6_make_17 ?_) (fun c => absurd c hnz)
  refine v_X6_128 dX6_make_19 rfl ⟨rfl, rfl, Nat.le_of_ble_eq_true rfl, Nat.le_of_ble_eq_true rfl⟩ (c_isElement6) rfl rfl (Nat.le_of_ble_eq_true rfl) (fun r I1 J1 hp => ?_)
  obtain ⟨rfl, e2, e3⟩ := hp
  obtain rfl := e2.symm
  obtain rfl := e3.symm
  rw [hne, inB_I hx (m := ne) (by omega)]
  by_cases cx : 0 ≤ x ∧ x < ne
  rotate_left
  · rw [if_neg cx]; exact bX6_make_22 (fun _ => no (fun h => cx h.1)) (fun c => absurd rfl c)
  rw [if_pos cx]
  refine bX6_make_22 (fun c => absurd c (by decide)) (fun _ => bX6_make_25 ?_)
  refine v_X6_128 dX6_make_27 rfl ⟨rfl, rfl, Nat.le_of_ble_eq_true rfl, Nat.le_of_ble_eq_true rfl⟩ (c_isElement6) rfl rfl (Nat.le_of_ble_eq_true rfl) (fun r I1 J1 hp => ?_)
  obtain ⟨rfl, e2, e3⟩ := hp
  obtain rfl := e2.symm
  obtain rfl := e3.symm
  rw [hne, inB_I hy (m := ne) (by omega)]
  by_cases cy : 0 ≤ y ∧ y < ne
  rotate_left
  · rw [if_neg cy]; exact bX6_make_30 (fun c => absurd rfl c) (fun _ => no (fun h => cy h.2))
  rw [if_pos cy]
  have cxy : (0 ≤ x ∧ x < ne) ∧ 0 ≤ y ∧ y < ne := ⟨cx, cy⟩
  have other : ¬ (0 ≤ w ∧ w ≤ 3) → Sat (EC l D aI aL ad) M_X6_make (mkC n ne w x y I J) 48 [(0, .ref (ad 0))] [] I J := by
    intro h
    refine bX6_make_48 ?_
    refine v_X6_59 dX6_make_51 rfl ⟨rfl, rfl, Nat.le_of_ble_eq_true rfl, Nat.le_of_ble_eq_true rfl⟩ (c_refused 2 (by decide) rfl) rfl rfl (Nat.le_of_ble_eq_true rfl) (fun r I1 J1 hp => ?_)
    obtain ⟨rfl, rfl, rfl⟩ := hp
    refine bX6_make_54 ?_
    unfold mkC; rw [if_pos cxy, if_neg h]; exact ⟨rfl, rfl, rfl⟩
  refine bX6_make_30 (fun _ => bX6_make_39 (fun c => other (fun h => by have := (iI_ltc hw (k := 0) ⟨by omega, by omega⟩ rfl).mp c; omega)) (fun c => bX6_make_43 (fun c2 => ?_) (fun c2 => other (fun h => c2 ((iI_lec hw (k := 3) ⟨by omega, by omega⟩ rfl).mpr h.2))))) (fun c => absurd c (by decide))
  have w0 : 0 ≤ w := by
    have : ¬ w < 0 := fun q => c ((iI_ltc hw (k := 0) ⟨by omega, by omega⟩ rfl).mpr q)
    omega
  have w3 := (iI_lec hw (k := 3) ⟨by omega, by omega⟩ rfl).mp c2
  have fin : ∀ Jw, fr9 J Jw → (w = 3 → dvO n (fun c => J 2 (3 * x.toNat + c)) (fun c => J 2 (3 * y.toNat + c)) (J 8)) → (∀ c, c < 3 → Jw 9 c = mkV n w.toNat (fun c => J 2 (3 * x.toNat + c)) (fun c => J 2 (3 * y.toNat + c)) (J 8) c) → Sat (EC l D aI aL ad) M_X6_make (mkC n ne w x y I J) 146 [(0, .ref (ad 0))] [] I Jw := by
    intro Jw f1 f2 f3
    refine bX6_make_146 ?_
    refine v_X6_125 dX6_make_147 rfl ⟨rfl, rfl, Nat.le_of_ble_eq_true rfl, Nat.le_of_ble_eq_true rfl⟩ (c_keepElement hne h100) rfl rfl (Nat.le_of_ble_eq_true rfl) (fun r I1 J1 hp => ?_)
    have hr : ∃ v, r = some (.int v) := by
      rcases hp with ⟨_, h, _⟩ | ⟨_, _, h, _⟩ | ⟨_, _, _, h, _⟩ <;> exact ⟨_, h⟩
    obtain ⟨v, rfl⟩ := hr
    refine bX6_make_150 ?_
    unfold mkC; rw [if_pos cxy, if_pos ⟨w0, w3⟩]
    exact ⟨Jw, f1, Or.inr ⟨f2, f3, hp⟩⟩
  rw [iI_nat cx.1, iI_nat cy.1]
  have e3x : (3 : Int32) * nI x.toNat = nI (3 * x.toNat) := nI_mulE 3 _
  have e3y : (3 : Int32) * nI y.toNat = nI (3 * y.toNat) := nI_mulE 3 _
  have hw4 : w = 0 ∨ w = 1 ∨ w = 2 ∨ w = 3 := by omega
  rcases hw4 with rfl | rfl | rfl | rfl
  · refine bX6_make_55 (fun _ => ?_) (fun c => absurd c (by decide))
    refine bX6_make_87 (fun _ => ?_) (fun c => absurd c (by decide))
    refine bX6_make_113 (fun c => absurd c (by decide)) (fun _ => ?_)
    refine bX6_make_118 (fun c => absurd rfl c) (fun _ => bX6_make_136 ?_)
    rw [e3x, e3y]
    refine v_X6_141 dX6_make_143 rfl ⟨rfl, rfl, Nat.le_of_ble_eq_true rfl, Nat.le_of_ble_eq_true rfl⟩ (c_addTimes (m := 1) aJ_C2 (by decide) (by omega) (by omega) (by decide)) rfl rfl (Nat.le_of_ble_eq_true rfl) (fun r I1 J1 hp => ?_)
    obtain ⟨rfl, e2, a0, a1, a2, f⟩ := hp
    obtain rfl := e2.symm
    refine fin J1 (fun q h9 _ => f q h9) (fun h => absurd h (by decide)) (fun c hc => ?_)
    rcases below3 hc with rfl | rfl | rfl
    · rw [a0, one_mulL]; rfl
    · rw [a1, one_mulL]; rfl
    · rw [a2, one_mulL]; rfl
  · refine bX6_make_55 (fun _ => ?_) (fun c => absurd c (by decide))
    refine bX6_make_87 (fun _ => ?_) (fun c => absurd c (by decide))
    refine bX6_make_113 (fun c => absurd c (by decide)) (fun _ => ?_)
    refine bX6_make_118 (fun _ => bX6_make_140 ?_) (fun c => absurd c (by decide))
    rw [e3x, e3y]
    refine v_X6_141 dX6_make_143 rfl ⟨rfl, rfl, Nat.le_of_ble_eq_true rfl, Nat.le_of_ble_eq_true rfl⟩ (c_addTimes (m := (-1)) aJ_C2 (by decide) (by omega) (by omega) (by decide)) rfl rfl (Nat.le_of_ble_eq_true rfl) (fun r I1 J1 hp => ?_)
    obtain ⟨rfl, e2, a0, a1, a2, f⟩ := hp
    obtain rfl := e2.symm
    refine fin J1 (fun q h9 _ => f q h9) (fun h => absurd h (by decide)) (fun c hc => ?_)
    rcases below3 hc with rfl | rfl | rfl
    · rw [a0, neg_mulL]; rfl
    · rw [a1, neg_mulL]; rfl
    · rw [a2, neg_mulL]; rfl
  · refine bX6_make_55 (fun _ => ?_) (fun c => absurd c (by decide))
    refine bX6_make_87 (fun c => absurd rfl c) (fun _ => ?_)
    refine bX6_make_92 ?_
    rw [e3x, e3y]
    have go : ∀ J1, (∀ q, q ≠ 9 → J1 q = J q) → (∀ c, c < 3 → J1 9 c = mkV n 2 (fun c => J 2 (3 * x.toNat + c)) (fun c => J 2 (3 * y.toNat + c)) (J 8) c) → Sat (EC l D aI aL ad) M_X6_make (mkC n ne 2 x y I J) 113 [(0, .ref (ad 0)), (1, .int (iI 2)), (2, .int (nI x.toNat)), (3, .int (nI y.toNat))] [] I J1 := by
      intro J1 f1 f2
      refine bX6_make_113 (fun _ => ?_) (fun c => absurd (by decide) c)
      exact fin J1 (fun q h9 _ => f1 q h9) (fun h => absurd h (by decide)) f2
    rcases h0 with rfl | rfl
    · refine v_X6_135 dX6_make_110 rfl ⟨rfl, rfl, Nat.le_of_ble_eq_true rfl, Nat.le_of_ble_eq_true rfl⟩ (c_multiply2 hd aJ_C2 (by decide) aJ_C2 (by decide) (by omega) (by omega) (by decide) (by decide)) rfl rfl (Nat.le_of_ble_eq_true rfl) (fun r I1 J1 hp => ?_)
      obtain ⟨rfl, e2, a0, a1, a2, f⟩ := hp
      obtain rfl := e2.symm
      refine go J1 f (fun c hc => ?_)
      rcases below3 hc with rfl | rfl | rfl
      · exact a0
      · exact a1
      · exact a2
    · refine v_X6_135 dX6_make_110 rfl ⟨rfl, rfl, Nat.le_of_ble_eq_true rfl, Nat.le_of_ble_eq_true rfl⟩ (c_multiply3 hd aJ_C2 (by decide) aJ_C2 (by decide) (by omega) (by omega) (by decide) (by decide)) rfl rfl (Nat.le_of_ble_eq_true rfl) (fun r I1 J1 hp => ?_)
      obtain ⟨rfl, e2, a0, a1, a2, f⟩ := hp
      obtain rfl := e2.symm
      refine go J1 f (fun c hc => ?_)
      rcases below3 hc with rfl | rfl | rfl
      · exact a0
      · exact a1
      · exact a2
  · refine bX6_make_55 (fun c => absurd rfl c) (fun _ => ?_)
    refine bX6_make_60 ?_
    rw [e3x, e3y]
    have bad : ∀ J1, fr9 J J1 → ¬ dvO n (fun c => J 2 (3 * x.toNat + c)) (fun c => J 2 (3 * y.toNat + c)) (J 8) → Sat (EC l D aI aL ad) M_X6_make (mkC n ne 3 x y I J) 77 [(0, .ref (ad 0)), (1, .int (iI 3)), (2, .int (nI x.toNat)), (3, .int (nI y.toNat))] [.int 0] I J1 := by
      intro J1 f1 f2
      refine bX6_make_77 (fun c => absurd rfl c) (fun _ => bX6_make_80 ?_)
      refine v_X6_59 dX6_make_83 rfl ⟨rfl, rfl, Nat.le_of_ble_eq_true rfl, Nat.le_of_ble_eq_true rfl⟩ (c_refused 3 (by decide) rfl) rfl rfl (Nat.le_of_ble_eq_true rfl) (fun r I1 J2 hp => ?_)
      obtain ⟨rfl, rfl, rfl⟩ := hp
      refine bX6_make_86 ?_
      unfold mkC; rw [if_pos cxy, if_pos ⟨w0, w3⟩]
      exact ⟨_, f1, Or.inl ⟨rfl, f2, rfl, rfl, rfl⟩⟩
    have good : ∀ J1, fr9 J J1 → dvO n (fun c => J 2 (3 * x.toNat + c)) (fun c => J 2 (3 * y.toNat + c)) (J 8) → (∀ c, c < 3 → J1 9 c = mkV n 3 (fun c => J 2 (3 * x.toNat + c)) (fun c => J 2 (3 * y.toNat + c)) (J 8) c) → Sat (EC l D aI aL ad) M_X6_make (mkC n ne 3 x y I J) 77 [(0, .ref (ad 0)), (1, .int (iI 3)), (2, .int (nI x.toNat)), (3, .int (nI y.toNat))] [.int 1] I J1 := by
      intro J1 f1 f2 f3
      refine bX6_make_77 (fun _ => ?_) (fun c => absurd c (by decide))
      refine bX6_make_87 (fun _ => ?_) (fun c => absurd c (by decide))
      refine bX6_make_113 (fun _ => ?_) (fun c => absurd (by decide) c)
      exact fin J1 f1 (fun _ => f2) f3
    rcases h0 with rfl | rfl
    · refine v_X6_131 dX6_make_74 rfl ⟨rfl, rfl, Nat.le_of_ble_eq_true rfl, Nat.le_of_ble_eq_true rfl⟩ (c_divide2 hd aJ_C2 (by decide) (by omega) (by omega) (by decide) (by decide)) rfl rfl (Nat.le_of_ble_eq_true rfl) (fun r I1 J1 hp => ?_)
      obtain ⟨e2, f, hp⟩ := hp
      obtain rfl := e2.symm
      by_cases h : ¬ (nrV 2 (mtx 2 (fun c => J 2 (3 * y.toNat + c)) (J 8)) 0) = 0 ∧ rm (abv 2 0 (mtx 2 (fun c => J 2 (3 * y.toNat + c)) (J 8)) (fun c => J 2 (3 * x.toNat + c))) (nrV 2 (mtx 2 (fun c => J 2 (3 * y.toNat + c)) (J 8)) 0) = 0 ∧ rm (abv 2 1 (mtx 2 (fun c => J 2 (3 * y.toNat + c)) (J 8)) (fun c => J 2 (3 * x.toNat + c))) (nrV 2 (mtx 2 (fun c => J 2 (3 * y.toNat + c)) (J 8)) 0) = 0
      · rw [if_pos h] at hp
        obtain ⟨rfl, a0, a1, a2⟩ := hp
        refine good J1 f ⟨h.1, h.2.1, h.2.2, fun q => absurd q (by decide)⟩ (fun c hc => ?_)
        rcases below3 hc with rfl | rfl | rfl
        · exact a0
        · exact a1
        · exact a2
      · rw [if_neg h] at hp
        obtain rfl := hp
        exact bad J1 f (fun q => h ⟨q.1, q.2.1, q.2.2.1⟩)
    · refine v_X6_131 dX6_make_74 rfl ⟨rfl, rfl, Nat.le_of_ble_eq_true rfl, Nat.le_of_ble_eq_true rfl⟩ (c_divide3 hd aJ_C2 (by decide) (by omega) (by omega) (by decide) (by decide)) rfl rfl (Nat.le_of_ble_eq_true rfl) (fun r I1 J1 hp => ?_)
      obtain ⟨e2, f, hp⟩ := hp
      obtain rfl := e2.symm
      by_cases h : ¬ (nrV 3 (mtx 3 (fun c => J 2 (3 * y.toNat + c)) (J 8)) 0) = 0 ∧ rm (abv 3 0 (mtx 3 (fun c => J 2 (3 * y.toNat + c)) (J 8)) (fun c => J 2 (3 * x.toNat + c))) (nrV 3 (mtx 3 (fun c => J 2 (3 * y.toNat + c)) (J 8)) 0) = 0 ∧ rm (abv 3 1 (mtx 3 (fun c => J 2 (3 * y.toNat + c)) (J 8)) (fun c => J 2 (3 * x.toNat + c))) (nrV 3 (mtx 3 (fun c => J 2 (3 * y.toNat + c)) (J 8)) 0) = 0 ∧ rm (abv 3 2 (mtx 3 (fun c => J 2 (3 * y.toNat + c)) (J 8)) (fun c => J 2 (3 * x.toNat + c))) (nrV 3 (mtx 3 (fun c => J 2 (3 * y.toNat + c)) (J 8)) 0) = 0
      · rw [if_pos h] at hp
        obtain ⟨rfl, a0, a1, a2⟩ := hp
        refine good J1 f ⟨h.1, h.2.1, h.2.2.1, fun _ => h.2.2.2⟩ (fun c hc => ?_)
        rcases below3 hc with rfl | rfl | rfl
        · exact a0
        · exact a1
        · exact a2
      · rw [if_neg h] at hp
        obtain rfl := hp
        exact bad J1 f (fun q => h ⟨q.1, q.2.1, q.2.2.1, q.2.2.2 rfl⟩)
theorem c_make7 {n ne : Nat} {w x y : Int} (hd : I 0 1 = nI n) (h0 : n = 2 ∨ n = 3) (hne : I 0 13 = nI ne) (h100 : ne ≤ 100) (hz3 : n = 3 → ∃ s : Nat → Int, asc (s 0) (s 1) (s 2) (s 3) (s 4) (s 5) (s 6) (s 7) (s 8) = true ∧ ∀ t, t < 27 → J 2 t = lI (T3 s t)) (hz2 : n = 2 → J 2 0 = 1 ∧ J 2 1 = 0 ∧ J 2 3 = 0 ∧ J 2 4 = 1 ∧ J 2 9 = 0 ∧ J 2 10 = 1) (hw : rgi w) (hx : rgi x) (hy : rgi y) : Con (ER l D aI aL ad) M_X7_make yX7_make [.ref (ad 0), .int (iI w), .int (iI x), .int (iI y)] I J (mkR n ne w x y I J) := by
  refine Con.of (by decide +kernel) rfl (Nat.le_of_ble_eq_true rfl) ?_
  have hnz : ¬ I 0 1 ≤ 0 := by rw [hd]; rcases h0 with rfl | rfl <;> decide
  have no : ¬ ((0 ≤ x ∧ x < ne) ∧ 0 ≤ y ∧ y < ne) → Sat (ER l D aI aL ad) M_X7_make (mkR n ne w x y I J) 30 [(0, .ref (ad 0))] [] I J := by
    intro h
    refine bX7_make_30 ?_
    refine v_X7_84 dX7_make_32 rfl ⟨rfl, rfl, Nat.le_of_ble_eq_true rfl, Nat.le_of_ble_eq_true rfl⟩ (c_refuse 1 (by decide) rfl) rfl rfl (Nat.le_of_ble_eq_true rfl) (fun r I1 J1 hp => ?_)
    obtain ⟨rfl, rfl, rfl⟩ := hp
    refine bX7_make_35 ?_
    unfold mkR; rw [if_neg h]; exact ⟨rfl, rfl, rfl⟩
  refine bX7_make_0 ?_
  refine v_X7_203 dX7_make_1 rfl ⟨rfl, rfl, Nat.le_of_ble_eq_true rfl, Nat.le_of_ble_eq_true rfl⟩ (c_isField) rfl rfl (Nat.le_of_ble_eq_true rfl) (fun r I1 J1 hp => ?_)
  obtain ⟨rfl, e2, e3⟩ := hp
  obtain rfl := e2.symm
  obtain rfl := e3.symm
  rw [if_neg hnz]
  refine bX7_make_4 (fun _ => bX7_make_14 ?_) (fun c => absurd c (by decide))
  refine v_X7_232 dX7_make_16 rfl ⟨rfl, rfl, Nat.le_of_ble_eq_true rfl, Nat.le_of_ble_eq_true rfl⟩ (c_isElement7) rfl rfl (Nat.le_of_ble_eq_true rfl) (fun r I1 J1 hp => ?_)
  obtain ⟨rfl, e2, e3⟩ := hp
  obtain rfl := e2.symm
  obtain rfl := e3.symm
  rw [hne, inB_I hx (m := ne) (by omega)]
  by_cases cx : 0 ≤ x ∧ x < ne
  rotate_left
  · rw [if_neg cx]; exact bX7_make_19 (fun _ => no (fun h => cx h.1)) (fun c => absurd rfl c)
  rw [if_pos cx]
  refine bX7_make_19 (fun c => absurd c (by decide)) (fun _ => bX7_make_22 ?_)
  refine v_X7_232 dX7_make_24 rfl ⟨rfl, rfl, Nat.le_of_ble_eq_true rfl, Nat.le_of_ble_eq_true rfl⟩ (c_isElement7) rfl rfl (Nat.le_of_ble_eq_true rfl) (fun r I1 J1 hp => ?_)
  obtain ⟨rfl, e2, e3⟩ := hp
  obtain rfl := e2.symm
  obtain rfl := e3.symm
  rw [hne, inB_I hy (m := ne) (by omega)]
  by_cases cy : 0 ≤ y ∧ y < ne
  rotate_left
  · rw [if_neg cy]; exact bX7_make_27 (fun c => absurd rfl c) (fun _ => no (fun h => cy h.2))
  rw [if_pos cy]
  have cxy : (0 ≤ x ∧ x < ne) ∧ 0 ≤ y ∧ y < ne := ⟨cx, cy⟩
  refine bX7_make_27 (fun _ => bX7_make_36 ?_) (fun c => absurd c (by decide))
  refine v_X7_210 dX7_make_38 rfl ⟨rfl, rfl, Nat.le_of_ble_eq_true rfl, Nat.le_of_ble_eq_true rfl⟩ (c_isIn) rfl rfl (Nat.le_of_ble_eq_true rfl) (fun r I1 J1 hp => ?_)
  obtain ⟨rfl, e2, e3⟩ := hp
  obtain rfl := e2.symm
  obtain rfl := e3.symm
  rw [show (4 : Int32) = nI 4 from rfl, inB_I hw (m := 4) (by decide)]
  by_cases cw : 0 ≤ w ∧ w < (4 : Nat)
  rotate_left
  · rw [if_neg cw]
    refine bX7_make_41 (fun c => absurd rfl c) (fun _ => bX7_make_44 ?_)
    refine v_X7_84 dX7_make_47 rfl ⟨rfl, rfl, Nat.le_of_ble_eq_true rfl, Nat.le_of_ble_eq_true rfl⟩ (c_refuse 2 (by decide) rfl) rfl rfl (Nat.le_of_ble_eq_true rfl) (fun r I1 J1 hp => ?_)
    obtain ⟨rfl, rfl, rfl⟩ := hp
    refine bX7_make_50 ?_
    unfold mkR; rw [if_pos cxy, if_neg (fun h => cw ⟨h.1, by omega⟩)]; exact ⟨rfl, rfl, rfl⟩
  rw [if_pos cw]
  have w0 : 0 ≤ w := cw.1
  have w3 : w ≤ 3 := by omega
  refine bX7_make_41 (fun _ => bX7_make_51 ?_) (fun c => absurd c (by decide))
  rw [iI_nat cx.1, iI_nat cy.1]
  refine v_X7_235 dX7_make_57 rfl ⟨rfl, rfl, Nat.le_of_ble_eq_true rfl, Nat.le_of_ble_eq_true rfl⟩ (c_brings10 (i := x.toNat) (by omega)) rfl rfl (Nat.le_of_ble_eq_true rfl) (fun r I1 Ja hp => ?_)
  obtain ⟨rfl, e2, u0, u1, u2, ga⟩ := hp
  obtain rfl := e2.symm
  refine bX7_make_60 ?_
  refine v_X7_235 dX7_make_66 rfl ⟨rfl, rfl, Nat.le_of_ble_eq_true rfl, Nat.le_of_ble_eq_true rfl⟩ (c_brings11 (i := y.toNat) (by omega)) rfl rfl (Nat.le_of_ble_eq_true rfl) (fun r I1 Jb hp => ?_)
  obtain ⟨rfl, e2, v0, v1, v2, gb⟩ := hp
  obtain rfl := e2.symm
  have gb10 : Jb 10 = Ja 10 := gb 10 (by decide)
  have x0 : Jb 10 0 = (fun c => (I 3 (3 * x.toNat + c)).toInt64) 0 := by rw [gb10]; exact u0
  have x1 : Jb 10 1 = (fun c => (I 3 (3 * x.toNat + c)).toInt64) 1 := by rw [gb10]; exact u1
  have x2 : Jb 10 2 = (fun c => (I 3 (3 * x.toNat + c)).toInt64) 2 := by rw [gb10]; exact u2
  have gab : ∀ q, q ≠ 10 → q ≠ 11 → Jb q = J q := fun q h1 h2 => (gb q h2).trans (ga q h1)
  have fin : ∀ Jw, fr12 J Jw → (w = 3 → dvO n (fun c => (I 3 (3 * x.toNat + c)).toInt64) (fun c => (I 3 (3 * y.toNat + c)).toInt64) (J 2)) → (∀ c, c < 3 → Jw 12 c = mkV n w.toNat (fun c => (I 3 (3 * x.toNat + c)).toInt64) (fun c => (I 3 (3 * y.toNat + c)).toInt64) (J 2) c) → Sat (ER l D aI aL ad) M_X7_make (mkR n ne w x y I J) 156 [(0, .ref (ad 0))] [] I Jw := by
    intro Jw f1 f2 f3
    refine bX7_make_156 ?_
    refine v_X7_221 dX7_make_175 rfl ⟨rfl, rfl, Nat.le_of_ble_eq_true rfl, Nat.le_of_ble_eq_true rfl⟩ (c_adds hne h100) rfl rfl (Nat.le_of_ble_eq_true rfl) (fun r I1 J1 hp => ?_)
    have hr : ∃ v, r = some (.int v) := by
      rcases hp with ⟨_, h, _⟩ | ⟨_, _, h, _⟩ | ⟨_, _, _, h, _⟩ <;> exact ⟨_, h⟩
    obtain ⟨v, rfl⟩ := hr
    refine bX7_make_178 ?_
    unfold mkR; rw [if_pos cxy, if_pos ⟨w0, w3⟩]
    exact ⟨Jw, f1, Or.inr ⟨f2, f3, hp⟩⟩
  have loop : ∀ (op : Int64 → Int64 → Int64), (∀ (c : Nat) (Jc : sa_J), c < 3 → Sat (ER l D aI aL ad) M_X7_make (mkR n ne w x y I J) 121 [(0, .ref (ad 0)), (1, .int (iI w)), (4, .int (nI c))] [.long (op (Jc 10 c) (Jc 11 c)), .int (nI c), .ref (ad 12)] I Jc → Sat (ER l D aI aL ad) M_X7_make (mkR n ne w x y I J) 78 [(0, .ref (ad 0)), (1, .int (iI w)), (4, .int (nI c))] [] I Jc) → (∀ Jc, (∀ q, q ≠ 12 → Jc q = Jb q) → (∀ c, c < 3 → Jc 12 c = op ((fun c => (I 3 (3 * x.toNat + c)).toInt64) c) ((fun c => (I 3 (3 * y.toNat + c)).toInt64) c)) → Sat (ER l D aI aL ad) M_X7_make (mkR n ne w x y I J) 128 [(0, .ref (ad 0)), (1, .int (iI w))] [] I Jc) → Sat (ER l D aI aL ad) M_X7_make (mkR n ne w x y I J) 69 [(0, .ref (ad 0)), (1, .int (iI w))] [] I Jb := by
    intro op hs kk
    refine bX7_make_69 (v70 := nI 0) rfl ?_
    refine bX7_make_72 (fun c => absurd c (by decide)) (fun _ => hs 0 _ (by decide) ?_)
    refine bX7_make_121 (s1 := 0) (v122 := nI 1) (by decide) rfl ?_
    refine bX7_make_72 (fun c => absurd c (by decide)) (fun _ => hs 1 _ (by decide) ?_)
    refine bX7_make_121 (s1 := 1) (v122 := nI 2) (by decide) rfl ?_
    refine bX7_make_72 (fun c => absurd c (by decide)) (fun _ => hs 2 _ (by decide) ?_)
    refine bX7_make_121 (s1 := 2) (v122 := nI 3) (by decide) rfl ?_
    refine bX7_make_72 (fun _ => kk _ (fun q h => by simp only [sa_uJ_ne h]) (fun c hc => ?_)) (fun c => absurd (by decide) c)
    rcases below3 hc with rfl | rfl | rfl
    · simp [sa_uJ_if]; rw [x0, v0]; rfl
    · simp [sa_uJ_if]; rw [x1, v1]
    · simp [sa_uJ_if]; rw [x2, v2]
  have hw4 : w = 0 ∨ w = 1 ∨ w = 2 ∨ w = 3 := by omega
  rcases hw4 with rfl | rfl | rfl | rfl
  · refine loop (fun a b => a + b) (fun c Jc hc kk => bX7_make_78 (fun q => absurd rfl q) (fun _ => bX7_make_88 (j92 := c) (j99 := c) rfl hc rfl hc kk)) (fun Jc fc vc => ?_)
    refine bX7_make_128 (fun _ => bX7_make_137 (fun _ => fin Jc (fun q h9 h10 h11 h12 => (fc q h12).trans (gab q h10 h11)) (fun h => absurd h (by decide)) vc) (fun c => absurd c (by decide))) (fun c => absurd c (by decide))
  · refine loop (fun a b => a - b) (fun c Jc hc kk => bX7_make_78 (fun _ => bX7_make_106 (j110 := c) (j117 := c) rfl hc rfl hc kk) (fun q => absurd q (by decide))) (fun Jc fc vc => ?_)
    refine bX7_make_128 (fun _ => bX7_make_137 (fun _ => fin Jc (fun q h9 h10 h11 h12 => (fc q h12).trans (gab q h10 h11)) (fun h => absurd h (by decide)) vc) (fun c => absurd c (by decide))) (fun c => absurd c (by decide))
  · refine loop (fun a b => a - b) (fun c Jc hc kk => bX7_make_78 (fun _ => bX7_make_106 (j110 := c) (j117 := c) rfl hc rfl hc kk) (fun q => absurd q (by decide))) (fun Jc fc vc => ?_)
    refine bX7_make_128 (fun c => absurd rfl c) (fun _ => bX7_make_133 ?_)
    have x0' : Jc 10 0 = (fun c => (I 3 (3 * x.toNat + c)).toInt64) 0 := by rw [fc 10 (by decide)]; exact x0
    have x1' : Jc 10 1 = (fun c => (I 3 (3 * x.toNat + c)).toInt64) 1 := by rw [fc 10 (by decide)]; exact x1
    have x2' : Jc 10 2 = (fun c => (I 3 (3 * x.toNat + c)).toInt64) 2 := by rw [fc 10 (by decide)]; exact x2
    have y0' : Jc 11 0 = (fun c => (I 3 (3 * y.toNat + c)).toInt64) 0 := by rw [fc 11 (by decide)]; exact v0
    have y1' : Jc 11 1 = (fun c => (I 3 (3 * y.toNat + c)).toInt64) 1 := by rw [fc 11 (by decide)]; exact v1
    have y2' : Jc 11 2 = (fun c => (I 3 (3 * y.toNat + c)).toInt64) 2 := by rw [fc 11 (by decide)]; exact v2
    have t2 : Jc 2 = J 2 := (fc 2 (by decide)).trans (gab 2 (by decide) (by decide))
    have go : ∀ J1, (∀ q, q ≠ 12 → J1 q = Jc q) → (∀ c, c < 3 → J1 12 c = mkV n 2 (fun c => (I 3 (3 * x.toNat + c)).toInt64) (fun c => (I 3 (3 * y.toNat + c)).toInt64) (J 2) c) → Sat (ER l D aI aL ad) M_X7_make (mkR n ne 2 x y I J) 137 [(0, .ref (ad 0)), (1, .int (iI 2))] [] I J1 := by
      intro J1 f1 f2
      exact bX7_make_137 (fun _ => fin J1 (fun q h9 h10 h11 h12 => (f1 q h12).trans ((fc q h12).trans (gab q h10 h11))) (fun h => absurd h (by decide)) f2) (fun c => absurd c (by decide))
    rcases h0 with rfl | rfl
    · refine v_X7_229 dX7_make_134 rfl ⟨rfl, rfl, Nat.le_of_ble_eq_true rfl, Nat.le_of_ble_eq_true rfl⟩ (c_product2 hd) rfl rfl (Nat.le_of_ble_eq_true rfl) (fun r I1 J1 hp => ?_)
      obtain ⟨rfl, e2, a0, a1, a2, f⟩ := hp
      obtain rfl := e2.symm
      rw [x0', x1', y0', y1', t2] at a0 a1
      refine go J1 f (fun c hc => ?_)
      rcases below3 hc with rfl | rfl | rfl
      · exact a0
      · exact a1
      · exact a2
    · refine v_X7_229 dX7_make_134 rfl ⟨rfl, rfl, Nat.le_of_ble_eq_true rfl, Nat.le_of_ble_eq_true rfl⟩ (c_product3 hd) rfl rfl (Nat.le_of_ble_eq_true rfl) (fun r I1 J1 hp => ?_)
      obtain ⟨rfl, e2, a0, a1, a2, f⟩ := hp
      obtain rfl := e2.symm
      rw [x0', x1', x2', y0', y1', y2', t2] at a0 a1 a2
      refine go J1 f (fun c hc => ?_)
      rcases below3 hc with rfl | rfl | rfl
      · exact a0
      · exact a1
      · exact a2
  · refine loop (fun a b => a - b) (fun c Jc hc kk => bX7_make_78 (fun _ => bX7_make_106 (j110 := c) (j117 := c) rfl hc rfl hc kk) (fun q => absurd q (by decide))) (fun Jc fc vc => ?_)
    refine bX7_make_128 (fun _ => bX7_make_137 (fun c => absurd rfl c) (fun _ => bX7_make_142 ?_)) (fun c => absurd c (by decide))
    have x0' : Jc 10 0 = (fun c => (I 3 (3 * x.toNat + c)).toInt64) 0 := by rw [fc 10 (by decide)]; exact x0
    have x1' : Jc 10 1 = (fun c => (I 3 (3 * x.toNat + c)).toInt64) 1 := by rw [fc 10 (by decide)]; exact x1
    have x2' : Jc 10 2 = (fun c => (I 3 (3 * x.toNat + c)).toInt64) 2 := by rw [fc 10 (by decide)]; exact x2
    have y0' : Jc 11 0 = (fun c => (I 3 (3 * y.toNat + c)).toInt64) 0 := by rw [fc 11 (by decide)]; exact v0
    have y1' : Jc 11 1 = (fun c => (I 3 (3 * y.toNat + c)).toInt64) 1 := by rw [fc 11 (by decide)]; exact v1
    have y2' : Jc 11 2 = (fun c => (I 3 (3 * y.toNat + c)).toInt64) 2 := by rw [fc 11 (by decide)]; exact v2
    have t2 : Jc 2 = J 2 := (fc 2 (by decide)).trans (gab 2 (by decide) (by decide))
    have gc : ∀ J1, (∀ q, q ≠ 9 → q ≠ 10 → q ≠ 11 → q ≠ 12 → J1 q = Jc q) → fr12 J J1 := fun J1 f1 q h9 h10 h11 h12 => (f1 q h9 h10 h11 h12).trans ((fc q h12).trans (gab q h10 h11))
    have bad : ∀ J1, (∀ q, q ≠ 9 → q ≠ 10 → q ≠ 11 → q ≠ 12 → J1 q = Jc q) → ¬ dvO n (fun c => (I 3 (3 * x.toNat + c)).toInt64) (fun c => (I 3 (3 * y.toNat + c)).toInt64) (J 2) → Sat (ER l D aI aL ad) M_X7_make (mkR n ne 3 x y I J) 146 [(0, .ref (ad 0))] [.int 0] I J1 := by
      intro J1 f1 f2
      refine bX7_make_146 (fun c => absurd rfl c) (fun _ => bX7_make_149 ?_)
      refine v_X7_84 dX7_make_152 rfl ⟨rfl, rfl, Nat.le_of_ble_eq_true rfl, Nat.le_of_ble_eq_true rfl⟩ (c_refuse 3 (by decide) rfl) rfl rfl (Nat.le_of_ble_eq_true rfl) (fun r I1 J2 hp => ?_)
      obtain ⟨rfl, rfl, rfl⟩ := hp
      refine bX7_make_155 ?_
      unfold mkR; rw [if_pos cxy, if_pos ⟨w0, w3⟩]
      exact ⟨_, gc _ f1, Or.inl ⟨rfl, f2, rfl, rfl, rfl⟩⟩
    have good : ∀ J1, (∀ q, q ≠ 9 → q ≠ 10 → q ≠ 11 → q ≠ 12 → J1 q = Jc q) → dvO n (fun c => (I 3 (3 * x.toNat + c)).toInt64) (fun c => (I 3 (3 * y.toNat + c)).toInt64) (J 2) → (∀ c, c < 3 → J1 12 c = mkV n 3 (fun c => (I 3 (3 * x.toNat + c)).toInt64) (fun c => (I 3 (3 * y.toNat + c)).toInt64) (J 2) c) → Sat (ER l D aI aL ad) M_X7_make (mkR n ne 3 x y I J) 146 [(0, .ref (ad 0))] [.int 1] I J1 := by
      intro J1 f1 f2 f3
      exact bX7_make_146 (fun _ => fin J1 (gc J1 f1) (fun _ => f2) f3) (fun c => absurd c (by decide))
    rcases h0 with rfl | rfl
    · obtain ⟨q0, q1, q3, q4, q9, q10⟩ := hz2 rfl
      refine v_X7_239 dX7_make_143 rfl ⟨rfl, rfl, Nat.le_of_ble_eq_true rfl, Nat.le_of_ble_eq_true rfl⟩ (c_divide7_2 hd) rfl rfl (Nat.le_of_ble_eq_true rfl) (fun r I1 J1 hp => ?_)
      obtain ⟨e2, f, hp⟩ := hp
      obtain rfl := e2.symm
      have hab := ab_z2 (X := Jc 10) (Y := Jc 11) (T := Jc 2) (by rw [t2]; exact q0) (by rw [t2]; exact q1) (by rw [t2]; exact q3) (by rw [t2]; exact q4) (by rw [t2]; exact q9) (by rw [t2]; exact q10)
      rw [← hab.1, ← hab.2] at hp
      have em : mtx 2 (Jc 11) (Jc 2) = mtx 2 (fun c => (I 3 (3 * y.toNat + c)).toInt64) (J 2) := by
        funext t; unfold mtx; rw [if_pos rfl, if_pos rfl, y0', y1', t2]
      have ea : ∀ j, j < 2 → abv 2 j (mtx 2 (Jc 11) (Jc 2)) (Jc 10) = abv 2 j (mtx 2 (fun c => (I 3 (3 * y.toNat + c)).toInt64) (J 2)) (fun c => (I 3 (3 * x.toNat + c)).toInt64) := by
        intro j hj
        rw [em]; unfold abv
        refine nrV_congr (Or.inl rfl) (fun u v hu hv => ?_) 0
        unfold rpl
        by_cases hh : (3 * u + v) / 3 = j
        · rw [if_pos hh, if_pos hh, show (3 * u + v) % 3 = v by omega]
          have : v = 0 ∨ v = 1 := by omega
          rcases this with rfl | rfl
          · exact x0'
          · exact x1'
        · rw [if_neg hh, if_neg hh]
      rw [ea 0 (by decide), ea 1 (by decide), em] at hp
      by_cases h : ¬ nrV 2 (mtx 2 (fun c => (I 3 (3 * y.toNat + c)).toInt64) (J 2)) 0 = 0 ∧ rm (abv 2 0 (mtx 2 (fun c => (I 3 (3 * y.toNat + c)).toInt64) (J 2)) (fun c => (I 3 (3 * x.toNat + c)).toInt64)) (nrV 2 (mtx 2 (fun c => (I 3 (3 * y.toNat + c)).toInt64) (J 2)) 0) = 0 ∧ rm (abv 2 1 (mtx 2 (fun c => (I 3 (3 * y.toNat + c)).toInt64) (J 2)) (fun c => (I 3 (3 * x.toNat + c)).toInt64)) (nrV 2 (mtx 2 (fun c => (I 3 (3 * y.toNat + c)).toInt64) (J 2)) 0) = 0
      · rw [if_pos h] at hp
        obtain ⟨rfl, a0, a1, a2⟩ := hp
        refine good J1 f ⟨h.1, h.2.1, h.2.2, fun q => absurd q (by decide)⟩ (fun c hc => ?_)
        rcases below3 hc with rfl | rfl | rfl
        · exact a0
        · exact a1
        · exact a2
      · rw [if_neg h] at hp
        obtain rfl := hp
        exact bad J1 f (fun q => h ⟨q.1, q.2.1, q.2.2.1⟩)
    · obtain ⟨s, has, hT⟩ := hz3 rfl
      refine v_X7_239 dX7_make_143 rfl ⟨rfl, rfl, Nat.le_of_ble_eq_true rfl, Nat.le_of_ble_eq_true rfl⟩ (c_divide7_3 hd) rfl rfl (Nat.le_of_ble_eq_true rfl) (fun r I1 J1 hp => ?_)
      obtain ⟨e2, f, hp⟩ := hp
      obtain rfl := e2.symm
      have hab := fun {c : Nat} (hc : c < 3) => ab_z3 (X := Jc 10) (Y := Jc 11) (T := Jc 2) (x := ((Jc 10 0).toInt, (Jc 10 1).toInt, (Jc 10 2).toInt)) (y := ((Jc 11 0).toInt, (Jc 11 1).toInt, (Jc 11 2).toInt)) has (fun i hi => by rcases below3 hi with rfl | rfl | rfl <;> exact (lI_self _).symm) (fun i hi => by rcases below3 hi with rfl | rfl | rfl <;> exact (lI_self _).symm) (fun t ht => by rw [t2]; exact hT t ht) hc
      rw [← hab (c := 0) (by decide), ← hab (c := 1) (by decide), ← hab (c := 2) (by decide)] at hp
      have em : mtx 3 (Jc 11) (Jc 2) = mtx 3 (fun c => (I 3 (3 * y.toNat + c)).toInt64) (J 2) := by
        funext t; unfold mtx; rw [if_neg (by decide), if_neg (by decide), y0', y1', y2', t2]
      have ea : ∀ j, j < 3 → abv 3 j (mtx 3 (Jc 11) (Jc 2)) (Jc 10) = abv 3 j (mtx 3 (fun c => (I 3 (3 * y.toNat + c)).toInt64) (J 2)) (fun c => (I 3 (3 * x.toNat + c)).toInt64) := by
        intro j hj
        rw [em]; unfold abv
        refine nrV_congr (Or.inr rfl) (fun u v hu hv => ?_) 0
        unfold rpl
        by_cases hh : (3 * u + v) / 3 = j
        · rw [if_pos hh, if_pos hh, show (3 * u + v) % 3 = v by omega]
          rcases below3 hv with rfl | rfl | rfl
          · exact x0'
          · exact x1'
          · exact x2'
        · rw [if_neg hh, if_neg hh]
      rw [ea 0 (by decide), ea 1 (by decide), ea 2 (by decide), em] at hp
      by_cases h : ¬ nrV 3 (mtx 3 (fun c => (I 3 (3 * y.toNat + c)).toInt64) (J 2)) 0 = 0 ∧ rm (abv 3 0 (mtx 3 (fun c => (I 3 (3 * y.toNat + c)).toInt64) (J 2)) (fun c => (I 3 (3 * x.toNat + c)).toInt64)) (nrV 3 (mtx 3 (fun c => (I 3 (3 * y.toNat + c)).toInt64) (J 2)) 0) = 0 ∧ rm (abv 3 1 (mtx 3 (fun c => (I 3 (3 * y.toNat + c)).toInt64) (J 2)) (fun c => (I 3 (3 * x.toNat + c)).toInt64)) (nrV 3 (mtx 3 (fun c => (I 3 (3 * y.toNat + c)).toInt64) (J 2)) 0) = 0 ∧ rm (abv 3 2 (mtx 3 (fun c => (I 3 (3 * y.toNat + c)).toInt64) (J 2)) (fun c => (I 3 (3 * x.toNat + c)).toInt64)) (nrV 3 (mtx 3 (fun c => (I 3 (3 * y.toNat + c)).toInt64) (J 2)) 0) = 0
      · rw [if_pos h] at hp
        obtain ⟨rfl, a0, a1, a2⟩ := hp
        refine good J1 f ⟨h.1, h.2.1, h.2.2.1, fun _ => h.2.2.2⟩ (fun c hc => ?_)
        rcases below3 hc with rfl | rfl | rfl
        · exact a0
        · exact a1
        · exact a2
      · rw [if_neg h] at hp
        obtain rfl := hp
        exact bad J1 f (fun q => h ⟨q.1, q.2.1, q.2.2.1, q.2.2.2 rfl⟩)
end MK
