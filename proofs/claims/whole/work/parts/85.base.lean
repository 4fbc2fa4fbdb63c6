theorem inB_I {x : Int} {m : Nat} (hx : rgi x) (hm : m < 2 ^ 31) : inB (iI x) (nI m) = if 0 ≤ x ∧ x < m then 1 else 0 := by
  have e1 : (iI x < 0) ↔ x < 0 := iI_ltc hx ⟨by omega, by omega⟩ rfl
  have e2 : (nI m ≤ iI x) ↔ (m : Int) ≤ x := iI_cle hx ⟨by omega, by omega⟩ rfl
  unfold inB
  by_cases c1 : x < 0
  · rw [if_pos (e1.mpr c1), if_neg (by omega)]
  · rw [if_neg (fun q => c1 (e1.mp q))]
    by_cases c2 : (m : Int) ≤ x
    · rw [if_pos (e2.mpr c2), if_neg (by omega)]
    · rw [if_neg (fun q => c2 (e2.mp q)), if_pos (by omega)]
theorem iI_nat {x : Int} (h : 0 ≤ x) : iI x = nI x.toNat := by rw [nI_iI, Int.toNat_of_nonneg h]
/-- one or the other: an answer, or a refusal by the code j -/
def orP (c : Prop) [Decidable c] (v w : Int32) (j : Nat) (I : sa_I) (J : sa_J) : sa_P := if c then p_i v I J else p_i w (rf I j) J
section BA
variable {l : Launch} {D : va_G} {aI aL : ClassId} {ad : Nat → Nat} {I : sa_I} {J : sa_J}
theorem orP_t {c : Prop} [Decidable c] {v w : Int32} {j : Nat} (h : c) : orP c v w j I J (some (.int v)) I J := by unfold orP; rw [if_pos h]; exact ⟨rfl, rfl, rfl⟩
theorem orP_f {c : Prop} [Decidable c] {v w : Int32} {j : Nat} (h : ¬ c) : orP c v w j I J (some (.int w)) (rf I j) J := by unfold orP; rw [if_neg h]; exact ⟨rfl, rfl, rfl⟩
def baR (I : sa_I) (n : Nat) (x y : Int) : Int32 := if y = n then (if x = 0 then 1 else if x = 1 then I 0 6 else I 0 9) else if x = y then 1 else if x < y then 0 else if x = 1 then I 0 5 else if y = 0 then I 0 7 else I 0 8
theorem c_table6 {n : Nat} {x y z : Int} (hn : I 4 0 = nI n) (h0 : n = 2 ∨ n = 3) (hx : rgi x) (hy : rgi y) (hz : rgi z) : Con (EC l D aI aL ad) M_X6_table yX6_table [.ref (ad 0), .int (iI x), .int (iI y), .int (iI z)] I J (orP (0 ≤ x ∧ x < n ∧ 0 ≤ y ∧ y < n ∧ 0 ≤ z ∧ z < n) ((J 8 (9 * x.toNat + 3 * y.toNat + z.toNat)).toInt32) (2000000000 - (-1)) 1 I J) := by
  refine Con.of (by decide +kernel) rfl (Nat.le_of_ble_eq_true rfl) ?_
  have hnz : ¬ I 4 0 = 0 := by rw [hn]; rcases h0 with rfl | rfl <;> decide
  have hm : n < 2 ^ 31 := by omega
  have no : ¬ (0 ≤ x ∧ x < n ∧ 0 ≤ y ∧ y < n ∧ 0 ≤ z ∧ z < n) → Sat (EC l D aI aL ad) M_X6_table ((orP (0 ≤ x ∧ x < n ∧ 0 ≤ y ∧ y < n ∧ 0 ≤ z ∧ z < n) ((J 8 (9 * x.toNat + 3 * y.toNat + z.toNat)).toInt32) (2000000000 - (-1)) 1 I J)) 41 [(0, .ref (ad 0))] [] I J := by
    intro h
    refine bX6_table_41 ?_
    refine v_X6_116 dX6_table_43 rfl ⟨rfl, rfl, Nat.le_of_ble_eq_true rfl, Nat.le_of_ble_eq_true rfl⟩ (c_told 1 (by decide) rfl) rfl rfl (Nat.le_of_ble_eq_true rfl) (fun r I1 J1 hp => ?_)
    obtain ⟨rfl, rfl, rfl⟩ := hp
    exact bX6_table_46 (orP_f h)
  refine bX6_table_0 (fun _ => bX6_table_17 ?_) (fun c => absurd c hnz)
  refine v_X6_106 dX6_table_19 rfl ⟨rfl, rfl, Nat.le_of_ble_eq_true rfl, Nat.le_of_ble_eq_true rfl⟩ (c_isPlace6) rfl rfl (Nat.le_of_ble_eq_true rfl) (fun r I1 J1 hp => ?_)
  obtain ⟨rfl, e2, e3⟩ := hp
  obtain rfl := e2.symm
  obtain rfl := e3.symm
  rw [hn, inB_I hx hm]
  by_cases cx : 0 ≤ x ∧ x < n
  rotate_left
  · rw [if_neg cx]; exact bX6_table_22 (fun _ => no (fun h => cx ⟨by omega, by omega⟩)) (fun c => absurd rfl c)
  rw [if_pos cx]
  refine bX6_table_22 (fun c => absurd c (by decide)) (fun _ => bX6_table_25 ?_)
  refine v_X6_106 dX6_table_27 rfl ⟨rfl, rfl, Nat.le_of_ble_eq_true rfl, Nat.le_of_ble_eq_true rfl⟩ (c_isPlace6) rfl rfl (Nat.le_of_ble_eq_true rfl) (fun r I1 J1 hp => ?_)
  obtain ⟨rfl, e2, e3⟩ := hp
  obtain rfl := e2.symm
  obtain rfl := e3.symm
  rw [hn, inB_I hy hm]
  by_cases cy : 0 ≤ y ∧ y < n
  rotate_left
  · rw [if_neg cy]; exact bX6_table_30 (fun _ => no (fun h => cy ⟨by omega, by omega⟩)) (fun c => absurd rfl c)
  rw [if_pos cy]
  refine bX6_table_30 (fun c => absurd c (by decide)) (fun _ => bX6_table_33 ?_)
  refine v_X6_106 dX6_table_35 rfl ⟨rfl, rfl, Nat.le_of_ble_eq_true rfl, Nat.le_of_ble_eq_true rfl⟩ (c_isPlace6) rfl rfl (Nat.le_of_ble_eq_true rfl) (fun r I1 J1 hp => ?_)
  obtain ⟨rfl, e2, e3⟩ := hp
  obtain rfl := e2.symm
  obtain rfl := e3.symm
  rw [hn, inB_I hz hm]
  by_cases cz : 0 ≤ z ∧ z < n
  rotate_left
  · rw [if_neg cz]; exact bX6_table_38 (fun c => absurd rfl c) (fun _ => no (fun h => cz ⟨by omega, by omega⟩))
  rw [if_pos cz]
  refine bX6_table_38 (fun _ => ?_) (fun c => absurd c (by decide))
  rw [iI_nat cx.1, iI_nat cy.1, iI_nat cz.1]
  exact bX6_table_47 (j63 := 9 * x.toNat + 3 * y.toNat + z.toNat) (by simp only [nI_lit, nI_mulE, nI_addE]) (by omega) (orP_t ⟨cx.1, cx.2, cy.1, cy.2, cz.1, cz.2⟩)
theorem c_table7 {n : Nat} {x y z : Int} (hn : I 0 1 = nI n) (h0 : n = 2 ∨ n = 3) (hx : rgi x) (hy : rgi y) (hz : rgi z) : Con (ER l D aI aL ad) M_X7_table yX7_table [.ref (ad 0), .int (iI x), .int (iI y), .int (iI z)] I J (orP (0 ≤ x ∧ x < n ∧ 0 ≤ y ∧ y < n ∧ 0 ≤ z ∧ z < n) ((J 2 (9 * x.toNat + 3 * y.toNat + z.toNat)).toInt32) (2000000000 - (-1)) 1 I J) := by
  refine Con.of (by decide +kernel) rfl (Nat.le_of_ble_eq_true rfl) ?_
  have hnz : ¬ I 0 1 ≤ 0 := by rw [hn]; rcases h0 with rfl | rfl <;> decide
  have hm : n < 2 ^ 31 := by omega
  have no : ¬ (0 ≤ x ∧ x < n ∧ 0 ≤ y ∧ y < n ∧ 0 ≤ z ∧ z < n) → Sat (ER l D aI aL ad) M_X7_table ((orP (0 ≤ x ∧ x < n ∧ 0 ≤ y ∧ y < n ∧ 0 ≤ z ∧ z < n) ((J 2 (9 * x.toNat + 3 * y.toNat + z.toNat)).toInt32) (2000000000 - (-1)) 1 I J)) 66 [(0, .ref (ad 0))] [] I J := by
    intro h
    refine bX7_table_66 ?_
    refine v_X7_214 dX7_table_68 rfl ⟨rfl, rfl, Nat.le_of_ble_eq_true rfl, Nat.le_of_ble_eq_true rfl⟩ (c_refuseFar 1 (by decide) rfl) rfl rfl (Nat.le_of_ble_eq_true rfl) (fun r I1 J1 hp => ?_)
    obtain ⟨rfl, rfl, rfl⟩ := hp
    exact bX7_table_71 (orP_f h)
  refine bX7_table_0 ?_
  refine v_X7_203 dX7_table_1 rfl ⟨rfl, rfl, Nat.le_of_ble_eq_true rfl, Nat.le_of_ble_eq_true rfl⟩ (c_isField) rfl rfl (Nat.le_of_ble_eq_true rfl) (fun r I1 J1 hp => ?_)
  obtain ⟨rfl, e2, e3⟩ := hp
  obtain rfl := e2.symm
  obtain rfl := e3.symm
  rw [if_neg hnz]
  refine bX7_table_4 (fun _ => bX7_table_14 ?_) (fun c => absurd c (by decide))
  rw [hn]
  refine v_X7_210 dX7_table_19 rfl ⟨rfl, rfl, Nat.le_of_ble_eq_true rfl, Nat.le_of_ble_eq_true rfl⟩ (c_isIn) rfl rfl (Nat.le_of_ble_eq_true rfl) (fun r I1 J1 hp => ?_)
  obtain ⟨rfl, e2, e3⟩ := hp
  obtain rfl := e2.symm
  obtain rfl := e3.symm
  rw [inB_I hx hm]
  by_cases cx : 0 ≤ x ∧ x < n
  rotate_left
  · rw [if_neg cx]; exact bX7_table_22 (fun _ => no (fun h => cx ⟨by omega, by omega⟩)) (fun c => absurd rfl c)
  rw [if_pos cx]
  refine bX7_table_22 (fun c => absurd c (by decide)) (fun _ => bX7_table_25 ?_)
  rw [hn]
  refine v_X7_210 dX7_table_30 rfl ⟨rfl, rfl, Nat.le_of_ble_eq_true rfl, Nat.le_of_ble_eq_true rfl⟩ (c_isIn) rfl rfl (Nat.le_of_ble_eq_true rfl) (fun r I1 J1 hp => ?_)
  obtain ⟨rfl, e2, e3⟩ := hp
  obtain rfl := e2.symm
  obtain rfl := e3.symm
  rw [inB_I hy hm]
  by_cases cy : 0 ≤ y ∧ y < n
  rotate_left
  · rw [if_neg cy]; exact bX7_table_33 (fun _ => no (fun h => cy ⟨by omega, by omega⟩)) (fun c => absurd rfl c)
  rw [if_pos cy]
  refine bX7_table_33 (fun c => absurd c (by decide)) (fun _ => bX7_table_36 ?_)
  rw [hn]
  refine v_X7_210 dX7_table_41 rfl ⟨rfl, rfl, Nat.le_of_ble_eq_true rfl, Nat.le_of_ble_eq_true rfl⟩ (c_isIn) rfl rfl (Nat.le_of_ble_eq_true rfl) (fun r I1 J1 hp => ?_)
  obtain ⟨rfl, e2, e3⟩ := hp
  obtain rfl := e2.symm
  obtain rfl := e3.symm
  rw [inB_I hz hm]
  by_cases cz : 0 ≤ z ∧ z < n
  rotate_left
  · rw [if_neg cz]; exact bX7_table_44 (fun _ => no (fun h => cz ⟨by omega, by omega⟩)) (fun c => absurd rfl c)
  rw [if_pos cz]
  refine bX7_table_44 (fun c => absurd c (by decide)) (fun _ => ?_)
  rw [iI_nat cx.1, iI_nat cy.1, iI_nat cz.1]
  exact bX7_table_47 (j60 := 9 * x.toNat + 3 * y.toNat + z.toNat) (by simp only [nI_lit, nI_mulE, nI_addE]) (by omega) (bX7_table_71 (orP_t ⟨cx.1, cx.2, cy.1, cy.2, cz.1, cz.2⟩))
theorem c_basis6 {n : Nat} {x y : Int} (hn : I 4 0 = nI n) (h0 : n = 2 ∨ n = 3) (hx : rgi x) (hy : rgi y) : Con (EC l D aI aL ad) M_X6_basis yX6_basis [.ref (ad 0), .int (iI x), .int (iI y)] I J (orP (0 ≤ x ∧ x < n ∧ 0 ≤ y ∧ y ≤ n) (if y = n then (J 7 x.toNat).toInt32 else (J 6 (3 * x.toNat + y.toNat)).toInt32) (-1) 1 I J) := by
  refine Con.of (by decide +kernel) rfl (Nat.le_of_ble_eq_true rfl) ?_
  have hnz : ¬ I 4 0 = 0 := by rw [hn]; rcases h0 with rfl | rfl <;> decide
  have hm : n < 2 ^ 31 := by omega
  have hr : rgi (n : Int) := ⟨by omega, by omega⟩
  have no : ¬ (0 ≤ x ∧ x < n ∧ 0 ≤ y ∧ y ≤ n) → Sat (EC l D aI aL ad) M_X6_basis ((orP (0 ≤ x ∧ x < n ∧ 0 ≤ y ∧ y ≤ n) (if y = n then (J 7 x.toNat).toInt32 else (J 6 (3 * x.toNat + y.toNat)).toInt32) (-1) 1 I J)) 40 [(0, .ref (ad 0))] [] I J := by
    intro h
    refine bX6_basis_40 ?_
    refine v_X6_59 dX6_basis_42 rfl ⟨rfl, rfl, Nat.le_of_ble_eq_true rfl, Nat.le_of_ble_eq_true rfl⟩ (c_refused 1 (by decide) rfl) rfl rfl (Nat.le_of_ble_eq_true rfl) (fun r I1 J1 hp => ?_)
    obtain ⟨rfl, rfl, rfl⟩ := hp
    exact bX6_basis_45 (orP_f h)
  refine bX6_basis_0 (fun _ => bX6_basis_17 ?_) (fun c => absurd c hnz)
  refine v_X6_106 dX6_basis_19 rfl ⟨rfl, rfl, Nat.le_of_ble_eq_true rfl, Nat.le_of_ble_eq_true rfl⟩ (c_isPlace6) rfl rfl (Nat.le_of_ble_eq_true rfl) (fun r I1 J1 hp => ?_)
  obtain ⟨rfl, e2, e3⟩ := hp
  obtain rfl := e2.symm
  obtain rfl := e3.symm
  rw [hn, inB_I hx hm]
  by_cases cx : 0 ≤ x ∧ x < n
  rotate_left
  · rw [if_neg cx]; exact bX6_basis_22 (fun _ => no (fun h => cx ⟨by omega, by omega⟩)) (fun c => absurd rfl c)
  rw [if_pos cx]
  refine bX6_basis_22 (fun c => absurd c (by decide)) (fun _ => bX6_basis_25 (fun c => no (fun h => by have := (iI_ltc hy (k := 0) ⟨by omega, by omega⟩ rfl).mp c; omega)) (fun c => ?_))
  have cy : 0 ≤ y := by
    have : ¬ y < 0 := fun q => c ((iI_ltc hy (k := 0) ⟨by omega, by omega⟩ rfl).mpr q)
    omega
  refine bX6_basis_29 (fun c => ?_) (fun c => no (fun h => c (by rw [hn]; exact (iI_lec hy (k := (n : Int)) hr rfl).mpr (by omega))))
  rw [hn] at c
  have cy2 := (iI_lec hy (k := (n : Int)) hr rfl).mp c
  have hall : (0 ≤ x ∧ x < n ∧ 0 ≤ y ∧ y ≤ n) := ⟨cx.1, cx.2, cy, cy2⟩
  refine bX6_basis_46 (fun c => ?_) (fun c => ?_)
  · rw [hn] at c
    have c : ¬ y = n := fun q => c (by rw [q]; rfl)
    rw [iI_nat cx.1, iI_nat cy]
    refine bX6_basis_69 (j80 := 3 * x.toNat + y.toNat) (by simp only [nI_lit, nI_mulE, nI_addE]) (by omega) (bX6_basis_82 ?_)
    have h := orP_t (I := I) (J := J) (v := if y = n then (J 7 x.toNat).toInt32 else (J 6 (3 * x.toNat + y.toNat)).toInt32) (w := -1) (j := 1) hall
    rw [if_neg c] at h
    rw [if_neg c]; exact h
  · rw [hn] at c
    have c : y = n := (iI_eq hy hr).mp c
    rw [iI_nat cx.1]
    refine bX6_basis_57 (j64 := x.toNat) rfl (by omega) (bX6_basis_82 ?_)
    have h := orP_t (I := I) (J := J) (v := if y = n then (J 7 x.toNat).toInt32 else (J 6 (3 * x.toNat + y.toNat)).toInt32) (w := -1) (j := 1) hall
    rw [if_pos c] at h
    rw [if_pos c]; exact h
theorem c_basis7 {n : Nat} {x y : Int} (hn : I 0 1 = nI n) (h0 : n = 2 ∨ n = 3) (hx : rgi x) (hy : rgi y) : Con (ER l D aI aL ad) M_X7_basis yX7_basis [.ref (ad 0), .int (iI x), .int (iI y)] I J (orP (0 ≤ x ∧ x < n ∧ 0 ≤ y ∧ y ≤ n) (baR I n x y) (-1) 1 I J) := by
  refine Con.of (by decide +kernel) rfl (Nat.le_of_ble_eq_true rfl) ?_
  have hnz : ¬ I 0 1 ≤ 0 := by rw [hn]; rcases h0 with rfl | rfl <;> decide
  have hm : n < 2 ^ 31 := by omega
  have hr : rgi (n : Int) := ⟨by omega, by omega⟩
  have no : ¬ (0 ≤ x ∧ x < n ∧ 0 ≤ y ∧ y ≤ n) → Sat (ER l D aI aL ad) M_X7_basis ((orP (0 ≤ x ∧ x < n ∧ 0 ≤ y ∧ y ≤ n) (baR I n x y) (-1) 1 I J)) 38 [(0, .ref (ad 0))] [] I J := by
    intro h
    refine bX7_basis_38 ?_
    refine v_X7_84 dX7_basis_40 rfl ⟨rfl, rfl, Nat.le_of_ble_eq_true rfl, Nat.le_of_ble_eq_true rfl⟩ (c_refuse 1 (by decide) rfl) rfl rfl (Nat.le_of_ble_eq_true rfl) (fun r I1 J1 hp => ?_)
    obtain ⟨rfl, rfl, rfl⟩ := hp
    exact bX7_basis_43 (orP_f h)
  refine bX7_basis_0 ?_
  refine v_X7_203 dX7_basis_1 rfl ⟨rfl, rfl, Nat.le_of_ble_eq_true rfl, Nat.le_of_ble_eq_true rfl⟩ (c_isField) rfl rfl (Nat.le_of_ble_eq_true rfl) (fun r I1 J1 hp => ?_)
  obtain ⟨rfl, e2, e3⟩ := hp
  obtain rfl := e2.symm
  obtain rfl := e3.symm
  rw [if_neg hnz]
  refine bX7_basis_4 (fun _ => bX7_basis_14 ?_) (fun c => absurd c (by decide))
  rw [hn]
  refine v_X7_210 dX7_basis_19 rfl ⟨rfl, rfl, Nat.le_of_ble_eq_true rfl, Nat.le_of_ble_eq_true rfl⟩ (c_isIn) rfl rfl (Nat.le_of_ble_eq_true rfl) (fun r I1 J1 hp => ?_)
  obtain ⟨rfl, e2, e3⟩ := hp
  obtain rfl := e2.symm
  obtain rfl := e3.symm
  rw [inB_I hx hm]
  by_cases cx : 0 ≤ x ∧ x < n
  rotate_left
  · rw [if_neg cx]; exact bX7_basis_22 (fun _ => no (fun h => cx ⟨by omega, by omega⟩)) (fun c => absurd rfl c)
  rw [if_pos cx]
  refine bX7_basis_22 (fun c => absurd c (by decide)) (fun _ => bX7_basis_25 ?_)
  rw [hn, show nI n + 1 = nI (n + 1) from nI_addE n 1]
  refine v_X7_210 dX7_basis_32 rfl ⟨rfl, rfl, Nat.le_of_ble_eq_true rfl, Nat.le_of_ble_eq_true rfl⟩ (c_isIn) rfl rfl (Nat.le_of_ble_eq_true rfl) (fun r I1 J1 hp => ?_)
  obtain ⟨rfl, e2, e3⟩ := hp
  obtain rfl := e2.symm
  obtain rfl := e3.symm
  rw [inB_I hy (m := n + 1) (by omega)]
  by_cases cy : 0 ≤ y ∧ y < (n + 1 : Nat)
  rotate_left
  · rw [if_neg cy]; exact bX7_basis_35 (fun c => absurd rfl c) (fun _ => no (fun h => cy ⟨by omega, by omega⟩))
  rw [if_pos cy]
  have hall : (0 ≤ x ∧ x < n ∧ 0 ≤ y ∧ y ≤ n) := ⟨cx.1, cx.2, cy.1, by omega⟩
  have ok : ∀ v, baR I n x y = v → orP (0 ≤ x ∧ x < n ∧ 0 ≤ y ∧ y ≤ n) (baR I n x y) (-1) 1 I J (some (.int v)) I J := fun v e => by rw [← e]; exact orP_t hall
  have r0 : rgi 0 := ⟨by omega, by omega⟩
  have r1 : rgi 1 := ⟨by omega, by omega⟩
  refine bX7_basis_35 (fun _ => bX7_basis_44 (fun c => ?_) (fun c => ?_)) (fun c => absurd c (by decide))
  · rw [hn] at c
    have cn : ¬ y = n := fun q => c (by rw [q]; rfl)
    refine bX7_basis_77 (fun c => ?_) (fun c => ?_)
    · have cxy : ¬ x = y := fun q => c (by rw [q])
      refine bX7_basis_84 (fun c => ?_) (fun c => ?_)
      · have cle := (iI_le hy hx).mp c
        refine bX7_basis_93 (fun c => ?_) (fun c => ?_)
        · have c1 : ¬ x = 1 := fun q => c (by rw [q]; rfl)
          refine bX7_basis_105 (fun c => ?_) (fun c => ?_)
          · have c2 : ¬ y = 0 := fun q => c (by rw [q]; rfl)
            exact bX7_basis_116 (bX7_basis_120 (ok _ (by unfold baR; rw [if_neg cn, if_neg cxy, if_neg (by omega), if_neg c1, if_neg c2])))
          · have c2 : y = 0 := (iI_eq hy r0).mp c
            exact bX7_basis_109 (bX7_basis_120 (ok _ (by unfold baR; rw [if_neg cn, if_neg cxy, if_neg (by omega), if_neg c1, if_pos c2])))
        · have c1 : x = 1 := (iI_eq hx r1).mp c
          exact bX7_basis_98 (bX7_basis_120 (ok _ (by unfold baR; rw [if_neg cn, if_neg cxy, if_neg (by omega), if_pos c1])))
      · have clt : x < y := by
          have : ¬ y ≤ x := fun q => c ((iI_le hy hx).mpr q)
          omega
        exact bX7_basis_89 (bX7_basis_120 (ok _ (by unfold baR; rw [if_neg cn, if_neg cxy, if_pos clt])))
    · have cxy : x = y := (iI_eq hx hy).mp c
      exact bX7_basis_82 (ok _ (by unfold baR; rw [if_neg cn, if_pos cxy]))
  · rw [hn] at c
    have cn : y = n := (iI_eq hy hr).mp c
    refine bX7_basis_52 (fun c => ?_) (fun c => ?_)
    · have c0 : ¬ x = 0 := fun q => c (by rw [q]; rfl)
      refine bX7_basis_60 (fun c => ?_) (fun c => ?_)
      · have c1 : ¬ x = 1 := fun q => c (by rw [q]; rfl)
        exact bX7_basis_72 (bX7_basis_76 (ok _ (by unfold baR; rw [if_pos cn, if_neg c0, if_neg c1])))
      · have c1 : x = 1 := (iI_eq hx r1).mp c
        exact bX7_basis_65 (bX7_basis_76 (ok _ (by unfold baR; rw [if_pos cn, if_neg c0, if_pos c1])))
    · have c0 : x = 0 := (iI_eq hx r0).mp c
      exact bX7_basis_56 (bX7_basis_76 (ok _ (by unfold baR; rw [if_pos cn, if_pos c0])))
end BA
