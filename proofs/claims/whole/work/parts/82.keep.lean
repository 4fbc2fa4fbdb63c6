/-! a new element, if its coordinates and the room allow it -/
def loE (x y z : Int64) : Prop := x < -300 ∨ y < -300 ∨ z < -300
def hiE (x y z : Int64) : Prop := 300 < x ∨ 300 < y ∨ 300 < z
def keC (I : sa_I) (J : sa_J) (ne : Nat) (x y z : Int64) : sa_P := fun r I1 J1 =>
  (loE x y z ∧ r = some (.int (-4)) ∧ I1 = rf I 4 ∧ J1 = J) ∨
  (¬ loE x y z ∧ (hiE x y z ∨ ne = 100) ∧ r = some (.int (-6)) ∧ I1 = rf I 6 ∧ J1 = J) ∨
  (¬ loE x y z ∧ ¬ hiE x y z ∧ ne < 100 ∧ r = some (.int (nI ne)) ∧ I1 = sa_uI I 0 8 (nI (ne + 1)) ∧ J1 = sa_rJ J 2 (va_cpy (J 9) (J 2) 0 (3 * ne) 3))
def keR (I : sa_I) (J : sa_J) (ne : Nat) (x y z : Int64) : sa_P := fun r I1 J1 =>
  (loE x y z ∧ r = some (.int (-4)) ∧ I1 = rf I 4 ∧ J1 = J) ∨
  (¬ loE x y z ∧ (hiE x y z ∨ ne = 100) ∧ r = some (.int (-6)) ∧ I1 = rf I 6 ∧ J1 = J) ∨
  (¬ loE x y z ∧ ¬ hiE x y z ∧ ne < 100 ∧ r = some (.int (nI ne)) ∧ I1 = sa_uI (sa_uI (sa_uI (sa_uI I 3 (3 * ne) x.toInt32) 3 (3 * ne + 1) y.toInt32) 3 (3 * ne + 2) z.toInt32) 0 13 (nI (ne + 1)) ∧ J1 = J)
theorem nJ_pred (n : Nat) : nI (n + 1) - 1 = nI n := by
  rw [← nI_addE n 1]; show nI n + 1 - 1 = nI n; exact Int32.add_sub_cancel _ _
theorem nJ_lt {a b : Nat} (ha : a < 2 ^ 31) (hb : b < 2 ^ 31) : nI a < nI b ↔ a < b := Int32.ofNat_lt_ofNat ha hb
theorem nJ_le {a b : Nat} (ha : a < 2 ^ 31) (hb : b < 2 ^ 31) : nI a ≤ nI b ↔ a ≤ b := Int32.ofNat_le_ofNat ha hb
theorem nJ_eq {a b : Nat} (ha : a < 2 ^ 31) (hb : b < 2 ^ 31) : nI a = nI b ↔ a = b := by
  constructor
  · intro h
    have h1 := (nJ_le ha hb).mp (by rw [h]; exact Int32.le_refl _)
    have h2 := (nJ_le hb ha).mp (by rw [h]; exact Int32.le_refl _)
    omega
  · intro h; rw [h]
section KE
variable {l : Launch} {D : va_G} {aI aL : ClassId} {ad : Nat → Nat} {I : sa_I} {J : sa_J}
theorem c_keepElement {ne : Nat} (hne : I 0 8 = nI ne) (h100 : ne ≤ 100) : Con (EC l D aI aL ad) M_X6_keepElement yX6_keepElement [.ref (ad 0)] I J (keC I J ne (J 9 0) (J 9 1) (J 9 2)) := by
  refine Con.of (by decide +kernel) rfl (Nat.le_of_ble_eq_true rfl) ?_
  have below : loE (J 9 0) (J 9 1) (J 9 2) → Sat (EC l D aI aL ad) M_X6_keepElement (keC I J ne (J 9 0) (J 9 1) (J 9 2)) 23 [(0, .ref (ad 0))] [] I J := by
    intro h
    refine bX6_keepElement_23 (v_X6_59 dX6_keepElement_26 rfl ⟨rfl, rfl, Nat.le_of_ble_eq_true rfl, Nat.le_of_ble_eq_true rfl⟩ (c_refused 4 (by decide) rfl) rfl rfl (Nat.le_of_ble_eq_true rfl) (fun r I1 J1 hp => ?_))
    obtain ⟨rfl, rfl, rfl⟩ := hp
    exact bX6_keepElement_29 (Or.inl ⟨h, rfl, rfl, rfl⟩)
  have above : ¬ loE (J 9 0) (J 9 1) (J 9 2) → hiE (J 9 0) (J 9 1) (J 9 2) → Sat (EC l D aI aL ad) M_X6_keepElement (keC I J ne (J 9 0) (J 9 1) (J 9 2)) 59 [(0, .ref (ad 0))] [] I J := by
    intro h0 h
    refine bX6_keepElement_59 (v_X6_59 dX6_keepElement_62 rfl ⟨rfl, rfl, Nat.le_of_ble_eq_true rfl, Nat.le_of_ble_eq_true rfl⟩ (c_refused 6 (by decide) rfl) rfl rfl (Nat.le_of_ble_eq_true rfl) (fun r I1 J1 hp => ?_))
    obtain ⟨rfl, rfl, rfl⟩ := hp
    exact bX6_keepElement_65 (Or.inr (Or.inl ⟨h0, Or.inl h, rfl, rfl, rfl⟩))
  have n0 : ∀ {x : Int64}, ¬ (-300 : Int64) ≤ x → x < -300 := fun h => Int64.not_le.mp h
  have n1 : ∀ {x : Int64}, ¬ x ≤ (300 : Int64) → 300 < x := fun h => Int64.not_le.mp h
  have m0 : ∀ {x : Int64}, (-300 : Int64) ≤ x → ¬ x < -300 := fun h => Int64.not_lt.mpr h
  have m1 : ∀ {x : Int64}, x ≤ (300 : Int64) → ¬ 300 < x := fun h => Int64.not_lt.mpr h
  refine bX6_keepElement_0 (v1 := nI 0) rfl (bX6_keepElement_2 (fun c => absurd c (by decide)) (fun _ => ?_))
  refine bX6_keepElement_7 (j14 := 0) rfl (by decide) (fun c0 => ?_) (fun c => below (Or.inl (n0 c)))
  refine bX6_keepElement_30 (v30 := nI 1) rfl (bX6_keepElement_2 (fun c => absurd c (by decide)) (fun _ => ?_))
  refine bX6_keepElement_7 (j14 := 1) rfl (by decide) (fun c1 => ?_) (fun c => below (Or.inr (Or.inl (n0 c))))
  refine bX6_keepElement_30 (v30 := nI 2) rfl (bX6_keepElement_2 (fun c => absurd c (by decide)) (fun _ => ?_))
  refine bX6_keepElement_7 (j14 := 2) rfl (by decide) (fun c2 => ?_) (fun c => below (Or.inr (Or.inr (n0 c))))
  have hlo : ¬ loE (J 9 0) (J 9 1) (J 9 2) := by
    rintro (h | h | h)
    · exact m0 c0 h
    · exact m0 c1 h
    · exact m0 c2 h
  refine bX6_keepElement_30 (v30 := nI 3) rfl (bX6_keepElement_2 (fun _ => ?_) (fun c => absurd c (by decide)))
  refine bX6_keepElement_36 (v37 := nI 0) rfl (bX6_keepElement_38 (fun c => absurd c (by decide)) (fun _ => ?_))
  refine bX6_keepElement_43 (j50 := 0) rfl (by decide) (fun d0 => ?_) (fun c => above hlo (Or.inl (n1 c)))
  refine bX6_keepElement_66 (v66 := nI 1) rfl (bX6_keepElement_38 (fun c => absurd c (by decide)) (fun _ => ?_))
  refine bX6_keepElement_43 (j50 := 1) rfl (by decide) (fun d1 => ?_) (fun c => above hlo (Or.inr (Or.inl (n1 c))))
  refine bX6_keepElement_66 (v66 := nI 2) rfl (bX6_keepElement_38 (fun c => absurd c (by decide)) (fun _ => ?_))
  refine bX6_keepElement_43 (j50 := 2) rfl (by decide) (fun d2 => ?_) (fun c => above hlo (Or.inr (Or.inr (n1 c))))
  have hhi : ¬ hiE (J 9 0) (J 9 1) (J 9 2) := by
    rintro (h | h | h)
    · exact m1 d0 h
    · exact m1 d1 h
    · exact m1 d2 h
  refine bX6_keepElement_66 (v66 := nI 3) rfl (bX6_keepElement_38 (fun _ => ?_) (fun c => absurd c (by decide)))
  refine bX6_keepElement_72 (fun c => ?_) (fun c => ?_)
  · rw [hne] at c
    have c := (nJ_lt (b := 100) (by omega) (by decide)).mp c
    refine bX6_keepElement_88 ?_
    rw [hne, show (3 : Int32) * nI ne = nI (3 * ne) from nI_mulE 3 ne]
    refine s_copy (n0 := 3) (sp := 0) (dp := 3 * ne) (n := 3) (n' := 300) aJ_C9 aJ_C2 dX6_keepElement_107 (by decide +kernel) (Nat.le_of_ble_eq_true rfl) (Nat.le_of_ble_eq_true rfl) (by decide) (by omega) (by decide) (by omega) (by omega) ?_
    refine bX6_keepElement_110 (v117 := nI (ne + 1)) (by rw [hne]; exact nI_addE ne 1) (Or.inr (Or.inr ⟨hlo, hhi, c, ?_, rfl, rfl⟩))
    rw [sa_uI_at, nJ_pred]
  · rw [hne] at c
    have c : ¬ ne < 100 := fun q => c ((nJ_lt (b := 100) (by omega) (by decide)).mpr q)
    refine bX6_keepElement_81 (v_X6_59 dX6_keepElement_84 rfl ⟨rfl, rfl, Nat.le_of_ble_eq_true rfl, Nat.le_of_ble_eq_true rfl⟩ (c_refused 6 (by decide) rfl) rfl rfl (Nat.le_of_ble_eq_true rfl) (fun r I1 J1 hp => ?_))
    obtain ⟨rfl, rfl, rfl⟩ := hp
    exact bX6_keepElement_87 (Or.inr (Or.inl ⟨hlo, Or.inr (by omega), rfl, rfl, rfl⟩))
theorem c_adds {ne : Nat} {x y z : Int64} (hne : I 0 13 = nI ne) (h100 : ne ≤ 100) : Con (ER l D aI aL ad) M_X7_adds yX7_adds [.ref (ad 0), .long x, .long y, .long z] I J (keR I J ne x y z) := by
  refine Con.of (by decide +kernel) rfl (Nat.le_of_ble_eq_true rfl) ?_
  have below : loE x y z → Sat (ER l D aI aL ad) M_X7_adds (keR I J ne x y z) 25 [(0, .ref (ad 0))] [] I J := by
    intro h
    refine bX7_adds_25 (v_X7_84 dX7_adds_28 rfl ⟨rfl, rfl, Nat.le_of_ble_eq_true rfl, Nat.le_of_ble_eq_true rfl⟩ (c_refuse 4 (by decide) rfl) rfl rfl (Nat.le_of_ble_eq_true rfl) (fun r I1 J1 hp => ?_))
    obtain ⟨rfl, rfl, rfl⟩ := hp
    exact bX7_adds_31 (Or.inl ⟨h, rfl, rfl, rfl⟩)
  have above : ¬ loE x y z → (hiE x y z ∨ ne = 100) → Sat (ER l D aI aL ad) M_X7_adds (keR I J ne x y z) 66 [(0, .ref (ad 0))] [] I J := by
    intro h0 h
    refine bX7_adds_66 (v_X7_84 dX7_adds_69 rfl ⟨rfl, rfl, Nat.le_of_ble_eq_true rfl, Nat.le_of_ble_eq_true rfl⟩ (c_refuse 6 (by decide) rfl) rfl rfl (Nat.le_of_ble_eq_true rfl) (fun r I1 J1 hp => ?_))
    obtain ⟨rfl, rfl, rfl⟩ := hp
    exact bX7_adds_72 (Or.inr (Or.inl ⟨h0, h, rfl, rfl, rfl⟩))
  refine bX7_adds_0 (fun c => below (Or.inl c)) (fun c0 => bX7_adds_8 (fun c => below (Or.inr (Or.inl c))) (fun c1 => bX7_adds_16 (fun c2 => ?_) (fun c => below (Or.inr (Or.inr (Int64.not_le.mp c))))))
  have hlo : ¬ loE x y z := by
    rintro (h | h | h)
    · exact c0 h
    · exact c1 h
    · exact Int64.not_lt.mpr c2 h
  refine bX7_adds_32 (fun c => above hlo (Or.inl (Or.inl c))) (fun d0 => bX7_adds_40 (fun c => above hlo (Or.inl (Or.inr (Or.inl c)))) (fun d1 => bX7_adds_48 (fun c => above hlo (Or.inl (Or.inr (Or.inr c)))) (fun d2 => bX7_adds_57 (fun c => ?_) (fun c => above hlo (Or.inr ?_)))))
  · have hhi : ¬ hiE x y z := by
      rintro (h | h | h)
      · exact d0 h
      · exact d1 h
      · exact d2 h
    rw [hne] at c
    have c : ne ≠ 100 := fun q => c (by rw [q]; rfl)
    have e3 : (3 : Int32) * nI ne = nI (3 * ne) := nI_mulE 3 ne
    refine bX7_adds_73 (j82 := 3 * ne) (j97 := 3 * ne + 1) (j112 := 3 * ne + 2) (v124 := nI (ne + 1)) (by rw [hne]; exact e3) (by omega) ?_ (by omega) ?_ (by omega) rfl rfl rfl ?_ (Or.inr (Or.inr ⟨hlo, hhi, by omega, ?_, rfl, rfl⟩))
    · rw [sa_uI_ne (by decide), hne, e3]; exact nI_addE (3 * ne) 1
    · rw [sa_uI_ne (by decide), sa_uI_ne (by decide), hne, e3]; exact nI_addE (3 * ne) 2
    · rw [sa_uI_ne (by decide), sa_uI_ne (by decide), sa_uI_ne (by decide), hne]; exact nI_addE ne 1
    · rw [sa_uI_at, nJ_pred]
  · rw [hne] at c
    exact (nJ_eq (b := 100) (by omega) (by decide)).mp c
end KE
