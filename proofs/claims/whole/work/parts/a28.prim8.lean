theorem nI_rem {p u : Nat} (hp : 2 ≤ p) (hp2 : p ≤ 97) (hu : u ≤ p) : ((nI p - nI u) - (nI p - nI u) / nI p * nI p).toInt64 = lI (((p : Int) - u) % p) := by
  rw [nI_iI, nI_iI, iI_sub, iI_rem ⟨by omega, by omega⟩ ⟨by omega, by omega⟩ (by omega), Int.tmod_eq_emod_of_nonneg (by omega)]
  have m0 := Int.emod_nonneg ((p : Int) - u) (show (p : Int) ≠ 0 by omega)
  have m1 := Int.emod_lt_of_pos ((p : Int) - u) (show (0 : Int) < p by omega)
  exact iI_lI ⟨by omega, by omega⟩
theorem md_dvd2 (u p : Int) : p ∣ ((p - u) % p - -u) := by
  have := Int.dvd_add (md_dvd (p - u) p) (Int.dvd_refl p)
  have e : (p - u) % p - (p - u) + p = (p - u) % p - -u := by omega
  rw [e] at this; exact this
def FR (n : Nat) (T : Nat → Int) (p : Nat) (L : List (Nat × Nat)) (I : sa_I) (J : sa_J) : Prop := I 0 1 = nI n ∧ (∀ i j c, i < n → j < n → c < 3 → J 2 (9 * i + 3 * j + c) = lI (T (9 * i + 3 * j + c))) ∧ RS n (L.map (pe p)) I J
theorem FR.ho {n : Nat} {T : Nat → Int} {p : Nat} {L L' : List (Nat × Nat)} {I I1 : sa_I} {J J1 : sa_J} (h : FR n T p L I J) (g : hoF I I1 J J1) (hC : RS n (L'.map (pe p)) I1 J1) : FR n T p L' I1 J1 := by
  obtain ⟨a, b, _⟩ := h
  exact ⟨by rw [g.2.1 1 (by decide)]; exact a, fun i j c hi hj hc => by rw [g.2.2 2 (by decide) (by decide)]; exact b i j c hi hj hc, hC⟩
section PV
variable {l : Launch} {D : va_G} {aI aL : ClassId} {ad : Nat → Nat} {P : sa_P}
theorem kn_in {n : Nat} {T : Nat → Int} (rr : Rg n T) {p : Nat} (hp : Prm p) (hp2 : p ≤ 97) {u : Nat} (hu : u < p) : ∀ (d w : Nat), w + d = wm n p → ∀ (I : sa_I) (J : sa_J), FR n T p (wu n T p u ++ wv n T p u w) I J → (∀ I1 J1, FR n T p (wu n T p (u + 1)) I1 J1 → hoF I I1 J J1 → Sat (ER l D aI aL ad) M_X7_knows P 148 [(0, .ref (ad 0)), (1, .int (nI p)), (2, .int (nI u))] [] I1 J1) → Sat (ER l D aI aL ad) M_X7_knows P 49 [(0, .ref (ad 0)), (1, .int (nI p)), (2, .int (nI u)), (3, .int (nI w))] [] I J := by
  intro d
  have hp1 : 2 ≤ p := by have := hp.1; omega
  have h0 := rr.n
  have hm : wm n p ≤ p := by unfold wm; by_cases c : n = 2 <;> simp only [c, if_true, if_false] <;> omega
  have s63 : ∀ {w : Nat} {I : sa_I} {J : sa_J}, w ≤ p → I 0 1 = nI n → (wm n p ≤ w → Sat (ER l D aI aL ad) M_X7_knows P 148 [(0, .ref (ad 0)), (1, .int (nI p)), (2, .int (nI u))] [] I J) → (¬ wm n p ≤ w → Sat (ER l D aI aL ad) M_X7_knows P 66 [(0, .ref (ad 0)), (1, .int (nI p)), (2, .int (nI u)), (3, .int (nI w))] [] I J) → Sat (ER l D aI aL ad) M_X7_knows P 49 [(0, .ref (ad 0)), (1, .int (nI p)), (2, .int (nI u)), (3, .int (nI w))] [] I J := by
    intro w I J hw hI kt kf
    refine bX7_knows_49 (fun c => ?_) (fun c => ?_)
    · have hn : n = 2 := h0.resolve_right (fun h => c (by rw [hI, h]; rfl))
      have e : wm n p = 1 := by unfold wm; rw [if_pos hn]
      rw [e] at kt kf
      exact bX7_knows_62 (bX7_knows_63 (fun c => kt (by rw [nI_lit 1, nJ_le (by omega) (by omega)] at c; exact c)) (fun c => kf (fun h => c (by rw [nI_lit 1, nJ_le (by omega) (by omega)]; exact h))))
    · have hn : ¬ n = 2 := fun h => by rw [hI, h] at c; exact absurd c (by decide)
      have e : wm n p = p := by unfold wm; rw [if_neg hn]
      rw [e] at kt kf
      exact bX7_knows_58 (bX7_knows_63 (fun c => kt (by rw [nJ_le (by omega) (by omega)] at c; exact c)) (fun c => kf (fun h => c (by rw [nJ_le (by omega) (by omega)]; exact h))))
  induction d with
  | zero =>
    intro w hw I J hF kk
    have : w = wm n p := by omega
    refine s63 (by omega) hF.1 (fun _ => kk I J ?_ hoF.rfl') (fun c => absurd (by omega) c)
    rw [wu_succ, ← this]; exact hF
  | succ d ih =>
    intro w hw I J hF kk
    refine s63 (by omega) hF.1 (fun c => by omega) (fun _ => ?_)
    have pz : ¬ nI p = 0 := fun h => by rw [nI_lit 0, nJ_eq (by omega) (by omega)] at h; omega
    refine bX7_knows_66 pz pz ?_
    rw [nI_rem hp1 hp2 (show w ≤ p by omega), nI_rem hp1 hp2 (show u ≤ p by omega), nI_L (show p < 2 ^ 31 by omega)]
    refine v_X7_297 dX7_knows_81 rfl ⟨rfl, rfl, Nat.le_of_ble_eq_true rfl, Nat.le_of_ble_eq_true rfl⟩ (c_isWay rr hp1 hp2 (md_bd _ hp1 hp2) (md_bd _ hp1 hp2) hF.1 hF.2.1) rfl rfl (Nat.le_of_ble_eq_true rfl) (fun r I1 J1 hq => ?_)
    obtain ⟨q2, q3, hr⟩ := hq
    obtain rfl := q2.symm
    obtain rfl := q3.symm
    have key : wy n T p (((p : Int) - u) % p) (((p : Int) - w) % p) ↔ wy n T p (-(u : Int)) (-(w : Int)) := wy_mod (md_dvd2 _ _) (md_dvd2 _ _)
    rcases hr with ⟨hy, rfl⟩ | ⟨hy, rfl⟩
    · refine bX7_knows_84 (fun _ => bX7_knows_90 ?_) (fun c => absurd c (by decide))
      have hy' := key.mp hy
      refine v_X7_310 dX7_knows_96 rfl ⟨rfl, rfl, Nat.le_of_ble_eq_true rfl, Nat.le_of_ble_eq_true rfl⟩ (c_wholeRows (m := 1) h0 hF.1 aJ_R14 (by decide) (by decide)) rfl rfl (Nat.le_of_ble_eq_true rfl) (fun r I1 J1 hq => ?_)
      obtain ⟨rfl, q2, f1, hw1⟩ := hq
      obtain rfl := q2.symm
      have len := wq_len rr hp hu (V := w + 1) (by omega)
      rw [wv_yes hy', ← List.append_assoc, List.length_append] at len
      simp only [List.length_cons, List.length_nil] at len
      have fin : ∀ x : Int64, (n = 3 → x = lI w) → Sat (ER l D aI aL ad) M_X7_knows P 135 [(0, .ref (ad 0)), (1, .int (nI p)), (2, .int (nI u)), (3, .int (nI w))] [.long x, .int (6 : Int32), .ref (ad 14)] I (sa_uJ (sa_uJ J1 14 0 (lI p)) 14 3 (lI u)) := by
        intro x hx
        refine bX7_knows_135 (s1 := 6) (by decide) ?_
        have hC2 : RS n ((wu n T p u ++ wv n T p u w).map (pe p)) I (sa_uJ (sa_uJ (sa_uJ J1 14 0 (lI p)) 14 3 (lI u)) 14 6 x) := by
          refine ⟨hF.2.2.1, fun i e he => ?_⟩
          rw [sa_uJ_ne (by decide), sa_uJ_ne (by decide), sa_uJ_ne (by decide), f1 18 (by decide)]
          exact hF.2.2.2 i e he
        have hR2 : ∀ t, t < 3 * n → (sa_uJ (sa_uJ (sa_uJ J1 14 0 (lI p)) 14 3 (lI u)) 14 6 x) 14 t = lI (prR p u w t) := by
          intro t ht
          have q := hw1 t ht
          have ht9 : t < 9 := by omega
          have s8 : smR n 1 8 = 1 := by show (if n = 2 then (1 : Int) else 1) = 1; by_cases c : n = 2 <;> simp [c]
          by_cases c6 : t = 6
          · subst c6
            rw [sa_uJ_if, if_pos ⟨rfl, rfl⟩]; exact hx (by omega)
          · rcases below9 ht9 with rfl | rfl | rfl | rfl | rfl | rfl | rfl | rfl | rfl <;> simp only [sa_uJ_if] <;> simp only [prR] <;> first | rfl | exact absurd rfl c6 | (rw [if_neg (by decide), if_neg (by decide), if_neg (by decide), q]; first | rfl | rw [s8])
        refine v_X7_314 dX7_knows_139 rfl ⟨rfl, rfl, Nat.le_of_ble_eq_true rfl, Nat.le_of_ble_eq_true rfl⟩ (c_holdsPrime (x := 1) (y := 1) (show n ≤ 3 by omega) (by rw [List.length_map]; omega) hC2 hR2) rfl rfl (Nat.le_of_ble_eq_true rfl) (fun r I3 J3 hq => ?_)
        obtain ⟨rfl, hC3, F3, _⟩ := hq
        have g : hoF I I3 J J3 := by
          refine ⟨F3.1, F3.2.1, fun q a b => ?_⟩
          rw [F3.2.2 q a b, sa_uJ_ne a, sa_uJ_ne a, sa_uJ_ne a, f1 q a]
        refine bX7_knows_142 (v142 := nI (w + 1)) (nI_addE w 1) ?_
        refine ih (w + 1) (by omega) I3 J3 (hF.ho g ?_) (fun I4 J4 a b => kk I4 J4 a (g.tr b))
        rw [wv_yes hy', ← List.append_assoc, List.map_append]; exact hC3
      refine bX7_knows_99 (v106 := lI p) (v114 := lI u) (nI_L (by omega)) (nI_L (by omega)) (fun c => ?_) (fun c => ?_)
      · have hn : n = 2 := h0.resolve_right (fun h => c (by rw [hF.1, h]; rfl))
        exact bX7_knows_134 (fin 0 (fun h => by omega))
      · refine bX7_knows_129 ?_
        rw [nI_L (show w < 2 ^ 31 by omega)]
        exact fin _ (fun _ => rfl)
    · refine bX7_knows_84 (fun c => absurd rfl c) (fun _ => bX7_knows_87 (bX7_knows_142 (v142 := nI (w + 1)) (nI_addE w 1) ?_))
      refine ih (w + 1) (by omega) _ _ ?_ kk
      rw [wv_no (fun h => hy (key.mpr h))]; exact hF
theorem kn_out {n : Nat} {T : Nat → Int} (rr : Rg n T) {p : Nat} (hp : Prm p) (hp2 : p ≤ 97) : ∀ (d u : Nat), u + d = p → ∀ (I : sa_I) (J : sa_J), FR n T p (wu n T p u) I J → (∀ I1 J1, FR n T p (wu n T p p) I1 J1 → hoF I I1 J J1 → Sat (ER l D aI aL ad) M_X7_knows P 154 [(0, .ref (ad 0)), (1, .int (nI p))] [] I1 J1) → Sat (ER l D aI aL ad) M_X7_knows P 42 [(0, .ref (ad 0)), (1, .int (nI p)), (2, .int (nI u))] [] I J := by
  intro d
  have hp1 : 2 ≤ p := by have := hp.1; omega
  induction d with
  | zero =>
    intro u hu I J hF kk
    have : u = p := by omega
    subst this
    exact bX7_knows_42 (fun _ => kk I J hF hoF.rfl') (fun c => absurd (by rw [nJ_le (by omega) (by omega)]; omega) c)
  | succ d ih =>
    intro u hu I J hF kk
    refine bX7_knows_42 (fun c => absurd c (by rw [nJ_le (by omega) (by omega)]; omega)) (fun _ => bX7_knows_47 (v48 := nI 0) rfl ?_)
    refine kn_in rr hp hp2 (u := u) (by omega) (wm n p) 0 (by omega) I J (by rw [wv_zero, List.append_nil]; exact hF) (fun I1 J1 a b => ?_)
    exact bX7_knows_148 (v148 := nI (u + 1)) (nI_addE u 1) (ih (u + 1) (by omega) I1 J1 a (fun I2 J2 c e => kk I2 J2 c (b.tr e)))
end PV
