/-- the reference's basis: h, d, k, l, e -/
def rgo (n : Nat) (f0 f1 f2 Di : Int) : Option (Int × Int × Int × Int × Int) :=
  match bgP (wI n f0 f1 f2) n Di 108 2 (0, 1, 0, 1) (0, 0, 1, 1) with
  | none => none
  | some (f, s) => if n = 2 then some (f.1 % f.2.2.2, f.2.2.2, 0, 0, 1) else
    if 1 ≤ s.2.2.2.tdiv f.2.2.2 then some (f.1 % f.2.2.2, f.2.2.2, (s.1 - s.2.1 / s.2.2.2.tdiv f.2.2.2 * (f.1 % f.2.2.2) * s.2.2.2.tdiv f.2.2.2) % s.2.2.2, s.2.1 - s.2.1 / s.2.2.2.tdiv f.2.2.2 * s.2.2.2.tdiv f.2.2.2, s.2.2.2) else none
def tbI (n : Nat) (f0 f1 f2 h d k l e : Int) (i j : Nat) : Int × Int × Int := if n = 2 then tbI2 f0 f1 h d k l e i j else tbI3 f0 f1 f2 h d k l e i j
def tbC (n : Nat) (f0 f1 f2 h d k l e : Int) (i j : Nat) : Bool := if n = 2 then tbC2 f0 f1 h d k l e i j else tbC3 f0 f1 f2 h d k l e i j
/-- the reference behind begins -/
def rbS (n : Nat) (f0 f1 f2 h d k l e Di : Int) (I : sa_I) (J : sa_J) (I1 : sa_I) (J1 : sa_J) : Prop := rfd I1 f0 f1 f2 h d k l e ∧ I1 0 1 = nI n ∧ I1 0 13 = 0 ∧ I1 0 14 = 0 ∧ I1 0 36 = -1 ∧ I1 0 31 = 0 ∧ (∀ q, q ≠ 0 → I1 q = I q) ∧ J1 0 10 = lI (Di.tdiv (d * e * d * e)) ∧ J1 0 11 = lI Di ∧ (∀ i j, i < n → j < n → J1 2 (9 * i + 3 * j) = lI (tbI n f0 f1 f2 h d k l e i j).1 ∧ J1 2 (9 * i + 3 * j + 1) = lI (tbI n f0 f1 f2 h d k l e i j).2.1 ∧ J1 2 (9 * i + 3 * j + 2) = lI (tbI n f0 f1 f2 h d k l e i j).2.2) ∧ ∀ q, q ≠ 0 → q ≠ 2 → q ≠ 5 → q ≠ 6 → q ≠ 7 → q ≠ 8 → q ≠ 9 → J1 q = J q
section BE
variable {l : Launch} {D : va_G} {aI aL : ClassId} {ad : Nat → Nat} {P : sa_P} {I : sa_I} {J : sa_J}
theorem be_pre {n : Nat} {f0 f1 f2 Di : Int} (hD : J 0 11 = lI Di) (hDb : bd Di 12000) (hpol : pol I n f0 f1 f2) {f' s' : Q4} (h : bgP (wI n f0 f1 f2) n Di 108 2 (0, 1, 0, 1) (0, 0, 1, 1) = some (f', s')) (kk : ∀ J2, at4 J2 5 f' → ok4 f' = true → at4 J2 6 s' → ok4 s' = true → fr5 J J2 → Sat (ER l D aI aL ad) M_X7_begins P 115 [(0, .ref (ad 0))] [] I J2) : Sat (ER l D aI aL ad) M_X7_begins P 0 [(0, .ref (ad 0))] [] I J := by
  refine bX7_begins_0 (v1 := nI 0) rfl ?_
  refine bX7_begins_2  (fun c => absurd c (by decide)) (fun _ => ?_)
  refine bX7_begins_7  (fun c => absurd c (by decide)) (fun _ => ?_)
  refine bX7_begins_17  (fun _ => ?_) (fun c => absurd c (by decide))
  refine bX7_begins_26  ?_
  refine bX7_begins_27 (s1 := 0) (by decide) (fun _ => ?_) (fun c => absurd c (by decide))
  refine bX7_begins_42  ?_
  refine bX7_begins_43 (s1 := 0) (v44 := nI 1) (by decide) rfl ?_
  refine bX7_begins_2  (fun c => absurd c (by decide)) (fun _ => ?_)
  refine bX7_begins_7  (fun _ => ?_) (fun c => absurd c (by decide))
  refine bX7_begins_22  ?_
  refine bX7_begins_27 (s1 := 1) (by decide) (fun _ => ?_) (fun c => absurd c (by decide))
  refine bX7_begins_42  ?_
  refine bX7_begins_43 (s1 := 1) (v44 := nI 2) (by decide) rfl ?_
  refine bX7_begins_2  (fun c => absurd c (by decide)) (fun _ => ?_)
  refine bX7_begins_7  (fun c => absurd c (by decide)) (fun _ => ?_)
  refine bX7_begins_17  (fun _ => ?_) (fun c => absurd c (by decide))
  refine bX7_begins_26  ?_
  refine bX7_begins_27 (s1 := 2) (by decide) (fun c => absurd c (by decide)) (fun _ => ?_)
  refine bX7_begins_38  ?_
  refine bX7_begins_43 (s1 := 2) (v44 := nI 3) (by decide) rfl ?_
  refine bX7_begins_2  (fun c => absurd c (by decide)) (fun _ => ?_)
  refine bX7_begins_7  (fun c => absurd c (by decide)) (fun _ => ?_)
  refine bX7_begins_17  (fun c => absurd c (by decide)) (fun _ => ?_)
  refine bX7_begins_22  ?_
  refine bX7_begins_27 (s1 := 3) (by decide) (fun c => absurd c (by decide)) (fun _ => ?_)
  refine bX7_begins_38  ?_
  refine bX7_begins_43 (s1 := 3) (v44 := nI 4) (by decide) rfl ?_
  refine bX7_begins_2  (fun _ => ?_) (fun c => absurd c (by decide))
  refine bX7_begins_50 (v51 := nI 2) rfl ?_
  exact bg_P (J := J) hD hDb hpol kk 108 2 _ _ _ (by decide) (by decide) ⟨rfl, rfl, rfl, rfl⟩ rfl ⟨rfl, rfl, rfl, rfl⟩ rfl (fun q a b _ _ _ => by simp only [sa_uJ_ne a, sa_uJ_ne b]) h
theorem c_fmE {E : sa_E} {x y : Int64} {a b : Int} (hx : x = lI a) (hy : y = lI b) (ha : rg a) (hb : rg b) (h0 : 0 < b) : Con E M_J9_floorMod_f86c9 yJ9_floorMod_f86c9 [.long x, .long y] I J (p_l (lI (a % b)) I J) := by
  rw [hx, hy]; exact c_floorMod ha hb h0
theorem c_begins2 {f0 f1 h d k l0 e Di : Int} (hD : J 0 11 = lI Di) (hDb : bd Di 12000) (hpol : pol I 2 f0 f1 0) (hg : rgo 2 f0 f1 0 Di = some (h, d, k, l0, e)) (hc : ∀ i j, i < 2 → j < 2 → tbC 2 f0 f1 0 h d k l0 e i j = true) : Con (ER l D aI aL ad) M_X7_begins yX7_begins [.ref (ad 0)] I J (fun r I1 J1 => r = none ∧ rbS 2 f0 f1 0 h d k l0 e Di I J I1 J1) := by
  obtain ⟨f, s, hb, rfl, rfl, rfl, rfl, rfl⟩ : ∃ f s, bgP (wI 2 f0 f1 0) 2 Di 108 2 (0, 1, 0, 1) (0, 0, 1, 1) = some (f, s) ∧ f.1 % f.2.2.2 = h ∧ f.2.2.2 = d ∧ 0 = k ∧ 0 = l0 ∧ 1 = e := by
    unfold rgo at hg
    rcases hb : bgP (wI 2 f0 f1 0) 2 Di 108 2 (0, 1, 0, 1) (0, 0, 1, 1) with _ | ⟨f, s⟩
    · rw [hb] at hg; simp at hg
    · rw [hb] at hg; simp only [if_true, Option.some.injEq, Prod.mk.injEq] at hg
      exact ⟨f, s, rfl, hg.1, hg.2.1, hg.2.2.1, hg.2.2.2.1, hg.2.2.2.2⟩
  have hD0 := hDb.1
  have hD1 := hDb.2
  refine Con.of (by decide +kernel) rfl (Nat.le_of_ble_eq_true rfl) (be_pre hD hDb hpol hb (fun J2 a5 o5 a6 o6 hfr => ?_))
  obtain ⟨b0, b1, b2, b3, b4⟩ := ok4_bd o5
  obtain ⟨c0, c1, c2, c3, c4⟩ := ok4_bd o6
  have r3 := bd_i b3 (by decide)
  have hm1 := Int.emod_nonneg f.1 (b := f.2.2.2) (by omega)
  have hm2 := Int.emod_lt_of_pos f.1 (b := f.2.2.2) (by omega)
  have hb3 := b3.2
  have hc3 := c3.2
  have rh : rgi (f.1 % f.2.2.2) := ⟨by omega, by omega⟩
  refine bX7_begins_115 ?_
  rw [a5.2.2.2, a5.1, lI_iI, lI_iI]
  refine v_X7_132 dX7_begins_130 rfl ⟨rfl, rfl, Nat.le_of_ble_eq_true rfl, Nat.le_of_ble_eq_true rfl⟩ (c_floorModI (bd_i b0 (by decide)) r3 (by omega)) rfl rfl (Nat.le_of_ble_eq_true rfl) (fun r I1 J1 hp => ?_)
  obtain ⟨rfl, rfl, rfl⟩ := hp
  have e144 : (J1 5 3).toInt32 = iI f.2.2.2 := by rw [a5.2.2.2, lI_iI]
  refine bX7_begins_133 e144 rfl rfl rfl (fun _ => ?_) (fun c => absurd (show I1 0 1 = 3 from c) (by rw [hpol.1]; decide))
  obtain ⟨rf0, rf1⟩ : rgi f0 ∧ rgi f1 := by rcases hpol.2.2.2.2 with ⟨_, a, b⟩ | ⟨a, _⟩; exact ⟨bd_i a (by decide), bd_i b (by decide)⟩; exact absurd a (by decide)
  have h2 : I1 0 4 = iI 0 := hpol.2.2.2.1
  have H : rfd (sa_uI (sa_uI (sa_uI (sa_uI (sa_uI I1 0 5 (iI (f.1 % f.2.2.2))) 0 6 (iI f.2.2.2)) 0 9 1) 0 7 0) 0 8 0) f0 f1 0 (f.1 % f.2.2.2) f.2.2.2 (0) (0) (1) := ⟨hpol.2.1, hpol.2.2.1, h2, rfl, rfl, rfl, rfl, rfl, rf0, rf1, ⟨by decide, by decide⟩, rh, r3, ⟨by decide, by decide⟩, ⟨by decide, by decide⟩, ⟨by decide, by decide⟩⟩
  have hde : bd (f.2.2.2 * 1 * f.2.2.2 * 1) 1000000000000 := bd_mono (bd_mul (bd_mul (bd_mul b3 (B := 1000) ⟨by decide, by decide⟩) b3) (B := 1000) ⟨by decide, by decide⟩) (by decide)
  have hdp : 0 < f.2.2.2 * 1 * f.2.2.2 * 1 := Int.mul_pos (Int.mul_pos (Int.mul_pos (by omega) (by omega)) (by omega)) (by omega)
  have e6 : (iI f.2.2.2).toInt64 = lI f.2.2.2 := iI_lI r3
  have e9 : (iI 1).toInt64 = lI 1 := rfl
  have hz : ¬ (iI f.2.2.2).toInt64 * (iI 1).toInt64 * (iI f.2.2.2).toInt64 * (iI 1).toInt64 = 0 := by
    rw [e6, e9, lI_mul, lI_mul, lI_mul]; exact fun q => by have := (lI_eq (bd_rg hde (by decide)) (b := 0) ⟨by omega, by omega⟩).mp q; omega
  have hJ : J1 0 11 = lI Di := by rw [hfr 0 (by decide) (by decide) (by decide) (by decide) (by decide)]; exact hD
  have ev : J1 0 11 / ((iI f.2.2.2).toInt64 * (iI 1).toInt64 * (iI f.2.2.2).toInt64 * (iI 1).toInt64) = lI (Di.tdiv (f.2.2.2 * 1 * f.2.2.2 * 1)) := by
    rw [hJ, e6, e9, lI_mul, lI_mul, lI_mul, lI_div (bd_rg hDb (by decide)) (bd_rg hde (by decide)) hdp]
  refine bX7_begins_247 hz ev ?_
  have hq0 : ¬ (iI f.2.2.2).toInt64 * (iI 1).toInt64 * ((iI f.2.2.2).toInt64 * (iI 1).toInt64) = 0 := by
    rw [e6, e9, lI_mul, lI_mul]; exact fun q => by have := (lI_eq (bd_rg (bd_mono (bd_mul (bd_mul b3 (B := 1000) ⟨by decide, by decide⟩) (bd_mul b3 (B := 1000) ⟨by decide, by decide⟩)) (show (1000000000000 : Int) ≤ 1000000000000 by decide)) (by decide)) (b := 0) ⟨by omega, by omega⟩).mp q; have : 0 < f.2.2.2 * 1 * (f.2.2.2 * 1) := Int.mul_pos (Int.mul_pos (by omega) (by omega)) (Int.mul_pos (by omega) (by omega)); omega
  have hq1 : ¬ (iI 1).toInt64 = 0 := by rw [e9]; exact fun q => by have := (lI_eq (a := 1) (b := 0) ⟨by omega, by omega⟩ ⟨by omega, by omega⟩).mp q; omega
  have hq2 : ¬ (iI f.2.2.2).toInt64 = 0 := by rw [e6]; exact fun q => by have := (lI_eq (a := f.2.2.2) (b := 0) ⟨by omega, by omega⟩ ⟨by omega, by omega⟩).mp q; omega
  refine v_X7_160 dX7_begins_280 rfl ⟨rfl, rfl, Nat.le_of_ble_eq_true rfl, Nat.le_of_ble_eq_true rfl⟩ (c_tables2 hpol.1 hq0 hq1 hq2) rfl rfl (Nat.le_of_ble_eq_true rfl) (fun r I2 J3 hp => ?_)
  obtain ⟨rfl, rfl, ⟨x00, y00, z00⟩, ⟨x01, y01, z01⟩, ⟨x10, y10, z10⟩, ⟨x11, y11, z11⟩, g⟩ := hp
  obtain ⟨u00, v00, w00⟩ := tb2_I H (i := 0) (j := 0) (hc 0 0 (by decide) (by decide))
  obtain ⟨u01, v01, w01⟩ := tb2_I H (i := 0) (j := 1) (hc 0 1 (by decide) (by decide))
  obtain ⟨u10, v10, w10⟩ := tb2_I H (i := 1) (j := 0) (hc 1 0 (by decide) (by decide))
  obtain ⟨u11, v11, w11⟩ := tb2_I H (i := 1) (j := 1) (hc 1 1 (by decide) (by decide))
  refine bX7_begins_283 rfl rfl rfl rfl ⟨rfl, H, hpol.1, rfl, rfl, rfl, rfl, ?_, ?_, ?_, ?_, ?_⟩
  · intro q hq; simp only [sa_uI_ne hq]
  · rw [congrFun (g 0 (by decide) (by decide)) 10]; rfl
  · rw [congrFun (g 0 (by decide) (by decide)) 11]; exact hJ
  · intro i j hi hj
    match i, j with
    | 0, 0 => exact ⟨x00.trans u00, y00.trans v00, z00.trans w00⟩
    | 0, 1 => exact ⟨x01.trans u01, y01.trans v01, z01.trans w01⟩
    | 1, 0 => exact ⟨x10.trans u10, y10.trans v10, z10.trans w10⟩
    | 1, 1 => exact ⟨x11.trans u11, y11.trans v11, z11.trans w11⟩
    | 0, _ + 2 => exact absurd hj (by omega)
    | 1, _ + 2 => exact absurd hj (by omega)
    | _ + 2, _ => exact absurd hi (by omega)
  · intro q h0 h2 h5 h6 h7 h8 h9; rw [g q h2 h8, sa_uJ_ne h0]; exact hfr q h5 h6 h7 h8 h9
theorem c_begins3 {f0 f1 f2 h d k l0 e Di : Int} (hD : J 0 11 = lI Di) (hDb : bd Di 12000) (hpol : pol I 3 f0 f1 f2) (hg : rgo 3 f0 f1 f2 Di = some (h, d, k, l0, e)) (hc : ∀ i j, i < 3 → j < 3 → tbC 3 f0 f1 f2 h d k l0 e i j = true) : Con (ER l D aI aL ad) M_X7_begins yX7_begins [.ref (ad 0)] I J (fun r I1 J1 => r = none ∧ rbS 3 f0 f1 f2 h d k l0 e Di I J I1 J1) := by
  obtain ⟨f, s, hb, rfl, rfl, rfl, rfl, rfl, hby⟩ : ∃ f s, bgP (wI 3 f0 f1 f2) 3 Di 108 2 (0, 1, 0, 1) (0, 0, 1, 1) = some (f, s) ∧ f.1 % f.2.2.2 = h ∧ f.2.2.2 = d ∧ (s.1 - s.2.1 / s.2.2.2.tdiv f.2.2.2 * (f.1 % f.2.2.2) * s.2.2.2.tdiv f.2.2.2) % s.2.2.2 = k ∧ s.2.1 - s.2.1 / s.2.2.2.tdiv f.2.2.2 * s.2.2.2.tdiv f.2.2.2 = l0 ∧ s.2.2.2 = e ∧ 1 ≤ s.2.2.2.tdiv f.2.2.2 := by
    unfold rgo at hg
    rcases hb : bgP (wI 3 f0 f1 f2) 3 Di 108 2 (0, 1, 0, 1) (0, 0, 1, 1) with _ | ⟨f, s⟩
    · rw [hb] at hg; simp at hg
    · rw [hb] at hg; simp only [if_neg (show ¬ (3 : Nat) = 2 by decide)] at hg
      by_cases c : 1 ≤ s.2.2.2.tdiv f.2.2.2
      · rw [if_pos c] at hg; simp only [Option.some.injEq, Prod.mk.injEq] at hg
        exact ⟨f, s, rfl, hg.1, hg.2.1, hg.2.2.1, hg.2.2.2.1, hg.2.2.2.2, c⟩
      · rw [if_neg c] at hg; simp at hg
  have hD0 := hDb.1
  have hD1 := hDb.2
  refine Con.of (by decide +kernel) rfl (Nat.le_of_ble_eq_true rfl) (be_pre hD hDb hpol hb (fun J2 a5 o5 a6 o6 hfr => ?_))
  obtain ⟨b0, b1, b2, b3, b4⟩ := ok4_bd o5
  obtain ⟨c0, c1, c2, c3, c4⟩ := ok4_bd o6
  have r3 := bd_i b3 (by decide)
  have hm1 := Int.emod_nonneg f.1 (b := f.2.2.2) (by omega)
  have hm2 := Int.emod_lt_of_pos f.1 (b := f.2.2.2) (by omega)
  have hb3 := b3.2
  have hc3 := c3.2
  have rh : rgi (f.1 % f.2.2.2) := ⟨by omega, by omega⟩
  refine bX7_begins_115 ?_
  rw [a5.2.2.2, a5.1, lI_iI, lI_iI]
  refine v_X7_132 dX7_begins_130 rfl ⟨rfl, rfl, Nat.le_of_ble_eq_true rfl, Nat.le_of_ble_eq_true rfl⟩ (c_floorModI (bd_i b0 (by decide)) r3 (by omega)) rfl rfl (Nat.le_of_ble_eq_true rfl) (fun r I1 J1 hp => ?_)
  obtain ⟨rfl, rfl, rfl⟩ := hp
  have e144 : (J1 5 3).toInt32 = iI f.2.2.2 := by rw [a5.2.2.2, lI_iI]
  refine bX7_begins_133 e144 rfl rfl rfl (fun c => absurd (show I1 0 1 = 3 from hpol.1) c) (fun _ => ?_)
  have e178 : (J1 6 3).toInt32 = iI s.2.2.2 := by rw [a6.2.2.2, lI_iI]
  have re := bd_i c3 (by decide)
  have hby2 : s.2.2.2.tdiv f.2.2.2 ≤ 1000 := by rw [Int.tdiv_eq_ediv_of_nonneg (by omega)]; exact Int.le_trans (Int.ediv_le_self _ (by omega)) hc3
  have hzd : ¬ iI f.2.2.2 = 0 := fun q => by have := (iI_eq r3 (b := 0) ⟨by omega, by omega⟩).mp q; omega
  have e191 : (iI s.2.2.2 / iI f.2.2.2).toInt64 = lI (s.2.2.2.tdiv f.2.2.2) := by rw [iI_div re r3 (by omega), iI_lI ⟨by omega, by omega⟩]
  refine bX7_begins_170 hzd e178 e191 ?_
  rw [a6.2.1]
  have rby : rg (s.2.2.2.tdiv f.2.2.2) := ⟨by omega, by omega⟩
  refine v_X7_151 dX7_begins_199 rfl ⟨rfl, rfl, Nat.le_of_ble_eq_true rfl, Nat.le_of_ble_eq_true rfl⟩ (c_floorDiv (bd_rg c1 (by decide)) rby (by omega)) rfl rfl (Nat.le_of_ble_eq_true rfl) (fun r I1 J1 hp => ?_)
  obtain ⟨rfl, rfl, rfl⟩ := hp
  have hl0 := Int.emod_nonneg s.2.1 (b := s.2.2.2.tdiv f.2.2.2) (by omega)
  have hl1 := Int.emod_lt_of_pos s.2.1 (b := s.2.2.2.tdiv f.2.2.2) (by omega)
  have hl2 := Int.emod_def s.2.1 (s.2.2.2.tdiv f.2.2.2)
  rw [Int.mul_comm] at hl2
  have rl : rgi (s.2.1 - s.2.1 / s.2.2.2.tdiv f.2.2.2 * s.2.2.2.tdiv f.2.2.2) := ⟨by omega, by omega⟩
  have e215 : ((J1 6 1) - (lI (s.2.1 / s.2.2.2.tdiv f.2.2.2) * lI (s.2.2.2.tdiv f.2.2.2))).toInt32 = iI (s.2.1 - s.2.1 / s.2.2.2.tdiv f.2.2.2 * s.2.2.2.tdiv f.2.2.2) := by rw [a6.2.1, lI_mul, lI_sub, lI_iI]
  refine bX7_begins_202 e215 ?_
  have hk1 : (J1 6 0) - ((lI (s.2.1 / s.2.2.2.tdiv f.2.2.2) * (iI (f.1 % f.2.2.2)).toInt64) * lI (s.2.2.2.tdiv f.2.2.2)) = lI (s.1 - s.2.1 / s.2.2.2.tdiv f.2.2.2 * (f.1 % f.2.2.2) * s.2.2.2.tdiv f.2.2.2) := by rw [a6.1, iI_lI rh, lI_mul, lI_mul, lI_sub]
  have hm : bd (s.2.1 / s.2.2.2.tdiv f.2.2.2) 1000 := by
    have h1 := c1.1
    have h2 := c1.2
    exact ⟨Int.le_ediv_of_mul_le (by omega) (by omega), Int.ediv_le_of_le_mul (by omega) (by omega)⟩
  have hkb : rg (s.1 - s.2.1 / s.2.2.2.tdiv f.2.2.2 * (f.1 % f.2.2.2) * s.2.2.2.tdiv f.2.2.2) := bd_rg (bd_sub c0 (bd_mul (bd_mul hm (A := 1000) (B := 1000) ⟨by omega, by omega⟩) (B := 1000) ⟨by omega, by omega⟩)) (by decide)
  refine v_X7_155 dX7_begins_240 rfl ⟨rfl, rfl, Nat.le_of_ble_eq_true rfl, Nat.le_of_ble_eq_true rfl⟩ (c_fmE (a := s.1 - s.2.1 / s.2.2.2.tdiv f.2.2.2 * (f.1 % f.2.2.2) * s.2.2.2.tdiv f.2.2.2) (b := s.2.2.2) hk1 (iI_lI re) hkb (bd_rg c3 (by decide)) (by omega)) rfl rfl (Nat.le_of_ble_eq_true rfl) (fun r I1 J1 hp => ?_)
  obtain ⟨rfl, rfl, rfl⟩ := hp
  have hk2 := Int.emod_nonneg (s.1 - s.2.1 / s.2.2.2.tdiv f.2.2.2 * (f.1 % f.2.2.2) * s.2.2.2.tdiv f.2.2.2) (b := s.2.2.2) (by omega)
  have hk3 := Int.emod_lt_of_pos (s.1 - s.2.1 / s.2.2.2.tdiv f.2.2.2 * (f.1 % f.2.2.2) * s.2.2.2.tdiv f.2.2.2) (b := s.2.2.2) (by omega)
  refine bX7_begins_243 (lI_iI _) ?_
  obtain ⟨rf0, rf1, rf2⟩ : rgi f0 ∧ rgi f1 ∧ rgi f2 := by rcases hpol.2.2.2.2 with ⟨a, _⟩ | ⟨_, a, b, c⟩; exact absurd a (by decide); exact ⟨bd_i a (by decide), bd_i b (by decide), bd_i c (by decide)⟩
  have H : rfd (sa_uI (sa_uI (sa_uI (sa_uI (sa_uI (sa_uI (sa_uI (sa_uI I1 0 5 (iI (f.1 % f.2.2.2))) 0 6 (iI f.2.2.2)) 0 9 1) 0 7 0) 0 8 0) 0 9 (iI s.2.2.2)) 0 8 (iI (s.2.1 - s.2.1 / s.2.2.2.tdiv f.2.2.2 * s.2.2.2.tdiv f.2.2.2))) 0 7 (iI ((s.1 - s.2.1 / s.2.2.2.tdiv f.2.2.2 * (f.1 % f.2.2.2) * s.2.2.2.tdiv f.2.2.2) % s.2.2.2))) f0 f1 f2 (f.1 % f.2.2.2) f.2.2.2 ((s.1 - s.2.1 / s.2.2.2.tdiv f.2.2.2 * (f.1 % f.2.2.2) * s.2.2.2.tdiv f.2.2.2) % s.2.2.2) (s.2.1 - s.2.1 / s.2.2.2.tdiv f.2.2.2 * s.2.2.2.tdiv f.2.2.2) (s.2.2.2) := ⟨hpol.2.1, hpol.2.2.1, hpol.2.2.2.1, rfl, rfl, rfl, rfl, rfl, rf0, rf1, rf2, rh, r3, ⟨by omega, by omega⟩, rl, re⟩
  have hde : bd (f.2.2.2 * s.2.2.2 * f.2.2.2 * s.2.2.2) 1000000000000 := bd_mono (bd_mul (bd_mul (bd_mul b3 c3) b3) c3) (by decide)
  have hdp : 0 < f.2.2.2 * s.2.2.2 * f.2.2.2 * s.2.2.2 := Int.mul_pos (Int.mul_pos (Int.mul_pos (by omega) (by omega)) (by omega)) (by omega)
  have e6 : (iI f.2.2.2).toInt64 = lI f.2.2.2 := iI_lI r3
  have e9 : (iI s.2.2.2).toInt64 = lI s.2.2.2 := iI_lI re
  have hz : ¬ (iI f.2.2.2).toInt64 * (iI s.2.2.2).toInt64 * (iI f.2.2.2).toInt64 * (iI s.2.2.2).toInt64 = 0 := by
    rw [e6, e9, lI_mul, lI_mul, lI_mul]; exact fun q => by have := (lI_eq (bd_rg hde (by decide)) (b := 0) ⟨by omega, by omega⟩).mp q; omega
  have hJ : J1 0 11 = lI Di := by rw [hfr 0 (by decide) (by decide) (by decide) (by decide) (by decide)]; exact hD
  have ev : J1 0 11 / ((iI f.2.2.2).toInt64 * (iI s.2.2.2).toInt64 * (iI f.2.2.2).toInt64 * (iI s.2.2.2).toInt64) = lI (Di.tdiv (f.2.2.2 * s.2.2.2 * f.2.2.2 * s.2.2.2)) := by
    rw [hJ, e6, e9, lI_mul, lI_mul, lI_mul, lI_div (bd_rg hDb (by decide)) (bd_rg hde (by decide)) hdp]
  refine bX7_begins_247 hz ev ?_
  have hq0 : ¬ (iI f.2.2.2).toInt64 * (iI s.2.2.2).toInt64 * ((iI f.2.2.2).toInt64 * (iI s.2.2.2).toInt64) = 0 := by
    rw [e6, e9, lI_mul, lI_mul]; exact fun q => by have := (lI_eq (bd_rg (bd_mono (bd_mul (bd_mul b3 c3) (bd_mul b3 c3)) (show (1000000000000 : Int) ≤ 1000000000000 by decide)) (by decide)) (b := 0) ⟨by omega, by omega⟩).mp q; have : 0 < f.2.2.2 * s.2.2.2 * (f.2.2.2 * s.2.2.2) := Int.mul_pos (Int.mul_pos (by omega) (by omega)) (Int.mul_pos (by omega) (by omega)); omega
  have hq1 : ¬ (iI s.2.2.2).toInt64 = 0 := by rw [e9]; exact fun q => by have := (lI_eq (a := s.2.2.2) (b := 0) ⟨by omega, by omega⟩ ⟨by omega, by omega⟩).mp q; omega
  have hq2 : ¬ (iI f.2.2.2).toInt64 = 0 := by rw [e6]; exact fun q => by have := (lI_eq (a := f.2.2.2) (b := 0) ⟨by omega, by omega⟩ ⟨by omega, by omega⟩).mp q; omega
  refine v_X7_160 dX7_begins_280 rfl ⟨rfl, rfl, Nat.le_of_ble_eq_true rfl, Nat.le_of_ble_eq_true rfl⟩ (c_tables3 hpol.1 hq0 hq1 hq2) rfl rfl (Nat.le_of_ble_eq_true rfl) (fun r I2 J3 hp => ?_)
  obtain ⟨rfl, rfl, ⟨x00, y00, z00⟩, ⟨x01, y01, z01⟩, ⟨x02, y02, z02⟩, ⟨x10, y10, z10⟩, ⟨x11, y11, z11⟩, ⟨x12, y12, z12⟩, ⟨x20, y20, z20⟩, ⟨x21, y21, z21⟩, ⟨x22, y22, z22⟩, g⟩ := hp
  obtain ⟨u00, v00, w00⟩ := tb3_I H (i := 0) (j := 0) (hc 0 0 (by decide) (by decide))
  obtain ⟨u01, v01, w01⟩ := tb3_I H (i := 0) (j := 1) (hc 0 1 (by decide) (by decide))
  obtain ⟨u02, v02, w02⟩ := tb3_I H (i := 0) (j := 2) (hc 0 2 (by decide) (by decide))
  obtain ⟨u10, v10, w10⟩ := tb3_I H (i := 1) (j := 0) (hc 1 0 (by decide) (by decide))
  obtain ⟨u11, v11, w11⟩ := tb3_I H (i := 1) (j := 1) (hc 1 1 (by decide) (by decide))
  obtain ⟨u12, v12, w12⟩ := tb3_I H (i := 1) (j := 2) (hc 1 2 (by decide) (by decide))
  obtain ⟨u20, v20, w20⟩ := tb3_I H (i := 2) (j := 0) (hc 2 0 (by decide) (by decide))
  obtain ⟨u21, v21, w21⟩ := tb3_I H (i := 2) (j := 1) (hc 2 1 (by decide) (by decide))
  obtain ⟨u22, v22, w22⟩ := tb3_I H (i := 2) (j := 2) (hc 2 2 (by decide) (by decide))
  refine bX7_begins_283 rfl rfl rfl rfl ⟨rfl, H, hpol.1, rfl, rfl, rfl, rfl, ?_, ?_, ?_, ?_, ?_⟩
  · intro q hq; simp only [sa_uI_ne hq]
  · rw [congrFun (g 0 (by decide) (by decide)) 10]; rfl
  · rw [congrFun (g 0 (by decide) (by decide)) 11]; exact hJ
  · intro i j hi hj
    match i, j with
    | 0, 0 => exact ⟨x00.trans u00, y00.trans v00, z00.trans w00⟩
    | 0, 1 => exact ⟨x01.trans u01, y01.trans v01, z01.trans w01⟩
    | 0, 2 => exact ⟨x02.trans u02, y02.trans v02, z02.trans w02⟩
    | 1, 0 => exact ⟨x10.trans u10, y10.trans v10, z10.trans w10⟩
    | 1, 1 => exact ⟨x11.trans u11, y11.trans v11, z11.trans w11⟩
    | 1, 2 => exact ⟨x12.trans u12, y12.trans v12, z12.trans w12⟩
    | 2, 0 => exact ⟨x20.trans u20, y20.trans v20, z20.trans w20⟩
    | 2, 1 => exact ⟨x21.trans u21, y21.trans v21, z21.trans w21⟩
    | 2, 2 => exact ⟨x22.trans u22, y22.trans v22, z22.trans w22⟩
    | 0, _ + 3 => exact absurd hj (by omega)
    | 1, _ + 3 => exact absurd hj (by omega)
    | 2, _ + 3 => exact absurd hj (by omega)
    | _ + 3, _ => exact absurd hi (by omega)
  · intro q h0 h2 h5 h6 h7 h8 h9; rw [g q h2 h8, sa_uJ_ne h0]; exact hfr q h5 h6 h7 h8 h9
end BE
