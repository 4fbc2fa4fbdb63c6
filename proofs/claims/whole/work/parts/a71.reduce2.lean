/-- the reduced form that a form is brought to -/
def RD (D : Int) (f : F3) : F3 := rdN D 61 f
/-- the form of an ideal -/
def pfR (T R : Nat → Int) : F3 := (R 0 / R 4, 2 * (R 3 / R 4) + T 13, (R 3 / R 4 * (R 3 / R 4) + R 3 / R 4 * T 13 - T 12) / (R 0 / R 4))
theorem pfR_of {x y : Int} {R : Nat → Int} (hb : bd x 200 ∧ bd y 20) (h : IdR 2 (T2 x y) R) (hns : ∀ b : Int, b * b ≠ y * y + 4 * x) : ∃ a e c, R 0 = a * R 4 ∧ R 3 = e * R 4 ∧ 0 < a ∧ 0 ≤ e ∧ e < a ∧ e * e + e * y - x = a * c ∧ a ≤ 1000000 ∧ pfR (T2 x y) R = (a, 2 * e + y, c) ∧ FI (y * y + 4 * x) (a, 2 * e + y, c) ∧ bdF (a, 2 * e + y, c) 10000000 := by
  obtain ⟨hm, r2, hi, hn⟩ := h
  obtain ⟨q6, q7, q8⟩ := r2 rfl
  have bR := hm.bd hn
  obtain ⟨⟨_, _, _, p0, p4, p8⟩, h3, _⟩ := hm
  have w := idl_WL (n := 2) (Or.inl ⟨rfl, x, y, rfl, hb.1, hb.2⟩) r2 hi
  obtain ⟨i, a, e1, e2⟩ := w.w1 ⟨by assumption, by assumption, by assumption, p0, p4, p8⟩
  have s1 := hi (0, 1, 0) _ (Sp_in R).2.1
  rw [Sp2_iff ⟨q6, q7, q8⟩] at s1
  obtain ⟨j, j1, k, k1⟩ := s1
  rw [muv2] at j1 k1
  dsimp only [T2] at j1 k1
  have jj : R 3 = (j - y) * R 4 := by
    have : 0 * R 4 + 1 * R 3 + 1 * R 4 * y = j * R 4 := j1
    have e3 : (j - y) * R 4 = j * R 4 - R 4 * y := by grind
    have e4 : 1 * R 4 * y = R 4 * y := by rw [Int.one_mul]
    rw [e3]; omega
  have kk : 0 * R 3 + 1 * R 4 * x - j * R 3 = k * R 0 := k1
  obtain ⟨e, he⟩ : ∃ e, e = j - y := ⟨_, rfl⟩
  rw [← he] at jj
  have ej : j = e + y := by omega
  have a0 : 0 < a := by
    rcases Int.lt_or_le 0 a with c | c
    · exact c
    · have := Int.mul_nonneg (show 0 ≤ -a by omega) (show 0 ≤ R 4 by omega); rw [Int.neg_mul] at this; omega
  have e0 : 0 ≤ e := by
    rcases Int.lt_or_le e 0 with c | c
    · have := Int.mul_le_mul_of_nonneg_right (show e ≤ -1 by omega) (show 0 ≤ R 4 by omega); omega
    · exact c
  have ea : e < a := by
    rcases Int.lt_or_le e a with c | c
    · exact c
    · have := Int.mul_le_mul_of_nonneg_right c (show 0 ≤ R 4 by omega); omega
  have main : e * e + e * y - x = a * (-k) := by
    have t : R 4 * (e * e + e * y - x) = R 4 * (a * (-k)) := by
      rw [jj, ej, e2] at kk
      have l1 : R 4 * (e * e + e * y - x) = -(0 * (e * R 4) + 1 * R 4 * x - (e + y) * (e * R 4)) := by grind
      have l2 : R 4 * (a * (-k)) = -(k * (a * R 4)) := by grind
      rw [l1, l2, kk]
    exact Int.eq_of_mul_eq_mul_left (by omega) t
  have amax : a ≤ 1000000 := by
    have := (bR 0 (by decide)).2
    have m : a * 1 ≤ a * R 4 := Int.mul_le_mul_of_nonneg_left (by omega) (by omega)
    omega
  have d0 : R 0 / R 4 = a := quo_ex p4 e2
  have d3 : R 3 / R 4 = e := quo_ex p4 jj
  have dc : (e * e + e * y - x) / a = -k := quo_ex a0 (by rw [main, Int.mul_comm])
  have hFI : (2 * e + y) * (2 * e + y) - 4 * a * (-k) = y * y + 4 * x := by
    have : 4 * a * (-k) = 4 * (a * (-k)) := by rw [Int.mul_assoc]
    rw [this, ← main]; grind
  have ck : -k ≠ 0 := fun z => hns (2 * e + y) (by rw [z, Int.mul_zero] at hFI; omega)
  refine ⟨a, e, -k, e2, jj, a0, e0, ea, main, amax, ?_, ⟨hFI, by show a ≠ 0; omega, ck⟩, ⟨⟨by show _ ≤ a; omega, by show a ≤ _; omega⟩, ?_, ?_⟩⟩
  · show (R 0 / R 4, 2 * (R 3 / R 4) + y, (R 3 / R 4 * (R 3 / R 4) + R 3 / R 4 * y - x) / (R 0 / R 4)) = _
    rw [d0, d3, dc]
  · have := hb.2.1; have := hb.2.2; exact ⟨by show _ ≤ 2 * e + y; omega, by show 2 * e + y ≤ _; omega⟩
  · show bd (-k) 10000000
    refine quoBd (x := e * e + e * y - x) a0 main ⟨?_, ?_⟩
    · have m1 : 0 ≤ e * e := Int.mul_nonneg e0 e0
      have m2 : e * (-20) ≤ e * y := Int.mul_le_mul_of_nonneg_left (by have := hb.2.1; omega) e0
      have := hb.1.2
      omega
    · have m1 : e * e ≤ a * 1000000 := Int.mul_le_mul (by omega) (by omega) e0 (by omega)
      have m2 : e * y ≤ e * 20 := Int.mul_le_mul_of_nonneg_left hb.2.2 e0
      have := hb.1.1
      omega
section GB
variable {l : Launch} {DD : va_G} {aI aL : ClassId} {ad : Nat → Nat} {P : sa_P} {I : sa_I} {J : sa_J}
theorem rd_loop {D : Int} (hD : DOK D) {J0 : sa_J} : ∀ (k t : Nat) (f : F3) (J : sa_J), wiN D k f → t + k < 1000 → FI D f → (D < 0 → 0 < f.1) → bdF f 10000000 → fmS D f J → ffr J0 J → (∀ J1, fmS D (rdN D (k + 1) f) J1 → ffr J0 J1 → FI D (rdN D (k + 1) f) → bdF (rdN D (k + 1) f) 10000000 → P none I J1) → Sat (EC l DD aI aL ad) M_X1_reduce P 2 [(0, .ref (ad 27)), (1, .int (nI t))] [] I J := by
  have gD := bd_rg hD.bd (by decide)
  have nz : D ≠ 0 := fun q => hD.nsq 0 (by rw [q]; rfl)
  have fin : ∀ {t : Nat} {f : F3} {J : sa_J}, t < 1000 → bdF f 10000000 → fmS D f J → (rdB D f.1 f.2.1 f.2.2 = true → P none I J) → (¬ rdB D f.1 f.2.1 f.2.2 = true → Sat (EC l DD aI aL ad) M_X1_reduce P 16 [(0, .ref (ad 27)), (1, .int (nI t))] [] I J) → Sat (EC l DD aI aL ad) M_X1_reduce P 2 [(0, .ref (ad 27)), (1, .int (nI t))] [] I J := by
    intro t f J ht hb hm ky kn
    refine bX1_reduce_2 (fun c => absurd c (by rw [nI_lit 1000, nJ_le (by omega) (by omega)]; omega)) (fun _ => bX1_reduce_9 ?_)
    refine v_X1_83 dX1_reduce_10 rfl ⟨rfl, rfl, Nat.le_of_ble_eq_true rfl, Nat.le_of_ble_eq_true rfl⟩ (c_isReduced6 hD.bd (bdF_mono hb (by decide)) hm) rfl rfl (Nat.le_of_ble_eq_true rfl) (fun r I1 J1 hq => ?_)
    obtain ⟨e1, e2, hbb⟩ := hq
    obtain rfl := e1.symm
    obtain rfl := e2.symm
    rcases hbb with ⟨q, rfl⟩ | ⟨q, rfl⟩
    · exact bX1_reduce_13 (fun _ => bX1_reduce_42 (ky q)) (fun c => absurd c (by decide))
    · exact bX1_reduce_13 (fun c => absurd rfl c) (fun _ => kn q)
  intro k
  induction k with
  | zero =>
    intro t f J hw ht hF hn hb hm fJ kk
    have hw' : rdB D f.1 f.2.1 f.2.2 = true := hw
    refine fin (by omega) hb hm (fun q => ?_) (fun q => absurd hw' q)
    rw [rdN, if_pos hw'] at kk
    exact kk J hm fJ hF hb
  | succ k ih =>
    intro t f J hw ht hF hn hb hm fJ kk
    refine fin (by omega) hb hm (fun q => ?_) (fun q => ?_)
    · rw [rdN, if_pos q] at kk
      exact kk J hm fJ hF hb
    rw [rdN, if_neg q] at kk
    obtain ⟨s1, s2, s3⟩ := stp_bd hD (by decide) hF hn hb
    have go : ∀ {J1 : sa_J}, fmS D (stpF D f) J1 → ffr J J1 → Sat (EC l DD aI aL ad) M_X1_reduce P 36 [(0, .ref (ad 27)), (1, .int (nI t))] [] I J1 := fun h1 h2 =>
      bX1_reduce_36 (v36 := nI (t + 1)) (nI_addE t 1) (ih (t + 1) (stpF D f) _ (hw.resolve_left q) (by omega) s2 s3 s1 h1 (fJ.tr h2) kk)
    by_cases c : 0 < D
    · refine bX1_reduce_16 (fun z => absurd z (by rw [hm.1, show (0 : Int64) = lI 0 from rfl, lI_le gD ⟨by omega, by omega⟩]; omega)) (fun _ => bX1_reduce_25 ?_)
      refine v_X1_93 dX1_reduce_26 rfl ⟨rfl, rfl, Nat.le_of_ble_eq_true rfl, Nat.le_of_ble_eq_true rfl⟩ (c_goNext hD.bd (bdF_mono hb (by decide)) hF.2.2 hm) rfl rfl (Nat.le_of_ble_eq_true rfl) (fun r I1 J1 hq => ?_)
      obtain ⟨rfl, e1, h1, h2⟩ := hq
      obtain rfl := e1.symm
      refine bX1_reduce_29 (go ?_ h2)
      unfold stpF; rw [if_pos c]; exact h1
    · refine bX1_reduce_16 (fun _ => bX1_reduce_32 ?_) (fun z => absurd (by rw [hm.1, show (0 : Int64) = lI 0 from rfl, lI_le gD ⟨by omega, by omega⟩]; omega) z)
      refine v_X1_114 dX1_reduce_33 rfl ⟨rfl, rfl, Nat.le_of_ble_eq_true rfl, Nat.le_of_ble_eq_true rfl⟩ (c_turn hD.bd (bdF_mono hb (by decide)) (hn (by omega)) hm) rfl rfl (Nat.le_of_ble_eq_true rfl) (fun r I1 J1 hq => ?_)
      obtain ⟨rfl, e1, h1, h2⟩ := hq
      obtain rfl := e1.symm
      refine go ?_ h2
      unfold stpF; rw [if_neg c]; exact h1
theorem c_reduce {D : Int} (hD : DOK D) {f : F3} (hw : wiN D 60 f) (hF : FI D f) (hn : D < 0 → 0 < f.1) (hb : bdF f 10000000) (hm : fmS D f J) : Con (EC l DD aI aL ad) M_X1_reduce yX1_reduce [.ref (ad 27)] I J (fun r I1 J1 => r = none ∧ I1 = I ∧ fmS D (RD D f) J1 ∧ ffr J J1 ∧ FI D (RD D f) ∧ bdF (RD D f) 10000000) := by
  refine Con.of (by decide +kernel) rfl (Nat.le_of_ble_eq_true rfl) ?_
  exact bX1_reduce_0 (v1 := nI 0) rfl (rd_loop hD 60 0 f J hw (by decide) hF hn hb hm ffr.rfl' (fun J1 h1 h2 h3 h4 => ⟨rfl, rfl, h1, h2, h3, h4⟩))
end GB
