theorem rdN_inv {D : Int} (hD : DOK D) : ∀ (k : Nat) {f : F3}, FI D f → (D < 0 → 0 < f.1) → bdF f 10000000 → FI D (rdN D k f) ∧ bdF (rdN D k f) 10000000 := by
  intro k
  induction k with
  | zero => intro f h1 _ h3; exact ⟨h1, h3⟩
  | succ k ih =>
    intro f h1 h2 h3
    rw [rdN]
    by_cases c : rdB D f.1 f.2.1 f.2.2 = true
    · rw [if_pos c]; exact ⟨h1, h3⟩
    · rw [if_neg c]
      obtain ⟨s1, s2, s3⟩ := stp_bd hD (by decide) h1 h2 h3
      exact ih s2 s3 s1
/-- what is known of the form of an ideal and of its reduced form -/
theorem pf_all {x y : Int} {R : Nat → Int} (hb : bd x 200 ∧ bd y 20) (hD : DOK (y * y + 4 * x)) (h : IdR 2 (T2 x y) R) : FI (y * y + 4 * x) (RD (y * y + 4 * x) (pfR (T2 x y) R)) ∧ bdF (RD (y * y + 4 * x) (pfR (T2 x y) R)) 10000000 ∧ rdB (y * y + 4 * x) (RD (y * y + 4 * x) (pfR (T2 x y) R)).1 (RD (y * y + 4 * x) (pfR (T2 x y) R)).2.1 (RD (y * y + 4 * x) (pfR (T2 x y) R)).2.2 = true := by
  obtain ⟨a, e, c, _, _, a0, _, _, _, amax, epf, hF, hB⟩ := pfR_of hb h (fun b => hD.nsq b)
  rw [epf]
  have hw := wi60 hD hF (fun _ => a0) amax hB
  obtain ⟨i1, i2⟩ := rdN_inv hD 61 hF (fun _ => a0) hB
  exact ⟨i1, i2, rdN_red hw⟩
/-- a form whose ideal is at hand -/
def gdF (D : Int) (g : F3) : Prop := FI D g ∧ 0 < g.1 ∧ g.1 ≤ 90
theorem gdF_idr {x y : Int} {g : F3} (h : gdF (y * y + 4 * x) g) : IdR 2 (T2 x y) (smI g.1 (smE y g)) := by
  obtain ⟨⟨h1, h2⟩, h3, _⟩ := smE_of h.1 h.2.1
  exact smI_idr h.2.1 (by have := h.2.2; omega) h1 h2 h3
theorem gd_pos {D : Int} (hD : DOK D) {f : F3} (hF : FI D f) (hr : rdB D f.1 f.2.1 f.2.2 = true) : gdF D (posF D f) := by
  obtain ⟨p1, p2, _⟩ := posF_of hD hF hr
  exact ⟨p2, p1, red_a hD hF hr⟩
theorem rdyC.keep {D : Int} {I I1 : sa_I} {J J1 : sa_J} (h : rdyC D I J) (h27 : I1 27 = I 27) (h28 : I1 28 = I 28) (h29 : I1 29 = I 29) (j9 : J1 27 9 = J 27 9) (j10 : J1 27 10 = J 27 10) : rdyC D I1 J1 := ⟨h.1.keep (by rw [h27]) h28, by rw [h27]; exact h.2.1, fun q j v hj => by rw [h29]; exact h.2.2.1 q j v hj, by rw [j9]; exact h.2.2.2.1, by rw [j10]; exact h.2.2.2.2⟩
/-- what orderOfRows changes -/
def orF (I I1 : sa_I) (J J1 : sa_J) : Prop := (∀ q, q ≠ 14 → I1 q = I q) ∧ ∀ q, q ≠ 9 → q ≠ 14 → q ≠ 15 → q ≠ 16 → q ≠ 27 → q ≠ 30 → q ≠ 31 → J1 q = J q
section OC
variable {l : Launch} {DD : va_G} {aI aL : ClassId} {ad : Nat → Nat} {P : sa_P} {I : sa_I} {J : sa_J}
theorem oc_loop {x y : Int} (hb : bd x 200 ∧ bd y 20) (hD : DOK (y * y + 4 * x)) (hL : LOK (y * y + 4 * x) (LF (y * y + 4 * x))) {goal : Int} (hg : rgi goal) {base : F3} (hbase : gdF (y * y + 4 * x) base) {r : Nat} {I0 : sa_I} {J0 : sa_J} (hI0 : I0 4 0 = nI 2) (hT0 : ∀ t, t < 27 → J0 8 t = lI (T2 x y t)) (kk : ∀ I1 J1, orF I0 I1 J0 J1 → rdyC (y * y + 4 * x) I1 J1 → P (some (.int (nI r))) I1 J1) : ∀ (k m : Nat) (pw : F3) (rc : Int) (I : sa_I) (J : sa_J), ordC (y * y + 4 * x) x y goal base k pw rc m = some r → m + k = 161 → rgi rc → gdF (y * y + 4 * x) pw → rdyC (y * y + 4 * x) I J → orF I0 I J0 J → (∀ t, t < 9 → J 30 t = lI (smI base.1 (smE y base) t)) → (∀ t, t < 9 → J 31 t = lI (smI pw.1 (smE y pw) t)) → Sat (EC l DD aI aL ad) M_X1_orderOfRows P 62 [(0, .ref (ad 27)), (3, .int (iI goal)), (4, .int (iI rc)), (5, .int (nI m))] [] I J := by
  have rr : Rg 2 (T2 x y) := Or.inl ⟨rfl, x, y, rfl, hb.1, hb.2⟩
  intro k
  induction k with
  | zero => intro m pw rc I J h; exact absurd h (by simp [ordC])
  | succ k ih =>
    intro m pw rc I J h e hrc hpw hr fo m30 m31
    rw [ordC] at h
    refine bX1_orderOfRows_62 (fun c => absurd c (by rw [nI_lit 160, nJ_lt (by omega) (by omega)]; omega)) (fun _ => ?_)
    by_cases c : rc = goal
    · rw [if_pos c] at h
      have em : m = r := Option.some.inj h
      subst em
      exact bX1_orderOfRows_70 (fun _ => bX1_orderOfRows_124 (kk I J fo hr)) (fun q => absurd (by rw [c]) q)
    rw [if_neg c] at h
    refine bX1_orderOfRows_70 (fun q => absurd ((iI_eq hrc hg).mp q) c) (fun _ => bX1_orderOfRows_76 ?_)
    have iX := gdF_idr hpw
    have iY := gdF_idr hbase
    have w : pw.1 * base.1 ≤ 1000000 := by
      have : pw.1 * base.1 ≤ 90 * 90 := Int.mul_le_mul hpw.2.2 hbase.2.2 (by have := hbase.2.1; omega) (by decide)
      omega
    refine v_X1_156 dX1_orderOfRows_90 rfl ⟨rfl, rfl, Nat.le_of_ble_eq_true rfl, Nat.le_of_ble_eq_true rfl⟩ (c_makeProduct (X := smI pw.1 (smE y pw)) (Y := smI base.1 (smE y base)) (by rw [fo.1 4 (by decide)]; exact hI0) (fun t ht => by rw [fo.2 8 (by decide) (by decide) (by decide) (by decide) (by decide) (by decide) (by decide)]; exact hT0 t ht) (iX.ok rr) (iY.ok rr) w rr (p1 := 0) (p3 := 0) aJ_C31 (by decide) aJ_C30 (by decide) (by decide) (by decide) (by decide) (by decide) (fun t ht => by rw [Nat.zero_add]; exact m31 t ht) (fun t ht => by rw [Nat.zero_add]; exact m30 t ht)) rfl rfl (Nat.le_of_ble_eq_true rfl) (fun r I1 J1 hq => ?_)
    obtain ⟨rfl, sc, so, R, hlat, hR⟩ := hq
    unfold prF at h
    cases hz : prdZ x y pw.1 (smE y pw) base.1 (smE y base) with
    | none => rw [hz] at h; exact absurd h (by simp)
    | some z =>
      obtain ⟨r0, r3, r4⟩ := z
      rw [hz] at h
      dsimp only at h
      have rows := prd_rows hz hlat.2.1 hR
      have iR := prd_ideal hb iX iY ⟨hpw.2.1, hpw.2.2⟩ ⟨hbase.2.1, hbase.2.2⟩ hz
      have hr1 : rdyC (y * y + 4 * x) I1 J1 := hr.keep (sc 27 (by decide)) (sc 28 (by decide)) (sc 29 (by decide)) (by rw [so 27 (by decide) (by decide) (by decide) (by decide)]) (by rw [so 27 (by decide) (by decide) (by decide) (by decide)])
      have n8 : J1 8 = J0 8 := by rw [so 8 (by decide) (by decide) (by decide) (by decide)]; exact fo.2 8 (by decide) (by decide) (by decide) (by decide) (by decide) (by decide) (by decide)
      refine bX1_orderOfRows_93 ?_
      refine v_X1_142 dX1_orderOfRows_105 rfl ⟨rfl, rfl, Nat.le_of_ble_eq_true rfl, Nat.le_of_ble_eq_true rfl⟩ (c_classOfRows6 (R := rwI r0 r3 r4) hb iR hD hL hr1 (by rw [n8]; exact hT0 12 (by decide)) (by rw [n8]; exact hT0 13 (by decide)) (p1 := 0) aJ_C15 (by decide) (by decide) (by decide) (fun t ht => by rw [Nat.zero_add, (hlat.1 t ht).1, rows t ht])) rfl rfl (Nat.le_of_ble_eq_true rfl) (fun r I2 J2 hq => ?_)
      obtain ⟨rfl, e1, fm, ff⟩ := hq
      obtain rfl := e1.symm
      obtain ⟨pa, pb, pc⟩ := pf_all hb hD iR
      have gp := gd_pos hD pa pc
      refine bX1_orderOfRows_108 ?_
      refine v_X1_146 dX1_orderOfRows_115 rfl ⟨rfl, rfl, Nat.le_of_ble_eq_true rfl, Nat.le_of_ble_eq_true rfl⟩ (c_smallRows hb.2 hD pa gp.2.1 (by have := gp.2.2; omega) pb fm (by rw [ff.1 8 (by decide), n8]; exact hT0 13 (by decide)) aJ_C31 ⟨by decide, by decide⟩) rfl rfl (Nat.le_of_ble_eq_true rfl) (fun r I2 J3 hq => ?_)
      obtain ⟨rfl, e1, fm3, w31, f3, f27⟩ := hq
      obtain rfl := e1.symm
      obtain ⟨c1, c2, _⟩ := fdF_bd (a := (RD (y * y + 4 * x) (pfR (T2 x y) (rwI r0 r3 r4))).1) (b := (RD (y * y + 4 * x) (pfR (T2 x y) (rwI r0 r3 r4))).2.1) hL.1
      have hcl : rgi (clsZ (y * y + 4 * x) (pfR (T2 x y) (rwI r0 r3 r4))) := by
        unfold clsZ
        by_cases q : 0 < y * y + 4 * x ∧ 0 ≤ fdF (RD (y * y + 4 * x) (pfR (T2 x y) (rwI r0 r3 r4))).1 (RD (y * y + 4 * x) (pfR (T2 x y) (rwI r0 r3 r4))).2.1 0 (LF (y * y + 4 * x))
        · rw [if_pos q]
          have hlen : (MZ (y * y + 4 * x)).1.length = (LF (y * y + 4 * x)).length := by unfold MZ; rw [MZ_len (y * y + 4 * x), List.length_replicate]
          have hR' : mkRg (MZ (y * y + 4 * x)).1 := by have := MR_R hL.1; unfold MR at this; rw [if_pos q.1] at this; exact this
          have il := (fdF_bd (a := (RD (y * y + 4 * x) (pfR (T2 x y) (rwI r0 r3 r4))).1) (b := (RD (y * y + 4 * x) (pfR (T2 x y) (rwI r0 r3 r4))).2.1) hL.1).2.2 q.2
          have := mkRg_get hR' (j := (fdF (RD (y * y + 4 * x) (pfR (T2 x y) (rwI r0 r3 r4))).1 (RD (y * y + 4 * x) (pfR (T2 x y) (rwI r0 r3 r4))).2.1 0 (LF (y * y + 4 * x))).toNat) (by rw [hlen]; exact il)
          exact ⟨by omega, by omega⟩
        · rw [if_neg q]; exact ⟨by omega, by omega⟩
      have j27 : ∀ t, t ≠ 11 → t ≠ 12 → t ≠ 13 → J3 27 t = J1 27 t := fun t a b c => by rw [f27 t a b c, ff.2 t a b c]
      have ofr : orF I0 I1 J0 J3 := ⟨fun q a => (sc q a).trans (fo.1 q a), fun q a b c d e f g => by rw [f3 q g e, ff.1 q e, so q a b c d]; exact fo.2 q a b c d e f g⟩
      exact bX1_orderOfRows_118 (v118 := nI (m + 1)) (nI_addE m 1) (ih (m + 1) _ _ I1 J3 h (by omega) hcl gp (hr1.keep rfl rfl rfl (j27 9 (by decide) (by decide) (by decide)) (j27 10 (by decide) (by decide) (by decide))) ofr (fun t ht => by rw [f3 30 (by decide) (by decide), ff.1 30 (by decide), so 30 (by decide) (by decide) (by decide) (by decide)]; exact m30 t ht) w31)
end OC
