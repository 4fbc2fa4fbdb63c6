theorem rdyR.keep {D : Int} {I I1 : sa_I} {J J1 : sa_J} (h : rdyR D I J) (h0 : I1 0 36 = I 0 36) (h1 : ∀ q, q = 21 ∨ q = 22 ∨ q = 23 ∨ q = 24 → I1 q = I q) (j41 : J1 0 41 = J 0 41) : rdyR D I1 J1 := ⟨h.1.keep h0 (h1 21 (by omega)) (h1 22 (by omega)) (h1 23 (by omega)), fun j v hj => by rw [h1 24 (by omega)]; exact h.2.1 j v hj, fun q => by rw [j41]; exact h.2.2 q⟩
/-- what the reference's order changes -/
def orG (I I1 : sa_I) (J J1 : sa_J) : Prop := (∀ q, q ≠ 0 → q ≠ 21 → q ≠ 22 → q ≠ 23 → q ≠ 24 → I1 q = I q) ∧ (∀ t, t ≠ 27 → t ≠ 36 → I1 0 t = I 0 t) ∧ (∀ q, q ≠ 0 → q ≠ 10 → q ≠ 11 → q ≠ 12 → q ≠ 13 → q ≠ 14 → q ≠ 15 → q ≠ 16 → J1 q = J q) ∧ ∀ t, t < 41 → J1 0 t = J 0 t
section OE
variable {l : Launch} {DD : va_G} {aI aL : ClassId} {ad : Nat → Nat} {P : sa_P} {I : sa_I} {J : sa_J}
theorem or_loop {x y : Int} (hb : bd x 200 ∧ bd y 20) (hD : DOK (y * y + 4 * x)) (hL : LOK (y * y + 4 * x) (LF (y * y + 4 * x))) {goal : Int} (hg : rgi goal) {bi : Nat} {fb : F3} (hbi : (LF (y * y + 4 * x))[bi]? = some fb) {r : Nat} {I0 : sa_I} {J0 : sa_J} (hI0 : I0 0 1 = nI 2) (m10 : J0 0 10 = lI (y * y + 4 * x)) (hT0 : ∀ i j c, i < 2 → j < 2 → c < 3 → J0 2 (9 * i + 3 * j + c) = lI (T2 x y (9 * i + 3 * j + c))) (kk : ∀ I1 J1, orG I0 I1 J0 J1 → rdyR (y * y + 4 * x) I1 J1 → P (some (.int (nI r))) I1 J1) : ∀ (k m : Nat) (now : Int) (I : sa_I) (J : sa_J), ordR (y * y + 4 * x) x y goal (posF (y * y + 4 * x) fb) k now m = some r → rgi now → rdyR (y * y + 4 * x) I J → orG I0 I J0 J → Sat (ER l DD aI aL ad) M_X7_order P 65 [(0, .ref (ad 0)), (3, .int (iI goal)), (4, .int (nI bi)), (5, .int (iI now)), (6, .int (nI m))] [] I J := by
  have rr : Rg 2 (T2 x y) := Or.inl ⟨rfl, x, y, rfl, hb.1, hb.2⟩
  have good : ∀ {i : Nat} {g : F3}, (LF (y * y + 4 * x))[i]? = some g → gdF (y * y + 4 * x) (posF (y * y + 4 * x) g) := fun {i g} h => gd_pos hD (hL.2.1 g (List.mem_of_getElem? h)).1 (LF_rd hD (List.mem_of_getElem? h))
  intro k
  induction k with
  | zero => intro m now I J h; exact absurd h (by simp [ordR])
  | succ k ih =>
    intro m now I J h hn hr fo
    rw [ordR] at h
    by_cases c : now = goal
    · rw [if_pos c] at h
      have em : m = r := Option.some.inj h
      subst em
      exact bX7_order_65 (fun _ => bX7_order_123 (kk I J fo hr)) (fun q => absurd (by rw [c]) q)
    rw [if_neg c] at h
    refine bX7_order_65 (fun q => absurd ((iI_eq hn hg).mp q) c) (fun _ => bX7_order_71 ?_)
    by_cases c0 : now < 0
    · rw [if_pos c0] at h; exact absurd h (by simp)
    rw [if_neg c0] at h
    cases hj : (LF (y * y + 4 * x))[now.toNat]? with
    | none => rw [hj] at h; exact absurd h (by simp)
    | some g =>
      rw [hj] at h
      dsimp only at h
      have hI : I 0 1 = nI 2 := by rw [fo.2.1 1 (by decide) (by decide)]; exact hI0
      have n10 : J 0 10 = lI (y * y + 4 * x) := by rw [fo.2.2.2 10 (by decide)]; exact m10
      have n2 : J 2 = J0 2 := fo.2.2.1 2 (by decide) (by decide) (by decide) (by decide) (by decide) (by decide) (by decide) (by decide)
      have n13 : J 2 13 = lI y := by rw [n2]; exact hT0 1 1 1 (by decide) (by decide) (by decide)
      refine v_X7_375 dX7_order_74 rfl ⟨rfl, rfl, Nat.le_of_ble_eq_true rfl, Nat.le_of_ble_eq_true rfl⟩ (c_represents hb.2 hD hL hI hr n10 n13 hbi) rfl rfl (Nat.le_of_ble_eq_true rfl) (fun r I1 J1 hq => ?_)
      obtain ⟨rfl, e1, w15, f1, f2⟩ := hq
      obtain rfl := e1.symm
      refine bX7_order_77 ?_
      refine v_X7_321 dX7_order_86 rfl ⟨rfl, rfl, Nat.le_of_ble_eq_true rfl, Nat.le_of_ble_eq_true rfl⟩ (c_moves aJ_R15 (by decide) (by decide) aJ_R16 (by decide) (by decide) (by decide)) rfl rfl (Nat.le_of_ble_eq_true rfl) (fun r I2 J2 hq => ?_)
      obtain ⟨rfl, e1, g2, v16⟩ := hq
      obtain rfl := e1.symm
      have hr2 : rdyR (y * y + 4 * x) I J2 := hr.keep rfl (fun _ _ => rfl) (by rw [g2 0 (by decide)]; exact f2 41 (by decide) (by decide) (by decide))
      refine bX7_order_89 ?_
      rw [show iI now = nI now.toNat from iI_nat (by omega)]
      refine v_X7_375 dX7_order_92 rfl ⟨rfl, rfl, Nat.le_of_ble_eq_true rfl, Nat.le_of_ble_eq_true rfl⟩ (c_represents hb.2 hD hL hI hr2 (by rw [g2 0 (by decide), f2 10 (by decide) (by decide) (by decide)]; exact n10) (by rw [g2 2 (by decide), f1 2 (by decide) (by decide)]; exact n13) hj) rfl rfl (Nat.le_of_ble_eq_true rfl) (fun r I2 J3 hq => ?_)
      obtain ⟨rfl, e1, w15', f3, f4⟩ := hq
      obtain rfl := e1.symm
      have gX := good hj
      have gY := good hbi
      have iX := gdF_idr gX
      have iY := gdF_idr gY
      have nX : nmR (smI (posF (y * y + 4 * x) g).1 (smE y (posF (y * y + 4 * x) g))) = (posF (y * y + 4 * x) g).1 := by show (posF (y * y + 4 * x) g).1 * 1 * 1 = _; omega
      have nY : nmR (smI (posF (y * y + 4 * x) fb).1 (smE y (posF (y * y + 4 * x) fb))) = (posF (y * y + 4 * x) fb).1 := by show (posF (y * y + 4 * x) fb).1 * 1 * 1 = _; omega
      have w : (posF (y * y + 4 * x) g).1 * (posF (y * y + 4 * x) fb).1 ≤ 1000000 := by
        have : (posF (y * y + 4 * x) g).1 * (posF (y * y + 4 * x) fb).1 ≤ 90 * 90 := Int.mul_le_mul gX.2.2 gY.2.2 (by have := gY.2.1; omega) (by decide)
        omega
      refine bX7_order_95 ?_
      refine v_X7_294 dX7_order_96 rfl ⟨rfl, rfl, Nat.le_of_ble_eq_true rfl, Nat.le_of_ble_eq_true rfl⟩ (c_multiplies (X := smI (posF (y * y + 4 * x) g).1 (smE y (posF (y * y + 4 * x) g))) (Y := smI (posF (y * y + 4 * x) fb).1 (smE y (posF (y * y + 4 * x) fb))) rr hI (iX.ok rr) (iY.ok rr) (by rw [nX, nY]; exact w) (fun i j c a b d => by rw [f3 2 (by decide) (by decide), g2 2 (by decide), f1 2 (by decide) (by decide), n2]; exact hT0 i j c a b d) w15' (fun t ht => by rw [f3 16 (by decide) (by decide), v16 t (by omega)]; exact w15 t ht)) rfl rfl (Nat.le_of_ble_eq_true rfl) (fun r I4 J4 hq => ?_)
      obtain ⟨rfl, si, f5, R, hm, r2, bR, w14, hR⟩ := hq
      rw [nX, nY] at hR
      unfold prF at h
      cases hz : prdZ x y (posF (y * y + 4 * x) g).1 (smE y (posF (y * y + 4 * x) g)) (posF (y * y + 4 * x) fb).1 (smE y (posF (y * y + 4 * x) fb)) with
      | none => rw [hz] at h; exact absurd h (by simp)
      | some z =>
        obtain ⟨r0, r3, r4⟩ := z
        rw [hz] at h
        dsimp only at h
        have rows := prd_rows hz hm hR
        have iR := prd_ideal hb iX iY ⟨gX.2.1, gX.2.2⟩ ⟨gY.2.1, gY.2.2⟩ hz
        refine bX7_order_99 ?_
        refine v_X7_321 dX7_order_108 rfl ⟨rfl, rfl, Nat.le_of_ble_eq_true rfl, Nat.le_of_ble_eq_true rfl⟩ (c_moves aJ_R14 (by decide) (by decide) aJ_R15 (by decide) (by decide) (by decide)) rfl rfl (Nat.le_of_ble_eq_true rfl) (fun r I5 J5 hq => ?_)
        obtain ⟨rfl, e1, g5, v15⟩ := hq
        obtain rfl := e1.symm
        have k41 : J5 0 41 = J 0 41 := by rw [g5 0 (by decide), f5 0 (by decide) (by decide) (by decide) (by decide) (by decide), f4 41 (by decide) (by decide) (by decide), g2 0 (by decide), f2 41 (by decide) (by decide) (by decide)]
        have kt : ∀ t, t < 41 → J5 0 t = J 0 t := fun t ht => by rw [g5 0 (by decide), f5 0 (by decide) (by decide) (by decide) (by decide) (by decide), f4 t (by omega) (by omega) (by omega), g2 0 (by decide), f2 t (by omega) (by omega) (by omega)]
        have kq : ∀ q, q ≠ 0 → q ≠ 10 → q ≠ 11 → q ≠ 12 → q ≠ 13 → q ≠ 14 → q ≠ 15 → q ≠ 16 → J5 q = J q := fun q a b c d e f g h => by rw [g5 q g, f5 q b c d e f, f3 q a g, g2 q h, f1 q a g]
        have hr5 : rdyR (y * y + 4 * x) I4 J5 := hr.keep (si.2 36 (by decide)) (fun q hq => si.1 q (by omega)) k41
        refine bX7_order_111 ?_
        refine v_X7_372 dX7_order_112 rfl ⟨rfl, rfl, Nat.le_of_ble_eq_true rfl, Nat.le_of_ble_eq_true rfl⟩ (c_classOfRows7 (R := rwI r0 r3 r4) hb iR hD hL (by rw [kt 10 (by decide)]; exact n10) (Or.inr hr5) (by rw [kq 2 (by decide) (by decide) (by decide) (by decide) (by decide) (by decide) (by decide) (by decide)]; exact n13) (fun t ht => by rw [v15 t (by omega), w14 t ht, rows t (by omega)])) rfl rfl (Nat.le_of_ble_eq_true rfl) (fun r I6 J6 hq => ?_)
        obtain ⟨rfl, hr6, p1, p2, p3, p4⟩ := hq
        refine bX7_order_115 (v117 := nI (m + 1)) (nI_addE m 1) (ih (m + 1) _ I6 J6 h (cls_rg hL.1 _) hr6 ⟨fun q a b c d e => ?_, fun t a b => ?_, fun q a b c d e f g i => ?_, fun t ht => ?_⟩)
        · rw [p1 q a b c d e, si.1 q a]; exact fo.1 q a b c d e
        · rw [p2 t b, si.2 t a]; exact fo.2.1 t a b
        · rw [p3 q a, kq q a b c d e f g i]; exact fo.2.2.1 q a b c d e f g i
        · rw [p4 t (by omega) (by omega) (by omega) (by omega), kt t ht]; exact fo.2.2.2 t ht
end OE
