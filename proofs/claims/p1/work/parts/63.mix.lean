/-- the greatest divisor of two longs -/
def gL (a b : Int64) : Int64 := lI (Int.gcd a.toInt b.toInt : Nat)
theorem gL_rg {a b : Int64} (ha : a.toInt ≠ -9223372036854775808) (hb : b.toInt ≠ -9223372036854775808) : rg (Int.gcd a.toInt b.toInt : Nat) := by
  have h1 := rg_toInt a
  have h2 := rg_toInt b
  have h3 := h1.1
  have h4 := h1.2
  have h5 := h2.1
  have h6 := h2.2
  refine ⟨by omega, ?_⟩
  rcases Nat.eq_zero_or_pos (a.toInt.natAbs) with c | c
  · have : Int.gcd a.toInt b.toInt = b.toInt.natAbs := by unfold Int.gcd; rw [c, Nat.gcd_zero_left]
    omega
  · have : Int.gcd a.toInt b.toInt ≤ a.toInt.natAbs := by unfold Int.gcd; exact Nat.le_of_dvd c (Nat.gcd_dvd_left _ _)
    omega
theorem gL_toInt {a b : Int64} (ha : a.toInt ≠ -9223372036854775808) (hb : b.toInt ≠ -9223372036854775808) : (gL a b).toInt = (Int.gcd a.toInt b.toInt : Nat) := lI_toInt (gL_rg ha hb)
theorem gL_ne {a b : Int64} (ha : a.toInt ≠ -9223372036854775808) (hb : b.toInt ≠ -9223372036854775808) : (gL a b).toInt ≠ -9223372036854775808 := by rw [gL_toInt ha hb]; omega
theorem c_gcdL {E : sa_E} {I : sa_I} {J : sa_J} {a b : Int64} (ha : a.toInt ≠ -9223372036854775808) (hb : b.toInt ≠ -9223372036854775808) : Con E M_X7_gcd yX7_gcd [.long a, .long b] I J (p_l (gL a b) I J) := by
  have h := c_gcd7 (E := E) (I := I) (J := J) (rg_toInt a) (rg_toInt b) ha hb
  rw [show lI a.toInt = a from Int64.ofInt_toInt a, show lI b.toInt = b from Int64.ofInt_toInt b] at h
  exact h
/-- mix before the cut: places 0 to 2, and 3 -/
def mT (r f : Nat → Int64) (y x : Int64) (i : Nat) : Int64 := r i * f 3 + y * f i * r 3 + (if i = 0 then x * (r 3 * f 3) else 0)
def mU (r f : Nat → Int64) (p : Int32) : Int64 := r 3 * f 3 * p.toInt64
def mG (r f : Nat → Int64) (y x : Int64) (p : Int32) : Int64 := gL (gL (gL (mU r f p) (mT r f y x 0)) (mT r f y x 1)) (mT r f y x 2)
section MI
variable {l : Launch} {D : va_G} {aI aL : ClassId} {ad : Nat → Nat} {I : sa_I} {J : sa_J}
theorem c_mix5 {y x : Int64} {p : Int32} (hu : (mU (J 5) (J 5) p).toInt ≠ -9223372036854775808) (h0 : (mT (J 5) (J 5) y x 0).toInt ≠ -9223372036854775808) (h1 : (mT (J 5) (J 5) y x 1).toInt ≠ -9223372036854775808) (h2 : (mT (J 5) (J 5) y x 2).toInt ≠ -9223372036854775808) (hg : ¬ mG (J 5) (J 5) y x p = 0) : Con (ER l D aI aL ad) M_X7_mix yX7_mix [.ref (ad 0), .ref (ad 5), .long y, .long x, .int p] I J (fun r I1 J1 => r = none ∧ I1 = I ∧ J1 7 0 = mT (J 5) (J 5) y x 0 / mG (J 5) (J 5) y x p ∧ J1 7 1 = mT (J 5) (J 5) y x 1 / mG (J 5) (J 5) y x p ∧ J1 7 2 = mT (J 5) (J 5) y x 2 / mG (J 5) (J 5) y x p ∧ J1 7 3 = mU (J 5) (J 5) p / mG (J 5) (J 5) y x p ∧ ∀ q, q ≠ 7 → J1 q = J q) := by
  refine Con.of (by decide +kernel) rfl (Nat.le_of_ble_eq_true rfl) ?_
  refine bX7_mix_0 (v13 := nI 0) aJ_R5 (by decide) (by decide) rfl rfl ?_
  refine bX7_mix_15 aJ_R5 (by decide) (fun c => absurd c (by decide)) (fun _ => ?_)
  refine bX7_mix_21 (j28 := 0) (j43 := 0) aJ_R5 (by decide) rfl (by decide) rfl (by decide) (by decide) (fun c => absurd c (by decide)) (fun _ => ?_)
  refine bX7_mix_57 aJ_R5 (by decide) ?_
  refine bX7_mix_66 (s1 := 0) (v68 := nI 1) aJ_R5 (by decide) (by decide) rfl rfl ?_
  refine bX7_mix_15 aJ_R5 (by decide) (fun c => absurd c (by decide)) (fun _ => ?_)
  refine bX7_mix_21 (j28 := 1) (j43 := 1) aJ_R5 (by decide) rfl (by decide) rfl (by decide) (by decide) (fun _ => ?_) (fun c => absurd c (by decide))
  refine bX7_mix_65 aJ_R5 (by decide) ?_
  refine bX7_mix_66 (s1 := 1) (v68 := nI 2) aJ_R5 (by decide) (by decide) rfl rfl ?_
  refine bX7_mix_15 aJ_R5 (by decide) (fun c => absurd c (by decide)) (fun _ => ?_)
  refine bX7_mix_21 (j28 := 2) (j43 := 2) aJ_R5 (by decide) rfl (by decide) rfl (by decide) (by decide) (fun _ => ?_) (fun c => absurd c (by decide))
  refine bX7_mix_65 aJ_R5 (by decide) ?_
  refine bX7_mix_66 (s1 := 2) (v68 := nI 3) aJ_R5 (by decide) (by decide) rfl rfl ?_
  refine bX7_mix_15 aJ_R5 (by decide) (fun _ => ?_) (fun c => absurd c (by decide))
  refine bX7_mix_74 (v95 := nI 0) rfl rfl rfl ?_
  refine bX7_mix_97  (fun c => absurd c (by decide)) (fun _ => ?_)
  refine bX7_mix_103 (j109 := 0) rfl (by decide) ?_
  refine v_X7_183 dX7_mix_112 rfl ⟨rfl, rfl, Nat.le_of_ble_eq_true rfl, Nat.le_of_ble_eq_true rfl⟩ (c_gcdL (by exact hu) (by exact h0)) rfl rfl (Nat.le_of_ble_eq_true rfl) (fun r I1 J1 hp => ?_)
  obtain ⟨rfl, rfl, rfl⟩ := hp
  refine bX7_mix_115 (v117 := nI 1) rfl ?_
  refine bX7_mix_97  (fun c => absurd c (by decide)) (fun _ => ?_)
  refine bX7_mix_103 (j109 := 1) rfl (by decide) ?_
  refine v_X7_183 dX7_mix_112 rfl ⟨rfl, rfl, Nat.le_of_ble_eq_true rfl, Nat.le_of_ble_eq_true rfl⟩ (c_gcdL (by exact (gL_ne hu h0)) (by exact h1)) rfl rfl (Nat.le_of_ble_eq_true rfl) (fun r I1 J1 hp => ?_)
  obtain ⟨rfl, rfl, rfl⟩ := hp
  refine bX7_mix_115 (v117 := nI 2) rfl ?_
  refine bX7_mix_97  (fun c => absurd c (by decide)) (fun _ => ?_)
  refine bX7_mix_103 (j109 := 2) rfl (by decide) ?_
  refine v_X7_183 dX7_mix_112 rfl ⟨rfl, rfl, Nat.le_of_ble_eq_true rfl, Nat.le_of_ble_eq_true rfl⟩ (c_gcdL (by exact (gL_ne (gL_ne hu h0) h1)) (by exact h2)) rfl rfl (Nat.le_of_ble_eq_true rfl) (fun r I1 J1 hp => ?_)
  obtain ⟨rfl, rfl, rfl⟩ := hp
  refine bX7_mix_115 (v117 := nI 3) rfl ?_
  refine bX7_mix_97  (fun _ => ?_) (fun c => absurd c (by decide))
  refine bX7_mix_123 (v124 := nI 0) rfl ?_
  refine bX7_mix_126  (fun c => absurd c (by decide)) (fun _ => ?_)
  refine bX7_mix_132 (j136 := 0) (v144 := nI 1) rfl (by decide) hg (by decide) rfl rfl ?_
  refine bX7_mix_126  (fun c => absurd c (by decide)) (fun _ => ?_)
  refine bX7_mix_132 (j136 := 1) (v144 := nI 2) rfl (by decide) hg (by decide) rfl rfl ?_
  refine bX7_mix_126  (fun c => absurd c (by decide)) (fun _ => ?_)
  refine bX7_mix_132 (j136 := 2) (v144 := nI 3) rfl (by decide) hg (by decide) rfl rfl ?_
  refine bX7_mix_126  (fun c => absurd c (by decide)) (fun _ => ?_)
  refine bX7_mix_132 (j136 := 3) (v144 := nI 4) rfl (by decide) hg (by decide) rfl rfl ?_
  refine bX7_mix_126  (fun _ => ?_) (fun c => absurd c (by decide))
  exact bX7_mix_150  ⟨rfl, rfl, rfl, rfl, rfl, rfl, fun q h => by simp only [sa_uJ_ne h]⟩
theorem c_mix6 {y x : Int64} {p : Int32} (hu : (mU (J 6) (J 5) p).toInt ≠ -9223372036854775808) (h0 : (mT (J 6) (J 5) y x 0).toInt ≠ -9223372036854775808) (h1 : (mT (J 6) (J 5) y x 1).toInt ≠ -9223372036854775808) (h2 : (mT (J 6) (J 5) y x 2).toInt ≠ -9223372036854775808) (hg : ¬ mG (J 6) (J 5) y x p = 0) : Con (ER l D aI aL ad) M_X7_mix yX7_mix [.ref (ad 0), .ref (ad 6), .long y, .long x, .int p] I J (fun r I1 J1 => r = none ∧ I1 = I ∧ J1 7 0 = mT (J 6) (J 5) y x 0 / mG (J 6) (J 5) y x p ∧ J1 7 1 = mT (J 6) (J 5) y x 1 / mG (J 6) (J 5) y x p ∧ J1 7 2 = mT (J 6) (J 5) y x 2 / mG (J 6) (J 5) y x p ∧ J1 7 3 = mU (J 6) (J 5) p / mG (J 6) (J 5) y x p ∧ ∀ q, q ≠ 7 → J1 q = J q) := by
  refine Con.of (by decide +kernel) rfl (Nat.le_of_ble_eq_true rfl) ?_
  refine bX7_mix_0 (v13 := nI 0) aJ_R6 (by decide) (by decide) rfl rfl ?_
  refine bX7_mix_15 aJ_R6 (by decide) (fun c => absurd c (by decide)) (fun _ => ?_)
  refine bX7_mix_21 (j28 := 0) (j43 := 0) aJ_R6 (by decide) rfl (by decide) rfl (by decide) (by decide) (fun c => absurd c (by decide)) (fun _ => ?_)
  refine bX7_mix_57 aJ_R6 (by decide) ?_
  refine bX7_mix_66 (s1 := 0) (v68 := nI 1) aJ_R6 (by decide) (by decide) rfl rfl ?_
  refine bX7_mix_15 aJ_R6 (by decide) (fun c => absurd c (by decide)) (fun _ => ?_)
  refine bX7_mix_21 (j28 := 1) (j43 := 1) aJ_R6 (by decide) rfl (by decide) rfl (by decide) (by decide) (fun _ => ?_) (fun c => absurd c (by decide))
  refine bX7_mix_65 aJ_R6 (by decide) ?_
  refine bX7_mix_66 (s1 := 1) (v68 := nI 2) aJ_R6 (by decide) (by decide) rfl rfl ?_
  refine bX7_mix_15 aJ_R6 (by decide) (fun c => absurd c (by decide)) (fun _ => ?_)
  refine bX7_mix_21 (j28 := 2) (j43 := 2) aJ_R6 (by decide) rfl (by decide) rfl (by decide) (by decide) (fun _ => ?_) (fun c => absurd c (by decide))
  refine bX7_mix_65 aJ_R6 (by decide) ?_
  refine bX7_mix_66 (s1 := 2) (v68 := nI 3) aJ_R6 (by decide) (by decide) rfl rfl ?_
  refine bX7_mix_15 aJ_R6 (by decide) (fun _ => ?_) (fun c => absurd c (by decide))
  refine bX7_mix_74 (v95 := nI 0) rfl rfl rfl ?_
  refine bX7_mix_97  (fun c => absurd c (by decide)) (fun _ => ?_)
  refine bX7_mix_103 (j109 := 0) rfl (by decide) ?_
  refine v_X7_183 dX7_mix_112 rfl ⟨rfl, rfl, Nat.le_of_ble_eq_true rfl, Nat.le_of_ble_eq_true rfl⟩ (c_gcdL (by exact hu) (by exact h0)) rfl rfl (Nat.le_of_ble_eq_true rfl) (fun r I1 J1 hp => ?_)
  obtain ⟨rfl, rfl, rfl⟩ := hp
  refine bX7_mix_115 (v117 := nI 1) rfl ?_
  refine bX7_mix_97  (fun c => absurd c (by decide)) (fun _ => ?_)
  refine bX7_mix_103 (j109 := 1) rfl (by decide) ?_
  refine v_X7_183 dX7_mix_112 rfl ⟨rfl, rfl, Nat.le_of_ble_eq_true rfl, Nat.le_of_ble_eq_true rfl⟩ (c_gcdL (by exact (gL_ne hu h0)) (by exact h1)) rfl rfl (Nat.le_of_ble_eq_true rfl) (fun r I1 J1 hp => ?_)
  obtain ⟨rfl, rfl, rfl⟩ := hp
  refine bX7_mix_115 (v117 := nI 2) rfl ?_
  refine bX7_mix_97  (fun c => absurd c (by decide)) (fun _ => ?_)
  refine bX7_mix_103 (j109 := 2) rfl (by decide) ?_
  refine v_X7_183 dX7_mix_112 rfl ⟨rfl, rfl, Nat.le_of_ble_eq_true rfl, Nat.le_of_ble_eq_true rfl⟩ (c_gcdL (by exact (gL_ne (gL_ne hu h0) h1)) (by exact h2)) rfl rfl (Nat.le_of_ble_eq_true rfl) (fun r I1 J1 hp => ?_)
  obtain ⟨rfl, rfl, rfl⟩ := hp
  refine bX7_mix_115 (v117 := nI 3) rfl ?_
  refine bX7_mix_97  (fun _ => ?_) (fun c => absurd c (by decide))
  refine bX7_mix_123 (v124 := nI 0) rfl ?_
  refine bX7_mix_126  (fun c => absurd c (by decide)) (fun _ => ?_)
  refine bX7_mix_132 (j136 := 0) (v144 := nI 1) rfl (by decide) hg (by decide) rfl rfl ?_
  refine bX7_mix_126  (fun c => absurd c (by decide)) (fun _ => ?_)
  refine bX7_mix_132 (j136 := 1) (v144 := nI 2) rfl (by decide) hg (by decide) rfl rfl ?_
  refine bX7_mix_126  (fun c => absurd c (by decide)) (fun _ => ?_)
  refine bX7_mix_132 (j136 := 2) (v144 := nI 3) rfl (by decide) hg (by decide) rfl rfl ?_
  refine bX7_mix_126  (fun c => absurd c (by decide)) (fun _ => ?_)
  refine bX7_mix_132 (j136 := 3) (v144 := nI 4) rfl (by decide) hg (by decide) rfl rfl ?_
  refine bX7_mix_126  (fun _ => ?_) (fun c => absurd c (by decide))
  exact bX7_mix_150  ⟨rfl, rfl, rfl, rfl, rfl, rfl, fun q h => by simp only [sa_uJ_ne h]⟩
end MI
