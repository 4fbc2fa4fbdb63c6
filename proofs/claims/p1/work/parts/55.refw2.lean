/-- the reference's matrix of a number by powers of r -/
def mx2 (a b : Int64) (x : Nat → Int64) : Nat → Int64 := fun j => match j with | 0 => (lo2 a b (pw2 0 x)).1 | 1 => (lo2 a b (pw2 0 x)).2 | 3 => (lo2 a b (pw2 1 x)).1 | _ => (lo2 a b (pw2 1 x)).2
def mx3 (a b c : Int64) (x : Nat → Int64) : Nat → Int64 := fun j => match j with | 0 => (lo3 a b c (pw3 0 x)).1 | 1 => (lo3 a b c (pw3 0 x)).2.1 | 2 => (lo3 a b c (pw3 0 x)).2.2 | 3 => (lo3 a b c (pw3 1 x)).1 | 4 => (lo3 a b c (pw3 1 x)).2.1 | 5 => (lo3 a b c (pw3 1 x)).2.2 | 6 => (lo3 a b c (pw3 2 x)).1 | 7 => (lo3 a b c (pw3 2 x)).2.1 | _ => (lo3 a b c (pw3 2 x)).2.2
def w7b2 (m : Nat → Int64) (q : Int64) : Bool := decide (rm (0 + m 0 + m 4) q = 0) && decide (rm (m 0 * m 4 - m 1 * m 3) (q * q) = 0)
def w7b3 (m : Nat → Int64) (q : Int64) : Bool := decide (rm (0 + m 0 + m 4 + m 8) q = 0) && (decide (rm (m 0 * m 4 - m 1 * m 3 + m 0 * m 8 - m 2 * m 6 + m 4 * m 8 - m 5 * m 7) (q * q) = 0) && decide (rm (nm3 m) (q * q * q) = 0))
section WB
variable {l : Launch} {D : va_G} {aI aL : ClassId} {ad : Nat → Nat} {I : sa_I} {J : sa_J}
theorem c_isWhole7_2 (hn : I 0 1 = nI 2) (hq : 0 < (J 7 3).toInt) (hz2 : ¬ J 7 3 * J 7 3 = 0) : Con (ER l D aI aL ad) M_X7_isWhole yX7_isWhole [.ref (ad 0)] I J (fun r I1 J1 => r = some (.int (if w7b2 (mx2 (I 0 2).toInt64 (I 0 3).toInt64 (fun j => fm (J 7 j) (J 7 3))) (J 7 3) then 1 else 0)) ∧ I1 = I ∧ ∀ q, q ≠ 8 → q ≠ 9 → J1 q = J q) := by
  refine Con.of (by decide +kernel) rfl (Nat.le_of_ble_eq_true rfl) ?_
  have hz1 : ¬ J 7 3 = 0 := fun e => by rw [e] at hq; exact absurd hq (by decide)
  refine w7_pre2 hn hq (fun Jm m0 m1 m3 m4 hf => ?_)
  refine bX7_isWhole_124 (v_X7_189 dX7_isWhole_125 rfl ⟨rfl, rfl, Nat.le_of_ble_eq_true rfl, Nat.le_of_ble_eq_true rfl⟩ (c_traceOf2 hn) rfl rfl (Nat.le_of_ble_eq_true rfl) (fun r I1 J1 hp => ?_))
  obtain ⟨rfl, rfl, rfl⟩ := hp
  rw [m0, m4]
  refine bX7_isWhole_128 hz1 (fun c => ?_) (fun c => ?_)
  · refine bX7_isWhole_137 (fun q => absurd hn q) (fun _ => bX7_isWhole_145 (v_X7_193 dX7_isWhole_146 rfl ⟨rfl, rfl, Nat.le_of_ble_eq_true rfl, Nat.le_of_ble_eq_true rfl⟩ (c_normOf2 hn) rfl rfl (Nat.le_of_ble_eq_true rfl) (fun r I1 J1 hp => ?_)))
    obtain ⟨rfl, rfl, rfl⟩ := hp
    rw [m0, m1, m3, m4]
    refine bX7_isWhole_149 hz2 (fun c2 => ?_) (fun c2 => ?_)
    · refine bX7_isWhole_162 (bX7_isWhole_163 rfl ⟨?_, rfl, hf⟩)
      rw [if_neg]; intro w; simp only [w7b2, Bool.and_eq_true, decide_eq_true_eq] at w; exact c2 w.2
    · refine bX7_isWhole_158 (bX7_isWhole_163 rfl ⟨?_, rfl, hf⟩)
      rw [if_pos]; simp only [w7b2, Bool.and_eq_true, decide_eq_true_eq]; exact ⟨c, c2⟩
  · refine bX7_isWhole_135 ⟨?_, rfl, hf⟩
    rw [if_neg]; intro w; simp only [w7b2, Bool.and_eq_true, decide_eq_true_eq] at w; exact c w.1
theorem c_isWhole7_3 (hn : I 0 1 = nI 3) (hq : 0 < (J 7 3).toInt) (hz2 : ¬ J 7 3 * J 7 3 = 0) (hz3 : ¬ J 7 3 * J 7 3 * J 7 3 = 0) : Con (ER l D aI aL ad) M_X7_isWhole yX7_isWhole [.ref (ad 0)] I J (fun r I1 J1 => r = some (.int (if w7b3 (mx3 (I 0 2).toInt64 (I 0 3).toInt64 (I 0 4).toInt64 (fun j => fm (J 7 j) (J 7 3))) (J 7 3) then 1 else 0)) ∧ I1 = I ∧ ∀ q, q ≠ 8 → q ≠ 9 → J1 q = J q) := by
  refine Con.of (by decide +kernel) rfl (Nat.le_of_ble_eq_true rfl) ?_
  have hz1 : ¬ J 7 3 = 0 := fun e => by rw [e] at hq; exact absurd hq (by decide)
  refine w7_pre3 hn hq (fun Jm m0 m1 m2 m3 m4 m5 m6 m7 m8 hf => ?_)
  refine bX7_isWhole_124 (v_X7_189 dX7_isWhole_125 rfl ⟨rfl, rfl, Nat.le_of_ble_eq_true rfl, Nat.le_of_ble_eq_true rfl⟩ (c_traceOf3 hn) rfl rfl (Nat.le_of_ble_eq_true rfl) (fun r I1 J1 hp => ?_))
  obtain ⟨rfl, rfl, rfl⟩ := hp
  rw [m0, m4, m8]
  refine bX7_isWhole_128 hz1 (fun c => ?_) (fun c => ?_)
  · refine bX7_isWhole_137 (fun _ => ?_) (fun q => absurd (hn.symm.trans q) (by decide))
    refine bX7_isWhole_164 (v_X7_196 dX7_isWhole_165 rfl ⟨rfl, rfl, Nat.le_of_ble_eq_true rfl, Nat.le_of_ble_eq_true rfl⟩ (c_minorsOf3 hn) rfl rfl (Nat.le_of_ble_eq_true rfl) (fun r I1 J1 hp => ?_))
    obtain ⟨rfl, rfl, rfl⟩ := hp
    rw [m0, m1, m2, m3, m4, m5, m6, m7, m8]
    refine bX7_isWhole_168 hz2 (fun c2 => ?_) (fun c2 => ?_)
    · refine bX7_isWhole_196 (bX7_isWhole_197 rfl ⟨?_, rfl, hf⟩)
      rw [if_neg]; intro w; simp only [w7b3, Bool.and_eq_true, decide_eq_true_eq] at w; exact c2 w.2.1
    · refine bX7_isWhole_177 (v_X7_193 dX7_isWhole_178 rfl ⟨rfl, rfl, Nat.le_of_ble_eq_true rfl, Nat.le_of_ble_eq_true rfl⟩ (c_normOf3 hn) rfl rfl (Nat.le_of_ble_eq_true rfl) (fun r I1 J1 hp => ?_))
      obtain ⟨rfl, rfl, rfl⟩ := hp
      rw [m0, m1, m2, m3, m4, m5, m6, m7, m8]
      refine bX7_isWhole_181 hz3 (fun c3 => ?_) (fun c3 => ?_)
      · refine bX7_isWhole_196 (bX7_isWhole_197 rfl ⟨?_, rfl, hf⟩)
        rw [if_neg]; intro w; simp only [w7b3, Bool.and_eq_true, decide_eq_true_eq] at w; exact c3 w.2.2
      · refine bX7_isWhole_192 (bX7_isWhole_197 rfl ⟨?_, rfl, hf⟩)
        rw [if_pos]; simp only [w7b3, Bool.and_eq_true, decide_eq_true_eq]; exact ⟨c, c2, c3⟩
  · refine bX7_isWhole_135 ⟨?_, rfl, hf⟩
    rw [if_neg]; intro w; simp only [w7b3, Bool.and_eq_true, decide_eq_true_eq] at w; exact c w.1
end WB
