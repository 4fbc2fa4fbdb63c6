/-- the elements of both sides -/
def ElS (n ne : Nat) (Ev : Nat → Int) (I : sa_I) (J : sa_J) (I' : sa_I) : Prop := ne ≤ 100 ∧ I 0 8 = nI ne ∧ I' 0 13 = nI ne ∧ (∀ t, t < 3 * ne → J 2 t = lI (Ev t) ∧ I' 3 t = iI (Ev t) ∧ bd (Ev t) 300) ∧ (n = 2 → ∀ i, i < ne → Ev (3 * i + 2) = 0)
def evP (Ev : Nat → Int) (ne : Nat) (x y z : Int) (t : Nat) : Int := if t = 3 * ne then x else if t = 3 * ne + 1 then y else if t = 3 * ne + 2 then z else Ev t
theorem lI_self (x : Int64) : lI x.toInt = x := Int64.ofInt_toInt x
theorem iI_of64 (x : Int64) : x.toInt32 = iI x.toInt := by
  have h := lI_iI x.toInt
  rw [lI_self] at h; exact h
theorem bd300 {x : Int64} (h1 : ¬ x < -300) (h2 : ¬ 300 < x) : bd x.toInt 300 := by
  have a := Int64.not_lt.mp h1
  have b := Int64.not_lt.mp h2
  rw [Int64.le_iff_toInt_le] at a b
  have e1 : ((-300 : Int64)).toInt = -300 := by decide
  have e2 : ((300 : Int64)).toInt = 300 := by decide
  rw [e1] at a
  rw [e2] at b
  exact ⟨a, b⟩
section ER2
variable {n ne : Nat} {Ev : Nat → Int} {I I' : sa_I} {J J' : sa_J} {N : sa_I → sa_J → sa_I → sa_J → Prop}
theorem ElS.add {Jw : sa_J} {X Y Z : Int64} (H : ElS n ne Ev I J I') (h : ne < 100) (hJ2 : Jw 2 = J 2) (h9 : Jw 9 0 = X ∧ Jw 9 1 = Y ∧ Jw 9 2 = Z) (hlo : ¬ loE X Y Z) (hhi : ¬ hiE X Y Z) (hz : n = 2 → Z = 0) : ElS n (ne + 1) (evP Ev ne X.toInt Y.toInt Z.toInt) (sa_uI I 0 8 (nI (ne + 1))) (sa_rJ Jw 2 (va_cpy (Jw 9) (Jw 2) 0 (3 * ne) 3)) (sa_uI (sa_uI (sa_uI (sa_uI I' 3 (3 * ne) X.toInt32) 3 (3 * ne + 1) Y.toInt32) 3 (3 * ne + 2) Z.toInt32) 0 13 (nI (ne + 1))) := by
  obtain ⟨g1, g2, g3, g4, g5⟩ := H
  have bX : bd X.toInt 300 := bd300 (fun q => hlo (Or.inl q)) (fun q => hhi (Or.inl q))
  have bY : bd Y.toInt 300 := bd300 (fun q => hlo (Or.inr (Or.inl q))) (fun q => hhi (Or.inr (Or.inl q)))
  have bZ : bd Z.toInt 300 := bd300 (fun q => hlo (Or.inr (Or.inr q))) (fun q => hhi (Or.inr (Or.inr q)))
  refine ⟨by omega, sa_uI_at, sa_uI_at, ?_, ?_⟩
  · intro t ht
    rw [sa_rJ_eq, sa_uI_ne (by decide)]
    unfold va_cpy evP
    by_cases c0 : t = 3 * ne
    · subst c0
      rw [if_pos ⟨by omega, by omega⟩, if_pos rfl, sa_uI_off (by omega), sa_uI_off (by omega), sa_uI_at, Nat.sub_self, h9.1, lI_self]
      exact ⟨rfl, iI_of64 X, bX⟩
    rw [if_neg c0]
    by_cases c1 : t = 3 * ne + 1
    · subst c1
      rw [if_pos ⟨by omega, by omega⟩, if_pos rfl, sa_uI_off (by omega), sa_uI_at, show 0 + (3 * ne + 1 - 3 * ne) = 1 by omega, h9.2.1, lI_self]
      exact ⟨rfl, iI_of64 Y, bY⟩
    rw [if_neg c1]
    by_cases c2 : t = 3 * ne + 2
    · subst c2
      rw [if_pos ⟨by omega, by omega⟩, if_pos rfl, sa_uI_at, show 0 + (3 * ne + 2 - 3 * ne) = 2 by omega, h9.2.2, lI_self]
      exact ⟨rfl, iI_of64 Z, bZ⟩
    rw [if_neg c2, if_neg (by omega), sa_uI_off c2, sa_uI_off c1, sa_uI_off c0, hJ2]
    exact g4 t (by omega)
  · intro hn i hi
    unfold evP
    rw [if_neg (by omega), if_neg (by omega)]
    by_cases c : 3 * i + 2 = 3 * ne + 2
    · rw [if_pos c, hz hn]; rfl
    · rw [if_neg c]; exact g5 hn i (by omega)
theorem ke_two {Jw : sa_J} {X Y Z : Int64} {r1 r2 : Option Value} {I1 I2 : sa_I} {J1 J2 : sa_J} (H : ElS n ne Ev I J I') (hJ2 : Jw 2 = J 2) (h9 : Jw 9 0 = X ∧ Jw 9 1 = Y ∧ Jw 9 2 = Z) (hz : n = 2 → Z = 0) (p : keC I Jw ne X Y Z r1 I1 J1) (q : keR I' J' ne X Y Z r2 I2 J2) (hN4 : N (rf I 4) Jw (rf I' 4) J') (hN6 : N (rf I 6) Jw (rf I' 6) J') (hA : ∀ Ev' I1 J1 I2, ElS n (ne + 1) Ev' I1 J1 I2 → (∀ q, q ≠ 0 → I1 q = I q) → (∀ t, t ≠ 8 → I1 0 t = I 0 t) → (∀ q, q ≠ 2 → J1 q = Jw q) → (∀ q, q ≠ 0 → q ≠ 3 → I2 q = I' q) → (∀ t, t ≠ 13 → I2 0 t = I' 0 t) → N I1 J1 I2 J') : la_ans false r1 r2 ∧ N I1 J1 I2 J2 := by
  rcases p with ⟨a, rfl, rfl, rfl⟩ | ⟨a, b, rfl, rfl, rfl⟩ | ⟨a, b, c, rfl, rfl, rfl⟩
  · rcases q with ⟨_, rfl, rfl, rfl⟩ | ⟨a', _⟩ | ⟨a', _⟩
    · exact ⟨⟨_, rfl, rfl⟩, hN4⟩
    · exact absurd a a'
    · exact absurd a a'
  · rcases q with ⟨a', _⟩ | ⟨_, _, rfl, rfl, rfl⟩ | ⟨_, b', c', _⟩
    · exact absurd a' a
    · exact ⟨⟨_, rfl, rfl⟩, hN6⟩
    · rcases b with b | b
      · exact absurd b b'
      · omega
  · rcases q with ⟨a', _⟩ | ⟨_, b', _⟩ | ⟨_, _, _, rfl, rfl, rfl⟩
    · exact absurd a' a
    · rcases b' with b' | b'
      · exact absurd b' b
      · omega
    · refine ⟨⟨_, rfl, rfl⟩, hA _ _ _ _ (H.add c hJ2 h9 a b hz) ?_ ?_ ?_ ?_ ?_⟩
      · intro q hq; exact sa_uI_ne hq
      · intro t ht; exact sa_uI_off ht
      · intro q hq; exact sa_rJ_ne hq
      · intro q h0 h3; rw [sa_uI_ne h0, sa_uI_ne h3, sa_uI_ne h3, sa_uI_ne h3]
      · intro t ht; rw [sa_uI_off ht, sa_uI_ne (by decide), sa_uI_ne (by decide), sa_uI_ne (by decide)]
variable {l0 : Launch} {D : va_G} {aI aL : ClassId} {ad ad' : Nat → Nat} {a1 a2 a3 : Int32}
theorem st_coordinate (h0 : n = 2 ∨ n = 3) (hc : I 4 0 = nI n) (hr : I' 0 1 = nI n) (H : ElS n ne Ev I J I') (hN : N I J I' J') (hR : N (rf I 1) J (rf I' 1) J') : la_Step l0 D aI aL ad ad' N 8 a1 a2 a3 I J I' J' := by
  obtain ⟨x, hx, rfl⟩ := iI_of a1
  obtain ⟨y, hy, rfl⟩ := iI_of a2
  obtain ⟨g1, g2, g3, g4, _⟩ := H
  refine ⟨_, _, c_coordinate6 hc h0 g2 g1 hx hy, c_coordinate7 hr h0 g3 g1 hx hy, fun r1 I1 J1 r2 I2 J2 p q => orP_two p q (fun hh => ?_) hN hR⟩
  obtain ⟨h1, h2, h3, h4⟩ := hh
  obtain ⟨u1, u2, _⟩ := g4 (3 * x.toNat + y.toNat) (by omega)
  rw [u1, u2, lI_iI]
theorem st_element (h0 : n = 2 ∨ n = 3) (hc : I 4 0 = nI n) (hr : I' 0 1 = nI n) (H : ElS n ne Ev I J I') (hN1 : N (rf I 1) J (rf I' 1) J') (hN4 : ∀ Jw, (∀ q, q ≠ 9 → Jw q = J q) → N (rf I 4) Jw (rf I' 4) J') (hN6 : ∀ Jw, (∀ q, q ≠ 9 → Jw q = J q) → N (rf I 6) Jw (rf I' 6) J') (hA : ∀ Ev' I1 J1 I2, ElS n (ne + 1) Ev' I1 J1 I2 → (∀ q, q ≠ 0 → I1 q = I q) → (∀ t, t ≠ 8 → I1 0 t = I 0 t) → (∀ q, q ≠ 2 → q ≠ 9 → J1 q = J q) → (∀ q, q ≠ 0 → q ≠ 3 → I2 q = I' q) → (∀ t, t ≠ 13 → I2 0 t = I' 0 t) → N I1 J1 I2 J') : la_Step l0 D aI aL ad ad' N 6 a1 a2 a3 I J I' J' := by
  obtain ⟨x, hx, rfl⟩ := iI_of a1
  obtain ⟨y, hy, rfl⟩ := iI_of a2
  obtain ⟨z, hz, rfl⟩ := iI_of a3
  refine ⟨_, _, c_element6 hc h0 H.2.1 H.1 hx hy hz, c_element7 hr h0 H.2.2.1 H.1 hx hy hz, fun r1 I1 J1 r2 I2 J2 p q => ?_⟩
  by_cases c : n = 2 ∧ z ≠ 0
  · rw [if_pos c] at p q
    obtain ⟨rfl, rfl, rfl⟩ := p
    obtain ⟨rfl, rfl, rfl⟩ := q
    exact ⟨⟨_, rfl, rfl⟩, hN1⟩
  · rw [if_neg c] at p q
    have fr : ∀ q, q ≠ 9 → anJ J (lI x) (lI y) (lI z) q = J q := fun q hq => by unfold anJ; rw [sa_uJ_ne hq, sa_uJ_ne hq, sa_uJ_ne hq]
    refine ke_two H (fr 2 (by decide)) ⟨rfl, rfl, rfl⟩ (fun hn => ?_) p q (hN4 _ fr) (hN6 _ fr) (fun Ev' I1 J1 I2 e f1 f2 f3 f4 f5 => hA Ev' I1 J1 I2 e f1 f2 (fun q h2 h9 => (f3 q h2).trans (fr q h9)) f4 f5)
    by_cases cz : z = 0
    · rw [cz]; rfl
    · exact absurd ⟨hn, cz⟩ c
end ER2
