/-- the reference's primes -/
def RS (n : Nat) (E : List PE) (I : sa_I) (J : sa_J) : Prop := I 0 32 = nI E.length ∧ ∀ i e, E[i]? = some e → I 19 i = iI e.1 ∧ I 20 i = iI e.2.1 ∧ ∀ t, t < 3 * n → J 18 (9 * i + t) = lI (e.2.2 t)
def xw (a b : Int) (i : Nat) : Int := if i = 1 then a else b
def sw (n : Nat) (T : Nat → Int) (a b : Int) (i j : Nat) : Int := T (9 * i + 3 * j) + T (9 * i + 3 * j + 1) * a + (if n = 2 then 0 else T (9 * i + 3 * j + 2) * b) - xw a b i * xw a b j
def swR (n : Nat) (T : Nat → Int) (p a b : Int) (i j : Nat) : Int := T (9 * i + 3 * j) % p + T (9 * i + 3 * j + 1) % p * a + (if n = 2 then 0 else T (9 * i + 3 * j + 2) % p * b) - xw a b i * xw a b j
theorem sw_R {n : Nat} {T : Nat → Int} {p a b : Int} {i j : Nat} : p ∣ swR n T p a b i j ↔ p ∣ sw n T a b i j := by
  have h : p ∣ (swR n T p a b i j - sw n T a b i j) := by
    have d0 := md_dvd (T (9 * i + 3 * j)) p
    have d1 := md_dvd (T (9 * i + 3 * j + 1)) p
    have d2 := md_dvd (T (9 * i + 3 * j + 2)) p
    unfold swR sw
    by_cases c : n = 2
    · rw [if_pos c, if_pos c]
      have e : T (9 * i + 3 * j) % p + T (9 * i + 3 * j + 1) % p * a + 0 - xw a b i * xw a b j - (T (9 * i + 3 * j) + T (9 * i + 3 * j + 1) * a + 0 - xw a b i * xw a b j) = (T (9 * i + 3 * j) % p - T (9 * i + 3 * j)) + (T (9 * i + 3 * j + 1) % p - T (9 * i + 3 * j + 1)) * a := by grind
      rw [e]; exact Int.dvd_add d0 (Int.dvd_mul_of_dvd_left d1)
    · rw [if_neg c, if_neg c]
      have e : T (9 * i + 3 * j) % p + T (9 * i + 3 * j + 1) % p * a + T (9 * i + 3 * j + 2) % p * b - xw a b i * xw a b j - (T (9 * i + 3 * j) + T (9 * i + 3 * j + 1) * a + T (9 * i + 3 * j + 2) * b - xw a b i * xw a b j) = (T (9 * i + 3 * j) % p - T (9 * i + 3 * j)) + (T (9 * i + 3 * j + 1) % p - T (9 * i + 3 * j + 1)) * a + (T (9 * i + 3 * j + 2) % p - T (9 * i + 3 * j + 2)) * b := by grind
      rw [e]; exact Int.dvd_add (Int.dvd_add d0 (Int.dvd_mul_of_dvd_left d1)) (Int.dvd_mul_of_dvd_left d2)
  constructor
  · intro g; have := Int.dvd_sub g h; rw [Int.sub_sub_self] at this; exact this
  · intro g; have := Int.dvd_add h g; rw [Int.sub_add_cancel] at this; exact this
theorem wy_sw {n : Nat} {T : Nat → Int} {p a b : Int} : wy n T p a b ↔ (p ∣ sw n T a b 1 1 ∧ (n = 3 → p ∣ sw n T a b 1 2 ∧ p ∣ sw n T a b 2 2)) := by
  by_cases c : n = 3
  · subst c; exact Iff.rfl
  · exact and_congr Iff.rfl ⟨fun _ h => absurd h c, fun _ h => absurd h c⟩
section PT
variable {l : Launch} {D : va_G} {aI aL : ClassId} {ad : Nat → Nat} {P : sa_P} {I : sa_I} {J : sa_J}
theorem iwy_one {n : Nat} {T : Nat → Int} (rr : Rg n T) {p : Nat} (hp1 : 2 ≤ p) (hp2 : p ≤ 97) {a b : Int} (ba : bd a 97) (bb : bd b 97) (hI : I 0 1 = nI n) (hT : ∀ i j c, i < n → j < n → c < 3 → J 2 (9 * i + 3 * j + c) = lI (T (9 * i + 3 * j + c))) {i j : Nat} (hi : i = 1 ∨ i = 2) (hj : j = 1 ∨ j = 2) (hi2 : i < n) (hj2 : j < n) (kt : (p : Int) ∣ sw n T a b i j → Sat (ER l D aI aL ad) M_X7_isWay P 169 [(0, .ref (ad 0)), (1, .long (lI a)), (3, .long (lI b)), (5, .long (lI p)), (8, .int (nI i)), (9, .int (nI j))] [.int 1] I J) (kf : ¬ (p : Int) ∣ sw n T a b i j → Sat (ER l D aI aL ad) M_X7_isWay P 169 [(0, .ref (ad 0)), (1, .long (lI a)), (3, .long (lI b)), (5, .long (lI p)), (8, .int (nI i)), (9, .int (nI j))] [.int 0] I J) : Sat (ER l D aI aL ad) M_X7_isWay P 38 [(0, .ref (ad 0)), (1, .long (lI a)), (3, .long (lI b)), (5, .long (lI p)), (8, .int (nI i)), (9, .int (nI j))] [] I J := by
  have h0 := rr.n
  have s49 : ∀ {s : Int}, s = xw a b i → Sat (ER l D aI aL ad) M_X7_isWay P 49 [(0, .ref (ad 0)), (1, .long (lI a)), (3, .long (lI b)), (5, .long (lI p)), (8, .int (nI i)), (9, .int (nI j))] [.long (lI s)] I J := by
    intro s hs
    have s62 : ∀ {r : Int}, r = xw a b j → Sat (ER l D aI aL ad) M_X7_isWay P 62 [(0, .ref (ad 0)), (1, .long (lI a)), (3, .long (lI b)), (5, .long (lI p)), (8, .int (nI i)), (9, .int (nI j)), (10, .long (lI s))] [.long (lI r)] I J := by
      intro r hr
      have ej : ((9 : Int32) * nI i) + ((3 : Int32) * nI j) = nI (9 * i + 3 * j) := by rw [nI_lit 9, nI_lit 3, nI_mulE, nI_mulE, nI_addE]
      have g : ∀ t, bd (T t % (p : Int)) 97 := fun t => md_bd _ hp1 hp2
      have bs : bd s 97 := by rw [hs]; unfold xw; by_cases c : i = 1 <;> simp only [c, if_true, if_false] <;> assumption
      have br : bd r 97 := by rw [hr]; unfold xw; by_cases c : j = 1 <;> simp only [c, if_true, if_false] <;> assumption
      have last : ∀ {w : Int}, w = (if n = 2 then 0 else T (9 * i + 3 * j + 2) % p * b) → Sat (ER l D aI aL ad) M_X7_isWay P 145 [(0, .ref (ad 0)), (1, .long (lI a)), (3, .long (lI b)), (5, .long (lI p)), (8, .int (nI i)), (9, .int (nI j)), (10, .long (lI s)), (12, .long (lI r))] [.long (lI w), .long (lI (T (9 * i + 3 * j) % p + T (9 * i + 3 * j + 1) % p * a))] I J := by
        intro w hw
        have bw : bd w 9409 := by
          rw [hw]; by_cases c : n = 2 <;> simp only [c, if_true, if_false]
          · exact ⟨by decide, by decide⟩
          · exact bd_mul (g _) bb
        have ez : lI (T (9 * i + 3 * j) % p + T (9 * i + 3 * j + 1) % p * a + w) - lI s * lI r = lI (swR n T p a b i j) := by
          rw [lI_mul, lI_sub, hw, hs, hr]; rfl
        have bz : bd (swR n T p a b i j) 100000 := by
          unfold swR; rw [← hs, ← hr, ← hw]
          exact bd_mono (bd_sub (bd_add (bd_add (g _) (bd_mul (g _) ba)) bw) (bd_mul bs br)) (by decide)
        have gp : rg (p : Int) := ⟨by omega, by omega⟩
        have key : (p : Int) ∣ sw n T a b i j ↔ ∃ k, swR n T p a b i j = k * (p : Int) := by
          rw [← sw_R]
          exact ⟨fun ⟨k, h⟩ => ⟨k, by rw [h, Int.mul_comm]⟩, fun ⟨k, h⟩ => ⟨k, by rw [h, Int.mul_comm]⟩⟩
        refine bX7_isWay_145 (v146 := lI (T (9 * i + 3 * j) % p + T (9 * i + 3 * j + 1) % p * a + w)) (lI_ne0 gp (by omega)) (lI_add _ _) (fun c => ?_) (fun c => ?_)
        · rw [ez, rm_dvd (bd_rg bz (by decide)) gp (by omega)] at c
          exact bX7_isWay_168 (kf (fun h => c (key.mp h)))
        · rw [ez, rm_dvd (bd_rg bz (by decide)) gp (by omega)] at c
          exact bX7_isWay_164 (kt (key.mpr c))
      refine bX7_isWay_62 (j77 := 9 * i + 3 * j) ej (by omega) ?_
      refine v_X7_155 dX7_isWay_81 rfl ⟨rfl, rfl, Nat.le_of_ble_eq_true rfl, Nat.le_of_ble_eq_true rfl⟩ (c_floorModE (a := T (9 * i + 3 * j)) (W := p) (z := T (9 * i + 3 * j) % p) (hT i j 0 hi2 hj2 (by decide)) rfl (bd_rg (rr.tb _) (by decide)) (by omega) (by omega) rfl) rfl rfl (Nat.le_of_ble_eq_true rfl) (fun r I1 J1 hq => ?_)
      obtain ⟨rfl, q2, q3⟩ := hq
      obtain rfl := q2.symm
      obtain rfl := q3.symm
      refine bX7_isWay_84 (j99 := 9 * i + 3 * j + 1) (by rw [ej]; exact nI_addE _ 1) (by omega) ?_
      refine v_X7_155 dX7_isWay_103 rfl ⟨rfl, rfl, Nat.le_of_ble_eq_true rfl, Nat.le_of_ble_eq_true rfl⟩ (c_floorModE (a := T (9 * i + 3 * j + 1)) (W := p) (z := T (9 * i + 3 * j + 1) % p) (hT i j 1 hi2 hj2 (by decide)) rfl (bd_rg (rr.tb _) (by decide)) (by omega) (by omega) rfl) rfl rfl (Nat.le_of_ble_eq_true rfl) (fun r I1 J1 hq => ?_)
      obtain ⟨rfl, q2, q3⟩ := hq
      obtain rfl := q2.symm
      obtain rfl := q3.symm
      refine bX7_isWay_106 (fun c => ?_) (fun c => ?_)
      · have hn : n = 2 := h0.resolve_right (fun h => c (by rw [hI, h]; rfl))
        rw [lI_mul, lI_add]
        exact bX7_isWay_144 (last (w := 0) (by rw [if_pos hn]))
      · have hn : ¬ n = 2 := fun h => by rw [hI, h] at c; exact absurd c (by decide)
        rw [lI_mul, lI_add]
        refine bX7_isWay_117 (j132 := 9 * i + 3 * j + 2) (by rw [ej]; exact nI_addE _ 2) (by omega) ?_
        refine v_X7_155 dX7_isWay_136 rfl ⟨rfl, rfl, Nat.le_of_ble_eq_true rfl, Nat.le_of_ble_eq_true rfl⟩ (c_floorModE (a := T (9 * i + 3 * j + 2)) (W := p) (z := T (9 * i + 3 * j + 2) % p) (hT i j 2 hi2 hj2 (by decide)) rfl (bd_rg (rr.tb _) (by decide)) (by omega) (by omega) rfl) rfl rfl (Nat.le_of_ble_eq_true rfl) (fun r I1 J1 hq => ?_)
        obtain ⟨rfl, q2, q3⟩ := hq
        obtain rfl := q2.symm
        obtain rfl := q3.symm
        refine bX7_isWay_139 ?_
        rw [lI_mul]
        exact last (by rw [if_neg hn])
    rcases hj with rfl | rfl
    · exact bX7_isWay_49 (fun c => absurd rfl c) (fun _ => bX7_isWay_57 (s62 rfl))
    · exact bX7_isWay_49 (fun _ => bX7_isWay_61 (s62 rfl)) (fun c => absurd c (by decide))
  rcases hi with rfl | rfl
  · exact bX7_isWay_38 (fun c => absurd rfl c) (fun _ => bX7_isWay_44 (s49 rfl))
  · exact bX7_isWay_38 (fun _ => bX7_isWay_48 (s49 rfl)) (fun c => absurd c (by decide))
theorem c_isWay {n : Nat} {T : Nat → Int} (rr : Rg n T) {p : Nat} (hp1 : 2 ≤ p) (hp2 : p ≤ 97) {a b : Int} (ba : bd a 97) (bb : bd b 97) (hI : I 0 1 = nI n) (hT : ∀ i j c, i < n → j < n → c < 3 → J 2 (9 * i + 3 * j + c) = lI (T (9 * i + 3 * j + c))) : Con (ER l D aI aL ad) M_X7_isWay yX7_isWay [.ref (ad 0), .long (lI a), .long (lI b), .long (lI p)] I J (fun r I1 J1 => I1 = I ∧ J1 = J ∧ bP (wy n T p a b) r) := by
  refine Con.of (by decide +kernel) rfl (Nat.le_of_ble_eq_true rfl) ?_
  have no : ¬ wy n T p a b → ∀ {i : Nat} {j : Nat}, Sat (ER l D aI aL ad) M_X7_isWay (fun r I1 J1 => I1 = I ∧ J1 = J ∧ bP (wy n T p a b) r) 169 [(0, .ref (ad 0)), (1, .long (lI a)), (3, .long (lI b)), (5, .long (lI p)), (8, .int (nI i)), (9, .int (nI j))] [.int 0] I J := by
    intro h i j
    refine bX7_isWay_169 (v171 := nI (j + 1)) (nI_addE j 1) ?_
    have q177 : Sat (ER l D aI aL ad) M_X7_isWay (fun r I1 J1 => I1 = I ∧ J1 = J ∧ bP (wy n T p a b) r) 177 [(0, .ref (ad 0)), (1, .long (lI a)), (3, .long (lI b)), (5, .long (lI p)), (7, .int 0), (8, .int (nI i))] [] I J := by
      refine bX7_isWay_177 (v177 := nI (i + 1)) (nI_addE i 1) ?_
      have q183 : Sat (ER l D aI aL ad) M_X7_isWay (fun r I1 J1 => I1 = I ∧ J1 = J ∧ bP (wy n T p a b) r) 183 [(7, .int 0)] [] I J := bX7_isWay_183 rfl ⟨rfl, rfl, Or.inr ⟨h, rfl⟩⟩
      exact bX7_isWay_6 (fun _ => q183) (fun _ => bX7_isWay_15 (fun _ => q183) (fun c => absurd rfl c))
    exact bX7_isWay_24 (fun _ => q177) (fun _ => bX7_isWay_33 (fun _ => q177) (fun c => absurd rfl c))
  have one : ∀ i j, (i = 1 ∨ i = 2) → (j = 1 ∨ j = 2) → i < n → j < n → (¬ (p : Int) ∣ sw n T a b i j → ¬ wy n T p a b) → ((p : Int) ∣ sw n T a b i j → Sat (ER l D aI aL ad) M_X7_isWay (fun r I1 J1 => I1 = I ∧ J1 = J ∧ bP (wy n T p a b) r) 24 [(0, .ref (ad 0)), (1, .long (lI a)), (3, .long (lI b)), (5, .long (lI p)), (7, .int 1), (8, .int (nI i)), (9, .int (nI (j + 1)))] [] I J) → Sat (ER l D aI aL ad) M_X7_isWay (fun r I1 J1 => I1 = I ∧ J1 = J ∧ bP (wy n T p a b) r) 24 [(0, .ref (ad 0)), (1, .long (lI a)), (3, .long (lI b)), (5, .long (lI p)), (7, .int 1), (8, .int (nI i)), (9, .int (nI j))] [] I J := by
    intro i j hi hj hi2 hj2 hn kk
    have hn3 := rr.n
    refine bX7_isWay_24 (fun c => absurd c (by rw [hI, nJ_le (by omega) (by omega)]; omega)) (fun _ => bX7_isWay_33 (fun c => absurd c (by decide)) (fun _ => ?_))
    exact iwy_one rr hp1 hp2 ba bb hI hT hi hj hi2 hj2 (fun c => bX7_isWay_169 (v171 := nI (j + 1)) (nI_addE j 1) (kk c)) (fun c => no (hn c))
  refine bX7_isWay_0 (v1 := 1) (v4 := nI 1) rfl rfl ?_
  rcases rr.n with rfl | rfl
  · refine bX7_isWay_6 (fun c => absurd c (by rw [hI]; decide)) (fun _ => bX7_isWay_15 (fun c => absurd c (by decide)) (fun _ => bX7_isWay_20 ?_))
    refine one 1 1 (Or.inl rfl) (Or.inl rfl) (by decide) (by decide) (fun c h => c (wy_sw.mp h).1) (fun c1 => ?_)
    refine bX7_isWay_24 (fun _ => ?_) (fun c => absurd (by rw [hI]; decide) c)
    refine bX7_isWay_177 (v177 := nI 2) rfl (bX7_isWay_6 (fun _ => ?_) (fun c => absurd (by rw [hI]; decide) c))
    exact bX7_isWay_183 rfl ⟨rfl, rfl, Or.inl ⟨wy_sw.mpr ⟨c1, fun q => absurd q (by decide)⟩, rfl⟩⟩
  · refine bX7_isWay_6 (fun c => absurd c (by rw [hI]; decide)) (fun _ => bX7_isWay_15 (fun c => absurd c (by decide)) (fun _ => bX7_isWay_20 ?_))
    refine one 1 1 (Or.inl rfl) (Or.inl rfl) (by decide) (by decide) (fun c h => c (wy_sw.mp h).1) (fun c1 => ?_)
    refine one 1 2 (Or.inl rfl) (Or.inr rfl) (by decide) (by decide) (fun c h => c ((wy_sw.mp h).2 rfl).1) (fun c2 => ?_)
    refine bX7_isWay_24 (fun _ => ?_) (fun c => absurd (by rw [hI]; decide) c)
    refine bX7_isWay_177 (v177 := nI 2) rfl (bX7_isWay_6 (fun c => absurd c (by rw [hI]; decide)) (fun _ => bX7_isWay_15 (fun c => absurd c (by decide)) (fun _ => bX7_isWay_20 ?_)))
    refine one 2 2 (Or.inr rfl) (Or.inr rfl) (by decide) (by decide) (fun c h => c ((wy_sw.mp h).2 rfl).2) (fun c3 => ?_)
    refine bX7_isWay_24 (fun _ => ?_) (fun c => absurd (by rw [hI]; decide) c)
    refine bX7_isWay_177 (v177 := nI 3) rfl (bX7_isWay_6 (fun _ => ?_) (fun c => absurd (by rw [hI]; decide) c))
    exact bX7_isWay_183 rfl ⟨rfl, rfl, Or.inl ⟨wy_sw.mpr ⟨c1, fun _ => ⟨c2, c3⟩⟩, rfl⟩⟩
theorem c_wholeRows2 {m : Int} (hI : I 0 1 = nI 2) {a3 q3 n3 : Nat} (hq3 : sa_iJ (ER l D aI aL ad) a3 q3 n3) (hn3 : n3 < 2 ^ 31) (h9 : 9 ≤ n3) : Con (ER l D aI aL ad) M_X7_wholeRows yX7_wholeRows [.ref (ad 0), .long (lI m), .ref a3] I J (fun r I1 J1 => r = none ∧ I1 = I ∧ (∀ q, q ≠ q3 → J1 q = J q) ∧ ∀ t, t < 6 → J1 q3 t = lI (smR 2 m t)) := by
  refine Con.of (by decide +kernel) rfl (Nat.le_of_ble_eq_true rfl) ?_
  refine bX7_wholeRows_0 (v1 := nI 0) hq3 hn3 rfl ?_
  refine bX7_wholeRows_3 hq3 hn3 (fun c => absurd c (by decide)) (fun _ => ?_)
  refine bX7_wholeRows_10 hq3 hn3 (fun c => absurd (by decide) c) (fun _ => ?_)
  refine bX7_wholeRows_20 hq3 hn3 (fun c => absurd c (by rw [hI]; decide)) (fun _ => bX7_wholeRows_31 hq3 hn3 ?_)
  refine bX7_wholeRows_36 (s1 := 0) (v37 := nI 1) hq3 hn3 (by omega) rfl ?_
  refine bX7_wholeRows_3 hq3 hn3 (fun c => absurd c (by decide)) (fun _ => ?_)
  refine bX7_wholeRows_10 hq3 hn3 (fun _ => bX7_wholeRows_35 hq3 hn3 ?_) (fun c => absurd c (by decide))
  refine bX7_wholeRows_36 (s1 := 1) (v37 := nI 2) hq3 hn3 (by omega) rfl ?_
  refine bX7_wholeRows_3 hq3 hn3 (fun c => absurd c (by decide)) (fun _ => ?_)
  refine bX7_wholeRows_10 hq3 hn3 (fun _ => bX7_wholeRows_35 hq3 hn3 ?_) (fun c => absurd c (by decide))
  refine bX7_wholeRows_36 (s1 := 2) (v37 := nI 3) hq3 hn3 (by omega) rfl ?_
  refine bX7_wholeRows_3 hq3 hn3 (fun c => absurd c (by decide)) (fun _ => ?_)
  refine bX7_wholeRows_10 hq3 hn3 (fun _ => bX7_wholeRows_35 hq3 hn3 ?_) (fun c => absurd c (by decide))
  refine bX7_wholeRows_36 (s1 := 3) (v37 := nI 4) hq3 hn3 (by omega) rfl ?_
  refine bX7_wholeRows_3 hq3 hn3 (fun c => absurd c (by decide)) (fun _ => ?_)
  refine bX7_wholeRows_10 hq3 hn3 (fun c => absurd (by decide) c) (fun _ => ?_)
  refine bX7_wholeRows_20 hq3 hn3 (fun c => absurd c (by rw [hI]; decide)) (fun _ => bX7_wholeRows_31 hq3 hn3 ?_)
  refine bX7_wholeRows_36 (s1 := 4) (v37 := nI 5) hq3 hn3 (by omega) rfl ?_
  refine bX7_wholeRows_3 hq3 hn3 (fun c => absurd c (by decide)) (fun _ => ?_)
  refine bX7_wholeRows_10 hq3 hn3 (fun _ => bX7_wholeRows_35 hq3 hn3 ?_) (fun c => absurd c (by decide))
  refine bX7_wholeRows_36 (s1 := 5) (v37 := nI 6) hq3 hn3 (by omega) rfl ?_
  refine bX7_wholeRows_3 hq3 hn3 (fun c => absurd c (by decide)) (fun _ => ?_)
  refine bX7_wholeRows_10 hq3 hn3 (fun _ => bX7_wholeRows_35 hq3 hn3 ?_) (fun c => absurd c (by decide))
  refine bX7_wholeRows_36 (s1 := 6) (v37 := nI 7) hq3 hn3 (by omega) rfl ?_
  refine bX7_wholeRows_3 hq3 hn3 (fun c => absurd c (by decide)) (fun _ => ?_)
  refine bX7_wholeRows_10 hq3 hn3 (fun _ => bX7_wholeRows_35 hq3 hn3 ?_) (fun c => absurd c (by decide))
  refine bX7_wholeRows_36 (s1 := 7) (v37 := nI 8) hq3 hn3 (by omega) rfl ?_
  refine bX7_wholeRows_3 hq3 hn3 (fun c => absurd c (by decide)) (fun _ => ?_)
  refine bX7_wholeRows_10 hq3 hn3 (fun c => absurd (by decide) c) (fun _ => ?_)
  refine bX7_wholeRows_20 hq3 hn3 (fun _ => bX7_wholeRows_35 hq3 hn3 ?_) (fun c => absurd (by rw [hI]; decide) c)
  refine bX7_wholeRows_36 (s1 := 8) (v37 := nI 9) hq3 hn3 (by omega) rfl ?_
  refine bX7_wholeRows_3 hq3 hn3 (fun _ => bX7_wholeRows_43 ⟨rfl, rfl, fun q hq => by simp only [sa_uJ_ne hq], fun t ht => ?_⟩) (fun c => absurd (by decide) c)
  have ht2 : t = 0 ∨ t = 1 ∨ t = 2 ∨ t = 3 ∨ t = 4 ∨ t = 5 := by omega
  rcases ht2 with rfl | rfl | rfl | rfl | rfl | rfl <;> simp [sa_uJ_if, smR, lI_zero]
theorem c_wholeRows3 {m : Int} (hI : I 0 1 = nI 3) {a3 q3 n3 : Nat} (hq3 : sa_iJ (ER l D aI aL ad) a3 q3 n3) (hn3 : n3 < 2 ^ 31) (h9 : 9 ≤ n3) : Con (ER l D aI aL ad) M_X7_wholeRows yX7_wholeRows [.ref (ad 0), .long (lI m), .ref a3] I J (fun r I1 J1 => r = none ∧ I1 = I ∧ (∀ q, q ≠ q3 → J1 q = J q) ∧ ∀ t, t < 9 → J1 q3 t = lI (smR 3 m t)) := by
  refine Con.of (by decide +kernel) rfl (Nat.le_of_ble_eq_true rfl) ?_
  refine bX7_wholeRows_0 (v1 := nI 0) hq3 hn3 rfl ?_
  refine bX7_wholeRows_3 hq3 hn3 (fun c => absurd c (by decide)) (fun _ => ?_)
  refine bX7_wholeRows_10 hq3 hn3 (fun c => absurd (by decide) c) (fun _ => ?_)
  refine bX7_wholeRows_20 hq3 hn3 (fun c => absurd c (by rw [hI]; decide)) (fun _ => bX7_wholeRows_31 hq3 hn3 ?_)
  refine bX7_wholeRows_36 (s1 := 0) (v37 := nI 1) hq3 hn3 (by omega) rfl ?_
  refine bX7_wholeRows_3 hq3 hn3 (fun c => absurd c (by decide)) (fun _ => ?_)
  refine bX7_wholeRows_10 hq3 hn3 (fun _ => bX7_wholeRows_35 hq3 hn3 ?_) (fun c => absurd c (by decide))
  refine bX7_wholeRows_36 (s1 := 1) (v37 := nI 2) hq3 hn3 (by omega) rfl ?_
  refine bX7_wholeRows_3 hq3 hn3 (fun c => absurd c (by decide)) (fun _ => ?_)
  refine bX7_wholeRows_10 hq3 hn3 (fun _ => bX7_wholeRows_35 hq3 hn3 ?_) (fun c => absurd c (by decide))
  refine bX7_wholeRows_36 (s1 := 2) (v37 := nI 3) hq3 hn3 (by omega) rfl ?_
  refine bX7_wholeRows_3 hq3 hn3 (fun c => absurd c (by decide)) (fun _ => ?_)
  refine bX7_wholeRows_10 hq3 hn3 (fun _ => bX7_wholeRows_35 hq3 hn3 ?_) (fun c => absurd c (by decide))
  refine bX7_wholeRows_36 (s1 := 3) (v37 := nI 4) hq3 hn3 (by omega) rfl ?_
  refine bX7_wholeRows_3 hq3 hn3 (fun c => absurd c (by decide)) (fun _ => ?_)
  refine bX7_wholeRows_10 hq3 hn3 (fun c => absurd (by decide) c) (fun _ => ?_)
  refine bX7_wholeRows_20 hq3 hn3 (fun c => absurd c (by rw [hI]; decide)) (fun _ => bX7_wholeRows_31 hq3 hn3 ?_)
  refine bX7_wholeRows_36 (s1 := 4) (v37 := nI 5) hq3 hn3 (by omega) rfl ?_
  refine bX7_wholeRows_3 hq3 hn3 (fun c => absurd c (by decide)) (fun _ => ?_)
  refine bX7_wholeRows_10 hq3 hn3 (fun _ => bX7_wholeRows_35 hq3 hn3 ?_) (fun c => absurd c (by decide))
  refine bX7_wholeRows_36 (s1 := 5) (v37 := nI 6) hq3 hn3 (by omega) rfl ?_
  refine bX7_wholeRows_3 hq3 hn3 (fun c => absurd c (by decide)) (fun _ => ?_)
  refine bX7_wholeRows_10 hq3 hn3 (fun _ => bX7_wholeRows_35 hq3 hn3 ?_) (fun c => absurd c (by decide))
  refine bX7_wholeRows_36 (s1 := 6) (v37 := nI 7) hq3 hn3 (by omega) rfl ?_
  refine bX7_wholeRows_3 hq3 hn3 (fun c => absurd c (by decide)) (fun _ => ?_)
  refine bX7_wholeRows_10 hq3 hn3 (fun _ => bX7_wholeRows_35 hq3 hn3 ?_) (fun c => absurd c (by decide))
  refine bX7_wholeRows_36 (s1 := 7) (v37 := nI 8) hq3 hn3 (by omega) rfl ?_
  refine bX7_wholeRows_3 hq3 hn3 (fun c => absurd c (by decide)) (fun _ => ?_)
  refine bX7_wholeRows_10 hq3 hn3 (fun c => absurd (by decide) c) (fun _ => ?_)
  refine bX7_wholeRows_20 hq3 hn3 (fun c => absurd c (by rw [hI]; decide)) (fun _ => bX7_wholeRows_31 hq3 hn3 ?_)
  refine bX7_wholeRows_36 (s1 := 8) (v37 := nI 9) hq3 hn3 (by omega) rfl ?_
  refine bX7_wholeRows_3 hq3 hn3 (fun _ => bX7_wholeRows_43 ⟨rfl, rfl, fun q hq => by simp only [sa_uJ_ne hq], fun t ht => ?_⟩) (fun c => absurd (by decide) c)
  rcases below9 ht with rfl | rfl | rfl | rfl | rfl | rfl | rfl | rfl | rfl <;> simp [sa_uJ_if, smR, lI_zero]
theorem c_wholeRows {n : Nat} (h0 : n = 2 ∨ n = 3) {m : Int} (hI : I 0 1 = nI n) {a3 q3 n3 : Nat} (hq3 : sa_iJ (ER l D aI aL ad) a3 q3 n3) (hn3 : n3 < 2 ^ 31) (h9 : 9 ≤ n3) : Con (ER l D aI aL ad) M_X7_wholeRows yX7_wholeRows [.ref (ad 0), .long (lI m), .ref a3] I J (fun r I1 J1 => r = none ∧ I1 = I ∧ (∀ q, q ≠ q3 → J1 q = J q) ∧ ∀ t, t < 3 * n → J1 q3 t = lI (smR n m t)) := by
  rcases h0 with rfl | rfl
  · exact c_wholeRows2 hI hq3 hn3 h9
  · exact c_wholeRows3 hI hq3 hn3 h9
theorem hp_loop {x1 x2 : Int32} {m : Nat} (hm : m ≤ 2) (h32 : I 0 32 = nI m) : ∀ (d t0 : Nat), t0 + d = 9 → ∀ J : sa_J, (∀ J1, (∀ q, q ≠ 18 → J1 q = J q) → (∀ t, t0 ≤ t → t < 9 → J1 18 (9 * m + t) = J 14 t) → (∀ t, (t < 9 * m + t0 ∨ 9 * m + 9 ≤ t) → J1 18 t = J 18 t) → Sat (ER l D aI aL ad) M_X7_holdsPrime P 34 [(0, .ref (ad 0)), (1, .int x1), (2, .int x2)] [] I J1) → Sat (ER l D aI aL ad) M_X7_holdsPrime P 2 [(0, .ref (ad 0)), (1, .int x1), (2, .int x2), (3, .int (nI t0))] [] I J := by
  intro d
  induction d with
  | zero =>
    intro t0 hd J kk
    exact bX7_holdsPrime_2 (fun _ => kk J (fun _ _ => rfl) (fun t a b => by omega) (fun _ _ => rfl)) (fun c => absurd (by rw [nI_lit 9, nJ_le (by omega) (by omega)]; omega) c)
  | succ d ih =>
    intro t0 hd J kk
    refine bX7_holdsPrime_2 (fun c => absurd c (by rw [nI_lit 9, nJ_le (by omega) (by omega)]; omega)) (fun _ => ?_)
    refine bX7_holdsPrime_8 (j20 := 9 * m + t0) (j25 := t0) (v27 := J 14 t0) (v28 := nI (t0 + 1)) (by rw [h32, nI_lit 9, nI_mulE, nI_addE]) rfl (by omega) (by omega) rfl (nI_addE t0 1) ?_
    refine ih (t0 + 1) (by omega) _ (fun J1 f1 f2 f3 => kk J1 (fun q hq => by rw [f1 q hq, sa_uJ_ne hq]) (fun t a b => ?_) (fun t ht => ?_))
    · by_cases c : t = t0
      · rw [f3 _ (Or.inl (by omega)), c, sa_uJ_if, if_pos ⟨rfl, rfl⟩]
      · rw [f2 t (by omega) b, sa_uJ_ne (by decide)]
    · rw [f3 t (by omega), sa_uJ_if, if_neg (by omega)]
def hoF (I I1 : sa_I) (J J1 : sa_J) : Prop := (∀ q, q ≠ 0 → q ≠ 19 → q ≠ 20 → I1 q = I q) ∧ (∀ t, t ≠ 32 → I1 0 t = I 0 t) ∧ ∀ q, q ≠ 14 → q ≠ 18 → J1 q = J q
theorem hoF.rfl' : hoF I I J J := ⟨fun _ _ _ _ => rfl, fun _ _ => rfl, fun _ _ _ => rfl⟩
theorem hoF.tr {I1 I2 : sa_I} {J1 J2 : sa_J} (h : hoF I I1 J J1) (g : hoF I1 I2 J1 J2) : hoF I I2 J J2 := ⟨fun q a b c => (g.1 q a b c).trans (h.1 q a b c), fun t ht => (g.2.1 t ht).trans (h.2.1 t ht), fun q a b => (g.2.2 q a b).trans (h.2.2 q a b)⟩
theorem c_holdsPrime {n : Nat} (h3 : n ≤ 3) {E0 : List PE} {x y : Int} {R : Nat → Int} (hE : E0.length ≤ 2) (hC : RS n E0 I J) (hR : ∀ t, t < 3 * n → J 14 t = lI (R t)) : Con (ER l D aI aL ad) M_X7_holdsPrime yX7_holdsPrime [.ref (ad 0), .int (iI y), .int (iI x)] I J (fun r I1 J1 => r = none ∧ RS n (E0 ++ [(x, y, R)]) I1 J1 ∧ hoF I I1 J J1 ∧ J1 14 = J 14) := by
  refine Con.of (by decide +kernel) rfl (Nat.le_of_ble_eq_true rfl) ?_
  obtain ⟨h0, hc⟩ := hC
  refine bX7_holdsPrime_0 (v1 := nI 0) rfl ?_
  refine hp_loop hE h0 9 0 (by decide) J (fun J1 f1 f2 f3 => ?_)
  refine bX7_holdsPrime_34 (j39 := E0.length) (j49 := E0.length) (v61 := nI (E0.length + 1)) h0 (by omega) (by rw [sa_uI_ne (by decide)]; exact h0) (by omega) ?_ ⟨rfl, ⟨?_, fun i e he => ?_⟩, ⟨fun q h1 h2 h3 => ?_, fun t ht => ?_, fun q a b => f1 q b⟩, f1 14 (by decide)⟩
  · rw [sa_uI_ne (by decide), sa_uI_ne (by decide), h0]; exact nI_addE _ 1
  · rw [sa_uI_at, List.length_append]; rfl
  · have hlt : i < E0.length + 1 := by
      have := (List.getElem?_eq_some_iff.mp he).1
      rw [List.length_append] at this; exact this
    have r19 : ∀ z, (sa_uI (sa_uI (sa_uI I 20 E0.length (iI y)) 19 E0.length (iI x)) 0 32 z) 19 i = if i = E0.length then iI x else I 19 i := by intro z; simp [sa_uI_if]
    have r20 : ∀ z, (sa_uI (sa_uI (sa_uI I 20 E0.length (iI y)) 19 E0.length (iI x)) 0 32 z) 20 i = if i = E0.length then iI y else I 20 i := by intro z; simp [sa_uI_if]
    rw [r19, r20]
    by_cases c : i < E0.length
    · rw [List.getElem?_append_left c] at he
      obtain ⟨a1, a2, a3⟩ := hc i e he
      refine ⟨by rw [if_neg (by omega)]; exact a1, by rw [if_neg (by omega)]; exact a2, fun t ht => ?_⟩
      rw [f3 _ (Or.inl (by omega))]; exact a3 t ht
    · have : i = E0.length := by omega
      subst this
      rw [List.getElem?_append_right (Nat.le_refl _), Nat.sub_self] at he
      have he' : (x, y, R) = e := by simpa using he
      subst he'
      refine ⟨by rw [if_pos rfl], by rw [if_pos rfl], fun t ht => ?_⟩
      rw [f2 t (by omega) (by omega)]; exact hR t ht
  · rw [sa_uI_ne h1, sa_uI_ne h2, sa_uI_ne h3]
  · rw [sa_uI_if, if_neg (by omega), sa_uI_ne (by decide), sa_uI_ne (by decide)]
theorem lp_loop {i : Nat} (hi : i < 3) {a2 q2 n2 : Nat} (hq2 : sa_iJ (ER l D aI aL ad) a2 q2 n2) (hn2 : n2 < 2 ^ 31) (h9 : 9 ≤ n2) (hz : q2 ≠ 18) : ∀ (d t0 : Nat), t0 + d = 9 → ∀ J : sa_J, (∀ J1, (∀ q, q ≠ q2 → J1 q = J q) → (∀ t, t0 ≤ t → t < 9 → J1 q2 t = J 18 (9 * i + t)) → (∀ t, t < t0 → J1 q2 t = J q2 t) → P none I J1) → Sat (ER l D aI aL ad) M_X7_loadPrime P 2 [(0, .ref (ad 0)), (1, .int (nI i)), (2, .ref a2), (3, .int (nI t0))] [] I J := by
  intro d
  induction d with
  | zero =>
    intro t0 hd J kk
    exact bX7_loadPrime_2 hq2 hn2 (fun _ => bX7_loadPrime_28 (kk J (fun _ _ => rfl) (fun t a b => by omega) (fun _ _ => rfl))) (fun c => absurd (by rw [nI_lit 9, nJ_le (by omega) (by omega)]; omega) c)
  | succ d ih =>
    intro t0 hd J kk
    refine bX7_loadPrime_2 hq2 hn2 (fun c => absurd c (by rw [nI_lit 9, nJ_le (by omega) (by omega)]; omega)) (fun _ => ?_)
    refine bX7_loadPrime_8 (j9 := t0) (j19 := 9 * i + t0) (v21 := J 18 (9 * i + t0)) (v22 := nI (t0 + 1)) hq2 hn2 rfl (by rw [nI_lit 9, nI_mulE, nI_addE]) (by omega) (by omega) rfl (nI_addE t0 1) ?_
    refine ih (t0 + 1) (by omega) _ (fun J1 f1 f2 f3 => kk J1 (fun q hq => by rw [f1 q hq, sa_uJ_ne hq]) (fun t a b => ?_) (fun t ht => ?_))
    · by_cases c : t = t0
      · rw [f3 _ (by omega), c, sa_uJ_if, if_pos ⟨rfl, rfl⟩]
      · rw [f2 t (by omega) b, sa_uJ_ne (fun h => hz h.symm)]
    · rw [f3 t (by omega), sa_uJ_if, if_neg (by omega)]
theorem c_loadPrime {i : Nat} (hi : i < 3) {a2 q2 n2 : Nat} (hq2 : sa_iJ (ER l D aI aL ad) a2 q2 n2) (hn2 : n2 < 2 ^ 31) (h9 : 9 ≤ n2) (hz : q2 ≠ 18) : Con (ER l D aI aL ad) M_X7_loadPrime yX7_loadPrime [.ref (ad 0), .int (nI i), .ref a2] I J (fun r I1 J1 => r = none ∧ I1 = I ∧ (∀ q, q ≠ q2 → J1 q = J q) ∧ ∀ t, t < 9 → J1 q2 t = J 18 (9 * i + t)) := by
  refine Con.of (by decide +kernel) rfl (Nat.le_of_ble_eq_true rfl) ?_
  refine bX7_loadPrime_0 (v1 := nI 0) hq2 hn2 rfl ?_
  exact lp_loop hi hq2 hn2 h9 hz 9 0 (by decide) J (fun J1 f1 f2 _ => ⟨rfl, rfl, f1, fun t ht => f2 t (by omega) ht⟩)
theorem mv_loop {a1 q1 n1 : Nat} (hq1 : sa_iJ (ER l D aI aL ad) a1 q1 n1) (hn1 : n1 < 2 ^ 31) (h91 : 9 ≤ n1) {a2 q2 n2 : Nat} (hq2 : sa_iJ (ER l D aI aL ad) a2 q2 n2) (hn2 : n2 < 2 ^ 31) (h9 : 9 ≤ n2) (hz : q2 ≠ q1) : ∀ (d t0 : Nat), t0 + d = 9 → ∀ J : sa_J, (∀ J1, (∀ q, q ≠ q2 → J1 q = J q) → (∀ t, t0 ≤ t → t < 9 → J1 q2 t = J q1 t) → (∀ t, t < t0 → J1 q2 t = J q2 t) → P none I J1) → Sat (ER l D aI aL ad) M_X7_moves P 2 [(1, .ref a1), (2, .ref a2), (3, .int (nI t0))] [] I J := by
  intro d
  induction d with
  | zero =>
    intro t0 hd J kk
    exact bX7_moves_2 hq1 hn1 hq2 hn2 (fun _ => bX7_moves_20 (kk J (fun _ _ => rfl) (fun t a b => by omega) (fun _ _ => rfl))) (fun c => absurd (by rw [nI_lit 9, nJ_le (by omega) (by omega)]; omega) c)
  | succ d ih =>
    intro t0 hd J kk
    refine bX7_moves_2 hq1 hn1 hq2 hn2 (fun c => absurd c (by rw [nI_lit 9, nJ_le (by omega) (by omega)]; omega)) (fun _ => ?_)
    refine bX7_moves_8 (j9 := t0) (j11 := t0) (v13 := J q1 t0) (v14 := nI (t0 + 1)) hq1 hn1 hq2 hn2 rfl rfl (by omega) (by omega) rfl (nI_addE t0 1) ?_
    refine ih (t0 + 1) (by omega) _ (fun J1 f1 f2 f3 => kk J1 (fun q hq => by rw [f1 q hq, sa_uJ_ne hq]) (fun t a b => ?_) (fun t ht => ?_))
    · by_cases c : t = t0
      · rw [f3 _ (by omega), c, sa_uJ_if, if_pos ⟨rfl, rfl⟩]
      · rw [f2 t (by omega) b, sa_uJ_ne (fun h => hz h.symm)]
    · rw [f3 t (by omega), sa_uJ_if, if_neg (by omega)]
theorem c_moves {a1 q1 n1 : Nat} (hq1 : sa_iJ (ER l D aI aL ad) a1 q1 n1) (hn1 : n1 < 2 ^ 31) (h91 : 9 ≤ n1) {a2 q2 n2 : Nat} (hq2 : sa_iJ (ER l D aI aL ad) a2 q2 n2) (hn2 : n2 < 2 ^ 31) (h9 : 9 ≤ n2) (hz : q2 ≠ q1) : Con (ER l D aI aL ad) M_X7_moves yX7_moves [.ref (ad 0), .ref a1, .ref a2] I J (fun r I1 J1 => r = none ∧ I1 = I ∧ (∀ q, q ≠ q2 → J1 q = J q) ∧ ∀ t, t < 9 → J1 q2 t = J q1 t) := by
  refine Con.of (by decide +kernel) rfl (Nat.le_of_ble_eq_true rfl) ?_
  refine bX7_moves_0 (v1 := nI 0) hq1 hn1 hq2 hn2 rfl ?_
  exact mv_loop hq1 hn1 h91 hq2 hn2 h9 hz 9 0 (by decide) J (fun J1 f1 f2 _ => ⟨rfl, rfl, f1, fun t ht => f2 t (by omega) ht⟩)
end PT
