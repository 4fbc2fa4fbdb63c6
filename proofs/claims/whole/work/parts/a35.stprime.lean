/-- the primes over p are told by the table -/
theorem spc_uniq {n : Nat} {T : Nat → Int} {p : Nat} (h0 : n = 2 ∨ n = 3) {E E' : List PE} (h : Spc n T p E) (h' : Spc n T p E') : E = E' ∨ ∃ a R R', E = [a, (1, 2, R)] ∧ E' = [a, (1, 2, R')] ∧ ∀ t, t < 9 → R t = R' t := by
  rcases h with ⟨h1, rfl⟩ | ⟨h1, rfl⟩ | ⟨hn, x, h1, rfl⟩ | ⟨hn, x, h1, hr, rfl⟩ | ⟨hn, x, h1, hr, R, hH, hR2, hS, rfl⟩ | ⟨hn, x, y, h1, hr, rfl⟩ | ⟨hn, x, y, h1, hr, rfl⟩
  all_goals rcases h' with ⟨h1', rfl⟩ | ⟨h1', rfl⟩ | ⟨hn', x', h1', rfl⟩ | ⟨hn', x', h1', hr', rfl⟩ | ⟨hn', x', h1', hr', R', hH', hR2', hS', rfl⟩ | ⟨hn', x', y', h1', hr', rfl⟩ | ⟨hn', x', y', h1', hr', rfl⟩
  all_goals first
    | (left; rfl)
    | (exfalso; rw [h1] at h1'; simp at h1'; done)
    | (exfalso; rw [h1] at h1'; simp at h1'; omega)
    | (exfalso; rw [h1'] at h1; simp at h1; omega)
    | (left; rw [h1] at h1'; simp at h1'; subst h1'; rfl)
    | (left; rw [h1] at h1'; simp at h1'; obtain ⟨rfl, rfl⟩ := h1'; rfl)
    | (exfalso; rw [h1] at h1'; simp at h1'; subst h1'; exact hr' hr)
    | (exfalso; rw [h1] at h1'; simp at h1'; subst h1'; exact hr hr')
    | (exfalso; rw [h1] at h1'; simp at h1'; obtain ⟨rfl, rfl⟩ := h1'; exact hr' hr)
    | (exfalso; rw [h1] at h1'; simp at h1'; obtain ⟨rfl, rfl⟩ := h1'; exact hr hr')
    | (right; rw [h1] at h1'; simp at h1'; subst h1'; exact ⟨_, R, R', rfl, rfl, Hm_uniq hH hH' (alike_of_sp (fun v => (hS v).trans (hS' v).symm))⟩)
    | (exfalso; omega)
def ent (e e' : PE) : Prop := e.1 = e'.1 ∧ e.2.1 = e'.2.1 ∧ ∀ t, t < 9 → e.2.2 t = e'.2.2 t
theorem spc_ent {n : Nat} {T : Nat → Int} {p : Nat} (h0 : n = 2 ∨ n = 3) {E E' : List PE} (h : Spc n T p E) (h' : Spc n T p E') : E.length = E'.length ∧ ∀ (i : Nat) (e e' : PE), E[i]? = some e → E'[i]? = some e' → ent e e' := by
  rcases spc_uniq h0 h h' with rfl | ⟨a, R, R', rfl, rfl, hR⟩
  · refine ⟨rfl, fun i e e' he he' => ?_⟩
    rw [he] at he'
    have : e = e' := by simpa using he'
    subst this; exact ⟨rfl, rfl, fun _ _ => rfl⟩
  · refine ⟨rfl, fun i e e' he he' => ?_⟩
    have hi : i = 0 ∨ i = 1 := by have h2 : i < 2 := (List.getElem?_eq_some_iff.mp he).1; omega
    rcases hi with rfl | rfl
    · have q : a = e := by simpa using he
      have q' : a = e' := by simpa using he'
      rw [← q, ← q']; exact ⟨rfl, rfl, fun _ _ => rfl⟩
    · have q : ((1, 2, R) : PE) = e := by simpa using he
      have q' : ((1, 2, R') : PE) = e' := by simpa using he'
      rw [← q, ← q']; exact ⟨rfl, rfl, hR⟩
theorem spc_len {n : Nat} {T : Nat → Int} {p : Nat} (h0 : n = 2 ∨ n = 3) {E : List PE} (h : Spc n T p E) : E.length ≤ 3 := by
  rcases h with ⟨h1, rfl⟩ | ⟨h1, rfl⟩ | ⟨hn, x, h1, rfl⟩ | ⟨hn, x, h1, hr, rfl⟩ | ⟨hn, x, h1, hr, R, hH, hR2, hS, rfl⟩ | ⟨hn, x, y, h1, hr, rfl⟩ | ⟨hn, x, y, h1, hr, rfl⟩
  all_goals first
    | (rw [List.length_map]; omega)
    | simp
def small (p : Int) : Prop := p ≤ 97 ∧ ipr p = true
theorem small.n {p : Int} (h : small p) : iI p = nI p.toNat ∧ p.toNat ≤ 97 ∧ ipr (p.toNat : Int) = true ∧ 2 ≤ p := by
  have h2 : 2 ≤ p := (prm_small h.1 h.2).1
  exact ⟨iI_nat (by omega), by have := h.1; omega, by rw [Int.toNat_of_nonneg (by omega)]; exact h.2, h2⟩
def PCc (n : Nat) (T : Nat → Int) (I : sa_I) (J : sa_J) : Prop := ∀ p : Nat, p ≤ 97 → ipr (p : Int) = true → I 21 8 = nI p → ∃ E, Spc n T p E ∧ CS E I J
def PCr (n : Nat) (T : Nat → Int) (I : sa_I) (J : sa_J) : Prop := ∀ p : Nat, p ≤ 97 → ipr (p : Int) = true → I 0 31 = nI p → ∃ E, Spc n T p E ∧ RS n E I J
theorem PCc.of {n : Nat} {T : Nat → Int} {I : sa_I} {J : sa_J} {p : Nat} {E : List PE} (hp : p ≤ 97) (h : Spc n T p E) (h2 : CS E I J) (h3 : I 21 8 = nI p) : PCc n T I J := by
  intro p' a b c
  rw [h3, nJ_eq (by omega) (by omega)] at c
  subst c; exact ⟨E, h, h2⟩
theorem PCr.of {n : Nat} {T : Nat → Int} {I : sa_I} {J : sa_J} {p : Nat} {E : List PE} (hp : p ≤ 97) (h : Spc n T p E) (h2 : RS n E I J) (h3 : I 0 31 = nI p) : PCr n T I J := by
  intro p' a b c
  rw [h3, nJ_eq (by omega) (by omega)] at c
  subst c; exact ⟨E, h, h2⟩
/-- what the class's side needs for primes -/
def prC (n : Nat) (T : Nat → Int) (I : sa_I) (J : sa_J) : Prop := I 4 0 = nI n ∧ (∀ t, t < 27 → J 8 t = lI (T t)) ∧ J 26 0 = 0 ∧ J 26 2 = 0 ∧ PCc n T I J
def prD (n : Nat) (T : Nat → Int) (I : sa_I) (J : sa_J) : Prop := I 0 1 = nI n ∧ (∀ i j c, i < n → j < n → c < 3 → J 2 (9 * i + 3 * j + c) = lI (T (9 * i + 3 * j + c))) ∧ PCr n T I J
def qC (n : Nat) (T : Nat → Int) (p : Int) (I : sa_I) (J : sa_J) (E : List PE) (Ia : sa_I) (Ja : sa_J) : Prop := Spc n T p.toNat E ∧ CS E Ia Ja ∧ Ia 21 8 = nI p.toNat ∧ spF I Ia J Ja
def qD (n : Nat) (T : Nat → Int) (p : Int) (I : sa_I) (J : sa_J) (E : List PE) (Ia : sa_I) (Ja : sa_J) : Prop := Spc n T p.toNat E ∧ RS n E Ia Ja ∧ Ia 0 31 = nI p.toNat ∧ knW I Ia J Ja
def hasC (n : Nat) (T : Nat → Int) (p k : Int) (I : sa_I) (J : sa_J) : sa_P := fun r I1 J1 => (¬ small p ∧ r = some (.int 0) ∧ I1 = I ∧ J1 = J) ∨ (small p ∧ ∃ E, qC n T p I J E I1 J1 ∧ bP (0 ≤ k ∧ k < E.length) r)
def hasD (n : Nat) (T : Nat → Int) (p k : Int) (I : sa_I) (J : sa_J) : sa_P := fun r I1 J1 => (¬ small p ∧ r = some (.int 0) ∧ I1 = I ∧ J1 = J) ∨ (small p ∧ ∃ E, qD n T p I J E I1 J1 ∧ bP (0 ≤ k ∧ k < E.length) r)
section PY
variable {l : Launch} {D : va_G} {aI aL : ClassId} {ad : Nat → Nat} {P : sa_P} {I : sa_I} {J : sa_J}
theorem c_hasPrime {n : Nat} {T : Nat → Int} (rr : Rg n T) (hm : MxT n T) {p k : Int} (hp : rgi p) (hk : rgi k) (hs : prC n T I J) : Con (EC l D aI aL ad) M_X6_hasPrime yX6_hasPrime [.ref (ad 0), .int (iI p), .int (iI k)] I J (hasC n T p k I J) := by
  refine Con.of (by decide +kernel) rfl (Nat.le_of_ble_eq_true rfl) ?_
  obtain ⟨hI, hT, z0, z2, pc⟩ := hs
  refine bX6_hasPrime_0 ?_
  refine v_X6_198 dX6_hasPrime_1 rfl ⟨rfl, rfl, Nat.le_of_ble_eq_true rfl, Nat.le_of_ble_eq_true rfl⟩ (c_isSmallPrime hp) rfl rfl (Nat.le_of_ble_eq_true rfl) (fun r I1 J1 hq => ?_)
  obtain ⟨rfl, e1, e2⟩ := hq
  obtain rfl := e1.symm
  obtain rfl := e2.symm
  by_cases c : p ≤ 97 ∧ ipr p = true
  · rw [if_pos c]
    refine bX6_hasPrime_4 (fun _ => bX6_hasPrime_9 ?_) (fun c => absurd c (by decide))
    obtain ⟨q1, q2, q3, q4⟩ := small.n c
    rw [q1]
    refine v_X6_201 dX6_hasPrime_14 rfl ⟨rfl, rfl, Nat.le_of_ble_eq_true rfl, Nat.le_of_ble_eq_true rfl⟩ (c_split rr hm q2 q3 hI hT z0 z2 (pc _ q2 q3)) rfl rfl (Nat.le_of_ble_eq_true rfl) (fun r I1 J1 hq => ?_)
    obtain ⟨rfl, ⟨E0, hE, hC⟩, h8, f⟩ := hq
    have len := spc_len rr.n hE
    have no : ¬ (0 ≤ k ∧ k < E0.length) → Sat (EC l D aI aL ad) M_X6_hasPrime (hasC n T p k I J) 36 [] [] I1 J1 := fun h => bX6_hasPrime_36 (bX6_hasPrime_37 rfl (Or.inr ⟨c, E0, ⟨hE, hC, h8, f⟩, Or.inr ⟨h, rfl⟩⟩))
    refine bX6_hasPrime_17 (fun c1 => no (fun h => ?_)) (fun c1 => bX6_hasPrime_21 (fun c2 => no (fun h => ?_)) (fun c2 => bX6_hasPrime_32 (bX6_hasPrime_37 rfl (Or.inr ⟨c, E0, ⟨hE, hC, h8, f⟩, Or.inl ⟨⟨?_, ?_⟩, rfl⟩⟩))))
    · have := (iI_ltc hk (k := 0) ⟨by omega, by omega⟩ rfl).mp c1; omega
    · rw [hC.1, nI_iI] at c2
      have := (iI_le ⟨by omega, by omega⟩ hk).mp c2; omega
    · have := mt (iI_ltc hk (k := 0) ⟨by omega, by omega⟩ rfl).mpr c1; omega
    · rw [hC.1, nI_iI] at c2
      have := mt (iI_le ⟨by omega, by omega⟩ hk).mpr c2; omega
  · rw [if_neg c]
    exact bX6_hasPrime_4 (fun c => absurd rfl c) (fun _ => bX6_hasPrime_7 (Or.inl ⟨c, rfl, rfl, rfl⟩))
theorem c_isPrimeOver {n : Nat} {T : Nat → Int} (rr : Rg n T) {p k : Int} (hp : rgi p) (hk : rgi k) (hs : prD n T I J) : Con (ER l D aI aL ad) M_X7_isPrimeOver yX7_isPrimeOver [.ref (ad 0), .int (iI p), .int (iI k)] I J (hasD n T p k I J) := by
  refine Con.of (by decide +kernel) rfl (Nat.le_of_ble_eq_true rfl) ?_
  obtain ⟨hI, hT, pc⟩ := hs
  refine bX7_isPrimeOver_0 ?_
  by_cases c : p ≤ 97 ∧ ipr p = true
  · obtain ⟨q1, q2, q3, q4⟩ := small.n c
    rw [q1]
    refine v_X7_325 dX7_isPrimeOver_2 rfl ⟨rfl, rfl, Nat.le_of_ble_eq_true rfl, Nat.le_of_ble_eq_true rfl⟩ (c_knows rr q2 q3 hI hT (pc _ q2 q3)) rfl rfl (Nat.le_of_ble_eq_true rfl) (fun r I1 J1 hq => ?_)
    obtain ⟨rfl, ⟨E0, hE, hC⟩, h8, f⟩ := hq
    have len := spc_len rr.n hE
    refine bX7_isPrimeOver_5 (fun c => absurd c (by decide)) (fun _ => bX7_isPrimeOver_8 ?_)
    rw [hC.1]
    refine v_X7_210 dX7_isPrimeOver_13 rfl ⟨rfl, rfl, Nat.le_of_ble_eq_true rfl, Nat.le_of_ble_eq_true rfl⟩ (c_isIn) rfl rfl (Nat.le_of_ble_eq_true rfl) (fun r I2 J2 hq => ?_)
    obtain ⟨rfl, e1, e2⟩ := hq
    obtain rfl := e1.symm
    obtain rfl := e2.symm
    rw [inB_I hk (by omega)]
    by_cases ck : 0 ≤ k ∧ k < E0.length
    · rw [if_pos ck]
      exact bX7_isPrimeOver_16 (fun c => absurd c (by decide)) (fun _ => bX7_isPrimeOver_19 (bX7_isPrimeOver_24 rfl (Or.inr ⟨c, E0, ⟨hE, hC, h8, f⟩, Or.inl ⟨ck, rfl⟩⟩)))
    · rw [if_neg ck]
      exact bX7_isPrimeOver_16 (fun _ => bX7_isPrimeOver_23 (bX7_isPrimeOver_24 rfl (Or.inr ⟨c, E0, ⟨hE, hC, h8, f⟩, Or.inr ⟨ck, rfl⟩⟩))) (fun c => absurd rfl c)
  · refine v_X7_325 dX7_isPrimeOver_2 rfl ⟨rfl, rfl, Nat.le_of_ble_eq_true rfl, Nat.le_of_ble_eq_true rfl⟩ (c_knows_no hp c) rfl rfl (Nat.le_of_ble_eq_true rfl) (fun r I1 J1 hq => ?_)
    obtain ⟨rfl, e1, e2⟩ := hq
    obtain rfl := e1.symm
    obtain rfl := e2.symm
    exact bX7_isPrimeOver_5 (fun _ => bX7_isPrimeOver_23 (bX7_isPrimeOver_24 rfl (Or.inl ⟨c, rfl, rfl, rfl⟩))) (fun c => absurd rfl c)
def psC (n : Nat) (T : Nat → Int) (p : Int) (I : sa_I) (J : sa_J) : sa_P := fun r I1 J1 => (¬ small p ∧ r = some (.int (-1)) ∧ I1 = rf I 1 ∧ J1 = J) ∨ (small p ∧ ∃ E, qC n T p I J E I1 J1 ∧ r = some (.int (nI E.length)))
def psD (n : Nat) (T : Nat → Int) (p : Int) (I : sa_I) (J : sa_J) : sa_P := fun r I1 J1 => (¬ small p ∧ r = some (.int (-1)) ∧ I1 = rf I 1 ∧ J1 = J) ∨ (small p ∧ ∃ E, qD n T p I J E I1 J1 ∧ r = some (.int (nI E.length)))
theorem c_primes6 {n : Nat} {T : Nat → Int} (rr : Rg n T) (hm : MxT n T) {p : Int} (hp : rgi p) (hs : prC n T I J) : Con (EC l D aI aL ad) M_X6_primes yX6_primes [.ref (ad 0), .int (iI p)] I J (psC n T p I J) := by
  refine Con.of (by decide +kernel) rfl (Nat.le_of_ble_eq_true rfl) ?_
  obtain ⟨hI, hT, z0, z2, pc⟩ := hs
  have h0 := rr.n
  refine bX6_primes_0 (fun _ => bX6_primes_17 ?_) (fun c => absurd c (by rw [hI, nI_lit 0, nJ_eq (by omega) (by omega)]; omega))
  refine v_X6_198 dX6_primes_18 rfl ⟨rfl, rfl, Nat.le_of_ble_eq_true rfl, Nat.le_of_ble_eq_true rfl⟩ (c_isSmallPrime hp) rfl rfl (Nat.le_of_ble_eq_true rfl) (fun r I1 J1 hq => ?_)
  obtain ⟨rfl, e1, e2⟩ := hq
  obtain rfl := e1.symm
  obtain rfl := e2.symm
  by_cases c : p ≤ 97 ∧ ipr p = true
  · rw [if_pos c]
    refine bX6_primes_21 (fun _ => bX6_primes_30 ?_) (fun c => absurd c (by decide))
    obtain ⟨q1, q2, q3, q4⟩ := small.n c
    rw [q1]
    refine v_X6_201 dX6_primes_35 rfl ⟨rfl, rfl, Nat.le_of_ble_eq_true rfl, Nat.le_of_ble_eq_true rfl⟩ (c_split rr hm q2 q3 hI hT z0 z2 (pc _ q2 q3)) rfl rfl (Nat.le_of_ble_eq_true rfl) (fun r I1 J1 hq => ?_)
    obtain ⟨rfl, ⟨E0, hE, hC⟩, h8, f⟩ := hq
    exact bX6_primes_38 (Or.inr ⟨c, E0, ⟨hE, hC, h8, f⟩, by rw [hC.1]⟩)
  · rw [if_neg c]
    refine bX6_primes_21 (fun c => absurd rfl c) (fun _ => bX6_primes_24 ?_)
    refine v_X6_59 dX6_primes_26 rfl ⟨rfl, rfl, Nat.le_of_ble_eq_true rfl, Nat.le_of_ble_eq_true rfl⟩ (c_refused 1 (by decide) (x := -1) rfl) rfl rfl (Nat.le_of_ble_eq_true rfl) (fun r I1 J1 hq => ?_)
    obtain ⟨rfl, rfl, rfl⟩ := hq
    exact bX6_primes_29 (Or.inl ⟨c, rfl, rfl, rfl⟩)
theorem fld_pos {n : Nat} (h0 : n = 2 ∨ n = 3) (hI : I 0 1 = nI n) : (if I 0 1 ≤ 0 then (0 : Int32) else 1) = 1 := by
  rw [hI, if_neg]; rw [nI_lit 0, nJ_le (by omega) (by omega)]; omega
theorem c_primes7 {n : Nat} {T : Nat → Int} (rr : Rg n T) {p : Int} (hp : rgi p) (hs : prD n T I J) : Con (ER l D aI aL ad) M_X7_primes yX7_primes [.ref (ad 0), .int (iI p)] I J (psD n T p I J) := by
  refine Con.of (by decide +kernel) rfl (Nat.le_of_ble_eq_true rfl) ?_
  obtain ⟨hI, hT, pc⟩ := hs
  have h0 := rr.n
  refine bX7_primes_0 ?_
  refine v_X7_203 dX7_primes_1 rfl ⟨rfl, rfl, Nat.le_of_ble_eq_true rfl, Nat.le_of_ble_eq_true rfl⟩ (c_isField) rfl rfl (Nat.le_of_ble_eq_true rfl) (fun r I1 J1 hq => ?_)
  obtain ⟨rfl, e1, e2⟩ := hq
  obtain rfl := e1.symm
  obtain rfl := e2.symm
  rw [fld_pos h0 hI]
  refine bX7_primes_4 (fun _ => bX7_primes_14 ?_) (fun c => absurd c (by decide))
  by_cases c : p ≤ 97 ∧ ipr p = true
  · obtain ⟨q1, q2, q3, q4⟩ := small.n c
    rw [q1]
    refine v_X7_325 dX7_primes_16 rfl ⟨rfl, rfl, Nat.le_of_ble_eq_true rfl, Nat.le_of_ble_eq_true rfl⟩ (c_knows rr q2 q3 hI hT (pc _ q2 q3)) rfl rfl (Nat.le_of_ble_eq_true rfl) (fun r I1 J1 hq => ?_)
    obtain ⟨rfl, ⟨E0, hE, hC⟩, h8, f⟩ := hq
    exact bX7_primes_19 (fun c => absurd c (by decide)) (fun _ => bX7_primes_22 (bX7_primes_34 (Or.inr ⟨c, E0, ⟨hE, hC, h8, f⟩, by rw [hC.1]⟩)))
  · refine v_X7_325 dX7_primes_16 rfl ⟨rfl, rfl, Nat.le_of_ble_eq_true rfl, Nat.le_of_ble_eq_true rfl⟩ (c_knows_no hp c) rfl rfl (Nat.le_of_ble_eq_true rfl) (fun r I1 J1 hq => ?_)
    obtain ⟨rfl, e1, e2⟩ := hq
    obtain rfl := e1.symm
    obtain rfl := e2.symm
    refine bX7_primes_19 (fun _ => bX7_primes_29 ?_) (fun c => absurd rfl c)
    refine v_X7_84 dX7_primes_31 rfl ⟨rfl, rfl, Nat.le_of_ble_eq_true rfl, Nat.le_of_ble_eq_true rfl⟩ (c_refuse 1 (by decide) (x := -1) rfl) rfl rfl (Nat.le_of_ble_eq_true rfl) (fun r I1 J1 hq => ?_)
    obtain ⟨rfl, rfl, rfl⟩ := hq
    exact bX7_primes_34 (Or.inl ⟨c, rfl, rfl, rfl⟩)
end PY
section PZ
variable {l0 : Launch} {D : va_G} {aI aL : ClassId} {ad ad' : Nat → Nat} {I I' : sa_I} {J J' : sa_J} {N : sa_I → sa_J → sa_I → sa_J → Prop} {a1 a2 a3 : Int32} {n : Nat} {T : Nat → Int}
/-- what may follow a call about primes -/
def Npr (n : Nat) (T : Nat → Int) (N : sa_I → sa_J → sa_I → sa_J → Prop) (I : sa_I) (J : sa_J) (I' : sa_I) (J' : sa_J) : Prop :=
  ∀ Ia Ja Ib Jb, spF I Ia J Ja → PCc n T Ia Ja → knW I' Ib J' Jb → PCr n T Ib Jb → N Ia Ja Ib Jb ∧ ∀ j, N (rf Ia j) Ja (rf Ib j) Jb
theorem spF.rfl' : spF I I J J := ⟨fun _ _ _ _ _ => rfl, fun _ _ _ => rfl, fun _ _ _ _ _ _ _ _ _ _ _ _ => rfl, fun _ _ => rfl⟩
theorem knW.rfl' : knW I I J J := ⟨fun _ _ _ _ => rfl, fun _ _ _ _ => rfl, fun _ _ _ _ _ _ _ _ => rfl⟩
theorem qC.pc {p : Int} {E : List PE} {Ia : sa_I} {Ja : sa_J} (hp : small p) (h : qC n T p I J E Ia Ja) : PCc n T Ia Ja := PCc.of hp.n.2.1 h.1 h.2.1 h.2.2.1
theorem qD.pc {p : Int} {E : List PE} {Ia : sa_I} {Ja : sa_J} (hp : small p) (h : qD n T p I J E Ia Ja) : PCr n T Ia Ja := PCr.of hp.n.2.1 h.1 h.2.1 h.2.2.1
theorem st_primes (rr : Rg n T) (hm : MxT n T) (hc : prC n T I J) (hd : prD n T I' J') (hN : Npr n T N I J I' J') : la_Step l0 D aI aL ad ad' N 17 a1 a2 a3 I J I' J' := by
  obtain ⟨p, hp, rfl⟩ := iI_of a1
  refine ⟨_, _, c_primes6 rr hm hp hc, c_primes7 rr hp hd, fun r1 I1 J1 r2 I2 J2 P Q => ?_⟩
  rcases P with ⟨a, rfl, rfl, rfl⟩ | ⟨a, E0, q, rfl⟩
  · rcases Q with ⟨b, rfl, rfl, rfl⟩ | ⟨b, _⟩
    · exact ⟨⟨_, rfl, rfl⟩, (hN _ _ _ _ spF.rfl' hc.2.2.2.2 knW.rfl' hd.2.2).2 1⟩
    · exact absurd b a
  · rcases Q with ⟨b, _⟩ | ⟨b, E1, q', rfl⟩
    · exact absurd a b
    · refine ⟨⟨_, rfl, ?_⟩, (hN _ _ _ _ q.2.2.2 (q.pc a) q'.2.2.2 (q'.pc b)).1⟩
      rw [(spc_ent rr.n q.1 q'.1).1]
end PZ
