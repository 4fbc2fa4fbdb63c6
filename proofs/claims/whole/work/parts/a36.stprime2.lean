theorem dr2 : ∀ m : Nat, m < 9 → nI m / nI 2 = nI (m / 2) ∧ nI m - nI m / nI 2 * nI 2 = nI (m % 2) := by decide +kernel
theorem dr3 : ∀ m : Nat, m < 9 → nI m / nI 3 = nI (m / 3) ∧ nI m - nI m / nI 3 * nI 3 = nI (m % 3) := by decide +kernel
theorem drn {n m : Nat} (h0 : n = 2 ∨ n = 3) (hm : m < 9) : nI m / nI n = nI (m / n) ∧ nI m - nI m / nI n * nI n = nI (m % n) := by
  rcases h0 with rfl | rfl
  · exact dr2 m hm
  · exact dr3 m hm
theorem nI_sub2 (m : Nat) : nI (m + 2) - 2 = nI m := by
  rw [show nI (m + 2) = nI m + 2 from (nI_addE m 2).symm]; simp
/-- a place of a prime -/
def pv (n : Nat) (e : PE) (w : Nat) : Int := if w = 0 then e.1 else if w = 1 then e.2.1 else e.2.2 (3 * ((w - 2) / n) + (w - 2) % n)
theorem pv_ent {n : Nat} (h0 : n = 2 ∨ n = 3) {e e' : PE} (h : ent e e') {w : Nat} (hw : w ≤ 1 + n * n) : pv n e w = pv n e' w := by
  unfold pv
  by_cases c : w = 0
  · rw [if_pos c, if_pos c]; exact h.1
  · rw [if_neg c, if_neg c]
    by_cases c1 : w = 1
    · rw [if_pos c1, if_pos c1]; exact h.2.1
    · rw [if_neg c1, if_neg c1]
      refine h.2.2 _ ?_
      rcases h0 with rfl | rfl <;> omega
def vC (n : Nat) (T : Nat → Int) (p k w : Int) (I : sa_I) (J : sa_J) : sa_P := fun r I1 J1 => (¬ small p ∧ r = some (.int (-1)) ∧ I1 = rf I 1 ∧ J1 = J) ∨ (small p ∧ ∃ E Ia, qC n T p I J E Ia J1 ∧ ((¬ (0 ≤ k ∧ k < E.length) ∧ r = some (.int (-1)) ∧ I1 = rf Ia 1) ∨ ((0 ≤ k ∧ k < E.length) ∧ ((¬ (0 ≤ w ∧ w ≤ 1 + n * n) ∧ r = some (.int (-2)) ∧ I1 = rf Ia 2) ∨ ((0 ≤ w ∧ w ≤ 1 + n * n) ∧ ∃ e, E[k.toNat]? = some e ∧ r = some (.int (iI (pv n e w.toNat))) ∧ I1 = Ia)))))
def vD (n : Nat) (T : Nat → Int) (p k w : Int) (I : sa_I) (J : sa_J) : sa_P := fun r I1 J1 => (¬ small p ∧ r = some (.int (-1)) ∧ I1 = rf I 1 ∧ J1 = J) ∨ (small p ∧ ∃ E Ia, qD n T p I J E Ia J1 ∧ ((¬ (0 ≤ k ∧ k < E.length) ∧ r = some (.int (-1)) ∧ I1 = rf Ia 1) ∨ ((0 ≤ k ∧ k < E.length) ∧ ((¬ (0 ≤ w ∧ w ≤ 1 + n * n) ∧ r = some (.int (-2)) ∧ I1 = rf Ia 2) ∨ ((0 ≤ w ∧ w ≤ 1 + n * n) ∧ ∃ e, E[k.toNat]? = some e ∧ r = some (.int (iI (pv n e w.toNat))) ∧ I1 = Ia)))))
section QA
variable {l : Launch} {D : va_G} {aI aL : ClassId} {ad : Nat → Nat} {P : sa_P} {I : sa_I} {J : sa_J}
theorem c_prime6 {n : Nat} {T : Nat → Int} (rr : Rg n T) (hm : MxT n T) {p k w : Int} (hp : rgi p) (hk : rgi k) (hw : rgi w) (hs : prC n T I J) : Con (EC l D aI aL ad) M_X6_prime yX6_prime [.ref (ad 0), .int (iI p), .int (iI k), .int (iI w)] I J (vC n T p k w I J) := by
  refine Con.of (by decide +kernel) rfl (Nat.le_of_ble_eq_true rfl) ?_
  have h0 := rr.n
  have hI := hs.1
  refine bX6_prime_0 (fun _ => bX6_prime_17 ?_) (fun c => absurd c (by rw [hI, nI_lit 0, nJ_eq (by omega) (by omega)]; omega))
  refine v_X6_208 dX6_prime_20 rfl ⟨rfl, rfl, Nat.le_of_ble_eq_true rfl, Nat.le_of_ble_eq_true rfl⟩ (c_hasPrime rr hm hp hk hs) rfl rfl (Nat.le_of_ble_eq_true rfl) (fun r I1 J1 hq => ?_)
  rcases hq with ⟨a, rfl, rfl, rfl⟩ | ⟨a, E0, q, hb⟩
  · refine bX6_prime_23 (fun c => absurd rfl c) (fun _ => bX6_prime_26 ?_)
    refine v_X6_59 dX6_prime_28 rfl ⟨rfl, rfl, Nat.le_of_ble_eq_true rfl, Nat.le_of_ble_eq_true rfl⟩ (c_refused 1 (by decide) (x := -1) rfl) rfl rfl (Nat.le_of_ble_eq_true rfl) (fun r I1 J1 hq => ?_)
    obtain ⟨rfl, rfl, rfl⟩ := hq
    exact bX6_prime_31 (Or.inl ⟨a, rfl, rfl, rfl⟩)
  rcases hb with ⟨b, rfl⟩ | ⟨b, rfl⟩
  · refine bX6_prime_23 (fun _ => ?_) (fun c => absurd c (by decide))
    have len := spc_len h0 q.1
    have hI1 : I1 4 0 = nI n := by rw [q.2.2.2.1 4 (by decide) (by decide) (by decide) (by decide)]; exact hI
    have e1 : (1 : Int32) + (nI n * nI n) = nI (1 + n * n) := by rw [nI_mulE]; exact nI_addE 1 (n * n)
    have nn : n * n ≤ 9 := by rcases h0 with rfl | rfl <;> decide
    have bad : ¬ (0 ≤ w ∧ w ≤ 1 + n * n) → Sat (EC l D aI aL ad) M_X6_prime (vC n T p k w I J) 56 [(0, .ref (ad 0))] [] I1 J1 := by
      intro h
      refine bX6_prime_56 ?_
      refine v_X6_59 dX6_prime_59 rfl ⟨rfl, rfl, Nat.le_of_ble_eq_true rfl, Nat.le_of_ble_eq_true rfl⟩ (c_refused 2 (by decide) (x := -2) rfl) rfl rfl (Nat.le_of_ble_eq_true rfl) (fun r I2 J2 hq => ?_)
      obtain ⟨rfl, rfl, rfl⟩ := hq
      exact bX6_prime_62 (Or.inr ⟨a, E0, I1, q, Or.inr ⟨b, Or.inl ⟨h, rfl, rfl⟩⟩⟩)
    refine bX6_prime_32 (v39 := nI n) hI1 (fun c => bad (fun h => ?_)) (fun c1 => bX6_prime_45 (fun c2 => ?_) (fun c => bad (fun h => c ?_)))
    · have := (iI_ltc hw (k := 0) ⟨by omega, by omega⟩ rfl).mp c; omega
    · rw [e1, nI_iI] at c2
      have w0 := mt (iI_ltc hw (k := 0) ⟨by omega, by omega⟩ rfl).mpr c1
      have w1 := (iI_le hw ⟨by omega, by omega⟩).mp c2
      have hwr : 0 ≤ w ∧ w ≤ 1 + n * n := ⟨by omega, by rw [Int.natCast_add, Int.natCast_mul] at w1; exact w1⟩
      have kl : k.toNat < E0.length := by omega
      obtain ⟨e, he⟩ : ∃ e, E0[k.toNat]? = some e := ⟨_, List.getElem?_eq_getElem kl⟩
      obtain ⟨m1, m2, m3⟩ := q.2.1.2 k.toNat e he
      have ok : ∀ v : Int32, v = iI (pv n e w.toNat) → (vC n T p k w I J) (some (.int v)) I1 J1 := fun v hv => Or.inr ⟨a, E0, I1, q, Or.inr ⟨b, Or.inr ⟨hwr, e, he, by rw [hv], rfl⟩⟩⟩
      have ek : iI k = nI k.toNat := iI_nat b.1
      have ew : iI w = nI w.toNat := iI_nat hwr.1
      rw [ew, ek]
      refine bX6_prime_63 (fun c => ?_) (fun c => ?_)
      · refine bX6_prime_77 (fun c' => ?_) (fun c' => ?_)
        · have d0 : w.toNat ≠ 0 := fun h => c (by rw [h]; rfl)
          have d1 : w.toNat ≠ 1 := fun h => c' (by rw [h]; rfl)
          obtain ⟨m, hm'⟩ : ∃ m, w.toNat = m + 2 := ⟨w.toNat - 2, by omega⟩
          rw [hm']
          have m9 : m < 9 := by omega
          obtain ⟨r1, r2⟩ := drn h0 m9
          have nz : ¬ nI n = 0 := fun h => by rw [nI_lit 0, nJ_eq (by omega) (by omega)] at h; omega
          have hmn : 3 * (m / n) + m % n < 9 := by rcases h0 with rfl | rfl <;> omega
          refine bX6_prime_92 (v95 := nI m) (j121 := 9 * k.toNat + (3 * (m / n) + m % n)) nz nz ?_ (by omega) (nI_sub2 m) (ok _ ?_)
          · rw [r2, r1, nI_lit 9, nI_lit 3, nI_mulE, nI_mulE, nI_addE, nI_addE, Nat.add_assoc]
          · rw [m3 _ hmn, lI_iI, hm']; unfold pv; rw [if_neg (by omega), if_neg (by omega)]; rfl
        · have d1 : w.toNat = 1 := by rw [nI_lit 1, nJ_eq (by omega) (by omega)] at c'; exact c'
          exact bX6_prime_82 (j89 := k.toNat) rfl (by omega) (ok _ (by rw [m2, d1]; rfl))
      · have d0 : w.toNat = 0 := by rw [nI_lit 0, nJ_eq (by omega) (by omega)] at c; exact c
        exact bX6_prime_67 (j74 := k.toNat) rfl (by omega) (ok _ (by rw [m1, d0]; rfl))
    · rw [e1, nI_iI]
      refine (iI_le hw ⟨by omega, by omega⟩).mpr ?_
      rw [Int.natCast_add, Int.natCast_mul]; exact h.2
  · refine bX6_prime_23 (fun c => absurd rfl c) (fun _ => bX6_prime_26 ?_)
    refine v_X6_59 dX6_prime_28 rfl ⟨rfl, rfl, Nat.le_of_ble_eq_true rfl, Nat.le_of_ble_eq_true rfl⟩ (c_refused 1 (by decide) (x := -1) rfl) rfl rfl (Nat.le_of_ble_eq_true rfl) (fun r I2 J2 hq => ?_)
    obtain ⟨rfl, rfl, rfl⟩ := hq
    exact bX6_prime_31 (Or.inr ⟨a, E0, I1, q, Or.inl ⟨b, rfl, rfl⟩⟩)
theorem c_prime7 {n : Nat} {T : Nat → Int} (rr : Rg n T) {p k w : Int} (hp : rgi p) (hk : rgi k) (hw : rgi w) (hs : prD n T I J) : Con (ER l D aI aL ad) M_X7_prime yX7_prime [.ref (ad 0), .int (iI p), .int (iI k), .int (iI w)] I J (vD n T p k w I J) := by
  refine Con.of (by decide +kernel) rfl (Nat.le_of_ble_eq_true rfl) ?_
  have h0 := rr.n
  have hI := hs.1
  refine bX7_prime_0 ?_
  refine v_X7_203 dX7_prime_1 rfl ⟨rfl, rfl, Nat.le_of_ble_eq_true rfl, Nat.le_of_ble_eq_true rfl⟩ (c_isField) rfl rfl (Nat.le_of_ble_eq_true rfl) (fun r I1 J1 hq => ?_)
  obtain ⟨rfl, e1, e2⟩ := hq
  obtain rfl := e1.symm
  obtain rfl := e2.symm
  rw [fld_pos h0 hI]
  refine bX7_prime_4 (fun _ => bX7_prime_14 ?_) (fun c => absurd c (by decide))
  refine v_X7_328 dX7_prime_17 rfl ⟨rfl, rfl, Nat.le_of_ble_eq_true rfl, Nat.le_of_ble_eq_true rfl⟩ (c_isPrimeOver rr hp hk hs) rfl rfl (Nat.le_of_ble_eq_true rfl) (fun r I1 J1 hq => ?_)
  rcases hq with ⟨a, rfl, rfl, rfl⟩ | ⟨a, E0, q, hb⟩
  · refine bX7_prime_20 (fun c => absurd rfl c) (fun _ => bX7_prime_23 ?_)
    refine v_X7_84 dX7_prime_25 rfl ⟨rfl, rfl, Nat.le_of_ble_eq_true rfl, Nat.le_of_ble_eq_true rfl⟩ (c_refuse 1 (by decide) (x := -1) rfl) rfl rfl (Nat.le_of_ble_eq_true rfl) (fun r I1 J1 hq => ?_)
    obtain ⟨rfl, rfl, rfl⟩ := hq
    exact bX7_prime_28 (Or.inl ⟨a, rfl, rfl, rfl⟩)
  rcases hb with ⟨b, rfl⟩ | ⟨b, rfl⟩
  · refine bX7_prime_20 (fun _ => ?_) (fun c => absurd c (by decide))
    have len := spc_len h0 q.1
    have hI1 : I1 0 1 = nI n := by rw [q.2.2.2.2.1 1 (by decide) (by decide) (by decide)]; exact hI
    have nn : n * n ≤ 9 := by rcases h0 with rfl | rfl <;> decide
    have e1 : (2 : Int32) + (nI n * nI n) = nI (2 + n * n) := by rw [nI_mulE]; exact nI_addE 2 (n * n)
    refine bX7_prime_29 ?_
    rw [hI1, e1]
    refine v_X7_210 dX7_prime_41 rfl ⟨rfl, rfl, Nat.le_of_ble_eq_true rfl, Nat.le_of_ble_eq_true rfl⟩ (c_isIn) rfl rfl (Nat.le_of_ble_eq_true rfl) (fun r I2 J2 hq => ?_)
    obtain ⟨rfl, g1, g2⟩ := hq
    obtain rfl := g1.symm
    obtain rfl := g2.symm
    rw [inB_I hw (by omega)]
    by_cases c : 0 ≤ w ∧ w < ((2 + n * n : Nat) : Int)
    · rw [if_pos c]
      refine bX7_prime_44 (fun _ => ?_) (fun c => absurd c (by decide))
      have hwr : 0 ≤ w ∧ w ≤ 1 + n * n := ⟨c.1, by have := c.2; rw [Int.natCast_add, Int.natCast_mul] at this; omega⟩
      have kl : k.toNat < E0.length := by omega
      obtain ⟨e, he⟩ : ∃ e, E0[k.toNat]? = some e := ⟨_, List.getElem?_eq_getElem kl⟩
      obtain ⟨m1, m2, m3⟩ := q.2.1.2 k.toNat e he
      have ok : ∀ v : Int32, v = iI (pv n e w.toNat) → (vD n T p k w I J) (some (.int v)) I1 J1 := fun v hv => Or.inr ⟨a, E0, I1, q, Or.inr ⟨b, Or.inr ⟨hwr, e, he, by rw [hv], rfl⟩⟩⟩
      have ek : iI k = nI k.toNat := iI_nat b.1
      have ew : iI w = nI w.toNat := iI_nat hwr.1
      rw [ew, ek]
      have wb : w.toNat < 11 := by omega
      refine bX7_prime_54 (fun c' => ?_) (fun c' => ?_)
      · rw [nI_lit 2, nJ_le (by omega) (by omega)] at c'
        obtain ⟨m, hm'⟩ : ∃ m, w.toNat = m + 2 := ⟨w.toNat - 2, by omega⟩
        rw [hm']
        have m9 : m < 9 := by omega
        have mn : m < n * n := by
          have := c.2
          omega
        obtain ⟨r1, r2⟩ := drn h0 m9
        have nz : ¬ nI n = 0 := fun h => by rw [nI_lit 0, nJ_eq (by omega) (by omega)] at h; omega
        have hmn : 3 * (m / n) + m % n < 3 * n := by rcases h0 with rfl | rfl <;> omega
        refine bX7_prime_79 (j106 := 9 * k.toNat + (3 * (m / n) + m % n)) (by rw [hI1]; exact nz) (by rw [hI1]; exact nz) ?_ (by omega) (ok _ ?_)
        · rw [hI1, nI_sub2, r2, r1, nI_lit 9, nI_lit 3, nI_mulE, nI_mulE, nI_addE, nI_addE, Nat.add_assoc]
        · rw [m3 _ hmn, lI_iI, hm']; unfold pv; rw [if_neg (by omega), if_neg (by omega)]; rfl
      · rw [nI_lit 2, nJ_le (by omega) (by omega)] at c'
        refine bX7_prime_59 (fun c2 => ?_) (fun c2 => ?_)
        · have d1 : w.toNat = 1 := by
            have : w.toNat ≠ 0 := fun h => c2 (by rw [h]; rfl)
            omega
          exact bX7_prime_72 (j76 := k.toNat) rfl (by omega) (bX7_prime_78 (ok _ (by rw [m2, d1]; rfl)))
        · have d0 : w.toNat = 0 := by rw [nI_lit 0, nJ_eq (by omega) (by omega)] at c2; exact c2
          exact bX7_prime_63 (j67 := k.toNat) rfl (by omega) (bX7_prime_78 (ok _ (by rw [m1, d0]; rfl)))
    · rw [if_neg c]
      refine bX7_prime_44 (fun c => absurd rfl c) (fun _ => bX7_prime_47 ?_)
      refine v_X7_84 dX7_prime_50 rfl ⟨rfl, rfl, Nat.le_of_ble_eq_true rfl, Nat.le_of_ble_eq_true rfl⟩ (c_refuse 2 (by decide) (x := -2) rfl) rfl rfl (Nat.le_of_ble_eq_true rfl) (fun r I2 J2 hq => ?_)
      obtain ⟨rfl, rfl, rfl⟩ := hq
      refine bX7_prime_53 (Or.inr ⟨a, E0, I1, q, Or.inr ⟨b, Or.inl ⟨fun h => c ⟨h.1, ?_⟩, rfl, rfl⟩⟩⟩)
      rw [Int.natCast_add, Int.natCast_mul]; have := h.2; omega
  · refine bX7_prime_20 (fun c => absurd rfl c) (fun _ => bX7_prime_23 ?_)
    refine v_X7_84 dX7_prime_25 rfl ⟨rfl, rfl, Nat.le_of_ble_eq_true rfl, Nat.le_of_ble_eq_true rfl⟩ (c_refuse 1 (by decide) (x := -1) rfl) rfl rfl (Nat.le_of_ble_eq_true rfl) (fun r I2 J2 hq => ?_)
    obtain ⟨rfl, rfl, rfl⟩ := hq
    exact bX7_prime_28 (Or.inr ⟨a, E0, I1, q, Or.inl ⟨b, rfl, rfl⟩⟩)
end QA
section QB
variable {l0 : Launch} {D : va_G} {aI aL : ClassId} {ad ad' : Nat → Nat} {I I' : sa_I} {J J' : sa_J} {N : sa_I → sa_J → sa_I → sa_J → Prop} {a1 a2 a3 : Int32} {n : Nat} {T : Nat → Int}
theorem st_prime (rr : Rg n T) (hm : MxT n T) (hc : prC n T I J) (hd : prD n T I' J') (hN : Npr n T N I J I' J') : la_Step l0 D aI aL ad ad' N 18 a1 a2 a3 I J I' J' := by
  obtain ⟨p, hp, rfl⟩ := iI_of a1
  obtain ⟨k, hk, rfl⟩ := iI_of a2
  obtain ⟨w, hw, rfl⟩ := iI_of a3
  refine ⟨_, _, c_prime6 rr hm hp hk hw hc, c_prime7 rr hp hk hw hd, fun r1 I1 J1 r2 I2 J2 P Q => ?_⟩
  rcases P with ⟨a, rfl, rfl, rfl⟩ | ⟨a, E0, Ia, q, P⟩
  · rcases Q with ⟨b, rfl, rfl, rfl⟩ | ⟨b, _⟩
    · exact ⟨⟨_, rfl, rfl⟩, (hN _ _ _ _ spF.rfl' hc.2.2.2.2 knW.rfl' hd.2.2).2 1⟩
    · exact absurd b a
  · rcases Q with ⟨b, _⟩ | ⟨b, E1, Ib, q', Q⟩
    · exact absurd a b
    · have hNN := hN _ _ _ _ q.2.2.2 (q.pc a) q'.2.2.2 (q'.pc b)
      obtain ⟨hl, he⟩ := spc_ent rr.n q.1 q'.1
      rw [← hl] at Q
      rcases P with ⟨c, rfl, rfl⟩ | ⟨c, P⟩
      · rcases Q with ⟨c', rfl, rfl⟩ | ⟨c', _⟩
        · exact ⟨⟨_, rfl, rfl⟩, hNN.2 1⟩
        · exact absurd c' c
      · rcases Q with ⟨c', _⟩ | ⟨c', Q⟩
        · exact absurd c c'
        · rcases P with ⟨d, rfl, rfl⟩ | ⟨d, e, ee, rfl, rfl⟩
          · rcases Q with ⟨d', rfl, rfl⟩ | ⟨d', _⟩
            · exact ⟨⟨_, rfl, rfl⟩, hNN.2 2⟩
            · exact absurd d' d
          · rcases Q with ⟨d', _⟩ | ⟨d', e', ee', rfl, rfl⟩
            · exact absurd d d'
            · refine ⟨⟨_, rfl, ?_⟩, hNN.1⟩
              have hwn : w.toNat ≤ 1 + n * n := by
                have := d.2
                have e3 : ((1 + n * n : Nat) : Int) = 1 + (n : Int) * n := by rw [Int.natCast_add, Int.natCast_mul]; rfl
                omega
              rw [pv_ent rr.n (he _ _ _ ee ee') hwn]
end QB
