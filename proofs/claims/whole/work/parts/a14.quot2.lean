theorem bdV_row {R : Nat → Int} {B : Int} (h : ∀ t, t < 9 → 0 ≤ R t ∧ R t ≤ B) {i : Nat} (hi : i < 3) : bdV (rowV R i) B := by
  have a := h (3 * i) (by omega)
  have b := h (3 * i + 1) (by omega)
  have c := h (3 * i + 2) (by omega)
  exact ⟨bd_of a.1 a.2, bd_of b.1 b.2, bd_of c.1 c.2⟩
theorem dvd_mod_sum {N a x : Int} : N ∣ (a * x - a * (x % N)) := by
  have e := Int.mul_ediv_add_emod x N
  exact ⟨a * (x / N), by
    have : x - x % N = N * (x / N) := by omega
    rw [← Int.mul_sub, this]; grind⟩
theorem dvd_mod {N x : Int} : N ∣ (x - x % N) := ⟨x / N, by have e := Int.mul_ediv_add_emod x N; omega⟩
def Hvy (n : Nat) (w : Nat → Int) : Prop := ∃ k, k < n ∧ w k ≠ 0
section WG
variable {l : Launch} {D : va_G} {aI aL : ClassId} {ad : Nat → Nat} {P : sa_P} {I : sa_I} {J : sa_J}
theorem wg_loop {n : Nat} {T X R : Nat → Int} {N : Int} {c : Nat} (rr : Rg n T) (r2 : R2 n X) (hc : c < n) (hN0 : 0 < N) (hN : N ≤ 1000000) (bt : ∀ j, j < 3 → bd (tst X c j) 1000000) (bR : ∀ t, t < 9 → 0 ≤ R t ∧ R t ≤ 1000000) {y : V3} (by' : bdV y 1000000) {a1 q1 n1 p : Nat} (hq1 : sa_iJ (EC l D aI aL ad) a1 q1 n1) (hn1 : n1 < 2 ^ 31) (hb : p + n ≤ n1) (hz : q1 ≠ 9 ∧ q1 ≠ 20) : ∀ (d i0 : Nat) (b : Bool) (w : Nat → Int) (J : sa_J), i0 + d = n → I 4 0 = nI n → (∀ t, t < 27 → J 8 t = lI (T t)) → (∀ t, t < 9 → J 15 t = lI (R t)) → (∀ j, j < n → J q1 (p + j) = lI (vk y j)) → (∀ j, j < 3 → J 19 (3 * c + j) = lI (tst X c j)) → (∀ k, k < i0 → J 20 k = lI (w k) ∧ 0 ≤ w k ∧ w k < N ∧ N ∣ (tau X c (muv n T (rowV R k) y) - w k)) → (b = true ↔ Hvy i0 w) → (∀ (b' : Bool) (w' : Nat → Int) (J' : sa_J), (∀ q, q ≠ 9 → q ≠ 20 → J' q = J q) → (∀ k, k < n → J' 20 k = lI (w' k) ∧ 0 ≤ w' k ∧ w' k < N ∧ N ∣ (tau X c (muv n T (rowV R k) y) - w' k)) → (b' = true ↔ Hvy n w') → P (some (.int (bI b'))) I J') → Sat (EC l D aI aL ad) M_X2_weigh P 6 [(0, .ref (ad 13)), (1, .ref a1), (2, .int (nI p)), (3, .int (nI (3 * c))), (4, .long (lI N)), (6, .int (bI b)), (7, .int (nI i0))] [] I J := by
  intro d
  have h0 := rr.n
  induction d with
  | zero =>
    intro i0 b w J hd hI hT hR hy ht hw hb2 kk
    obtain rfl : i0 = n := by omega
    refine bX2_weigh_6 hq1 hn1 (fun _ => bX2_weigh_136 (bI_nar b) (kk b w J (fun _ _ _ => rfl) hw hb2)) (fun c => absurd ?_ c)
    rw [hI, nJ_le (by omega) (by omega)]; omega
  | succ d ih =>
    intro i0 b w J hd hI hT hR hy ht hw hb2 kk
    refine bX2_weigh_6 hq1 hn1 (fun c => absurd c (by rw [hI, nJ_le (by omega) (by omega)]; omega)) (fun _ => ?_)
    refine bX2_weigh_18 hq1 hn1 ?_
    rw [show (3 : Int32) * nI i0 = nI (3 * i0) from nI_mulE 3 i0]
    refine v_X2_52 dX2_weigh_35 rfl ⟨rfl, rfl, Nat.le_of_ble_eq_true rfl, Nat.le_of_ble_eq_true rfl⟩ (c_mulI rr hI hT aJ_C15 (by decide) hq1 hn1 (by omega) hb (by decide) hz.1 (x := rowV R i0) (y := y) (fun j hj => by rw [rowV_vk R i0 (by omega)]; exact hR _ (by omega)) hy) rfl rfl (Nat.le_of_ble_eq_true rfl) (fun r I1 J1 hp => ?_)
    obtain ⟨rfl, e2, z9, _, f9⟩ := hp
    obtain rfl := e2.symm
    have bz := muv_bd rr (bdV_row bR (i := i0) (by omega)) by'
    generalize hzz : muv n T (rowV R i0) y = z at *
    have rz : ∀ j, rg (vk z j) := fun j => bd_rg (vk_bd bz j) (by decide)
    have mz : ∀ j, bd (vk z j % N) 1000000 := fun j => by have := mod_bd (a := vk z j) hN0; exact bd_of this.1 (by omega)
    refine bX2_weigh_38 (v39 := lI 0) (v42 := nI 0) hq1 hn1 rfl rfl ?_
    -- the sum, term by term
    have term : ∀ (j : Nat) (s s' : Int), j < n → s + tst X c j * (vk z j % N) = s' → Sat (EC l D aI aL ad) M_X2_weigh P 44 [(0, .ref (ad 13)), (1, .ref a1), (2, .int (nI p)), (3, .int (nI (3 * c))), (4, .long (lI N)), (6, .int (bI b)), (7, .int (nI i0)), (8, .long (lI s')), (10, .int (nI (j + 1)))] [] I J1 → Sat (EC l D aI aL ad) M_X2_weigh P 44 [(0, .ref (ad 13)), (1, .ref a1), (2, .int (nI p)), (3, .int (nI (3 * c))), (4, .long (lI N)), (6, .int (bI b)), (7, .int (nI i0)), (8, .long (lI s)), (10, .int (nI j))] [] I J1 := by
      intro j s s' hj hs kk'
      refine bX2_weigh_44 hq1 hn1 (fun c => absurd c (by rw [hI, nJ_le (by omega) (by omega)]; omega)) (fun _ => ?_)
      refine bX2_weigh_56 (j65 := 3 * c + j) (j74 := j) hq1 hn1 (nI_addE _ _) (by omega) rfl (by omega) ?_
      refine v_X2_88 dX2_weigh_79 rfl ⟨rfl, rfl, Nat.le_of_ble_eq_true rfl, Nat.le_of_ble_eq_true rfl⟩ (c_rest (a := vk z j) (W := N) (z := vk z j % N) (z9 j hj) rfl (rz j) hN0 hN rfl) rfl rfl (Nat.le_of_ble_eq_true rfl) (fun r I1 J2 hp => ?_)
      obtain ⟨rfl, e2, e3⟩ := hp
      obtain rfl := e2.symm
      obtain rfl := e3.symm
      refine bX2_weigh_82 (v84 := lI s') (v86 := nI (j + 1)) hq1 hn1 ?_ (nI_addE j 1) kk'
      rw [f9 19 (by decide), ht j (by omega), lI_mul, lI_add, hs]
    have last : ∀ s : Int, bd s 3000000000000 → N ∣ (tau X c z - s) → Sat (EC l D aI aL ad) M_X2_weigh P 44 [(0, .ref (ad 13)), (1, .ref a1), (2, .int (nI p)), (3, .int (nI (3 * c))), (4, .long (lI N)), (6, .int (bI b)), (7, .int (nI i0)), (8, .long (lI s)), (10, .int (nI n))] [] I J1 := by
      intro s bs hd2
      refine bX2_weigh_44 hq1 hn1 (fun _ => ?_) (fun c => absurd (by rw [hI]; exact (nJ_le (by omega) (by omega)).mpr (Nat.le_refl _)) c)
      refine bX2_weigh_92 hq1 hn1 ?_
      refine v_X2_88 dX2_weigh_102 rfl ⟨rfl, rfl, Nat.le_of_ble_eq_true rfl, Nat.le_of_ble_eq_true rfl⟩ (c_rest (a := s) (W := N) (z := s % N) rfl rfl (bd_rg bs (by decide)) hN0 hN rfl) rfl rfl (Nat.le_of_ble_eq_true rfl) (fun r I1 J2 hp => ?_)
      obtain ⟨rfl, e2, e3⟩ := hp
      obtain rfl := e2.symm
      obtain rfl := e3.symm
      have sm := mod_bd (a := s) hN0
      have sl := Int.emod_lt_of_pos s hN0
      have dz : N ∣ (tau X c z - s % N) := by
        have := Int.dvd_add hd2 (dvd_mod (N := N) (x := s))
        have e : tau X c z - s + (s - s % N) = tau X c z - s % N := by omega
        rw [e] at this; exact this
      -- on to the next row
      have next : ∀ b', (b' = true ↔ (b = true ∨ s % N ≠ 0)) → Sat (EC l D aI aL ad) M_X2_weigh P 128 [(0, .ref (ad 13)), (1, .ref a1), (2, .int (nI p)), (3, .int (nI (3 * c))), (4, .long (lI N)), (7, .int (nI i0))] [.int (bI b')] I (sa_uJ J1 20 i0 (lI (s % N))) := by
        intro b' hb'
        refine bX2_weigh_128 (v130 := nI (i0 + 1)) hq1 hn1 (nI_addE i0 1) ?_
        refine ih (i0 + 1) b' (fun k => if k = i0 then s % N else w k) _ (by omega) hI (fun t ht => by rw [sa_uJ_ne (by decide), f9 8 (by decide)]; exact hT t ht) (fun t ht => by rw [sa_uJ_ne (by decide), f9 15 (by decide)]; exact hR t ht) (fun j hj => by rw [sa_uJ_ne hz.2, f9 q1 hz.1]; exact hy j hj) (fun j hj => by rw [sa_uJ_ne (by decide), f9 19 (by decide)]; exact ht j hj) ?_ ?_ (fun b2 w2 J2 f2 h2 e2 => kk b2 w2 J2 (fun q h9 h20 => by rw [f2 q h9 h20, sa_uJ_ne h20, f9 q h9]) h2 e2)
        · intro k hk
          by_cases h : k = i0
          · subst h
            simp only [if_true]
            exact ⟨sa_uJ_at, sm.1, sl, by rw [hzz]; exact dz⟩
          · simp only [if_neg h]
            rw [sa_uJ_off h, f9 20 (by decide)]
            exact hw k (by omega)
        · rw [hb', hb2]
          constructor
          · rintro (⟨k, h1, h2⟩ | h)
            · exact ⟨k, by omega, by simp only [if_neg (show k ≠ i0 by omega)]; exact h2⟩
            · exact ⟨i0, by omega, by simp only [if_true]; exact h⟩
          · rintro ⟨k, h1, h2⟩
            by_cases h : k = i0
            · subst h; simp only [if_true] at h2; exact Or.inr h2
            · simp only [if_neg h] at h2; exact Or.inl ⟨k, by omega, h2⟩
      refine bX2_weigh_105 (s1 := i0) hq1 hn1 (by omega) (fun c1 => ?_) (fun c1 => ?_)
      · have hbt : b = true := by
          cases b with
          | true => rfl
          | false => exact absurd rfl c1
        exact bX2_weigh_123 hq1 hn1 (next true ⟨fun _ => Or.inl hbt, fun _ => rfl⟩)
      · have hbf : b = false := by
          cases b with
          | false => rfl
          | true => exact absurd c1 (by decide)
        refine bX2_weigh_111 (j115 := i0) hq1 hn1 rfl (by omega) (fun c2 => ?_) (fun c2 => ?_)
        · rw [sa_uJ_at] at c2
          have := (lI_eq (a := s % N) ⟨by omega, by omega⟩ (b := 0) ⟨by omega, by omega⟩).mp c2
          exact bX2_weigh_127 hq1 hn1 (next false ⟨fun h => absurd h (by decide), fun h => h.elim (fun h => by rw [hbf] at h; exact absurd h (by decide)) (fun h => absurd this h)⟩)
        · rw [sa_uJ_at] at c2
          have : s % N ≠ 0 := fun q => c2 (by rw [q]; rfl)
          exact bX2_weigh_123 hq1 hn1 (next true ⟨fun _ => Or.inr this, fun _ => rfl⟩)
    refine term 0 0 (tst X c 0 * (vk z 0 % N)) (by omega) (by omega) ?_
    refine term 1 _ (tst X c 0 * (vk z 0 % N) + tst X c 1 * (vk z 1 % N)) (by omega) rfl ?_
    have d0 := dvd_mod_sum (N := N) (a := tst X c 0) (x := z.1)
    have d1 := dvd_mod_sum (N := N) (a := tst X c 1) (x := z.2.1)
    have d2 := dvd_mod_sum (N := N) (a := tst X c 2) (x := z.2.2)
    have b0 := bd_mul (bt 0 (by decide)) (mz 0)
    have b1 := bd_mul (bt 1 (by decide)) (mz 1)
    have b2 := bd_mul (bt 2 (by decide)) (mz 2)
    rcases h0 with h | h
    · subst h
      obtain ⟨r6, r7, r8⟩ := r2 rfl
      have t2 : tst X c 2 = 0 := by
        have hc' : c = 0 ∨ c = 1 := by omega
        rcases hc' with rfl | rfl
        · show X 3 * X 7 - X 6 * X 4 = 0; rw [r6, r7]; simp
        · show -X 0 * X 7 = 0; rw [r7]; simp
      refine last _ (bd_mono (bd_add b0 b1) (by decide)) ?_
      have e : tau X c z - (tst X c 0 * (vk z 0 % N) + tst X c 1 * (vk z 1 % N)) = (tst X c 0 * z.1 - tst X c 0 * (z.1 % N)) + (tst X c 1 * z.2.1 - tst X c 1 * (z.2.1 % N)) := by
        show tst X c 0 * z.1 + tst X c 1 * z.2.1 + tst X c 2 * z.2.2 - (tst X c 0 * (z.1 % N) + tst X c 1 * (z.2.1 % N)) = _
        rw [t2]; omega
      rw [e]; exact Int.dvd_add d0 d1
    · subst h
      refine term 2 _ (tst X c 0 * (vk z 0 % N) + tst X c 1 * (vk z 1 % N) + tst X c 2 * (vk z 2 % N)) (by omega) rfl ?_
      refine last _ (bd_mono (bd_add (bd_add b0 b1) b2) (by decide)) ?_
      have e : tau X c z - (tst X c 0 * (vk z 0 % N) + tst X c 1 * (vk z 1 % N) + tst X c 2 * (vk z 2 % N)) = (tst X c 0 * z.1 - tst X c 0 * (z.1 % N)) + (tst X c 1 * z.2.1 - tst X c 1 * (z.2.1 % N)) + (tst X c 2 * z.2.2 - tst X c 2 * (z.2.2 % N)) := by
        show tst X c 0 * z.1 + tst X c 1 * z.2.1 + tst X c 2 * z.2.2 - (tst X c 0 * (z.1 % N) + tst X c 1 * (z.2.1 % N) + tst X c 2 * (z.2.2 % N)) = _
        omega
      rw [e]; exact Int.dvd_add (Int.dvd_add d0 d1) d2
theorem c_weigh {n : Nat} {T X R : Nat → Int} {N : Int} {c : Nat} (rr : Rg n T) (r2 : R2 n X) (hc : c < n) (hN0 : 0 < N) (hN : N ≤ 1000000) (bt : ∀ j, j < 3 → bd (tst X c j) 1000000) (bR : ∀ t, t < 9 → 0 ≤ R t ∧ R t ≤ 1000000) {y : V3} (by' : bdV y 1000000) {a1 q1 n1 p : Nat} (hq1 : sa_iJ (EC l D aI aL ad) a1 q1 n1) (hn1 : n1 < 2 ^ 31) (hb : p + n ≤ n1) (hz : q1 ≠ 9 ∧ q1 ≠ 20) (hI : I 4 0 = nI n) (hT : ∀ t, t < 27 → J 8 t = lI (T t)) (hR : ∀ t, t < 9 → J 15 t = lI (R t)) (hy : ∀ j, j < n → J q1 (p + j) = lI (vk y j)) (ht : ∀ j, j < 3 → J 19 (3 * c + j) = lI (tst X c j)) : Con (EC l D aI aL ad) M_X2_weigh yX2_weigh [.ref (ad 13), .ref a1, .int (nI p), .int (nI (3 * c)), .long (lI N)] I J (fun r I1 J1 => I1 = I ∧ (∀ q, q ≠ 9 → q ≠ 20 → J1 q = J q) ∧ ∃ (b : Bool) (w : Nat → Int), r = some (.int (bI b)) ∧ (∀ k, k < n → J1 20 k = lI (w k) ∧ 0 ≤ w k ∧ w k < N ∧ N ∣ (tau X c (muv n T (rowV R k) y) - w k)) ∧ (b = true ↔ Hvy n w)) := by
  refine Con.of (by decide +kernel) rfl (Nat.le_of_ble_eq_true rfl) ?_
  refine bX2_weigh_0 (v1 := bI false) (v4 := nI 0) hq1 hn1 rfl rfl ?_
  exact wg_loop rr r2 hc hN0 hN bt bR by' hq1 hn1 hb hz n 0 false (fun _ => 0) J (by omega) hI hT hR hy ht (fun k hk => by omega) ⟨fun h => absurd h (by decide), fun ⟨k, h, _⟩ => by omega⟩ (fun b w J' f h e => ⟨rfl, f, b, w, rfl, h, e⟩)
end WG
