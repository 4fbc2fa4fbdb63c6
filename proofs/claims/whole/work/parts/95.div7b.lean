section D8
variable {l : Launch} {D : va_G} {aI aL : ClassId} {ad : Nat → Nat} {P : sa_P} {I : sa_I} {J : sa_J}
set_option maxHeartbeats 200000 in
theorem c_divide7_2 (hd : I 0 1 = nI 2) : Con (ER l D aI aL ad) M_X7_divide yX7_divide [.ref (ad 0)] I J (fun r I1 J1 => I1 = I ∧ (∀ q, q ≠ 9 → q ≠ 10 → q ≠ 11 → q ≠ 12 → J1 q = J q) ∧ if ¬ (nrV 2 (mtx 2 (J 11) (J 2)) 0) = 0 ∧ rm (0 + J 10 0 * ((nrV 2 (mtx 2 (J 11) (J 2)) 1) - J 11 0) * J 2 0 + J 10 0 * (-J 11 1) * J 2 3 + J 10 1 * ((nrV 2 (mtx 2 (J 11) (J 2)) 1) - J 11 0) * J 2 9 + J 10 1 * (-J 11 1) * J 2 12) (nrV 2 (mtx 2 (J 11) (J 2)) 0) = 0 ∧ rm (0 + J 10 0 * ((nrV 2 (mtx 2 (J 11) (J 2)) 1) - J 11 0) * J 2 1 + J 10 0 * (-J 11 1) * J 2 4 + J 10 1 * ((nrV 2 (mtx 2 (J 11) (J 2)) 1) - J 11 0) * J 2 10 + J 10 1 * (-J 11 1) * J 2 13) (nrV 2 (mtx 2 (J 11) (J 2)) 0) = 0 then r = some (.int 1) ∧ J1 12 0 = (0 + J 10 0 * ((nrV 2 (mtx 2 (J 11) (J 2)) 1) - J 11 0) * J 2 0 + J 10 0 * (-J 11 1) * J 2 3 + J 10 1 * ((nrV 2 (mtx 2 (J 11) (J 2)) 1) - J 11 0) * J 2 9 + J 10 1 * (-J 11 1) * J 2 12) / (nrV 2 (mtx 2 (J 11) (J 2)) 0) ∧ J1 12 1 = (0 + J 10 0 * ((nrV 2 (mtx 2 (J 11) (J 2)) 1) - J 11 0) * J 2 1 + J 10 0 * (-J 11 1) * J 2 4 + J 10 1 * ((nrV 2 (mtx 2 (J 11) (J 2)) 1) - J 11 0) * J 2 10 + J 10 1 * (-J 11 1) * J 2 13) / (nrV 2 (mtx 2 (J 11) (J 2)) 0) ∧ J1 12 2 = 0 else r = some (.int 0)) := by
  refine Con.of (by decide +kernel) rfl (Nat.le_of_ble_eq_true rfl) ?_
  refine bX7_divide_0 ?_
  refine v_X7_225 dX7_divide_5 rfl ⟨rfl, rfl, Nat.le_of_ble_eq_true rfl, Nat.le_of_ble_eq_true rfl⟩ (c_acts2_11 hd) rfl rfl (Nat.le_of_ble_eq_true rfl) (fun r I1 Ja hp => ?_)
  obtain ⟨rfl, e2, m0, m1, m3, m4, g⟩ := hp
  obtain rfl := e2.symm
  have en : Ja 9 0 * Ja 9 4 - Ja 9 1 * Ja 9 3 = (nrV 2 (mtx 2 (J 11) (J 2)) 0) := by rw [m0, m1, m3, m4]; rfl
  have et : 0 + Ja 9 0 + Ja 9 4 = (nrV 2 (mtx 2 (J 11) (J 2)) 1) := by rw [Int64.zero_add, m0, m4]; rfl
  refine bX7_divide_8 ?_
  refine v_X7_193 dX7_divide_9 rfl ⟨rfl, rfl, Nat.le_of_ble_eq_true rfl, Nat.le_of_ble_eq_true rfl⟩ (c_normOf2 hd) rfl rfl (Nat.le_of_ble_eq_true rfl) (fun r I1 J1 hp => ?_)
  obtain ⟨rfl, e2, e3⟩ := hp
  obtain rfl := e2.symm
  obtain rfl := e3.symm
  rw [en]
  refine bX7_divide_12 (fun c => ?_) (fun c => bX7_divide_19 ⟨rfl, fun q h9 _ _ _ => g q h9, by rw [if_neg (fun h => h.1 c)]⟩)
  refine bX7_divide_21 ?_
  refine v_X7_189 dX7_divide_22 rfl ⟨rfl, rfl, Nat.le_of_ble_eq_true rfl, Nat.le_of_ble_eq_true rfl⟩ (c_traceOf2 hd) rfl rfl (Nat.le_of_ble_eq_true rfl) (fun r I1 J1 hp => ?_)
  obtain ⟨rfl, e2, e3⟩ := hp
  obtain rfl := e2.symm
  obtain rfl := e3.symm
  rw [et]
  refine bX7_divide_25 ?_
  refine v_X7_196 dX7_divide_27 rfl ⟨rfl, rfl, Nat.le_of_ble_eq_true rfl, Nat.le_of_ble_eq_true rfl⟩ (c_minorsOf2 hd) rfl rfl (Nat.le_of_ble_eq_true rfl) (fun r I1 J1 hp => ?_)
  obtain ⟨rfl, e2, e3⟩ := hp
  obtain rfl := e2.symm
  obtain rfl := e3.symm
  have g10 : Ja 10 = J 10 := g 10 (by decide)
  have g11 : Ja 11 = J 11 := g 11 (by decide)
  have g2 : Ja 2 = J 2 := g 2 (by decide)
  refine bX7_divide_30 (v38 := J 10 0) (v46 := J 10 1) (v54 := J 10 2) (by rw [g10]) (by rw [g10]) (by rw [g10]) (fun c => absurd hd c) (fun _ => ?_)
  refine bX7_divide_64 (v77 := (nrV 2 (mtx 2 (J 11) (J 2)) 1) - J 11 0) (v90 := -J 11 1) (by rw [g11]) (by rw [sa_uJ_off (by decide), g11]) ?_
  refine bX7_divide_178 ?_
  refine v_X7_229 dX7_divide_203 rfl ⟨rfl, rfl, Nat.le_of_ble_eq_true rfl, Nat.le_of_ble_eq_true rfl⟩ (c_product2 hd) rfl rfl (Nat.le_of_ble_eq_true rfl) (fun r I1 Jz hp => ?_)
  obtain ⟨rfl, e2, z0, z1, z2, gz⟩ := hp
  obtain rfl := e2.symm
  have y0 : Jz 12 0 = 0 + J 10 0 * ((nrV 2 (mtx 2 (J 11) (J 2)) 1) - J 11 0) * Ja 2 0 + J 10 0 * (-J 11 1) * Ja 2 3 + J 10 1 * ((nrV 2 (mtx 2 (J 11) (J 2)) 1) - J 11 0) * Ja 2 9 + J 10 1 * (-J 11 1) * Ja 2 12 := z0
  have y1 : Jz 12 1 = 0 + J 10 0 * ((nrV 2 (mtx 2 (J 11) (J 2)) 1) - J 11 0) * Ja 2 1 + J 10 0 * (-J 11 1) * Ja 2 4 + J 10 1 * ((nrV 2 (mtx 2 (J 11) (J 2)) 1) - J 11 0) * Ja 2 10 + J 10 1 * (-J 11 1) * Ja 2 13 := z1
  rw [g2] at y0 y1
  have w0 : Jz 12 0 = 0 + J 10 0 * ((nrV 2 (mtx 2 (J 11) (J 2)) 1) - J 11 0) * J 2 0 + J 10 0 * (-J 11 1) * J 2 3 + J 10 1 * ((nrV 2 (mtx 2 (J 11) (J 2)) 1) - J 11 0) * J 2 9 + J 10 1 * (-J 11 1) * J 2 12 := y0
  have w1 : Jz 12 1 = 0 + J 10 0 * ((nrV 2 (mtx 2 (J 11) (J 2)) 1) - J 11 0) * J 2 1 + J 10 0 * (-J 11 1) * J 2 4 + J 10 1 * ((nrV 2 (mtx 2 (J 11) (J 2)) 1) - J 11 0) * J 2 10 + J 10 1 * (-J 11 1) * J 2 13 := y1
  refine dl_end2 hd c ?_
  rw [w0, w1]
  refine ⟨rfl, ?_, ?_⟩
  · intro q h9 h10 h11 h12; simp only [sa_uJ_ne h12, gz q h12, sa_uJ_ne h10, sa_uJ_ne h11, g q h9]
  · by_cases h0 : rm (0 + J 10 0 * ((nrV 2 (mtx 2 (J 11) (J 2)) 1) - J 11 0) * J 2 0 + J 10 0 * (-J 11 1) * J 2 3 + J 10 1 * ((nrV 2 (mtx 2 (J 11) (J 2)) 1) - J 11 0) * J 2 9 + J 10 1 * (-J 11 1) * J 2 12) (nrV 2 (mtx 2 (J 11) (J 2)) 0) = 0
    · by_cases h1 : rm (0 + J 10 0 * ((nrV 2 (mtx 2 (J 11) (J 2)) 1) - J 11 0) * J 2 1 + J 10 0 * (-J 11 1) * J 2 4 + J 10 1 * ((nrV 2 (mtx 2 (J 11) (J 2)) 1) - J 11 0) * J 2 10 + J 10 1 * (-J 11 1) * J 2 13) (nrV 2 (mtx 2 (J 11) (J 2)) 0) = 0
      · rw [if_pos ⟨c, h0, h1⟩, decide_eq_true h0, decide_eq_true h1]
        exact ⟨rfl, by rw [sa_uJ_off (by decide), sa_uJ_at], sa_uJ_at, by rw [sa_uJ_off (by decide), sa_uJ_off (by decide)]; exact z2⟩
      · rw [if_neg (fun h => h1 h.2.2), decide_eq_false h1, Bool.and_false]; rfl
    · rw [if_neg (fun h => h0 h.2.1), decide_eq_false h0, Bool.false_and]; rfl
end D8
