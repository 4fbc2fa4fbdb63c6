theorem mkL_nn (nx : Nat → Nat) : ∀ (r i : Nat) (m : List Int) (c : Nat), (∀ v ∈ m, 0 ≤ v) → (mkL nx r i m c).1 = m := by
  intro r
  induction r with
  | zero => intro i m c _; rfl
  | succ r ih =>
    intro i m c h
    have h0 : ¬ m.getD i 0 < 0 := by
      rw [List.getD_eq_getElem?_getD]
      cases hm : m[i]? with
      | none => decide
      | some v => have := h v (List.mem_of_getElem? hm); show ¬ v < 0; omega
    rw [mkL, if_neg h0]; exact ih _ _ _ h
theorem fB_mem {D a : Int} {f : F3} : ∀ (n : Nat) (b : Int), f ∈ fB D a b n → ∃ b', b ≤ b' ∧ b' < b + n ∧ okF D a b' = true ∧ f = frm D a b' := by
  intro n
  induction n with
  | zero => intro b h; exact absurd h (by simp [fB])
  | succ n ih =>
    intro b h
    rw [fB, List.mem_append] at h
    rcases h with h | h
    · by_cases c : okF D a b = true
      · rw [if_pos c] at h
        exact ⟨b, by omega, by omega, c, by simpa using h⟩
      · rw [if_neg c] at h; exact absurd h (by simp)
    · obtain ⟨b', h1, h2, h3⟩ := ih (b + 1) h
      exact ⟨b', by omega, by omega, h3⟩
theorem fA_mem {D s : Int} {f : F3} : ∀ (n : Nat) (a : Int), f ∈ fA D s a n → ∃ a', a ≤ a' ∧ a' < a + n ∧ f ∈ fB D a' (if 0 < D then 1 else -a') (if 0 < D then s.toNat else (2 * a' + 1).toNat) := by
  intro n
  induction n with
  | zero => intro a h; exact absurd h (by simp [fA])
  | succ n ih =>
    intro a h
    rw [fA, List.mem_append] at h
    rcases h with h | h
    · exact ⟨a, by omega, by omega, h⟩
    · obtain ⟨a', h1, h2, h3⟩ := ih (a + 1) h
      exact ⟨a', by omega, by omega, h3⟩
theorem ok_FI {D a b : Int} (hD : DOK D) (h : okF D a b = true) : FI D (frm D a b) ∧ a ≠ 0 := by
  unfold okF at h
  simp only [Bool.and_eq_true, Bool.not_eq_true', decide_eq_false_iff_not, decide_eq_true_eq] at h
  obtain ⟨⟨a0, t0⟩, _⟩ := h
  have e : b * b - D = 4 * a * (b * b - D).tdiv (4 * a) := by
    have := Int.mul_tdiv_add_tmod (b * b - D) (4 * a)
    omega
  refine ⟨⟨?_, a0, ?_⟩, a0⟩
  · show b * b - 4 * a * (b * b - D).tdiv (4 * a) = D
    omega
  · show (b * b - D).tdiv (4 * a) ≠ 0
    intro z
    rw [z, Int.mul_zero] at e
    exact hD.nsq b (by omega)
theorem LF_mem {D : Int} (hD : DOK D) {f : F3} (h : f ∈ LF D) : FI D f ∧ bdF f 1000000 ∧ okF D f.1 f.2.1 = true ∧ f = frm D f.1 f.2.1 := by
  have hr := rt_of hD
  unfold LF at h
  obtain ⟨a, a1, a2, h⟩ := fA_mem _ _ h
  obtain ⟨b, b1, b2, hk, rfl⟩ := fB_mem _ _ h
  have ba : bd a 100 := by
    by_cases c : 0 < D
    · rw [if_pos c] at a1; rw [if_pos c, if_pos c] at a2; exact ⟨by omega, by omega⟩
    · rw [if_neg c] at a1; rw [if_neg c, if_neg c] at a2; exact ⟨by omega, by omega⟩
  have bb : bd b 100 := by
    have l1 := ba.1
    have l2 := ba.2
    by_cases c : 0 < D
    · rw [if_pos c] at b1; rw [if_pos c, if_pos c] at b2; exact ⟨by omega, by omega⟩
    · rw [if_neg c] at b1; rw [if_neg c, if_neg c] at b2
      rw [if_neg c] at a1
      rw [if_neg c, if_neg c] at a2
      exact ⟨by omega, by omega⟩
  have bx : bd (b * b - D) 20000 := bd_mono (bd_sub (bd_mul bb bb) hD.bd) (by decide)
  exact ⟨(ok_FI hD hk).1, ⟨bd_mono ba (by decide), bd_mono bb (by decide), bd_mono (tdiv_bd bx) (by decide)⟩, hk, rfl⟩
/-- the kernel's check: so many forms, the next of each there, cycles counted alike -/
def cyN : List Int → Nat → Nat
  | [], _ => 0
  | v :: m, i => (if v = (i : Int) then 1 else 0) + cyN m (i + 1)
def chkL (D : Int) : Bool := decide ((LF D).length < 160) && (!decide (0 < D) || ((LF D).all (fun f => decide (0 ≤ fdF (nxF D (rtZ D) f).1 (nxF D (rtZ D) f).2.1 0 (LF D))) && decide ((MZ D).2 = cyN (MZ D).1 0)))
theorem LOK_of {D : Int} (hD : DOK D) (h : chkL D = true) : LOK D (LF D) ∧ (0 < D → (MZ D).2 = cyN (MZ D).1 0) := by
  unfold chkL at h
  simp only [Bool.and_eq_true, Bool.or_eq_true, Bool.not_eq_true', decide_eq_false_iff_not, decide_eq_true_eq, List.all_eq_true] at h
  refine ⟨⟨h.1, fun f hf => ⟨(LF_mem hD hf).1, (LF_mem hD hf).2.1⟩, fun hp f hf => ?_⟩, fun hp => ?_⟩
  · exact (h.2.resolve_left (fun q => q hp)).1 f hf
  · exact (h.2.resolve_left (fun q => q hp)).2
section FU
variable {l : Launch} {DD : va_G} {aI aL : ClassId} {ad : Nat → Nat} {P : sa_P} {I : sa_I} {J : sa_J}
theorem c_findForms {D : Int} (hD : DOK D) (hL : LOK D (LF D)) (m10 : J 0 10 = lI D) (hc : fcR D I J) : Con (ER l DD aI aL ad) M_X7_findForms yX7_findForms [.ref (ad 0)] I J (fun r I1 J1 => r = none ∧ rdyR D I1 J1 ∧ (∀ q, q ≠ 0 → q ≠ 21 → q ≠ 22 → q ≠ 23 → q ≠ 24 → I1 q = I q) ∧ (∀ t, t ≠ 36 → I1 0 t = I 0 t) ∧ (∀ q, q ≠ 0 → J1 q = J q) ∧ ∀ t, t ≠ 41 → t ≠ 42 → t ≠ 43 → t ≠ 44 → J1 0 t = J 0 t) := by
  refine Con.of (by decide +kernel) rfl (Nat.le_of_ble_eq_true rfl) ?_
  have h160 := hL.1
  have hr := rt_of hD
  have bs := isq_le hD.bd
  have gs := bd_rg bs (by decide)
  have gD := bd_rg hD.bd (by decide)
  have nz : D ≠ 0 := fun q => hD.nsq 0 (by rw [q]; rfl)
  have d1 := hD.1
  have d2 := hD.2.1
  refine bX7_findForms_0 (fun _ => ?_) (fun c => bX7_findForms_7 ⟨rfl, hc.resolve_left c, fun _ _ _ _ _ _ => rfl, fun _ _ => rfl, fun _ _ => rfl, fun _ _ _ _ _ => rfl⟩)
  have hA : hoR [] (sa_uI I 0 36 (nI 0)) := ⟨sa_uI_at, fun k f h => absurd h (by simp)⟩
  have fI0 : ∀ q, q ≠ 0 → sa_uI I 0 36 (nI 0) q = I q := fun q h => sa_uI_ne h
  have fI1 : ∀ t, t ≠ 36 → sa_uI I 0 36 (nI 0) 0 t = I 0 t := fun t h => sa_uI_off h
  have up : ∀ {v : Int} {J0 : sa_J}, (v = if 0 < D then -rtZ D else 1) → (∀ q, q ≠ 0 → J0 q = J q) → (∀ t, t ≠ 41 → J0 0 t = J 0 t) → (0 < D → J0 0 41 = lI (rtZ D)) → Sat (ER l DD aI aL ad) M_X7_findForms (fun r I1 J1 => r = none ∧ rdyR D I1 J1 ∧ (∀ q, q ≠ 0 → q ≠ 21 → q ≠ 22 → q ≠ 23 → q ≠ 24 → I1 q = I q) ∧ (∀ t, t ≠ 36 → I1 0 t = I 0 t) ∧ (∀ q, q ≠ 0 → J1 q = J q) ∧ ∀ t, t ≠ 41 → t ≠ 42 → t ≠ 43 → t ≠ 44 → J1 0 t = J 0 t) 77 [(0, .ref (ad 0)), (1, .long (lI (rtZ D)))] [.long (lI v)] (sa_uI I 0 36 (nI 0)) J0 := by
    intro v J0 hv g0 g1 g41
    refine bX7_findForms_77 ?_
    generalize sa_uI I 0 36 (nI 0) = I0 at hA fI0 fI1
    have n10 : J0 0 10 = lI D := by rw [g1 10 (by decide)]; exact m10
    have v1 : -34 ≤ v ∧ v ≤ 35 := by rw [hv]; by_cases c : 0 < D <;> simp only [c, if_true, if_false] <;> omega
    have ev : LF D = fA D (rtZ D) v (if 0 < D then (2 * rtZ D + 1).toNat else (rtZ D).toNat) := by unfold LF; rw [hv]
    refine ffm_out hD g41 n10 (if 0 < D then (2 * rtZ D + 1).toNat else (rtZ D).toNat) v [] I0 ?_ v1.1 (fun q => by rw [hv, if_neg (by omega)]; omega) hA (by rw [List.nil_append, ← ev]; exact h160) lfR.rfl' (fun I1 h1 fI => ?_)
    · rw [hv]; by_cases c : 0 < D <;> simp only [c, if_true, if_false] <;> omega
    rw [List.nil_append, ← ev] at h1
    refine bX7_findForms_187 (v188 := nI 0) rfl ?_
    refine ffm_beg hD.bd h160 h1 n10 (fun I2 hb g => ?_) (LF D).length 0 I1 (by omega) (fun j hj => absurd hj (by omega)) (fun _ _ => rfl)
    refine bX7_findForms_223 (v224 := nI 0) rfl ?_
    have h2 : hoR (LF D) I2 := h1.keep (by rw [g 0 (by decide)]) (g 21 (by decide)) (g 22 (by decide)) (g 23 (by decide))
    have mlen : ((List.range (LF D).length).map (beg D)).length = (LF D).length := by rw [List.length_map, List.length_range]
    have mval : ∀ w, w ∈ (List.range (LF D).length).map (beg D) → -1 ≤ w ∧ w < 160 ∧ (¬ 0 < D → 0 ≤ w) := by
      intro w hw
      rw [List.mem_map] at hw
      obtain ⟨j, hj, rfl⟩ := hw
      rw [List.mem_range] at hj
      unfold beg
      by_cases c : 0 < D
      · rw [if_pos c]; exact ⟨by omega, by omega, fun q => absurd c q⟩
      · rw [if_neg c]; exact ⟨by omega, by omega, fun _ => by omega⟩
    refine ffm_all hD hL n10 g41 h2 (LF D).length 0 0 ((List.range (LF D).length).map (beg D)) I2 J0 (by omega) mlen (fun w hw => ⟨(mval w hw).1, (mval w hw).2.1⟩) (fun q w hw => (mval w hw).2.2 q) (fun j w hj => ?_) (fun _ _ => rfl) nfr.rfl' (fun I3 J3 hm fI3 fJ3 => ?_)
    · rw [List.getElem?_map] at hj
      have jl : j < (LF D).length := by
        rcases Nat.lt_or_ge j (LF D).length with c | c
        · exact c
        · rw [List.getElem?_eq_none (by rw [List.length_range]; exact c)] at hj; exact absurd hj (by simp)
      rw [List.getElem?_range jl] at hj
      rw [hb j jl]
      have : beg D j = w := by simpa using hj
      rw [this]
    have em : (mkL (nxi D (LF D)) (LF D).length 0 ((List.range (LF D).length).map (beg D)) 0).1 = MR D := by
      unfold MR
      by_cases c : 0 < D
      · rw [if_pos c]
        have : (List.range (LF D).length).map (beg D) = List.replicate (LF D).length (-1) := by
          rw [List.eq_replicate_iff]
          refine ⟨mlen, fun w hw => ?_⟩
          rw [List.mem_map] at hw
          obtain ⟨j, _, rfl⟩ := hw
          unfold beg; rw [if_pos c]
        rw [this]; rfl
      · rw [if_neg c, mkL_nn _ _ _ _ _ (fun w hw => (mval w hw).2.2 c)]
        unfold rngZ
        refine List.map_congr_left (fun j _ => ?_)
        unfold beg; rw [if_neg c]
    rw [em] at hm
    refine ⟨rfl, ⟨h2.keep (by rw [fI3 0 (by decide)]) (fI3 21 (by decide)) (fI3 22 (by decide)) (fI3 23 (by decide)), hm, fun q => ?_⟩, fun q a b c d e => ?_, fun t ht => ?_, fun q a => ?_, fun t a b c d => ?_⟩
    · rw [fJ3.2 41 (by decide) (by decide) (by decide)]; exact g41 q
    · rw [fI3 q e, g q e, fI.1 q a b c d, fI0 q a]
    · rw [fI3 0 (by decide), g 0 (by decide), fI.2 t ht, fI1 t ht]
    · rw [fJ3.1 q a, g0 q a]
    · rw [fJ3.2 t b c d, g1 t a]
  refine bX7_findForms_8 (v10 := nI 0) rfl (fun c => ?_) (fun c => ?_)
  · rw [m10, show (0 : Int64) = lI 0 from rfl, lI_le gD ⟨by omega, by omega⟩] at c
    refine bX7_findForms_33 ?_
    have e10 : sa_uJ J 0 41 (0 : Int64) 0 10 = lI D := by rw [sa_uJ_off (by decide)]; exact m10
    have c' : sa_uJ J 0 41 (0 : Int64) 0 10 ≤ 0 := by rw [e10, show (0 : Int64) = lI 0 from rfl, lI_le gD ⟨by omega, by omega⟩]; exact c
    refine bX7_findForms_34 (fun _ => bX7_findForms_53 ?_) (fun q => absurd c' q)
    rw [e10, lI_neg]
    refine v_X7_98 dX7_findForms_58 rfl ⟨rfl, rfl, Nat.le_of_ble_eq_true rfl, Nat.le_of_ble_eq_true rfl⟩ (c_rootOf (x := -D) (by omega) ⟨by omega, by omega⟩) rfl rfl (Nat.le_of_ble_eq_true rfl) (fun r I1 J1 hq => ?_)
    obtain ⟨rfl, e1, e2⟩ := hq
    obtain rfl := e1.symm
    obtain rfl := e2.symm
    have er : lI ((isqF 1000 0 (-D) : Nat) : Int) = lI (rtZ D) := by unfold rtZ; rw [show ((D.natAbs : Nat) : Int) = -D by omega]
    rw [er]
    exact bX7_findForms_61 (fun _ => bX7_findForms_76 (up (v := 1) (by rw [if_neg (by omega)]) (fun q h => sa_uJ_ne h) (fun t h => sa_uJ_off h) (fun q => absurd q (by omega)))) (fun q => absurd c' q)
  · rw [m10, show (0 : Int64) = lI 0 from rfl, lI_le gD ⟨by omega, by omega⟩] at c
    refine bX7_findForms_23 ?_
    rw [m10]
    refine v_X7_98 dX7_findForms_27 rfl ⟨rfl, rfl, Nat.le_of_ble_eq_true rfl, Nat.le_of_ble_eq_true rfl⟩ (c_rootOf (x := D) (by omega) gD) rfl rfl (Nat.le_of_ble_eq_true rfl) (fun r I1 J1 hq => ?_)
    obtain ⟨rfl, e1, e2⟩ := hq
    obtain rfl := e1.symm
    obtain rfl := e2.symm
    have er : lI ((isqF 1000 0 D : Nat) : Int) = lI (rtZ D) := by unfold rtZ; rw [show ((D.natAbs : Nat) : Int) = D by omega]
    rw [er]
    refine bX7_findForms_30 ?_
    have e10 : sa_uJ J 0 41 (lI (rtZ D)) 0 10 = lI D := by rw [sa_uJ_off (by decide)]; exact m10
    have c' : ¬ sa_uJ J 0 41 (lI (rtZ D)) 0 10 ≤ 0 := by rw [e10, show (0 : Int64) = lI 0 from rfl, lI_le gD ⟨by omega, by omega⟩]; exact c
    refine bX7_findForms_34 (fun q => absurd q c') (fun _ => bX7_findForms_46 ?_)
    rw [sa_uJ_at]
    refine bX7_findForms_61 (fun q => absurd q c') (fun _ => bX7_findForms_71 ?_)
    rw [lI_neg]
    exact up (by rw [if_pos (by omega)]) (fun q h => sa_uJ_ne h) (fun t h => sa_uJ_off h) (fun _ => sa_uJ_at)
end FU
