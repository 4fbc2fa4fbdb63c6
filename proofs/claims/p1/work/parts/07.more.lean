section MO
variable {E : sa_E} {M : sa_M} {P : sa_P} {pc : Nat} {L : List (Nat × Value)} {st : List Value} {I : sa_I} {J : sa_J}
theorem s_ialoadN {a q n j : Nat} (hq : sa_iI E a q n) (hj : j < n) (hn : n < 2 ^ 31) (hdg : decode M.2.1 pc = .ok (.iaload, 1)) (k : Sat E M P (pc + 1) L (.int (I q j) :: st) I J) : Sat E M P pc L (.int (nI j) :: .ref a :: st) I J := s_iaload hq (vp_in_nI hj hn) hdg (by rw [nI_clamp (Nat.lt_trans hj hn)]; exact k)
theorem s_laloadN {a q n j : Nat} (hq : sa_iJ E a q n) (hj : j < n) (hn : n < 2 ^ 31) (hdg : decode M.2.1 pc = .ok (.laload, 1)) (k : Sat E M P (pc + 1) L (.long (J q j) :: st) I J) : Sat E M P pc L (.int (nI j) :: .ref a :: st) I J := s_laload hq (vp_in_nI hj hn) hdg (by rw [nI_clamp (Nat.lt_trans hj hn)]; exact k)
theorem s_iastoreN {a q n j : Nat} {x : Int32} (hq : sa_iI E a q n) (hj : j < n) (hn : n < 2 ^ 31) (hdg : decode M.2.1 pc = .ok (.iastore, 1)) (k : Sat E M P (pc + 1) L st (sa_uI I q j x) J) : Sat E M P pc L (.int x :: .int (nI j) :: .ref a :: st) I J := s_iastore hq (vp_in_nI hj hn) hdg (by rw [nI_clamp (Nat.lt_trans hj hn)]; exact k)
theorem s_lastoreN {a q n j : Nat} {x : Int64} (hq : sa_iJ E a q n) (hj : j < n) (hn : n < 2 ^ 31) (hdg : decode M.2.1 pc = .ok (.lastore, 1)) (k : Sat E M P (pc + 1) L st I (sa_uJ J q j x)) : Sat E M P pc L (.long x :: .int (nI j) :: .ref a :: st) I J := s_lastore hq (vp_in_nI hj hn) hdg (by rw [nI_clamp (Nat.lt_trans hj hn)]; exact k)
theorem sa_cmp (x y : Int64) : (y < x ∧ lg_cmp x y = 1) ∨ (x = y ∧ lg_cmp x y = 0) ∨ (x < y ∧ lg_cmp x y = -1) := by
  unfold lg_cmp
  simp only [gt_iff_lt, Int64.lt_iff_toInt_lt, ← Int64.toInt_inj]
  repeat' split
  all_goals simp_all
  omega
theorem s_lif_lt {x y : Int64} {off : Int} {tgt : Nat} (hdg : decode M.2.1 pc = .ok (.lcmp, 1)) (hd2 : decode M.2.1 (pc + 1) = .ok (.ifCond .lt off, 3)) (ht : ((pc + 1 : Nat) : Int) + off = (tgt : Int)) (kt : x < y → Sat E M P tgt L st I J) (kf : ¬ x < y → Sat E M P (pc + 4) L st I J) : Sat E M P pc L (.long y :: .long x :: st) I J := by
  refine s_lcmp hdg (s_if_lt hd2 ht (fun c => kt ?_) (fun c => kf ?_))
  all_goals (rcases sa_cmp x y with ⟨h, e⟩ | ⟨h, e⟩ | ⟨h, e⟩ <;> rw [e] at c <;> simp only [Int64.lt_iff_toInt_lt, Int64.le_iff_toInt_le, ← Int64.toInt_inj] at * <;> first | omega | (exfalso; revert c; decide))
theorem s_lif_ge {x y : Int64} {off : Int} {tgt : Nat} (hdg : decode M.2.1 pc = .ok (.lcmp, 1)) (hd2 : decode M.2.1 (pc + 1) = .ok (.ifCond .ge off, 3)) (ht : ((pc + 1 : Nat) : Int) + off = (tgt : Int)) (kt : y ≤ x → Sat E M P tgt L st I J) (kf : ¬ y ≤ x → Sat E M P (pc + 4) L st I J) : Sat E M P pc L (.long y :: .long x :: st) I J := by
  refine s_lcmp hdg (s_if_ge hd2 ht (fun c => kt ?_) (fun c => kf ?_))
  all_goals (rcases sa_cmp x y with ⟨h, e⟩ | ⟨h, e⟩ | ⟨h, e⟩ <;> rw [e] at c <;> simp only [Int64.lt_iff_toInt_lt, Int64.le_iff_toInt_le, ← Int64.toInt_inj] at * <;> first | omega | (exfalso; revert c; decide))
theorem s_lif_gt {x y : Int64} {off : Int} {tgt : Nat} (hdg : decode M.2.1 pc = .ok (.lcmp, 1)) (hd2 : decode M.2.1 (pc + 1) = .ok (.ifCond .gt off, 3)) (ht : ((pc + 1 : Nat) : Int) + off = (tgt : Int)) (kt : y < x → Sat E M P tgt L st I J) (kf : ¬ y < x → Sat E M P (pc + 4) L st I J) : Sat E M P pc L (.long y :: .long x :: st) I J := by
  refine s_lcmp hdg (s_if_gt hd2 ht (fun c => kt ?_) (fun c => kf ?_))
  all_goals (rcases sa_cmp x y with ⟨h, e⟩ | ⟨h, e⟩ | ⟨h, e⟩ <;> rw [e] at c <;> simp only [Int64.lt_iff_toInt_lt, Int64.le_iff_toInt_le, ← Int64.toInt_inj] at * <;> first | omega | (exfalso; revert c; decide))
theorem s_lif_le {x y : Int64} {off : Int} {tgt : Nat} (hdg : decode M.2.1 pc = .ok (.lcmp, 1)) (hd2 : decode M.2.1 (pc + 1) = .ok (.ifCond .le off, 3)) (ht : ((pc + 1 : Nat) : Int) + off = (tgt : Int)) (kt : x ≤ y → Sat E M P tgt L st I J) (kf : ¬ x ≤ y → Sat E M P (pc + 4) L st I J) : Sat E M P pc L (.long y :: .long x :: st) I J := by
  refine s_lcmp hdg (s_if_le hd2 ht (fun c => kt ?_) (fun c => kf ?_))
  all_goals (rcases sa_cmp x y with ⟨h, e⟩ | ⟨h, e⟩ | ⟨h, e⟩ <;> rw [e] at c <;> simp only [Int64.lt_iff_toInt_lt, Int64.le_iff_toInt_le, ← Int64.toInt_inj] at * <;> first | omega | (exfalso; revert c; decide))
theorem s_lif_eq {x y : Int64} {off : Int} {tgt : Nat} (hdg : decode M.2.1 pc = .ok (.lcmp, 1)) (hd2 : decode M.2.1 (pc + 1) = .ok (.ifCond .eq off, 3)) (ht : ((pc + 1 : Nat) : Int) + off = (tgt : Int)) (kt : x = y → Sat E M P tgt L st I J) (kf : ¬ x = y → Sat E M P (pc + 4) L st I J) : Sat E M P pc L (.long y :: .long x :: st) I J := by
  refine s_lcmp hdg (s_if_eq hd2 ht (fun c => kt ?_) (fun c => kf ?_))
  all_goals (rcases sa_cmp x y with ⟨h, e⟩ | ⟨h, e⟩ | ⟨h, e⟩ <;> rw [e] at c <;> simp only [Int64.lt_iff_toInt_lt, Int64.le_iff_toInt_le, ← Int64.toInt_inj] at * <;> first | omega | (exfalso; revert c; decide))
theorem s_lif_ne {x y : Int64} {off : Int} {tgt : Nat} (hdg : decode M.2.1 pc = .ok (.lcmp, 1)) (hd2 : decode M.2.1 (pc + 1) = .ok (.ifCond .ne off, 3)) (ht : ((pc + 1 : Nat) : Int) + off = (tgt : Int)) (kt : ¬ x = y → Sat E M P tgt L st I J) (kf : x = y → Sat E M P (pc + 4) L st I J) : Sat E M P pc L (.long y :: .long x :: st) I J := by
  refine s_lcmp hdg (s_if_ne hd2 ht (fun c => kt ?_) (fun c => kf ?_))
  all_goals (rcases sa_cmp x y with ⟨h, e⟩ | ⟨h, e⟩ | ⟨h, e⟩ <;> rw [e] at c <;> simp only [Int64.lt_iff_toInt_lt, Int64.le_iff_toInt_le, ← Int64.toInt_inj] at * <;> first | omega | (exfalso; revert c; decide))
end MO
