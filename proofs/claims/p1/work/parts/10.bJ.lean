/-! J9_floorDiv_f86c9 -/
theorem dJ9_floorDiv_f86c9_0 : decode cJ9_floorDiv_f86c9 0 = .ok (.lload_n 0, 1) := by decide +kernel
theorem dJ9_floorDiv_f86c9_1 : decode cJ9_floorDiv_f86c9 1 = .ok (.lload_n 2, 1) := by decide +kernel
theorem dJ9_floorDiv_f86c9_2 : decode cJ9_floorDiv_f86c9 2 = .ok (.ldiv, 1) := by decide +kernel
theorem dJ9_floorDiv_f86c9_3 : decode cJ9_floorDiv_f86c9 3 = .ok (.lstore 4, 2) := by decide +kernel
theorem dJ9_floorDiv_f86c9_5 : decode cJ9_floorDiv_f86c9 5 = .ok (.lload_n 0, 1) := by decide +kernel
theorem dJ9_floorDiv_f86c9_6 : decode cJ9_floorDiv_f86c9 6 = .ok (.lload_n 2, 1) := by decide +kernel
theorem dJ9_floorDiv_f86c9_7 : decode cJ9_floorDiv_f86c9 7 = .ok (.lxor, 1) := by decide +kernel
theorem dJ9_floorDiv_f86c9_8 : decode cJ9_floorDiv_f86c9 8 = .ok (.lconst 0, 1) := by decide +kernel
theorem dJ9_floorDiv_f86c9_9 : decode cJ9_floorDiv_f86c9 9 = .ok (.lcmp, 1) := by decide +kernel
theorem dJ9_floorDiv_f86c9_10 : decode cJ9_floorDiv_f86c9 10 = .ok (.ifCond .ge 17, 3) := by decide +kernel
theorem dJ9_floorDiv_f86c9_13 : decode cJ9_floorDiv_f86c9 13 = .ok (.lload 4, 2) := by decide +kernel
theorem dJ9_floorDiv_f86c9_15 : decode cJ9_floorDiv_f86c9 15 = .ok (.lload_n 2, 1) := by decide +kernel
theorem dJ9_floorDiv_f86c9_16 : decode cJ9_floorDiv_f86c9 16 = .ok (.lmul, 1) := by decide +kernel
theorem dJ9_floorDiv_f86c9_17 : decode cJ9_floorDiv_f86c9 17 = .ok (.lload_n 0, 1) := by decide +kernel
theorem dJ9_floorDiv_f86c9_18 : decode cJ9_floorDiv_f86c9 18 = .ok (.lcmp, 1) := by decide +kernel
theorem dJ9_floorDiv_f86c9_19 : decode cJ9_floorDiv_f86c9 19 = .ok (.ifCond .eq 8, 3) := by decide +kernel
theorem dJ9_floorDiv_f86c9_22 : decode cJ9_floorDiv_f86c9 22 = .ok (.lload 4, 2) := by decide +kernel
theorem dJ9_floorDiv_f86c9_24 : decode cJ9_floorDiv_f86c9 24 = .ok (.lconst 1, 1) := by decide +kernel
theorem dJ9_floorDiv_f86c9_25 : decode cJ9_floorDiv_f86c9 25 = .ok (.lsub, 1) := by decide +kernel
theorem dJ9_floorDiv_f86c9_26 : decode cJ9_floorDiv_f86c9 26 = .ok (.lreturn, 1) := by decide +kernel
theorem dJ9_floorDiv_f86c9_27 : decode cJ9_floorDiv_f86c9 27 = .ok (.lload 4, 2) := by decide +kernel
theorem dJ9_floorDiv_f86c9_29 : decode cJ9_floorDiv_f86c9 29 = .ok (.lreturn, 1) := by decide +kernel
theorem bJ9_floorDiv_f86c9_0 {E : sa_E} {P : sa_P} {I : sa_I} {J : sa_J} {x0 : Int64} {x2 : Int64} {v3 : Int64} (z2 : ¬ x2 = 0) (f3 : x0 / x2 = v3) (kt : (0 : Int64) ≤ x0 ^^^ x2 → Sat E M_J9_floorDiv_f86c9 P 27 [(4, .long v3)] [] I J) (kf : ¬ (0 : Int64) ≤ x0 ^^^ x2 → Sat E M_J9_floorDiv_f86c9 P 13 [(0, .long x0), (2, .long x2), (4, .long v3)] [] I J) : Sat E M_J9_floorDiv_f86c9 P 0 [(0, .long x0), (2, .long x2)] [] I J := by
  refine s_lload_n 0 dJ9_floorDiv_f86c9_0 rfl ?_
  refine s_lload_n 1 dJ9_floorDiv_f86c9_1 rfl ?_
  refine s_ldiv dJ9_floorDiv_f86c9_2 z2 ?_
  refine s_eql f3 ?_
  refine s_lstore [(4, .long v3), (0, .long x0), (2, .long x2)] dJ9_floorDiv_f86c9_3 (Nat.lt_of_lt_of_le (Nat.lt_succ_self _) (Nat.le_of_ble_eq_true rfl)) rfl ?_
  refine s_lload_n 1 dJ9_floorDiv_f86c9_5 rfl ?_
  refine s_lload_n 2 dJ9_floorDiv_f86c9_6 rfl ?_
  refine s_lxor dJ9_floorDiv_f86c9_7 ?_
  refine s_lconst (v := 0) dJ9_floorDiv_f86c9_8 rfl ?_
  refine s_lif_ge (tgt := 27) dJ9_floorDiv_f86c9_9 dJ9_floorDiv_f86c9_10 (by decide) (fun c => ?_) (fun c => ?_)
  · refine s_pick [0] [(4, .long v3)] rfl ?_; exact kt c
  · refine s_pick [1, 2, 0] [(0, .long x0), (2, .long x2), (4, .long v3)] rfl ?_; exact kf c
theorem bJ9_floorDiv_f86c9_13 {E : sa_E} {P : sa_P} {I : sa_I} {J : sa_J} {x0 : Int64} {x2 : Int64} {x4 : Int64}   (kt : x4 * x2 = x0 → Sat E M_J9_floorDiv_f86c9 P 27 [(4, .long x4)] [] I J) (kf : ¬ x4 * x2 = x0 → Sat E M_J9_floorDiv_f86c9 P 22 [(4, .long x4)] [] I J) : Sat E M_J9_floorDiv_f86c9 P 13 [(0, .long x0), (2, .long x2), (4, .long x4)] [] I J := by
  refine s_lload 2 dJ9_floorDiv_f86c9_13 rfl ?_
  refine s_lload_n 1 dJ9_floorDiv_f86c9_15 rfl ?_
  refine s_lmul dJ9_floorDiv_f86c9_16 ?_
  refine s_lload_n 0 dJ9_floorDiv_f86c9_17 rfl ?_
  refine s_lif_eq (tgt := 27) dJ9_floorDiv_f86c9_18 dJ9_floorDiv_f86c9_19 (by decide) (fun c => ?_) (fun c => ?_)
  · refine s_pick [2] [(4, .long x4)] rfl ?_; exact kt c
  · refine s_pick [2] [(4, .long x4)] rfl ?_; exact kf c
theorem bJ9_floorDiv_f86c9_22 {E : sa_E} {P : sa_P} {I : sa_I} {J : sa_J} {x4 : Int64}   (k : P (some (.long (x4 - (1 : Int64)))) I J) : Sat E M_J9_floorDiv_f86c9 P 22 [(4, .long x4)] [] I J := by
  refine s_lload 0 dJ9_floorDiv_f86c9_22 rfl ?_
  refine s_lconst (v := 1) dJ9_floorDiv_f86c9_24 rfl ?_
  refine s_lsub dJ9_floorDiv_f86c9_25 ?_
  exact s_lret rfl dJ9_floorDiv_f86c9_26 k
theorem bJ9_floorDiv_f86c9_27 {E : sa_E} {P : sa_P} {I : sa_I} {J : sa_J} {x4 : Int64}   (k : P (some (.long x4)) I J) : Sat E M_J9_floorDiv_f86c9 P 27 [(4, .long x4)] [] I J := by
  refine s_lload 0 dJ9_floorDiv_f86c9_27 rfl ?_
  exact s_lret rfl dJ9_floorDiv_f86c9_29 k
/-! J9_floorMod_7cf53 -/
theorem dJ9_floorMod_7cf53_0 : decode cJ9_floorMod_7cf53 0 = .ok (.iload_n 0, 1) := by decide +kernel
theorem dJ9_floorMod_7cf53_1 : decode cJ9_floorMod_7cf53 1 = .ok (.iload_n 1, 1) := by decide +kernel
theorem dJ9_floorMod_7cf53_2 : decode cJ9_floorMod_7cf53 2 = .ok (.irem, 1) := by decide +kernel
theorem dJ9_floorMod_7cf53_3 : decode cJ9_floorMod_7cf53 3 = .ok (.istore_n 2, 1) := by decide +kernel
theorem dJ9_floorMod_7cf53_4 : decode cJ9_floorMod_7cf53 4 = .ok (.iload_n 0, 1) := by decide +kernel
theorem dJ9_floorMod_7cf53_5 : decode cJ9_floorMod_7cf53 5 = .ok (.iload_n 1, 1) := by decide +kernel
theorem dJ9_floorMod_7cf53_6 : decode cJ9_floorMod_7cf53 6 = .ok (.ixor, 1) := by decide +kernel
theorem dJ9_floorMod_7cf53_7 : decode cJ9_floorMod_7cf53 7 = .ok (.ifCond .ge 11, 3) := by decide +kernel
theorem dJ9_floorMod_7cf53_10 : decode cJ9_floorMod_7cf53 10 = .ok (.iload_n 2, 1) := by decide +kernel
theorem dJ9_floorMod_7cf53_11 : decode cJ9_floorMod_7cf53 11 = .ok (.ifCond .eq 7, 3) := by decide +kernel
theorem dJ9_floorMod_7cf53_14 : decode cJ9_floorMod_7cf53 14 = .ok (.iload_n 2, 1) := by decide +kernel
theorem dJ9_floorMod_7cf53_15 : decode cJ9_floorMod_7cf53 15 = .ok (.iload_n 1, 1) := by decide +kernel
theorem dJ9_floorMod_7cf53_16 : decode cJ9_floorMod_7cf53 16 = .ok (.iadd, 1) := by decide +kernel
theorem dJ9_floorMod_7cf53_17 : decode cJ9_floorMod_7cf53 17 = .ok (.ireturn, 1) := by decide +kernel
theorem dJ9_floorMod_7cf53_18 : decode cJ9_floorMod_7cf53 18 = .ok (.iload_n 2, 1) := by decide +kernel
theorem dJ9_floorMod_7cf53_19 : decode cJ9_floorMod_7cf53 19 = .ok (.ireturn, 1) := by decide +kernel
theorem bJ9_floorMod_7cf53_0 {E : sa_E} {P : sa_P} {I : sa_I} {J : sa_J} {x0 : Int32} {x1 : Int32} {v3 : Int32} (z2 : ¬ x1 = 0) (f3 : x0 - x0 / x1 * x1 = v3) (kt : 0 ≤ x0 ^^^ x1 → Sat E M_J9_floorMod_7cf53 P 18 [(2, .int v3)] [] I J) (kf : ¬ 0 ≤ x0 ^^^ x1 → Sat E M_J9_floorMod_7cf53 P 10 [(1, .int x1), (2, .int v3)] [] I J) : Sat E M_J9_floorMod_7cf53 P 0 [(0, .int x0), (1, .int x1)] [] I J := by
  refine s_iload_n 0 dJ9_floorMod_7cf53_0 rfl ?_
  refine s_iload_n 1 dJ9_floorMod_7cf53_1 rfl ?_
  refine s_irem dJ9_floorMod_7cf53_2 z2 ?_
  refine s_eqi f3 ?_
  refine s_istore_n [(2, .int v3), (0, .int x0), (1, .int x1)] dJ9_floorMod_7cf53_3 (Nat.lt_of_lt_of_le (Nat.lt_succ_self _) (Nat.le_of_ble_eq_true rfl)) rfl ?_
  refine s_iload_n 1 dJ9_floorMod_7cf53_4 rfl ?_
  refine s_iload_n 2 dJ9_floorMod_7cf53_5 rfl ?_
  refine s_ixor dJ9_floorMod_7cf53_6 ?_
  refine s_if_ge (tgt := 18) dJ9_floorMod_7cf53_7 (by decide) (fun c => ?_) (fun c => ?_)
  · refine s_pick [0] [(2, .int v3)] rfl ?_; exact kt c
  · refine s_pick [2, 0] [(1, .int x1), (2, .int v3)] rfl ?_; exact kf c
theorem bJ9_floorMod_7cf53_10 {E : sa_E} {P : sa_P} {I : sa_I} {J : sa_J} {x1 : Int32} {x2 : Int32}   (kt : x2 = 0 → Sat E M_J9_floorMod_7cf53 P 18 [(2, .int x2)] [] I J) (kf : ¬ x2 = 0 → Sat E M_J9_floorMod_7cf53 P 14 [(1, .int x1), (2, .int x2)] [] I J) : Sat E M_J9_floorMod_7cf53 P 10 [(1, .int x1), (2, .int x2)] [] I J := by
  refine s_iload_n 1 dJ9_floorMod_7cf53_10 rfl ?_
  refine s_if_eq (tgt := 18) dJ9_floorMod_7cf53_11 (by decide) (fun c => ?_) (fun c => ?_)
  · refine s_pick [1] [(2, .int x2)] rfl ?_; exact kt c
  · exact kf c
theorem bJ9_floorMod_7cf53_14 {E : sa_E} {P : sa_P} {I : sa_I} {J : sa_J} {x1 : Int32} {x2 : Int32}   (k : P (some (.int (x2 + x1))) I J) : Sat E M_J9_floorMod_7cf53 P 14 [(1, .int x1), (2, .int x2)] [] I J := by
  refine s_iload_n 1 dJ9_floorMod_7cf53_14 rfl ?_
  refine s_iload_n 0 dJ9_floorMod_7cf53_15 rfl ?_
  refine s_iadd dJ9_floorMod_7cf53_16 ?_
  exact s_iret rfl dJ9_floorMod_7cf53_17 k
theorem bJ9_floorMod_7cf53_18 {E : sa_E} {P : sa_P} {I : sa_I} {J : sa_J} {x2 : Int32}   (k : P (some (.int x2)) I J) : Sat E M_J9_floorMod_7cf53 P 18 [(2, .int x2)] [] I J := by
  refine s_iload_n 0 dJ9_floorMod_7cf53_18 rfl ?_
  exact s_iret rfl dJ9_floorMod_7cf53_19 k
/-! J9_floorMod_f86c9 -/
theorem dJ9_floorMod_f86c9_0 : decode cJ9_floorMod_f86c9 0 = .ok (.lload_n 0, 1) := by decide +kernel
theorem dJ9_floorMod_f86c9_1 : decode cJ9_floorMod_f86c9 1 = .ok (.lload_n 2, 1) := by decide +kernel
theorem dJ9_floorMod_f86c9_2 : decode cJ9_floorMod_f86c9 2 = .ok (.lrem, 1) := by decide +kernel
theorem dJ9_floorMod_f86c9_3 : decode cJ9_floorMod_f86c9 3 = .ok (.lstore 4, 2) := by decide +kernel
theorem dJ9_floorMod_f86c9_5 : decode cJ9_floorMod_f86c9 5 = .ok (.lload_n 0, 1) := by decide +kernel
theorem dJ9_floorMod_f86c9_6 : decode cJ9_floorMod_f86c9 6 = .ok (.lload_n 2, 1) := by decide +kernel
theorem dJ9_floorMod_f86c9_7 : decode cJ9_floorMod_f86c9 7 = .ok (.lxor, 1) := by decide +kernel
theorem dJ9_floorMod_f86c9_8 : decode cJ9_floorMod_f86c9 8 = .ok (.lconst 0, 1) := by decide +kernel
theorem dJ9_floorMod_f86c9_9 : decode cJ9_floorMod_f86c9 9 = .ok (.lcmp, 1) := by decide +kernel
theorem dJ9_floorMod_f86c9_10 : decode cJ9_floorMod_f86c9 10 = .ok (.ifCond .ge 15, 3) := by decide +kernel
theorem dJ9_floorMod_f86c9_13 : decode cJ9_floorMod_f86c9 13 = .ok (.lload 4, 2) := by decide +kernel
theorem dJ9_floorMod_f86c9_15 : decode cJ9_floorMod_f86c9 15 = .ok (.lconst 0, 1) := by decide +kernel
theorem dJ9_floorMod_f86c9_16 : decode cJ9_floorMod_f86c9 16 = .ok (.lcmp, 1) := by decide +kernel
theorem dJ9_floorMod_f86c9_17 : decode cJ9_floorMod_f86c9 17 = .ok (.ifCond .eq 8, 3) := by decide +kernel
theorem dJ9_floorMod_f86c9_20 : decode cJ9_floorMod_f86c9 20 = .ok (.lload 4, 2) := by decide +kernel
theorem dJ9_floorMod_f86c9_22 : decode cJ9_floorMod_f86c9 22 = .ok (.lload_n 2, 1) := by decide +kernel
theorem dJ9_floorMod_f86c9_23 : decode cJ9_floorMod_f86c9 23 = .ok (.ladd, 1) := by decide +kernel
theorem dJ9_floorMod_f86c9_24 : decode cJ9_floorMod_f86c9 24 = .ok (.lreturn, 1) := by decide +kernel
theorem dJ9_floorMod_f86c9_25 : decode cJ9_floorMod_f86c9 25 = .ok (.lload 4, 2) := by decide +kernel
theorem dJ9_floorMod_f86c9_27 : decode cJ9_floorMod_f86c9 27 = .ok (.lreturn, 1) := by decide +kernel
theorem bJ9_floorMod_f86c9_0 {E : sa_E} {P : sa_P} {I : sa_I} {J : sa_J} {x0 : Int64} {x2 : Int64} {v3 : Int64} (z2 : ¬ x2 = 0) (f3 : x0 - x0 / x2 * x2 = v3) (kt : (0 : Int64) ≤ x0 ^^^ x2 → Sat E M_J9_floorMod_f86c9 P 25 [(4, .long v3)] [] I J) (kf : ¬ (0 : Int64) ≤ x0 ^^^ x2 → Sat E M_J9_floorMod_f86c9 P 13 [(2, .long x2), (4, .long v3)] [] I J) : Sat E M_J9_floorMod_f86c9 P 0 [(0, .long x0), (2, .long x2)] [] I J := by
  refine s_lload_n 0 dJ9_floorMod_f86c9_0 rfl ?_
  refine s_lload_n 1 dJ9_floorMod_f86c9_1 rfl ?_
  refine s_lrem dJ9_floorMod_f86c9_2 z2 ?_
  refine s_eql f3 ?_
  refine s_lstore [(4, .long v3), (0, .long x0), (2, .long x2)] dJ9_floorMod_f86c9_3 (Nat.lt_of_lt_of_le (Nat.lt_succ_self _) (Nat.le_of_ble_eq_true rfl)) rfl ?_
  refine s_lload_n 1 dJ9_floorMod_f86c9_5 rfl ?_
  refine s_lload_n 2 dJ9_floorMod_f86c9_6 rfl ?_
  refine s_lxor dJ9_floorMod_f86c9_7 ?_
  refine s_lconst (v := 0) dJ9_floorMod_f86c9_8 rfl ?_
  refine s_lif_ge (tgt := 25) dJ9_floorMod_f86c9_9 dJ9_floorMod_f86c9_10 (by decide) (fun c => ?_) (fun c => ?_)
  · refine s_pick [0] [(4, .long v3)] rfl ?_; exact kt c
  · refine s_pick [2, 0] [(2, .long x2), (4, .long v3)] rfl ?_; exact kf c
theorem bJ9_floorMod_f86c9_13 {E : sa_E} {P : sa_P} {I : sa_I} {J : sa_J} {x2 : Int64} {x4 : Int64}   (kt : x4 = (0 : Int64) → Sat E M_J9_floorMod_f86c9 P 25 [(4, .long x4)] [] I J) (kf : ¬ x4 = (0 : Int64) → Sat E M_J9_floorMod_f86c9 P 20 [(2, .long x2), (4, .long x4)] [] I J) : Sat E M_J9_floorMod_f86c9 P 13 [(2, .long x2), (4, .long x4)] [] I J := by
  refine s_lload 1 dJ9_floorMod_f86c9_13 rfl ?_
  refine s_lconst (v := 0) dJ9_floorMod_f86c9_15 rfl ?_
  refine s_lif_eq (tgt := 25) dJ9_floorMod_f86c9_16 dJ9_floorMod_f86c9_17 (by decide) (fun c => ?_) (fun c => ?_)
  · refine s_pick [1] [(4, .long x4)] rfl ?_; exact kt c
  · exact kf c
theorem bJ9_floorMod_f86c9_20 {E : sa_E} {P : sa_P} {I : sa_I} {J : sa_J} {x2 : Int64} {x4 : Int64}   (k : P (some (.long (x4 + x2))) I J) : Sat E M_J9_floorMod_f86c9 P 20 [(2, .long x2), (4, .long x4)] [] I J := by
  refine s_lload 1 dJ9_floorMod_f86c9_20 rfl ?_
  refine s_lload_n 0 dJ9_floorMod_f86c9_22 rfl ?_
  refine s_ladd dJ9_floorMod_f86c9_23 ?_
  exact s_lret rfl dJ9_floorMod_f86c9_24 k
theorem bJ9_floorMod_f86c9_25 {E : sa_E} {P : sa_P} {I : sa_I} {J : sa_J} {x4 : Int64}   (k : P (some (.long x4)) I J) : Sat E M_J9_floorMod_f86c9 P 25 [(4, .long x4)] [] I J := by
  refine s_lload 0 dJ9_floorMod_f86c9_25 rfl ?_
  exact s_lret rfl dJ9_floorMod_f86c9_27 k
/-! J9_abs_067f4 -/
theorem dJ9_abs_067f4_0 : decode cJ9_abs_067f4 0 = .ok (.lload_n 0, 1) := by decide +kernel
theorem dJ9_abs_067f4_1 : decode cJ9_abs_067f4 1 = .ok (.lconst 0, 1) := by decide +kernel
theorem dJ9_abs_067f4_2 : decode cJ9_abs_067f4 2 = .ok (.lcmp, 1) := by decide +kernel
theorem dJ9_abs_067f4_3 : decode cJ9_abs_067f4 3 = .ok (.ifCond .ge 8, 3) := by decide +kernel
theorem dJ9_abs_067f4_6 : decode cJ9_abs_067f4 6 = .ok (.lload_n 0, 1) := by decide +kernel
theorem dJ9_abs_067f4_7 : decode cJ9_abs_067f4 7 = .ok (.lneg, 1) := by decide +kernel
theorem dJ9_abs_067f4_8 : decode cJ9_abs_067f4 8 = .ok (.goto 4, 3) := by decide +kernel
theorem dJ9_abs_067f4_11 : decode cJ9_abs_067f4 11 = .ok (.lload_n 0, 1) := by decide +kernel
theorem dJ9_abs_067f4_12 : decode cJ9_abs_067f4 12 = .ok (.lreturn, 1) := by decide +kernel
theorem bJ9_abs_067f4_0 {E : sa_E} {P : sa_P} {I : sa_I} {J : sa_J} {x0 : Int64}   (kt : (0 : Int64) ≤ x0 → Sat E M_J9_abs_067f4 P 11 [(0, .long x0)] [] I J) (kf : ¬ (0 : Int64) ≤ x0 → Sat E M_J9_abs_067f4 P 6 [(0, .long x0)] [] I J) : Sat E M_J9_abs_067f4 P 0 [(0, .long x0)] [] I J := by
  refine s_lload_n 0 dJ9_abs_067f4_0 rfl ?_
  refine s_lconst (v := 0) dJ9_abs_067f4_1 rfl ?_
  refine s_lif_ge (tgt := 11) dJ9_abs_067f4_2 dJ9_abs_067f4_3 (by decide) (fun c => ?_) (fun c => ?_)
  · exact kt c
  · exact kf c
theorem bJ9_abs_067f4_6 {E : sa_E} {P : sa_P} {I : sa_I} {J : sa_J} {x0 : Int64}   (k : Sat E M_J9_abs_067f4 P 12 [] [.long (-x0)] I J) : Sat E M_J9_abs_067f4 P 6 [(0, .long x0)] [] I J := by
  refine s_lload_n 0 dJ9_abs_067f4_6 rfl ?_
  refine s_lneg dJ9_abs_067f4_7 ?_
  refine s_goto (tgt := 12) dJ9_abs_067f4_8 (by decide) ?_
  refine s_pick [] [] rfl ?_; exact k
theorem bJ9_abs_067f4_11 {E : sa_E} {P : sa_P} {I : sa_I} {J : sa_J} {x0 : Int64}   (k : Sat E M_J9_abs_067f4 P 12 [] [.long x0] I J) : Sat E M_J9_abs_067f4 P 11 [(0, .long x0)] [] I J := by
  refine s_lload_n 0 dJ9_abs_067f4_11 rfl ?_
  refine s_pick [] [] rfl ?_; exact k
theorem bJ9_abs_067f4_12 {E : sa_E} {P : sa_P} {I : sa_I} {J : sa_J} {s0 : Int64}   (k : P (some (.long s0)) I J) : Sat E M_J9_abs_067f4 P 12 [] [.long s0] I J := by
  exact s_lret rfl dJ9_abs_067f4_12 k
/-! J7_fill_d0a16 -/
theorem dJ7_fill_d0a16_0 : decode cJ7_fill_d0a16 0 = .ok (.iconst 0, 1) := by decide +kernel
theorem dJ7_fill_d0a16_1 : decode cJ7_fill_d0a16 1 = .ok (.istore_n 3, 1) := by decide +kernel
theorem dJ7_fill_d0a16_2 : decode cJ7_fill_d0a16 2 = .ok (.aload_n 0, 1) := by decide +kernel
theorem dJ7_fill_d0a16_3 : decode cJ7_fill_d0a16 3 = .ok (.arraylength, 1) := by decide +kernel
theorem dJ7_fill_d0a16_4 : decode cJ7_fill_d0a16 4 = .ok (.istore 4, 2) := by decide +kernel
theorem dJ7_fill_d0a16_6 : decode cJ7_fill_d0a16 6 = .ok (.iload_n 3, 1) := by decide +kernel
theorem dJ7_fill_d0a16_7 : decode cJ7_fill_d0a16 7 = .ok (.iload 4, 2) := by decide +kernel
theorem dJ7_fill_d0a16_9 : decode cJ7_fill_d0a16 9 = .ok (.if_icmp .ge 13, 3) := by decide +kernel
theorem dJ7_fill_d0a16_12 : decode cJ7_fill_d0a16 12 = .ok (.aload_n 0, 1) := by decide +kernel
theorem dJ7_fill_d0a16_13 : decode cJ7_fill_d0a16 13 = .ok (.iload_n 3, 1) := by decide +kernel
theorem dJ7_fill_d0a16_14 : decode cJ7_fill_d0a16 14 = .ok (.lload_n 1, 1) := by decide +kernel
theorem dJ7_fill_d0a16_15 : decode cJ7_fill_d0a16 15 = .ok (.lastore, 1) := by decide +kernel
theorem dJ7_fill_d0a16_16 : decode cJ7_fill_d0a16 16 = .ok (.iinc 3 1, 3) := by decide +kernel
theorem dJ7_fill_d0a16_19 : decode cJ7_fill_d0a16 19 = .ok (.goto (-13), 3) := by decide +kernel
theorem dJ7_fill_d0a16_22 : decode cJ7_fill_d0a16 22 = .ok (.return_, 1) := by decide +kernel
theorem bJ7_fill_d0a16_0 {E : sa_E} {P : sa_P} {I : sa_I} {J : sa_J} {a0 q0 n0 : Nat} {x1 : Int64} {v1 : Int32} {v4 : Int32} (hq0 : sa_iJ E a0 q0 n0) (hn0 : n0 < 2 ^ 31) (f1 : (0 : Int32) = v1) (f4 : Int32.ofNat n0 = v4) (k : Sat E M_J7_fill_d0a16 P 6 [(0, .ref a0), (1, .long x1), (3, .int v1), (4, .int v4)] [] I J) : Sat E M_J7_fill_d0a16 P 0 [(0, .ref a0), (1, .long x1)] [] I J := by
  refine s_iconst (v := 0) dJ7_fill_d0a16_0 rfl ?_
  refine s_eqi f1 ?_
  refine s_istore_n [(3, .int v1), (0, .ref a0), (1, .long x1)] dJ7_fill_d0a16_1 (Nat.lt_of_lt_of_le (Nat.lt_succ_self _) (Nat.le_of_ble_eq_true rfl)) rfl ?_
  refine s_aload_n 1 dJ7_fill_d0a16_2 rfl ?_
  refine s_alenJ hq0 rfl dJ7_fill_d0a16_3 ?_
  refine s_eqi f4 ?_
  refine s_istore [(4, .int v4), (3, .int v1), (0, .ref a0), (1, .long x1)] dJ7_fill_d0a16_4 (Nat.lt_of_lt_of_le (Nat.lt_succ_self _) (Nat.le_of_ble_eq_true rfl)) rfl ?_
  refine s_pick [2, 3, 1, 0] [(0, .ref a0), (1, .long x1), (3, .int v1), (4, .int v4)] rfl ?_; exact k
theorem bJ7_fill_d0a16_6 {E : sa_E} {P : sa_P} {I : sa_I} {J : sa_J} {a0 q0 n0 : Nat} {x1 : Int64} {x3 : Int32} {x4 : Int32} (hq0 : sa_iJ E a0 q0 n0) (hn0 : n0 < 2 ^ 31)  (kt : x4 ≤ x3 → Sat E M_J7_fill_d0a16 P 22 [] [] I J) (kf : ¬ x4 ≤ x3 → Sat E M_J7_fill_d0a16 P 12 [(0, .ref a0), (1, .long x1), (3, .int x3), (4, .int x4)] [] I J) : Sat E M_J7_fill_d0a16 P 6 [(0, .ref a0), (1, .long x1), (3, .int x3), (4, .int x4)] [] I J := by
  refine s_iload_n 2 dJ7_fill_d0a16_6 rfl ?_
  refine s_iload 3 dJ7_fill_d0a16_7 rfl ?_
  refine s_icmp_ge (tgt := 22) dJ7_fill_d0a16_9 (by decide) (fun c => ?_) (fun c => ?_)
  · refine s_pick [] [] rfl ?_; exact kt c
  · exact kf c
theorem bJ7_fill_d0a16_12 {E : sa_E} {P : sa_P} {I : sa_I} {J : sa_J} {a0 q0 n0 : Nat} {x1 : Int64} {x3 : Int32} {x4 : Int32} {j13 : Nat} {v16 : Int32} (hq0 : sa_iJ E a0 q0 n0) (hn0 : n0 < 2 ^ 31) (e13 : x3 = nI j13) (h15 : j13 < n0) (f16 : x3 + 1 = v16) (k : Sat E M_J7_fill_d0a16 P 6 [(0, .ref a0), (1, .long x1), (3, .int v16), (4, .int x4)] [] I (sa_uJ J q0 j13 x1)) : Sat E M_J7_fill_d0a16 P 12 [(0, .ref a0), (1, .long x1), (3, .int x3), (4, .int x4)] [] I J := by
  refine s_aload_n 0 dJ7_fill_d0a16_12 rfl ?_
  refine s_iload_n 2 dJ7_fill_d0a16_13 rfl ?_
  refine s_eqi e13 ?_
  refine s_lload_n 1 dJ7_fill_d0a16_14 rfl ?_
  refine s_lastoreN hq0 h15 hn0 dJ7_fill_d0a16_15 ?_
  refine s_iinc 2 v16 [(3, .int v16), (0, .ref a0), (1, .long x1), (4, .int x4)] dJ7_fill_d0a16_16 rfl f16 (Nat.lt_of_lt_of_le (Nat.lt_succ_self _) (Nat.le_of_ble_eq_true rfl)) rfl ?_
  refine s_goto (tgt := 6) dJ7_fill_d0a16_19 (by decide) ?_
  refine s_pick [1, 2, 0, 3] [(0, .ref a0), (1, .long x1), (3, .int v16), (4, .int x4)] rfl ?_; exact k
theorem bJ7_fill_d0a16_22 {E : sa_E} {P : sa_P} {I : sa_I} {J : sa_J}    (k : P (none) I J) : Sat E M_J7_fill_d0a16 P 22 [] [] I J := by
  exact s_vret rfl dJ7_fill_d0a16_22 k
