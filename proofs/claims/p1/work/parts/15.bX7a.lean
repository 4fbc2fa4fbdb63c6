/-! X7_refuse -/
theorem dX7_refuse_0 : decode cX7_refuse 0 = .ok (.aload_n 0, 1) := by decide +kernel
theorem dX7_refuse_1 : decode cX7_refuse 1 = .ok (.getfield 7, 3) := by decide +kernel
theorem dX7_refuse_4 : decode cX7_refuse 4 = .ok (.iload_n 1, 1) := by decide +kernel
theorem dX7_refuse_5 : decode cX7_refuse 5 = .ok (.ineg, 1) := by decide +kernel
theorem dX7_refuse_6 : decode cX7_refuse 6 = .ok (.dup2, 1) := by decide +kernel
theorem dX7_refuse_7 : decode cX7_refuse 7 = .ok (.iaload, 1) := by decide +kernel
theorem dX7_refuse_8 : decode cX7_refuse 8 = .ok (.iconst 1, 1) := by decide +kernel
theorem dX7_refuse_9 : decode cX7_refuse 9 = .ok (.iadd, 1) := by decide +kernel
theorem dX7_refuse_10 : decode cX7_refuse 10 = .ok (.iastore, 1) := by decide +kernel
theorem dX7_refuse_11 : decode cX7_refuse 11 = .ok (.iload_n 1, 1) := by decide +kernel
theorem dX7_refuse_12 : decode cX7_refuse 12 = .ok (.ireturn, 1) := by decide +kernel
theorem bX7_refuse_0 {l : Launch} {D : va_G} {aI aL : ClassId} {ad : Nat → Nat} {P : sa_P} {I : sa_I} {J : sa_J} {x1 : Int32} {j5 : Nat} {v10 : Int32} (e5 : -x1 = nI j5) (h7 : j5 < 7) (h10 : j5 < 7) (f10 : (I 1 j5) + (1 : Int32) = v10) (k : P (some (.int x1)) (sa_uI I 1 j5 v10) J) : Sat (ER l D aI aL ad) M_X7_refuse P 0 [(0, .ref (ad 0)), (1, .int x1)] [] I J := by
  refine s_aload_n 0 dX7_refuse_0 rfl ?_
  refine g_X7_7 dX7_refuse_1 rfl ?_
  refine s_iload_n 1 dX7_refuse_4 rfl ?_
  refine s_ineg dX7_refuse_5 ?_
  refine s_eqi e5 ?_
  refine s_dup2_11 dX7_refuse_6 rfl rfl ?_
  refine s_ialoadN aI_R1 h7 (by decide) dX7_refuse_7 ?_
  refine s_iconst (v := 1) dX7_refuse_8 rfl ?_
  refine s_iadd dX7_refuse_9 ?_
  refine s_eqi f10 ?_
  refine s_iastoreN aI_R1 h10 (by decide) dX7_refuse_10 ?_
  refine s_iload_n 1 dX7_refuse_11 rfl ?_
  exact s_iret rfl dX7_refuse_12 k
/-! X7_refuseFar -/
theorem dX7_refuseFar_0 : decode cX7_refuseFar 0 = .ok (.ldc 83, 2) := by decide +kernel
theorem dX7_refuseFar_2 : decode cX7_refuseFar 2 = .ok (.aload_n 0, 1) := by decide +kernel
theorem dX7_refuseFar_3 : decode cX7_refuseFar 3 = .ok (.iload_n 1, 1) := by decide +kernel
theorem dX7_refuseFar_4 : decode cX7_refuseFar 4 = .ok (.invokevirtual 84, 3) := by decide +kernel
theorem dX7_refuseFar_7 : decode cX7_refuseFar 7 = .ok (.isub, 1) := by decide +kernel
theorem dX7_refuseFar_8 : decode cX7_refuseFar 8 = .ok (.ireturn, 1) := by decide +kernel
theorem bX7_refuseFar_0 {l : Launch} {D : va_G} {aI aL : ClassId} {ad : Nat → Nat} {P : sa_P} {I : sa_I} {J : sa_J} {x1 : Int32}   (k : Sat (ER l D aI aL ad) M_X7_refuseFar P 4 [] [.int x1, .ref (ad 0), .int (2000000000 : Int32)] I J) : Sat (ER l D aI aL ad) M_X7_refuseFar P 0 [(0, .ref (ad 0)), (1, .int x1)] [] I J := by
  refine s_ldc wk_X7_83 dX7_refuseFar_0 ?_
  refine s_aload_n 0 dX7_refuseFar_2 rfl ?_
  refine s_iload_n 1 dX7_refuseFar_3 rfl ?_
  refine s_pick [] [] rfl ?_; exact k
theorem bX7_refuseFar_7 {l : Launch} {D : va_G} {aI aL : ClassId} {ad : Nat → Nat} {P : sa_P} {I : sa_I} {J : sa_J} {s0 : Int32} {s1 : Int32}   (k : P (some (.int (s0 - s1))) I J) : Sat (ER l D aI aL ad) M_X7_refuseFar P 7 [] [.int s1, .int s0] I J := by
  refine s_isub dX7_refuseFar_7 ?_
  exact s_iret rfl dX7_refuseFar_8 k
/-! X7_refuseLong -/
theorem dX7_refuseLong_0 : decode cX7_refuseLong 0 = .ok (.ldc2_w 88, 3) := by decide +kernel
theorem dX7_refuseLong_3 : decode cX7_refuseLong 3 = .ok (.aload_n 0, 1) := by decide +kernel
theorem dX7_refuseLong_4 : decode cX7_refuseLong 4 = .ok (.iload_n 1, 1) := by decide +kernel
theorem dX7_refuseLong_5 : decode cX7_refuseLong 5 = .ok (.invokevirtual 84, 3) := by decide +kernel
theorem dX7_refuseLong_8 : decode cX7_refuseLong 8 = .ok (.i2l, 1) := by decide +kernel
theorem dX7_refuseLong_9 : decode cX7_refuseLong 9 = .ok (.lsub, 1) := by decide +kernel
theorem dX7_refuseLong_10 : decode cX7_refuseLong 10 = .ok (.lreturn, 1) := by decide +kernel
theorem bX7_refuseLong_0 {l : Launch} {D : va_G} {aI aL : ClassId} {ad : Nat → Nat} {P : sa_P} {I : sa_I} {J : sa_J} {x1 : Int32}   (k : Sat (ER l D aI aL ad) M_X7_refuseLong P 5 [] [.int x1, .ref (ad 0), .long (4000000000000000000 : Int64)] I J) : Sat (ER l D aI aL ad) M_X7_refuseLong P 0 [(0, .ref (ad 0)), (1, .int x1)] [] I J := by
  refine s_ldc2 wk_X7_88 dX7_refuseLong_0 ?_
  refine s_aload_n 0 dX7_refuseLong_3 rfl ?_
  refine s_iload_n 1 dX7_refuseLong_4 rfl ?_
  refine s_pick [] [] rfl ?_; exact k
theorem bX7_refuseLong_8 {l : Launch} {D : va_G} {aI aL : ClassId} {ad : Nat → Nat} {P : sa_P} {I : sa_I} {J : sa_J} {s0 : Int64} {s1 : Int32}   (k : P (some (.long (s0 - s1.toInt64))) I J) : Sat (ER l D aI aL ad) M_X7_refuseLong P 8 [] [.int s1, .long s0] I J := by
  refine s_i2l dX7_refuseLong_8 ?_
  refine s_lsub dX7_refuseLong_9 ?_
  exact s_lret rfl dX7_refuseLong_10 k
/-! X7_isIn -/
theorem dX7_isIn_0 : decode cX7_isIn 0 = .ok (.iload_n 0, 1) := by decide +kernel
theorem dX7_isIn_1 : decode cX7_isIn 1 = .ok (.ifCond .lt 12, 3) := by decide +kernel
theorem dX7_isIn_4 : decode cX7_isIn 4 = .ok (.iload_n 0, 1) := by decide +kernel
theorem dX7_isIn_5 : decode cX7_isIn 5 = .ok (.iload_n 1, 1) := by decide +kernel
theorem dX7_isIn_6 : decode cX7_isIn 6 = .ok (.if_icmp .ge 7, 3) := by decide +kernel
theorem dX7_isIn_9 : decode cX7_isIn 9 = .ok (.iconst 1, 1) := by decide +kernel
theorem dX7_isIn_10 : decode cX7_isIn 10 = .ok (.goto 4, 3) := by decide +kernel
theorem dX7_isIn_13 : decode cX7_isIn 13 = .ok (.iconst 0, 1) := by decide +kernel
theorem dX7_isIn_14 : decode cX7_isIn 14 = .ok (.ireturn, 1) := by decide +kernel
theorem bX7_isIn_0 {E : sa_E} {P : sa_P} {I : sa_I} {J : sa_J} {x0 : Int32} {x1 : Int32}   (kt : x0 < 0 → Sat E M_X7_isIn P 13 [] [] I J) (kf : ¬ x0 < 0 → Sat E M_X7_isIn P 4 [(0, .int x0), (1, .int x1)] [] I J) : Sat E M_X7_isIn P 0 [(0, .int x0), (1, .int x1)] [] I J := by
  refine s_iload_n 0 dX7_isIn_0 rfl ?_
  refine s_if_lt (tgt := 13) dX7_isIn_1 (by decide) (fun c => ?_) (fun c => ?_)
  · refine s_pick [] [] rfl ?_; exact kt c
  · exact kf c
theorem bX7_isIn_4 {E : sa_E} {P : sa_P} {I : sa_I} {J : sa_J} {x0 : Int32} {x1 : Int32}   (kt : x1 ≤ x0 → Sat E M_X7_isIn P 13 [] [] I J) (kf : ¬ x1 ≤ x0 → Sat E M_X7_isIn P 9 [] [] I J) : Sat E M_X7_isIn P 4 [(0, .int x0), (1, .int x1)] [] I J := by
  refine s_iload_n 0 dX7_isIn_4 rfl ?_
  refine s_iload_n 1 dX7_isIn_5 rfl ?_
  refine s_icmp_ge (tgt := 13) dX7_isIn_6 (by decide) (fun c => ?_) (fun c => ?_)
  · refine s_pick [] [] rfl ?_; exact kt c
  · refine s_pick [] [] rfl ?_; exact kf c
theorem bX7_isIn_9 {E : sa_E} {P : sa_P} {I : sa_I} {J : sa_J}    (k : Sat E M_X7_isIn P 14 [] [.int (1 : Int32)] I J) : Sat E M_X7_isIn P 9 [] [] I J := by
  refine s_iconst (v := 1) dX7_isIn_9 rfl ?_
  refine s_goto (tgt := 14) dX7_isIn_10 (by decide) ?_
  exact k
theorem bX7_isIn_13 {E : sa_E} {P : sa_P} {I : sa_I} {J : sa_J}    (k : Sat E M_X7_isIn P 14 [] [.int (0 : Int32)] I J) : Sat E M_X7_isIn P 13 [] [] I J := by
  refine s_iconst (v := 0) dX7_isIn_13 rfl ?_
  exact k
theorem bX7_isIn_14 {E : sa_E} {P : sa_P} {I : sa_I} {J : sa_J} {s0 : Int32} (hz : narrow .boolean (.int s0) = .int s0)  (k : P (some (.int s0)) I J) : Sat E M_X7_isIn P 14 [] [.int s0] I J := by
  exact s_zret hz rfl dX7_isIn_14 k
/-! X7_gcd -/
theorem dX7_gcd_0 : decode cX7_gcd 0 = .ok (.lload_n 0, 1) := by decide +kernel
theorem dX7_gcd_1 : decode cX7_gcd 1 = .ok (.invokestatic 90, 3) := by decide +kernel
theorem dX7_gcd_4 : decode cX7_gcd 4 = .ok (.lstore 4, 2) := by decide +kernel
theorem dX7_gcd_6 : decode cX7_gcd 6 = .ok (.lload_n 2, 1) := by decide +kernel
theorem dX7_gcd_7 : decode cX7_gcd 7 = .ok (.invokestatic 90, 3) := by decide +kernel
theorem dX7_gcd_10 : decode cX7_gcd 10 = .ok (.lstore 6, 2) := by decide +kernel
theorem dX7_gcd_12 : decode cX7_gcd 12 = .ok (.lload 6, 2) := by decide +kernel
theorem dX7_gcd_14 : decode cX7_gcd 14 = .ok (.lconst 0, 1) := by decide +kernel
theorem dX7_gcd_15 : decode cX7_gcd 15 = .ok (.lcmp, 1) := by decide +kernel
theorem dX7_gcd_16 : decode cX7_gcd 16 = .ok (.ifCond .eq 21, 3) := by decide +kernel
theorem dX7_gcd_19 : decode cX7_gcd 19 = .ok (.lload 4, 2) := by decide +kernel
theorem dX7_gcd_21 : decode cX7_gcd 21 = .ok (.lload 6, 2) := by decide +kernel
theorem dX7_gcd_23 : decode cX7_gcd 23 = .ok (.lrem, 1) := by decide +kernel
theorem dX7_gcd_24 : decode cX7_gcd 24 = .ok (.lstore 8, 2) := by decide +kernel
theorem dX7_gcd_26 : decode cX7_gcd 26 = .ok (.lload 6, 2) := by decide +kernel
theorem dX7_gcd_28 : decode cX7_gcd 28 = .ok (.lstore 4, 2) := by decide +kernel
theorem dX7_gcd_30 : decode cX7_gcd 30 = .ok (.lload 8, 2) := by decide +kernel
theorem dX7_gcd_32 : decode cX7_gcd 32 = .ok (.lstore 6, 2) := by decide +kernel
theorem dX7_gcd_34 : decode cX7_gcd 34 = .ok (.goto (-22), 3) := by decide +kernel
theorem dX7_gcd_37 : decode cX7_gcd 37 = .ok (.lload 4, 2) := by decide +kernel
theorem dX7_gcd_39 : decode cX7_gcd 39 = .ok (.lreturn, 1) := by decide +kernel
theorem bX7_gcd_0 {E : sa_E} {P : sa_P} {I : sa_I} {J : sa_J} {x0 : Int64} {x2 : Int64}   (k : Sat E M_X7_gcd P 1 [(2, .long x2)] [.long x0] I J) : Sat E M_X7_gcd P 0 [(0, .long x0), (2, .long x2)] [] I J := by
  refine s_lload_n 0 dX7_gcd_0 rfl ?_
  refine s_pick [1] [(2, .long x2)] rfl ?_; exact k
theorem bX7_gcd_4 {E : sa_E} {P : sa_P} {I : sa_I} {J : sa_J} {x2 : Int64} {s0 : Int64}   (k : Sat E M_X7_gcd P 7 [(4, .long s0)] [.long x2] I J) : Sat E M_X7_gcd P 4 [(2, .long x2)] [.long s0] I J := by
  refine s_lstore [(4, .long s0), (2, .long x2)] dX7_gcd_4 (Nat.lt_of_lt_of_le (Nat.lt_succ_self _) (Nat.le_of_ble_eq_true rfl)) rfl ?_
  refine s_lload_n 1 dX7_gcd_6 rfl ?_
  refine s_pick [0] [(4, .long s0)] rfl ?_; exact k
theorem bX7_gcd_10 {E : sa_E} {P : sa_P} {I : sa_I} {J : sa_J} {x4 : Int64} {s0 : Int64}   (k : Sat E M_X7_gcd P 12 [(4, .long x4), (6, .long s0)] [] I J) : Sat E M_X7_gcd P 10 [(4, .long x4)] [.long s0] I J := by
  refine s_lstore [(6, .long s0), (4, .long x4)] dX7_gcd_10 (Nat.lt_of_lt_of_le (Nat.lt_succ_self _) (Nat.le_of_ble_eq_true rfl)) rfl ?_
  refine s_pick [1, 0] [(4, .long x4), (6, .long s0)] rfl ?_; exact k
theorem bX7_gcd_12 {E : sa_E} {P : sa_P} {I : sa_I} {J : sa_J} {x4 : Int64} {x6 : Int64}   (kt : x6 = (0 : Int64) → Sat E M_X7_gcd P 37 [(4, .long x4)] [] I J) (kf : ¬ x6 = (0 : Int64) → Sat E M_X7_gcd P 19 [(4, .long x4), (6, .long x6)] [] I J) : Sat E M_X7_gcd P 12 [(4, .long x4), (6, .long x6)] [] I J := by
  refine s_lload 1 dX7_gcd_12 rfl ?_
  refine s_lconst (v := 0) dX7_gcd_14 rfl ?_
  refine s_lif_eq (tgt := 37) dX7_gcd_15 dX7_gcd_16 (by decide) (fun c => ?_) (fun c => ?_)
  · refine s_pick [0] [(4, .long x4)] rfl ?_; exact kt c
  · exact kf c
theorem bX7_gcd_19 {E : sa_E} {P : sa_P} {I : sa_I} {J : sa_J} {x4 : Int64} {x6 : Int64} {v24 : Int64} (z23 : ¬ x6 = 0) (f24 : x4 - x4 / x6 * x6 = v24) (k : Sat E M_X7_gcd P 12 [(4, .long x6), (6, .long v24)] [] I J) : Sat E M_X7_gcd P 19 [(4, .long x4), (6, .long x6)] [] I J := by
  refine s_lload 0 dX7_gcd_19 rfl ?_
  refine s_lload 1 dX7_gcd_21 rfl ?_
  refine s_lrem dX7_gcd_23 z23 ?_
  refine s_eql f24 ?_
  refine s_lstore [(8, .long v24), (4, .long x4), (6, .long x6)] dX7_gcd_24 (Nat.lt_of_lt_of_le (Nat.lt_succ_self _) (Nat.le_of_ble_eq_true rfl)) rfl ?_
  refine s_lload 2 dX7_gcd_26 rfl ?_
  refine s_lstore [(4, .long x6), (8, .long v24), (6, .long x6)] dX7_gcd_28 (Nat.lt_of_lt_of_le (Nat.lt_succ_self _) (Nat.le_of_ble_eq_true rfl)) rfl ?_
  refine s_lload 1 dX7_gcd_30 rfl ?_
  refine s_lstore [(6, .long v24), (4, .long x6), (8, .long v24)] dX7_gcd_32 (Nat.lt_of_lt_of_le (Nat.lt_succ_self _) (Nat.le_of_ble_eq_true rfl)) rfl ?_
  refine s_goto (tgt := 12) dX7_gcd_34 (by decide) ?_
  refine s_pick [1, 0] [(4, .long x6), (6, .long v24)] rfl ?_; exact k
theorem bX7_gcd_37 {E : sa_E} {P : sa_P} {I : sa_I} {J : sa_J} {x4 : Int64}   (k : P (some (.long x4)) I J) : Sat E M_X7_gcd P 37 [(4, .long x4)] [] I J := by
  refine s_lload 0 dX7_gcd_37 rfl ?_
  exact s_lret rfl dX7_gcd_39 k
/-! X7_rootOf -/
theorem dX7_rootOf_0 : decode cX7_rootOf 0 = .ok (.lconst 0, 1) := by decide +kernel
theorem dX7_rootOf_1 : decode cX7_rootOf 1 = .ok (.lstore_n 2, 1) := by decide +kernel
theorem dX7_rootOf_2 : decode cX7_rootOf 2 = .ok (.lload_n 2, 1) := by decide +kernel
theorem dX7_rootOf_3 : decode cX7_rootOf 3 = .ok (.lconst 1, 1) := by decide +kernel
theorem dX7_rootOf_4 : decode cX7_rootOf 4 = .ok (.ladd, 1) := by decide +kernel
theorem dX7_rootOf_5 : decode cX7_rootOf 5 = .ok (.lload_n 2, 1) := by decide +kernel
theorem dX7_rootOf_6 : decode cX7_rootOf 6 = .ok (.lconst 1, 1) := by decide +kernel
theorem dX7_rootOf_7 : decode cX7_rootOf 7 = .ok (.ladd, 1) := by decide +kernel
theorem dX7_rootOf_8 : decode cX7_rootOf 8 = .ok (.lmul, 1) := by decide +kernel
theorem dX7_rootOf_9 : decode cX7_rootOf 9 = .ok (.lload_n 0, 1) := by decide +kernel
theorem dX7_rootOf_10 : decode cX7_rootOf 10 = .ok (.lcmp, 1) := by decide +kernel
theorem dX7_rootOf_11 : decode cX7_rootOf 11 = .ok (.ifCond .gt 10, 3) := by decide +kernel
theorem dX7_rootOf_14 : decode cX7_rootOf 14 = .ok (.lload_n 2, 1) := by decide +kernel
theorem dX7_rootOf_15 : decode cX7_rootOf 15 = .ok (.lconst 1, 1) := by decide +kernel
theorem dX7_rootOf_16 : decode cX7_rootOf 16 = .ok (.ladd, 1) := by decide +kernel
theorem dX7_rootOf_17 : decode cX7_rootOf 17 = .ok (.lstore_n 2, 1) := by decide +kernel
theorem dX7_rootOf_18 : decode cX7_rootOf 18 = .ok (.goto (-16), 3) := by decide +kernel
theorem dX7_rootOf_21 : decode cX7_rootOf 21 = .ok (.lload_n 2, 1) := by decide +kernel
theorem dX7_rootOf_22 : decode cX7_rootOf 22 = .ok (.lreturn, 1) := by decide +kernel
theorem bX7_rootOf_0 {E : sa_E} {P : sa_P} {I : sa_I} {J : sa_J} {x0 : Int64} {v1 : Int64}  (f1 : (0 : Int64) = v1) (k : Sat E M_X7_rootOf P 2 [(0, .long x0), (2, .long v1)] [] I J) : Sat E M_X7_rootOf P 0 [(0, .long x0)] [] I J := by
  refine s_lconst (v := 0) dX7_rootOf_0 rfl ?_
  refine s_eql f1 ?_
  refine s_lstore_n [(2, .long v1), (0, .long x0)] dX7_rootOf_1 (Nat.lt_of_lt_of_le (Nat.lt_succ_self _) (Nat.le_of_ble_eq_true rfl)) rfl ?_
  refine s_pick [1, 0] [(0, .long x0), (2, .long v1)] rfl ?_; exact k
theorem bX7_rootOf_2 {E : sa_E} {P : sa_P} {I : sa_I} {J : sa_J} {x0 : Int64} {x2 : Int64}   (kt : x0 < (x2 + (1 : Int64)) * (x2 + (1 : Int64)) → Sat E M_X7_rootOf P 21 [(2, .long x2)] [] I J) (kf : ¬ x0 < (x2 + (1 : Int64)) * (x2 + (1 : Int64)) → Sat E M_X7_rootOf P 14 [(0, .long x0), (2, .long x2)] [] I J) : Sat E M_X7_rootOf P 2 [(0, .long x0), (2, .long x2)] [] I J := by
  refine s_lload_n 1 dX7_rootOf_2 rfl ?_
  refine s_lconst (v := 1) dX7_rootOf_3 rfl ?_
  refine s_ladd dX7_rootOf_4 ?_
  refine s_lload_n 1 dX7_rootOf_5 rfl ?_
  refine s_lconst (v := 1) dX7_rootOf_6 rfl ?_
  refine s_ladd dX7_rootOf_7 ?_
  refine s_lmul dX7_rootOf_8 ?_
  refine s_lload_n 0 dX7_rootOf_9 rfl ?_
  refine s_lif_gt (tgt := 21) dX7_rootOf_10 dX7_rootOf_11 (by decide) (fun c => ?_) (fun c => ?_)
  · refine s_pick [1] [(2, .long x2)] rfl ?_; exact kt c
  · exact kf c
theorem bX7_rootOf_14 {E : sa_E} {P : sa_P} {I : sa_I} {J : sa_J} {x0 : Int64} {x2 : Int64} {v17 : Int64}  (f17 : x2 + (1 : Int64) = v17) (k : Sat E M_X7_rootOf P 2 [(0, .long x0), (2, .long v17)] [] I J) : Sat E M_X7_rootOf P 14 [(0, .long x0), (2, .long x2)] [] I J := by
  refine s_lload_n 1 dX7_rootOf_14 rfl ?_
  refine s_lconst (v := 1) dX7_rootOf_15 rfl ?_
  refine s_ladd dX7_rootOf_16 ?_
  refine s_eql f17 ?_
  refine s_lstore_n [(2, .long v17), (0, .long x0)] dX7_rootOf_17 (Nat.lt_of_lt_of_le (Nat.lt_succ_self _) (Nat.le_of_ble_eq_true rfl)) rfl ?_
  refine s_goto (tgt := 2) dX7_rootOf_18 (by decide) ?_
  refine s_pick [1, 0] [(0, .long x0), (2, .long v17)] rfl ?_; exact k
theorem bX7_rootOf_21 {E : sa_E} {P : sa_P} {I : sa_I} {J : sa_J} {x2 : Int64}   (k : P (some (.long x2)) I J) : Sat E M_X7_rootOf P 21 [(2, .long x2)] [] I J := by
  refine s_lload_n 0 dX7_rootOf_21 rfl ?_
  exact s_lret rfl dX7_rootOf_22 k
/-! X7_square -/
theorem dX7_square_0 : decode cX7_square 0 = .ok (.iload_n 1, 1) := by decide +kernel
theorem dX7_square_1 : decode cX7_square 1 = .ok (.bipush (-20), 2) := by decide +kernel
theorem dX7_square_3 : decode cX7_square 3 = .ok (.if_icmp .lt 10, 3) := by decide +kernel
theorem dX7_square_6 : decode cX7_square 6 = .ok (.iload_n 2, 1) := by decide +kernel
theorem dX7_square_7 : decode cX7_square 7 = .ok (.sipush (-200), 3) := by decide +kernel
theorem dX7_square_10 : decode cX7_square 10 = .ok (.if_icmp .ge 10, 3) := by decide +kernel
theorem dX7_square_13 : decode cX7_square 13 = .ok (.aload_n 0, 1) := by decide +kernel
theorem dX7_square_14 : decode cX7_square 14 = .ok (.bipush (-4), 2) := by decide +kernel
theorem dX7_square_16 : decode cX7_square 16 = .ok (.invokevirtual 84, 3) := by decide +kernel
theorem dX7_square_19 : decode cX7_square 19 = .ok (.ireturn, 1) := by decide +kernel
theorem dX7_square_20 : decode cX7_square 20 = .ok (.iload_n 1, 1) := by decide +kernel
theorem dX7_square_21 : decode cX7_square 21 = .ok (.bipush 20, 2) := by decide +kernel
theorem dX7_square_23 : decode cX7_square 23 = .ok (.if_icmp .gt 10, 3) := by decide +kernel
theorem dX7_square_26 : decode cX7_square 26 = .ok (.iload_n 2, 1) := by decide +kernel
theorem dX7_square_27 : decode cX7_square 27 = .ok (.sipush 200, 3) := by decide +kernel
theorem dX7_square_30 : decode cX7_square 30 = .ok (.if_icmp .le 10, 3) := by decide +kernel
theorem dX7_square_33 : decode cX7_square 33 = .ok (.aload_n 0, 1) := by decide +kernel
theorem dX7_square_34 : decode cX7_square 34 = .ok (.bipush (-6), 2) := by decide +kernel
theorem dX7_square_36 : decode cX7_square 36 = .ok (.invokevirtual 84, 3) := by decide +kernel
theorem dX7_square_39 : decode cX7_square 39 = .ok (.ireturn, 1) := by decide +kernel
theorem dX7_square_40 : decode cX7_square 40 = .ok (.iload_n 1, 1) := by decide +kernel
theorem dX7_square_41 : decode cX7_square 41 = .ok (.i2l, 1) := by decide +kernel
theorem dX7_square_42 : decode cX7_square 42 = .ok (.iload_n 1, 1) := by decide +kernel
theorem dX7_square_43 : decode cX7_square 43 = .ok (.i2l, 1) := by decide +kernel
theorem dX7_square_44 : decode cX7_square 44 = .ok (.lmul, 1) := by decide +kernel
theorem dX7_square_45 : decode cX7_square 45 = .ok (.ldc2_w 96, 3) := by decide +kernel
theorem dX7_square_48 : decode cX7_square 48 = .ok (.iload_n 2, 1) := by decide +kernel
theorem dX7_square_49 : decode cX7_square 49 = .ok (.i2l, 1) := by decide +kernel
theorem dX7_square_50 : decode cX7_square 50 = .ok (.lmul, 1) := by decide +kernel
theorem dX7_square_51 : decode cX7_square 51 = .ok (.lsub, 1) := by decide +kernel
theorem dX7_square_52 : decode cX7_square 52 = .ok (.lstore_n 3, 1) := by decide +kernel
theorem dX7_square_53 : decode cX7_square 53 = .ok (.lload_n 3, 1) := by decide +kernel
theorem dX7_square_54 : decode cX7_square 54 = .ok (.lconst 0, 1) := by decide +kernel
theorem dX7_square_55 : decode cX7_square 55 = .ok (.lcmp, 1) := by decide +kernel
theorem dX7_square_56 : decode cX7_square 56 = .ok (.ifCond .lt 24, 3) := by decide +kernel
theorem dX7_square_59 : decode cX7_square 59 = .ok (.lload_n 3, 1) := by decide +kernel
theorem dX7_square_60 : decode cX7_square 60 = .ok (.invokestatic 98, 3) := by decide +kernel
theorem dX7_square_63 : decode cX7_square 63 = .ok (.lload_n 3, 1) := by decide +kernel
theorem dX7_square_64 : decode cX7_square 64 = .ok (.invokestatic 98, 3) := by decide +kernel
theorem dX7_square_67 : decode cX7_square 67 = .ok (.lmul, 1) := by decide +kernel
theorem dX7_square_68 : decode cX7_square 68 = .ok (.lload_n 3, 1) := by decide +kernel
theorem dX7_square_69 : decode cX7_square 69 = .ok (.lcmp, 1) := by decide +kernel
theorem dX7_square_70 : decode cX7_square 70 = .ok (.ifCond .ne 10, 3) := by decide +kernel
theorem dX7_square_73 : decode cX7_square 73 = .ok (.aload_n 0, 1) := by decide +kernel
theorem dX7_square_74 : decode cX7_square 74 = .ok (.bipush (-3), 2) := by decide +kernel
theorem dX7_square_76 : decode cX7_square 76 = .ok (.invokevirtual 84, 3) := by decide +kernel
theorem dX7_square_79 : decode cX7_square 79 = .ok (.ireturn, 1) := by decide +kernel
theorem dX7_square_80 : decode cX7_square 80 = .ok (.aload_n 0, 1) := by decide +kernel
theorem dX7_square_81 : decode cX7_square 81 = .ok (.iconst 2, 1) := by decide +kernel
theorem dX7_square_82 : decode cX7_square 82 = .ok (.putfield 101, 3) := by decide +kernel
theorem dX7_square_85 : decode cX7_square 85 = .ok (.aload_n 0, 1) := by decide +kernel
theorem dX7_square_86 : decode cX7_square 86 = .ok (.iload_n 2, 1) := by decide +kernel
theorem dX7_square_87 : decode cX7_square 87 = .ok (.putfield 105, 3) := by decide +kernel
theorem dX7_square_90 : decode cX7_square 90 = .ok (.aload_n 0, 1) := by decide +kernel
theorem dX7_square_91 : decode cX7_square 91 = .ok (.iload_n 1, 1) := by decide +kernel
theorem dX7_square_92 : decode cX7_square 92 = .ok (.putfield 108, 3) := by decide +kernel
theorem dX7_square_95 : decode cX7_square 95 = .ok (.aload_n 0, 1) := by decide +kernel
theorem dX7_square_96 : decode cX7_square 96 = .ok (.iconst 0, 1) := by decide +kernel
theorem dX7_square_97 : decode cX7_square 97 = .ok (.putfield 111, 3) := by decide +kernel
theorem dX7_square_100 : decode cX7_square 100 = .ok (.aload_n 0, 1) := by decide +kernel
theorem dX7_square_101 : decode cX7_square 101 = .ok (.lload_n 3, 1) := by decide +kernel
theorem dX7_square_102 : decode cX7_square 102 = .ok (.putfield 114, 3) := by decide +kernel
theorem dX7_square_105 : decode cX7_square 105 = .ok (.aload_n 0, 1) := by decide +kernel
theorem dX7_square_106 : decode cX7_square 106 = .ok (.invokevirtual 118, 3) := by decide +kernel
theorem dX7_square_109 : decode cX7_square 109 = .ok (.iconst 1, 1) := by decide +kernel
theorem dX7_square_110 : decode cX7_square 110 = .ok (.ireturn, 1) := by decide +kernel
theorem bX7_square_0 {l : Launch} {D : va_G} {aI aL : ClassId} {ad : Nat → Nat} {P : sa_P} {I : sa_I} {J : sa_J} {x1 : Int32} {x2 : Int32}   (kt : x1 < (-20 : Int32) → Sat (ER l D aI aL ad) M_X7_square P 13 [(0, .ref (ad 0))] [] I J) (kf : ¬ x1 < (-20 : Int32) → Sat (ER l D aI aL ad) M_X7_square P 6 [(0, .ref (ad 0)), (1, .int x1), (2, .int x2)] [] I J) : Sat (ER l D aI aL ad) M_X7_square P 0 [(0, .ref (ad 0)), (1, .int x1), (2, .int x2)] [] I J := by
  refine s_iload_n 1 dX7_square_0 rfl ?_
  refine s_bipush (v := -20) dX7_square_1 rfl ?_
  refine s_icmp_lt (tgt := 13) dX7_square_3 (by decide) (fun c => ?_) (fun c => ?_)
  · refine s_pick [0] [(0, .ref (ad 0))] rfl ?_; exact kt c
  · exact kf c
theorem bX7_square_6 {l : Launch} {D : va_G} {aI aL : ClassId} {ad : Nat → Nat} {P : sa_P} {I : sa_I} {J : sa_J} {x1 : Int32} {x2 : Int32}   (kt : (-200 : Int32) ≤ x2 → Sat (ER l D aI aL ad) M_X7_square P 20 [(0, .ref (ad 0)), (1, .int x1), (2, .int x2)] [] I J) (kf : ¬ (-200 : Int32) ≤ x2 → Sat (ER l D aI aL ad) M_X7_square P 13 [(0, .ref (ad 0))] [] I J) : Sat (ER l D aI aL ad) M_X7_square P 6 [(0, .ref (ad 0)), (1, .int x1), (2, .int x2)] [] I J := by
  refine s_iload_n 2 dX7_square_6 rfl ?_
  refine s_sipush (v := -200) dX7_square_7 rfl ?_
  refine s_icmp_ge (tgt := 20) dX7_square_10 (by decide) (fun c => ?_) (fun c => ?_)
  · exact kt c
  · refine s_pick [0] [(0, .ref (ad 0))] rfl ?_; exact kf c
theorem bX7_square_13 {l : Launch} {D : va_G} {aI aL : ClassId} {ad : Nat → Nat} {P : sa_P} {I : sa_I} {J : sa_J}    (k : Sat (ER l D aI aL ad) M_X7_square P 16 [] [.int (-4 : Int32), .ref (ad 0)] I J) : Sat (ER l D aI aL ad) M_X7_square P 13 [(0, .ref (ad 0))] [] I J := by
  refine s_aload_n 0 dX7_square_13 rfl ?_
  refine s_bipush (v := -4) dX7_square_14 rfl ?_
  refine s_pick [] [] rfl ?_; exact k
theorem bX7_square_19 {l : Launch} {D : va_G} {aI aL : ClassId} {ad : Nat → Nat} {P : sa_P} {I : sa_I} {J : sa_J} {s0 : Int32}   (k : P (some (.int s0)) I J) : Sat (ER l D aI aL ad) M_X7_square P 19 [] [.int s0] I J := by
  exact s_iret rfl dX7_square_19 k
theorem bX7_square_20 {l : Launch} {D : va_G} {aI aL : ClassId} {ad : Nat → Nat} {P : sa_P} {I : sa_I} {J : sa_J} {x1 : Int32} {x2 : Int32}   (kt : (20 : Int32) < x1 → Sat (ER l D aI aL ad) M_X7_square P 33 [(0, .ref (ad 0))] [] I J) (kf : ¬ (20 : Int32) < x1 → Sat (ER l D aI aL ad) M_X7_square P 26 [(0, .ref (ad 0)), (1, .int x1), (2, .int x2)] [] I J) : Sat (ER l D aI aL ad) M_X7_square P 20 [(0, .ref (ad 0)), (1, .int x1), (2, .int x2)] [] I J := by
  refine s_iload_n 1 dX7_square_20 rfl ?_
  refine s_bipush (v := 20) dX7_square_21 rfl ?_
  refine s_icmp_gt (tgt := 33) dX7_square_23 (by decide) (fun c => ?_) (fun c => ?_)
  · refine s_pick [0] [(0, .ref (ad 0))] rfl ?_; exact kt c
  · exact kf c
theorem bX7_square_26 {l : Launch} {D : va_G} {aI aL : ClassId} {ad : Nat → Nat} {P : sa_P} {I : sa_I} {J : sa_J} {x1 : Int32} {x2 : Int32}   (kt : x2 ≤ (200 : Int32) → Sat (ER l D aI aL ad) M_X7_square P 40 [(0, .ref (ad 0)), (1, .int x1), (2, .int x2)] [] I J) (kf : ¬ x2 ≤ (200 : Int32) → Sat (ER l D aI aL ad) M_X7_square P 33 [(0, .ref (ad 0))] [] I J) : Sat (ER l D aI aL ad) M_X7_square P 26 [(0, .ref (ad 0)), (1, .int x1), (2, .int x2)] [] I J := by
  refine s_iload_n 2 dX7_square_26 rfl ?_
  refine s_sipush (v := 200) dX7_square_27 rfl ?_
  refine s_icmp_le (tgt := 40) dX7_square_30 (by decide) (fun c => ?_) (fun c => ?_)
  · exact kt c
  · refine s_pick [0] [(0, .ref (ad 0))] rfl ?_; exact kf c
theorem bX7_square_33 {l : Launch} {D : va_G} {aI aL : ClassId} {ad : Nat → Nat} {P : sa_P} {I : sa_I} {J : sa_J}    (k : Sat (ER l D aI aL ad) M_X7_square P 36 [] [.int (-6 : Int32), .ref (ad 0)] I J) : Sat (ER l D aI aL ad) M_X7_square P 33 [(0, .ref (ad 0))] [] I J := by
  refine s_aload_n 0 dX7_square_33 rfl ?_
  refine s_bipush (v := -6) dX7_square_34 rfl ?_
  refine s_pick [] [] rfl ?_; exact k
theorem bX7_square_39 {l : Launch} {D : va_G} {aI aL : ClassId} {ad : Nat → Nat} {P : sa_P} {I : sa_I} {J : sa_J} {s0 : Int32}   (k : P (some (.int s0)) I J) : Sat (ER l D aI aL ad) M_X7_square P 39 [] [.int s0] I J := by
  exact s_iret rfl dX7_square_39 k
theorem bX7_square_40 {l : Launch} {D : va_G} {aI aL : ClassId} {ad : Nat → Nat} {P : sa_P} {I : sa_I} {J : sa_J} {x1 : Int32} {x2 : Int32} {v52 : Int64}  (f52 : (x1.toInt64 * x1.toInt64) - ((4 : Int64) * x2.toInt64) = v52) (kt : v52 < (0 : Int64) → Sat (ER l D aI aL ad) M_X7_square P 80 [(0, .ref (ad 0)), (1, .int x1), (2, .int x2), (3, .long v52)] [] I J) (kf : ¬ v52 < (0 : Int64) → Sat (ER l D aI aL ad) M_X7_square P 59 [(0, .ref (ad 0)), (1, .int x1), (2, .int x2), (3, .long v52)] [] I J) : Sat (ER l D aI aL ad) M_X7_square P 40 [(0, .ref (ad 0)), (1, .int x1), (2, .int x2)] [] I J := by
  refine s_iload_n 1 dX7_square_40 rfl ?_
  refine s_i2l dX7_square_41 ?_
  refine s_iload_n 1 dX7_square_42 rfl ?_
  refine s_i2l dX7_square_43 ?_
  refine s_lmul dX7_square_44 ?_
  refine s_ldc2 wk_X7_96 dX7_square_45 ?_
  refine s_iload_n 2 dX7_square_48 rfl ?_
  refine s_i2l dX7_square_49 ?_
  refine s_lmul dX7_square_50 ?_
  refine s_lsub dX7_square_51 ?_
  refine s_eql f52 ?_
  refine s_lstore_n [(3, .long v52), (0, .ref (ad 0)), (1, .int x1), (2, .int x2)] dX7_square_52 (Nat.lt_of_lt_of_le (Nat.lt_succ_self _) (Nat.le_of_ble_eq_true rfl)) rfl ?_
  refine s_lload_n 0 dX7_square_53 rfl ?_
  refine s_lconst (v := 0) dX7_square_54 rfl ?_
  refine s_lif_lt (tgt := 80) dX7_square_55 dX7_square_56 (by decide) (fun c => ?_) (fun c => ?_)
  · refine s_pick [1, 2, 3, 0] [(0, .ref (ad 0)), (1, .int x1), (2, .int x2), (3, .long v52)] rfl ?_; exact kt c
  · refine s_pick [1, 2, 3, 0] [(0, .ref (ad 0)), (1, .int x1), (2, .int x2), (3, .long v52)] rfl ?_; exact kf c
theorem bX7_square_59 {l : Launch} {D : va_G} {aI aL : ClassId} {ad : Nat → Nat} {P : sa_P} {I : sa_I} {J : sa_J} {x1 : Int32} {x2 : Int32} {x3 : Int64}   (k : Sat (ER l D aI aL ad) M_X7_square P 60 [(0, .ref (ad 0)), (1, .int x1), (2, .int x2), (3, .long x3)] [.long x3] I J) : Sat (ER l D aI aL ad) M_X7_square P 59 [(0, .ref (ad 0)), (1, .int x1), (2, .int x2), (3, .long x3)] [] I J := by
  refine s_lload_n 3 dX7_square_59 rfl ?_
  exact k
theorem bX7_square_63 {l : Launch} {D : va_G} {aI aL : ClassId} {ad : Nat → Nat} {P : sa_P} {I : sa_I} {J : sa_J} {x1 : Int32} {x2 : Int32} {x3 : Int64} {s0 : Int64}   (k : Sat (ER l D aI aL ad) M_X7_square P 64 [(0, .ref (ad 0)), (1, .int x1), (2, .int x2), (3, .long x3)] [.long x3, .long s0] I J) : Sat (ER l D aI aL ad) M_X7_square P 63 [(0, .ref (ad 0)), (1, .int x1), (2, .int x2), (3, .long x3)] [.long s0] I J := by
  refine s_lload_n 3 dX7_square_63 rfl ?_
  exact k
theorem bX7_square_67 {l : Launch} {D : va_G} {aI aL : ClassId} {ad : Nat → Nat} {P : sa_P} {I : sa_I} {J : sa_J} {x1 : Int32} {x2 : Int32} {x3 : Int64} {s0 : Int64} {s1 : Int64}   (kt : ¬ s0 * s1 = x3 → Sat (ER l D aI aL ad) M_X7_square P 80 [(0, .ref (ad 0)), (1, .int x1), (2, .int x2), (3, .long x3)] [] I J) (kf : s0 * s1 = x3 → Sat (ER l D aI aL ad) M_X7_square P 73 [(0, .ref (ad 0))] [] I J) : Sat (ER l D aI aL ad) M_X7_square P 67 [(0, .ref (ad 0)), (1, .int x1), (2, .int x2), (3, .long x3)] [.long s1, .long s0] I J := by
  refine s_lmul dX7_square_67 ?_
  refine s_lload_n 3 dX7_square_68 rfl ?_
  refine s_lif_ne (tgt := 80) dX7_square_69 dX7_square_70 (by decide) (fun c => ?_) (fun c => ?_)
  · exact kt c
  · refine s_pick [0] [(0, .ref (ad 0))] rfl ?_; exact kf (by first | exact c | exact Classical.not_not.mp c)
theorem bX7_square_73 {l : Launch} {D : va_G} {aI aL : ClassId} {ad : Nat → Nat} {P : sa_P} {I : sa_I} {J : sa_J}    (k : Sat (ER l D aI aL ad) M_X7_square P 76 [] [.int (-3 : Int32), .ref (ad 0)] I J) : Sat (ER l D aI aL ad) M_X7_square P 73 [(0, .ref (ad 0))] [] I J := by
  refine s_aload_n 0 dX7_square_73 rfl ?_
  refine s_bipush (v := -3) dX7_square_74 rfl ?_
  refine s_pick [] [] rfl ?_; exact k
theorem bX7_square_79 {l : Launch} {D : va_G} {aI aL : ClassId} {ad : Nat → Nat} {P : sa_P} {I : sa_I} {J : sa_J} {s0 : Int32}   (k : P (some (.int s0)) I J) : Sat (ER l D aI aL ad) M_X7_square P 79 [] [.int s0] I J := by
  exact s_iret rfl dX7_square_79 k
theorem bX7_square_80 {l : Launch} {D : va_G} {aI aL : ClassId} {ad : Nat → Nat} {P : sa_P} {I : sa_I} {J : sa_J} {x1 : Int32} {x2 : Int32} {x3 : Int64} {v82 : Int32} {v97 : Int32}  (f82 : (2 : Int32) = v82) (f97 : (0 : Int32) = v97) (k : Sat (ER l D aI aL ad) M_X7_square P 106 [] [.ref (ad 0)] (sa_uI (sa_uI (sa_uI (sa_uI I 0 1 v82) 0 2 x2) 0 3 x1) 0 4 v97) (sa_uJ J 0 11 x3)) : Sat (ER l D aI aL ad) M_X7_square P 80 [(0, .ref (ad 0)), (1, .int x1), (2, .int x2), (3, .long x3)] [] I J := by
  refine s_aload_n 0 dX7_square_80 rfl ?_
  refine s_iconst (v := 2) dX7_square_81 rfl ?_
  refine s_eqi f82 ?_
  refine p_X7_101 dX7_square_82 rfl ?_
  refine s_aload_n 0 dX7_square_85 rfl ?_
  refine s_iload_n 2 dX7_square_86 rfl ?_
  refine p_X7_105 dX7_square_87 rfl ?_
  refine s_aload_n 0 dX7_square_90 rfl ?_
  refine s_iload_n 1 dX7_square_91 rfl ?_
  refine p_X7_108 dX7_square_92 rfl ?_
  refine s_aload_n 0 dX7_square_95 rfl ?_
  refine s_iconst (v := 0) dX7_square_96 rfl ?_
  refine s_eqi f97 ?_
  refine p_X7_111 dX7_square_97 rfl ?_
  refine s_aload_n 0 dX7_square_100 rfl ?_
  refine s_lload_n 3 dX7_square_101 rfl ?_
  refine p_X7_114 dX7_square_102 rfl ?_
  refine s_aload_n 0 dX7_square_105 rfl ?_
  refine s_pick [] [] rfl ?_; exact k
theorem bX7_square_109 {l : Launch} {D : va_G} {aI aL : ClassId} {ad : Nat → Nat} {P : sa_P} {I : sa_I} {J : sa_J}    (k : P (some (.int (1 : Int32))) I J) : Sat (ER l D aI aL ad) M_X7_square P 109 [] [] I J := by
  refine s_iconst (v := 1) dX7_square_109 rfl ?_
  exact s_iret rfl dX7_square_110 k
/-! X7_cube -/
theorem dX7_cube_0 : decode cX7_cube 0 = .ok (.iload_n 1, 1) := by decide +kernel
theorem dX7_cube_1 : decode cX7_cube 1 = .ok (.bipush (-3), 2) := by decide +kernel
theorem dX7_cube_3 : decode cX7_cube 3 = .ok (.if_icmp .lt 15, 3) := by decide +kernel
theorem dX7_cube_6 : decode cX7_cube 6 = .ok (.iload_n 2, 1) := by decide +kernel
theorem dX7_cube_7 : decode cX7_cube 7 = .ok (.bipush (-9), 2) := by decide +kernel
theorem dX7_cube_9 : decode cX7_cube 9 = .ok (.if_icmp .lt 9, 3) := by decide +kernel
theorem dX7_cube_12 : decode cX7_cube 12 = .ok (.iload_n 3, 1) := by decide +kernel
theorem dX7_cube_13 : decode cX7_cube 13 = .ok (.bipush (-9), 2) := by decide +kernel
theorem dX7_cube_15 : decode cX7_cube 15 = .ok (.if_icmp .ge 10, 3) := by decide +kernel
theorem dX7_cube_18 : decode cX7_cube 18 = .ok (.aload_n 0, 1) := by decide +kernel
theorem dX7_cube_19 : decode cX7_cube 19 = .ok (.bipush (-4), 2) := by decide +kernel
theorem dX7_cube_21 : decode cX7_cube 21 = .ok (.invokevirtual 84, 3) := by decide +kernel
theorem dX7_cube_24 : decode cX7_cube 24 = .ok (.ireturn, 1) := by decide +kernel
theorem dX7_cube_25 : decode cX7_cube 25 = .ok (.iload_n 1, 1) := by decide +kernel
theorem dX7_cube_26 : decode cX7_cube 26 = .ok (.iconst 3, 1) := by decide +kernel
theorem dX7_cube_27 : decode cX7_cube 27 = .ok (.if_icmp .gt 15, 3) := by decide +kernel
theorem dX7_cube_30 : decode cX7_cube 30 = .ok (.iload_n 2, 1) := by decide +kernel
theorem dX7_cube_31 : decode cX7_cube 31 = .ok (.bipush 9, 2) := by decide +kernel
theorem dX7_cube_33 : decode cX7_cube 33 = .ok (.if_icmp .gt 9, 3) := by decide +kernel
theorem dX7_cube_36 : decode cX7_cube 36 = .ok (.iload_n 3, 1) := by decide +kernel
theorem dX7_cube_37 : decode cX7_cube 37 = .ok (.bipush 9, 2) := by decide +kernel
theorem dX7_cube_39 : decode cX7_cube 39 = .ok (.if_icmp .le 10, 3) := by decide +kernel
theorem dX7_cube_42 : decode cX7_cube 42 = .ok (.aload_n 0, 1) := by decide +kernel
theorem dX7_cube_43 : decode cX7_cube 43 = .ok (.bipush (-6), 2) := by decide +kernel
theorem dX7_cube_45 : decode cX7_cube 45 = .ok (.invokevirtual 84, 3) := by decide +kernel
theorem dX7_cube_48 : decode cX7_cube 48 = .ok (.ireturn, 1) := by decide +kernel
theorem dX7_cube_49 : decode cX7_cube 49 = .ok (.bipush (-20), 2) := by decide +kernel
theorem dX7_cube_51 : decode cX7_cube 51 = .ok (.istore 4, 2) := by decide +kernel
theorem dX7_cube_53 : decode cX7_cube 53 = .ok (.iload 4, 2) := by decide +kernel
theorem dX7_cube_55 : decode cX7_cube 55 = .ok (.bipush 20, 2) := by decide +kernel
theorem dX7_cube_57 : decode cX7_cube 57 = .ok (.if_icmp .gt 42, 3) := by decide +kernel
theorem dX7_cube_60 : decode cX7_cube 60 = .ok (.iload 4, 2) := by decide +kernel
theorem dX7_cube_62 : decode cX7_cube 62 = .ok (.iload 4, 2) := by decide +kernel
theorem dX7_cube_64 : decode cX7_cube 64 = .ok (.imul, 1) := by decide +kernel
theorem dX7_cube_65 : decode cX7_cube 65 = .ok (.iload 4, 2) := by decide +kernel
theorem dX7_cube_67 : decode cX7_cube 67 = .ok (.imul, 1) := by decide +kernel
theorem dX7_cube_68 : decode cX7_cube 68 = .ok (.iload_n 1, 1) := by decide +kernel
theorem dX7_cube_69 : decode cX7_cube 69 = .ok (.iload 4, 2) := by decide +kernel
theorem dX7_cube_71 : decode cX7_cube 71 = .ok (.imul, 1) := by decide +kernel
theorem dX7_cube_72 : decode cX7_cube 72 = .ok (.iload 4, 2) := by decide +kernel
theorem dX7_cube_74 : decode cX7_cube 74 = .ok (.imul, 1) := by decide +kernel
theorem dX7_cube_75 : decode cX7_cube 75 = .ok (.iadd, 1) := by decide +kernel
theorem dX7_cube_76 : decode cX7_cube 76 = .ok (.iload_n 2, 1) := by decide +kernel
theorem dX7_cube_77 : decode cX7_cube 77 = .ok (.iload 4, 2) := by decide +kernel
theorem dX7_cube_79 : decode cX7_cube 79 = .ok (.imul, 1) := by decide +kernel
theorem dX7_cube_80 : decode cX7_cube 80 = .ok (.iadd, 1) := by decide +kernel
theorem dX7_cube_81 : decode cX7_cube 81 = .ok (.iload_n 3, 1) := by decide +kernel
theorem dX7_cube_82 : decode cX7_cube 82 = .ok (.iadd, 1) := by decide +kernel
theorem dX7_cube_83 : decode cX7_cube 83 = .ok (.ifCond .ne 10, 3) := by decide +kernel
theorem dX7_cube_86 : decode cX7_cube 86 = .ok (.aload_n 0, 1) := by decide +kernel
theorem dX7_cube_87 : decode cX7_cube 87 = .ok (.bipush (-3), 2) := by decide +kernel
theorem dX7_cube_89 : decode cX7_cube 89 = .ok (.invokevirtual 84, 3) := by decide +kernel
theorem dX7_cube_92 : decode cX7_cube 92 = .ok (.ireturn, 1) := by decide +kernel
theorem dX7_cube_93 : decode cX7_cube 93 = .ok (.iinc 4 1, 3) := by decide +kernel
theorem dX7_cube_96 : decode cX7_cube 96 = .ok (.goto (-43), 3) := by decide +kernel
theorem dX7_cube_99 : decode cX7_cube 99 = .ok (.aload_n 0, 1) := by decide +kernel
theorem dX7_cube_100 : decode cX7_cube 100 = .ok (.iconst 3, 1) := by decide +kernel
theorem dX7_cube_101 : decode cX7_cube 101 = .ok (.putfield 101, 3) := by decide +kernel
theorem dX7_cube_104 : decode cX7_cube 104 = .ok (.aload_n 0, 1) := by decide +kernel
theorem dX7_cube_105 : decode cX7_cube 105 = .ok (.iload_n 3, 1) := by decide +kernel
theorem dX7_cube_106 : decode cX7_cube 106 = .ok (.putfield 105, 3) := by decide +kernel
theorem dX7_cube_109 : decode cX7_cube 109 = .ok (.aload_n 0, 1) := by decide +kernel
theorem dX7_cube_110 : decode cX7_cube 110 = .ok (.iload_n 2, 1) := by decide +kernel
theorem dX7_cube_111 : decode cX7_cube 111 = .ok (.putfield 108, 3) := by decide +kernel
theorem dX7_cube_114 : decode cX7_cube 114 = .ok (.aload_n 0, 1) := by decide +kernel
theorem dX7_cube_115 : decode cX7_cube 115 = .ok (.iload_n 1, 1) := by decide +kernel
theorem dX7_cube_116 : decode cX7_cube 116 = .ok (.putfield 111, 3) := by decide +kernel
theorem dX7_cube_119 : decode cX7_cube 119 = .ok (.aload_n 0, 1) := by decide +kernel
theorem dX7_cube_120 : decode cX7_cube 120 = .ok (.iload_n 1, 1) := by decide +kernel
theorem dX7_cube_121 : decode cX7_cube 121 = .ok (.iload_n 1, 1) := by decide +kernel
theorem dX7_cube_122 : decode cX7_cube 122 = .ok (.imul, 1) := by decide +kernel
theorem dX7_cube_123 : decode cX7_cube 123 = .ok (.iload_n 2, 1) := by decide +kernel
theorem dX7_cube_124 : decode cX7_cube 124 = .ok (.imul, 1) := by decide +kernel
theorem dX7_cube_125 : decode cX7_cube 125 = .ok (.iload_n 2, 1) := by decide +kernel
theorem dX7_cube_126 : decode cX7_cube 126 = .ok (.imul, 1) := by decide +kernel
theorem dX7_cube_127 : decode cX7_cube 127 = .ok (.i2l, 1) := by decide +kernel
theorem dX7_cube_128 : decode cX7_cube 128 = .ok (.ldc2_w 96, 3) := by decide +kernel
theorem dX7_cube_131 : decode cX7_cube 131 = .ok (.iload_n 2, 1) := by decide +kernel
theorem dX7_cube_132 : decode cX7_cube 132 = .ok (.i2l, 1) := by decide +kernel
theorem dX7_cube_133 : decode cX7_cube 133 = .ok (.lmul, 1) := by decide +kernel
theorem dX7_cube_134 : decode cX7_cube 134 = .ok (.iload_n 2, 1) := by decide +kernel
theorem dX7_cube_135 : decode cX7_cube 135 = .ok (.i2l, 1) := by decide +kernel
theorem dX7_cube_136 : decode cX7_cube 136 = .ok (.lmul, 1) := by decide +kernel
theorem dX7_cube_137 : decode cX7_cube 137 = .ok (.iload_n 2, 1) := by decide +kernel
theorem dX7_cube_138 : decode cX7_cube 138 = .ok (.i2l, 1) := by decide +kernel
theorem dX7_cube_139 : decode cX7_cube 139 = .ok (.lmul, 1) := by decide +kernel
theorem dX7_cube_140 : decode cX7_cube 140 = .ok (.lsub, 1) := by decide +kernel
theorem dX7_cube_141 : decode cX7_cube 141 = .ok (.ldc2_w 96, 3) := by decide +kernel
theorem dX7_cube_144 : decode cX7_cube 144 = .ok (.iload_n 1, 1) := by decide +kernel
theorem dX7_cube_145 : decode cX7_cube 145 = .ok (.i2l, 1) := by decide +kernel
theorem dX7_cube_146 : decode cX7_cube 146 = .ok (.lmul, 1) := by decide +kernel
theorem dX7_cube_147 : decode cX7_cube 147 = .ok (.iload_n 1, 1) := by decide +kernel
theorem dX7_cube_148 : decode cX7_cube 148 = .ok (.i2l, 1) := by decide +kernel
theorem dX7_cube_149 : decode cX7_cube 149 = .ok (.lmul, 1) := by decide +kernel
theorem dX7_cube_150 : decode cX7_cube 150 = .ok (.iload_n 1, 1) := by decide +kernel
theorem dX7_cube_151 : decode cX7_cube 151 = .ok (.i2l, 1) := by decide +kernel
theorem dX7_cube_152 : decode cX7_cube 152 = .ok (.lmul, 1) := by decide +kernel
theorem dX7_cube_153 : decode cX7_cube 153 = .ok (.iload_n 3, 1) := by decide +kernel
theorem dX7_cube_154 : decode cX7_cube 154 = .ok (.i2l, 1) := by decide +kernel
theorem dX7_cube_155 : decode cX7_cube 155 = .ok (.lmul, 1) := by decide +kernel
theorem dX7_cube_156 : decode cX7_cube 156 = .ok (.lsub, 1) := by decide +kernel
theorem dX7_cube_157 : decode cX7_cube 157 = .ok (.ldc2_w 121, 3) := by decide +kernel
theorem dX7_cube_160 : decode cX7_cube 160 = .ok (.iload_n 3, 1) := by decide +kernel
theorem dX7_cube_161 : decode cX7_cube 161 = .ok (.i2l, 1) := by decide +kernel
theorem dX7_cube_162 : decode cX7_cube 162 = .ok (.lmul, 1) := by decide +kernel
theorem dX7_cube_163 : decode cX7_cube 163 = .ok (.iload_n 3, 1) := by decide +kernel
theorem dX7_cube_164 : decode cX7_cube 164 = .ok (.i2l, 1) := by decide +kernel
theorem dX7_cube_165 : decode cX7_cube 165 = .ok (.lmul, 1) := by decide +kernel
theorem dX7_cube_166 : decode cX7_cube 166 = .ok (.lsub, 1) := by decide +kernel
theorem dX7_cube_167 : decode cX7_cube 167 = .ok (.ldc2_w 123, 3) := by decide +kernel
theorem dX7_cube_170 : decode cX7_cube 170 = .ok (.iload_n 1, 1) := by decide +kernel
theorem dX7_cube_171 : decode cX7_cube 171 = .ok (.i2l, 1) := by decide +kernel
theorem dX7_cube_172 : decode cX7_cube 172 = .ok (.lmul, 1) := by decide +kernel
theorem dX7_cube_173 : decode cX7_cube 173 = .ok (.iload_n 2, 1) := by decide +kernel
theorem dX7_cube_174 : decode cX7_cube 174 = .ok (.i2l, 1) := by decide +kernel
theorem dX7_cube_175 : decode cX7_cube 175 = .ok (.lmul, 1) := by decide +kernel
theorem dX7_cube_176 : decode cX7_cube 176 = .ok (.iload_n 3, 1) := by decide +kernel
theorem dX7_cube_177 : decode cX7_cube 177 = .ok (.i2l, 1) := by decide +kernel
theorem dX7_cube_178 : decode cX7_cube 178 = .ok (.lmul, 1) := by decide +kernel
theorem dX7_cube_179 : decode cX7_cube 179 = .ok (.ladd, 1) := by decide +kernel
theorem dX7_cube_180 : decode cX7_cube 180 = .ok (.putfield 114, 3) := by decide +kernel
theorem dX7_cube_183 : decode cX7_cube 183 = .ok (.aload_n 0, 1) := by decide +kernel
theorem dX7_cube_184 : decode cX7_cube 184 = .ok (.invokevirtual 118, 3) := by decide +kernel
theorem dX7_cube_187 : decode cX7_cube 187 = .ok (.iconst 1, 1) := by decide +kernel
theorem dX7_cube_188 : decode cX7_cube 188 = .ok (.ireturn, 1) := by decide +kernel
theorem bX7_cube_0 {l : Launch} {D : va_G} {aI aL : ClassId} {ad : Nat → Nat} {P : sa_P} {I : sa_I} {J : sa_J} {x1 : Int32} {x2 : Int32} {x3 : Int32}   (kt : x1 < (-3 : Int32) → Sat (ER l D aI aL ad) M_X7_cube P 18 [(0, .ref (ad 0))] [] I J) (kf : ¬ x1 < (-3 : Int32) → Sat (ER l D aI aL ad) M_X7_cube P 6 [(0, .ref (ad 0)), (1, .int x1), (2, .int x2), (3, .int x3)] [] I J) : Sat (ER l D aI aL ad) M_X7_cube P 0 [(0, .ref (ad 0)), (1, .int x1), (2, .int x2), (3, .int x3)] [] I J := by
  refine s_iload_n 1 dX7_cube_0 rfl ?_
  refine s_bipush (v := -3) dX7_cube_1 rfl ?_
  refine s_icmp_lt (tgt := 18) dX7_cube_3 (by decide) (fun c => ?_) (fun c => ?_)
  · refine s_pick [0] [(0, .ref (ad 0))] rfl ?_; exact kt c
  · exact kf c
theorem bX7_cube_6 {l : Launch} {D : va_G} {aI aL : ClassId} {ad : Nat → Nat} {P : sa_P} {I : sa_I} {J : sa_J} {x1 : Int32} {x2 : Int32} {x3 : Int32}   (kt : x2 < (-9 : Int32) → Sat (ER l D aI aL ad) M_X7_cube P 18 [(0, .ref (ad 0))] [] I J) (kf : ¬ x2 < (-9 : Int32) → Sat (ER l D aI aL ad) M_X7_cube P 12 [(0, .ref (ad 0)), (1, .int x1), (2, .int x2), (3, .int x3)] [] I J) : Sat (ER l D aI aL ad) M_X7_cube P 6 [(0, .ref (ad 0)), (1, .int x1), (2, .int x2), (3, .int x3)] [] I J := by
  refine s_iload_n 2 dX7_cube_6 rfl ?_
  refine s_bipush (v := -9) dX7_cube_7 rfl ?_
  refine s_icmp_lt (tgt := 18) dX7_cube_9 (by decide) (fun c => ?_) (fun c => ?_)
  · refine s_pick [0] [(0, .ref (ad 0))] rfl ?_; exact kt c
  · exact kf c
theorem bX7_cube_12 {l : Launch} {D : va_G} {aI aL : ClassId} {ad : Nat → Nat} {P : sa_P} {I : sa_I} {J : sa_J} {x1 : Int32} {x2 : Int32} {x3 : Int32}   (kt : (-9 : Int32) ≤ x3 → Sat (ER l D aI aL ad) M_X7_cube P 25 [(0, .ref (ad 0)), (1, .int x1), (2, .int x2), (3, .int x3)] [] I J) (kf : ¬ (-9 : Int32) ≤ x3 → Sat (ER l D aI aL ad) M_X7_cube P 18 [(0, .ref (ad 0))] [] I J) : Sat (ER l D aI aL ad) M_X7_cube P 12 [(0, .ref (ad 0)), (1, .int x1), (2, .int x2), (3, .int x3)] [] I J := by
  refine s_iload_n 3 dX7_cube_12 rfl ?_
  refine s_bipush (v := -9) dX7_cube_13 rfl ?_
  refine s_icmp_ge (tgt := 25) dX7_cube_15 (by decide) (fun c => ?_) (fun c => ?_)
  · exact kt c
  · refine s_pick [0] [(0, .ref (ad 0))] rfl ?_; exact kf c
theorem bX7_cube_18 {l : Launch} {D : va_G} {aI aL : ClassId} {ad : Nat → Nat} {P : sa_P} {I : sa_I} {J : sa_J}    (k : Sat (ER l D aI aL ad) M_X7_cube P 21 [] [.int (-4 : Int32), .ref (ad 0)] I J) : Sat (ER l D aI aL ad) M_X7_cube P 18 [(0, .ref (ad 0))] [] I J := by
  refine s_aload_n 0 dX7_cube_18 rfl ?_
  refine s_bipush (v := -4) dX7_cube_19 rfl ?_
  refine s_pick [] [] rfl ?_; exact k
theorem bX7_cube_24 {l : Launch} {D : va_G} {aI aL : ClassId} {ad : Nat → Nat} {P : sa_P} {I : sa_I} {J : sa_J} {s0 : Int32}   (k : P (some (.int s0)) I J) : Sat (ER l D aI aL ad) M_X7_cube P 24 [] [.int s0] I J := by
  exact s_iret rfl dX7_cube_24 k
theorem bX7_cube_25 {l : Launch} {D : va_G} {aI aL : ClassId} {ad : Nat → Nat} {P : sa_P} {I : sa_I} {J : sa_J} {x1 : Int32} {x2 : Int32} {x3 : Int32}   (kt : (3 : Int32) < x1 → Sat (ER l D aI aL ad) M_X7_cube P 42 [(0, .ref (ad 0))] [] I J) (kf : ¬ (3 : Int32) < x1 → Sat (ER l D aI aL ad) M_X7_cube P 30 [(0, .ref (ad 0)), (1, .int x1), (2, .int x2), (3, .int x3)] [] I J) : Sat (ER l D aI aL ad) M_X7_cube P 25 [(0, .ref (ad 0)), (1, .int x1), (2, .int x2), (3, .int x3)] [] I J := by
  refine s_iload_n 1 dX7_cube_25 rfl ?_
  refine s_iconst (v := 3) dX7_cube_26 rfl ?_
  refine s_icmp_gt (tgt := 42) dX7_cube_27 (by decide) (fun c => ?_) (fun c => ?_)
  · refine s_pick [0] [(0, .ref (ad 0))] rfl ?_; exact kt c
  · exact kf c
theorem bX7_cube_30 {l : Launch} {D : va_G} {aI aL : ClassId} {ad : Nat → Nat} {P : sa_P} {I : sa_I} {J : sa_J} {x1 : Int32} {x2 : Int32} {x3 : Int32}   (kt : (9 : Int32) < x2 → Sat (ER l D aI aL ad) M_X7_cube P 42 [(0, .ref (ad 0))] [] I J) (kf : ¬ (9 : Int32) < x2 → Sat (ER l D aI aL ad) M_X7_cube P 36 [(0, .ref (ad 0)), (1, .int x1), (2, .int x2), (3, .int x3)] [] I J) : Sat (ER l D aI aL ad) M_X7_cube P 30 [(0, .ref (ad 0)), (1, .int x1), (2, .int x2), (3, .int x3)] [] I J := by
  refine s_iload_n 2 dX7_cube_30 rfl ?_
  refine s_bipush (v := 9) dX7_cube_31 rfl ?_
  refine s_icmp_gt (tgt := 42) dX7_cube_33 (by decide) (fun c => ?_) (fun c => ?_)
  · refine s_pick [0] [(0, .ref (ad 0))] rfl ?_; exact kt c
  · exact kf c
theorem bX7_cube_36 {l : Launch} {D : va_G} {aI aL : ClassId} {ad : Nat → Nat} {P : sa_P} {I : sa_I} {J : sa_J} {x1 : Int32} {x2 : Int32} {x3 : Int32}   (kt : x3 ≤ (9 : Int32) → Sat (ER l D aI aL ad) M_X7_cube P 49 [(0, .ref (ad 0)), (1, .int x1), (2, .int x2), (3, .int x3)] [] I J) (kf : ¬ x3 ≤ (9 : Int32) → Sat (ER l D aI aL ad) M_X7_cube P 42 [(0, .ref (ad 0))] [] I J) : Sat (ER l D aI aL ad) M_X7_cube P 36 [(0, .ref (ad 0)), (1, .int x1), (2, .int x2), (3, .int x3)] [] I J := by
  refine s_iload_n 3 dX7_cube_36 rfl ?_
  refine s_bipush (v := 9) dX7_cube_37 rfl ?_
  refine s_icmp_le (tgt := 49) dX7_cube_39 (by decide) (fun c => ?_) (fun c => ?_)
  · exact kt c
  · refine s_pick [0] [(0, .ref (ad 0))] rfl ?_; exact kf c
theorem bX7_cube_42 {l : Launch} {D : va_G} {aI aL : ClassId} {ad : Nat → Nat} {P : sa_P} {I : sa_I} {J : sa_J}    (k : Sat (ER l D aI aL ad) M_X7_cube P 45 [] [.int (-6 : Int32), .ref (ad 0)] I J) : Sat (ER l D aI aL ad) M_X7_cube P 42 [(0, .ref (ad 0))] [] I J := by
  refine s_aload_n 0 dX7_cube_42 rfl ?_
  refine s_bipush (v := -6) dX7_cube_43 rfl ?_
  refine s_pick [] [] rfl ?_; exact k
theorem bX7_cube_48 {l : Launch} {D : va_G} {aI aL : ClassId} {ad : Nat → Nat} {P : sa_P} {I : sa_I} {J : sa_J} {s0 : Int32}   (k : P (some (.int s0)) I J) : Sat (ER l D aI aL ad) M_X7_cube P 48 [] [.int s0] I J := by
  exact s_iret rfl dX7_cube_48 k
theorem bX7_cube_49 {l : Launch} {D : va_G} {aI aL : ClassId} {ad : Nat → Nat} {P : sa_P} {I : sa_I} {J : sa_J} {x1 : Int32} {x2 : Int32} {x3 : Int32} {v51 : Int32}  (f51 : (-20 : Int32) = v51) (k : Sat (ER l D aI aL ad) M_X7_cube P 53 [(0, .ref (ad 0)), (1, .int x1), (2, .int x2), (3, .int x3), (4, .int v51)] [] I J) : Sat (ER l D aI aL ad) M_X7_cube P 49 [(0, .ref (ad 0)), (1, .int x1), (2, .int x2), (3, .int x3)] [] I J := by
  refine s_bipush (v := -20) dX7_cube_49 rfl ?_
  refine s_eqi f51 ?_
  refine s_istore [(4, .int v51), (0, .ref (ad 0)), (1, .int x1), (2, .int x2), (3, .int x3)] dX7_cube_51 (Nat.lt_of_lt_of_le (Nat.lt_succ_self _) (Nat.le_of_ble_eq_true rfl)) rfl ?_
  refine s_pick [1, 2, 3, 4, 0] [(0, .ref (ad 0)), (1, .int x1), (2, .int x2), (3, .int x3), (4, .int v51)] rfl ?_; exact k
theorem bX7_cube_53 {l : Launch} {D : va_G} {aI aL : ClassId} {ad : Nat → Nat} {P : sa_P} {I : sa_I} {J : sa_J} {x1 : Int32} {x2 : Int32} {x3 : Int32} {x4 : Int32}   (kt : (20 : Int32) < x4 → Sat (ER l D aI aL ad) M_X7_cube P 99 [(0, .ref (ad 0)), (1, .int x1), (2, .int x2), (3, .int x3)] [] I J) (kf : ¬ (20 : Int32) < x4 → Sat (ER l D aI aL ad) M_X7_cube P 60 [(0, .ref (ad 0)), (1, .int x1), (2, .int x2), (3, .int x3), (4, .int x4)] [] I J) : Sat (ER l D aI aL ad) M_X7_cube P 53 [(0, .ref (ad 0)), (1, .int x1), (2, .int x2), (3, .int x3), (4, .int x4)] [] I J := by
  refine s_iload 4 dX7_cube_53 rfl ?_
  refine s_bipush (v := 20) dX7_cube_55 rfl ?_
  refine s_icmp_gt (tgt := 99) dX7_cube_57 (by decide) (fun c => ?_) (fun c => ?_)
  · refine s_pick [0, 1, 2, 3] [(0, .ref (ad 0)), (1, .int x1), (2, .int x2), (3, .int x3)] rfl ?_; exact kt c
  · exact kf c
theorem bX7_cube_60 {l : Launch} {D : va_G} {aI aL : ClassId} {ad : Nat → Nat} {P : sa_P} {I : sa_I} {J : sa_J} {x1 : Int32} {x2 : Int32} {x3 : Int32} {x4 : Int32}   (kt : ¬ ((((x4 * x4) * x4) + ((x1 * x4) * x4)) + (x2 * x4)) + x3 = 0 → Sat (ER l D aI aL ad) M_X7_cube P 93 [(0, .ref (ad 0)), (1, .int x1), (2, .int x2), (3, .int x3), (4, .int x4)] [] I J) (kf : ((((x4 * x4) * x4) + ((x1 * x4) * x4)) + (x2 * x4)) + x3 = 0 → Sat (ER l D aI aL ad) M_X7_cube P 86 [(0, .ref (ad 0))] [] I J) : Sat (ER l D aI aL ad) M_X7_cube P 60 [(0, .ref (ad 0)), (1, .int x1), (2, .int x2), (3, .int x3), (4, .int x4)] [] I J := by
  refine s_iload 4 dX7_cube_60 rfl ?_
  refine s_iload 4 dX7_cube_62 rfl ?_
  refine s_imul dX7_cube_64 ?_
  refine s_iload 4 dX7_cube_65 rfl ?_
  refine s_imul dX7_cube_67 ?_
  refine s_iload_n 1 dX7_cube_68 rfl ?_
  refine s_iload 4 dX7_cube_69 rfl ?_
  refine s_imul dX7_cube_71 ?_
  refine s_iload 4 dX7_cube_72 rfl ?_
  refine s_imul dX7_cube_74 ?_
  refine s_iadd dX7_cube_75 ?_
  refine s_iload_n 2 dX7_cube_76 rfl ?_
  refine s_iload 4 dX7_cube_77 rfl ?_
  refine s_imul dX7_cube_79 ?_
  refine s_iadd dX7_cube_80 ?_
  refine s_iload_n 3 dX7_cube_81 rfl ?_
  refine s_iadd dX7_cube_82 ?_
  refine s_if_ne (tgt := 93) dX7_cube_83 (by decide) (fun c => ?_) (fun c => ?_)
  · exact kt c
  · refine s_pick [0] [(0, .ref (ad 0))] rfl ?_; exact kf (by first | exact c | exact Classical.not_not.mp c)
theorem bX7_cube_86 {l : Launch} {D : va_G} {aI aL : ClassId} {ad : Nat → Nat} {P : sa_P} {I : sa_I} {J : sa_J}    (k : Sat (ER l D aI aL ad) M_X7_cube P 89 [] [.int (-3 : Int32), .ref (ad 0)] I J) : Sat (ER l D aI aL ad) M_X7_cube P 86 [(0, .ref (ad 0))] [] I J := by
  refine s_aload_n 0 dX7_cube_86 rfl ?_
  refine s_bipush (v := -3) dX7_cube_87 rfl ?_
  refine s_pick [] [] rfl ?_; exact k
theorem bX7_cube_92 {l : Launch} {D : va_G} {aI aL : ClassId} {ad : Nat → Nat} {P : sa_P} {I : sa_I} {J : sa_J} {s0 : Int32}   (k : P (some (.int s0)) I J) : Sat (ER l D aI aL ad) M_X7_cube P 92 [] [.int s0] I J := by
  exact s_iret rfl dX7_cube_92 k
theorem bX7_cube_93 {l : Launch} {D : va_G} {aI aL : ClassId} {ad : Nat → Nat} {P : sa_P} {I : sa_I} {J : sa_J} {x1 : Int32} {x2 : Int32} {x3 : Int32} {x4 : Int32} {v93 : Int32}  (f93 : x4 + 1 = v93) (k : Sat (ER l D aI aL ad) M_X7_cube P 53 [(0, .ref (ad 0)), (1, .int x1), (2, .int x2), (3, .int x3), (4, .int v93)] [] I J) : Sat (ER l D aI aL ad) M_X7_cube P 93 [(0, .ref (ad 0)), (1, .int x1), (2, .int x2), (3, .int x3), (4, .int x4)] [] I J := by
  refine s_iinc 4 v93 [(4, .int v93), (0, .ref (ad 0)), (1, .int x1), (2, .int x2), (3, .int x3)] dX7_cube_93 rfl f93 (Nat.lt_of_lt_of_le (Nat.lt_succ_self _) (Nat.le_of_ble_eq_true rfl)) rfl ?_
  refine s_goto (tgt := 53) dX7_cube_96 (by decide) ?_
  refine s_pick [1, 2, 3, 4, 0] [(0, .ref (ad 0)), (1, .int x1), (2, .int x2), (3, .int x3), (4, .int v93)] rfl ?_; exact k
theorem bX7_cube_99 {l : Launch} {D : va_G} {aI aL : ClassId} {ad : Nat → Nat} {P : sa_P} {I : sa_I} {J : sa_J} {x1 : Int32} {x2 : Int32} {x3 : Int32} {v101 : Int32} {v180 : Int64}  (f101 : (3 : Int32) = v101) (f180 : (((((((x1 * x1) * x2) * x2).toInt64) - ((((4 : Int64) * x2.toInt64) * x2.toInt64) * x2.toInt64)) - (((((4 : Int64) * x1.toInt64) * x1.toInt64) * x1.toInt64) * x3.toInt64)) - (((27 : Int64) * x3.toInt64) * x3.toInt64)) + ((((18 : Int64) * x1.toInt64) * x2.toInt64) * x3.toInt64) = v180) (k : Sat (ER l D aI aL ad) M_X7_cube P 184 [] [.ref (ad 0)] (sa_uI (sa_uI (sa_uI (sa_uI I 0 1 v101) 0 2 x3) 0 3 x2) 0 4 x1) (sa_uJ J 0 11 v180)) : Sat (ER l D aI aL ad) M_X7_cube P 99 [(0, .ref (ad 0)), (1, .int x1), (2, .int x2), (3, .int x3)] [] I J := by
  refine s_aload_n 0 dX7_cube_99 rfl ?_
  refine s_iconst (v := 3) dX7_cube_100 rfl ?_
  refine s_eqi f101 ?_
  refine p_X7_101 dX7_cube_101 rfl ?_
  refine s_aload_n 0 dX7_cube_104 rfl ?_
  refine s_iload_n 3 dX7_cube_105 rfl ?_
  refine p_X7_105 dX7_cube_106 rfl ?_
  refine s_aload_n 0 dX7_cube_109 rfl ?_
  refine s_iload_n 2 dX7_cube_110 rfl ?_
  refine p_X7_108 dX7_cube_111 rfl ?_
  refine s_aload_n 0 dX7_cube_114 rfl ?_
  refine s_iload_n 1 dX7_cube_115 rfl ?_
  refine p_X7_111 dX7_cube_116 rfl ?_
  refine s_aload_n 0 dX7_cube_119 rfl ?_
  refine s_iload_n 1 dX7_cube_120 rfl ?_
  refine s_iload_n 1 dX7_cube_121 rfl ?_
  refine s_imul dX7_cube_122 ?_
  refine s_iload_n 2 dX7_cube_123 rfl ?_
  refine s_imul dX7_cube_124 ?_
  refine s_iload_n 2 dX7_cube_125 rfl ?_
  refine s_imul dX7_cube_126 ?_
  refine s_i2l dX7_cube_127 ?_
  refine s_ldc2 wk_X7_96 dX7_cube_128 ?_
  refine s_iload_n 2 dX7_cube_131 rfl ?_
  refine s_i2l dX7_cube_132 ?_
  refine s_lmul dX7_cube_133 ?_
  refine s_iload_n 2 dX7_cube_134 rfl ?_
  refine s_i2l dX7_cube_135 ?_
  refine s_lmul dX7_cube_136 ?_
  refine s_iload_n 2 dX7_cube_137 rfl ?_
  refine s_i2l dX7_cube_138 ?_
  refine s_lmul dX7_cube_139 ?_
  refine s_lsub dX7_cube_140 ?_
  refine s_ldc2 wk_X7_96 dX7_cube_141 ?_
  refine s_iload_n 1 dX7_cube_144 rfl ?_
  refine s_i2l dX7_cube_145 ?_
  refine s_lmul dX7_cube_146 ?_
  refine s_iload_n 1 dX7_cube_147 rfl ?_
  refine s_i2l dX7_cube_148 ?_
  refine s_lmul dX7_cube_149 ?_
  refine s_iload_n 1 dX7_cube_150 rfl ?_
  refine s_i2l dX7_cube_151 ?_
  refine s_lmul dX7_cube_152 ?_
  refine s_iload_n 3 dX7_cube_153 rfl ?_
  refine s_i2l dX7_cube_154 ?_
  refine s_lmul dX7_cube_155 ?_
  refine s_lsub dX7_cube_156 ?_
  refine s_ldc2 wk_X7_121 dX7_cube_157 ?_
  refine s_iload_n 3 dX7_cube_160 rfl ?_
  refine s_i2l dX7_cube_161 ?_
  refine s_lmul dX7_cube_162 ?_
  refine s_iload_n 3 dX7_cube_163 rfl ?_
  refine s_i2l dX7_cube_164 ?_
  refine s_lmul dX7_cube_165 ?_
  refine s_lsub dX7_cube_166 ?_
  refine s_ldc2 wk_X7_123 dX7_cube_167 ?_
  refine s_iload_n 1 dX7_cube_170 rfl ?_
  refine s_i2l dX7_cube_171 ?_
  refine s_lmul dX7_cube_172 ?_
  refine s_iload_n 2 dX7_cube_173 rfl ?_
  refine s_i2l dX7_cube_174 ?_
  refine s_lmul dX7_cube_175 ?_
  refine s_iload_n 3 dX7_cube_176 rfl ?_
  refine s_i2l dX7_cube_177 ?_
  refine s_lmul dX7_cube_178 ?_
  refine s_ladd dX7_cube_179 ?_
  refine s_eql f180 ?_
  refine p_X7_114 dX7_cube_180 rfl ?_
  refine s_aload_n 0 dX7_cube_183 rfl ?_
  refine s_pick [] [] rfl ?_; exact k
theorem bX7_cube_187 {l : Launch} {D : va_G} {aI aL : ClassId} {ad : Nat → Nat} {P : sa_P} {I : sa_I} {J : sa_J}    (k : P (some (.int (1 : Int32))) I J) : Sat (ER l D aI aL ad) M_X7_cube P 187 [] [] I J := by
  refine s_iconst (v := 1) dX7_cube_187 rfl ?_
  exact s_iret rfl dX7_cube_188 k
/-! X7_begins -/
theorem dX7_begins_0 : decode cX7_begins 0 = .ok (.iconst 0, 1) := by decide +kernel
theorem dX7_begins_1 : decode cX7_begins 1 = .ok (.istore_n 1, 1) := by decide +kernel
theorem dX7_begins_2 : decode cX7_begins 2 = .ok (.iload_n 1, 1) := by decide +kernel
theorem dX7_begins_3 : decode cX7_begins 3 = .ok (.iconst 4, 1) := by decide +kernel
theorem dX7_begins_4 : decode cX7_begins 4 = .ok (.if_icmp .ge 46, 3) := by decide +kernel
theorem dX7_begins_7 : decode cX7_begins 7 = .ok (.aload_n 0, 1) := by decide +kernel
theorem dX7_begins_8 : decode cX7_begins 8 = .ok (.getfield 23, 3) := by decide +kernel
theorem dX7_begins_11 : decode cX7_begins 11 = .ok (.iload_n 1, 1) := by decide +kernel
theorem dX7_begins_12 : decode cX7_begins 12 = .ok (.iload_n 1, 1) := by decide +kernel
theorem dX7_begins_13 : decode cX7_begins 13 = .ok (.iconst 1, 1) := by decide +kernel
theorem dX7_begins_14 : decode cX7_begins 14 = .ok (.if_icmp .eq 8, 3) := by decide +kernel
theorem dX7_begins_17 : decode cX7_begins 17 = .ok (.iload_n 1, 1) := by decide +kernel
theorem dX7_begins_18 : decode cX7_begins 18 = .ok (.iconst 3, 1) := by decide +kernel
theorem dX7_begins_19 : decode cX7_begins 19 = .ok (.if_icmp .ne 7, 3) := by decide +kernel
theorem dX7_begins_22 : decode cX7_begins 22 = .ok (.lconst 1, 1) := by decide +kernel
theorem dX7_begins_23 : decode cX7_begins 23 = .ok (.goto 4, 3) := by decide +kernel
theorem dX7_begins_26 : decode cX7_begins 26 = .ok (.lconst 0, 1) := by decide +kernel
theorem dX7_begins_27 : decode cX7_begins 27 = .ok (.lastore, 1) := by decide +kernel
theorem dX7_begins_28 : decode cX7_begins 28 = .ok (.aload_n 0, 1) := by decide +kernel
theorem dX7_begins_29 : decode cX7_begins 29 = .ok (.getfield 26, 3) := by decide +kernel
theorem dX7_begins_32 : decode cX7_begins 32 = .ok (.iload_n 1, 1) := by decide +kernel
theorem dX7_begins_33 : decode cX7_begins 33 = .ok (.iload_n 1, 1) := by decide +kernel
theorem dX7_begins_34 : decode cX7_begins 34 = .ok (.iconst 1, 1) := by decide +kernel
theorem dX7_begins_35 : decode cX7_begins 35 = .ok (.if_icmp .le 7, 3) := by decide +kernel
theorem dX7_begins_38 : decode cX7_begins 38 = .ok (.lconst 1, 1) := by decide +kernel
theorem dX7_begins_39 : decode cX7_begins 39 = .ok (.goto 4, 3) := by decide +kernel
theorem dX7_begins_42 : decode cX7_begins 42 = .ok (.lconst 0, 1) := by decide +kernel
theorem dX7_begins_43 : decode cX7_begins 43 = .ok (.lastore, 1) := by decide +kernel
theorem dX7_begins_44 : decode cX7_begins 44 = .ok (.iinc 1 1, 3) := by decide +kernel
theorem dX7_begins_47 : decode cX7_begins 47 = .ok (.goto (-45), 3) := by decide +kernel
theorem dX7_begins_50 : decode cX7_begins 50 = .ok (.iconst 2, 1) := by decide +kernel
theorem dX7_begins_51 : decode cX7_begins 51 = .ok (.istore_n 1, 1) := by decide +kernel
theorem dX7_begins_52 : decode cX7_begins 52 = .ok (.iload_n 1, 1) := by decide +kernel
theorem dX7_begins_53 : decode cX7_begins 53 = .ok (.i2l, 1) := by decide +kernel
theorem dX7_begins_54 : decode cX7_begins 54 = .ok (.iload_n 1, 1) := by decide +kernel
theorem dX7_begins_55 : decode cX7_begins 55 = .ok (.i2l, 1) := by decide +kernel
theorem dX7_begins_56 : decode cX7_begins 56 = .ok (.lmul, 1) := by decide +kernel
theorem dX7_begins_57 : decode cX7_begins 57 = .ok (.aload_n 0, 1) := by decide +kernel
theorem dX7_begins_58 : decode cX7_begins 58 = .ok (.getfield 114, 3) := by decide +kernel
theorem dX7_begins_61 : decode cX7_begins 61 = .ok (.invokestatic 90, 3) := by decide +kernel
theorem dX7_begins_64 : decode cX7_begins 64 = .ok (.lcmp, 1) := by decide +kernel
theorem dX7_begins_65 : decode cX7_begins 65 = .ok (.ifCond .gt 50, 3) := by decide +kernel
theorem dX7_begins_68 : decode cX7_begins 68 = .ok (.aload_n 0, 1) := by decide +kernel
theorem dX7_begins_69 : decode cX7_begins 69 = .ok (.getfield 114, 3) := by decide +kernel
theorem dX7_begins_72 : decode cX7_begins 72 = .ok (.iload_n 1, 1) := by decide +kernel
theorem dX7_begins_73 : decode cX7_begins 73 = .ok (.i2l, 1) := by decide +kernel
theorem dX7_begins_74 : decode cX7_begins 74 = .ok (.iload_n 1, 1) := by decide +kernel
theorem dX7_begins_75 : decode cX7_begins 75 = .ok (.i2l, 1) := by decide +kernel
theorem dX7_begins_76 : decode cX7_begins 76 = .ok (.lmul, 1) := by decide +kernel
theorem dX7_begins_77 : decode cX7_begins 77 = .ok (.lrem, 1) := by decide +kernel
theorem dX7_begins_78 : decode cX7_begins 78 = .ok (.lconst 0, 1) := by decide +kernel
theorem dX7_begins_79 : decode cX7_begins 79 = .ok (.lcmp, 1) := by decide +kernel
theorem dX7_begins_80 : decode cX7_begins 80 = .ok (.ifCond .ne 14, 3) := by decide +kernel
theorem dX7_begins_83 : decode cX7_begins 83 = .ok (.iload_n 1, 1) := by decide +kernel
theorem dX7_begins_84 : decode cX7_begins 84 = .ok (.invokestatic 125, 3) := by decide +kernel
theorem dX7_begins_87 : decode cX7_begins 87 = .ok (.ifCond .eq 7, 3) := by decide +kernel
theorem dX7_begins_90 : decode cX7_begins 90 = .ok (.iconst 1, 1) := by decide +kernel
theorem dX7_begins_91 : decode cX7_begins 91 = .ok (.goto 4, 3) := by decide +kernel
theorem dX7_begins_94 : decode cX7_begins 94 = .ok (.iconst 0, 1) := by decide +kernel
theorem dX7_begins_95 : decode cX7_begins 95 = .ok (.istore_n 2, 1) := by decide +kernel
theorem dX7_begins_96 : decode cX7_begins 96 = .ok (.iload_n 2, 1) := by decide +kernel
theorem dX7_begins_97 : decode cX7_begins 97 = .ok (.ifCond .eq 12, 3) := by decide +kernel
theorem dX7_begins_100 : decode cX7_begins 100 = .ok (.aload_n 0, 1) := by decide +kernel
theorem dX7_begins_101 : decode cX7_begins 101 = .ok (.iload_n 1, 1) := by decide +kernel
theorem dX7_begins_102 : decode cX7_begins 102 = .ok (.invokevirtual 129, 3) := by decide +kernel
theorem dX7_begins_105 : decode cX7_begins 105 = .ok (.istore_n 2, 1) := by decide +kernel
theorem dX7_begins_106 : decode cX7_begins 106 = .ok (.goto (-10), 3) := by decide +kernel
theorem dX7_begins_109 : decode cX7_begins 109 = .ok (.iinc 1 1, 3) := by decide +kernel
theorem dX7_begins_112 : decode cX7_begins 112 = .ok (.goto (-60), 3) := by decide +kernel
theorem dX7_begins_115 : decode cX7_begins 115 = .ok (.aload_n 0, 1) := by decide +kernel
theorem dX7_begins_116 : decode cX7_begins 116 = .ok (.aload_n 0, 1) := by decide +kernel
theorem dX7_begins_117 : decode cX7_begins 117 = .ok (.getfield 23, 3) := by decide +kernel
theorem dX7_begins_120 : decode cX7_begins 120 = .ok (.iconst 0, 1) := by decide +kernel
theorem dX7_begins_121 : decode cX7_begins 121 = .ok (.laload, 1) := by decide +kernel
theorem dX7_begins_122 : decode cX7_begins 122 = .ok (.l2i, 1) := by decide +kernel
theorem dX7_begins_123 : decode cX7_begins 123 = .ok (.aload_n 0, 1) := by decide +kernel
theorem dX7_begins_124 : decode cX7_begins 124 = .ok (.getfield 23, 3) := by decide +kernel
theorem dX7_begins_127 : decode cX7_begins 127 = .ok (.iconst 3, 1) := by decide +kernel
theorem dX7_begins_128 : decode cX7_begins 128 = .ok (.laload, 1) := by decide +kernel
theorem dX7_begins_129 : decode cX7_begins 129 = .ok (.l2i, 1) := by decide +kernel
theorem dX7_begins_130 : decode cX7_begins 130 = .ok (.invokestatic 132, 3) := by decide +kernel
theorem dX7_begins_133 : decode cX7_begins 133 = .ok (.putfield 136, 3) := by decide +kernel
theorem dX7_begins_136 : decode cX7_begins 136 = .ok (.aload_n 0, 1) := by decide +kernel
theorem dX7_begins_137 : decode cX7_begins 137 = .ok (.aload_n 0, 1) := by decide +kernel
theorem dX7_begins_138 : decode cX7_begins 138 = .ok (.getfield 23, 3) := by decide +kernel
theorem dX7_begins_141 : decode cX7_begins 141 = .ok (.iconst 3, 1) := by decide +kernel
theorem dX7_begins_142 : decode cX7_begins 142 = .ok (.laload, 1) := by decide +kernel
theorem dX7_begins_143 : decode cX7_begins 143 = .ok (.l2i, 1) := by decide +kernel
theorem dX7_begins_144 : decode cX7_begins 144 = .ok (.putfield 139, 3) := by decide +kernel
theorem dX7_begins_147 : decode cX7_begins 147 = .ok (.aload_n 0, 1) := by decide +kernel
theorem dX7_begins_148 : decode cX7_begins 148 = .ok (.iconst 1, 1) := by decide +kernel
theorem dX7_begins_149 : decode cX7_begins 149 = .ok (.putfield 142, 3) := by decide +kernel
theorem dX7_begins_152 : decode cX7_begins 152 = .ok (.aload_n 0, 1) := by decide +kernel
theorem dX7_begins_153 : decode cX7_begins 153 = .ok (.iconst 0, 1) := by decide +kernel
theorem dX7_begins_154 : decode cX7_begins 154 = .ok (.putfield 145, 3) := by decide +kernel
theorem dX7_begins_157 : decode cX7_begins 157 = .ok (.aload_n 0, 1) := by decide +kernel
theorem dX7_begins_158 : decode cX7_begins 158 = .ok (.iconst 0, 1) := by decide +kernel
theorem dX7_begins_159 : decode cX7_begins 159 = .ok (.putfield 148, 3) := by decide +kernel
theorem dX7_begins_162 : decode cX7_begins 162 = .ok (.aload_n 0, 1) := by decide +kernel
theorem dX7_begins_163 : decode cX7_begins 163 = .ok (.getfield 101, 3) := by decide +kernel
theorem dX7_begins_166 : decode cX7_begins 166 = .ok (.iconst 3, 1) := by decide +kernel
theorem dX7_begins_167 : decode cX7_begins 167 = .ok (.if_icmp .ne 80, 3) := by decide +kernel
theorem dX7_begins_170 : decode cX7_begins 170 = .ok (.aload_n 0, 1) := by decide +kernel
theorem dX7_begins_171 : decode cX7_begins 171 = .ok (.aload_n 0, 1) := by decide +kernel
theorem dX7_begins_172 : decode cX7_begins 172 = .ok (.getfield 26, 3) := by decide +kernel
theorem dX7_begins_175 : decode cX7_begins 175 = .ok (.iconst 3, 1) := by decide +kernel
theorem dX7_begins_176 : decode cX7_begins 176 = .ok (.laload, 1) := by decide +kernel
theorem dX7_begins_177 : decode cX7_begins 177 = .ok (.l2i, 1) := by decide +kernel
theorem dX7_begins_178 : decode cX7_begins 178 = .ok (.putfield 142, 3) := by decide +kernel
theorem dX7_begins_181 : decode cX7_begins 181 = .ok (.aload_n 0, 1) := by decide +kernel
theorem dX7_begins_182 : decode cX7_begins 182 = .ok (.getfield 142, 3) := by decide +kernel
theorem dX7_begins_185 : decode cX7_begins 185 = .ok (.aload_n 0, 1) := by decide +kernel
theorem dX7_begins_186 : decode cX7_begins 186 = .ok (.getfield 139, 3) := by decide +kernel
theorem dX7_begins_189 : decode cX7_begins 189 = .ok (.idiv, 1) := by decide +kernel
theorem dX7_begins_190 : decode cX7_begins 190 = .ok (.i2l, 1) := by decide +kernel
theorem dX7_begins_191 : decode cX7_begins 191 = .ok (.lstore_n 1, 1) := by decide +kernel
theorem dX7_begins_192 : decode cX7_begins 192 = .ok (.aload_n 0, 1) := by decide +kernel
theorem dX7_begins_193 : decode cX7_begins 193 = .ok (.getfield 26, 3) := by decide +kernel
theorem dX7_begins_196 : decode cX7_begins 196 = .ok (.iconst 1, 1) := by decide +kernel
theorem dX7_begins_197 : decode cX7_begins 197 = .ok (.laload, 1) := by decide +kernel
theorem dX7_begins_198 : decode cX7_begins 198 = .ok (.lload_n 1, 1) := by decide +kernel
theorem dX7_begins_199 : decode cX7_begins 199 = .ok (.invokestatic 151, 3) := by decide +kernel
theorem dX7_begins_202 : decode cX7_begins 202 = .ok (.lstore_n 3, 1) := by decide +kernel
theorem dX7_begins_203 : decode cX7_begins 203 = .ok (.aload_n 0, 1) := by decide +kernel
theorem dX7_begins_204 : decode cX7_begins 204 = .ok (.aload_n 0, 1) := by decide +kernel
theorem dX7_begins_205 : decode cX7_begins 205 = .ok (.getfield 26, 3) := by decide +kernel
theorem dX7_begins_208 : decode cX7_begins 208 = .ok (.iconst 1, 1) := by decide +kernel
theorem dX7_begins_209 : decode cX7_begins 209 = .ok (.laload, 1) := by decide +kernel
theorem dX7_begins_210 : decode cX7_begins 210 = .ok (.lload_n 3, 1) := by decide +kernel
theorem dX7_begins_211 : decode cX7_begins 211 = .ok (.lload_n 1, 1) := by decide +kernel
theorem dX7_begins_212 : decode cX7_begins 212 = .ok (.lmul, 1) := by decide +kernel
theorem dX7_begins_213 : decode cX7_begins 213 = .ok (.lsub, 1) := by decide +kernel
theorem dX7_begins_214 : decode cX7_begins 214 = .ok (.l2i, 1) := by decide +kernel
theorem dX7_begins_215 : decode cX7_begins 215 = .ok (.putfield 148, 3) := by decide +kernel
theorem dX7_begins_218 : decode cX7_begins 218 = .ok (.aload_n 0, 1) := by decide +kernel
theorem dX7_begins_219 : decode cX7_begins 219 = .ok (.aload_n 0, 1) := by decide +kernel
theorem dX7_begins_220 : decode cX7_begins 220 = .ok (.getfield 26, 3) := by decide +kernel
theorem dX7_begins_223 : decode cX7_begins 223 = .ok (.iconst 0, 1) := by decide +kernel
theorem dX7_begins_224 : decode cX7_begins 224 = .ok (.laload, 1) := by decide +kernel
theorem dX7_begins_225 : decode cX7_begins 225 = .ok (.lload_n 3, 1) := by decide +kernel
theorem dX7_begins_226 : decode cX7_begins 226 = .ok (.aload_n 0, 1) := by decide +kernel
theorem dX7_begins_227 : decode cX7_begins 227 = .ok (.getfield 136, 3) := by decide +kernel
theorem dX7_begins_230 : decode cX7_begins 230 = .ok (.i2l, 1) := by decide +kernel
theorem dX7_begins_231 : decode cX7_begins 231 = .ok (.lmul, 1) := by decide +kernel
theorem dX7_begins_232 : decode cX7_begins 232 = .ok (.lload_n 1, 1) := by decide +kernel
theorem dX7_begins_233 : decode cX7_begins 233 = .ok (.lmul, 1) := by decide +kernel
theorem dX7_begins_234 : decode cX7_begins 234 = .ok (.lsub, 1) := by decide +kernel
theorem dX7_begins_235 : decode cX7_begins 235 = .ok (.aload_n 0, 1) := by decide +kernel
theorem dX7_begins_236 : decode cX7_begins 236 = .ok (.getfield 142, 3) := by decide +kernel
theorem dX7_begins_239 : decode cX7_begins 239 = .ok (.i2l, 1) := by decide +kernel
theorem dX7_begins_240 : decode cX7_begins 240 = .ok (.invokestatic 155, 3) := by decide +kernel
theorem dX7_begins_243 : decode cX7_begins 243 = .ok (.l2i, 1) := by decide +kernel
theorem dX7_begins_244 : decode cX7_begins 244 = .ok (.putfield 145, 3) := by decide +kernel
theorem dX7_begins_247 : decode cX7_begins 247 = .ok (.aload_n 0, 1) := by decide +kernel
theorem dX7_begins_248 : decode cX7_begins 248 = .ok (.aload_n 0, 1) := by decide +kernel
theorem dX7_begins_249 : decode cX7_begins 249 = .ok (.getfield 114, 3) := by decide +kernel
theorem dX7_begins_252 : decode cX7_begins 252 = .ok (.aload_n 0, 1) := by decide +kernel
theorem dX7_begins_253 : decode cX7_begins 253 = .ok (.getfield 139, 3) := by decide +kernel
theorem dX7_begins_256 : decode cX7_begins 256 = .ok (.i2l, 1) := by decide +kernel
theorem dX7_begins_257 : decode cX7_begins 257 = .ok (.aload_n 0, 1) := by decide +kernel
theorem dX7_begins_258 : decode cX7_begins 258 = .ok (.getfield 142, 3) := by decide +kernel
theorem dX7_begins_261 : decode cX7_begins 261 = .ok (.i2l, 1) := by decide +kernel
theorem dX7_begins_262 : decode cX7_begins 262 = .ok (.lmul, 1) := by decide +kernel
theorem dX7_begins_263 : decode cX7_begins 263 = .ok (.aload_n 0, 1) := by decide +kernel
theorem dX7_begins_264 : decode cX7_begins 264 = .ok (.getfield 139, 3) := by decide +kernel
theorem dX7_begins_267 : decode cX7_begins 267 = .ok (.i2l, 1) := by decide +kernel
theorem dX7_begins_268 : decode cX7_begins 268 = .ok (.lmul, 1) := by decide +kernel
theorem dX7_begins_269 : decode cX7_begins 269 = .ok (.aload_n 0, 1) := by decide +kernel
theorem dX7_begins_270 : decode cX7_begins 270 = .ok (.getfield 142, 3) := by decide +kernel
theorem dX7_begins_273 : decode cX7_begins 273 = .ok (.i2l, 1) := by decide +kernel
theorem dX7_begins_274 : decode cX7_begins 274 = .ok (.lmul, 1) := by decide +kernel
theorem dX7_begins_275 : decode cX7_begins 275 = .ok (.ldiv, 1) := by decide +kernel
theorem dX7_begins_276 : decode cX7_begins 276 = .ok (.putfield 157, 3) := by decide +kernel
theorem dX7_begins_279 : decode cX7_begins 279 = .ok (.aload_n 0, 1) := by decide +kernel
theorem dX7_begins_280 : decode cX7_begins 280 = .ok (.invokevirtual 160, 3) := by decide +kernel
theorem dX7_begins_283 : decode cX7_begins 283 = .ok (.aload_n 0, 1) := by decide +kernel
theorem dX7_begins_284 : decode cX7_begins 284 = .ok (.iconst 0, 1) := by decide +kernel
theorem dX7_begins_285 : decode cX7_begins 285 = .ok (.putfield 163, 3) := by decide +kernel
theorem dX7_begins_288 : decode cX7_begins 288 = .ok (.aload_n 0, 1) := by decide +kernel
theorem dX7_begins_289 : decode cX7_begins 289 = .ok (.iconst 0, 1) := by decide +kernel
theorem dX7_begins_290 : decode cX7_begins 290 = .ok (.putfield 166, 3) := by decide +kernel
theorem dX7_begins_293 : decode cX7_begins 293 = .ok (.aload_n 0, 1) := by decide +kernel
theorem dX7_begins_294 : decode cX7_begins 294 = .ok (.iconst (-1), 1) := by decide +kernel
theorem dX7_begins_295 : decode cX7_begins 295 = .ok (.putfield 169, 3) := by decide +kernel
theorem dX7_begins_298 : decode cX7_begins 298 = .ok (.aload_n 0, 1) := by decide +kernel
theorem dX7_begins_299 : decode cX7_begins 299 = .ok (.iconst 0, 1) := by decide +kernel
theorem dX7_begins_300 : decode cX7_begins 300 = .ok (.putfield 172, 3) := by decide +kernel
theorem dX7_begins_303 : decode cX7_begins 303 = .ok (.return_, 1) := by decide +kernel
theorem bX7_begins_0 {l : Launch} {D : va_G} {aI aL : ClassId} {ad : Nat → Nat} {P : sa_P} {I : sa_I} {J : sa_J} {v1 : Int32}  (f1 : (0 : Int32) = v1) (k : Sat (ER l D aI aL ad) M_X7_begins P 2 [(0, .ref (ad 0)), (1, .int v1)] [] I J) : Sat (ER l D aI aL ad) M_X7_begins P 0 [(0, .ref (ad 0))] [] I J := by
  refine s_iconst (v := 0) dX7_begins_0 rfl ?_
  refine s_eqi f1 ?_
  refine s_istore_n [(1, .int v1), (0, .ref (ad 0))] dX7_begins_1 (Nat.lt_of_lt_of_le (Nat.lt_succ_self _) (Nat.le_of_ble_eq_true rfl)) rfl ?_
  refine s_pick [1, 0] [(0, .ref (ad 0)), (1, .int v1)] rfl ?_; exact k
theorem bX7_begins_2 {l : Launch} {D : va_G} {aI aL : ClassId} {ad : Nat → Nat} {P : sa_P} {I : sa_I} {J : sa_J} {x1 : Int32}   (kt : (4 : Int32) ≤ x1 → Sat (ER l D aI aL ad) M_X7_begins P 50 [(0, .ref (ad 0))] [] I J) (kf : ¬ (4 : Int32) ≤ x1 → Sat (ER l D aI aL ad) M_X7_begins P 7 [(0, .ref (ad 0)), (1, .int x1)] [] I J) : Sat (ER l D aI aL ad) M_X7_begins P 2 [(0, .ref (ad 0)), (1, .int x1)] [] I J := by
  refine s_iload_n 1 dX7_begins_2 rfl ?_
  refine s_iconst (v := 4) dX7_begins_3 rfl ?_
  refine s_icmp_ge (tgt := 50) dX7_begins_4 (by decide) (fun c => ?_) (fun c => ?_)
  · refine s_pick [0] [(0, .ref (ad 0))] rfl ?_; exact kt c
  · exact kf c
theorem bX7_begins_7 {l : Launch} {D : va_G} {aI aL : ClassId} {ad : Nat → Nat} {P : sa_P} {I : sa_I} {J : sa_J} {x1 : Int32}   (kt : x1 = (1 : Int32) → Sat (ER l D aI aL ad) M_X7_begins P 22 [(0, .ref (ad 0)), (1, .int x1)] [.int x1, .ref (ad 5)] I J) (kf : ¬ x1 = (1 : Int32) → Sat (ER l D aI aL ad) M_X7_begins P 17 [(0, .ref (ad 0)), (1, .int x1)] [.int x1, .ref (ad 5)] I J) : Sat (ER l D aI aL ad) M_X7_begins P 7 [(0, .ref (ad 0)), (1, .int x1)] [] I J := by
  refine s_aload_n 0 dX7_begins_7 rfl ?_
  refine g_X7_23 dX7_begins_8 rfl ?_
  refine s_iload_n 1 dX7_begins_11 rfl ?_
  refine s_iload_n 1 dX7_begins_12 rfl ?_
  refine s_iconst (v := 1) dX7_begins_13 rfl ?_
  refine s_icmp_eq (tgt := 22) dX7_begins_14 (by decide) (fun c => ?_) (fun c => ?_)
  · exact kt c
  · exact kf c
theorem bX7_begins_17 {l : Launch} {D : va_G} {aI aL : ClassId} {ad : Nat → Nat} {P : sa_P} {I : sa_I} {J : sa_J} {x1 : Int32} {s1 : Int32}   (kt : ¬ x1 = (3 : Int32) → Sat (ER l D aI aL ad) M_X7_begins P 26 [(0, .ref (ad 0)), (1, .int x1)] [.int s1, .ref (ad 5)] I J) (kf : x1 = (3 : Int32) → Sat (ER l D aI aL ad) M_X7_begins P 22 [(0, .ref (ad 0)), (1, .int x1)] [.int s1, .ref (ad 5)] I J) : Sat (ER l D aI aL ad) M_X7_begins P 17 [(0, .ref (ad 0)), (1, .int x1)] [.int s1, .ref (ad 5)] I J := by
  refine s_iload_n 1 dX7_begins_17 rfl ?_
  refine s_iconst (v := 3) dX7_begins_18 rfl ?_
  refine s_icmp_ne (tgt := 26) dX7_begins_19 (by decide) (fun c => ?_) (fun c => ?_)
  · exact kt c
  · exact kf (by first | exact c | exact Classical.not_not.mp c)
theorem bX7_begins_22 {l : Launch} {D : va_G} {aI aL : ClassId} {ad : Nat → Nat} {P : sa_P} {I : sa_I} {J : sa_J} {x1 : Int32} {s1 : Int32}   (k : Sat (ER l D aI aL ad) M_X7_begins P 27 [(0, .ref (ad 0)), (1, .int x1)] [.long (1 : Int64), .int s1, .ref (ad 5)] I J) : Sat (ER l D aI aL ad) M_X7_begins P 22 [(0, .ref (ad 0)), (1, .int x1)] [.int s1, .ref (ad 5)] I J := by
  refine s_lconst (v := 1) dX7_begins_22 rfl ?_
  refine s_goto (tgt := 27) dX7_begins_23 (by decide) ?_
  exact k
theorem bX7_begins_26 {l : Launch} {D : va_G} {aI aL : ClassId} {ad : Nat → Nat} {P : sa_P} {I : sa_I} {J : sa_J} {x1 : Int32} {s1 : Int32}   (k : Sat (ER l D aI aL ad) M_X7_begins P 27 [(0, .ref (ad 0)), (1, .int x1)] [.long (0 : Int64), .int s1, .ref (ad 5)] I J) : Sat (ER l D aI aL ad) M_X7_begins P 26 [(0, .ref (ad 0)), (1, .int x1)] [.int s1, .ref (ad 5)] I J := by
  refine s_lconst (v := 0) dX7_begins_26 rfl ?_
  exact k
theorem bX7_begins_27 {l : Launch} {D : va_G} {aI aL : ClassId} {ad : Nat → Nat} {P : sa_P} {I : sa_I} {J : sa_J} {x1 : Int32} {s1 : Nat} {s2 : Int64} (h27 : s1 < 4)  (kt : x1 ≤ (1 : Int32) → Sat (ER l D aI aL ad) M_X7_begins P 42 [(0, .ref (ad 0)), (1, .int x1)] [.int x1, .ref (ad 6)] I (sa_uJ J 5 s1 s2)) (kf : ¬ x1 ≤ (1 : Int32) → Sat (ER l D aI aL ad) M_X7_begins P 38 [(0, .ref (ad 0)), (1, .int x1)] [.int x1, .ref (ad 6)] I (sa_uJ J 5 s1 s2)) : Sat (ER l D aI aL ad) M_X7_begins P 27 [(0, .ref (ad 0)), (1, .int x1)] [.long s2, .int (nI s1), .ref (ad 5)] I J := by
  refine s_lastoreN aJ_R5 h27 (by decide) dX7_begins_27 ?_
  refine s_aload_n 0 dX7_begins_28 rfl ?_
  refine g_X7_26 dX7_begins_29 rfl ?_
  refine s_iload_n 1 dX7_begins_32 rfl ?_
  refine s_iload_n 1 dX7_begins_33 rfl ?_
  refine s_iconst (v := 1) dX7_begins_34 rfl ?_
  refine s_icmp_le (tgt := 42) dX7_begins_35 (by decide) (fun c => ?_) (fun c => ?_)
  · exact kt c
  · exact kf c
theorem bX7_begins_38 {l : Launch} {D : va_G} {aI aL : ClassId} {ad : Nat → Nat} {P : sa_P} {I : sa_I} {J : sa_J} {x1 : Int32} {s1 : Int32}   (k : Sat (ER l D aI aL ad) M_X7_begins P 43 [(0, .ref (ad 0)), (1, .int x1)] [.long (1 : Int64), .int s1, .ref (ad 6)] I J) : Sat (ER l D aI aL ad) M_X7_begins P 38 [(0, .ref (ad 0)), (1, .int x1)] [.int s1, .ref (ad 6)] I J := by
  refine s_lconst (v := 1) dX7_begins_38 rfl ?_
  refine s_goto (tgt := 43) dX7_begins_39 (by decide) ?_
  exact k
theorem bX7_begins_42 {l : Launch} {D : va_G} {aI aL : ClassId} {ad : Nat → Nat} {P : sa_P} {I : sa_I} {J : sa_J} {x1 : Int32} {s1 : Int32}   (k : Sat (ER l D aI aL ad) M_X7_begins P 43 [(0, .ref (ad 0)), (1, .int x1)] [.long (0 : Int64), .int s1, .ref (ad 6)] I J) : Sat (ER l D aI aL ad) M_X7_begins P 42 [(0, .ref (ad 0)), (1, .int x1)] [.int s1, .ref (ad 6)] I J := by
  refine s_lconst (v := 0) dX7_begins_42 rfl ?_
  exact k
theorem bX7_begins_43 {l : Launch} {D : va_G} {aI aL : ClassId} {ad : Nat → Nat} {P : sa_P} {I : sa_I} {J : sa_J} {x1 : Int32} {s1 : Nat} {s2 : Int64} {v44 : Int32} (h43 : s1 < 4) (f44 : x1 + 1 = v44) (k : Sat (ER l D aI aL ad) M_X7_begins P 2 [(0, .ref (ad 0)), (1, .int v44)] [] I (sa_uJ J 6 s1 s2)) : Sat (ER l D aI aL ad) M_X7_begins P 43 [(0, .ref (ad 0)), (1, .int x1)] [.long s2, .int (nI s1), .ref (ad 6)] I J := by
  refine s_lastoreN aJ_R6 h43 (by decide) dX7_begins_43 ?_
  refine s_iinc 1 v44 [(1, .int v44), (0, .ref (ad 0))] dX7_begins_44 rfl f44 (Nat.lt_of_lt_of_le (Nat.lt_succ_self _) (Nat.le_of_ble_eq_true rfl)) rfl ?_
  refine s_goto (tgt := 2) dX7_begins_47 (by decide) ?_
  refine s_pick [1, 0] [(0, .ref (ad 0)), (1, .int v44)] rfl ?_; exact k
theorem bX7_begins_50 {l : Launch} {D : va_G} {aI aL : ClassId} {ad : Nat → Nat} {P : sa_P} {I : sa_I} {J : sa_J} {v51 : Int32}  (f51 : (2 : Int32) = v51) (k : Sat (ER l D aI aL ad) M_X7_begins P 52 [(0, .ref (ad 0)), (1, .int v51)] [] I J) : Sat (ER l D aI aL ad) M_X7_begins P 50 [(0, .ref (ad 0))] [] I J := by
  refine s_iconst (v := 2) dX7_begins_50 rfl ?_
  refine s_eqi f51 ?_
  refine s_istore_n [(1, .int v51), (0, .ref (ad 0))] dX7_begins_51 (Nat.lt_of_lt_of_le (Nat.lt_succ_self _) (Nat.le_of_ble_eq_true rfl)) rfl ?_
  refine s_pick [1, 0] [(0, .ref (ad 0)), (1, .int v51)] rfl ?_; exact k
theorem bX7_begins_52 {l : Launch} {D : va_G} {aI aL : ClassId} {ad : Nat → Nat} {P : sa_P} {I : sa_I} {J : sa_J} {x1 : Int32}   (k : Sat (ER l D aI aL ad) M_X7_begins P 61 [(0, .ref (ad 0)), (1, .int x1)] [.long (J 0 11), .long (x1.toInt64 * x1.toInt64)] I J) : Sat (ER l D aI aL ad) M_X7_begins P 52 [(0, .ref (ad 0)), (1, .int x1)] [] I J := by
  refine s_iload_n 1 dX7_begins_52 rfl ?_
  refine s_i2l dX7_begins_53 ?_
  refine s_iload_n 1 dX7_begins_54 rfl ?_
  refine s_i2l dX7_begins_55 ?_
  refine s_lmul dX7_begins_56 ?_
  refine s_aload_n 0 dX7_begins_57 rfl ?_
  refine g_X7_114 dX7_begins_58 rfl ?_
  exact k
theorem bX7_begins_64 {l : Launch} {D : va_G} {aI aL : ClassId} {ad : Nat → Nat} {P : sa_P} {I : sa_I} {J : sa_J} {x1 : Int32} {s0 : Int64} {s1 : Int64}   (kt : s1 < s0 → Sat (ER l D aI aL ad) M_X7_begins P 115 [(0, .ref (ad 0))] [] I J) (kf : ¬ s1 < s0 → Sat (ER l D aI aL ad) M_X7_begins P 68 [(0, .ref (ad 0)), (1, .int x1)] [] I J) : Sat (ER l D aI aL ad) M_X7_begins P 64 [(0, .ref (ad 0)), (1, .int x1)] [.long s1, .long s0] I J := by
  refine s_lif_gt (tgt := 115) dX7_begins_64 dX7_begins_65 (by decide) (fun c => ?_) (fun c => ?_)
  · refine s_pick [0] [(0, .ref (ad 0))] rfl ?_; exact kt c
  · exact kf c
theorem bX7_begins_68 {l : Launch} {D : va_G} {aI aL : ClassId} {ad : Nat → Nat} {P : sa_P} {I : sa_I} {J : sa_J} {x1 : Int32} (z77 : ¬ x1.toInt64 * x1.toInt64 = 0)  (kt : ¬ (J 0 11) - (J 0 11) / (x1.toInt64 * x1.toInt64) * (x1.toInt64 * x1.toInt64) = (0 : Int64) → Sat (ER l D aI aL ad) M_X7_begins P 94 [(0, .ref (ad 0)), (1, .int x1)] [] I J) (kf : (J 0 11) - (J 0 11) / (x1.toInt64 * x1.toInt64) * (x1.toInt64 * x1.toInt64) = (0 : Int64) → Sat (ER l D aI aL ad) M_X7_begins P 83 [(0, .ref (ad 0)), (1, .int x1)] [] I J) : Sat (ER l D aI aL ad) M_X7_begins P 68 [(0, .ref (ad 0)), (1, .int x1)] [] I J := by
  refine s_aload_n 0 dX7_begins_68 rfl ?_
  refine g_X7_114 dX7_begins_69 rfl ?_
  refine s_iload_n 1 dX7_begins_72 rfl ?_
  refine s_i2l dX7_begins_73 ?_
  refine s_iload_n 1 dX7_begins_74 rfl ?_
  refine s_i2l dX7_begins_75 ?_
  refine s_lmul dX7_begins_76 ?_
  refine s_lrem dX7_begins_77 z77 ?_
  refine s_lconst (v := 0) dX7_begins_78 rfl ?_
  refine s_lif_ne (tgt := 94) dX7_begins_79 dX7_begins_80 (by decide) (fun c => ?_) (fun c => ?_)
  · exact kt c
  · exact kf (by first | exact c | exact Classical.not_not.mp c)
theorem bX7_begins_83 {l : Launch} {D : va_G} {aI aL : ClassId} {ad : Nat → Nat} {P : sa_P} {I : sa_I} {J : sa_J} {x1 : Int32}   (k : Sat (ER l D aI aL ad) M_X7_begins P 84 [(0, .ref (ad 0)), (1, .int x1)] [.int x1] I J) : Sat (ER l D aI aL ad) M_X7_begins P 83 [(0, .ref (ad 0)), (1, .int x1)] [] I J := by
  refine s_iload_n 1 dX7_begins_83 rfl ?_
  exact k
theorem bX7_begins_87 {l : Launch} {D : va_G} {aI aL : ClassId} {ad : Nat → Nat} {P : sa_P} {I : sa_I} {J : sa_J} {x1 : Int32} {s0 : Int32}   (kt : s0 = 0 → Sat (ER l D aI aL ad) M_X7_begins P 94 [(0, .ref (ad 0)), (1, .int x1)] [] I J) (kf : ¬ s0 = 0 → Sat (ER l D aI aL ad) M_X7_begins P 90 [(0, .ref (ad 0)), (1, .int x1)] [] I J) : Sat (ER l D aI aL ad) M_X7_begins P 87 [(0, .ref (ad 0)), (1, .int x1)] [.int s0] I J := by
  refine s_if_eq (tgt := 94) dX7_begins_87 (by decide) (fun c => ?_) (fun c => ?_)
  · exact kt c
  · exact kf c
theorem bX7_begins_90 {l : Launch} {D : va_G} {aI aL : ClassId} {ad : Nat → Nat} {P : sa_P} {I : sa_I} {J : sa_J} {x1 : Int32}   (k : Sat (ER l D aI aL ad) M_X7_begins P 95 [(0, .ref (ad 0)), (1, .int x1)] [.int (1 : Int32)] I J) : Sat (ER l D aI aL ad) M_X7_begins P 90 [(0, .ref (ad 0)), (1, .int x1)] [] I J := by
  refine s_iconst (v := 1) dX7_begins_90 rfl ?_
  refine s_goto (tgt := 95) dX7_begins_91 (by decide) ?_
  exact k
theorem bX7_begins_94 {l : Launch} {D : va_G} {aI aL : ClassId} {ad : Nat → Nat} {P : sa_P} {I : sa_I} {J : sa_J} {x1 : Int32}   (k : Sat (ER l D aI aL ad) M_X7_begins P 95 [(0, .ref (ad 0)), (1, .int x1)] [.int (0 : Int32)] I J) : Sat (ER l D aI aL ad) M_X7_begins P 94 [(0, .ref (ad 0)), (1, .int x1)] [] I J := by
  refine s_iconst (v := 0) dX7_begins_94 rfl ?_
  exact k
theorem bX7_begins_95 {l : Launch} {D : va_G} {aI aL : ClassId} {ad : Nat → Nat} {P : sa_P} {I : sa_I} {J : sa_J} {x1 : Int32} {s0 : Int32}   (k : Sat (ER l D aI aL ad) M_X7_begins P 96 [(0, .ref (ad 0)), (1, .int x1), (2, .int s0)] [] I J) : Sat (ER l D aI aL ad) M_X7_begins P 95 [(0, .ref (ad 0)), (1, .int x1)] [.int s0] I J := by
  refine s_istore_n [(2, .int s0), (0, .ref (ad 0)), (1, .int x1)] dX7_begins_95 (Nat.lt_of_lt_of_le (Nat.lt_succ_self _) (Nat.le_of_ble_eq_true rfl)) rfl ?_
  refine s_pick [1, 2, 0] [(0, .ref (ad 0)), (1, .int x1), (2, .int s0)] rfl ?_; exact k
theorem bX7_begins_96 {l : Launch} {D : va_G} {aI aL : ClassId} {ad : Nat → Nat} {P : sa_P} {I : sa_I} {J : sa_J} {x1 : Int32} {x2 : Int32}   (kt : x2 = 0 → Sat (ER l D aI aL ad) M_X7_begins P 109 [(0, .ref (ad 0)), (1, .int x1)] [] I J) (kf : ¬ x2 = 0 → Sat (ER l D aI aL ad) M_X7_begins P 100 [(0, .ref (ad 0)), (1, .int x1)] [] I J) : Sat (ER l D aI aL ad) M_X7_begins P 96 [(0, .ref (ad 0)), (1, .int x1), (2, .int x2)] [] I J := by
  refine s_iload_n 2 dX7_begins_96 rfl ?_
  refine s_if_eq (tgt := 109) dX7_begins_97 (by decide) (fun c => ?_) (fun c => ?_)
  · refine s_pick [0, 1] [(0, .ref (ad 0)), (1, .int x1)] rfl ?_; exact kt c
  · refine s_pick [0, 1] [(0, .ref (ad 0)), (1, .int x1)] rfl ?_; exact kf c
theorem bX7_begins_100 {l : Launch} {D : va_G} {aI aL : ClassId} {ad : Nat → Nat} {P : sa_P} {I : sa_I} {J : sa_J} {x1 : Int32}   (k : Sat (ER l D aI aL ad) M_X7_begins P 102 [(0, .ref (ad 0)), (1, .int x1)] [.int x1, .ref (ad 0)] I J) : Sat (ER l D aI aL ad) M_X7_begins P 100 [(0, .ref (ad 0)), (1, .int x1)] [] I J := by
  refine s_aload_n 0 dX7_begins_100 rfl ?_
  refine s_iload_n 1 dX7_begins_101 rfl ?_
  exact k
theorem bX7_begins_105 {l : Launch} {D : va_G} {aI aL : ClassId} {ad : Nat → Nat} {P : sa_P} {I : sa_I} {J : sa_J} {x1 : Int32} {s0 : Int32}   (k : Sat (ER l D aI aL ad) M_X7_begins P 96 [(0, .ref (ad 0)), (1, .int x1), (2, .int s0)] [] I J) : Sat (ER l D aI aL ad) M_X7_begins P 105 [(0, .ref (ad 0)), (1, .int x1)] [.int s0] I J := by
  refine s_istore_n [(2, .int s0), (0, .ref (ad 0)), (1, .int x1)] dX7_begins_105 (Nat.lt_of_lt_of_le (Nat.lt_succ_self _) (Nat.le_of_ble_eq_true rfl)) rfl ?_
  refine s_goto (tgt := 96) dX7_begins_106 (by decide) ?_
  refine s_pick [1, 2, 0] [(0, .ref (ad 0)), (1, .int x1), (2, .int s0)] rfl ?_; exact k
theorem bX7_begins_109 {l : Launch} {D : va_G} {aI aL : ClassId} {ad : Nat → Nat} {P : sa_P} {I : sa_I} {J : sa_J} {x1 : Int32} {v109 : Int32}  (f109 : x1 + 1 = v109) (k : Sat (ER l D aI aL ad) M_X7_begins P 52 [(0, .ref (ad 0)), (1, .int v109)] [] I J) : Sat (ER l D aI aL ad) M_X7_begins P 109 [(0, .ref (ad 0)), (1, .int x1)] [] I J := by
  refine s_iinc 1 v109 [(1, .int v109), (0, .ref (ad 0))] dX7_begins_109 rfl f109 (Nat.lt_of_lt_of_le (Nat.lt_succ_self _) (Nat.le_of_ble_eq_true rfl)) rfl ?_
  refine s_goto (tgt := 52) dX7_begins_112 (by decide) ?_
  refine s_pick [1, 0] [(0, .ref (ad 0)), (1, .int v109)] rfl ?_; exact k
theorem bX7_begins_115 {l : Launch} {D : va_G} {aI aL : ClassId} {ad : Nat → Nat} {P : sa_P} {I : sa_I} {J : sa_J}    (k : Sat (ER l D aI aL ad) M_X7_begins P 130 [(0, .ref (ad 0))] [.int ((J 5 3).toInt32), .int ((J 5 0).toInt32), .ref (ad 0)] I J) : Sat (ER l D aI aL ad) M_X7_begins P 115 [(0, .ref (ad 0))] [] I J := by
  refine s_aload_n 0 dX7_begins_115 rfl ?_
  refine s_aload_n 0 dX7_begins_116 rfl ?_
  refine g_X7_23 dX7_begins_117 rfl ?_
  refine s_iconst (v := 0) dX7_begins_120 rfl ?_
  refine s_eqi (y := nI 0) rfl ?_
  refine s_laloadN aJ_R5 (by decide) (by decide) dX7_begins_121 ?_
  refine s_l2i dX7_begins_122 ?_
  refine s_aload_n 0 dX7_begins_123 rfl ?_
  refine g_X7_23 dX7_begins_124 rfl ?_
  refine s_iconst (v := 3) dX7_begins_127 rfl ?_
  refine s_eqi (y := nI 3) rfl ?_
  refine s_laloadN aJ_R5 (by decide) (by decide) dX7_begins_128 ?_
  refine s_l2i dX7_begins_129 ?_
  exact k
theorem bX7_begins_133 {l : Launch} {D : va_G} {aI aL : ClassId} {ad : Nat → Nat} {P : sa_P} {I : sa_I} {J : sa_J} {s1 : Int32} {v144 : Int32} {v149 : Int32} {v154 : Int32} {v159 : Int32}  (f144 : (J 5 3).toInt32 = v144) (f149 : (1 : Int32) = v149) (f154 : (0 : Int32) = v154) (f159 : (0 : Int32) = v159) (kt : ¬ (sa_uI (sa_uI (sa_uI (sa_uI (sa_uI I 0 5 s1) 0 6 v144) 0 9 v149) 0 7 v154) 0 8 v159) 0 1 = (3 : Int32) → Sat (ER l D aI aL ad) M_X7_begins P 247 [(0, .ref (ad 0))] [] (sa_uI (sa_uI (sa_uI (sa_uI (sa_uI I 0 5 s1) 0 6 v144) 0 9 v149) 0 7 v154) 0 8 v159) J) (kf : (sa_uI (sa_uI (sa_uI (sa_uI (sa_uI I 0 5 s1) 0 6 v144) 0 9 v149) 0 7 v154) 0 8 v159) 0 1 = (3 : Int32) → Sat (ER l D aI aL ad) M_X7_begins P 170 [(0, .ref (ad 0))] [] (sa_uI (sa_uI (sa_uI (sa_uI (sa_uI I 0 5 s1) 0 6 v144) 0 9 v149) 0 7 v154) 0 8 v159) J) : Sat (ER l D aI aL ad) M_X7_begins P 133 [(0, .ref (ad 0))] [.int s1, .ref (ad 0)] I J := by
  refine p_X7_136 dX7_begins_133 rfl ?_
  refine s_aload_n 0 dX7_begins_136 rfl ?_
  refine s_aload_n 0 dX7_begins_137 rfl ?_
  refine g_X7_23 dX7_begins_138 rfl ?_
  refine s_iconst (v := 3) dX7_begins_141 rfl ?_
  refine s_eqi (y := nI 3) rfl ?_
  refine s_laloadN aJ_R5 (by decide) (by decide) dX7_begins_142 ?_
  refine s_l2i dX7_begins_143 ?_
  refine s_eqi f144 ?_
  refine p_X7_139 dX7_begins_144 rfl ?_
  refine s_aload_n 0 dX7_begins_147 rfl ?_
  refine s_iconst (v := 1) dX7_begins_148 rfl ?_
  refine s_eqi f149 ?_
  refine p_X7_142 dX7_begins_149 rfl ?_
  refine s_aload_n 0 dX7_begins_152 rfl ?_
  refine s_iconst (v := 0) dX7_begins_153 rfl ?_
  refine s_eqi f154 ?_
  refine p_X7_145 dX7_begins_154 rfl ?_
  refine s_aload_n 0 dX7_begins_157 rfl ?_
  refine s_iconst (v := 0) dX7_begins_158 rfl ?_
  refine s_eqi f159 ?_
  refine p_X7_148 dX7_begins_159 rfl ?_
  refine s_aload_n 0 dX7_begins_162 rfl ?_
  refine g_X7_101 dX7_begins_163 rfl ?_
  refine s_iconst (v := 3) dX7_begins_166 rfl ?_
  refine s_icmp_ne (tgt := 247) dX7_begins_167 (by decide) (fun c => ?_) (fun c => ?_)
  · exact kt c
  · exact kf (by first | exact c | exact Classical.not_not.mp c)
theorem bX7_begins_170 {l : Launch} {D : va_G} {aI aL : ClassId} {ad : Nat → Nat} {P : sa_P} {I : sa_I} {J : sa_J} {v178 : Int32} {v191 : Int64} (z189 : ¬ (sa_uI I 0 9 v178) 0 6 = 0) (f178 : (J 6 3).toInt32 = v178) (f191 : (((sa_uI I 0 9 v178) 0 9) / ((sa_uI I 0 9 v178) 0 6)).toInt64 = v191) (k : Sat (ER l D aI aL ad) M_X7_begins P 199 [(0, .ref (ad 0)), (1, .long v191)] [.long v191, .long (J 6 1)] (sa_uI I 0 9 v178) J) : Sat (ER l D aI aL ad) M_X7_begins P 170 [(0, .ref (ad 0))] [] I J := by
  refine s_aload_n 0 dX7_begins_170 rfl ?_
  refine s_aload_n 0 dX7_begins_171 rfl ?_
  refine g_X7_26 dX7_begins_172 rfl ?_
  refine s_iconst (v := 3) dX7_begins_175 rfl ?_
  refine s_eqi (y := nI 3) rfl ?_
  refine s_laloadN aJ_R6 (by decide) (by decide) dX7_begins_176 ?_
  refine s_l2i dX7_begins_177 ?_
  refine s_eqi f178 ?_
  refine p_X7_142 dX7_begins_178 rfl ?_
  refine s_aload_n 0 dX7_begins_181 rfl ?_
  refine g_X7_142 dX7_begins_182 rfl ?_
  refine s_aload_n 0 dX7_begins_185 rfl ?_
  refine g_X7_139 dX7_begins_186 rfl ?_
  refine s_idiv dX7_begins_189 z189 ?_
  refine s_i2l dX7_begins_190 ?_
  refine s_eql f191 ?_
  refine s_lstore_n [(1, .long v191), (0, .ref (ad 0))] dX7_begins_191 (Nat.lt_of_lt_of_le (Nat.lt_succ_self _) (Nat.le_of_ble_eq_true rfl)) rfl ?_
  refine s_aload_n 1 dX7_begins_192 rfl ?_
  refine g_X7_26 dX7_begins_193 rfl ?_
  refine s_iconst (v := 1) dX7_begins_196 rfl ?_
  refine s_eqi (y := nI 1) rfl ?_
  refine s_laloadN aJ_R6 (by decide) (by decide) dX7_begins_197 ?_
  refine s_lload_n 0 dX7_begins_198 rfl ?_
  refine s_pick [1, 0] [(0, .ref (ad 0)), (1, .long v191)] rfl ?_; exact k
theorem bX7_begins_202 {l : Launch} {D : va_G} {aI aL : ClassId} {ad : Nat → Nat} {P : sa_P} {I : sa_I} {J : sa_J} {x1 : Int64} {s0 : Int64} {v215 : Int32}  (f215 : ((J 6 1) - (s0 * x1)).toInt32 = v215) (k : Sat (ER l D aI aL ad) M_X7_begins P 240 [(0, .ref (ad 0))] [.long (((sa_uI I 0 8 v215) 0 9).toInt64), .long ((J 6 0) - ((s0 * (((sa_uI I 0 8 v215) 0 5).toInt64)) * x1)), .ref (ad 0)] (sa_uI I 0 8 v215) J) : Sat (ER l D aI aL ad) M_X7_begins P 202 [(0, .ref (ad 0)), (1, .long x1)] [.long s0] I J := by
  refine s_lstore_n [(3, .long s0), (0, .ref (ad 0)), (1, .long x1)] dX7_begins_202 (Nat.lt_of_lt_of_le (Nat.lt_succ_self _) (Nat.le_of_ble_eq_true rfl)) rfl ?_
  refine s_aload_n 1 dX7_begins_203 rfl ?_
  refine s_aload_n 1 dX7_begins_204 rfl ?_
  refine g_X7_26 dX7_begins_205 rfl ?_
  refine s_iconst (v := 1) dX7_begins_208 rfl ?_
  refine s_eqi (y := nI 1) rfl ?_
  refine s_laloadN aJ_R6 (by decide) (by decide) dX7_begins_209 ?_
  refine s_lload_n 0 dX7_begins_210 rfl ?_
  refine s_lload_n 2 dX7_begins_211 rfl ?_
  refine s_lmul dX7_begins_212 ?_
  refine s_lsub dX7_begins_213 ?_
  refine s_l2i dX7_begins_214 ?_
  refine s_eqi f215 ?_
  refine p_X7_148 dX7_begins_215 rfl ?_
  refine s_aload_n 1 dX7_begins_218 rfl ?_
  refine s_aload_n 1 dX7_begins_219 rfl ?_
  refine g_X7_26 dX7_begins_220 rfl ?_
  refine s_iconst (v := 0) dX7_begins_223 rfl ?_
  refine s_eqi (y := nI 0) rfl ?_
  refine s_laloadN aJ_R6 (by decide) (by decide) dX7_begins_224 ?_
  refine s_lload_n 0 dX7_begins_225 rfl ?_
  refine s_aload_n 1 dX7_begins_226 rfl ?_
  refine g_X7_136 dX7_begins_227 rfl ?_
  refine s_i2l dX7_begins_230 ?_
  refine s_lmul dX7_begins_231 ?_
  refine s_lload_n 2 dX7_begins_232 rfl ?_
  refine s_lmul dX7_begins_233 ?_
  refine s_lsub dX7_begins_234 ?_
  refine s_aload_n 1 dX7_begins_235 rfl ?_
  refine g_X7_142 dX7_begins_236 rfl ?_
  refine s_i2l dX7_begins_239 ?_
  refine s_pick [1] [(0, .ref (ad 0))] rfl ?_; exact k
theorem bX7_begins_243 {l : Launch} {D : va_G} {aI aL : ClassId} {ad : Nat → Nat} {P : sa_P} {I : sa_I} {J : sa_J} {s1 : Int64} {v244 : Int32}  (f244 : s1.toInt32 = v244) (k : Sat (ER l D aI aL ad) M_X7_begins P 247 [(0, .ref (ad 0))] [] (sa_uI I 0 7 v244) J) : Sat (ER l D aI aL ad) M_X7_begins P 243 [(0, .ref (ad 0))] [.long s1, .ref (ad 0)] I J := by
  refine s_l2i dX7_begins_243 ?_
  refine s_eqi f244 ?_
  refine p_X7_145 dX7_begins_244 rfl ?_
  exact k
theorem bX7_begins_247 {l : Launch} {D : va_G} {aI aL : ClassId} {ad : Nat → Nat} {P : sa_P} {I : sa_I} {J : sa_J} {v276 : Int64} (z275 : ¬ ((((I 0 6).toInt64) * ((I 0 9).toInt64)) * ((I 0 6).toInt64)) * ((I 0 9).toInt64) = 0) (f276 : (J 0 11) / (((((I 0 6).toInt64) * ((I 0 9).toInt64)) * ((I 0 6).toInt64)) * ((I 0 9).toInt64)) = v276) (k : Sat (ER l D aI aL ad) M_X7_begins P 280 [(0, .ref (ad 0))] [.ref (ad 0)] I (sa_uJ J 0 10 v276)) : Sat (ER l D aI aL ad) M_X7_begins P 247 [(0, .ref (ad 0))] [] I J := by
  refine s_aload_n 0 dX7_begins_247 rfl ?_
  refine s_aload_n 0 dX7_begins_248 rfl ?_
  refine g_X7_114 dX7_begins_249 rfl ?_
  refine s_aload_n 0 dX7_begins_252 rfl ?_
  refine g_X7_139 dX7_begins_253 rfl ?_
  refine s_i2l dX7_begins_256 ?_
  refine s_aload_n 0 dX7_begins_257 rfl ?_
  refine g_X7_142 dX7_begins_258 rfl ?_
  refine s_i2l dX7_begins_261 ?_
  refine s_lmul dX7_begins_262 ?_
  refine s_aload_n 0 dX7_begins_263 rfl ?_
  refine g_X7_139 dX7_begins_264 rfl ?_
  refine s_i2l dX7_begins_267 ?_
  refine s_lmul dX7_begins_268 ?_
  refine s_aload_n 0 dX7_begins_269 rfl ?_
  refine g_X7_142 dX7_begins_270 rfl ?_
  refine s_i2l dX7_begins_273 ?_
  refine s_lmul dX7_begins_274 ?_
  refine s_ldiv dX7_begins_275 z275 ?_
  refine s_eql f276 ?_
  refine p_X7_157 dX7_begins_276 rfl ?_
  refine s_aload_n 0 dX7_begins_279 rfl ?_
  exact k
theorem bX7_begins_283 {l : Launch} {D : va_G} {aI aL : ClassId} {ad : Nat → Nat} {P : sa_P} {I : sa_I} {J : sa_J} {v285 : Int32} {v290 : Int32} {v295 : Int32} {v300 : Int32}  (f285 : (0 : Int32) = v285) (f290 : (0 : Int32) = v290) (f295 : (-1 : Int32) = v295) (f300 : (0 : Int32) = v300) (k : P (none) (sa_uI (sa_uI (sa_uI (sa_uI I 0 13 v285) 0 14 v290) 0 36 v295) 0 31 v300) J) : Sat (ER l D aI aL ad) M_X7_begins P 283 [(0, .ref (ad 0))] [] I J := by
  refine s_aload_n 0 dX7_begins_283 rfl ?_
  refine s_iconst (v := 0) dX7_begins_284 rfl ?_
  refine s_eqi f285 ?_
  refine p_X7_163 dX7_begins_285 rfl ?_
  refine s_aload_n 0 dX7_begins_288 rfl ?_
  refine s_iconst (v := 0) dX7_begins_289 rfl ?_
  refine s_eqi f290 ?_
  refine p_X7_166 dX7_begins_290 rfl ?_
  refine s_aload_n 0 dX7_begins_293 rfl ?_
  refine s_iconst (v := -1) dX7_begins_294 rfl ?_
  refine s_eqi f295 ?_
  refine p_X7_169 dX7_begins_295 rfl ?_
  refine s_aload_n 0 dX7_begins_298 rfl ?_
  refine s_iconst (v := 0) dX7_begins_299 rfl ?_
  refine s_eqi f300 ?_
  refine p_X7_172 dX7_begins_300 rfl ?_
  exact s_vret rfl dX7_begins_303 k
/-! X7_isPrime -/
theorem dX7_isPrime_0 : decode cX7_isPrime 0 = .ok (.iload_n 0, 1) := by decide +kernel
theorem dX7_isPrime_1 : decode cX7_isPrime 1 = .ok (.iconst 2, 1) := by decide +kernel
theorem dX7_isPrime_2 : decode cX7_isPrime 2 = .ok (.if_icmp .ge 5, 3) := by decide +kernel
theorem dX7_isPrime_5 : decode cX7_isPrime 5 = .ok (.iconst 0, 1) := by decide +kernel
theorem dX7_isPrime_6 : decode cX7_isPrime 6 = .ok (.ireturn, 1) := by decide +kernel
theorem dX7_isPrime_7 : decode cX7_isPrime 7 = .ok (.iconst 2, 1) := by decide +kernel
theorem dX7_isPrime_8 : decode cX7_isPrime 8 = .ok (.istore_n 1, 1) := by decide +kernel
theorem dX7_isPrime_9 : decode cX7_isPrime 9 = .ok (.iload_n 1, 1) := by decide +kernel
theorem dX7_isPrime_10 : decode cX7_isPrime 10 = .ok (.iload_n 1, 1) := by decide +kernel
theorem dX7_isPrime_11 : decode cX7_isPrime 11 = .ok (.imul, 1) := by decide +kernel
theorem dX7_isPrime_12 : decode cX7_isPrime 12 = .ok (.iload_n 0, 1) := by decide +kernel
theorem dX7_isPrime_13 : decode cX7_isPrime 13 = .ok (.if_icmp .gt 17, 3) := by decide +kernel
theorem dX7_isPrime_16 : decode cX7_isPrime 16 = .ok (.iload_n 0, 1) := by decide +kernel
theorem dX7_isPrime_17 : decode cX7_isPrime 17 = .ok (.iload_n 1, 1) := by decide +kernel
theorem dX7_isPrime_18 : decode cX7_isPrime 18 = .ok (.irem, 1) := by decide +kernel
theorem dX7_isPrime_19 : decode cX7_isPrime 19 = .ok (.ifCond .ne 5, 3) := by decide +kernel
theorem dX7_isPrime_22 : decode cX7_isPrime 22 = .ok (.iconst 0, 1) := by decide +kernel
theorem dX7_isPrime_23 : decode cX7_isPrime 23 = .ok (.ireturn, 1) := by decide +kernel
theorem dX7_isPrime_24 : decode cX7_isPrime 24 = .ok (.iinc 1 1, 3) := by decide +kernel
theorem dX7_isPrime_27 : decode cX7_isPrime 27 = .ok (.goto (-18), 3) := by decide +kernel
theorem dX7_isPrime_30 : decode cX7_isPrime 30 = .ok (.iconst 1, 1) := by decide +kernel
theorem dX7_isPrime_31 : decode cX7_isPrime 31 = .ok (.ireturn, 1) := by decide +kernel
theorem bX7_isPrime_0 {E : sa_E} {P : sa_P} {I : sa_I} {J : sa_J} {x0 : Int32}   (kt : (2 : Int32) ≤ x0 → Sat E M_X7_isPrime P 7 [(0, .int x0)] [] I J) (kf : ¬ (2 : Int32) ≤ x0 → Sat E M_X7_isPrime P 5 [] [] I J) : Sat E M_X7_isPrime P 0 [(0, .int x0)] [] I J := by
  refine s_iload_n 0 dX7_isPrime_0 rfl ?_
  refine s_iconst (v := 2) dX7_isPrime_1 rfl ?_
  refine s_icmp_ge (tgt := 7) dX7_isPrime_2 (by decide) (fun c => ?_) (fun c => ?_)
  · exact kt c
  · refine s_pick [] [] rfl ?_; exact kf c
theorem bX7_isPrime_5 {E : sa_E} {P : sa_P} {I : sa_I} {J : sa_J}    (k : P (some (.int (0 : Int32))) I J) : Sat E M_X7_isPrime P 5 [] [] I J := by
  refine s_iconst (v := 0) dX7_isPrime_5 rfl ?_
  exact s_zret rfl rfl dX7_isPrime_6 k
theorem bX7_isPrime_7 {E : sa_E} {P : sa_P} {I : sa_I} {J : sa_J} {x0 : Int32} {v8 : Int32}  (f8 : (2 : Int32) = v8) (k : Sat E M_X7_isPrime P 9 [(0, .int x0), (1, .int v8)] [] I J) : Sat E M_X7_isPrime P 7 [(0, .int x0)] [] I J := by
  refine s_iconst (v := 2) dX7_isPrime_7 rfl ?_
  refine s_eqi f8 ?_
  refine s_istore_n [(1, .int v8), (0, .int x0)] dX7_isPrime_8 (Nat.lt_of_lt_of_le (Nat.lt_succ_self _) (Nat.le_of_ble_eq_true rfl)) rfl ?_
  refine s_pick [1, 0] [(0, .int x0), (1, .int v8)] rfl ?_; exact k
theorem bX7_isPrime_9 {E : sa_E} {P : sa_P} {I : sa_I} {J : sa_J} {x0 : Int32} {x1 : Int32}   (kt : x0 < x1 * x1 → Sat E M_X7_isPrime P 30 [] [] I J) (kf : ¬ x0 < x1 * x1 → Sat E M_X7_isPrime P 16 [(0, .int x0), (1, .int x1)] [] I J) : Sat E M_X7_isPrime P 9 [(0, .int x0), (1, .int x1)] [] I J := by
  refine s_iload_n 1 dX7_isPrime_9 rfl ?_
  refine s_iload_n 1 dX7_isPrime_10 rfl ?_
  refine s_imul dX7_isPrime_11 ?_
  refine s_iload_n 0 dX7_isPrime_12 rfl ?_
  refine s_icmp_gt (tgt := 30) dX7_isPrime_13 (by decide) (fun c => ?_) (fun c => ?_)
  · refine s_pick [] [] rfl ?_; exact kt c
  · exact kf c
theorem bX7_isPrime_16 {E : sa_E} {P : sa_P} {I : sa_I} {J : sa_J} {x0 : Int32} {x1 : Int32} (z18 : ¬ x1 = 0)  (kt : ¬ x0 - x0 / x1 * x1 = 0 → Sat E M_X7_isPrime P 24 [(0, .int x0), (1, .int x1)] [] I J) (kf : x0 - x0 / x1 * x1 = 0 → Sat E M_X7_isPrime P 22 [] [] I J) : Sat E M_X7_isPrime P 16 [(0, .int x0), (1, .int x1)] [] I J := by
  refine s_iload_n 0 dX7_isPrime_16 rfl ?_
  refine s_iload_n 1 dX7_isPrime_17 rfl ?_
  refine s_irem dX7_isPrime_18 z18 ?_
  refine s_if_ne (tgt := 24) dX7_isPrime_19 (by decide) (fun c => ?_) (fun c => ?_)
  · exact kt c
  · refine s_pick [] [] rfl ?_; exact kf (by first | exact c | exact Classical.not_not.mp c)
theorem bX7_isPrime_22 {E : sa_E} {P : sa_P} {I : sa_I} {J : sa_J}    (k : P (some (.int (0 : Int32))) I J) : Sat E M_X7_isPrime P 22 [] [] I J := by
  refine s_iconst (v := 0) dX7_isPrime_22 rfl ?_
  exact s_zret rfl rfl dX7_isPrime_23 k
theorem bX7_isPrime_24 {E : sa_E} {P : sa_P} {I : sa_I} {J : sa_J} {x0 : Int32} {x1 : Int32} {v24 : Int32}  (f24 : x1 + 1 = v24) (k : Sat E M_X7_isPrime P 9 [(0, .int x0), (1, .int v24)] [] I J) : Sat E M_X7_isPrime P 24 [(0, .int x0), (1, .int x1)] [] I J := by
  refine s_iinc 1 v24 [(1, .int v24), (0, .int x0)] dX7_isPrime_24 rfl f24 (Nat.lt_of_lt_of_le (Nat.lt_succ_self _) (Nat.le_of_ble_eq_true rfl)) rfl ?_
  refine s_goto (tgt := 9) dX7_isPrime_27 (by decide) ?_
  refine s_pick [1, 0] [(0, .int x0), (1, .int v24)] rfl ?_; exact k
theorem bX7_isPrime_30 {E : sa_E} {P : sa_P} {I : sa_I} {J : sa_J}    (k : P (some (.int (1 : Int32))) I J) : Sat E M_X7_isPrime P 30 [] [] I J := by
  refine s_iconst (v := 1) dX7_isPrime_30 rfl ?_
  exact s_zret rfl rfl dX7_isPrime_31 k
/-! X7_grows -/
theorem dX7_grows_0 : decode cX7_grows 0 = .ok (.iconst 0, 1) := by decide +kernel
theorem dX7_grows_1 : decode cX7_grows 1 = .ok (.istore_n 2, 1) := by decide +kernel
theorem dX7_grows_2 : decode cX7_grows 2 = .ok (.iload_n 2, 1) := by decide +kernel
theorem dX7_grows_3 : decode cX7_grows 3 = .ok (.iload_n 1, 1) := by decide +kernel
theorem dX7_grows_4 : decode cX7_grows 4 = .ok (.if_icmp .ge 58, 3) := by decide +kernel
theorem dX7_grows_7 : decode cX7_grows 7 = .ok (.aload_n 0, 1) := by decide +kernel
theorem dX7_grows_8 : decode cX7_grows 8 = .ok (.aload_n 0, 1) := by decide +kernel
theorem dX7_grows_9 : decode cX7_grows 9 = .ok (.getfield 23, 3) := by decide +kernel
theorem dX7_grows_12 : decode cX7_grows 12 = .ok (.lconst 0, 1) := by decide +kernel
theorem dX7_grows_13 : decode cX7_grows 13 = .ok (.iload_n 2, 1) := by decide +kernel
theorem dX7_grows_14 : decode cX7_grows 14 = .ok (.i2l, 1) := by decide +kernel
theorem dX7_grows_15 : decode cX7_grows 15 = .ok (.iload_n 1, 1) := by decide +kernel
theorem dX7_grows_16 : decode cX7_grows 16 = .ok (.invokevirtual 175, 3) := by decide +kernel
theorem dX7_grows_19 : decode cX7_grows 19 = .ok (.aload_n 0, 1) := by decide +kernel
theorem dX7_grows_20 : decode cX7_grows 20 = .ok (.invokevirtual 179, 3) := by decide +kernel
theorem dX7_grows_23 : decode cX7_grows 23 = .ok (.ifCond .ne 6, 3) := by decide +kernel
theorem dX7_grows_26 : decode cX7_grows 26 = .ok (.goto 30, 3) := by decide +kernel
theorem dX7_grows_29 : decode cX7_grows 29 = .ok (.iconst 0, 1) := by decide +kernel
theorem dX7_grows_30 : decode cX7_grows 30 = .ok (.istore_n 3, 1) := by decide +kernel
theorem dX7_grows_31 : decode cX7_grows 31 = .ok (.iload_n 3, 1) := by decide +kernel
theorem dX7_grows_32 : decode cX7_grows 32 = .ok (.iconst 4, 1) := by decide +kernel
theorem dX7_grows_33 : decode cX7_grows 33 = .ok (.if_icmp .ge 21, 3) := by decide +kernel
theorem dX7_grows_36 : decode cX7_grows 36 = .ok (.aload_n 0, 1) := by decide +kernel
theorem dX7_grows_37 : decode cX7_grows 37 = .ok (.getfield 23, 3) := by decide +kernel
theorem dX7_grows_40 : decode cX7_grows 40 = .ok (.iload_n 3, 1) := by decide +kernel
theorem dX7_grows_41 : decode cX7_grows 41 = .ok (.aload_n 0, 1) := by decide +kernel
theorem dX7_grows_42 : decode cX7_grows 42 = .ok (.getfield 29, 3) := by decide +kernel
theorem dX7_grows_45 : decode cX7_grows 45 = .ok (.iload_n 3, 1) := by decide +kernel
theorem dX7_grows_46 : decode cX7_grows 46 = .ok (.laload, 1) := by decide +kernel
theorem dX7_grows_47 : decode cX7_grows 47 = .ok (.lastore, 1) := by decide +kernel
theorem dX7_grows_48 : decode cX7_grows 48 = .ok (.iinc 3 1, 3) := by decide +kernel
theorem dX7_grows_51 : decode cX7_grows 51 = .ok (.goto (-20), 3) := by decide +kernel
theorem dX7_grows_54 : decode cX7_grows 54 = .ok (.iconst 1, 1) := by decide +kernel
theorem dX7_grows_55 : decode cX7_grows 55 = .ok (.ireturn, 1) := by decide +kernel
theorem dX7_grows_56 : decode cX7_grows 56 = .ok (.iinc 2 1, 3) := by decide +kernel
theorem dX7_grows_59 : decode cX7_grows 59 = .ok (.goto (-57), 3) := by decide +kernel
theorem dX7_grows_62 : decode cX7_grows 62 = .ok (.iconst 0, 1) := by decide +kernel
theorem dX7_grows_63 : decode cX7_grows 63 = .ok (.istore_n 2, 1) := by decide +kernel
theorem dX7_grows_64 : decode cX7_grows 64 = .ok (.iload_n 2, 1) := by decide +kernel
theorem dX7_grows_65 : decode cX7_grows 65 = .ok (.iload_n 1, 1) := by decide +kernel
theorem dX7_grows_66 : decode cX7_grows 66 = .ok (.iload_n 1, 1) := by decide +kernel
theorem dX7_grows_67 : decode cX7_grows 67 = .ok (.imul, 1) := by decide +kernel
theorem dX7_grows_68 : decode cX7_grows 68 = .ok (.if_icmp .ge 71, 3) := by decide +kernel
theorem dX7_grows_71 : decode cX7_grows 71 = .ok (.aload_n 0, 1) := by decide +kernel
theorem dX7_grows_72 : decode cX7_grows 72 = .ok (.getfield 101, 3) := by decide +kernel
theorem dX7_grows_75 : decode cX7_grows 75 = .ok (.iconst 3, 1) := by decide +kernel
theorem dX7_grows_76 : decode cX7_grows 76 = .ok (.if_icmp .ne 63, 3) := by decide +kernel
theorem dX7_grows_79 : decode cX7_grows 79 = .ok (.aload_n 0, 1) := by decide +kernel
theorem dX7_grows_80 : decode cX7_grows 80 = .ok (.aload_n 0, 1) := by decide +kernel
theorem dX7_grows_81 : decode cX7_grows 81 = .ok (.getfield 26, 3) := by decide +kernel
theorem dX7_grows_84 : decode cX7_grows 84 = .ok (.iload_n 2, 1) := by decide +kernel
theorem dX7_grows_85 : decode cX7_grows 85 = .ok (.iload_n 1, 1) := by decide +kernel
theorem dX7_grows_86 : decode cX7_grows 86 = .ok (.idiv, 1) := by decide +kernel
theorem dX7_grows_87 : decode cX7_grows 87 = .ok (.i2l, 1) := by decide +kernel
theorem dX7_grows_88 : decode cX7_grows 88 = .ok (.iload_n 2, 1) := by decide +kernel
theorem dX7_grows_89 : decode cX7_grows 89 = .ok (.iload_n 1, 1) := by decide +kernel
theorem dX7_grows_90 : decode cX7_grows 90 = .ok (.irem, 1) := by decide +kernel
theorem dX7_grows_91 : decode cX7_grows 91 = .ok (.i2l, 1) := by decide +kernel
theorem dX7_grows_92 : decode cX7_grows 92 = .ok (.iload_n 1, 1) := by decide +kernel
theorem dX7_grows_93 : decode cX7_grows 93 = .ok (.invokevirtual 175, 3) := by decide +kernel
theorem dX7_grows_96 : decode cX7_grows 96 = .ok (.aload_n 0, 1) := by decide +kernel
theorem dX7_grows_97 : decode cX7_grows 97 = .ok (.invokevirtual 179, 3) := by decide +kernel
theorem dX7_grows_100 : decode cX7_grows 100 = .ok (.ifCond .ne 6, 3) := by decide +kernel
theorem dX7_grows_103 : decode cX7_grows 103 = .ok (.goto 30, 3) := by decide +kernel
theorem dX7_grows_106 : decode cX7_grows 106 = .ok (.iconst 0, 1) := by decide +kernel
theorem dX7_grows_107 : decode cX7_grows 107 = .ok (.istore_n 3, 1) := by decide +kernel
theorem dX7_grows_108 : decode cX7_grows 108 = .ok (.iload_n 3, 1) := by decide +kernel
theorem dX7_grows_109 : decode cX7_grows 109 = .ok (.iconst 4, 1) := by decide +kernel
theorem dX7_grows_110 : decode cX7_grows 110 = .ok (.if_icmp .ge 21, 3) := by decide +kernel
theorem dX7_grows_113 : decode cX7_grows 113 = .ok (.aload_n 0, 1) := by decide +kernel
theorem dX7_grows_114 : decode cX7_grows 114 = .ok (.getfield 26, 3) := by decide +kernel
theorem dX7_grows_117 : decode cX7_grows 117 = .ok (.iload_n 3, 1) := by decide +kernel
theorem dX7_grows_118 : decode cX7_grows 118 = .ok (.aload_n 0, 1) := by decide +kernel
theorem dX7_grows_119 : decode cX7_grows 119 = .ok (.getfield 29, 3) := by decide +kernel
theorem dX7_grows_122 : decode cX7_grows 122 = .ok (.iload_n 3, 1) := by decide +kernel
theorem dX7_grows_123 : decode cX7_grows 123 = .ok (.laload, 1) := by decide +kernel
theorem dX7_grows_124 : decode cX7_grows 124 = .ok (.lastore, 1) := by decide +kernel
theorem dX7_grows_125 : decode cX7_grows 125 = .ok (.iinc 3 1, 3) := by decide +kernel
theorem dX7_grows_128 : decode cX7_grows 128 = .ok (.goto (-20), 3) := by decide +kernel
theorem dX7_grows_131 : decode cX7_grows 131 = .ok (.iconst 1, 1) := by decide +kernel
theorem dX7_grows_132 : decode cX7_grows 132 = .ok (.ireturn, 1) := by decide +kernel
theorem dX7_grows_133 : decode cX7_grows 133 = .ok (.iinc 2 1, 3) := by decide +kernel
theorem dX7_grows_136 : decode cX7_grows 136 = .ok (.goto (-72), 3) := by decide +kernel
theorem dX7_grows_139 : decode cX7_grows 139 = .ok (.iconst 0, 1) := by decide +kernel
theorem dX7_grows_140 : decode cX7_grows 140 = .ok (.ireturn, 1) := by decide +kernel
theorem bX7_grows_0 {l : Launch} {D : va_G} {aI aL : ClassId} {ad : Nat → Nat} {P : sa_P} {I : sa_I} {J : sa_J} {x1 : Int32} {v1 : Int32}  (f1 : (0 : Int32) = v1) (k : Sat (ER l D aI aL ad) M_X7_grows P 2 [(0, .ref (ad 0)), (1, .int x1), (2, .int v1)] [] I J) : Sat (ER l D aI aL ad) M_X7_grows P 0 [(0, .ref (ad 0)), (1, .int x1)] [] I J := by
  refine s_iconst (v := 0) dX7_grows_0 rfl ?_
  refine s_eqi f1 ?_
  refine s_istore_n [(2, .int v1), (0, .ref (ad 0)), (1, .int x1)] dX7_grows_1 (Nat.lt_of_lt_of_le (Nat.lt_succ_self _) (Nat.le_of_ble_eq_true rfl)) rfl ?_
  refine s_pick [1, 2, 0] [(0, .ref (ad 0)), (1, .int x1), (2, .int v1)] rfl ?_; exact k
theorem bX7_grows_2 {l : Launch} {D : va_G} {aI aL : ClassId} {ad : Nat → Nat} {P : sa_P} {I : sa_I} {J : sa_J} {x1 : Int32} {x2 : Int32}   (kt : x1 ≤ x2 → Sat (ER l D aI aL ad) M_X7_grows P 62 [(0, .ref (ad 0)), (1, .int x1)] [] I J) (kf : ¬ x1 ≤ x2 → Sat (ER l D aI aL ad) M_X7_grows P 7 [(0, .ref (ad 0)), (1, .int x1), (2, .int x2)] [] I J) : Sat (ER l D aI aL ad) M_X7_grows P 2 [(0, .ref (ad 0)), (1, .int x1), (2, .int x2)] [] I J := by
  refine s_iload_n 2 dX7_grows_2 rfl ?_
  refine s_iload_n 1 dX7_grows_3 rfl ?_
  refine s_icmp_ge (tgt := 62) dX7_grows_4 (by decide) (fun c => ?_) (fun c => ?_)
  · refine s_pick [0, 1] [(0, .ref (ad 0)), (1, .int x1)] rfl ?_; exact kt c
  · exact kf c
theorem bX7_grows_7 {l : Launch} {D : va_G} {aI aL : ClassId} {ad : Nat → Nat} {P : sa_P} {I : sa_I} {J : sa_J} {x1 : Int32} {x2 : Int32}   (k : Sat (ER l D aI aL ad) M_X7_grows P 16 [(0, .ref (ad 0)), (1, .int x1), (2, .int x2)] [.int x1, .long x2.toInt64, .long (0 : Int64), .ref (ad 5), .ref (ad 0)] I J) : Sat (ER l D aI aL ad) M_X7_grows P 7 [(0, .ref (ad 0)), (1, .int x1), (2, .int x2)] [] I J := by
  refine s_aload_n 0 dX7_grows_7 rfl ?_
  refine s_aload_n 0 dX7_grows_8 rfl ?_
  refine g_X7_23 dX7_grows_9 rfl ?_
  refine s_lconst (v := 0) dX7_grows_12 rfl ?_
  refine s_iload_n 2 dX7_grows_13 rfl ?_
  refine s_i2l dX7_grows_14 ?_
  refine s_iload_n 1 dX7_grows_15 rfl ?_
  exact k
theorem bX7_grows_19 {l : Launch} {D : va_G} {aI aL : ClassId} {ad : Nat → Nat} {P : sa_P} {I : sa_I} {J : sa_J} {x1 : Int32} {x2 : Int32}   (k : Sat (ER l D aI aL ad) M_X7_grows P 20 [(0, .ref (ad 0)), (1, .int x1), (2, .int x2)] [.ref (ad 0)] I J) : Sat (ER l D aI aL ad) M_X7_grows P 19 [(0, .ref (ad 0)), (1, .int x1), (2, .int x2)] [] I J := by
  refine s_aload_n 0 dX7_grows_19 rfl ?_
  exact k
theorem bX7_grows_23 {l : Launch} {D : va_G} {aI aL : ClassId} {ad : Nat → Nat} {P : sa_P} {I : sa_I} {J : sa_J} {x1 : Int32} {x2 : Int32} {s0 : Int32}   (kt : ¬ s0 = 0 → Sat (ER l D aI aL ad) M_X7_grows P 29 [(0, .ref (ad 0))] [] I J) (kf : s0 = 0 → Sat (ER l D aI aL ad) M_X7_grows P 26 [(0, .ref (ad 0)), (1, .int x1), (2, .int x2)] [] I J) : Sat (ER l D aI aL ad) M_X7_grows P 23 [(0, .ref (ad 0)), (1, .int x1), (2, .int x2)] [.int s0] I J := by
  refine s_if_ne (tgt := 29) dX7_grows_23 (by decide) (fun c => ?_) (fun c => ?_)
  · refine s_pick [0] [(0, .ref (ad 0))] rfl ?_; exact kt c
  · exact kf (by first | exact c | exact Classical.not_not.mp c)
theorem bX7_grows_26 {l : Launch} {D : va_G} {aI aL : ClassId} {ad : Nat → Nat} {P : sa_P} {I : sa_I} {J : sa_J} {x1 : Int32} {x2 : Int32}   (k : Sat (ER l D aI aL ad) M_X7_grows P 56 [(0, .ref (ad 0)), (1, .int x1), (2, .int x2)] [] I J) : Sat (ER l D aI aL ad) M_X7_grows P 26 [(0, .ref (ad 0)), (1, .int x1), (2, .int x2)] [] I J := by
  refine s_goto (tgt := 56) dX7_grows_26 (by decide) ?_
  exact k
theorem bX7_grows_29 {l : Launch} {D : va_G} {aI aL : ClassId} {ad : Nat → Nat} {P : sa_P} {I : sa_I} {J : sa_J} {v30 : Int32}  (f30 : (0 : Int32) = v30) (k : Sat (ER l D aI aL ad) M_X7_grows P 31 [(0, .ref (ad 0)), (3, .int v30)] [] I J) : Sat (ER l D aI aL ad) M_X7_grows P 29 [(0, .ref (ad 0))] [] I J := by
  refine s_iconst (v := 0) dX7_grows_29 rfl ?_
  refine s_eqi f30 ?_
  refine s_istore_n [(3, .int v30), (0, .ref (ad 0))] dX7_grows_30 (Nat.lt_of_lt_of_le (Nat.lt_succ_self _) (Nat.le_of_ble_eq_true rfl)) rfl ?_
  refine s_pick [1, 0] [(0, .ref (ad 0)), (3, .int v30)] rfl ?_; exact k
theorem bX7_grows_31 {l : Launch} {D : va_G} {aI aL : ClassId} {ad : Nat → Nat} {P : sa_P} {I : sa_I} {J : sa_J} {x3 : Int32}   (kt : (4 : Int32) ≤ x3 → Sat (ER l D aI aL ad) M_X7_grows P 54 [] [] I J) (kf : ¬ (4 : Int32) ≤ x3 → Sat (ER l D aI aL ad) M_X7_grows P 36 [(0, .ref (ad 0)), (3, .int x3)] [] I J) : Sat (ER l D aI aL ad) M_X7_grows P 31 [(0, .ref (ad 0)), (3, .int x3)] [] I J := by
  refine s_iload_n 1 dX7_grows_31 rfl ?_
  refine s_iconst (v := 4) dX7_grows_32 rfl ?_
  refine s_icmp_ge (tgt := 54) dX7_grows_33 (by decide) (fun c => ?_) (fun c => ?_)
  · refine s_pick [] [] rfl ?_; exact kt c
  · exact kf c
theorem bX7_grows_36 {l : Launch} {D : va_G} {aI aL : ClassId} {ad : Nat → Nat} {P : sa_P} {I : sa_I} {J : sa_J} {x3 : Int32} {j40 : Nat} {j45 : Nat} {v47 : Int64} {v48 : Int32} (e40 : x3 = nI j40) (e45 : x3 = nI j45) (h46 : j45 < 4) (h47 : j40 < 4) (f47 : J 7 j45 = v47) (f48 : x3 + 1 = v48) (k : Sat (ER l D aI aL ad) M_X7_grows P 31 [(0, .ref (ad 0)), (3, .int v48)] [] I (sa_uJ J 5 j40 v47)) : Sat (ER l D aI aL ad) M_X7_grows P 36 [(0, .ref (ad 0)), (3, .int x3)] [] I J := by
  refine s_aload_n 0 dX7_grows_36 rfl ?_
  refine g_X7_23 dX7_grows_37 rfl ?_
  refine s_iload_n 1 dX7_grows_40 rfl ?_
  refine s_eqi e40 ?_
  refine s_aload_n 0 dX7_grows_41 rfl ?_
  refine g_X7_29 dX7_grows_42 rfl ?_
  refine s_iload_n 1 dX7_grows_45 rfl ?_
  refine s_eqi e45 ?_
  refine s_laloadN aJ_R7 h46 (by decide) dX7_grows_46 ?_
  refine s_eql f47 ?_
  refine s_lastoreN aJ_R5 h47 (by decide) dX7_grows_47 ?_
  refine s_iinc 1 v48 [(3, .int v48), (0, .ref (ad 0))] dX7_grows_48 rfl f48 (Nat.lt_of_lt_of_le (Nat.lt_succ_self _) (Nat.le_of_ble_eq_true rfl)) rfl ?_
  refine s_goto (tgt := 31) dX7_grows_51 (by decide) ?_
  refine s_pick [1, 0] [(0, .ref (ad 0)), (3, .int v48)] rfl ?_; exact k
theorem bX7_grows_54 {l : Launch} {D : va_G} {aI aL : ClassId} {ad : Nat → Nat} {P : sa_P} {I : sa_I} {J : sa_J}    (k : P (some (.int (1 : Int32))) I J) : Sat (ER l D aI aL ad) M_X7_grows P 54 [] [] I J := by
  refine s_iconst (v := 1) dX7_grows_54 rfl ?_
  exact s_zret rfl rfl dX7_grows_55 k
theorem bX7_grows_56 {l : Launch} {D : va_G} {aI aL : ClassId} {ad : Nat → Nat} {P : sa_P} {I : sa_I} {J : sa_J} {x1 : Int32} {x2 : Int32} {v56 : Int32}  (f56 : x2 + 1 = v56) (k : Sat (ER l D aI aL ad) M_X7_grows P 2 [(0, .ref (ad 0)), (1, .int x1), (2, .int v56)] [] I J) : Sat (ER l D aI aL ad) M_X7_grows P 56 [(0, .ref (ad 0)), (1, .int x1), (2, .int x2)] [] I J := by
  refine s_iinc 2 v56 [(2, .int v56), (0, .ref (ad 0)), (1, .int x1)] dX7_grows_56 rfl f56 (Nat.lt_of_lt_of_le (Nat.lt_succ_self _) (Nat.le_of_ble_eq_true rfl)) rfl ?_
  refine s_goto (tgt := 2) dX7_grows_59 (by decide) ?_
  refine s_pick [1, 2, 0] [(0, .ref (ad 0)), (1, .int x1), (2, .int v56)] rfl ?_; exact k
theorem bX7_grows_62 {l : Launch} {D : va_G} {aI aL : ClassId} {ad : Nat → Nat} {P : sa_P} {I : sa_I} {J : sa_J} {x1 : Int32} {v63 : Int32}  (f63 : (0 : Int32) = v63) (k : Sat (ER l D aI aL ad) M_X7_grows P 64 [(0, .ref (ad 0)), (1, .int x1), (2, .int v63)] [] I J) : Sat (ER l D aI aL ad) M_X7_grows P 62 [(0, .ref (ad 0)), (1, .int x1)] [] I J := by
  refine s_iconst (v := 0) dX7_grows_62 rfl ?_
  refine s_eqi f63 ?_
  refine s_istore_n [(2, .int v63), (0, .ref (ad 0)), (1, .int x1)] dX7_grows_63 (Nat.lt_of_lt_of_le (Nat.lt_succ_self _) (Nat.le_of_ble_eq_true rfl)) rfl ?_
  refine s_pick [1, 2, 0] [(0, .ref (ad 0)), (1, .int x1), (2, .int v63)] rfl ?_; exact k
theorem bX7_grows_64 {l : Launch} {D : va_G} {aI aL : ClassId} {ad : Nat → Nat} {P : sa_P} {I : sa_I} {J : sa_J} {x1 : Int32} {x2 : Int32}   (kt : x1 * x1 ≤ x2 → Sat (ER l D aI aL ad) M_X7_grows P 139 [] [] I J) (kf : ¬ x1 * x1 ≤ x2 → Sat (ER l D aI aL ad) M_X7_grows P 71 [(0, .ref (ad 0)), (1, .int x1), (2, .int x2)] [] I J) : Sat (ER l D aI aL ad) M_X7_grows P 64 [(0, .ref (ad 0)), (1, .int x1), (2, .int x2)] [] I J := by
  refine s_iload_n 2 dX7_grows_64 rfl ?_
  refine s_iload_n 1 dX7_grows_65 rfl ?_
  refine s_iload_n 1 dX7_grows_66 rfl ?_
  refine s_imul dX7_grows_67 ?_
  refine s_icmp_ge (tgt := 139) dX7_grows_68 (by decide) (fun c => ?_) (fun c => ?_)
  · refine s_pick [] [] rfl ?_; exact kt c
  · exact kf c
theorem bX7_grows_71 {l : Launch} {D : va_G} {aI aL : ClassId} {ad : Nat → Nat} {P : sa_P} {I : sa_I} {J : sa_J} {x1 : Int32} {x2 : Int32}   (kt : ¬ I 0 1 = (3 : Int32) → Sat (ER l D aI aL ad) M_X7_grows P 139 [] [] I J) (kf : I 0 1 = (3 : Int32) → Sat (ER l D aI aL ad) M_X7_grows P 79 [(0, .ref (ad 0)), (1, .int x1), (2, .int x2)] [] I J) : Sat (ER l D aI aL ad) M_X7_grows P 71 [(0, .ref (ad 0)), (1, .int x1), (2, .int x2)] [] I J := by
  refine s_aload_n 0 dX7_grows_71 rfl ?_
  refine g_X7_101 dX7_grows_72 rfl ?_
  refine s_iconst (v := 3) dX7_grows_75 rfl ?_
  refine s_icmp_ne (tgt := 139) dX7_grows_76 (by decide) (fun c => ?_) (fun c => ?_)
  · refine s_pick [] [] rfl ?_; exact kt c
  · exact kf (by first | exact c | exact Classical.not_not.mp c)
theorem bX7_grows_79 {l : Launch} {D : va_G} {aI aL : ClassId} {ad : Nat → Nat} {P : sa_P} {I : sa_I} {J : sa_J} {x1 : Int32} {x2 : Int32} (z86 : ¬ x1 = 0) (z90 : ¬ x1 = 0)  (k : Sat (ER l D aI aL ad) M_X7_grows P 93 [(0, .ref (ad 0)), (1, .int x1), (2, .int x2)] [.int x1, .long ((x2 - x2 / x1 * x1).toInt64), .long ((x2 / x1).toInt64), .ref (ad 6), .ref (ad 0)] I J) : Sat (ER l D aI aL ad) M_X7_grows P 79 [(0, .ref (ad 0)), (1, .int x1), (2, .int x2)] [] I J := by
  refine s_aload_n 0 dX7_grows_79 rfl ?_
  refine s_aload_n 0 dX7_grows_80 rfl ?_
  refine g_X7_26 dX7_grows_81 rfl ?_
  refine s_iload_n 2 dX7_grows_84 rfl ?_
  refine s_iload_n 1 dX7_grows_85 rfl ?_
  refine s_idiv dX7_grows_86 z86 ?_
  refine s_i2l dX7_grows_87 ?_
  refine s_iload_n 2 dX7_grows_88 rfl ?_
  refine s_iload_n 1 dX7_grows_89 rfl ?_
  refine s_irem dX7_grows_90 z90 ?_
  refine s_i2l dX7_grows_91 ?_
  refine s_iload_n 1 dX7_grows_92 rfl ?_
  exact k
theorem bX7_grows_96 {l : Launch} {D : va_G} {aI aL : ClassId} {ad : Nat → Nat} {P : sa_P} {I : sa_I} {J : sa_J} {x1 : Int32} {x2 : Int32}   (k : Sat (ER l D aI aL ad) M_X7_grows P 97 [(0, .ref (ad 0)), (1, .int x1), (2, .int x2)] [.ref (ad 0)] I J) : Sat (ER l D aI aL ad) M_X7_grows P 96 [(0, .ref (ad 0)), (1, .int x1), (2, .int x2)] [] I J := by
  refine s_aload_n 0 dX7_grows_96 rfl ?_
  exact k
theorem bX7_grows_100 {l : Launch} {D : va_G} {aI aL : ClassId} {ad : Nat → Nat} {P : sa_P} {I : sa_I} {J : sa_J} {x1 : Int32} {x2 : Int32} {s0 : Int32}   (kt : ¬ s0 = 0 → Sat (ER l D aI aL ad) M_X7_grows P 106 [(0, .ref (ad 0))] [] I J) (kf : s0 = 0 → Sat (ER l D aI aL ad) M_X7_grows P 103 [(0, .ref (ad 0)), (1, .int x1), (2, .int x2)] [] I J) : Sat (ER l D aI aL ad) M_X7_grows P 100 [(0, .ref (ad 0)), (1, .int x1), (2, .int x2)] [.int s0] I J := by
  refine s_if_ne (tgt := 106) dX7_grows_100 (by decide) (fun c => ?_) (fun c => ?_)
  · refine s_pick [0] [(0, .ref (ad 0))] rfl ?_; exact kt c
  · exact kf (by first | exact c | exact Classical.not_not.mp c)
theorem bX7_grows_103 {l : Launch} {D : va_G} {aI aL : ClassId} {ad : Nat → Nat} {P : sa_P} {I : sa_I} {J : sa_J} {x1 : Int32} {x2 : Int32}   (k : Sat (ER l D aI aL ad) M_X7_grows P 133 [(0, .ref (ad 0)), (1, .int x1), (2, .int x2)] [] I J) : Sat (ER l D aI aL ad) M_X7_grows P 103 [(0, .ref (ad 0)), (1, .int x1), (2, .int x2)] [] I J := by
  refine s_goto (tgt := 133) dX7_grows_103 (by decide) ?_
  exact k
theorem bX7_grows_106 {l : Launch} {D : va_G} {aI aL : ClassId} {ad : Nat → Nat} {P : sa_P} {I : sa_I} {J : sa_J} {v107 : Int32}  (f107 : (0 : Int32) = v107) (k : Sat (ER l D aI aL ad) M_X7_grows P 108 [(0, .ref (ad 0)), (3, .int v107)] [] I J) : Sat (ER l D aI aL ad) M_X7_grows P 106 [(0, .ref (ad 0))] [] I J := by
  refine s_iconst (v := 0) dX7_grows_106 rfl ?_
  refine s_eqi f107 ?_
  refine s_istore_n [(3, .int v107), (0, .ref (ad 0))] dX7_grows_107 (Nat.lt_of_lt_of_le (Nat.lt_succ_self _) (Nat.le_of_ble_eq_true rfl)) rfl ?_
  refine s_pick [1, 0] [(0, .ref (ad 0)), (3, .int v107)] rfl ?_; exact k
theorem bX7_grows_108 {l : Launch} {D : va_G} {aI aL : ClassId} {ad : Nat → Nat} {P : sa_P} {I : sa_I} {J : sa_J} {x3 : Int32}   (kt : (4 : Int32) ≤ x3 → Sat (ER l D aI aL ad) M_X7_grows P 131 [] [] I J) (kf : ¬ (4 : Int32) ≤ x3 → Sat (ER l D aI aL ad) M_X7_grows P 113 [(0, .ref (ad 0)), (3, .int x3)] [] I J) : Sat (ER l D aI aL ad) M_X7_grows P 108 [(0, .ref (ad 0)), (3, .int x3)] [] I J := by
  refine s_iload_n 1 dX7_grows_108 rfl ?_
  refine s_iconst (v := 4) dX7_grows_109 rfl ?_
  refine s_icmp_ge (tgt := 131) dX7_grows_110 (by decide) (fun c => ?_) (fun c => ?_)
  · refine s_pick [] [] rfl ?_; exact kt c
  · exact kf c
theorem bX7_grows_113 {l : Launch} {D : va_G} {aI aL : ClassId} {ad : Nat → Nat} {P : sa_P} {I : sa_I} {J : sa_J} {x3 : Int32} {j117 : Nat} {j122 : Nat} {v124 : Int64} {v125 : Int32} (e117 : x3 = nI j117) (e122 : x3 = nI j122) (h123 : j122 < 4) (h124 : j117 < 4) (f124 : J 7 j122 = v124) (f125 : x3 + 1 = v125) (k : Sat (ER l D aI aL ad) M_X7_grows P 108 [(0, .ref (ad 0)), (3, .int v125)] [] I (sa_uJ J 6 j117 v124)) : Sat (ER l D aI aL ad) M_X7_grows P 113 [(0, .ref (ad 0)), (3, .int x3)] [] I J := by
  refine s_aload_n 0 dX7_grows_113 rfl ?_
  refine g_X7_26 dX7_grows_114 rfl ?_
  refine s_iload_n 1 dX7_grows_117 rfl ?_
  refine s_eqi e117 ?_
  refine s_aload_n 0 dX7_grows_118 rfl ?_
  refine g_X7_29 dX7_grows_119 rfl ?_
  refine s_iload_n 1 dX7_grows_122 rfl ?_
  refine s_eqi e122 ?_
  refine s_laloadN aJ_R7 h123 (by decide) dX7_grows_123 ?_
  refine s_eql f124 ?_
  refine s_lastoreN aJ_R6 h124 (by decide) dX7_grows_124 ?_
  refine s_iinc 1 v125 [(3, .int v125), (0, .ref (ad 0))] dX7_grows_125 rfl f125 (Nat.lt_of_lt_of_le (Nat.lt_succ_self _) (Nat.le_of_ble_eq_true rfl)) rfl ?_
  refine s_goto (tgt := 108) dX7_grows_128 (by decide) ?_
  refine s_pick [1, 0] [(0, .ref (ad 0)), (3, .int v125)] rfl ?_; exact k
theorem bX7_grows_131 {l : Launch} {D : va_G} {aI aL : ClassId} {ad : Nat → Nat} {P : sa_P} {I : sa_I} {J : sa_J}    (k : P (some (.int (1 : Int32))) I J) : Sat (ER l D aI aL ad) M_X7_grows P 131 [] [] I J := by
  refine s_iconst (v := 1) dX7_grows_131 rfl ?_
  exact s_zret rfl rfl dX7_grows_132 k
theorem bX7_grows_133 {l : Launch} {D : va_G} {aI aL : ClassId} {ad : Nat → Nat} {P : sa_P} {I : sa_I} {J : sa_J} {x1 : Int32} {x2 : Int32} {v133 : Int32}  (f133 : x2 + 1 = v133) (k : Sat (ER l D aI aL ad) M_X7_grows P 64 [(0, .ref (ad 0)), (1, .int x1), (2, .int v133)] [] I J) : Sat (ER l D aI aL ad) M_X7_grows P 133 [(0, .ref (ad 0)), (1, .int x1), (2, .int x2)] [] I J := by
  refine s_iinc 2 v133 [(2, .int v133), (0, .ref (ad 0)), (1, .int x1)] dX7_grows_133 rfl f133 (Nat.lt_of_lt_of_le (Nat.lt_succ_self _) (Nat.le_of_ble_eq_true rfl)) rfl ?_
  refine s_goto (tgt := 64) dX7_grows_136 (by decide) ?_
  refine s_pick [1, 2, 0] [(0, .ref (ad 0)), (1, .int x1), (2, .int v133)] rfl ?_; exact k
theorem bX7_grows_139 {l : Launch} {D : va_G} {aI aL : ClassId} {ad : Nat → Nat} {P : sa_P} {I : sa_I} {J : sa_J}    (k : P (some (.int (0 : Int32))) I J) : Sat (ER l D aI aL ad) M_X7_grows P 139 [] [] I J := by
  refine s_iconst (v := 0) dX7_grows_139 rfl ?_
  exact s_zret rfl rfl dX7_grows_140 k
/-! X7_mix -/
theorem dX7_mix_0 : decode cX7_mix 0 = .ok (.aload_n 1, 1) := by decide +kernel
theorem dX7_mix_1 : decode cX7_mix 1 = .ok (.iconst 3, 1) := by decide +kernel
theorem dX7_mix_2 : decode cX7_mix 2 = .ok (.laload, 1) := by decide +kernel
theorem dX7_mix_3 : decode cX7_mix 3 = .ok (.aload_n 0, 1) := by decide +kernel
theorem dX7_mix_4 : decode cX7_mix 4 = .ok (.getfield 23, 3) := by decide +kernel
theorem dX7_mix_7 : decode cX7_mix 7 = .ok (.iconst 3, 1) := by decide +kernel
theorem dX7_mix_8 : decode cX7_mix 8 = .ok (.laload, 1) := by decide +kernel
theorem dX7_mix_9 : decode cX7_mix 9 = .ok (.lmul, 1) := by decide +kernel
theorem dX7_mix_10 : decode cX7_mix 10 = .ok (.lstore 7, 2) := by decide +kernel
theorem dX7_mix_12 : decode cX7_mix 12 = .ok (.iconst 0, 1) := by decide +kernel
theorem dX7_mix_13 : decode cX7_mix 13 = .ok (.istore 9, 2) := by decide +kernel
theorem dX7_mix_15 : decode cX7_mix 15 = .ok (.iload 9, 2) := by decide +kernel
theorem dX7_mix_17 : decode cX7_mix 17 = .ok (.iconst 3, 1) := by decide +kernel
theorem dX7_mix_18 : decode cX7_mix 18 = .ok (.if_icmp .ge 56, 3) := by decide +kernel
theorem dX7_mix_21 : decode cX7_mix 21 = .ok (.aload_n 0, 1) := by decide +kernel
theorem dX7_mix_22 : decode cX7_mix 22 = .ok (.getfield 29, 3) := by decide +kernel
theorem dX7_mix_25 : decode cX7_mix 25 = .ok (.iload 9, 2) := by decide +kernel
theorem dX7_mix_27 : decode cX7_mix 27 = .ok (.aload_n 1, 1) := by decide +kernel
theorem dX7_mix_28 : decode cX7_mix 28 = .ok (.iload 9, 2) := by decide +kernel
theorem dX7_mix_30 : decode cX7_mix 30 = .ok (.laload, 1) := by decide +kernel
theorem dX7_mix_31 : decode cX7_mix 31 = .ok (.aload_n 0, 1) := by decide +kernel
theorem dX7_mix_32 : decode cX7_mix 32 = .ok (.getfield 23, 3) := by decide +kernel
theorem dX7_mix_35 : decode cX7_mix 35 = .ok (.iconst 3, 1) := by decide +kernel
theorem dX7_mix_36 : decode cX7_mix 36 = .ok (.laload, 1) := by decide +kernel
theorem dX7_mix_37 : decode cX7_mix 37 = .ok (.lmul, 1) := by decide +kernel
theorem dX7_mix_38 : decode cX7_mix 38 = .ok (.lload_n 2, 1) := by decide +kernel
theorem dX7_mix_39 : decode cX7_mix 39 = .ok (.aload_n 0, 1) := by decide +kernel
theorem dX7_mix_40 : decode cX7_mix 40 = .ok (.getfield 23, 3) := by decide +kernel
theorem dX7_mix_43 : decode cX7_mix 43 = .ok (.iload 9, 2) := by decide +kernel
theorem dX7_mix_45 : decode cX7_mix 45 = .ok (.laload, 1) := by decide +kernel
theorem dX7_mix_46 : decode cX7_mix 46 = .ok (.lmul, 1) := by decide +kernel
theorem dX7_mix_47 : decode cX7_mix 47 = .ok (.aload_n 1, 1) := by decide +kernel
theorem dX7_mix_48 : decode cX7_mix 48 = .ok (.iconst 3, 1) := by decide +kernel
theorem dX7_mix_49 : decode cX7_mix 49 = .ok (.laload, 1) := by decide +kernel
theorem dX7_mix_50 : decode cX7_mix 50 = .ok (.lmul, 1) := by decide +kernel
theorem dX7_mix_51 : decode cX7_mix 51 = .ok (.ladd, 1) := by decide +kernel
theorem dX7_mix_52 : decode cX7_mix 52 = .ok (.iload 9, 2) := by decide +kernel
theorem dX7_mix_54 : decode cX7_mix 54 = .ok (.ifCond .ne 11, 3) := by decide +kernel
theorem dX7_mix_57 : decode cX7_mix 57 = .ok (.lload 4, 2) := by decide +kernel
theorem dX7_mix_59 : decode cX7_mix 59 = .ok (.lload 7, 2) := by decide +kernel
theorem dX7_mix_61 : decode cX7_mix 61 = .ok (.lmul, 1) := by decide +kernel
theorem dX7_mix_62 : decode cX7_mix 62 = .ok (.goto 4, 3) := by decide +kernel
theorem dX7_mix_65 : decode cX7_mix 65 = .ok (.lconst 0, 1) := by decide +kernel
theorem dX7_mix_66 : decode cX7_mix 66 = .ok (.ladd, 1) := by decide +kernel
theorem dX7_mix_67 : decode cX7_mix 67 = .ok (.lastore, 1) := by decide +kernel
theorem dX7_mix_68 : decode cX7_mix 68 = .ok (.iinc 9 1, 3) := by decide +kernel
theorem dX7_mix_71 : decode cX7_mix 71 = .ok (.goto (-56), 3) := by decide +kernel
theorem dX7_mix_74 : decode cX7_mix 74 = .ok (.aload_n 0, 1) := by decide +kernel
theorem dX7_mix_75 : decode cX7_mix 75 = .ok (.getfield 29, 3) := by decide +kernel
theorem dX7_mix_78 : decode cX7_mix 78 = .ok (.iconst 3, 1) := by decide +kernel
theorem dX7_mix_79 : decode cX7_mix 79 = .ok (.lload 7, 2) := by decide +kernel
theorem dX7_mix_81 : decode cX7_mix 81 = .ok (.iload 6, 2) := by decide +kernel
theorem dX7_mix_83 : decode cX7_mix 83 = .ok (.i2l, 1) := by decide +kernel
theorem dX7_mix_84 : decode cX7_mix 84 = .ok (.lmul, 1) := by decide +kernel
theorem dX7_mix_85 : decode cX7_mix 85 = .ok (.lastore, 1) := by decide +kernel
theorem dX7_mix_86 : decode cX7_mix 86 = .ok (.aload_n 0, 1) := by decide +kernel
theorem dX7_mix_87 : decode cX7_mix 87 = .ok (.getfield 29, 3) := by decide +kernel
theorem dX7_mix_90 : decode cX7_mix 90 = .ok (.iconst 3, 1) := by decide +kernel
theorem dX7_mix_91 : decode cX7_mix 91 = .ok (.laload, 1) := by decide +kernel
theorem dX7_mix_92 : decode cX7_mix 92 = .ok (.lstore 9, 2) := by decide +kernel
theorem dX7_mix_94 : decode cX7_mix 94 = .ok (.iconst 0, 1) := by decide +kernel
theorem dX7_mix_95 : decode cX7_mix 95 = .ok (.istore 11, 2) := by decide +kernel
theorem dX7_mix_97 : decode cX7_mix 97 = .ok (.iload 11, 2) := by decide +kernel
theorem dX7_mix_99 : decode cX7_mix 99 = .ok (.iconst 3, 1) := by decide +kernel
theorem dX7_mix_100 : decode cX7_mix 100 = .ok (.if_icmp .ge 23, 3) := by decide +kernel
theorem dX7_mix_103 : decode cX7_mix 103 = .ok (.lload 9, 2) := by decide +kernel
theorem dX7_mix_105 : decode cX7_mix 105 = .ok (.aload_n 0, 1) := by decide +kernel
theorem dX7_mix_106 : decode cX7_mix 106 = .ok (.getfield 29, 3) := by decide +kernel
theorem dX7_mix_109 : decode cX7_mix 109 = .ok (.iload 11, 2) := by decide +kernel
theorem dX7_mix_111 : decode cX7_mix 111 = .ok (.laload, 1) := by decide +kernel
theorem dX7_mix_112 : decode cX7_mix 112 = .ok (.invokestatic 183, 3) := by decide +kernel
theorem dX7_mix_115 : decode cX7_mix 115 = .ok (.lstore 9, 2) := by decide +kernel
theorem dX7_mix_117 : decode cX7_mix 117 = .ok (.iinc 11 1, 3) := by decide +kernel
theorem dX7_mix_120 : decode cX7_mix 120 = .ok (.goto (-23), 3) := by decide +kernel
theorem dX7_mix_123 : decode cX7_mix 123 = .ok (.iconst 0, 1) := by decide +kernel
theorem dX7_mix_124 : decode cX7_mix 124 = .ok (.istore 11, 2) := by decide +kernel
theorem dX7_mix_126 : decode cX7_mix 126 = .ok (.iload 11, 2) := by decide +kernel
theorem dX7_mix_128 : decode cX7_mix 128 = .ok (.iconst 4, 1) := by decide +kernel
theorem dX7_mix_129 : decode cX7_mix 129 = .ok (.if_icmp .ge 21, 3) := by decide +kernel
theorem dX7_mix_132 : decode cX7_mix 132 = .ok (.aload_n 0, 1) := by decide +kernel
theorem dX7_mix_133 : decode cX7_mix 133 = .ok (.getfield 29, 3) := by decide +kernel
theorem dX7_mix_136 : decode cX7_mix 136 = .ok (.iload 11, 2) := by decide +kernel
theorem dX7_mix_138 : decode cX7_mix 138 = .ok (.dup2, 1) := by decide +kernel
theorem dX7_mix_139 : decode cX7_mix 139 = .ok (.laload, 1) := by decide +kernel
theorem dX7_mix_140 : decode cX7_mix 140 = .ok (.lload 9, 2) := by decide +kernel
theorem dX7_mix_142 : decode cX7_mix 142 = .ok (.ldiv, 1) := by decide +kernel
theorem dX7_mix_143 : decode cX7_mix 143 = .ok (.lastore, 1) := by decide +kernel
theorem dX7_mix_144 : decode cX7_mix 144 = .ok (.iinc 11 1, 3) := by decide +kernel
theorem dX7_mix_147 : decode cX7_mix 147 = .ok (.goto (-21), 3) := by decide +kernel
theorem dX7_mix_150 : decode cX7_mix 150 = .ok (.return_, 1) := by decide +kernel
theorem bX7_mix_0 {l : Launch} {D : va_G} {aI aL : ClassId} {ad : Nat → Nat} {P : sa_P} {I : sa_I} {J : sa_J} {a1 q1 n1 : Nat} {x2 : Int64} {x4 : Int64} {x6 : Int32} {v10 : Int64} {v13 : Int32} (hq1 : sa_iJ (ER l D aI aL ad) a1 q1 n1) (hn1 : n1 < 2 ^ 31) (h2 : 3 < n1) (f10 : (J q1 3) * (J 5 3) = v10) (f13 : (0 : Int32) = v13) (k : Sat (ER l D aI aL ad) M_X7_mix P 15 [(0, .ref (ad 0)), (1, .ref a1), (2, .long x2), (4, .long x4), (6, .int x6), (7, .long v10), (9, .int v13)] [] I J) : Sat (ER l D aI aL ad) M_X7_mix P 0 [(0, .ref (ad 0)), (1, .ref a1), (2, .long x2), (4, .long x4), (6, .int x6)] [] I J := by
  refine s_aload_n 1 dX7_mix_0 rfl ?_
  refine s_iconst (v := 3) dX7_mix_1 rfl ?_
  refine s_eqi (y := nI 3) rfl ?_
  refine s_laloadN hq1 h2 hn1 dX7_mix_2 ?_
  refine s_aload_n 0 dX7_mix_3 rfl ?_
  refine g_X7_23 dX7_mix_4 rfl ?_
  refine s_iconst (v := 3) dX7_mix_7 rfl ?_
  refine s_eqi (y := nI 3) rfl ?_
  refine s_laloadN aJ_R5 (by decide) (by decide) dX7_mix_8 ?_
  refine s_lmul dX7_mix_9 ?_
  refine s_eql f10 ?_
  refine s_lstore [(7, .long v10), (0, .ref (ad 0)), (1, .ref a1), (2, .long x2), (4, .long x4), (6, .int x6)] dX7_mix_10 (Nat.lt_of_lt_of_le (Nat.lt_succ_self _) (Nat.le_of_ble_eq_true rfl)) rfl ?_
  refine s_iconst (v := 0) dX7_mix_12 rfl ?_
  refine s_eqi f13 ?_
  refine s_istore [(9, .int v13), (7, .long v10), (0, .ref (ad 0)), (1, .ref a1), (2, .long x2), (4, .long x4), (6, .int x6)] dX7_mix_13 (Nat.lt_of_lt_of_le (Nat.lt_succ_self _) (Nat.le_of_ble_eq_true rfl)) rfl ?_
  refine s_pick [2, 3, 4, 5, 6, 1, 0] [(0, .ref (ad 0)), (1, .ref a1), (2, .long x2), (4, .long x4), (6, .int x6), (7, .long v10), (9, .int v13)] rfl ?_; exact k
theorem bX7_mix_15 {l : Launch} {D : va_G} {aI aL : ClassId} {ad : Nat → Nat} {P : sa_P} {I : sa_I} {J : sa_J} {a1 q1 n1 : Nat} {x2 : Int64} {x4 : Int64} {x6 : Int32} {x7 : Int64} {x9 : Int32} (hq1 : sa_iJ (ER l D aI aL ad) a1 q1 n1) (hn1 : n1 < 2 ^ 31)  (kt : (3 : Int32) ≤ x9 → Sat (ER l D aI aL ad) M_X7_mix P 74 [(0, .ref (ad 0)), (6, .int x6), (7, .long x7)] [] I J) (kf : ¬ (3 : Int32) ≤ x9 → Sat (ER l D aI aL ad) M_X7_mix P 21 [(0, .ref (ad 0)), (1, .ref a1), (2, .long x2), (4, .long x4), (6, .int x6), (7, .long x7), (9, .int x9)] [] I J) : Sat (ER l D aI aL ad) M_X7_mix P 15 [(0, .ref (ad 0)), (1, .ref a1), (2, .long x2), (4, .long x4), (6, .int x6), (7, .long x7), (9, .int x9)] [] I J := by
  refine s_iload 6 dX7_mix_15 rfl ?_
  refine s_iconst (v := 3) dX7_mix_17 rfl ?_
  refine s_icmp_ge (tgt := 74) dX7_mix_18 (by decide) (fun c => ?_) (fun c => ?_)
  · refine s_pick [0, 4, 5] [(0, .ref (ad 0)), (6, .int x6), (7, .long x7)] rfl ?_; exact kt c
  · exact kf c
theorem bX7_mix_21 {l : Launch} {D : va_G} {aI aL : ClassId} {ad : Nat → Nat} {P : sa_P} {I : sa_I} {J : sa_J} {a1 q1 n1 : Nat} {x2 : Int64} {x4 : Int64} {x6 : Int32} {x7 : Int64} {x9 : Int32} {j28 : Nat} {j43 : Nat} (hq1 : sa_iJ (ER l D aI aL ad) a1 q1 n1) (hn1 : n1 < 2 ^ 31) (e28 : x9 = nI j28) (h30 : j28 < n1) (e43 : x9 = nI j43) (h45 : j43 < 4) (h49 : 3 < n1)  (kt : ¬ x9 = 0 → Sat (ER l D aI aL ad) M_X7_mix P 65 [(0, .ref (ad 0)), (1, .ref a1), (2, .long x2), (4, .long x4), (6, .int x6), (7, .long x7), (9, .int x9)] [.long (((J q1 j28) * (J 5 3)) + ((x2 * (J 5 j43)) * (J q1 3))), .int x9, .ref (ad 7)] I J) (kf : x9 = 0 → Sat (ER l D aI aL ad) M_X7_mix P 57 [(0, .ref (ad 0)), (1, .ref a1), (2, .long x2), (4, .long x4), (6, .int x6), (7, .long x7), (9, .int x9)] [.long (((J q1 j28) * (J 5 3)) + ((x2 * (J 5 j43)) * (J q1 3))), .int x9, .ref (ad 7)] I J) : Sat (ER l D aI aL ad) M_X7_mix P 21 [(0, .ref (ad 0)), (1, .ref a1), (2, .long x2), (4, .long x4), (6, .int x6), (7, .long x7), (9, .int x9)] [] I J := by
  refine s_aload_n 0 dX7_mix_21 rfl ?_
  refine g_X7_29 dX7_mix_22 rfl ?_
  refine s_iload 6 dX7_mix_25 rfl ?_
  refine s_aload_n 1 dX7_mix_27 rfl ?_
  refine s_iload 6 dX7_mix_28 rfl ?_
  refine s_eqi e28 ?_
  refine s_laloadN hq1 h30 hn1 dX7_mix_30 ?_
  refine s_aload_n 0 dX7_mix_31 rfl ?_
  refine g_X7_23 dX7_mix_32 rfl ?_
  refine s_iconst (v := 3) dX7_mix_35 rfl ?_
  refine s_eqi (y := nI 3) rfl ?_
  refine s_laloadN aJ_R5 (by decide) (by decide) dX7_mix_36 ?_
  refine s_lmul dX7_mix_37 ?_
  refine s_lload_n 2 dX7_mix_38 rfl ?_
  refine s_aload_n 0 dX7_mix_39 rfl ?_
  refine g_X7_23 dX7_mix_40 rfl ?_
  refine s_iload 6 dX7_mix_43 rfl ?_
  refine s_eqi e43 ?_
  refine s_laloadN aJ_R5 h45 (by decide) dX7_mix_45 ?_
  refine s_lmul dX7_mix_46 ?_
  refine s_aload_n 1 dX7_mix_47 rfl ?_
  refine s_iconst (v := 3) dX7_mix_48 rfl ?_
  refine s_eqi (y := nI 3) rfl ?_
  refine s_laloadN hq1 h49 hn1 dX7_mix_49 ?_
  refine s_lmul dX7_mix_50 ?_
  refine s_ladd dX7_mix_51 ?_
  refine s_iload 6 dX7_mix_52 rfl ?_
  refine s_if_ne (tgt := 65) dX7_mix_54 (by decide) (fun c => ?_) (fun c => ?_)
  · exact kt c
  · exact kf (by first | exact c | exact Classical.not_not.mp c)
theorem bX7_mix_57 {l : Launch} {D : va_G} {aI aL : ClassId} {ad : Nat → Nat} {P : sa_P} {I : sa_I} {J : sa_J} {a1 q1 n1 : Nat} {x2 : Int64} {x4 : Int64} {x6 : Int32} {x7 : Int64} {x9 : Int32} {s1 : Int32} {s2 : Int64} (hq1 : sa_iJ (ER l D aI aL ad) a1 q1 n1) (hn1 : n1 < 2 ^ 31)  (k : Sat (ER l D aI aL ad) M_X7_mix P 66 [(0, .ref (ad 0)), (1, .ref a1), (2, .long x2), (4, .long x4), (6, .int x6), (7, .long x7), (9, .int x9)] [.long (x4 * x7), .long s2, .int s1, .ref (ad 7)] I J) : Sat (ER l D aI aL ad) M_X7_mix P 57 [(0, .ref (ad 0)), (1, .ref a1), (2, .long x2), (4, .long x4), (6, .int x6), (7, .long x7), (9, .int x9)] [.long s2, .int s1, .ref (ad 7)] I J := by
  refine s_lload 3 dX7_mix_57 rfl ?_
  refine s_lload 5 dX7_mix_59 rfl ?_
  refine s_lmul dX7_mix_61 ?_
  refine s_goto (tgt := 66) dX7_mix_62 (by decide) ?_
  exact k
theorem bX7_mix_65 {l : Launch} {D : va_G} {aI aL : ClassId} {ad : Nat → Nat} {P : sa_P} {I : sa_I} {J : sa_J} {a1 q1 n1 : Nat} {x2 : Int64} {x4 : Int64} {x6 : Int32} {x7 : Int64} {x9 : Int32} {s1 : Int32} {s2 : Int64} (hq1 : sa_iJ (ER l D aI aL ad) a1 q1 n1) (hn1 : n1 < 2 ^ 31)  (k : Sat (ER l D aI aL ad) M_X7_mix P 66 [(0, .ref (ad 0)), (1, .ref a1), (2, .long x2), (4, .long x4), (6, .int x6), (7, .long x7), (9, .int x9)] [.long (0 : Int64), .long s2, .int s1, .ref (ad 7)] I J) : Sat (ER l D aI aL ad) M_X7_mix P 65 [(0, .ref (ad 0)), (1, .ref a1), (2, .long x2), (4, .long x4), (6, .int x6), (7, .long x7), (9, .int x9)] [.long s2, .int s1, .ref (ad 7)] I J := by
  refine s_lconst (v := 0) dX7_mix_65 rfl ?_
  exact k
theorem bX7_mix_66 {l : Launch} {D : va_G} {aI aL : ClassId} {ad : Nat → Nat} {P : sa_P} {I : sa_I} {J : sa_J} {a1 q1 n1 : Nat} {x2 : Int64} {x4 : Int64} {x6 : Int32} {x7 : Int64} {x9 : Int32} {s1 : Nat} {s2 : Int64} {s3 : Int64} {v67 : Int64} {v68 : Int32} (hq1 : sa_iJ (ER l D aI aL ad) a1 q1 n1) (hn1 : n1 < 2 ^ 31) (h67 : s1 < 4) (f67 : s2 + s3 = v67) (f68 : x9 + 1 = v68) (k : Sat (ER l D aI aL ad) M_X7_mix P 15 [(0, .ref (ad 0)), (1, .ref a1), (2, .long x2), (4, .long x4), (6, .int x6), (7, .long x7), (9, .int v68)] [] I (sa_uJ J 7 s1 v67)) : Sat (ER l D aI aL ad) M_X7_mix P 66 [(0, .ref (ad 0)), (1, .ref a1), (2, .long x2), (4, .long x4), (6, .int x6), (7, .long x7), (9, .int x9)] [.long s3, .long s2, .int (nI s1), .ref (ad 7)] I J := by
  refine s_ladd dX7_mix_66 ?_
  refine s_eql f67 ?_
  refine s_lastoreN aJ_R7 h67 (by decide) dX7_mix_67 ?_
  refine s_iinc 6 v68 [(9, .int v68), (0, .ref (ad 0)), (1, .ref a1), (2, .long x2), (4, .long x4), (6, .int x6), (7, .long x7)] dX7_mix_68 rfl f68 (Nat.lt_of_lt_of_le (Nat.lt_succ_self _) (Nat.le_of_ble_eq_true rfl)) rfl ?_
  refine s_goto (tgt := 15) dX7_mix_71 (by decide) ?_
  refine s_pick [1, 2, 3, 4, 5, 6, 0] [(0, .ref (ad 0)), (1, .ref a1), (2, .long x2), (4, .long x4), (6, .int x6), (7, .long x7), (9, .int v68)] rfl ?_; exact k
theorem bX7_mix_74 {l : Launch} {D : va_G} {aI aL : ClassId} {ad : Nat → Nat} {P : sa_P} {I : sa_I} {J : sa_J} {x6 : Int32} {x7 : Int64} {v85 : Int64} {v92 : Int64} {v95 : Int32}  (f85 : x7 * x6.toInt64 = v85) (f92 : (sa_uJ J 7 3 v85) 7 3 = v92) (f95 : (0 : Int32) = v95) (k : Sat (ER l D aI aL ad) M_X7_mix P 97 [(0, .ref (ad 0)), (9, .long v92), (11, .int v95)] [] I (sa_uJ J 7 3 v85)) : Sat (ER l D aI aL ad) M_X7_mix P 74 [(0, .ref (ad 0)), (6, .int x6), (7, .long x7)] [] I J := by
  refine s_aload_n 0 dX7_mix_74 rfl ?_
  refine g_X7_29 dX7_mix_75 rfl ?_
  refine s_iconst (v := 3) dX7_mix_78 rfl ?_
  refine s_eqi (y := nI 3) rfl ?_
  refine s_lload 2 dX7_mix_79 rfl ?_
  refine s_iload 1 dX7_mix_81 rfl ?_
  refine s_i2l dX7_mix_83 ?_
  refine s_lmul dX7_mix_84 ?_
  refine s_eql f85 ?_
  refine s_lastoreN aJ_R7 (by decide) (by decide) dX7_mix_85 ?_
  refine s_aload_n 0 dX7_mix_86 rfl ?_
  refine g_X7_29 dX7_mix_87 rfl ?_
  refine s_iconst (v := 3) dX7_mix_90 rfl ?_
  refine s_eqi (y := nI 3) rfl ?_
  refine s_laloadN aJ_R7 (by decide) (by decide) dX7_mix_91 ?_
  refine s_eql f92 ?_
  refine s_lstore [(9, .long v92), (0, .ref (ad 0)), (6, .int x6), (7, .long x7)] dX7_mix_92 (Nat.lt_of_lt_of_le (Nat.lt_succ_self _) (Nat.le_of_ble_eq_true rfl)) rfl ?_
  refine s_iconst (v := 0) dX7_mix_94 rfl ?_
  refine s_eqi f95 ?_
  refine s_istore [(11, .int v95), (9, .long v92), (0, .ref (ad 0)), (6, .int x6), (7, .long x7)] dX7_mix_95 (Nat.lt_of_lt_of_le (Nat.lt_succ_self _) (Nat.le_of_ble_eq_true rfl)) rfl ?_
  refine s_pick [2, 1, 0] [(0, .ref (ad 0)), (9, .long v92), (11, .int v95)] rfl ?_; exact k
theorem bX7_mix_97 {l : Launch} {D : va_G} {aI aL : ClassId} {ad : Nat → Nat} {P : sa_P} {I : sa_I} {J : sa_J} {x9 : Int64} {x11 : Int32}   (kt : (3 : Int32) ≤ x11 → Sat (ER l D aI aL ad) M_X7_mix P 123 [(0, .ref (ad 0)), (9, .long x9)] [] I J) (kf : ¬ (3 : Int32) ≤ x11 → Sat (ER l D aI aL ad) M_X7_mix P 103 [(0, .ref (ad 0)), (9, .long x9), (11, .int x11)] [] I J) : Sat (ER l D aI aL ad) M_X7_mix P 97 [(0, .ref (ad 0)), (9, .long x9), (11, .int x11)] [] I J := by
  refine s_iload 2 dX7_mix_97 rfl ?_
  refine s_iconst (v := 3) dX7_mix_99 rfl ?_
  refine s_icmp_ge (tgt := 123) dX7_mix_100 (by decide) (fun c => ?_) (fun c => ?_)
  · refine s_pick [0, 1] [(0, .ref (ad 0)), (9, .long x9)] rfl ?_; exact kt c
  · exact kf c
theorem bX7_mix_103 {l : Launch} {D : va_G} {aI aL : ClassId} {ad : Nat → Nat} {P : sa_P} {I : sa_I} {J : sa_J} {x9 : Int64} {x11 : Int32} {j109 : Nat} (e109 : x11 = nI j109) (h111 : j109 < 4)  (k : Sat (ER l D aI aL ad) M_X7_mix P 112 [(0, .ref (ad 0)), (11, .int x11)] [.long (J 7 j109), .long x9] I J) : Sat (ER l D aI aL ad) M_X7_mix P 103 [(0, .ref (ad 0)), (9, .long x9), (11, .int x11)] [] I J := by
  refine s_lload 1 dX7_mix_103 rfl ?_
  refine s_aload_n 0 dX7_mix_105 rfl ?_
  refine g_X7_29 dX7_mix_106 rfl ?_
  refine s_iload 2 dX7_mix_109 rfl ?_
  refine s_eqi e109 ?_
  refine s_laloadN aJ_R7 h111 (by decide) dX7_mix_111 ?_
  refine s_pick [0, 2] [(0, .ref (ad 0)), (11, .int x11)] rfl ?_; exact k
theorem bX7_mix_115 {l : Launch} {D : va_G} {aI aL : ClassId} {ad : Nat → Nat} {P : sa_P} {I : sa_I} {J : sa_J} {x11 : Int32} {s0 : Int64} {v117 : Int32}  (f117 : x11 + 1 = v117) (k : Sat (ER l D aI aL ad) M_X7_mix P 97 [(0, .ref (ad 0)), (9, .long s0), (11, .int v117)] [] I J) : Sat (ER l D aI aL ad) M_X7_mix P 115 [(0, .ref (ad 0)), (11, .int x11)] [.long s0] I J := by
  refine s_lstore [(9, .long s0), (0, .ref (ad 0)), (11, .int x11)] dX7_mix_115 (Nat.lt_of_lt_of_le (Nat.lt_succ_self _) (Nat.le_of_ble_eq_true rfl)) rfl ?_
  refine s_iinc 2 v117 [(11, .int v117), (9, .long s0), (0, .ref (ad 0))] dX7_mix_117 rfl f117 (Nat.lt_of_lt_of_le (Nat.lt_succ_self _) (Nat.le_of_ble_eq_true rfl)) rfl ?_
  refine s_goto (tgt := 97) dX7_mix_120 (by decide) ?_
  refine s_pick [2, 1, 0] [(0, .ref (ad 0)), (9, .long s0), (11, .int v117)] rfl ?_; exact k
theorem bX7_mix_123 {l : Launch} {D : va_G} {aI aL : ClassId} {ad : Nat → Nat} {P : sa_P} {I : sa_I} {J : sa_J} {x9 : Int64} {v124 : Int32}  (f124 : (0 : Int32) = v124) (k : Sat (ER l D aI aL ad) M_X7_mix P 126 [(0, .ref (ad 0)), (9, .long x9), (11, .int v124)] [] I J) : Sat (ER l D aI aL ad) M_X7_mix P 123 [(0, .ref (ad 0)), (9, .long x9)] [] I J := by
  refine s_iconst (v := 0) dX7_mix_123 rfl ?_
  refine s_eqi f124 ?_
  refine s_istore [(11, .int v124), (0, .ref (ad 0)), (9, .long x9)] dX7_mix_124 (Nat.lt_of_lt_of_le (Nat.lt_succ_self _) (Nat.le_of_ble_eq_true rfl)) rfl ?_
  refine s_pick [1, 2, 0] [(0, .ref (ad 0)), (9, .long x9), (11, .int v124)] rfl ?_; exact k
theorem bX7_mix_126 {l : Launch} {D : va_G} {aI aL : ClassId} {ad : Nat → Nat} {P : sa_P} {I : sa_I} {J : sa_J} {x9 : Int64} {x11 : Int32}   (kt : (4 : Int32) ≤ x11 → Sat (ER l D aI aL ad) M_X7_mix P 150 [] [] I J) (kf : ¬ (4 : Int32) ≤ x11 → Sat (ER l D aI aL ad) M_X7_mix P 132 [(0, .ref (ad 0)), (9, .long x9), (11, .int x11)] [] I J) : Sat (ER l D aI aL ad) M_X7_mix P 126 [(0, .ref (ad 0)), (9, .long x9), (11, .int x11)] [] I J := by
  refine s_iload 2 dX7_mix_126 rfl ?_
  refine s_iconst (v := 4) dX7_mix_128 rfl ?_
  refine s_icmp_ge (tgt := 150) dX7_mix_129 (by decide) (fun c => ?_) (fun c => ?_)
  · refine s_pick [] [] rfl ?_; exact kt c
  · exact kf c
theorem bX7_mix_132 {l : Launch} {D : va_G} {aI aL : ClassId} {ad : Nat → Nat} {P : sa_P} {I : sa_I} {J : sa_J} {x9 : Int64} {x11 : Int32} {j136 : Nat} {v143 : Int64} {v144 : Int32} (e136 : x11 = nI j136) (h139 : j136 < 4) (z142 : ¬ x9 = 0) (h143 : j136 < 4) (f143 : (J 7 j136) / x9 = v143) (f144 : x11 + 1 = v144) (k : Sat (ER l D aI aL ad) M_X7_mix P 126 [(0, .ref (ad 0)), (9, .long x9), (11, .int v144)] [] I (sa_uJ J 7 j136 v143)) : Sat (ER l D aI aL ad) M_X7_mix P 132 [(0, .ref (ad 0)), (9, .long x9), (11, .int x11)] [] I J := by
  refine s_aload_n 0 dX7_mix_132 rfl ?_
  refine g_X7_29 dX7_mix_133 rfl ?_
  refine s_iload 2 dX7_mix_136 rfl ?_
  refine s_eqi e136 ?_
  refine s_dup2_11 dX7_mix_138 rfl rfl ?_
  refine s_laloadN aJ_R7 h139 (by decide) dX7_mix_139 ?_
  refine s_lload 1 dX7_mix_140 rfl ?_
  refine s_ldiv dX7_mix_142 z142 ?_
  refine s_eql f143 ?_
  refine s_lastoreN aJ_R7 h143 (by decide) dX7_mix_143 ?_
  refine s_iinc 2 v144 [(11, .int v144), (0, .ref (ad 0)), (9, .long x9)] dX7_mix_144 rfl f144 (Nat.lt_of_lt_of_le (Nat.lt_succ_self _) (Nat.le_of_ble_eq_true rfl)) rfl ?_
  refine s_goto (tgt := 126) dX7_mix_147 (by decide) ?_
  refine s_pick [1, 2, 0] [(0, .ref (ad 0)), (9, .long x9), (11, .int v144)] rfl ?_; exact k
theorem bX7_mix_150 {l : Launch} {D : va_G} {aI aL : ClassId} {ad : Nat → Nat} {P : sa_P} {I : sa_I} {J : sa_J}    (k : P (none) I J) : Sat (ER l D aI aL ad) M_X7_mix P 150 [] [] I J := by
  exact s_vret rfl dX7_mix_150 k
/-! X7_lower -/
theorem dX7_lower_0 : decode cX7_lower 0 = .ok (.iconst 4, 1) := by decide +kernel
theorem dX7_lower_1 : decode cX7_lower 1 = .ok (.istore_n 1, 1) := by decide +kernel
theorem dX7_lower_2 : decode cX7_lower 2 = .ok (.iload_n 1, 1) := by decide +kernel
theorem dX7_lower_3 : decode cX7_lower 3 = .ok (.aload_n 0, 1) := by decide +kernel
theorem dX7_lower_4 : decode cX7_lower 4 = .ok (.getfield 101, 3) := by decide +kernel
theorem dX7_lower_7 : decode cX7_lower 7 = .ok (.if_icmp .lt 98, 3) := by decide +kernel
theorem dX7_lower_10 : decode cX7_lower 10 = .ok (.aload_n 0, 1) := by decide +kernel
theorem dX7_lower_11 : decode cX7_lower 11 = .ok (.getfield 32, 3) := by decide +kernel
theorem dX7_lower_14 : decode cX7_lower 14 = .ok (.iload_n 1, 1) := by decide +kernel
theorem dX7_lower_15 : decode cX7_lower 15 = .ok (.laload, 1) := by decide +kernel
theorem dX7_lower_16 : decode cX7_lower 16 = .ok (.lstore_n 2, 1) := by decide +kernel
theorem dX7_lower_17 : decode cX7_lower 17 = .ok (.aload_n 0, 1) := by decide +kernel
theorem dX7_lower_18 : decode cX7_lower 18 = .ok (.getfield 32, 3) := by decide +kernel
theorem dX7_lower_21 : decode cX7_lower 21 = .ok (.iload_n 1, 1) := by decide +kernel
theorem dX7_lower_22 : decode cX7_lower 22 = .ok (.lconst 0, 1) := by decide +kernel
theorem dX7_lower_23 : decode cX7_lower 23 = .ok (.lastore, 1) := by decide +kernel
theorem dX7_lower_24 : decode cX7_lower 24 = .ok (.aload_n 0, 1) := by decide +kernel
theorem dX7_lower_25 : decode cX7_lower 25 = .ok (.getfield 32, 3) := by decide +kernel
theorem dX7_lower_28 : decode cX7_lower 28 = .ok (.iload_n 1, 1) := by decide +kernel
theorem dX7_lower_29 : decode cX7_lower 29 = .ok (.aload_n 0, 1) := by decide +kernel
theorem dX7_lower_30 : decode cX7_lower 30 = .ok (.getfield 101, 3) := by decide +kernel
theorem dX7_lower_33 : decode cX7_lower 33 = .ok (.isub, 1) := by decide +kernel
theorem dX7_lower_34 : decode cX7_lower 34 = .ok (.dup2, 1) := by decide +kernel
theorem dX7_lower_35 : decode cX7_lower 35 = .ok (.laload, 1) := by decide +kernel
theorem dX7_lower_36 : decode cX7_lower 36 = .ok (.lload_n 2, 1) := by decide +kernel
theorem dX7_lower_37 : decode cX7_lower 37 = .ok (.aload_n 0, 1) := by decide +kernel
theorem dX7_lower_38 : decode cX7_lower 38 = .ok (.getfield 105, 3) := by decide +kernel
theorem dX7_lower_41 : decode cX7_lower 41 = .ok (.i2l, 1) := by decide +kernel
theorem dX7_lower_42 : decode cX7_lower 42 = .ok (.lmul, 1) := by decide +kernel
theorem dX7_lower_43 : decode cX7_lower 43 = .ok (.lsub, 1) := by decide +kernel
theorem dX7_lower_44 : decode cX7_lower 44 = .ok (.lastore, 1) := by decide +kernel
theorem dX7_lower_45 : decode cX7_lower 45 = .ok (.aload_n 0, 1) := by decide +kernel
theorem dX7_lower_46 : decode cX7_lower 46 = .ok (.getfield 32, 3) := by decide +kernel
theorem dX7_lower_49 : decode cX7_lower 49 = .ok (.iload_n 1, 1) := by decide +kernel
theorem dX7_lower_50 : decode cX7_lower 50 = .ok (.aload_n 0, 1) := by decide +kernel
theorem dX7_lower_51 : decode cX7_lower 51 = .ok (.getfield 101, 3) := by decide +kernel
theorem dX7_lower_54 : decode cX7_lower 54 = .ok (.isub, 1) := by decide +kernel
theorem dX7_lower_55 : decode cX7_lower 55 = .ok (.iconst 1, 1) := by decide +kernel
theorem dX7_lower_56 : decode cX7_lower 56 = .ok (.iadd, 1) := by decide +kernel
theorem dX7_lower_57 : decode cX7_lower 57 = .ok (.dup2, 1) := by decide +kernel
theorem dX7_lower_58 : decode cX7_lower 58 = .ok (.laload, 1) := by decide +kernel
theorem dX7_lower_59 : decode cX7_lower 59 = .ok (.lload_n 2, 1) := by decide +kernel
theorem dX7_lower_60 : decode cX7_lower 60 = .ok (.aload_n 0, 1) := by decide +kernel
theorem dX7_lower_61 : decode cX7_lower 61 = .ok (.getfield 108, 3) := by decide +kernel
theorem dX7_lower_64 : decode cX7_lower 64 = .ok (.i2l, 1) := by decide +kernel
theorem dX7_lower_65 : decode cX7_lower 65 = .ok (.lmul, 1) := by decide +kernel
theorem dX7_lower_66 : decode cX7_lower 66 = .ok (.lsub, 1) := by decide +kernel
theorem dX7_lower_67 : decode cX7_lower 67 = .ok (.lastore, 1) := by decide +kernel
theorem dX7_lower_68 : decode cX7_lower 68 = .ok (.aload_n 0, 1) := by decide +kernel
theorem dX7_lower_69 : decode cX7_lower 69 = .ok (.getfield 101, 3) := by decide +kernel
theorem dX7_lower_72 : decode cX7_lower 72 = .ok (.iconst 3, 1) := by decide +kernel
theorem dX7_lower_73 : decode cX7_lower 73 = .ok (.if_icmp .ne 26, 3) := by decide +kernel
theorem dX7_lower_76 : decode cX7_lower 76 = .ok (.aload_n 0, 1) := by decide +kernel
theorem dX7_lower_77 : decode cX7_lower 77 = .ok (.getfield 32, 3) := by decide +kernel
theorem dX7_lower_80 : decode cX7_lower 80 = .ok (.iload_n 1, 1) := by decide +kernel
theorem dX7_lower_81 : decode cX7_lower 81 = .ok (.aload_n 0, 1) := by decide +kernel
theorem dX7_lower_82 : decode cX7_lower 82 = .ok (.getfield 101, 3) := by decide +kernel
theorem dX7_lower_85 : decode cX7_lower 85 = .ok (.isub, 1) := by decide +kernel
theorem dX7_lower_86 : decode cX7_lower 86 = .ok (.iconst 2, 1) := by decide +kernel
theorem dX7_lower_87 : decode cX7_lower 87 = .ok (.iadd, 1) := by decide +kernel
theorem dX7_lower_88 : decode cX7_lower 88 = .ok (.dup2, 1) := by decide +kernel
theorem dX7_lower_89 : decode cX7_lower 89 = .ok (.laload, 1) := by decide +kernel
theorem dX7_lower_90 : decode cX7_lower 90 = .ok (.lload_n 2, 1) := by decide +kernel
theorem dX7_lower_91 : decode cX7_lower 91 = .ok (.aload_n 0, 1) := by decide +kernel
theorem dX7_lower_92 : decode cX7_lower 92 = .ok (.getfield 111, 3) := by decide +kernel
theorem dX7_lower_95 : decode cX7_lower 95 = .ok (.i2l, 1) := by decide +kernel
theorem dX7_lower_96 : decode cX7_lower 96 = .ok (.lmul, 1) := by decide +kernel
theorem dX7_lower_97 : decode cX7_lower 97 = .ok (.lsub, 1) := by decide +kernel
theorem dX7_lower_98 : decode cX7_lower 98 = .ok (.lastore, 1) := by decide +kernel
theorem dX7_lower_99 : decode cX7_lower 99 = .ok (.iinc 1 (-1), 3) := by decide +kernel
theorem dX7_lower_102 : decode cX7_lower 102 = .ok (.goto (-100), 3) := by decide +kernel
theorem dX7_lower_105 : decode cX7_lower 105 = .ok (.return_, 1) := by decide +kernel
theorem bX7_lower_0 {l : Launch} {D : va_G} {aI aL : ClassId} {ad : Nat → Nat} {P : sa_P} {I : sa_I} {J : sa_J} {v1 : Int32}  (f1 : (4 : Int32) = v1) (k : Sat (ER l D aI aL ad) M_X7_lower P 2 [(0, .ref (ad 0)), (1, .int v1)] [] I J) : Sat (ER l D aI aL ad) M_X7_lower P 0 [(0, .ref (ad 0))] [] I J := by
  refine s_iconst (v := 4) dX7_lower_0 rfl ?_
  refine s_eqi f1 ?_
  refine s_istore_n [(1, .int v1), (0, .ref (ad 0))] dX7_lower_1 (Nat.lt_of_lt_of_le (Nat.lt_succ_self _) (Nat.le_of_ble_eq_true rfl)) rfl ?_
  refine s_pick [1, 0] [(0, .ref (ad 0)), (1, .int v1)] rfl ?_; exact k
theorem bX7_lower_2 {l : Launch} {D : va_G} {aI aL : ClassId} {ad : Nat → Nat} {P : sa_P} {I : sa_I} {J : sa_J} {x1 : Int32}   (kt : x1 < I 0 1 → Sat (ER l D aI aL ad) M_X7_lower P 105 [] [] I J) (kf : ¬ x1 < I 0 1 → Sat (ER l D aI aL ad) M_X7_lower P 10 [(0, .ref (ad 0)), (1, .int x1)] [] I J) : Sat (ER l D aI aL ad) M_X7_lower P 2 [(0, .ref (ad 0)), (1, .int x1)] [] I J := by
  refine s_iload_n 1 dX7_lower_2 rfl ?_
  refine s_aload_n 0 dX7_lower_3 rfl ?_
  refine g_X7_101 dX7_lower_4 rfl ?_
  refine s_icmp_lt (tgt := 105) dX7_lower_7 (by decide) (fun c => ?_) (fun c => ?_)
  · refine s_pick [] [] rfl ?_; exact kt c
  · exact kf c
theorem bX7_lower_10 {l : Launch} {D : va_G} {aI aL : ClassId} {ad : Nat → Nat} {P : sa_P} {I : sa_I} {J : sa_J} {x1 : Int32} {j14 : Nat} {v16 : Int64} {j21 : Nat} {v23 : Int64} {j33 : Nat} {v44 : Int64} {j56 : Nat} {v67 : Int64} (e14 : x1 = nI j14) (h15 : j14 < 5) (e21 : x1 = nI j21) (h23 : j21 < 5) (e33 : x1 - (I 0 1) = nI j33) (h35 : j33 < 5) (h44 : j33 < 5) (e56 : (x1 - (I 0 1)) + (1 : Int32) = nI j56) (h58 : j56 < 5) (h67 : j56 < 5) (f16 : J 8 j14 = v16) (f23 : (0 : Int64) = v23) (f44 : ((sa_uJ J 8 j21 v23) 8 j33) - (v16 * ((I 0 2).toInt64)) = v44) (f67 : ((sa_uJ (sa_uJ J 8 j21 v23) 8 j33 v44) 8 j56) - (v16 * ((I 0 3).toInt64)) = v67) (kt : ¬ I 0 1 = (3 : Int32) → Sat (ER l D aI aL ad) M_X7_lower P 99 [(0, .ref (ad 0)), (1, .int x1)] [] I (sa_uJ (sa_uJ (sa_uJ J 8 j21 v23) 8 j33 v44) 8 j56 v67)) (kf : I 0 1 = (3 : Int32) → Sat (ER l D aI aL ad) M_X7_lower P 76 [(0, .ref (ad 0)), (1, .int x1), (2, .long v16)] [] I (sa_uJ (sa_uJ (sa_uJ J 8 j21 v23) 8 j33 v44) 8 j56 v67)) : Sat (ER l D aI aL ad) M_X7_lower P 10 [(0, .ref (ad 0)), (1, .int x1)] [] I J := by
  refine s_aload_n 0 dX7_lower_10 rfl ?_
  refine g_X7_32 dX7_lower_11 rfl ?_
  refine s_iload_n 1 dX7_lower_14 rfl ?_
  refine s_eqi e14 ?_
  refine s_laloadN aJ_R8 h15 (by decide) dX7_lower_15 ?_
  refine s_eql f16 ?_
  refine s_lstore_n [(2, .long v16), (0, .ref (ad 0)), (1, .int x1)] dX7_lower_16 (Nat.lt_of_lt_of_le (Nat.lt_succ_self _) (Nat.le_of_ble_eq_true rfl)) rfl ?_
  refine s_aload_n 1 dX7_lower_17 rfl ?_
  refine g_X7_32 dX7_lower_18 rfl ?_
  refine s_iload_n 2 dX7_lower_21 rfl ?_
  refine s_eqi e21 ?_
  refine s_lconst (v := 0) dX7_lower_22 rfl ?_
  refine s_eql f23 ?_
  refine s_lastoreN aJ_R8 h23 (by decide) dX7_lower_23 ?_
  refine s_aload_n 1 dX7_lower_24 rfl ?_
  refine g_X7_32 dX7_lower_25 rfl ?_
  refine s_iload_n 2 dX7_lower_28 rfl ?_
  refine s_aload_n 1 dX7_lower_29 rfl ?_
  refine g_X7_101 dX7_lower_30 rfl ?_
  refine s_isub dX7_lower_33 ?_
  refine s_eqi e33 ?_
  refine s_dup2_11 dX7_lower_34 rfl rfl ?_
  refine s_laloadN aJ_R8 h35 (by decide) dX7_lower_35 ?_
  refine s_lload_n 0 dX7_lower_36 rfl ?_
  refine s_aload_n 1 dX7_lower_37 rfl ?_
  refine g_X7_105 dX7_lower_38 rfl ?_
  refine s_i2l dX7_lower_41 ?_
  refine s_lmul dX7_lower_42 ?_
  refine s_lsub dX7_lower_43 ?_
  refine s_eql f44 ?_
  refine s_lastoreN aJ_R8 h44 (by decide) dX7_lower_44 ?_
  refine s_aload_n 1 dX7_lower_45 rfl ?_
  refine g_X7_32 dX7_lower_46 rfl ?_
  refine s_iload_n 2 dX7_lower_49 rfl ?_
  refine s_aload_n 1 dX7_lower_50 rfl ?_
  refine g_X7_101 dX7_lower_51 rfl ?_
  refine s_isub dX7_lower_54 ?_
  refine s_iconst (v := 1) dX7_lower_55 rfl ?_
  refine s_iadd dX7_lower_56 ?_
  refine s_eqi e56 ?_
  refine s_dup2_11 dX7_lower_57 rfl rfl ?_
  refine s_laloadN aJ_R8 h58 (by decide) dX7_lower_58 ?_
  refine s_lload_n 0 dX7_lower_59 rfl ?_
  refine s_aload_n 1 dX7_lower_60 rfl ?_
  refine g_X7_108 dX7_lower_61 rfl ?_
  refine s_i2l dX7_lower_64 ?_
  refine s_lmul dX7_lower_65 ?_
  refine s_lsub dX7_lower_66 ?_
  refine s_eql f67 ?_
  refine s_lastoreN aJ_R8 h67 (by decide) dX7_lower_67 ?_
  refine s_aload_n 1 dX7_lower_68 rfl ?_
  refine g_X7_101 dX7_lower_69 rfl ?_
  refine s_iconst (v := 3) dX7_lower_72 rfl ?_
  refine s_icmp_ne (tgt := 99) dX7_lower_73 (by decide) (fun c => ?_) (fun c => ?_)
  · refine s_pick [1, 2] [(0, .ref (ad 0)), (1, .int x1)] rfl ?_; exact kt c
  · refine s_pick [1, 2, 0] [(0, .ref (ad 0)), (1, .int x1), (2, .long v16)] rfl ?_; exact kf (by first | exact c | exact Classical.not_not.mp c)
theorem bX7_lower_76 {l : Launch} {D : va_G} {aI aL : ClassId} {ad : Nat → Nat} {P : sa_P} {I : sa_I} {J : sa_J} {x1 : Int32} {x2 : Int64} {j87 : Nat} {v98 : Int64} (e87 : (x1 - (I 0 1)) + (2 : Int32) = nI j87) (h89 : j87 < 5) (h98 : j87 < 5) (f98 : (J 8 j87) - (x2 * ((I 0 4).toInt64)) = v98) (k : Sat (ER l D aI aL ad) M_X7_lower P 99 [(0, .ref (ad 0)), (1, .int x1)] [] I (sa_uJ J 8 j87 v98)) : Sat (ER l D aI aL ad) M_X7_lower P 76 [(0, .ref (ad 0)), (1, .int x1), (2, .long x2)] [] I J := by
  refine s_aload_n 0 dX7_lower_76 rfl ?_
  refine g_X7_32 dX7_lower_77 rfl ?_
  refine s_iload_n 1 dX7_lower_80 rfl ?_
  refine s_aload_n 0 dX7_lower_81 rfl ?_
  refine g_X7_101 dX7_lower_82 rfl ?_
  refine s_isub dX7_lower_85 ?_
  refine s_iconst (v := 2) dX7_lower_86 rfl ?_
  refine s_iadd dX7_lower_87 ?_
  refine s_eqi e87 ?_
  refine s_dup2_11 dX7_lower_88 rfl rfl ?_
  refine s_laloadN aJ_R8 h89 (by decide) dX7_lower_89 ?_
  refine s_lload_n 2 dX7_lower_90 rfl ?_
  refine s_aload_n 0 dX7_lower_91 rfl ?_
  refine g_X7_111 dX7_lower_92 rfl ?_
  refine s_i2l dX7_lower_95 ?_
  refine s_lmul dX7_lower_96 ?_
  refine s_lsub dX7_lower_97 ?_
  refine s_eql f98 ?_
  refine s_lastoreN aJ_R8 h98 (by decide) dX7_lower_98 ?_
  refine s_pick [0, 1] [(0, .ref (ad 0)), (1, .int x1)] rfl ?_; exact k
theorem bX7_lower_99 {l : Launch} {D : va_G} {aI aL : ClassId} {ad : Nat → Nat} {P : sa_P} {I : sa_I} {J : sa_J} {x1 : Int32} {v99 : Int32}  (f99 : x1 + (-1) = v99) (k : Sat (ER l D aI aL ad) M_X7_lower P 2 [(0, .ref (ad 0)), (1, .int v99)] [] I J) : Sat (ER l D aI aL ad) M_X7_lower P 99 [(0, .ref (ad 0)), (1, .int x1)] [] I J := by
  refine s_iinc 1 v99 [(1, .int v99), (0, .ref (ad 0))] dX7_lower_99 rfl f99 (Nat.lt_of_lt_of_le (Nat.lt_succ_self _) (Nat.le_of_ble_eq_true rfl)) rfl ?_
  refine s_goto (tgt := 2) dX7_lower_102 (by decide) ?_
  refine s_pick [1, 0] [(0, .ref (ad 0)), (1, .int v99)] rfl ?_; exact k
theorem bX7_lower_105 {l : Launch} {D : va_G} {aI aL : ClassId} {ad : Nat → Nat} {P : sa_P} {I : sa_I} {J : sa_J}    (k : P (none) I J) : Sat (ER l D aI aL ad) M_X7_lower P 105 [] [] I J := by
  exact s_vret rfl dX7_lower_105 k
/-! X7_traceOf -/
theorem dX7_traceOf_0 : decode cX7_traceOf 0 = .ok (.lconst 0, 1) := by decide +kernel
theorem dX7_traceOf_1 : decode cX7_traceOf 1 = .ok (.lstore_n 1, 1) := by decide +kernel
theorem dX7_traceOf_2 : decode cX7_traceOf 2 = .ok (.iconst 0, 1) := by decide +kernel
theorem dX7_traceOf_3 : decode cX7_traceOf 3 = .ok (.istore_n 3, 1) := by decide +kernel
theorem dX7_traceOf_4 : decode cX7_traceOf 4 = .ok (.iload_n 3, 1) := by decide +kernel
theorem dX7_traceOf_5 : decode cX7_traceOf 5 = .ok (.aload_n 0, 1) := by decide +kernel
theorem dX7_traceOf_6 : decode cX7_traceOf 6 = .ok (.getfield 101, 3) := by decide +kernel
theorem dX7_traceOf_9 : decode cX7_traceOf 9 = .ok (.if_icmp .ge 20, 3) := by decide +kernel
theorem dX7_traceOf_12 : decode cX7_traceOf 12 = .ok (.lload_n 1, 1) := by decide +kernel
theorem dX7_traceOf_13 : decode cX7_traceOf 13 = .ok (.aload_n 0, 1) := by decide +kernel
theorem dX7_traceOf_14 : decode cX7_traceOf 14 = .ok (.getfield 35, 3) := by decide +kernel
theorem dX7_traceOf_17 : decode cX7_traceOf 17 = .ok (.iconst 4, 1) := by decide +kernel
theorem dX7_traceOf_18 : decode cX7_traceOf 18 = .ok (.iload_n 3, 1) := by decide +kernel
theorem dX7_traceOf_19 : decode cX7_traceOf 19 = .ok (.imul, 1) := by decide +kernel
theorem dX7_traceOf_20 : decode cX7_traceOf 20 = .ok (.laload, 1) := by decide +kernel
theorem dX7_traceOf_21 : decode cX7_traceOf 21 = .ok (.ladd, 1) := by decide +kernel
theorem dX7_traceOf_22 : decode cX7_traceOf 22 = .ok (.lstore_n 1, 1) := by decide +kernel
theorem dX7_traceOf_23 : decode cX7_traceOf 23 = .ok (.iinc 3 1, 3) := by decide +kernel
theorem dX7_traceOf_26 : decode cX7_traceOf 26 = .ok (.goto (-22), 3) := by decide +kernel
theorem dX7_traceOf_29 : decode cX7_traceOf 29 = .ok (.lload_n 1, 1) := by decide +kernel
theorem dX7_traceOf_30 : decode cX7_traceOf 30 = .ok (.lreturn, 1) := by decide +kernel
theorem bX7_traceOf_0 {l : Launch} {D : va_G} {aI aL : ClassId} {ad : Nat → Nat} {P : sa_P} {I : sa_I} {J : sa_J} {v1 : Int64} {v3 : Int32}  (f1 : (0 : Int64) = v1) (f3 : (0 : Int32) = v3) (k : Sat (ER l D aI aL ad) M_X7_traceOf P 4 [(0, .ref (ad 0)), (1, .long v1), (3, .int v3)] [] I J) : Sat (ER l D aI aL ad) M_X7_traceOf P 0 [(0, .ref (ad 0))] [] I J := by
  refine s_lconst (v := 0) dX7_traceOf_0 rfl ?_
  refine s_eql f1 ?_
  refine s_lstore_n [(1, .long v1), (0, .ref (ad 0))] dX7_traceOf_1 (Nat.lt_of_lt_of_le (Nat.lt_succ_self _) (Nat.le_of_ble_eq_true rfl)) rfl ?_
  refine s_iconst (v := 0) dX7_traceOf_2 rfl ?_
  refine s_eqi f3 ?_
  refine s_istore_n [(3, .int v3), (1, .long v1), (0, .ref (ad 0))] dX7_traceOf_3 (Nat.lt_of_lt_of_le (Nat.lt_succ_self _) (Nat.le_of_ble_eq_true rfl)) rfl ?_
  refine s_pick [2, 1, 0] [(0, .ref (ad 0)), (1, .long v1), (3, .int v3)] rfl ?_; exact k
theorem bX7_traceOf_4 {l : Launch} {D : va_G} {aI aL : ClassId} {ad : Nat → Nat} {P : sa_P} {I : sa_I} {J : sa_J} {x1 : Int64} {x3 : Int32}   (kt : I 0 1 ≤ x3 → Sat (ER l D aI aL ad) M_X7_traceOf P 29 [(1, .long x1)] [] I J) (kf : ¬ I 0 1 ≤ x3 → Sat (ER l D aI aL ad) M_X7_traceOf P 12 [(0, .ref (ad 0)), (1, .long x1), (3, .int x3)] [] I J) : Sat (ER l D aI aL ad) M_X7_traceOf P 4 [(0, .ref (ad 0)), (1, .long x1), (3, .int x3)] [] I J := by
  refine s_iload_n 2 dX7_traceOf_4 rfl ?_
  refine s_aload_n 0 dX7_traceOf_5 rfl ?_
  refine g_X7_101 dX7_traceOf_6 rfl ?_
  refine s_icmp_ge (tgt := 29) dX7_traceOf_9 (by decide) (fun c => ?_) (fun c => ?_)
  · refine s_pick [1] [(1, .long x1)] rfl ?_; exact kt c
  · exact kf c
theorem bX7_traceOf_12 {l : Launch} {D : va_G} {aI aL : ClassId} {ad : Nat → Nat} {P : sa_P} {I : sa_I} {J : sa_J} {x1 : Int64} {x3 : Int32} {j19 : Nat} {v22 : Int64} {v23 : Int32} (e19 : (4 : Int32) * x3 = nI j19) (h20 : j19 < 9) (f22 : x1 + (J 9 j19) = v22) (f23 : x3 + 1 = v23) (k : Sat (ER l D aI aL ad) M_X7_traceOf P 4 [(0, .ref (ad 0)), (1, .long v22), (3, .int v23)] [] I J) : Sat (ER l D aI aL ad) M_X7_traceOf P 12 [(0, .ref (ad 0)), (1, .long x1), (3, .int x3)] [] I J := by
  refine s_lload_n 1 dX7_traceOf_12 rfl ?_
  refine s_aload_n 0 dX7_traceOf_13 rfl ?_
  refine g_X7_35 dX7_traceOf_14 rfl ?_
  refine s_iconst (v := 4) dX7_traceOf_17 rfl ?_
  refine s_iload_n 2 dX7_traceOf_18 rfl ?_
  refine s_imul dX7_traceOf_19 ?_
  refine s_eqi e19 ?_
  refine s_laloadN aJ_R9 h20 (by decide) dX7_traceOf_20 ?_
  refine s_ladd dX7_traceOf_21 ?_
  refine s_eql f22 ?_
  refine s_lstore_n [(1, .long v22), (0, .ref (ad 0)), (3, .int x3)] dX7_traceOf_22 (Nat.lt_of_lt_of_le (Nat.lt_succ_self _) (Nat.le_of_ble_eq_true rfl)) rfl ?_
  refine s_iinc 2 v23 [(3, .int v23), (1, .long v22), (0, .ref (ad 0))] dX7_traceOf_23 rfl f23 (Nat.lt_of_lt_of_le (Nat.lt_succ_self _) (Nat.le_of_ble_eq_true rfl)) rfl ?_
  refine s_goto (tgt := 4) dX7_traceOf_26 (by decide) ?_
  refine s_pick [2, 1, 0] [(0, .ref (ad 0)), (1, .long v22), (3, .int v23)] rfl ?_; exact k
theorem bX7_traceOf_29 {l : Launch} {D : va_G} {aI aL : ClassId} {ad : Nat → Nat} {P : sa_P} {I : sa_I} {J : sa_J} {x1 : Int64}   (k : P (some (.long x1)) I J) : Sat (ER l D aI aL ad) M_X7_traceOf P 29 [(1, .long x1)] [] I J := by
  refine s_lload_n 0 dX7_traceOf_29 rfl ?_
  exact s_lret rfl dX7_traceOf_30 k
/-! X7_minorsOf -/
theorem dX7_minorsOf_0 : decode cX7_minorsOf 0 = .ok (.aload_n 0, 1) := by decide +kernel
theorem dX7_minorsOf_1 : decode cX7_minorsOf 1 = .ok (.getfield 35, 3) := by decide +kernel
theorem dX7_minorsOf_4 : decode cX7_minorsOf 4 = .ok (.iconst 0, 1) := by decide +kernel
theorem dX7_minorsOf_5 : decode cX7_minorsOf 5 = .ok (.laload, 1) := by decide +kernel
theorem dX7_minorsOf_6 : decode cX7_minorsOf 6 = .ok (.aload_n 0, 1) := by decide +kernel
theorem dX7_minorsOf_7 : decode cX7_minorsOf 7 = .ok (.getfield 35, 3) := by decide +kernel
theorem dX7_minorsOf_10 : decode cX7_minorsOf 10 = .ok (.iconst 4, 1) := by decide +kernel
theorem dX7_minorsOf_11 : decode cX7_minorsOf 11 = .ok (.laload, 1) := by decide +kernel
theorem dX7_minorsOf_12 : decode cX7_minorsOf 12 = .ok (.lmul, 1) := by decide +kernel
theorem dX7_minorsOf_13 : decode cX7_minorsOf 13 = .ok (.aload_n 0, 1) := by decide +kernel
theorem dX7_minorsOf_14 : decode cX7_minorsOf 14 = .ok (.getfield 35, 3) := by decide +kernel
theorem dX7_minorsOf_17 : decode cX7_minorsOf 17 = .ok (.iconst 1, 1) := by decide +kernel
theorem dX7_minorsOf_18 : decode cX7_minorsOf 18 = .ok (.laload, 1) := by decide +kernel
theorem dX7_minorsOf_19 : decode cX7_minorsOf 19 = .ok (.aload_n 0, 1) := by decide +kernel
theorem dX7_minorsOf_20 : decode cX7_minorsOf 20 = .ok (.getfield 35, 3) := by decide +kernel
theorem dX7_minorsOf_23 : decode cX7_minorsOf 23 = .ok (.iconst 3, 1) := by decide +kernel
theorem dX7_minorsOf_24 : decode cX7_minorsOf 24 = .ok (.laload, 1) := by decide +kernel
theorem dX7_minorsOf_25 : decode cX7_minorsOf 25 = .ok (.lmul, 1) := by decide +kernel
theorem dX7_minorsOf_26 : decode cX7_minorsOf 26 = .ok (.lsub, 1) := by decide +kernel
theorem dX7_minorsOf_27 : decode cX7_minorsOf 27 = .ok (.lstore_n 1, 1) := by decide +kernel
theorem dX7_minorsOf_28 : decode cX7_minorsOf 28 = .ok (.aload_n 0, 1) := by decide +kernel
theorem dX7_minorsOf_29 : decode cX7_minorsOf 29 = .ok (.getfield 101, 3) := by decide +kernel
theorem dX7_minorsOf_32 : decode cX7_minorsOf 32 = .ok (.iconst 2, 1) := by decide +kernel
theorem dX7_minorsOf_33 : decode cX7_minorsOf 33 = .ok (.if_icmp .ne 7, 3) := by decide +kernel
theorem dX7_minorsOf_36 : decode cX7_minorsOf 36 = .ok (.lload_n 1, 1) := by decide +kernel
theorem dX7_minorsOf_37 : decode cX7_minorsOf 37 = .ok (.goto 64, 3) := by decide +kernel
theorem dX7_minorsOf_40 : decode cX7_minorsOf 40 = .ok (.lload_n 1, 1) := by decide +kernel
theorem dX7_minorsOf_41 : decode cX7_minorsOf 41 = .ok (.aload_n 0, 1) := by decide +kernel
theorem dX7_minorsOf_42 : decode cX7_minorsOf 42 = .ok (.getfield 35, 3) := by decide +kernel
theorem dX7_minorsOf_45 : decode cX7_minorsOf 45 = .ok (.iconst 0, 1) := by decide +kernel
theorem dX7_minorsOf_46 : decode cX7_minorsOf 46 = .ok (.laload, 1) := by decide +kernel
theorem dX7_minorsOf_47 : decode cX7_minorsOf 47 = .ok (.aload_n 0, 1) := by decide +kernel
theorem dX7_minorsOf_48 : decode cX7_minorsOf 48 = .ok (.getfield 35, 3) := by decide +kernel
theorem dX7_minorsOf_51 : decode cX7_minorsOf 51 = .ok (.bipush 8, 2) := by decide +kernel
theorem dX7_minorsOf_53 : decode cX7_minorsOf 53 = .ok (.laload, 1) := by decide +kernel
theorem dX7_minorsOf_54 : decode cX7_minorsOf 54 = .ok (.lmul, 1) := by decide +kernel
theorem dX7_minorsOf_55 : decode cX7_minorsOf 55 = .ok (.ladd, 1) := by decide +kernel
theorem dX7_minorsOf_56 : decode cX7_minorsOf 56 = .ok (.aload_n 0, 1) := by decide +kernel
theorem dX7_minorsOf_57 : decode cX7_minorsOf 57 = .ok (.getfield 35, 3) := by decide +kernel
theorem dX7_minorsOf_60 : decode cX7_minorsOf 60 = .ok (.iconst 2, 1) := by decide +kernel
theorem dX7_minorsOf_61 : decode cX7_minorsOf 61 = .ok (.laload, 1) := by decide +kernel
theorem dX7_minorsOf_62 : decode cX7_minorsOf 62 = .ok (.aload_n 0, 1) := by decide +kernel
theorem dX7_minorsOf_63 : decode cX7_minorsOf 63 = .ok (.getfield 35, 3) := by decide +kernel
theorem dX7_minorsOf_66 : decode cX7_minorsOf 66 = .ok (.bipush 6, 2) := by decide +kernel
theorem dX7_minorsOf_68 : decode cX7_minorsOf 68 = .ok (.laload, 1) := by decide +kernel
theorem dX7_minorsOf_69 : decode cX7_minorsOf 69 = .ok (.lmul, 1) := by decide +kernel
theorem dX7_minorsOf_70 : decode cX7_minorsOf 70 = .ok (.lsub, 1) := by decide +kernel
theorem dX7_minorsOf_71 : decode cX7_minorsOf 71 = .ok (.aload_n 0, 1) := by decide +kernel
theorem dX7_minorsOf_72 : decode cX7_minorsOf 72 = .ok (.getfield 35, 3) := by decide +kernel
theorem dX7_minorsOf_75 : decode cX7_minorsOf 75 = .ok (.iconst 4, 1) := by decide +kernel
theorem dX7_minorsOf_76 : decode cX7_minorsOf 76 = .ok (.laload, 1) := by decide +kernel
theorem dX7_minorsOf_77 : decode cX7_minorsOf 77 = .ok (.aload_n 0, 1) := by decide +kernel
theorem dX7_minorsOf_78 : decode cX7_minorsOf 78 = .ok (.getfield 35, 3) := by decide +kernel
theorem dX7_minorsOf_81 : decode cX7_minorsOf 81 = .ok (.bipush 8, 2) := by decide +kernel
theorem dX7_minorsOf_83 : decode cX7_minorsOf 83 = .ok (.laload, 1) := by decide +kernel
theorem dX7_minorsOf_84 : decode cX7_minorsOf 84 = .ok (.lmul, 1) := by decide +kernel
theorem dX7_minorsOf_85 : decode cX7_minorsOf 85 = .ok (.ladd, 1) := by decide +kernel
theorem dX7_minorsOf_86 : decode cX7_minorsOf 86 = .ok (.aload_n 0, 1) := by decide +kernel
theorem dX7_minorsOf_87 : decode cX7_minorsOf 87 = .ok (.getfield 35, 3) := by decide +kernel
theorem dX7_minorsOf_90 : decode cX7_minorsOf 90 = .ok (.iconst 5, 1) := by decide +kernel
theorem dX7_minorsOf_91 : decode cX7_minorsOf 91 = .ok (.laload, 1) := by decide +kernel
theorem dX7_minorsOf_92 : decode cX7_minorsOf 92 = .ok (.aload_n 0, 1) := by decide +kernel
theorem dX7_minorsOf_93 : decode cX7_minorsOf 93 = .ok (.getfield 35, 3) := by decide +kernel
theorem dX7_minorsOf_96 : decode cX7_minorsOf 96 = .ok (.bipush 7, 2) := by decide +kernel
theorem dX7_minorsOf_98 : decode cX7_minorsOf 98 = .ok (.laload, 1) := by decide +kernel
theorem dX7_minorsOf_99 : decode cX7_minorsOf 99 = .ok (.lmul, 1) := by decide +kernel
theorem dX7_minorsOf_100 : decode cX7_minorsOf 100 = .ok (.lsub, 1) := by decide +kernel
theorem dX7_minorsOf_101 : decode cX7_minorsOf 101 = .ok (.lreturn, 1) := by decide +kernel
theorem bX7_minorsOf_0 {l : Launch} {D : va_G} {aI aL : ClassId} {ad : Nat → Nat} {P : sa_P} {I : sa_I} {J : sa_J} {v27 : Int64}  (f27 : ((J 9 0) * (J 9 4)) - ((J 9 1) * (J 9 3)) = v27) (kt : ¬ I 0 1 = (2 : Int32) → Sat (ER l D aI aL ad) M_X7_minorsOf P 40 [(0, .ref (ad 0)), (1, .long v27)] [] I J) (kf : I 0 1 = (2 : Int32) → Sat (ER l D aI aL ad) M_X7_minorsOf P 36 [(1, .long v27)] [] I J) : Sat (ER l D aI aL ad) M_X7_minorsOf P 0 [(0, .ref (ad 0))] [] I J := by
  refine s_aload_n 0 dX7_minorsOf_0 rfl ?_
  refine g_X7_35 dX7_minorsOf_1 rfl ?_
  refine s_iconst (v := 0) dX7_minorsOf_4 rfl ?_
  refine s_eqi (y := nI 0) rfl ?_
  refine s_laloadN aJ_R9 (by decide) (by decide) dX7_minorsOf_5 ?_
  refine s_aload_n 0 dX7_minorsOf_6 rfl ?_
  refine g_X7_35 dX7_minorsOf_7 rfl ?_
  refine s_iconst (v := 4) dX7_minorsOf_10 rfl ?_
  refine s_eqi (y := nI 4) rfl ?_
  refine s_laloadN aJ_R9 (by decide) (by decide) dX7_minorsOf_11 ?_
  refine s_lmul dX7_minorsOf_12 ?_
  refine s_aload_n 0 dX7_minorsOf_13 rfl ?_
  refine g_X7_35 dX7_minorsOf_14 rfl ?_
  refine s_iconst (v := 1) dX7_minorsOf_17 rfl ?_
  refine s_eqi (y := nI 1) rfl ?_
  refine s_laloadN aJ_R9 (by decide) (by decide) dX7_minorsOf_18 ?_
  refine s_aload_n 0 dX7_minorsOf_19 rfl ?_
  refine g_X7_35 dX7_minorsOf_20 rfl ?_
  refine s_iconst (v := 3) dX7_minorsOf_23 rfl ?_
  refine s_eqi (y := nI 3) rfl ?_
  refine s_laloadN aJ_R9 (by decide) (by decide) dX7_minorsOf_24 ?_
  refine s_lmul dX7_minorsOf_25 ?_
  refine s_lsub dX7_minorsOf_26 ?_
  refine s_eql f27 ?_
  refine s_lstore_n [(1, .long v27), (0, .ref (ad 0))] dX7_minorsOf_27 (Nat.lt_of_lt_of_le (Nat.lt_succ_self _) (Nat.le_of_ble_eq_true rfl)) rfl ?_
  refine s_aload_n 1 dX7_minorsOf_28 rfl ?_
  refine g_X7_101 dX7_minorsOf_29 rfl ?_
  refine s_iconst (v := 2) dX7_minorsOf_32 rfl ?_
  refine s_icmp_ne (tgt := 40) dX7_minorsOf_33 (by decide) (fun c => ?_) (fun c => ?_)
  · refine s_pick [1, 0] [(0, .ref (ad 0)), (1, .long v27)] rfl ?_; exact kt c
  · refine s_pick [0] [(1, .long v27)] rfl ?_; exact kf (by first | exact c | exact Classical.not_not.mp c)
theorem bX7_minorsOf_36 {l : Launch} {D : va_G} {aI aL : ClassId} {ad : Nat → Nat} {P : sa_P} {I : sa_I} {J : sa_J} {x1 : Int64}   (k : Sat (ER l D aI aL ad) M_X7_minorsOf P 101 [] [.long x1] I J) : Sat (ER l D aI aL ad) M_X7_minorsOf P 36 [(1, .long x1)] [] I J := by
  refine s_lload_n 0 dX7_minorsOf_36 rfl ?_
  refine s_goto (tgt := 101) dX7_minorsOf_37 (by decide) ?_
  refine s_pick [] [] rfl ?_; exact k
theorem bX7_minorsOf_40 {l : Launch} {D : va_G} {aI aL : ClassId} {ad : Nat → Nat} {P : sa_P} {I : sa_I} {J : sa_J} {x1 : Int64}   (k : Sat (ER l D aI aL ad) M_X7_minorsOf P 101 [] [.long ((((x1 + ((J 9 0) * (J 9 8))) - ((J 9 2) * (J 9 6))) + ((J 9 4) * (J 9 8))) - ((J 9 5) * (J 9 7)))] I J) : Sat (ER l D aI aL ad) M_X7_minorsOf P 40 [(0, .ref (ad 0)), (1, .long x1)] [] I J := by
  refine s_lload_n 1 dX7_minorsOf_40 rfl ?_
  refine s_aload_n 0 dX7_minorsOf_41 rfl ?_
  refine g_X7_35 dX7_minorsOf_42 rfl ?_
  refine s_iconst (v := 0) dX7_minorsOf_45 rfl ?_
  refine s_eqi (y := nI 0) rfl ?_
  refine s_laloadN aJ_R9 (by decide) (by decide) dX7_minorsOf_46 ?_
  refine s_aload_n 0 dX7_minorsOf_47 rfl ?_
  refine g_X7_35 dX7_minorsOf_48 rfl ?_
  refine s_bipush (v := 8) dX7_minorsOf_51 rfl ?_
  refine s_eqi (y := nI 8) rfl ?_
  refine s_laloadN aJ_R9 (by decide) (by decide) dX7_minorsOf_53 ?_
  refine s_lmul dX7_minorsOf_54 ?_
  refine s_ladd dX7_minorsOf_55 ?_
  refine s_aload_n 0 dX7_minorsOf_56 rfl ?_
  refine g_X7_35 dX7_minorsOf_57 rfl ?_
  refine s_iconst (v := 2) dX7_minorsOf_60 rfl ?_
  refine s_eqi (y := nI 2) rfl ?_
  refine s_laloadN aJ_R9 (by decide) (by decide) dX7_minorsOf_61 ?_
  refine s_aload_n 0 dX7_minorsOf_62 rfl ?_
  refine g_X7_35 dX7_minorsOf_63 rfl ?_
  refine s_bipush (v := 6) dX7_minorsOf_66 rfl ?_
  refine s_eqi (y := nI 6) rfl ?_
  refine s_laloadN aJ_R9 (by decide) (by decide) dX7_minorsOf_68 ?_
  refine s_lmul dX7_minorsOf_69 ?_
  refine s_lsub dX7_minorsOf_70 ?_
  refine s_aload_n 0 dX7_minorsOf_71 rfl ?_
  refine g_X7_35 dX7_minorsOf_72 rfl ?_
  refine s_iconst (v := 4) dX7_minorsOf_75 rfl ?_
  refine s_eqi (y := nI 4) rfl ?_
  refine s_laloadN aJ_R9 (by decide) (by decide) dX7_minorsOf_76 ?_
  refine s_aload_n 0 dX7_minorsOf_77 rfl ?_
  refine g_X7_35 dX7_minorsOf_78 rfl ?_
  refine s_bipush (v := 8) dX7_minorsOf_81 rfl ?_
  refine s_eqi (y := nI 8) rfl ?_
  refine s_laloadN aJ_R9 (by decide) (by decide) dX7_minorsOf_83 ?_
  refine s_lmul dX7_minorsOf_84 ?_
  refine s_ladd dX7_minorsOf_85 ?_
  refine s_aload_n 0 dX7_minorsOf_86 rfl ?_
  refine g_X7_35 dX7_minorsOf_87 rfl ?_
  refine s_iconst (v := 5) dX7_minorsOf_90 rfl ?_
  refine s_eqi (y := nI 5) rfl ?_
  refine s_laloadN aJ_R9 (by decide) (by decide) dX7_minorsOf_91 ?_
  refine s_aload_n 0 dX7_minorsOf_92 rfl ?_
  refine g_X7_35 dX7_minorsOf_93 rfl ?_
  refine s_bipush (v := 7) dX7_minorsOf_96 rfl ?_
  refine s_eqi (y := nI 7) rfl ?_
  refine s_laloadN aJ_R9 (by decide) (by decide) dX7_minorsOf_98 ?_
  refine s_lmul dX7_minorsOf_99 ?_
  refine s_lsub dX7_minorsOf_100 ?_
  refine s_pick [] [] rfl ?_; exact k
theorem bX7_minorsOf_101 {l : Launch} {D : va_G} {aI aL : ClassId} {ad : Nat → Nat} {P : sa_P} {I : sa_I} {J : sa_J} {s0 : Int64}   (k : P (some (.long s0)) I J) : Sat (ER l D aI aL ad) M_X7_minorsOf P 101 [] [.long s0] I J := by
  exact s_lret rfl dX7_minorsOf_101 k
/-! X7_normOf -/
theorem dX7_normOf_0 : decode cX7_normOf 0 = .ok (.aload_n 0, 1) := by decide +kernel
theorem dX7_normOf_1 : decode cX7_normOf 1 = .ok (.getfield 101, 3) := by decide +kernel
theorem dX7_normOf_4 : decode cX7_normOf 4 = .ok (.iconst 2, 1) := by decide +kernel
theorem dX7_normOf_5 : decode cX7_normOf 5 = .ok (.if_icmp .ne 31, 3) := by decide +kernel
theorem dX7_normOf_8 : decode cX7_normOf 8 = .ok (.aload_n 0, 1) := by decide +kernel
theorem dX7_normOf_9 : decode cX7_normOf 9 = .ok (.getfield 35, 3) := by decide +kernel
theorem dX7_normOf_12 : decode cX7_normOf 12 = .ok (.iconst 0, 1) := by decide +kernel
theorem dX7_normOf_13 : decode cX7_normOf 13 = .ok (.laload, 1) := by decide +kernel
theorem dX7_normOf_14 : decode cX7_normOf 14 = .ok (.aload_n 0, 1) := by decide +kernel
theorem dX7_normOf_15 : decode cX7_normOf 15 = .ok (.getfield 35, 3) := by decide +kernel
theorem dX7_normOf_18 : decode cX7_normOf 18 = .ok (.iconst 4, 1) := by decide +kernel
theorem dX7_normOf_19 : decode cX7_normOf 19 = .ok (.laload, 1) := by decide +kernel
theorem dX7_normOf_20 : decode cX7_normOf 20 = .ok (.lmul, 1) := by decide +kernel
theorem dX7_normOf_21 : decode cX7_normOf 21 = .ok (.aload_n 0, 1) := by decide +kernel
theorem dX7_normOf_22 : decode cX7_normOf 22 = .ok (.getfield 35, 3) := by decide +kernel
theorem dX7_normOf_25 : decode cX7_normOf 25 = .ok (.iconst 1, 1) := by decide +kernel
theorem dX7_normOf_26 : decode cX7_normOf 26 = .ok (.laload, 1) := by decide +kernel
theorem dX7_normOf_27 : decode cX7_normOf 27 = .ok (.aload_n 0, 1) := by decide +kernel
theorem dX7_normOf_28 : decode cX7_normOf 28 = .ok (.getfield 35, 3) := by decide +kernel
theorem dX7_normOf_31 : decode cX7_normOf 31 = .ok (.iconst 3, 1) := by decide +kernel
theorem dX7_normOf_32 : decode cX7_normOf 32 = .ok (.laload, 1) := by decide +kernel
theorem dX7_normOf_33 : decode cX7_normOf 33 = .ok (.lmul, 1) := by decide +kernel
theorem dX7_normOf_34 : decode cX7_normOf 34 = .ok (.lsub, 1) := by decide +kernel
theorem dX7_normOf_35 : decode cX7_normOf 35 = .ok (.lreturn, 1) := by decide +kernel
theorem dX7_normOf_36 : decode cX7_normOf 36 = .ok (.aload_n 0, 1) := by decide +kernel
theorem dX7_normOf_37 : decode cX7_normOf 37 = .ok (.getfield 35, 3) := by decide +kernel
theorem dX7_normOf_40 : decode cX7_normOf 40 = .ok (.iconst 0, 1) := by decide +kernel
theorem dX7_normOf_41 : decode cX7_normOf 41 = .ok (.laload, 1) := by decide +kernel
theorem dX7_normOf_42 : decode cX7_normOf 42 = .ok (.aload_n 0, 1) := by decide +kernel
theorem dX7_normOf_43 : decode cX7_normOf 43 = .ok (.getfield 35, 3) := by decide +kernel
theorem dX7_normOf_46 : decode cX7_normOf 46 = .ok (.iconst 4, 1) := by decide +kernel
theorem dX7_normOf_47 : decode cX7_normOf 47 = .ok (.laload, 1) := by decide +kernel
theorem dX7_normOf_48 : decode cX7_normOf 48 = .ok (.aload_n 0, 1) := by decide +kernel
theorem dX7_normOf_49 : decode cX7_normOf 49 = .ok (.getfield 35, 3) := by decide +kernel
theorem dX7_normOf_52 : decode cX7_normOf 52 = .ok (.bipush 8, 2) := by decide +kernel
theorem dX7_normOf_54 : decode cX7_normOf 54 = .ok (.laload, 1) := by decide +kernel
theorem dX7_normOf_55 : decode cX7_normOf 55 = .ok (.lmul, 1) := by decide +kernel
theorem dX7_normOf_56 : decode cX7_normOf 56 = .ok (.aload_n 0, 1) := by decide +kernel
theorem dX7_normOf_57 : decode cX7_normOf 57 = .ok (.getfield 35, 3) := by decide +kernel
theorem dX7_normOf_60 : decode cX7_normOf 60 = .ok (.iconst 5, 1) := by decide +kernel
theorem dX7_normOf_61 : decode cX7_normOf 61 = .ok (.laload, 1) := by decide +kernel
theorem dX7_normOf_62 : decode cX7_normOf 62 = .ok (.aload_n 0, 1) := by decide +kernel
theorem dX7_normOf_63 : decode cX7_normOf 63 = .ok (.getfield 35, 3) := by decide +kernel
theorem dX7_normOf_66 : decode cX7_normOf 66 = .ok (.bipush 7, 2) := by decide +kernel
theorem dX7_normOf_68 : decode cX7_normOf 68 = .ok (.laload, 1) := by decide +kernel
theorem dX7_normOf_69 : decode cX7_normOf 69 = .ok (.lmul, 1) := by decide +kernel
theorem dX7_normOf_70 : decode cX7_normOf 70 = .ok (.lsub, 1) := by decide +kernel
theorem dX7_normOf_71 : decode cX7_normOf 71 = .ok (.lmul, 1) := by decide +kernel
theorem dX7_normOf_72 : decode cX7_normOf 72 = .ok (.lstore_n 1, 1) := by decide +kernel
theorem dX7_normOf_73 : decode cX7_normOf 73 = .ok (.aload_n 0, 1) := by decide +kernel
theorem dX7_normOf_74 : decode cX7_normOf 74 = .ok (.getfield 35, 3) := by decide +kernel
theorem dX7_normOf_77 : decode cX7_normOf 77 = .ok (.iconst 1, 1) := by decide +kernel
theorem dX7_normOf_78 : decode cX7_normOf 78 = .ok (.laload, 1) := by decide +kernel
theorem dX7_normOf_79 : decode cX7_normOf 79 = .ok (.aload_n 0, 1) := by decide +kernel
theorem dX7_normOf_80 : decode cX7_normOf 80 = .ok (.getfield 35, 3) := by decide +kernel
theorem dX7_normOf_83 : decode cX7_normOf 83 = .ok (.iconst 3, 1) := by decide +kernel
theorem dX7_normOf_84 : decode cX7_normOf 84 = .ok (.laload, 1) := by decide +kernel
theorem dX7_normOf_85 : decode cX7_normOf 85 = .ok (.aload_n 0, 1) := by decide +kernel
theorem dX7_normOf_86 : decode cX7_normOf 86 = .ok (.getfield 35, 3) := by decide +kernel
theorem dX7_normOf_89 : decode cX7_normOf 89 = .ok (.bipush 8, 2) := by decide +kernel
theorem dX7_normOf_91 : decode cX7_normOf 91 = .ok (.laload, 1) := by decide +kernel
theorem dX7_normOf_92 : decode cX7_normOf 92 = .ok (.lmul, 1) := by decide +kernel
theorem dX7_normOf_93 : decode cX7_normOf 93 = .ok (.aload_n 0, 1) := by decide +kernel
theorem dX7_normOf_94 : decode cX7_normOf 94 = .ok (.getfield 35, 3) := by decide +kernel
theorem dX7_normOf_97 : decode cX7_normOf 97 = .ok (.iconst 5, 1) := by decide +kernel
theorem dX7_normOf_98 : decode cX7_normOf 98 = .ok (.laload, 1) := by decide +kernel
theorem dX7_normOf_99 : decode cX7_normOf 99 = .ok (.aload_n 0, 1) := by decide +kernel
theorem dX7_normOf_100 : decode cX7_normOf 100 = .ok (.getfield 35, 3) := by decide +kernel
theorem dX7_normOf_103 : decode cX7_normOf 103 = .ok (.bipush 6, 2) := by decide +kernel
theorem dX7_normOf_105 : decode cX7_normOf 105 = .ok (.laload, 1) := by decide +kernel
theorem dX7_normOf_106 : decode cX7_normOf 106 = .ok (.lmul, 1) := by decide +kernel
theorem dX7_normOf_107 : decode cX7_normOf 107 = .ok (.lsub, 1) := by decide +kernel
theorem dX7_normOf_108 : decode cX7_normOf 108 = .ok (.lmul, 1) := by decide +kernel
theorem dX7_normOf_109 : decode cX7_normOf 109 = .ok (.lstore_n 3, 1) := by decide +kernel
theorem dX7_normOf_110 : decode cX7_normOf 110 = .ok (.lload_n 1, 1) := by decide +kernel
theorem dX7_normOf_111 : decode cX7_normOf 111 = .ok (.lload_n 3, 1) := by decide +kernel
theorem dX7_normOf_112 : decode cX7_normOf 112 = .ok (.lsub, 1) := by decide +kernel
theorem dX7_normOf_113 : decode cX7_normOf 113 = .ok (.aload_n 0, 1) := by decide +kernel
theorem dX7_normOf_114 : decode cX7_normOf 114 = .ok (.getfield 35, 3) := by decide +kernel
theorem dX7_normOf_117 : decode cX7_normOf 117 = .ok (.iconst 2, 1) := by decide +kernel
theorem dX7_normOf_118 : decode cX7_normOf 118 = .ok (.laload, 1) := by decide +kernel
theorem dX7_normOf_119 : decode cX7_normOf 119 = .ok (.aload_n 0, 1) := by decide +kernel
theorem dX7_normOf_120 : decode cX7_normOf 120 = .ok (.getfield 35, 3) := by decide +kernel
theorem dX7_normOf_123 : decode cX7_normOf 123 = .ok (.iconst 3, 1) := by decide +kernel
theorem dX7_normOf_124 : decode cX7_normOf 124 = .ok (.laload, 1) := by decide +kernel
theorem dX7_normOf_125 : decode cX7_normOf 125 = .ok (.aload_n 0, 1) := by decide +kernel
theorem dX7_normOf_126 : decode cX7_normOf 126 = .ok (.getfield 35, 3) := by decide +kernel
theorem dX7_normOf_129 : decode cX7_normOf 129 = .ok (.bipush 7, 2) := by decide +kernel
theorem dX7_normOf_131 : decode cX7_normOf 131 = .ok (.laload, 1) := by decide +kernel
theorem dX7_normOf_132 : decode cX7_normOf 132 = .ok (.lmul, 1) := by decide +kernel
theorem dX7_normOf_133 : decode cX7_normOf 133 = .ok (.aload_n 0, 1) := by decide +kernel
theorem dX7_normOf_134 : decode cX7_normOf 134 = .ok (.getfield 35, 3) := by decide +kernel
theorem dX7_normOf_137 : decode cX7_normOf 137 = .ok (.iconst 4, 1) := by decide +kernel
theorem dX7_normOf_138 : decode cX7_normOf 138 = .ok (.laload, 1) := by decide +kernel
theorem dX7_normOf_139 : decode cX7_normOf 139 = .ok (.aload_n 0, 1) := by decide +kernel
theorem dX7_normOf_140 : decode cX7_normOf 140 = .ok (.getfield 35, 3) := by decide +kernel
theorem dX7_normOf_143 : decode cX7_normOf 143 = .ok (.bipush 6, 2) := by decide +kernel
theorem dX7_normOf_145 : decode cX7_normOf 145 = .ok (.laload, 1) := by decide +kernel
theorem dX7_normOf_146 : decode cX7_normOf 146 = .ok (.lmul, 1) := by decide +kernel
theorem dX7_normOf_147 : decode cX7_normOf 147 = .ok (.lsub, 1) := by decide +kernel
theorem dX7_normOf_148 : decode cX7_normOf 148 = .ok (.lmul, 1) := by decide +kernel
theorem dX7_normOf_149 : decode cX7_normOf 149 = .ok (.ladd, 1) := by decide +kernel
theorem dX7_normOf_150 : decode cX7_normOf 150 = .ok (.lreturn, 1) := by decide +kernel
theorem bX7_normOf_0 {l : Launch} {D : va_G} {aI aL : ClassId} {ad : Nat → Nat} {P : sa_P} {I : sa_I} {J : sa_J}    (kt : ¬ I 0 1 = (2 : Int32) → Sat (ER l D aI aL ad) M_X7_normOf P 36 [(0, .ref (ad 0))] [] I J) (kf : I 0 1 = (2 : Int32) → Sat (ER l D aI aL ad) M_X7_normOf P 8 [(0, .ref (ad 0))] [] I J) : Sat (ER l D aI aL ad) M_X7_normOf P 0 [(0, .ref (ad 0))] [] I J := by
  refine s_aload_n 0 dX7_normOf_0 rfl ?_
  refine g_X7_101 dX7_normOf_1 rfl ?_
  refine s_iconst (v := 2) dX7_normOf_4 rfl ?_
  refine s_icmp_ne (tgt := 36) dX7_normOf_5 (by decide) (fun c => ?_) (fun c => ?_)
  · exact kt c
  · exact kf (by first | exact c | exact Classical.not_not.mp c)
theorem bX7_normOf_8 {l : Launch} {D : va_G} {aI aL : ClassId} {ad : Nat → Nat} {P : sa_P} {I : sa_I} {J : sa_J}    (k : P (some (.long (((J 9 0) * (J 9 4)) - ((J 9 1) * (J 9 3))))) I J) : Sat (ER l D aI aL ad) M_X7_normOf P 8 [(0, .ref (ad 0))] [] I J := by
  refine s_aload_n 0 dX7_normOf_8 rfl ?_
  refine g_X7_35 dX7_normOf_9 rfl ?_
  refine s_iconst (v := 0) dX7_normOf_12 rfl ?_
  refine s_eqi (y := nI 0) rfl ?_
  refine s_laloadN aJ_R9 (by decide) (by decide) dX7_normOf_13 ?_
  refine s_aload_n 0 dX7_normOf_14 rfl ?_
  refine g_X7_35 dX7_normOf_15 rfl ?_
  refine s_iconst (v := 4) dX7_normOf_18 rfl ?_
  refine s_eqi (y := nI 4) rfl ?_
  refine s_laloadN aJ_R9 (by decide) (by decide) dX7_normOf_19 ?_
  refine s_lmul dX7_normOf_20 ?_
  refine s_aload_n 0 dX7_normOf_21 rfl ?_
  refine g_X7_35 dX7_normOf_22 rfl ?_
  refine s_iconst (v := 1) dX7_normOf_25 rfl ?_
  refine s_eqi (y := nI 1) rfl ?_
  refine s_laloadN aJ_R9 (by decide) (by decide) dX7_normOf_26 ?_
  refine s_aload_n 0 dX7_normOf_27 rfl ?_
  refine g_X7_35 dX7_normOf_28 rfl ?_
  refine s_iconst (v := 3) dX7_normOf_31 rfl ?_
  refine s_eqi (y := nI 3) rfl ?_
  refine s_laloadN aJ_R9 (by decide) (by decide) dX7_normOf_32 ?_
  refine s_lmul dX7_normOf_33 ?_
  refine s_lsub dX7_normOf_34 ?_
  exact s_lret rfl dX7_normOf_35 k
theorem bX7_normOf_36 {l : Launch} {D : va_G} {aI aL : ClassId} {ad : Nat → Nat} {P : sa_P} {I : sa_I} {J : sa_J} {v72 : Int64} {v109 : Int64}  (f72 : (J 9 0) * (((J 9 4) * (J 9 8)) - ((J 9 5) * (J 9 7))) = v72) (f109 : (J 9 1) * (((J 9 3) * (J 9 8)) - ((J 9 5) * (J 9 6))) = v109) (k : P (some (.long ((v72 - v109) + ((J 9 2) * (((J 9 3) * (J 9 7)) - ((J 9 4) * (J 9 6))))))) I J) : Sat (ER l D aI aL ad) M_X7_normOf P 36 [(0, .ref (ad 0))] [] I J := by
  refine s_aload_n 0 dX7_normOf_36 rfl ?_
  refine g_X7_35 dX7_normOf_37 rfl ?_
  refine s_iconst (v := 0) dX7_normOf_40 rfl ?_
  refine s_eqi (y := nI 0) rfl ?_
  refine s_laloadN aJ_R9 (by decide) (by decide) dX7_normOf_41 ?_
  refine s_aload_n 0 dX7_normOf_42 rfl ?_
  refine g_X7_35 dX7_normOf_43 rfl ?_
  refine s_iconst (v := 4) dX7_normOf_46 rfl ?_
  refine s_eqi (y := nI 4) rfl ?_
  refine s_laloadN aJ_R9 (by decide) (by decide) dX7_normOf_47 ?_
  refine s_aload_n 0 dX7_normOf_48 rfl ?_
  refine g_X7_35 dX7_normOf_49 rfl ?_
  refine s_bipush (v := 8) dX7_normOf_52 rfl ?_
  refine s_eqi (y := nI 8) rfl ?_
  refine s_laloadN aJ_R9 (by decide) (by decide) dX7_normOf_54 ?_
  refine s_lmul dX7_normOf_55 ?_
  refine s_aload_n 0 dX7_normOf_56 rfl ?_
  refine g_X7_35 dX7_normOf_57 rfl ?_
  refine s_iconst (v := 5) dX7_normOf_60 rfl ?_
  refine s_eqi (y := nI 5) rfl ?_
  refine s_laloadN aJ_R9 (by decide) (by decide) dX7_normOf_61 ?_
  refine s_aload_n 0 dX7_normOf_62 rfl ?_
  refine g_X7_35 dX7_normOf_63 rfl ?_
  refine s_bipush (v := 7) dX7_normOf_66 rfl ?_
  refine s_eqi (y := nI 7) rfl ?_
  refine s_laloadN aJ_R9 (by decide) (by decide) dX7_normOf_68 ?_
  refine s_lmul dX7_normOf_69 ?_
  refine s_lsub dX7_normOf_70 ?_
  refine s_lmul dX7_normOf_71 ?_
  refine s_eql f72 ?_
  refine s_lstore_n [(1, .long v72), (0, .ref (ad 0))] dX7_normOf_72 (Nat.lt_of_lt_of_le (Nat.lt_succ_self _) (Nat.le_of_ble_eq_true rfl)) rfl ?_
  refine s_aload_n 1 dX7_normOf_73 rfl ?_
  refine g_X7_35 dX7_normOf_74 rfl ?_
  refine s_iconst (v := 1) dX7_normOf_77 rfl ?_
  refine s_eqi (y := nI 1) rfl ?_
  refine s_laloadN aJ_R9 (by decide) (by decide) dX7_normOf_78 ?_
  refine s_aload_n 1 dX7_normOf_79 rfl ?_
  refine g_X7_35 dX7_normOf_80 rfl ?_
  refine s_iconst (v := 3) dX7_normOf_83 rfl ?_
  refine s_eqi (y := nI 3) rfl ?_
  refine s_laloadN aJ_R9 (by decide) (by decide) dX7_normOf_84 ?_
  refine s_aload_n 1 dX7_normOf_85 rfl ?_
  refine g_X7_35 dX7_normOf_86 rfl ?_
  refine s_bipush (v := 8) dX7_normOf_89 rfl ?_
  refine s_eqi (y := nI 8) rfl ?_
  refine s_laloadN aJ_R9 (by decide) (by decide) dX7_normOf_91 ?_
  refine s_lmul dX7_normOf_92 ?_
  refine s_aload_n 1 dX7_normOf_93 rfl ?_
  refine g_X7_35 dX7_normOf_94 rfl ?_
  refine s_iconst (v := 5) dX7_normOf_97 rfl ?_
  refine s_eqi (y := nI 5) rfl ?_
  refine s_laloadN aJ_R9 (by decide) (by decide) dX7_normOf_98 ?_
  refine s_aload_n 1 dX7_normOf_99 rfl ?_
  refine g_X7_35 dX7_normOf_100 rfl ?_
  refine s_bipush (v := 6) dX7_normOf_103 rfl ?_
  refine s_eqi (y := nI 6) rfl ?_
  refine s_laloadN aJ_R9 (by decide) (by decide) dX7_normOf_105 ?_
  refine s_lmul dX7_normOf_106 ?_
  refine s_lsub dX7_normOf_107 ?_
  refine s_lmul dX7_normOf_108 ?_
  refine s_eql f109 ?_
  refine s_lstore_n [(3, .long v109), (1, .long v72), (0, .ref (ad 0))] dX7_normOf_109 (Nat.lt_of_lt_of_le (Nat.lt_succ_self _) (Nat.le_of_ble_eq_true rfl)) rfl ?_
  refine s_lload_n 1 dX7_normOf_110 rfl ?_
  refine s_lload_n 0 dX7_normOf_111 rfl ?_
  refine s_lsub dX7_normOf_112 ?_
  refine s_aload_n 2 dX7_normOf_113 rfl ?_
  refine g_X7_35 dX7_normOf_114 rfl ?_
  refine s_iconst (v := 2) dX7_normOf_117 rfl ?_
  refine s_eqi (y := nI 2) rfl ?_
  refine s_laloadN aJ_R9 (by decide) (by decide) dX7_normOf_118 ?_
  refine s_aload_n 2 dX7_normOf_119 rfl ?_
  refine g_X7_35 dX7_normOf_120 rfl ?_
  refine s_iconst (v := 3) dX7_normOf_123 rfl ?_
  refine s_eqi (y := nI 3) rfl ?_
  refine s_laloadN aJ_R9 (by decide) (by decide) dX7_normOf_124 ?_
  refine s_aload_n 2 dX7_normOf_125 rfl ?_
  refine g_X7_35 dX7_normOf_126 rfl ?_
  refine s_bipush (v := 7) dX7_normOf_129 rfl ?_
  refine s_eqi (y := nI 7) rfl ?_
  refine s_laloadN aJ_R9 (by decide) (by decide) dX7_normOf_131 ?_
  refine s_lmul dX7_normOf_132 ?_
  refine s_aload_n 2 dX7_normOf_133 rfl ?_
  refine g_X7_35 dX7_normOf_134 rfl ?_
  refine s_iconst (v := 4) dX7_normOf_137 rfl ?_
  refine s_eqi (y := nI 4) rfl ?_
  refine s_laloadN aJ_R9 (by decide) (by decide) dX7_normOf_138 ?_
  refine s_aload_n 2 dX7_normOf_139 rfl ?_
  refine g_X7_35 dX7_normOf_140 rfl ?_
  refine s_bipush (v := 6) dX7_normOf_143 rfl ?_
  refine s_eqi (y := nI 6) rfl ?_
  refine s_laloadN aJ_R9 (by decide) (by decide) dX7_normOf_145 ?_
  refine s_lmul dX7_normOf_146 ?_
  refine s_lsub dX7_normOf_147 ?_
  refine s_lmul dX7_normOf_148 ?_
  refine s_ladd dX7_normOf_149 ?_
  exact s_lret rfl dX7_normOf_150 k
/-! X7_isWhole -/
theorem dX7_isWhole_0 : decode cX7_isWhole 0 = .ok (.aload_n 0, 1) := by decide +kernel
theorem dX7_isWhole_1 : decode cX7_isWhole 1 = .ok (.getfield 29, 3) := by decide +kernel
theorem dX7_isWhole_4 : decode cX7_isWhole 4 = .ok (.iconst 3, 1) := by decide +kernel
theorem dX7_isWhole_5 : decode cX7_isWhole 5 = .ok (.laload, 1) := by decide +kernel
theorem dX7_isWhole_6 : decode cX7_isWhole 6 = .ok (.lstore_n 1, 1) := by decide +kernel
theorem dX7_isWhole_7 : decode cX7_isWhole 7 = .ok (.iconst 0, 1) := by decide +kernel
theorem dX7_isWhole_8 : decode cX7_isWhole 8 = .ok (.istore_n 3, 1) := by decide +kernel
theorem dX7_isWhole_9 : decode cX7_isWhole 9 = .ok (.iload_n 3, 1) := by decide +kernel
theorem dX7_isWhole_10 : decode cX7_isWhole 10 = .ok (.aload_n 0, 1) := by decide +kernel
theorem dX7_isWhole_11 : decode cX7_isWhole 11 = .ok (.getfield 101, 3) := by decide +kernel
theorem dX7_isWhole_14 : decode cX7_isWhole 14 = .ok (.if_icmp .ge 110, 3) := by decide +kernel
theorem dX7_isWhole_17 : decode cX7_isWhole 17 = .ok (.iconst 0, 1) := by decide +kernel
theorem dX7_isWhole_18 : decode cX7_isWhole 18 = .ok (.istore 4, 2) := by decide +kernel
theorem dX7_isWhole_20 : decode cX7_isWhole 20 = .ok (.iload 4, 2) := by decide +kernel
theorem dX7_isWhole_22 : decode cX7_isWhole 22 = .ok (.iconst 5, 1) := by decide +kernel
theorem dX7_isWhole_23 : decode cX7_isWhole 23 = .ok (.if_icmp .ge 17, 3) := by decide +kernel
theorem dX7_isWhole_26 : decode cX7_isWhole 26 = .ok (.aload_n 0, 1) := by decide +kernel
theorem dX7_isWhole_27 : decode cX7_isWhole 27 = .ok (.getfield 32, 3) := by decide +kernel
theorem dX7_isWhole_30 : decode cX7_isWhole 30 = .ok (.iload 4, 2) := by decide +kernel
theorem dX7_isWhole_32 : decode cX7_isWhole 32 = .ok (.lconst 0, 1) := by decide +kernel
theorem dX7_isWhole_33 : decode cX7_isWhole 33 = .ok (.lastore, 1) := by decide +kernel
theorem dX7_isWhole_34 : decode cX7_isWhole 34 = .ok (.iinc 4 1, 3) := by decide +kernel
theorem dX7_isWhole_37 : decode cX7_isWhole 37 = .ok (.goto (-17), 3) := by decide +kernel
theorem dX7_isWhole_40 : decode cX7_isWhole 40 = .ok (.iconst 0, 1) := by decide +kernel
theorem dX7_isWhole_41 : decode cX7_isWhole 41 = .ok (.istore 4, 2) := by decide +kernel
theorem dX7_isWhole_43 : decode cX7_isWhole 43 = .ok (.iload 4, 2) := by decide +kernel
theorem dX7_isWhole_45 : decode cX7_isWhole 45 = .ok (.aload_n 0, 1) := by decide +kernel
theorem dX7_isWhole_46 : decode cX7_isWhole 46 = .ok (.getfield 101, 3) := by decide +kernel
theorem dX7_isWhole_49 : decode cX7_isWhole 49 = .ok (.if_icmp .ge 29, 3) := by decide +kernel
theorem dX7_isWhole_52 : decode cX7_isWhole 52 = .ok (.aload_n 0, 1) := by decide +kernel
theorem dX7_isWhole_53 : decode cX7_isWhole 53 = .ok (.getfield 32, 3) := by decide +kernel
theorem dX7_isWhole_56 : decode cX7_isWhole 56 = .ok (.iload_n 3, 1) := by decide +kernel
theorem dX7_isWhole_57 : decode cX7_isWhole 57 = .ok (.iload 4, 2) := by decide +kernel
theorem dX7_isWhole_59 : decode cX7_isWhole 59 = .ok (.iadd, 1) := by decide +kernel
theorem dX7_isWhole_60 : decode cX7_isWhole 60 = .ok (.aload_n 0, 1) := by decide +kernel
theorem dX7_isWhole_61 : decode cX7_isWhole 61 = .ok (.getfield 29, 3) := by decide +kernel
theorem dX7_isWhole_64 : decode cX7_isWhole 64 = .ok (.iload 4, 2) := by decide +kernel
theorem dX7_isWhole_66 : decode cX7_isWhole 66 = .ok (.laload, 1) := by decide +kernel
theorem dX7_isWhole_67 : decode cX7_isWhole 67 = .ok (.lload_n 1, 1) := by decide +kernel
theorem dX7_isWhole_68 : decode cX7_isWhole 68 = .ok (.invokestatic 155, 3) := by decide +kernel
theorem dX7_isWhole_71 : decode cX7_isWhole 71 = .ok (.lastore, 1) := by decide +kernel
theorem dX7_isWhole_72 : decode cX7_isWhole 72 = .ok (.iinc 4 1, 3) := by decide +kernel
theorem dX7_isWhole_75 : decode cX7_isWhole 75 = .ok (.goto (-32), 3) := by decide +kernel
theorem dX7_isWhole_78 : decode cX7_isWhole 78 = .ok (.aload_n 0, 1) := by decide +kernel
theorem dX7_isWhole_79 : decode cX7_isWhole 79 = .ok (.invokevirtual 186, 3) := by decide +kernel
theorem dX7_isWhole_82 : decode cX7_isWhole 82 = .ok (.iconst 0, 1) := by decide +kernel
theorem dX7_isWhole_83 : decode cX7_isWhole 83 = .ok (.istore 4, 2) := by decide +kernel
theorem dX7_isWhole_85 : decode cX7_isWhole 85 = .ok (.iload 4, 2) := by decide +kernel
theorem dX7_isWhole_87 : decode cX7_isWhole 87 = .ok (.aload_n 0, 1) := by decide +kernel
theorem dX7_isWhole_88 : decode cX7_isWhole 88 = .ok (.getfield 101, 3) := by decide +kernel
theorem dX7_isWhole_91 : decode cX7_isWhole 91 = .ok (.if_icmp .ge 27, 3) := by decide +kernel
theorem dX7_isWhole_94 : decode cX7_isWhole 94 = .ok (.aload_n 0, 1) := by decide +kernel
theorem dX7_isWhole_95 : decode cX7_isWhole 95 = .ok (.getfield 35, 3) := by decide +kernel
theorem dX7_isWhole_98 : decode cX7_isWhole 98 = .ok (.iconst 3, 1) := by decide +kernel
theorem dX7_isWhole_99 : decode cX7_isWhole 99 = .ok (.iload_n 3, 1) := by decide +kernel
theorem dX7_isWhole_100 : decode cX7_isWhole 100 = .ok (.imul, 1) := by decide +kernel
theorem dX7_isWhole_101 : decode cX7_isWhole 101 = .ok (.iload 4, 2) := by decide +kernel
theorem dX7_isWhole_103 : decode cX7_isWhole 103 = .ok (.iadd, 1) := by decide +kernel
theorem dX7_isWhole_104 : decode cX7_isWhole 104 = .ok (.aload_n 0, 1) := by decide +kernel
theorem dX7_isWhole_105 : decode cX7_isWhole 105 = .ok (.getfield 32, 3) := by decide +kernel
theorem dX7_isWhole_108 : decode cX7_isWhole 108 = .ok (.iload 4, 2) := by decide +kernel
theorem dX7_isWhole_110 : decode cX7_isWhole 110 = .ok (.laload, 1) := by decide +kernel
theorem dX7_isWhole_111 : decode cX7_isWhole 111 = .ok (.lastore, 1) := by decide +kernel
theorem dX7_isWhole_112 : decode cX7_isWhole 112 = .ok (.iinc 4 1, 3) := by decide +kernel
theorem dX7_isWhole_115 : decode cX7_isWhole 115 = .ok (.goto (-30), 3) := by decide +kernel
theorem dX7_isWhole_118 : decode cX7_isWhole 118 = .ok (.iinc 3 1, 3) := by decide +kernel
theorem dX7_isWhole_121 : decode cX7_isWhole 121 = .ok (.goto (-112), 3) := by decide +kernel
theorem dX7_isWhole_124 : decode cX7_isWhole 124 = .ok (.aload_n 0, 1) := by decide +kernel
theorem dX7_isWhole_125 : decode cX7_isWhole 125 = .ok (.invokevirtual 189, 3) := by decide +kernel
theorem dX7_isWhole_128 : decode cX7_isWhole 128 = .ok (.lload_n 1, 1) := by decide +kernel
theorem dX7_isWhole_129 : decode cX7_isWhole 129 = .ok (.lrem, 1) := by decide +kernel
theorem dX7_isWhole_130 : decode cX7_isWhole 130 = .ok (.lconst 0, 1) := by decide +kernel
theorem dX7_isWhole_131 : decode cX7_isWhole 131 = .ok (.lcmp, 1) := by decide +kernel
theorem dX7_isWhole_132 : decode cX7_isWhole 132 = .ok (.ifCond .eq 5, 3) := by decide +kernel
theorem dX7_isWhole_135 : decode cX7_isWhole 135 = .ok (.iconst 0, 1) := by decide +kernel
theorem dX7_isWhole_136 : decode cX7_isWhole 136 = .ok (.ireturn, 1) := by decide +kernel
theorem dX7_isWhole_137 : decode cX7_isWhole 137 = .ok (.aload_n 0, 1) := by decide +kernel
theorem dX7_isWhole_138 : decode cX7_isWhole 138 = .ok (.getfield 101, 3) := by decide +kernel
theorem dX7_isWhole_141 : decode cX7_isWhole 141 = .ok (.iconst 2, 1) := by decide +kernel
theorem dX7_isWhole_142 : decode cX7_isWhole 142 = .ok (.if_icmp .ne 22, 3) := by decide +kernel
theorem dX7_isWhole_145 : decode cX7_isWhole 145 = .ok (.aload_n 0, 1) := by decide +kernel
theorem dX7_isWhole_146 : decode cX7_isWhole 146 = .ok (.invokevirtual 193, 3) := by decide +kernel
theorem dX7_isWhole_149 : decode cX7_isWhole 149 = .ok (.lload_n 1, 1) := by decide +kernel
theorem dX7_isWhole_150 : decode cX7_isWhole 150 = .ok (.lload_n 1, 1) := by decide +kernel
theorem dX7_isWhole_151 : decode cX7_isWhole 151 = .ok (.lmul, 1) := by decide +kernel
theorem dX7_isWhole_152 : decode cX7_isWhole 152 = .ok (.lrem, 1) := by decide +kernel
theorem dX7_isWhole_153 : decode cX7_isWhole 153 = .ok (.lconst 0, 1) := by decide +kernel
theorem dX7_isWhole_154 : decode cX7_isWhole 154 = .ok (.lcmp, 1) := by decide +kernel
theorem dX7_isWhole_155 : decode cX7_isWhole 155 = .ok (.ifCond .ne 7, 3) := by decide +kernel
theorem dX7_isWhole_158 : decode cX7_isWhole 158 = .ok (.iconst 1, 1) := by decide +kernel
theorem dX7_isWhole_159 : decode cX7_isWhole 159 = .ok (.goto 4, 3) := by decide +kernel
theorem dX7_isWhole_162 : decode cX7_isWhole 162 = .ok (.iconst 0, 1) := by decide +kernel
theorem dX7_isWhole_163 : decode cX7_isWhole 163 = .ok (.ireturn, 1) := by decide +kernel
theorem dX7_isWhole_164 : decode cX7_isWhole 164 = .ok (.aload_n 0, 1) := by decide +kernel
theorem dX7_isWhole_165 : decode cX7_isWhole 165 = .ok (.invokevirtual 196, 3) := by decide +kernel
theorem dX7_isWhole_168 : decode cX7_isWhole 168 = .ok (.lload_n 1, 1) := by decide +kernel
theorem dX7_isWhole_169 : decode cX7_isWhole 169 = .ok (.lload_n 1, 1) := by decide +kernel
theorem dX7_isWhole_170 : decode cX7_isWhole 170 = .ok (.lmul, 1) := by decide +kernel
theorem dX7_isWhole_171 : decode cX7_isWhole 171 = .ok (.lrem, 1) := by decide +kernel
theorem dX7_isWhole_172 : decode cX7_isWhole 172 = .ok (.lconst 0, 1) := by decide +kernel
theorem dX7_isWhole_173 : decode cX7_isWhole 173 = .ok (.lcmp, 1) := by decide +kernel
theorem dX7_isWhole_174 : decode cX7_isWhole 174 = .ok (.ifCond .ne 22, 3) := by decide +kernel
theorem dX7_isWhole_177 : decode cX7_isWhole 177 = .ok (.aload_n 0, 1) := by decide +kernel
theorem dX7_isWhole_178 : decode cX7_isWhole 178 = .ok (.invokevirtual 193, 3) := by decide +kernel
theorem dX7_isWhole_181 : decode cX7_isWhole 181 = .ok (.lload_n 1, 1) := by decide +kernel
theorem dX7_isWhole_182 : decode cX7_isWhole 182 = .ok (.lload_n 1, 1) := by decide +kernel
theorem dX7_isWhole_183 : decode cX7_isWhole 183 = .ok (.lmul, 1) := by decide +kernel
theorem dX7_isWhole_184 : decode cX7_isWhole 184 = .ok (.lload_n 1, 1) := by decide +kernel
theorem dX7_isWhole_185 : decode cX7_isWhole 185 = .ok (.lmul, 1) := by decide +kernel
theorem dX7_isWhole_186 : decode cX7_isWhole 186 = .ok (.lrem, 1) := by decide +kernel
theorem dX7_isWhole_187 : decode cX7_isWhole 187 = .ok (.lconst 0, 1) := by decide +kernel
theorem dX7_isWhole_188 : decode cX7_isWhole 188 = .ok (.lcmp, 1) := by decide +kernel
theorem dX7_isWhole_189 : decode cX7_isWhole 189 = .ok (.ifCond .ne 7, 3) := by decide +kernel
theorem dX7_isWhole_192 : decode cX7_isWhole 192 = .ok (.iconst 1, 1) := by decide +kernel
theorem dX7_isWhole_193 : decode cX7_isWhole 193 = .ok (.goto 4, 3) := by decide +kernel
theorem dX7_isWhole_196 : decode cX7_isWhole 196 = .ok (.iconst 0, 1) := by decide +kernel
theorem dX7_isWhole_197 : decode cX7_isWhole 197 = .ok (.ireturn, 1) := by decide +kernel
theorem bX7_isWhole_0 {l : Launch} {D : va_G} {aI aL : ClassId} {ad : Nat → Nat} {P : sa_P} {I : sa_I} {J : sa_J} {v6 : Int64} {v8 : Int32}  (f6 : J 7 3 = v6) (f8 : (0 : Int32) = v8) (k : Sat (ER l D aI aL ad) M_X7_isWhole P 9 [(0, .ref (ad 0)), (1, .long v6), (3, .int v8)] [] I J) : Sat (ER l D aI aL ad) M_X7_isWhole P 0 [(0, .ref (ad 0))] [] I J := by
  refine s_aload_n 0 dX7_isWhole_0 rfl ?_
  refine g_X7_29 dX7_isWhole_1 rfl ?_
  refine s_iconst (v := 3) dX7_isWhole_4 rfl ?_
  refine s_eqi (y := nI 3) rfl ?_
  refine s_laloadN aJ_R7 (by decide) (by decide) dX7_isWhole_5 ?_
  refine s_eql f6 ?_
  refine s_lstore_n [(1, .long v6), (0, .ref (ad 0))] dX7_isWhole_6 (Nat.lt_of_lt_of_le (Nat.lt_succ_self _) (Nat.le_of_ble_eq_true rfl)) rfl ?_
  refine s_iconst (v := 0) dX7_isWhole_7 rfl ?_
  refine s_eqi f8 ?_
  refine s_istore_n [(3, .int v8), (1, .long v6), (0, .ref (ad 0))] dX7_isWhole_8 (Nat.lt_of_lt_of_le (Nat.lt_succ_self _) (Nat.le_of_ble_eq_true rfl)) rfl ?_
  refine s_pick [2, 1, 0] [(0, .ref (ad 0)), (1, .long v6), (3, .int v8)] rfl ?_; exact k
theorem bX7_isWhole_9 {l : Launch} {D : va_G} {aI aL : ClassId} {ad : Nat → Nat} {P : sa_P} {I : sa_I} {J : sa_J} {x1 : Int64} {x3 : Int32}   (kt : I 0 1 ≤ x3 → Sat (ER l D aI aL ad) M_X7_isWhole P 124 [(0, .ref (ad 0)), (1, .long x1)] [] I J) (kf : ¬ I 0 1 ≤ x3 → Sat (ER l D aI aL ad) M_X7_isWhole P 17 [(0, .ref (ad 0)), (1, .long x1), (3, .int x3)] [] I J) : Sat (ER l D aI aL ad) M_X7_isWhole P 9 [(0, .ref (ad 0)), (1, .long x1), (3, .int x3)] [] I J := by
  refine s_iload_n 2 dX7_isWhole_9 rfl ?_
  refine s_aload_n 0 dX7_isWhole_10 rfl ?_
  refine g_X7_101 dX7_isWhole_11 rfl ?_
  refine s_icmp_ge (tgt := 124) dX7_isWhole_14 (by decide) (fun c => ?_) (fun c => ?_)
  · refine s_pick [0, 1] [(0, .ref (ad 0)), (1, .long x1)] rfl ?_; exact kt c
  · exact kf c
theorem bX7_isWhole_17 {l : Launch} {D : va_G} {aI aL : ClassId} {ad : Nat → Nat} {P : sa_P} {I : sa_I} {J : sa_J} {x1 : Int64} {x3 : Int32} {v18 : Int32}  (f18 : (0 : Int32) = v18) (k : Sat (ER l D aI aL ad) M_X7_isWhole P 20 [(0, .ref (ad 0)), (1, .long x1), (3, .int x3), (4, .int v18)] [] I J) : Sat (ER l D aI aL ad) M_X7_isWhole P 17 [(0, .ref (ad 0)), (1, .long x1), (3, .int x3)] [] I J := by
  refine s_iconst (v := 0) dX7_isWhole_17 rfl ?_
  refine s_eqi f18 ?_
  refine s_istore [(4, .int v18), (0, .ref (ad 0)), (1, .long x1), (3, .int x3)] dX7_isWhole_18 (Nat.lt_of_lt_of_le (Nat.lt_succ_self _) (Nat.le_of_ble_eq_true rfl)) rfl ?_
  refine s_pick [1, 2, 3, 0] [(0, .ref (ad 0)), (1, .long x1), (3, .int x3), (4, .int v18)] rfl ?_; exact k
theorem bX7_isWhole_20 {l : Launch} {D : va_G} {aI aL : ClassId} {ad : Nat → Nat} {P : sa_P} {I : sa_I} {J : sa_J} {x1 : Int64} {x3 : Int32} {x4 : Int32}   (kt : (5 : Int32) ≤ x4 → Sat (ER l D aI aL ad) M_X7_isWhole P 40 [(0, .ref (ad 0)), (1, .long x1), (3, .int x3)] [] I J) (kf : ¬ (5 : Int32) ≤ x4 → Sat (ER l D aI aL ad) M_X7_isWhole P 26 [(0, .ref (ad 0)), (1, .long x1), (3, .int x3), (4, .int x4)] [] I J) : Sat (ER l D aI aL ad) M_X7_isWhole P 20 [(0, .ref (ad 0)), (1, .long x1), (3, .int x3), (4, .int x4)] [] I J := by
  refine s_iload 3 dX7_isWhole_20 rfl ?_
  refine s_iconst (v := 5) dX7_isWhole_22 rfl ?_
  refine s_icmp_ge (tgt := 40) dX7_isWhole_23 (by decide) (fun c => ?_) (fun c => ?_)
  · refine s_pick [0, 1, 2] [(0, .ref (ad 0)), (1, .long x1), (3, .int x3)] rfl ?_; exact kt c
  · exact kf c
theorem bX7_isWhole_26 {l : Launch} {D : va_G} {aI aL : ClassId} {ad : Nat → Nat} {P : sa_P} {I : sa_I} {J : sa_J} {x1 : Int64} {x3 : Int32} {x4 : Int32} {j30 : Nat} {v33 : Int64} {v34 : Int32} (e30 : x4 = nI j30) (h33 : j30 < 5) (f33 : (0 : Int64) = v33) (f34 : x4 + 1 = v34) (k : Sat (ER l D aI aL ad) M_X7_isWhole P 20 [(0, .ref (ad 0)), (1, .long x1), (3, .int x3), (4, .int v34)] [] I (sa_uJ J 8 j30 v33)) : Sat (ER l D aI aL ad) M_X7_isWhole P 26 [(0, .ref (ad 0)), (1, .long x1), (3, .int x3), (4, .int x4)] [] I J := by
  refine s_aload_n 0 dX7_isWhole_26 rfl ?_
  refine g_X7_32 dX7_isWhole_27 rfl ?_
  refine s_iload 3 dX7_isWhole_30 rfl ?_
  refine s_eqi e30 ?_
  refine s_lconst (v := 0) dX7_isWhole_32 rfl ?_
  refine s_eql f33 ?_
  refine s_lastoreN aJ_R8 h33 (by decide) dX7_isWhole_33 ?_
  refine s_iinc 3 v34 [(4, .int v34), (0, .ref (ad 0)), (1, .long x1), (3, .int x3)] dX7_isWhole_34 rfl f34 (Nat.lt_of_lt_of_le (Nat.lt_succ_self _) (Nat.le_of_ble_eq_true rfl)) rfl ?_
  refine s_goto (tgt := 20) dX7_isWhole_37 (by decide) ?_
  refine s_pick [1, 2, 3, 0] [(0, .ref (ad 0)), (1, .long x1), (3, .int x3), (4, .int v34)] rfl ?_; exact k
theorem bX7_isWhole_40 {l : Launch} {D : va_G} {aI aL : ClassId} {ad : Nat → Nat} {P : sa_P} {I : sa_I} {J : sa_J} {x1 : Int64} {x3 : Int32} {v41 : Int32}  (f41 : (0 : Int32) = v41) (k : Sat (ER l D aI aL ad) M_X7_isWhole P 43 [(0, .ref (ad 0)), (1, .long x1), (3, .int x3), (4, .int v41)] [] I J) : Sat (ER l D aI aL ad) M_X7_isWhole P 40 [(0, .ref (ad 0)), (1, .long x1), (3, .int x3)] [] I J := by
  refine s_iconst (v := 0) dX7_isWhole_40 rfl ?_
  refine s_eqi f41 ?_
  refine s_istore [(4, .int v41), (0, .ref (ad 0)), (1, .long x1), (3, .int x3)] dX7_isWhole_41 (Nat.lt_of_lt_of_le (Nat.lt_succ_self _) (Nat.le_of_ble_eq_true rfl)) rfl ?_
  refine s_pick [1, 2, 3, 0] [(0, .ref (ad 0)), (1, .long x1), (3, .int x3), (4, .int v41)] rfl ?_; exact k
theorem bX7_isWhole_43 {l : Launch} {D : va_G} {aI aL : ClassId} {ad : Nat → Nat} {P : sa_P} {I : sa_I} {J : sa_J} {x1 : Int64} {x3 : Int32} {x4 : Int32}   (kt : I 0 1 ≤ x4 → Sat (ER l D aI aL ad) M_X7_isWhole P 78 [(0, .ref (ad 0)), (1, .long x1), (3, .int x3)] [] I J) (kf : ¬ I 0 1 ≤ x4 → Sat (ER l D aI aL ad) M_X7_isWhole P 52 [(0, .ref (ad 0)), (1, .long x1), (3, .int x3), (4, .int x4)] [] I J) : Sat (ER l D aI aL ad) M_X7_isWhole P 43 [(0, .ref (ad 0)), (1, .long x1), (3, .int x3), (4, .int x4)] [] I J := by
  refine s_iload 3 dX7_isWhole_43 rfl ?_
  refine s_aload_n 0 dX7_isWhole_45 rfl ?_
  refine g_X7_101 dX7_isWhole_46 rfl ?_
  refine s_icmp_ge (tgt := 78) dX7_isWhole_49 (by decide) (fun c => ?_) (fun c => ?_)
  · refine s_pick [0, 1, 2] [(0, .ref (ad 0)), (1, .long x1), (3, .int x3)] rfl ?_; exact kt c
  · exact kf c
theorem bX7_isWhole_52 {l : Launch} {D : va_G} {aI aL : ClassId} {ad : Nat → Nat} {P : sa_P} {I : sa_I} {J : sa_J} {x1 : Int64} {x3 : Int32} {x4 : Int32} {j64 : Nat} (e64 : x4 = nI j64) (h66 : j64 < 4)  (k : Sat (ER l D aI aL ad) M_X7_isWhole P 68 [(0, .ref (ad 0)), (1, .long x1), (3, .int x3), (4, .int x4)] [.long x1, .long (J 7 j64), .int (x3 + x4), .ref (ad 8)] I J) : Sat (ER l D aI aL ad) M_X7_isWhole P 52 [(0, .ref (ad 0)), (1, .long x1), (3, .int x3), (4, .int x4)] [] I J := by
  refine s_aload_n 0 dX7_isWhole_52 rfl ?_
  refine g_X7_32 dX7_isWhole_53 rfl ?_
  refine s_iload_n 2 dX7_isWhole_56 rfl ?_
  refine s_iload 3 dX7_isWhole_57 rfl ?_
  refine s_iadd dX7_isWhole_59 ?_
  refine s_aload_n 0 dX7_isWhole_60 rfl ?_
  refine g_X7_29 dX7_isWhole_61 rfl ?_
  refine s_iload 3 dX7_isWhole_64 rfl ?_
  refine s_eqi e64 ?_
  refine s_laloadN aJ_R7 h66 (by decide) dX7_isWhole_66 ?_
  refine s_lload_n 1 dX7_isWhole_67 rfl ?_
  exact k
theorem bX7_isWhole_71 {l : Launch} {D : va_G} {aI aL : ClassId} {ad : Nat → Nat} {P : sa_P} {I : sa_I} {J : sa_J} {x1 : Int64} {x3 : Int32} {x4 : Int32} {s1 : Nat} {s2 : Int64} {v72 : Int32} (h71 : s1 < 5) (f72 : x4 + 1 = v72) (k : Sat (ER l D aI aL ad) M_X7_isWhole P 43 [(0, .ref (ad 0)), (1, .long x1), (3, .int x3), (4, .int v72)] [] I (sa_uJ J 8 s1 s2)) : Sat (ER l D aI aL ad) M_X7_isWhole P 71 [(0, .ref (ad 0)), (1, .long x1), (3, .int x3), (4, .int x4)] [.long s2, .int (nI s1), .ref (ad 8)] I J := by
  refine s_lastoreN aJ_R8 h71 (by decide) dX7_isWhole_71 ?_
  refine s_iinc 3 v72 [(4, .int v72), (0, .ref (ad 0)), (1, .long x1), (3, .int x3)] dX7_isWhole_72 rfl f72 (Nat.lt_of_lt_of_le (Nat.lt_succ_self _) (Nat.le_of_ble_eq_true rfl)) rfl ?_
  refine s_goto (tgt := 43) dX7_isWhole_75 (by decide) ?_
  refine s_pick [1, 2, 3, 0] [(0, .ref (ad 0)), (1, .long x1), (3, .int x3), (4, .int v72)] rfl ?_; exact k
theorem bX7_isWhole_78 {l : Launch} {D : va_G} {aI aL : ClassId} {ad : Nat → Nat} {P : sa_P} {I : sa_I} {J : sa_J} {x1 : Int64} {x3 : Int32}   (k : Sat (ER l D aI aL ad) M_X7_isWhole P 79 [(0, .ref (ad 0)), (1, .long x1), (3, .int x3)] [.ref (ad 0)] I J) : Sat (ER l D aI aL ad) M_X7_isWhole P 78 [(0, .ref (ad 0)), (1, .long x1), (3, .int x3)] [] I J := by
  refine s_aload_n 0 dX7_isWhole_78 rfl ?_
  exact k
theorem bX7_isWhole_82 {l : Launch} {D : va_G} {aI aL : ClassId} {ad : Nat → Nat} {P : sa_P} {I : sa_I} {J : sa_J} {x1 : Int64} {x3 : Int32} {v83 : Int32}  (f83 : (0 : Int32) = v83) (k : Sat (ER l D aI aL ad) M_X7_isWhole P 85 [(0, .ref (ad 0)), (1, .long x1), (3, .int x3), (4, .int v83)] [] I J) : Sat (ER l D aI aL ad) M_X7_isWhole P 82 [(0, .ref (ad 0)), (1, .long x1), (3, .int x3)] [] I J := by
  refine s_iconst (v := 0) dX7_isWhole_82 rfl ?_
  refine s_eqi f83 ?_
  refine s_istore [(4, .int v83), (0, .ref (ad 0)), (1, .long x1), (3, .int x3)] dX7_isWhole_83 (Nat.lt_of_lt_of_le (Nat.lt_succ_self _) (Nat.le_of_ble_eq_true rfl)) rfl ?_
  refine s_pick [1, 2, 3, 0] [(0, .ref (ad 0)), (1, .long x1), (3, .int x3), (4, .int v83)] rfl ?_; exact k
theorem bX7_isWhole_85 {l : Launch} {D : va_G} {aI aL : ClassId} {ad : Nat → Nat} {P : sa_P} {I : sa_I} {J : sa_J} {x1 : Int64} {x3 : Int32} {x4 : Int32}   (kt : I 0 1 ≤ x4 → Sat (ER l D aI aL ad) M_X7_isWhole P 118 [(0, .ref (ad 0)), (1, .long x1), (3, .int x3)] [] I J) (kf : ¬ I 0 1 ≤ x4 → Sat (ER l D aI aL ad) M_X7_isWhole P 94 [(0, .ref (ad 0)), (1, .long x1), (3, .int x3), (4, .int x4)] [] I J) : Sat (ER l D aI aL ad) M_X7_isWhole P 85 [(0, .ref (ad 0)), (1, .long x1), (3, .int x3), (4, .int x4)] [] I J := by
  refine s_iload 3 dX7_isWhole_85 rfl ?_
  refine s_aload_n 0 dX7_isWhole_87 rfl ?_
  refine g_X7_101 dX7_isWhole_88 rfl ?_
  refine s_icmp_ge (tgt := 118) dX7_isWhole_91 (by decide) (fun c => ?_) (fun c => ?_)
  · refine s_pick [0, 1, 2] [(0, .ref (ad 0)), (1, .long x1), (3, .int x3)] rfl ?_; exact kt c
  · exact kf c
theorem bX7_isWhole_94 {l : Launch} {D : va_G} {aI aL : ClassId} {ad : Nat → Nat} {P : sa_P} {I : sa_I} {J : sa_J} {x1 : Int64} {x3 : Int32} {x4 : Int32} {j103 : Nat} {j108 : Nat} {v111 : Int64} {v112 : Int32} (e103 : ((3 : Int32) * x3) + x4 = nI j103) (e108 : x4 = nI j108) (h110 : j108 < 5) (h111 : j103 < 9) (f111 : J 8 j108 = v111) (f112 : x4 + 1 = v112) (k : Sat (ER l D aI aL ad) M_X7_isWhole P 85 [(0, .ref (ad 0)), (1, .long x1), (3, .int x3), (4, .int v112)] [] I (sa_uJ J 9 j103 v111)) : Sat (ER l D aI aL ad) M_X7_isWhole P 94 [(0, .ref (ad 0)), (1, .long x1), (3, .int x3), (4, .int x4)] [] I J := by
  refine s_aload_n 0 dX7_isWhole_94 rfl ?_
  refine g_X7_35 dX7_isWhole_95 rfl ?_
  refine s_iconst (v := 3) dX7_isWhole_98 rfl ?_
  refine s_iload_n 2 dX7_isWhole_99 rfl ?_
  refine s_imul dX7_isWhole_100 ?_
  refine s_iload 3 dX7_isWhole_101 rfl ?_
  refine s_iadd dX7_isWhole_103 ?_
  refine s_eqi e103 ?_
  refine s_aload_n 0 dX7_isWhole_104 rfl ?_
  refine g_X7_32 dX7_isWhole_105 rfl ?_
  refine s_iload 3 dX7_isWhole_108 rfl ?_
  refine s_eqi e108 ?_
  refine s_laloadN aJ_R8 h110 (by decide) dX7_isWhole_110 ?_
  refine s_eql f111 ?_
  refine s_lastoreN aJ_R9 h111 (by decide) dX7_isWhole_111 ?_
  refine s_iinc 3 v112 [(4, .int v112), (0, .ref (ad 0)), (1, .long x1), (3, .int x3)] dX7_isWhole_112 rfl f112 (Nat.lt_of_lt_of_le (Nat.lt_succ_self _) (Nat.le_of_ble_eq_true rfl)) rfl ?_
  refine s_goto (tgt := 85) dX7_isWhole_115 (by decide) ?_
  refine s_pick [1, 2, 3, 0] [(0, .ref (ad 0)), (1, .long x1), (3, .int x3), (4, .int v112)] rfl ?_; exact k
theorem bX7_isWhole_118 {l : Launch} {D : va_G} {aI aL : ClassId} {ad : Nat → Nat} {P : sa_P} {I : sa_I} {J : sa_J} {x1 : Int64} {x3 : Int32} {v118 : Int32}  (f118 : x3 + 1 = v118) (k : Sat (ER l D aI aL ad) M_X7_isWhole P 9 [(0, .ref (ad 0)), (1, .long x1), (3, .int v118)] [] I J) : Sat (ER l D aI aL ad) M_X7_isWhole P 118 [(0, .ref (ad 0)), (1, .long x1), (3, .int x3)] [] I J := by
  refine s_iinc 2 v118 [(3, .int v118), (0, .ref (ad 0)), (1, .long x1)] dX7_isWhole_118 rfl f118 (Nat.lt_of_lt_of_le (Nat.lt_succ_self _) (Nat.le_of_ble_eq_true rfl)) rfl ?_
  refine s_goto (tgt := 9) dX7_isWhole_121 (by decide) ?_
  refine s_pick [1, 2, 0] [(0, .ref (ad 0)), (1, .long x1), (3, .int v118)] rfl ?_; exact k
theorem bX7_isWhole_124 {l : Launch} {D : va_G} {aI aL : ClassId} {ad : Nat → Nat} {P : sa_P} {I : sa_I} {J : sa_J} {x1 : Int64}   (k : Sat (ER l D aI aL ad) M_X7_isWhole P 125 [(0, .ref (ad 0)), (1, .long x1)] [.ref (ad 0)] I J) : Sat (ER l D aI aL ad) M_X7_isWhole P 124 [(0, .ref (ad 0)), (1, .long x1)] [] I J := by
  refine s_aload_n 0 dX7_isWhole_124 rfl ?_
  exact k
theorem bX7_isWhole_128 {l : Launch} {D : va_G} {aI aL : ClassId} {ad : Nat → Nat} {P : sa_P} {I : sa_I} {J : sa_J} {x1 : Int64} {s0 : Int64} (z129 : ¬ x1 = 0)  (kt : s0 - s0 / x1 * x1 = (0 : Int64) → Sat (ER l D aI aL ad) M_X7_isWhole P 137 [(0, .ref (ad 0)), (1, .long x1)] [] I J) (kf : ¬ s0 - s0 / x1 * x1 = (0 : Int64) → Sat (ER l D aI aL ad) M_X7_isWhole P 135 [] [] I J) : Sat (ER l D aI aL ad) M_X7_isWhole P 128 [(0, .ref (ad 0)), (1, .long x1)] [.long s0] I J := by
  refine s_lload_n 1 dX7_isWhole_128 rfl ?_
  refine s_lrem dX7_isWhole_129 z129 ?_
  refine s_lconst (v := 0) dX7_isWhole_130 rfl ?_
  refine s_lif_eq (tgt := 137) dX7_isWhole_131 dX7_isWhole_132 (by decide) (fun c => ?_) (fun c => ?_)
  · exact kt c
  · refine s_pick [] [] rfl ?_; exact kf c
theorem bX7_isWhole_135 {l : Launch} {D : va_G} {aI aL : ClassId} {ad : Nat → Nat} {P : sa_P} {I : sa_I} {J : sa_J}    (k : P (some (.int (0 : Int32))) I J) : Sat (ER l D aI aL ad) M_X7_isWhole P 135 [] [] I J := by
  refine s_iconst (v := 0) dX7_isWhole_135 rfl ?_
  exact s_zret rfl rfl dX7_isWhole_136 k
theorem bX7_isWhole_137 {l : Launch} {D : va_G} {aI aL : ClassId} {ad : Nat → Nat} {P : sa_P} {I : sa_I} {J : sa_J} {x1 : Int64}   (kt : ¬ I 0 1 = (2 : Int32) → Sat (ER l D aI aL ad) M_X7_isWhole P 164 [(0, .ref (ad 0)), (1, .long x1)] [] I J) (kf : I 0 1 = (2 : Int32) → Sat (ER l D aI aL ad) M_X7_isWhole P 145 [(0, .ref (ad 0)), (1, .long x1)] [] I J) : Sat (ER l D aI aL ad) M_X7_isWhole P 137 [(0, .ref (ad 0)), (1, .long x1)] [] I J := by
  refine s_aload_n 0 dX7_isWhole_137 rfl ?_
  refine g_X7_101 dX7_isWhole_138 rfl ?_
  refine s_iconst (v := 2) dX7_isWhole_141 rfl ?_
  refine s_icmp_ne (tgt := 164) dX7_isWhole_142 (by decide) (fun c => ?_) (fun c => ?_)
  · exact kt c
  · exact kf (by first | exact c | exact Classical.not_not.mp c)
theorem bX7_isWhole_145 {l : Launch} {D : va_G} {aI aL : ClassId} {ad : Nat → Nat} {P : sa_P} {I : sa_I} {J : sa_J} {x1 : Int64}   (k : Sat (ER l D aI aL ad) M_X7_isWhole P 146 [(1, .long x1)] [.ref (ad 0)] I J) : Sat (ER l D aI aL ad) M_X7_isWhole P 145 [(0, .ref (ad 0)), (1, .long x1)] [] I J := by
  refine s_aload_n 0 dX7_isWhole_145 rfl ?_
  refine s_pick [1] [(1, .long x1)] rfl ?_; exact k
theorem bX7_isWhole_149 {l : Launch} {D : va_G} {aI aL : ClassId} {ad : Nat → Nat} {P : sa_P} {I : sa_I} {J : sa_J} {x1 : Int64} {s0 : Int64} (z152 : ¬ x1 * x1 = 0)  (kt : ¬ s0 - s0 / (x1 * x1) * (x1 * x1) = (0 : Int64) → Sat (ER l D aI aL ad) M_X7_isWhole P 162 [] [] I J) (kf : s0 - s0 / (x1 * x1) * (x1 * x1) = (0 : Int64) → Sat (ER l D aI aL ad) M_X7_isWhole P 158 [] [] I J) : Sat (ER l D aI aL ad) M_X7_isWhole P 149 [(1, .long x1)] [.long s0] I J := by
  refine s_lload_n 0 dX7_isWhole_149 rfl ?_
  refine s_lload_n 0 dX7_isWhole_150 rfl ?_
  refine s_lmul dX7_isWhole_151 ?_
  refine s_lrem dX7_isWhole_152 z152 ?_
  refine s_lconst (v := 0) dX7_isWhole_153 rfl ?_
  refine s_lif_ne (tgt := 162) dX7_isWhole_154 dX7_isWhole_155 (by decide) (fun c => ?_) (fun c => ?_)
  · refine s_pick [] [] rfl ?_; exact kt c
  · refine s_pick [] [] rfl ?_; exact kf (by first | exact c | exact Classical.not_not.mp c)
theorem bX7_isWhole_158 {l : Launch} {D : va_G} {aI aL : ClassId} {ad : Nat → Nat} {P : sa_P} {I : sa_I} {J : sa_J}    (k : Sat (ER l D aI aL ad) M_X7_isWhole P 163 [] [.int (1 : Int32)] I J) : Sat (ER l D aI aL ad) M_X7_isWhole P 158 [] [] I J := by
  refine s_iconst (v := 1) dX7_isWhole_158 rfl ?_
  refine s_goto (tgt := 163) dX7_isWhole_159 (by decide) ?_
  exact k
theorem bX7_isWhole_162 {l : Launch} {D : va_G} {aI aL : ClassId} {ad : Nat → Nat} {P : sa_P} {I : sa_I} {J : sa_J}    (k : Sat (ER l D aI aL ad) M_X7_isWhole P 163 [] [.int (0 : Int32)] I J) : Sat (ER l D aI aL ad) M_X7_isWhole P 162 [] [] I J := by
  refine s_iconst (v := 0) dX7_isWhole_162 rfl ?_
  exact k
theorem bX7_isWhole_163 {l : Launch} {D : va_G} {aI aL : ClassId} {ad : Nat → Nat} {P : sa_P} {I : sa_I} {J : sa_J} {s0 : Int32} (hz : narrow .boolean (.int s0) = .int s0)  (k : P (some (.int s0)) I J) : Sat (ER l D aI aL ad) M_X7_isWhole P 163 [] [.int s0] I J := by
  exact s_zret hz rfl dX7_isWhole_163 k
theorem bX7_isWhole_164 {l : Launch} {D : va_G} {aI aL : ClassId} {ad : Nat → Nat} {P : sa_P} {I : sa_I} {J : sa_J} {x1 : Int64}   (k : Sat (ER l D aI aL ad) M_X7_isWhole P 165 [(0, .ref (ad 0)), (1, .long x1)] [.ref (ad 0)] I J) : Sat (ER l D aI aL ad) M_X7_isWhole P 164 [(0, .ref (ad 0)), (1, .long x1)] [] I J := by
  refine s_aload_n 0 dX7_isWhole_164 rfl ?_
  exact k
theorem bX7_isWhole_168 {l : Launch} {D : va_G} {aI aL : ClassId} {ad : Nat → Nat} {P : sa_P} {I : sa_I} {J : sa_J} {x1 : Int64} {s0 : Int64} (z171 : ¬ x1 * x1 = 0)  (kt : ¬ s0 - s0 / (x1 * x1) * (x1 * x1) = (0 : Int64) → Sat (ER l D aI aL ad) M_X7_isWhole P 196 [] [] I J) (kf : s0 - s0 / (x1 * x1) * (x1 * x1) = (0 : Int64) → Sat (ER l D aI aL ad) M_X7_isWhole P 177 [(0, .ref (ad 0)), (1, .long x1)] [] I J) : Sat (ER l D aI aL ad) M_X7_isWhole P 168 [(0, .ref (ad 0)), (1, .long x1)] [.long s0] I J := by
  refine s_lload_n 1 dX7_isWhole_168 rfl ?_
  refine s_lload_n 1 dX7_isWhole_169 rfl ?_
  refine s_lmul dX7_isWhole_170 ?_
  refine s_lrem dX7_isWhole_171 z171 ?_
  refine s_lconst (v := 0) dX7_isWhole_172 rfl ?_
  refine s_lif_ne (tgt := 196) dX7_isWhole_173 dX7_isWhole_174 (by decide) (fun c => ?_) (fun c => ?_)
  · refine s_pick [] [] rfl ?_; exact kt c
  · exact kf (by first | exact c | exact Classical.not_not.mp c)
theorem bX7_isWhole_177 {l : Launch} {D : va_G} {aI aL : ClassId} {ad : Nat → Nat} {P : sa_P} {I : sa_I} {J : sa_J} {x1 : Int64}   (k : Sat (ER l D aI aL ad) M_X7_isWhole P 178 [(1, .long x1)] [.ref (ad 0)] I J) : Sat (ER l D aI aL ad) M_X7_isWhole P 177 [(0, .ref (ad 0)), (1, .long x1)] [] I J := by
  refine s_aload_n 0 dX7_isWhole_177 rfl ?_
  refine s_pick [1] [(1, .long x1)] rfl ?_; exact k
theorem bX7_isWhole_181 {l : Launch} {D : va_G} {aI aL : ClassId} {ad : Nat → Nat} {P : sa_P} {I : sa_I} {J : sa_J} {x1 : Int64} {s0 : Int64} (z186 : ¬ (x1 * x1) * x1 = 0)  (kt : ¬ s0 - s0 / ((x1 * x1) * x1) * ((x1 * x1) * x1) = (0 : Int64) → Sat (ER l D aI aL ad) M_X7_isWhole P 196 [] [] I J) (kf : s0 - s0 / ((x1 * x1) * x1) * ((x1 * x1) * x1) = (0 : Int64) → Sat (ER l D aI aL ad) M_X7_isWhole P 192 [] [] I J) : Sat (ER l D aI aL ad) M_X7_isWhole P 181 [(1, .long x1)] [.long s0] I J := by
  refine s_lload_n 0 dX7_isWhole_181 rfl ?_
  refine s_lload_n 0 dX7_isWhole_182 rfl ?_
  refine s_lmul dX7_isWhole_183 ?_
  refine s_lload_n 0 dX7_isWhole_184 rfl ?_
  refine s_lmul dX7_isWhole_185 ?_
  refine s_lrem dX7_isWhole_186 z186 ?_
  refine s_lconst (v := 0) dX7_isWhole_187 rfl ?_
  refine s_lif_ne (tgt := 196) dX7_isWhole_188 dX7_isWhole_189 (by decide) (fun c => ?_) (fun c => ?_)
  · refine s_pick [] [] rfl ?_; exact kt c
  · refine s_pick [] [] rfl ?_; exact kf (by first | exact c | exact Classical.not_not.mp c)
theorem bX7_isWhole_192 {l : Launch} {D : va_G} {aI aL : ClassId} {ad : Nat → Nat} {P : sa_P} {I : sa_I} {J : sa_J}    (k : Sat (ER l D aI aL ad) M_X7_isWhole P 197 [] [.int (1 : Int32)] I J) : Sat (ER l D aI aL ad) M_X7_isWhole P 192 [] [] I J := by
  refine s_iconst (v := 1) dX7_isWhole_192 rfl ?_
  refine s_goto (tgt := 197) dX7_isWhole_193 (by decide) ?_
  exact k
theorem bX7_isWhole_196 {l : Launch} {D : va_G} {aI aL : ClassId} {ad : Nat → Nat} {P : sa_P} {I : sa_I} {J : sa_J}    (k : Sat (ER l D aI aL ad) M_X7_isWhole P 197 [] [.int (0 : Int32)] I J) : Sat (ER l D aI aL ad) M_X7_isWhole P 196 [] [] I J := by
  refine s_iconst (v := 0) dX7_isWhole_196 rfl ?_
  exact k
theorem bX7_isWhole_197 {l : Launch} {D : va_G} {aI aL : ClassId} {ad : Nat → Nat} {P : sa_P} {I : sa_I} {J : sa_J} {s0 : Int32} (hz : narrow .boolean (.int s0) = .int s0)  (k : P (some (.int s0)) I J) : Sat (ER l D aI aL ad) M_X7_isWhole P 197 [] [.int s0] I J := by
  exact s_zret hz rfl dX7_isWhole_197 k
/-! X7_base -/
theorem dX7_base_0 : decode cX7_base 0 = .ok (.iload_n 1, 1) := by decide +kernel
theorem dX7_base_1 : decode cX7_base 1 = .ok (.ifCond .ne 23, 3) := by decide +kernel
theorem dX7_base_4 : decode cX7_base 4 = .ok (.iload_n 2, 1) := by decide +kernel
theorem dX7_base_5 : decode cX7_base 5 = .ok (.ifCond .ne 17, 3) := by decide +kernel
theorem dX7_base_8 : decode cX7_base 8 = .ok (.aload_n 0, 1) := by decide +kernel
theorem dX7_base_9 : decode cX7_base 9 = .ok (.getfield 139, 3) := by decide +kernel
theorem dX7_base_12 : decode cX7_base 12 = .ok (.i2l, 1) := by decide +kernel
theorem dX7_base_13 : decode cX7_base 13 = .ok (.aload_n 0, 1) := by decide +kernel
theorem dX7_base_14 : decode cX7_base 14 = .ok (.getfield 142, 3) := by decide +kernel
theorem dX7_base_17 : decode cX7_base 17 = .ok (.i2l, 1) := by decide +kernel
theorem dX7_base_18 : decode cX7_base 18 = .ok (.lmul, 1) := by decide +kernel
theorem dX7_base_19 : decode cX7_base 19 = .ok (.goto 4, 3) := by decide +kernel
theorem dX7_base_22 : decode cX7_base 22 = .ok (.lconst 0, 1) := by decide +kernel
theorem dX7_base_23 : decode cX7_base 23 = .ok (.lreturn, 1) := by decide +kernel
theorem dX7_base_24 : decode cX7_base 24 = .ok (.iload_n 1, 1) := by decide +kernel
theorem dX7_base_25 : decode cX7_base 25 = .ok (.iconst 1, 1) := by decide +kernel
theorem dX7_base_26 : decode cX7_base 26 = .ok (.if_icmp .ne 36, 3) := by decide +kernel
theorem dX7_base_29 : decode cX7_base 29 = .ok (.iload_n 2, 1) := by decide +kernel
theorem dX7_base_30 : decode cX7_base 30 = .ok (.ifCond .ne 17, 3) := by decide +kernel
theorem dX7_base_33 : decode cX7_base 33 = .ok (.aload_n 0, 1) := by decide +kernel
theorem dX7_base_34 : decode cX7_base 34 = .ok (.getfield 136, 3) := by decide +kernel
theorem dX7_base_37 : decode cX7_base 37 = .ok (.i2l, 1) := by decide +kernel
theorem dX7_base_38 : decode cX7_base 38 = .ok (.aload_n 0, 1) := by decide +kernel
theorem dX7_base_39 : decode cX7_base 39 = .ok (.getfield 142, 3) := by decide +kernel
theorem dX7_base_42 : decode cX7_base 42 = .ok (.i2l, 1) := by decide +kernel
theorem dX7_base_43 : decode cX7_base 43 = .ok (.lmul, 1) := by decide +kernel
theorem dX7_base_44 : decode cX7_base 44 = .ok (.goto 17, 3) := by decide +kernel
theorem dX7_base_47 : decode cX7_base 47 = .ok (.iload_n 2, 1) := by decide +kernel
theorem dX7_base_48 : decode cX7_base 48 = .ok (.iconst 1, 1) := by decide +kernel
theorem dX7_base_49 : decode cX7_base 49 = .ok (.if_icmp .ne 11, 3) := by decide +kernel
theorem dX7_base_52 : decode cX7_base 52 = .ok (.aload_n 0, 1) := by decide +kernel
theorem dX7_base_53 : decode cX7_base 53 = .ok (.getfield 142, 3) := by decide +kernel
theorem dX7_base_56 : decode cX7_base 56 = .ok (.i2l, 1) := by decide +kernel
theorem dX7_base_57 : decode cX7_base 57 = .ok (.goto 4, 3) := by decide +kernel
theorem dX7_base_60 : decode cX7_base 60 = .ok (.lconst 0, 1) := by decide +kernel
theorem dX7_base_61 : decode cX7_base 61 = .ok (.lreturn, 1) := by decide +kernel
theorem dX7_base_62 : decode cX7_base 62 = .ok (.iload_n 2, 1) := by decide +kernel
theorem dX7_base_63 : decode cX7_base 63 = .ok (.ifCond .ne 17, 3) := by decide +kernel
theorem dX7_base_66 : decode cX7_base 66 = .ok (.aload_n 0, 1) := by decide +kernel
theorem dX7_base_67 : decode cX7_base 67 = .ok (.getfield 145, 3) := by decide +kernel
theorem dX7_base_70 : decode cX7_base 70 = .ok (.i2l, 1) := by decide +kernel
theorem dX7_base_71 : decode cX7_base 71 = .ok (.aload_n 0, 1) := by decide +kernel
theorem dX7_base_72 : decode cX7_base 72 = .ok (.getfield 139, 3) := by decide +kernel
theorem dX7_base_75 : decode cX7_base 75 = .ok (.i2l, 1) := by decide +kernel
theorem dX7_base_76 : decode cX7_base 76 = .ok (.lmul, 1) := by decide +kernel
theorem dX7_base_77 : decode cX7_base 77 = .ok (.goto 27, 3) := by decide +kernel
theorem dX7_base_80 : decode cX7_base 80 = .ok (.iload_n 2, 1) := by decide +kernel
theorem dX7_base_81 : decode cX7_base 81 = .ok (.iconst 1, 1) := by decide +kernel
theorem dX7_base_82 : decode cX7_base 82 = .ok (.if_icmp .ne 17, 3) := by decide +kernel
theorem dX7_base_85 : decode cX7_base 85 = .ok (.aload_n 0, 1) := by decide +kernel
theorem dX7_base_86 : decode cX7_base 86 = .ok (.getfield 148, 3) := by decide +kernel
theorem dX7_base_89 : decode cX7_base 89 = .ok (.i2l, 1) := by decide +kernel
theorem dX7_base_90 : decode cX7_base 90 = .ok (.aload_n 0, 1) := by decide +kernel
theorem dX7_base_91 : decode cX7_base 91 = .ok (.getfield 139, 3) := by decide +kernel
theorem dX7_base_94 : decode cX7_base 94 = .ok (.i2l, 1) := by decide +kernel
theorem dX7_base_95 : decode cX7_base 95 = .ok (.lmul, 1) := by decide +kernel
theorem dX7_base_96 : decode cX7_base 96 = .ok (.goto 8, 3) := by decide +kernel
theorem dX7_base_99 : decode cX7_base 99 = .ok (.aload_n 0, 1) := by decide +kernel
theorem dX7_base_100 : decode cX7_base 100 = .ok (.getfield 139, 3) := by decide +kernel
theorem dX7_base_103 : decode cX7_base 103 = .ok (.i2l, 1) := by decide +kernel
theorem dX7_base_104 : decode cX7_base 104 = .ok (.lreturn, 1) := by decide +kernel
theorem bX7_base_0 {l : Launch} {D : va_G} {aI aL : ClassId} {ad : Nat → Nat} {P : sa_P} {I : sa_I} {J : sa_J} {x1 : Int32} {x2 : Int32}   (kt : ¬ x1 = 0 → Sat (ER l D aI aL ad) M_X7_base P 24 [(0, .ref (ad 0)), (1, .int x1), (2, .int x2)] [] I J) (kf : x1 = 0 → Sat (ER l D aI aL ad) M_X7_base P 4 [(0, .ref (ad 0)), (2, .int x2)] [] I J) : Sat (ER l D aI aL ad) M_X7_base P 0 [(0, .ref (ad 0)), (1, .int x1), (2, .int x2)] [] I J := by
  refine s_iload_n 1 dX7_base_0 rfl ?_
  refine s_if_ne (tgt := 24) dX7_base_1 (by decide) (fun c => ?_) (fun c => ?_)
  · exact kt c
  · refine s_pick [0, 2] [(0, .ref (ad 0)), (2, .int x2)] rfl ?_; exact kf (by first | exact c | exact Classical.not_not.mp c)
theorem bX7_base_4 {l : Launch} {D : va_G} {aI aL : ClassId} {ad : Nat → Nat} {P : sa_P} {I : sa_I} {J : sa_J} {x2 : Int32}   (kt : ¬ x2 = 0 → Sat (ER l D aI aL ad) M_X7_base P 22 [] [] I J) (kf : x2 = 0 → Sat (ER l D aI aL ad) M_X7_base P 8 [(0, .ref (ad 0))] [] I J) : Sat (ER l D aI aL ad) M_X7_base P 4 [(0, .ref (ad 0)), (2, .int x2)] [] I J := by
  refine s_iload_n 1 dX7_base_4 rfl ?_
  refine s_if_ne (tgt := 22) dX7_base_5 (by decide) (fun c => ?_) (fun c => ?_)
  · refine s_pick [] [] rfl ?_; exact kt c
  · refine s_pick [0] [(0, .ref (ad 0))] rfl ?_; exact kf (by first | exact c | exact Classical.not_not.mp c)
theorem bX7_base_8 {l : Launch} {D : va_G} {aI aL : ClassId} {ad : Nat → Nat} {P : sa_P} {I : sa_I} {J : sa_J}    (k : Sat (ER l D aI aL ad) M_X7_base P 23 [] [.long (((I 0 6).toInt64) * ((I 0 9).toInt64))] I J) : Sat (ER l D aI aL ad) M_X7_base P 8 [(0, .ref (ad 0))] [] I J := by
  refine s_aload_n 0 dX7_base_8 rfl ?_
  refine g_X7_139 dX7_base_9 rfl ?_
  refine s_i2l dX7_base_12 ?_
  refine s_aload_n 0 dX7_base_13 rfl ?_
  refine g_X7_142 dX7_base_14 rfl ?_
  refine s_i2l dX7_base_17 ?_
  refine s_lmul dX7_base_18 ?_
  refine s_goto (tgt := 23) dX7_base_19 (by decide) ?_
  refine s_pick [] [] rfl ?_; exact k
theorem bX7_base_22 {l : Launch} {D : va_G} {aI aL : ClassId} {ad : Nat → Nat} {P : sa_P} {I : sa_I} {J : sa_J}    (k : Sat (ER l D aI aL ad) M_X7_base P 23 [] [.long (0 : Int64)] I J) : Sat (ER l D aI aL ad) M_X7_base P 22 [] [] I J := by
  refine s_lconst (v := 0) dX7_base_22 rfl ?_
  exact k
theorem bX7_base_23 {l : Launch} {D : va_G} {aI aL : ClassId} {ad : Nat → Nat} {P : sa_P} {I : sa_I} {J : sa_J} {s0 : Int64}   (k : P (some (.long s0)) I J) : Sat (ER l D aI aL ad) M_X7_base P 23 [] [.long s0] I J := by
  exact s_lret rfl dX7_base_23 k
theorem bX7_base_24 {l : Launch} {D : va_G} {aI aL : ClassId} {ad : Nat → Nat} {P : sa_P} {I : sa_I} {J : sa_J} {x1 : Int32} {x2 : Int32}   (kt : ¬ x1 = (1 : Int32) → Sat (ER l D aI aL ad) M_X7_base P 62 [(0, .ref (ad 0)), (2, .int x2)] [] I J) (kf : x1 = (1 : Int32) → Sat (ER l D aI aL ad) M_X7_base P 29 [(0, .ref (ad 0)), (2, .int x2)] [] I J) : Sat (ER l D aI aL ad) M_X7_base P 24 [(0, .ref (ad 0)), (1, .int x1), (2, .int x2)] [] I J := by
  refine s_iload_n 1 dX7_base_24 rfl ?_
  refine s_iconst (v := 1) dX7_base_25 rfl ?_
  refine s_icmp_ne (tgt := 62) dX7_base_26 (by decide) (fun c => ?_) (fun c => ?_)
  · refine s_pick [0, 2] [(0, .ref (ad 0)), (2, .int x2)] rfl ?_; exact kt c
  · refine s_pick [0, 2] [(0, .ref (ad 0)), (2, .int x2)] rfl ?_; exact kf (by first | exact c | exact Classical.not_not.mp c)
theorem bX7_base_29 {l : Launch} {D : va_G} {aI aL : ClassId} {ad : Nat → Nat} {P : sa_P} {I : sa_I} {J : sa_J} {x2 : Int32}   (kt : ¬ x2 = 0 → Sat (ER l D aI aL ad) M_X7_base P 47 [(0, .ref (ad 0)), (2, .int x2)] [] I J) (kf : x2 = 0 → Sat (ER l D aI aL ad) M_X7_base P 33 [(0, .ref (ad 0))] [] I J) : Sat (ER l D aI aL ad) M_X7_base P 29 [(0, .ref (ad 0)), (2, .int x2)] [] I J := by
  refine s_iload_n 1 dX7_base_29 rfl ?_
  refine s_if_ne (tgt := 47) dX7_base_30 (by decide) (fun c => ?_) (fun c => ?_)
  · exact kt c
  · refine s_pick [0] [(0, .ref (ad 0))] rfl ?_; exact kf (by first | exact c | exact Classical.not_not.mp c)
theorem bX7_base_33 {l : Launch} {D : va_G} {aI aL : ClassId} {ad : Nat → Nat} {P : sa_P} {I : sa_I} {J : sa_J}    (k : Sat (ER l D aI aL ad) M_X7_base P 61 [] [.long (((I 0 5).toInt64) * ((I 0 9).toInt64))] I J) : Sat (ER l D aI aL ad) M_X7_base P 33 [(0, .ref (ad 0))] [] I J := by
  refine s_aload_n 0 dX7_base_33 rfl ?_
  refine g_X7_136 dX7_base_34 rfl ?_
  refine s_i2l dX7_base_37 ?_
  refine s_aload_n 0 dX7_base_38 rfl ?_
  refine g_X7_142 dX7_base_39 rfl ?_
  refine s_i2l dX7_base_42 ?_
  refine s_lmul dX7_base_43 ?_
  refine s_goto (tgt := 61) dX7_base_44 (by decide) ?_
  refine s_pick [] [] rfl ?_; exact k
theorem bX7_base_47 {l : Launch} {D : va_G} {aI aL : ClassId} {ad : Nat → Nat} {P : sa_P} {I : sa_I} {J : sa_J} {x2 : Int32}   (kt : ¬ x2 = (1 : Int32) → Sat (ER l D aI aL ad) M_X7_base P 60 [] [] I J) (kf : x2 = (1 : Int32) → Sat (ER l D aI aL ad) M_X7_base P 52 [(0, .ref (ad 0))] [] I J) : Sat (ER l D aI aL ad) M_X7_base P 47 [(0, .ref (ad 0)), (2, .int x2)] [] I J := by
  refine s_iload_n 1 dX7_base_47 rfl ?_
  refine s_iconst (v := 1) dX7_base_48 rfl ?_
  refine s_icmp_ne (tgt := 60) dX7_base_49 (by decide) (fun c => ?_) (fun c => ?_)
  · refine s_pick [] [] rfl ?_; exact kt c
  · refine s_pick [0] [(0, .ref (ad 0))] rfl ?_; exact kf (by first | exact c | exact Classical.not_not.mp c)
theorem bX7_base_52 {l : Launch} {D : va_G} {aI aL : ClassId} {ad : Nat → Nat} {P : sa_P} {I : sa_I} {J : sa_J}    (k : Sat (ER l D aI aL ad) M_X7_base P 61 [] [.long ((I 0 9).toInt64)] I J) : Sat (ER l D aI aL ad) M_X7_base P 52 [(0, .ref (ad 0))] [] I J := by
  refine s_aload_n 0 dX7_base_52 rfl ?_
  refine g_X7_142 dX7_base_53 rfl ?_
  refine s_i2l dX7_base_56 ?_
  refine s_goto (tgt := 61) dX7_base_57 (by decide) ?_
  refine s_pick [] [] rfl ?_; exact k
theorem bX7_base_60 {l : Launch} {D : va_G} {aI aL : ClassId} {ad : Nat → Nat} {P : sa_P} {I : sa_I} {J : sa_J}    (k : Sat (ER l D aI aL ad) M_X7_base P 61 [] [.long (0 : Int64)] I J) : Sat (ER l D aI aL ad) M_X7_base P 60 [] [] I J := by
  refine s_lconst (v := 0) dX7_base_60 rfl ?_
  exact k
theorem bX7_base_61 {l : Launch} {D : va_G} {aI aL : ClassId} {ad : Nat → Nat} {P : sa_P} {I : sa_I} {J : sa_J} {s0 : Int64}   (k : P (some (.long s0)) I J) : Sat (ER l D aI aL ad) M_X7_base P 61 [] [.long s0] I J := by
  exact s_lret rfl dX7_base_61 k
theorem bX7_base_62 {l : Launch} {D : va_G} {aI aL : ClassId} {ad : Nat → Nat} {P : sa_P} {I : sa_I} {J : sa_J} {x2 : Int32}   (kt : ¬ x2 = 0 → Sat (ER l D aI aL ad) M_X7_base P 80 [(0, .ref (ad 0)), (2, .int x2)] [] I J) (kf : x2 = 0 → Sat (ER l D aI aL ad) M_X7_base P 66 [(0, .ref (ad 0))] [] I J) : Sat (ER l D aI aL ad) M_X7_base P 62 [(0, .ref (ad 0)), (2, .int x2)] [] I J := by
  refine s_iload_n 1 dX7_base_62 rfl ?_
  refine s_if_ne (tgt := 80) dX7_base_63 (by decide) (fun c => ?_) (fun c => ?_)
  · exact kt c
  · refine s_pick [0] [(0, .ref (ad 0))] rfl ?_; exact kf (by first | exact c | exact Classical.not_not.mp c)
theorem bX7_base_66 {l : Launch} {D : va_G} {aI aL : ClassId} {ad : Nat → Nat} {P : sa_P} {I : sa_I} {J : sa_J}    (k : Sat (ER l D aI aL ad) M_X7_base P 104 [] [.long (((I 0 7).toInt64) * ((I 0 6).toInt64))] I J) : Sat (ER l D aI aL ad) M_X7_base P 66 [(0, .ref (ad 0))] [] I J := by
  refine s_aload_n 0 dX7_base_66 rfl ?_
  refine g_X7_145 dX7_base_67 rfl ?_
  refine s_i2l dX7_base_70 ?_
  refine s_aload_n 0 dX7_base_71 rfl ?_
  refine g_X7_139 dX7_base_72 rfl ?_
  refine s_i2l dX7_base_75 ?_
  refine s_lmul dX7_base_76 ?_
  refine s_goto (tgt := 104) dX7_base_77 (by decide) ?_
  refine s_pick [] [] rfl ?_; exact k
theorem bX7_base_80 {l : Launch} {D : va_G} {aI aL : ClassId} {ad : Nat → Nat} {P : sa_P} {I : sa_I} {J : sa_J} {x2 : Int32}   (kt : ¬ x2 = (1 : Int32) → Sat (ER l D aI aL ad) M_X7_base P 99 [(0, .ref (ad 0))] [] I J) (kf : x2 = (1 : Int32) → Sat (ER l D aI aL ad) M_X7_base P 85 [(0, .ref (ad 0))] [] I J) : Sat (ER l D aI aL ad) M_X7_base P 80 [(0, .ref (ad 0)), (2, .int x2)] [] I J := by
  refine s_iload_n 1 dX7_base_80 rfl ?_
  refine s_iconst (v := 1) dX7_base_81 rfl ?_
  refine s_icmp_ne (tgt := 99) dX7_base_82 (by decide) (fun c => ?_) (fun c => ?_)
  · refine s_pick [0] [(0, .ref (ad 0))] rfl ?_; exact kt c
  · refine s_pick [0] [(0, .ref (ad 0))] rfl ?_; exact kf (by first | exact c | exact Classical.not_not.mp c)
theorem bX7_base_85 {l : Launch} {D : va_G} {aI aL : ClassId} {ad : Nat → Nat} {P : sa_P} {I : sa_I} {J : sa_J}    (k : Sat (ER l D aI aL ad) M_X7_base P 104 [] [.long (((I 0 8).toInt64) * ((I 0 6).toInt64))] I J) : Sat (ER l D aI aL ad) M_X7_base P 85 [(0, .ref (ad 0))] [] I J := by
  refine s_aload_n 0 dX7_base_85 rfl ?_
  refine g_X7_148 dX7_base_86 rfl ?_
  refine s_i2l dX7_base_89 ?_
  refine s_aload_n 0 dX7_base_90 rfl ?_
  refine g_X7_139 dX7_base_91 rfl ?_
  refine s_i2l dX7_base_94 ?_
  refine s_lmul dX7_base_95 ?_
  refine s_goto (tgt := 104) dX7_base_96 (by decide) ?_
  refine s_pick [] [] rfl ?_; exact k
theorem bX7_base_99 {l : Launch} {D : va_G} {aI aL : ClassId} {ad : Nat → Nat} {P : sa_P} {I : sa_I} {J : sa_J}    (k : Sat (ER l D aI aL ad) M_X7_base P 104 [] [.long ((I 0 6).toInt64)] I J) : Sat (ER l D aI aL ad) M_X7_base P 99 [(0, .ref (ad 0))] [] I J := by
  refine s_aload_n 0 dX7_base_99 rfl ?_
  refine g_X7_139 dX7_base_100 rfl ?_
  refine s_i2l dX7_base_103 ?_
  refine s_pick [] [] rfl ?_; exact k
theorem bX7_base_104 {l : Launch} {D : va_G} {aI aL : ClassId} {ad : Nat → Nat} {P : sa_P} {I : sa_I} {J : sa_J} {s0 : Int64}   (k : P (some (.long s0)) I J) : Sat (ER l D aI aL ad) M_X7_base P 104 [] [.long s0] I J := by
  exact s_lret rfl dX7_base_104 k
/-! X7_tables -/
theorem dX7_tables_0 : decode cX7_tables 0 = .ok (.aload_n 0, 1) := by decide +kernel
theorem dX7_tables_1 : decode cX7_tables 1 = .ok (.getfield 139, 3) := by decide +kernel
theorem dX7_tables_4 : decode cX7_tables 4 = .ok (.i2l, 1) := by decide +kernel
theorem dX7_tables_5 : decode cX7_tables 5 = .ok (.aload_n 0, 1) := by decide +kernel
theorem dX7_tables_6 : decode cX7_tables 6 = .ok (.getfield 142, 3) := by decide +kernel
theorem dX7_tables_9 : decode cX7_tables 9 = .ok (.i2l, 1) := by decide +kernel
theorem dX7_tables_10 : decode cX7_tables 10 = .ok (.lmul, 1) := by decide +kernel
theorem dX7_tables_11 : decode cX7_tables 11 = .ok (.lstore_n 1, 1) := by decide +kernel
theorem dX7_tables_12 : decode cX7_tables 12 = .ok (.iconst 0, 1) := by decide +kernel
theorem dX7_tables_13 : decode cX7_tables 13 = .ok (.istore_n 3, 1) := by decide +kernel
theorem dX7_tables_14 : decode cX7_tables 14 = .ok (.iload_n 3, 1) := by decide +kernel
theorem dX7_tables_15 : decode cX7_tables 15 = .ok (.aload_n 0, 1) := by decide +kernel
theorem dX7_tables_16 : decode cX7_tables 16 = .ok (.getfield 101, 3) := by decide +kernel
theorem dX7_tables_19 : decode cX7_tables 19 = .ok (.if_icmp .ge 283, 3) := by decide +kernel
theorem dX7_tables_22 : decode cX7_tables 22 = .ok (.iconst 0, 1) := by decide +kernel
theorem dX7_tables_23 : decode cX7_tables 23 = .ok (.istore 4, 2) := by decide +kernel
theorem dX7_tables_25 : decode cX7_tables 25 = .ok (.iload 4, 2) := by decide +kernel
theorem dX7_tables_27 : decode cX7_tables 27 = .ok (.aload_n 0, 1) := by decide +kernel
theorem dX7_tables_28 : decode cX7_tables 28 = .ok (.getfield 101, 3) := by decide +kernel
theorem dX7_tables_31 : decode cX7_tables 31 = .ok (.if_icmp .ge 265, 3) := by decide +kernel
theorem dX7_tables_34 : decode cX7_tables 34 = .ok (.iconst 0, 1) := by decide +kernel
theorem dX7_tables_35 : decode cX7_tables 35 = .ok (.istore 5, 2) := by decide +kernel
theorem dX7_tables_37 : decode cX7_tables 37 = .ok (.iload 5, 2) := by decide +kernel
theorem dX7_tables_39 : decode cX7_tables 39 = .ok (.iconst 5, 1) := by decide +kernel
theorem dX7_tables_40 : decode cX7_tables 40 = .ok (.if_icmp .ge 17, 3) := by decide +kernel
theorem dX7_tables_43 : decode cX7_tables 43 = .ok (.aload_n 0, 1) := by decide +kernel
theorem dX7_tables_44 : decode cX7_tables 44 = .ok (.getfield 32, 3) := by decide +kernel
theorem dX7_tables_47 : decode cX7_tables 47 = .ok (.iload 5, 2) := by decide +kernel
theorem dX7_tables_49 : decode cX7_tables 49 = .ok (.lconst 0, 1) := by decide +kernel
theorem dX7_tables_50 : decode cX7_tables 50 = .ok (.lastore, 1) := by decide +kernel
theorem dX7_tables_51 : decode cX7_tables 51 = .ok (.iinc 5 1, 3) := by decide +kernel
theorem dX7_tables_54 : decode cX7_tables 54 = .ok (.goto (-17), 3) := by decide +kernel
theorem dX7_tables_57 : decode cX7_tables 57 = .ok (.iconst 0, 1) := by decide +kernel
theorem dX7_tables_58 : decode cX7_tables 58 = .ok (.istore 5, 2) := by decide +kernel
theorem dX7_tables_60 : decode cX7_tables 60 = .ok (.iload 5, 2) := by decide +kernel
theorem dX7_tables_62 : decode cX7_tables 62 = .ok (.aload_n 0, 1) := by decide +kernel
theorem dX7_tables_63 : decode cX7_tables 63 = .ok (.getfield 101, 3) := by decide +kernel
theorem dX7_tables_66 : decode cX7_tables 66 = .ok (.if_icmp .ge 56, 3) := by decide +kernel
theorem dX7_tables_69 : decode cX7_tables 69 = .ok (.iconst 0, 1) := by decide +kernel
theorem dX7_tables_70 : decode cX7_tables 70 = .ok (.istore 6, 2) := by decide +kernel
theorem dX7_tables_72 : decode cX7_tables 72 = .ok (.iload 6, 2) := by decide +kernel
theorem dX7_tables_74 : decode cX7_tables 74 = .ok (.aload_n 0, 1) := by decide +kernel
theorem dX7_tables_75 : decode cX7_tables 75 = .ok (.getfield 101, 3) := by decide +kernel
theorem dX7_tables_78 : decode cX7_tables 78 = .ok (.if_icmp .ge 38, 3) := by decide +kernel
theorem dX7_tables_81 : decode cX7_tables 81 = .ok (.aload_n 0, 1) := by decide +kernel
theorem dX7_tables_82 : decode cX7_tables 82 = .ok (.getfield 32, 3) := by decide +kernel
theorem dX7_tables_85 : decode cX7_tables 85 = .ok (.iload 5, 2) := by decide +kernel
theorem dX7_tables_87 : decode cX7_tables 87 = .ok (.iload 6, 2) := by decide +kernel
theorem dX7_tables_89 : decode cX7_tables 89 = .ok (.iadd, 1) := by decide +kernel
theorem dX7_tables_90 : decode cX7_tables 90 = .ok (.dup2, 1) := by decide +kernel
theorem dX7_tables_91 : decode cX7_tables 91 = .ok (.laload, 1) := by decide +kernel
theorem dX7_tables_92 : decode cX7_tables 92 = .ok (.aload_n 0, 1) := by decide +kernel
theorem dX7_tables_93 : decode cX7_tables 93 = .ok (.iload_n 3, 1) := by decide +kernel
theorem dX7_tables_94 : decode cX7_tables 94 = .ok (.iload 5, 2) := by decide +kernel
theorem dX7_tables_96 : decode cX7_tables 96 = .ok (.invokevirtual 199, 3) := by decide +kernel
theorem dX7_tables_99 : decode cX7_tables 99 = .ok (.aload_n 0, 1) := by decide +kernel
theorem dX7_tables_100 : decode cX7_tables 100 = .ok (.iload 4, 2) := by decide +kernel
theorem dX7_tables_102 : decode cX7_tables 102 = .ok (.iload 6, 2) := by decide +kernel
theorem dX7_tables_104 : decode cX7_tables 104 = .ok (.invokevirtual 199, 3) := by decide +kernel
theorem dX7_tables_107 : decode cX7_tables 107 = .ok (.lmul, 1) := by decide +kernel
theorem dX7_tables_108 : decode cX7_tables 108 = .ok (.ladd, 1) := by decide +kernel
theorem dX7_tables_109 : decode cX7_tables 109 = .ok (.lastore, 1) := by decide +kernel
theorem dX7_tables_110 : decode cX7_tables 110 = .ok (.iinc 6 1, 3) := by decide +kernel
theorem dX7_tables_113 : decode cX7_tables 113 = .ok (.goto (-41), 3) := by decide +kernel
theorem dX7_tables_116 : decode cX7_tables 116 = .ok (.iinc 5 1, 3) := by decide +kernel
theorem dX7_tables_119 : decode cX7_tables 119 = .ok (.goto (-59), 3) := by decide +kernel
theorem dX7_tables_122 : decode cX7_tables 122 = .ok (.aload_n 0, 1) := by decide +kernel
theorem dX7_tables_123 : decode cX7_tables 123 = .ok (.invokevirtual 186, 3) := by decide +kernel
theorem dX7_tables_126 : decode cX7_tables 126 = .ok (.lload_n 1, 1) := by decide +kernel
theorem dX7_tables_127 : decode cX7_tables 127 = .ok (.lload_n 1, 1) := by decide +kernel
theorem dX7_tables_128 : decode cX7_tables 128 = .ok (.lmul, 1) := by decide +kernel
theorem dX7_tables_129 : decode cX7_tables 129 = .ok (.lstore 5, 2) := by decide +kernel
theorem dX7_tables_131 : decode cX7_tables 131 = .ok (.aload_n 0, 1) := by decide +kernel
theorem dX7_tables_132 : decode cX7_tables 132 = .ok (.getfield 101, 3) := by decide +kernel
theorem dX7_tables_135 : decode cX7_tables 135 = .ok (.iconst 3, 1) := by decide +kernel
theorem dX7_tables_136 : decode cX7_tables 136 = .ok (.if_icmp .ne 21, 3) := by decide +kernel
theorem dX7_tables_139 : decode cX7_tables 139 = .ok (.aload_n 0, 1) := by decide +kernel
theorem dX7_tables_140 : decode cX7_tables 140 = .ok (.getfield 32, 3) := by decide +kernel
theorem dX7_tables_143 : decode cX7_tables 143 = .ok (.iconst 2, 1) := by decide +kernel
theorem dX7_tables_144 : decode cX7_tables 144 = .ok (.laload, 1) := by decide +kernel
theorem dX7_tables_145 : decode cX7_tables 145 = .ok (.aload_n 0, 1) := by decide +kernel
theorem dX7_tables_146 : decode cX7_tables 146 = .ok (.getfield 142, 3) := by decide +kernel
theorem dX7_tables_149 : decode cX7_tables 149 = .ok (.i2l, 1) := by decide +kernel
theorem dX7_tables_150 : decode cX7_tables 150 = .ok (.lmul, 1) := by decide +kernel
theorem dX7_tables_151 : decode cX7_tables 151 = .ok (.lload 5, 2) := by decide +kernel
theorem dX7_tables_153 : decode cX7_tables 153 = .ok (.ldiv, 1) := by decide +kernel
theorem dX7_tables_154 : decode cX7_tables 154 = .ok (.goto 4, 3) := by decide +kernel
theorem dX7_tables_157 : decode cX7_tables 157 = .ok (.lconst 0, 1) := by decide +kernel
theorem dX7_tables_158 : decode cX7_tables 158 = .ok (.lstore 7, 2) := by decide +kernel
theorem dX7_tables_160 : decode cX7_tables 160 = .ok (.aload_n 0, 1) := by decide +kernel
theorem dX7_tables_161 : decode cX7_tables 161 = .ok (.getfield 32, 3) := by decide +kernel
theorem dX7_tables_164 : decode cX7_tables 164 = .ok (.iconst 1, 1) := by decide +kernel
theorem dX7_tables_165 : decode cX7_tables 165 = .ok (.laload, 1) := by decide +kernel
theorem dX7_tables_166 : decode cX7_tables 166 = .ok (.lload 7, 2) := by decide +kernel
theorem dX7_tables_168 : decode cX7_tables 168 = .ok (.aload_n 0, 1) := by decide +kernel
theorem dX7_tables_169 : decode cX7_tables 169 = .ok (.getfield 148, 3) := by decide +kernel
theorem dX7_tables_172 : decode cX7_tables 172 = .ok (.i2l, 1) := by decide +kernel
theorem dX7_tables_173 : decode cX7_tables 173 = .ok (.lmul, 1) := by decide +kernel
theorem dX7_tables_174 : decode cX7_tables 174 = .ok (.lload 5, 2) := by decide +kernel
theorem dX7_tables_176 : decode cX7_tables 176 = .ok (.aload_n 0, 1) := by decide +kernel
theorem dX7_tables_177 : decode cX7_tables 177 = .ok (.getfield 142, 3) := by decide +kernel
theorem dX7_tables_180 : decode cX7_tables 180 = .ok (.i2l, 1) := by decide +kernel
theorem dX7_tables_181 : decode cX7_tables 181 = .ok (.ldiv, 1) := by decide +kernel
theorem dX7_tables_182 : decode cX7_tables 182 = .ok (.lmul, 1) := by decide +kernel
theorem dX7_tables_183 : decode cX7_tables 183 = .ok (.lsub, 1) := by decide +kernel
theorem dX7_tables_184 : decode cX7_tables 184 = .ok (.aload_n 0, 1) := by decide +kernel
theorem dX7_tables_185 : decode cX7_tables 185 = .ok (.getfield 139, 3) := by decide +kernel
theorem dX7_tables_188 : decode cX7_tables 188 = .ok (.i2l, 1) := by decide +kernel
theorem dX7_tables_189 : decode cX7_tables 189 = .ok (.lmul, 1) := by decide +kernel
theorem dX7_tables_190 : decode cX7_tables 190 = .ok (.lload 5, 2) := by decide +kernel
theorem dX7_tables_192 : decode cX7_tables 192 = .ok (.ldiv, 1) := by decide +kernel
theorem dX7_tables_193 : decode cX7_tables 193 = .ok (.lstore 9, 2) := by decide +kernel
theorem dX7_tables_195 : decode cX7_tables 195 = .ok (.aload_n 0, 1) := by decide +kernel
theorem dX7_tables_196 : decode cX7_tables 196 = .ok (.getfield 13, 3) := by decide +kernel
theorem dX7_tables_199 : decode cX7_tables 199 = .ok (.bipush 9, 2) := by decide +kernel
theorem dX7_tables_201 : decode cX7_tables 201 = .ok (.iload_n 3, 1) := by decide +kernel
theorem dX7_tables_202 : decode cX7_tables 202 = .ok (.imul, 1) := by decide +kernel
theorem dX7_tables_203 : decode cX7_tables 203 = .ok (.iconst 3, 1) := by decide +kernel
theorem dX7_tables_204 : decode cX7_tables 204 = .ok (.iload 4, 2) := by decide +kernel
theorem dX7_tables_206 : decode cX7_tables 206 = .ok (.imul, 1) := by decide +kernel
theorem dX7_tables_207 : decode cX7_tables 207 = .ok (.iadd, 1) := by decide +kernel
theorem dX7_tables_208 : decode cX7_tables 208 = .ok (.aload_n 0, 1) := by decide +kernel
theorem dX7_tables_209 : decode cX7_tables 209 = .ok (.getfield 32, 3) := by decide +kernel
theorem dX7_tables_212 : decode cX7_tables 212 = .ok (.iconst 0, 1) := by decide +kernel
theorem dX7_tables_213 : decode cX7_tables 213 = .ok (.laload, 1) := by decide +kernel
theorem dX7_tables_214 : decode cX7_tables 214 = .ok (.lload 9, 2) := by decide +kernel
theorem dX7_tables_216 : decode cX7_tables 216 = .ok (.aload_n 0, 1) := by decide +kernel
theorem dX7_tables_217 : decode cX7_tables 217 = .ok (.getfield 136, 3) := by decide +kernel
theorem dX7_tables_220 : decode cX7_tables 220 = .ok (.i2l, 1) := by decide +kernel
theorem dX7_tables_221 : decode cX7_tables 221 = .ok (.lmul, 1) := by decide +kernel
theorem dX7_tables_222 : decode cX7_tables 222 = .ok (.lload 5, 2) := by decide +kernel
theorem dX7_tables_224 : decode cX7_tables 224 = .ok (.aload_n 0, 1) := by decide +kernel
theorem dX7_tables_225 : decode cX7_tables 225 = .ok (.getfield 139, 3) := by decide +kernel
theorem dX7_tables_228 : decode cX7_tables 228 = .ok (.i2l, 1) := by decide +kernel
theorem dX7_tables_229 : decode cX7_tables 229 = .ok (.ldiv, 1) := by decide +kernel
theorem dX7_tables_230 : decode cX7_tables 230 = .ok (.lmul, 1) := by decide +kernel
theorem dX7_tables_231 : decode cX7_tables 231 = .ok (.lsub, 1) := by decide +kernel
theorem dX7_tables_232 : decode cX7_tables 232 = .ok (.lload 7, 2) := by decide +kernel
theorem dX7_tables_234 : decode cX7_tables 234 = .ok (.aload_n 0, 1) := by decide +kernel
theorem dX7_tables_235 : decode cX7_tables 235 = .ok (.getfield 145, 3) := by decide +kernel
theorem dX7_tables_238 : decode cX7_tables 238 = .ok (.i2l, 1) := by decide +kernel
theorem dX7_tables_239 : decode cX7_tables 239 = .ok (.lmul, 1) := by decide +kernel
theorem dX7_tables_240 : decode cX7_tables 240 = .ok (.lload 5, 2) := by decide +kernel
theorem dX7_tables_242 : decode cX7_tables 242 = .ok (.aload_n 0, 1) := by decide +kernel
theorem dX7_tables_243 : decode cX7_tables 243 = .ok (.getfield 142, 3) := by decide +kernel
theorem dX7_tables_246 : decode cX7_tables 246 = .ok (.i2l, 1) := by decide +kernel
theorem dX7_tables_247 : decode cX7_tables 247 = .ok (.ldiv, 1) := by decide +kernel
theorem dX7_tables_248 : decode cX7_tables 248 = .ok (.lmul, 1) := by decide +kernel
theorem dX7_tables_249 : decode cX7_tables 249 = .ok (.lsub, 1) := by decide +kernel
theorem dX7_tables_250 : decode cX7_tables 250 = .ok (.lload 5, 2) := by decide +kernel
theorem dX7_tables_252 : decode cX7_tables 252 = .ok (.ldiv, 1) := by decide +kernel
theorem dX7_tables_253 : decode cX7_tables 253 = .ok (.lastore, 1) := by decide +kernel
theorem dX7_tables_254 : decode cX7_tables 254 = .ok (.aload_n 0, 1) := by decide +kernel
theorem dX7_tables_255 : decode cX7_tables 255 = .ok (.getfield 13, 3) := by decide +kernel
theorem dX7_tables_258 : decode cX7_tables 258 = .ok (.bipush 9, 2) := by decide +kernel
theorem dX7_tables_260 : decode cX7_tables 260 = .ok (.iload_n 3, 1) := by decide +kernel
theorem dX7_tables_261 : decode cX7_tables 261 = .ok (.imul, 1) := by decide +kernel
theorem dX7_tables_262 : decode cX7_tables 262 = .ok (.iconst 3, 1) := by decide +kernel
theorem dX7_tables_263 : decode cX7_tables 263 = .ok (.iload 4, 2) := by decide +kernel
theorem dX7_tables_265 : decode cX7_tables 265 = .ok (.imul, 1) := by decide +kernel
theorem dX7_tables_266 : decode cX7_tables 266 = .ok (.iadd, 1) := by decide +kernel
theorem dX7_tables_267 : decode cX7_tables 267 = .ok (.iconst 1, 1) := by decide +kernel
theorem dX7_tables_268 : decode cX7_tables 268 = .ok (.iadd, 1) := by decide +kernel
theorem dX7_tables_269 : decode cX7_tables 269 = .ok (.lload 9, 2) := by decide +kernel
theorem dX7_tables_271 : decode cX7_tables 271 = .ok (.lastore, 1) := by decide +kernel
theorem dX7_tables_272 : decode cX7_tables 272 = .ok (.aload_n 0, 1) := by decide +kernel
theorem dX7_tables_273 : decode cX7_tables 273 = .ok (.getfield 13, 3) := by decide +kernel
theorem dX7_tables_276 : decode cX7_tables 276 = .ok (.bipush 9, 2) := by decide +kernel
theorem dX7_tables_278 : decode cX7_tables 278 = .ok (.iload_n 3, 1) := by decide +kernel
theorem dX7_tables_279 : decode cX7_tables 279 = .ok (.imul, 1) := by decide +kernel
theorem dX7_tables_280 : decode cX7_tables 280 = .ok (.iconst 3, 1) := by decide +kernel
theorem dX7_tables_281 : decode cX7_tables 281 = .ok (.iload 4, 2) := by decide +kernel
theorem dX7_tables_283 : decode cX7_tables 283 = .ok (.imul, 1) := by decide +kernel
theorem dX7_tables_284 : decode cX7_tables 284 = .ok (.iadd, 1) := by decide +kernel
theorem dX7_tables_285 : decode cX7_tables 285 = .ok (.iconst 2, 1) := by decide +kernel
theorem dX7_tables_286 : decode cX7_tables 286 = .ok (.iadd, 1) := by decide +kernel
theorem dX7_tables_287 : decode cX7_tables 287 = .ok (.lload 7, 2) := by decide +kernel
theorem dX7_tables_289 : decode cX7_tables 289 = .ok (.lastore, 1) := by decide +kernel
theorem dX7_tables_290 : decode cX7_tables 290 = .ok (.iinc 4 1, 3) := by decide +kernel
theorem dX7_tables_293 : decode cX7_tables 293 = .ok (.goto (-268), 3) := by decide +kernel
theorem dX7_tables_296 : decode cX7_tables 296 = .ok (.iinc 3 1, 3) := by decide +kernel
theorem dX7_tables_299 : decode cX7_tables 299 = .ok (.goto (-285), 3) := by decide +kernel
theorem dX7_tables_302 : decode cX7_tables 302 = .ok (.return_, 1) := by decide +kernel
theorem bX7_tables_0 {l : Launch} {D : va_G} {aI aL : ClassId} {ad : Nat → Nat} {P : sa_P} {I : sa_I} {J : sa_J} {v11 : Int64} {v13 : Int32}  (f11 : ((I 0 6).toInt64) * ((I 0 9).toInt64) = v11) (f13 : (0 : Int32) = v13) (k : Sat (ER l D aI aL ad) M_X7_tables P 14 [(0, .ref (ad 0)), (1, .long v11), (3, .int v13)] [] I J) : Sat (ER l D aI aL ad) M_X7_tables P 0 [(0, .ref (ad 0))] [] I J := by
  refine s_aload_n 0 dX7_tables_0 rfl ?_
  refine g_X7_139 dX7_tables_1 rfl ?_
  refine s_i2l dX7_tables_4 ?_
  refine s_aload_n 0 dX7_tables_5 rfl ?_
  refine g_X7_142 dX7_tables_6 rfl ?_
  refine s_i2l dX7_tables_9 ?_
  refine s_lmul dX7_tables_10 ?_
  refine s_eql f11 ?_
  refine s_lstore_n [(1, .long v11), (0, .ref (ad 0))] dX7_tables_11 (Nat.lt_of_lt_of_le (Nat.lt_succ_self _) (Nat.le_of_ble_eq_true rfl)) rfl ?_
  refine s_iconst (v := 0) dX7_tables_12 rfl ?_
  refine s_eqi f13 ?_
  refine s_istore_n [(3, .int v13), (1, .long v11), (0, .ref (ad 0))] dX7_tables_13 (Nat.lt_of_lt_of_le (Nat.lt_succ_self _) (Nat.le_of_ble_eq_true rfl)) rfl ?_
  refine s_pick [2, 1, 0] [(0, .ref (ad 0)), (1, .long v11), (3, .int v13)] rfl ?_; exact k
theorem bX7_tables_14 {l : Launch} {D : va_G} {aI aL : ClassId} {ad : Nat → Nat} {P : sa_P} {I : sa_I} {J : sa_J} {x1 : Int64} {x3 : Int32}   (kt : I 0 1 ≤ x3 → Sat (ER l D aI aL ad) M_X7_tables P 302 [] [] I J) (kf : ¬ I 0 1 ≤ x3 → Sat (ER l D aI aL ad) M_X7_tables P 22 [(0, .ref (ad 0)), (1, .long x1), (3, .int x3)] [] I J) : Sat (ER l D aI aL ad) M_X7_tables P 14 [(0, .ref (ad 0)), (1, .long x1), (3, .int x3)] [] I J := by
  refine s_iload_n 2 dX7_tables_14 rfl ?_
  refine s_aload_n 0 dX7_tables_15 rfl ?_
  refine g_X7_101 dX7_tables_16 rfl ?_
  refine s_icmp_ge (tgt := 302) dX7_tables_19 (by decide) (fun c => ?_) (fun c => ?_)
  · refine s_pick [] [] rfl ?_; exact kt c
  · exact kf c
theorem bX7_tables_22 {l : Launch} {D : va_G} {aI aL : ClassId} {ad : Nat → Nat} {P : sa_P} {I : sa_I} {J : sa_J} {x1 : Int64} {x3 : Int32} {v23 : Int32}  (f23 : (0 : Int32) = v23) (k : Sat (ER l D aI aL ad) M_X7_tables P 25 [(0, .ref (ad 0)), (1, .long x1), (3, .int x3), (4, .int v23)] [] I J) : Sat (ER l D aI aL ad) M_X7_tables P 22 [(0, .ref (ad 0)), (1, .long x1), (3, .int x3)] [] I J := by
  refine s_iconst (v := 0) dX7_tables_22 rfl ?_
  refine s_eqi f23 ?_
  refine s_istore [(4, .int v23), (0, .ref (ad 0)), (1, .long x1), (3, .int x3)] dX7_tables_23 (Nat.lt_of_lt_of_le (Nat.lt_succ_self _) (Nat.le_of_ble_eq_true rfl)) rfl ?_
  refine s_pick [1, 2, 3, 0] [(0, .ref (ad 0)), (1, .long x1), (3, .int x3), (4, .int v23)] rfl ?_; exact k
theorem bX7_tables_25 {l : Launch} {D : va_G} {aI aL : ClassId} {ad : Nat → Nat} {P : sa_P} {I : sa_I} {J : sa_J} {x1 : Int64} {x3 : Int32} {x4 : Int32}   (kt : I 0 1 ≤ x4 → Sat (ER l D aI aL ad) M_X7_tables P 296 [(0, .ref (ad 0)), (1, .long x1), (3, .int x3)] [] I J) (kf : ¬ I 0 1 ≤ x4 → Sat (ER l D aI aL ad) M_X7_tables P 34 [(0, .ref (ad 0)), (1, .long x1), (3, .int x3), (4, .int x4)] [] I J) : Sat (ER l D aI aL ad) M_X7_tables P 25 [(0, .ref (ad 0)), (1, .long x1), (3, .int x3), (4, .int x4)] [] I J := by
  refine s_iload 3 dX7_tables_25 rfl ?_
  refine s_aload_n 0 dX7_tables_27 rfl ?_
  refine g_X7_101 dX7_tables_28 rfl ?_
  refine s_icmp_ge (tgt := 296) dX7_tables_31 (by decide) (fun c => ?_) (fun c => ?_)
  · refine s_pick [0, 1, 2] [(0, .ref (ad 0)), (1, .long x1), (3, .int x3)] rfl ?_; exact kt c
  · exact kf c
theorem bX7_tables_34 {l : Launch} {D : va_G} {aI aL : ClassId} {ad : Nat → Nat} {P : sa_P} {I : sa_I} {J : sa_J} {x1 : Int64} {x3 : Int32} {x4 : Int32} {v35 : Int32}  (f35 : (0 : Int32) = v35) (k : Sat (ER l D aI aL ad) M_X7_tables P 37 [(0, .ref (ad 0)), (1, .long x1), (3, .int x3), (4, .int x4), (5, .int v35)] [] I J) : Sat (ER l D aI aL ad) M_X7_tables P 34 [(0, .ref (ad 0)), (1, .long x1), (3, .int x3), (4, .int x4)] [] I J := by
  refine s_iconst (v := 0) dX7_tables_34 rfl ?_
  refine s_eqi f35 ?_
  refine s_istore [(5, .int v35), (0, .ref (ad 0)), (1, .long x1), (3, .int x3), (4, .int x4)] dX7_tables_35 (Nat.lt_of_lt_of_le (Nat.lt_succ_self _) (Nat.le_of_ble_eq_true rfl)) rfl ?_
  refine s_pick [1, 2, 3, 4, 0] [(0, .ref (ad 0)), (1, .long x1), (3, .int x3), (4, .int x4), (5, .int v35)] rfl ?_; exact k
theorem bX7_tables_37 {l : Launch} {D : va_G} {aI aL : ClassId} {ad : Nat → Nat} {P : sa_P} {I : sa_I} {J : sa_J} {x1 : Int64} {x3 : Int32} {x4 : Int32} {x5 : Int32}   (kt : (5 : Int32) ≤ x5 → Sat (ER l D aI aL ad) M_X7_tables P 57 [(0, .ref (ad 0)), (1, .long x1), (3, .int x3), (4, .int x4)] [] I J) (kf : ¬ (5 : Int32) ≤ x5 → Sat (ER l D aI aL ad) M_X7_tables P 43 [(0, .ref (ad 0)), (1, .long x1), (3, .int x3), (4, .int x4), (5, .int x5)] [] I J) : Sat (ER l D aI aL ad) M_X7_tables P 37 [(0, .ref (ad 0)), (1, .long x1), (3, .int x3), (4, .int x4), (5, .int x5)] [] I J := by
  refine s_iload 4 dX7_tables_37 rfl ?_
  refine s_iconst (v := 5) dX7_tables_39 rfl ?_
  refine s_icmp_ge (tgt := 57) dX7_tables_40 (by decide) (fun c => ?_) (fun c => ?_)
  · refine s_pick [0, 1, 2, 3] [(0, .ref (ad 0)), (1, .long x1), (3, .int x3), (4, .int x4)] rfl ?_; exact kt c
  · exact kf c
theorem bX7_tables_43 {l : Launch} {D : va_G} {aI aL : ClassId} {ad : Nat → Nat} {P : sa_P} {I : sa_I} {J : sa_J} {x1 : Int64} {x3 : Int32} {x4 : Int32} {x5 : Int32} {j47 : Nat} {v50 : Int64} {v51 : Int32} (e47 : x5 = nI j47) (h50 : j47 < 5) (f50 : (0 : Int64) = v50) (f51 : x5 + 1 = v51) (k : Sat (ER l D aI aL ad) M_X7_tables P 37 [(0, .ref (ad 0)), (1, .long x1), (3, .int x3), (4, .int x4), (5, .int v51)] [] I (sa_uJ J 8 j47 v50)) : Sat (ER l D aI aL ad) M_X7_tables P 43 [(0, .ref (ad 0)), (1, .long x1), (3, .int x3), (4, .int x4), (5, .int x5)] [] I J := by
  refine s_aload_n 0 dX7_tables_43 rfl ?_
  refine g_X7_32 dX7_tables_44 rfl ?_
  refine s_iload 4 dX7_tables_47 rfl ?_
  refine s_eqi e47 ?_
  refine s_lconst (v := 0) dX7_tables_49 rfl ?_
  refine s_eql f50 ?_
  refine s_lastoreN aJ_R8 h50 (by decide) dX7_tables_50 ?_
  refine s_iinc 4 v51 [(5, .int v51), (0, .ref (ad 0)), (1, .long x1), (3, .int x3), (4, .int x4)] dX7_tables_51 rfl f51 (Nat.lt_of_lt_of_le (Nat.lt_succ_self _) (Nat.le_of_ble_eq_true rfl)) rfl ?_
  refine s_goto (tgt := 37) dX7_tables_54 (by decide) ?_
  refine s_pick [1, 2, 3, 4, 0] [(0, .ref (ad 0)), (1, .long x1), (3, .int x3), (4, .int x4), (5, .int v51)] rfl ?_; exact k
theorem bX7_tables_57 {l : Launch} {D : va_G} {aI aL : ClassId} {ad : Nat → Nat} {P : sa_P} {I : sa_I} {J : sa_J} {x1 : Int64} {x3 : Int32} {x4 : Int32} {v58 : Int32}  (f58 : (0 : Int32) = v58) (k : Sat (ER l D aI aL ad) M_X7_tables P 60 [(0, .ref (ad 0)), (1, .long x1), (3, .int x3), (4, .int x4), (5, .int v58)] [] I J) : Sat (ER l D aI aL ad) M_X7_tables P 57 [(0, .ref (ad 0)), (1, .long x1), (3, .int x3), (4, .int x4)] [] I J := by
  refine s_iconst (v := 0) dX7_tables_57 rfl ?_
  refine s_eqi f58 ?_
  refine s_istore [(5, .int v58), (0, .ref (ad 0)), (1, .long x1), (3, .int x3), (4, .int x4)] dX7_tables_58 (Nat.lt_of_lt_of_le (Nat.lt_succ_self _) (Nat.le_of_ble_eq_true rfl)) rfl ?_
  refine s_pick [1, 2, 3, 4, 0] [(0, .ref (ad 0)), (1, .long x1), (3, .int x3), (4, .int x4), (5, .int v58)] rfl ?_; exact k
theorem bX7_tables_60 {l : Launch} {D : va_G} {aI aL : ClassId} {ad : Nat → Nat} {P : sa_P} {I : sa_I} {J : sa_J} {x1 : Int64} {x3 : Int32} {x4 : Int32} {x5 : Int32}   (kt : I 0 1 ≤ x5 → Sat (ER l D aI aL ad) M_X7_tables P 122 [(0, .ref (ad 0)), (1, .long x1), (3, .int x3), (4, .int x4)] [] I J) (kf : ¬ I 0 1 ≤ x5 → Sat (ER l D aI aL ad) M_X7_tables P 69 [(0, .ref (ad 0)), (1, .long x1), (3, .int x3), (4, .int x4), (5, .int x5)] [] I J) : Sat (ER l D aI aL ad) M_X7_tables P 60 [(0, .ref (ad 0)), (1, .long x1), (3, .int x3), (4, .int x4), (5, .int x5)] [] I J := by
  refine s_iload 4 dX7_tables_60 rfl ?_
  refine s_aload_n 0 dX7_tables_62 rfl ?_
  refine g_X7_101 dX7_tables_63 rfl ?_
  refine s_icmp_ge (tgt := 122) dX7_tables_66 (by decide) (fun c => ?_) (fun c => ?_)
  · refine s_pick [0, 1, 2, 3] [(0, .ref (ad 0)), (1, .long x1), (3, .int x3), (4, .int x4)] rfl ?_; exact kt c
  · exact kf c
theorem bX7_tables_69 {l : Launch} {D : va_G} {aI aL : ClassId} {ad : Nat → Nat} {P : sa_P} {I : sa_I} {J : sa_J} {x1 : Int64} {x3 : Int32} {x4 : Int32} {x5 : Int32} {v70 : Int32}  (f70 : (0 : Int32) = v70) (k : Sat (ER l D aI aL ad) M_X7_tables P 72 [(0, .ref (ad 0)), (1, .long x1), (3, .int x3), (4, .int x4), (5, .int x5), (6, .int v70)] [] I J) : Sat (ER l D aI aL ad) M_X7_tables P 69 [(0, .ref (ad 0)), (1, .long x1), (3, .int x3), (4, .int x4), (5, .int x5)] [] I J := by
  refine s_iconst (v := 0) dX7_tables_69 rfl ?_
  refine s_eqi f70 ?_
  refine s_istore [(6, .int v70), (0, .ref (ad 0)), (1, .long x1), (3, .int x3), (4, .int x4), (5, .int x5)] dX7_tables_70 (Nat.lt_of_lt_of_le (Nat.lt_succ_self _) (Nat.le_of_ble_eq_true rfl)) rfl ?_
  refine s_pick [1, 2, 3, 4, 5, 0] [(0, .ref (ad 0)), (1, .long x1), (3, .int x3), (4, .int x4), (5, .int x5), (6, .int v70)] rfl ?_; exact k
theorem bX7_tables_72 {l : Launch} {D : va_G} {aI aL : ClassId} {ad : Nat → Nat} {P : sa_P} {I : sa_I} {J : sa_J} {x1 : Int64} {x3 : Int32} {x4 : Int32} {x5 : Int32} {x6 : Int32}   (kt : I 0 1 ≤ x6 → Sat (ER l D aI aL ad) M_X7_tables P 116 [(0, .ref (ad 0)), (1, .long x1), (3, .int x3), (4, .int x4), (5, .int x5)] [] I J) (kf : ¬ I 0 1 ≤ x6 → Sat (ER l D aI aL ad) M_X7_tables P 81 [(0, .ref (ad 0)), (1, .long x1), (3, .int x3), (4, .int x4), (5, .int x5), (6, .int x6)] [] I J) : Sat (ER l D aI aL ad) M_X7_tables P 72 [(0, .ref (ad 0)), (1, .long x1), (3, .int x3), (4, .int x4), (5, .int x5), (6, .int x6)] [] I J := by
  refine s_iload 5 dX7_tables_72 rfl ?_
  refine s_aload_n 0 dX7_tables_74 rfl ?_
  refine g_X7_101 dX7_tables_75 rfl ?_
  refine s_icmp_ge (tgt := 116) dX7_tables_78 (by decide) (fun c => ?_) (fun c => ?_)
  · refine s_pick [0, 1, 2, 3, 4] [(0, .ref (ad 0)), (1, .long x1), (3, .int x3), (4, .int x4), (5, .int x5)] rfl ?_; exact kt c
  · exact kf c
theorem bX7_tables_81 {l : Launch} {D : va_G} {aI aL : ClassId} {ad : Nat → Nat} {P : sa_P} {I : sa_I} {J : sa_J} {x1 : Int64} {x3 : Int32} {x4 : Int32} {x5 : Int32} {x6 : Int32} {j89 : Nat} (e89 : x5 + x6 = nI j89) (h91 : j89 < 5)  (k : Sat (ER l D aI aL ad) M_X7_tables P 96 [(0, .ref (ad 0)), (1, .long x1), (3, .int x3), (4, .int x4), (5, .int x5), (6, .int x6)] [.int x5, .int x3, .ref (ad 0), .long (J 8 j89), .int (nI j89), .ref (ad 8)] I J) : Sat (ER l D aI aL ad) M_X7_tables P 81 [(0, .ref (ad 0)), (1, .long x1), (3, .int x3), (4, .int x4), (5, .int x5), (6, .int x6)] [] I J := by
  refine s_aload_n 0 dX7_tables_81 rfl ?_
  refine g_X7_32 dX7_tables_82 rfl ?_
  refine s_iload 4 dX7_tables_85 rfl ?_
  refine s_iload 5 dX7_tables_87 rfl ?_
  refine s_iadd dX7_tables_89 ?_
  refine s_eqi e89 ?_
  refine s_dup2_11 dX7_tables_90 rfl rfl ?_
  refine s_laloadN aJ_R8 h91 (by decide) dX7_tables_91 ?_
  refine s_aload_n 0 dX7_tables_92 rfl ?_
  refine s_iload_n 2 dX7_tables_93 rfl ?_
  refine s_iload 4 dX7_tables_94 rfl ?_
  exact k
theorem bX7_tables_99 {l : Launch} {D : va_G} {aI aL : ClassId} {ad : Nat → Nat} {P : sa_P} {I : sa_I} {J : sa_J} {x1 : Int64} {x3 : Int32} {x4 : Int32} {x5 : Int32} {x6 : Int32} {s1 : Int32} {s2 : Int64} {s3 : Int64}   (k : Sat (ER l D aI aL ad) M_X7_tables P 104 [(0, .ref (ad 0)), (1, .long x1), (3, .int x3), (4, .int x4), (5, .int x5), (6, .int x6)] [.int x6, .int x4, .ref (ad 0), .long s3, .long s2, .int s1, .ref (ad 8)] I J) : Sat (ER l D aI aL ad) M_X7_tables P 99 [(0, .ref (ad 0)), (1, .long x1), (3, .int x3), (4, .int x4), (5, .int x5), (6, .int x6)] [.long s3, .long s2, .int s1, .ref (ad 8)] I J := by
  refine s_aload_n 0 dX7_tables_99 rfl ?_
  refine s_iload 3 dX7_tables_100 rfl ?_
  refine s_iload 5 dX7_tables_102 rfl ?_
  exact k
theorem bX7_tables_107 {l : Launch} {D : va_G} {aI aL : ClassId} {ad : Nat → Nat} {P : sa_P} {I : sa_I} {J : sa_J} {x1 : Int64} {x3 : Int32} {x4 : Int32} {x5 : Int32} {x6 : Int32} {s1 : Nat} {s2 : Int64} {s3 : Int64} {s4 : Int64} {v109 : Int64} {v110 : Int32} (h109 : s1 < 5) (f109 : s2 + (s3 * s4) = v109) (f110 : x6 + 1 = v110) (k : Sat (ER l D aI aL ad) M_X7_tables P 72 [(0, .ref (ad 0)), (1, .long x1), (3, .int x3), (4, .int x4), (5, .int x5), (6, .int v110)] [] I (sa_uJ J 8 s1 v109)) : Sat (ER l D aI aL ad) M_X7_tables P 107 [(0, .ref (ad 0)), (1, .long x1), (3, .int x3), (4, .int x4), (5, .int x5), (6, .int x6)] [.long s4, .long s3, .long s2, .int (nI s1), .ref (ad 8)] I J := by
  refine s_lmul dX7_tables_107 ?_
  refine s_ladd dX7_tables_108 ?_
  refine s_eql f109 ?_
  refine s_lastoreN aJ_R8 h109 (by decide) dX7_tables_109 ?_
  refine s_iinc 5 v110 [(6, .int v110), (0, .ref (ad 0)), (1, .long x1), (3, .int x3), (4, .int x4), (5, .int x5)] dX7_tables_110 rfl f110 (Nat.lt_of_lt_of_le (Nat.lt_succ_self _) (Nat.le_of_ble_eq_true rfl)) rfl ?_
  refine s_goto (tgt := 72) dX7_tables_113 (by decide) ?_
  refine s_pick [1, 2, 3, 4, 5, 0] [(0, .ref (ad 0)), (1, .long x1), (3, .int x3), (4, .int x4), (5, .int x5), (6, .int v110)] rfl ?_; exact k
theorem bX7_tables_116 {l : Launch} {D : va_G} {aI aL : ClassId} {ad : Nat → Nat} {P : sa_P} {I : sa_I} {J : sa_J} {x1 : Int64} {x3 : Int32} {x4 : Int32} {x5 : Int32} {v116 : Int32}  (f116 : x5 + 1 = v116) (k : Sat (ER l D aI aL ad) M_X7_tables P 60 [(0, .ref (ad 0)), (1, .long x1), (3, .int x3), (4, .int x4), (5, .int v116)] [] I J) : Sat (ER l D aI aL ad) M_X7_tables P 116 [(0, .ref (ad 0)), (1, .long x1), (3, .int x3), (4, .int x4), (5, .int x5)] [] I J := by
  refine s_iinc 4 v116 [(5, .int v116), (0, .ref (ad 0)), (1, .long x1), (3, .int x3), (4, .int x4)] dX7_tables_116 rfl f116 (Nat.lt_of_lt_of_le (Nat.lt_succ_self _) (Nat.le_of_ble_eq_true rfl)) rfl ?_
  refine s_goto (tgt := 60) dX7_tables_119 (by decide) ?_
  refine s_pick [1, 2, 3, 4, 0] [(0, .ref (ad 0)), (1, .long x1), (3, .int x3), (4, .int x4), (5, .int v116)] rfl ?_; exact k
theorem bX7_tables_122 {l : Launch} {D : va_G} {aI aL : ClassId} {ad : Nat → Nat} {P : sa_P} {I : sa_I} {J : sa_J} {x1 : Int64} {x3 : Int32} {x4 : Int32}   (k : Sat (ER l D aI aL ad) M_X7_tables P 123 [(0, .ref (ad 0)), (1, .long x1), (3, .int x3), (4, .int x4)] [.ref (ad 0)] I J) : Sat (ER l D aI aL ad) M_X7_tables P 122 [(0, .ref (ad 0)), (1, .long x1), (3, .int x3), (4, .int x4)] [] I J := by
  refine s_aload_n 0 dX7_tables_122 rfl ?_
  exact k
theorem bX7_tables_126 {l : Launch} {D : va_G} {aI aL : ClassId} {ad : Nat → Nat} {P : sa_P} {I : sa_I} {J : sa_J} {x1 : Int64} {x3 : Int32} {x4 : Int32} {v129 : Int64}  (f129 : x1 * x1 = v129) (kt : ¬ I 0 1 = (3 : Int32) → Sat (ER l D aI aL ad) M_X7_tables P 157 [(0, .ref (ad 0)), (1, .long x1), (3, .int x3), (4, .int x4), (5, .long v129)] [] I J) (kf : I 0 1 = (3 : Int32) → Sat (ER l D aI aL ad) M_X7_tables P 139 [(0, .ref (ad 0)), (1, .long x1), (3, .int x3), (4, .int x4), (5, .long v129)] [] I J) : Sat (ER l D aI aL ad) M_X7_tables P 126 [(0, .ref (ad 0)), (1, .long x1), (3, .int x3), (4, .int x4)] [] I J := by
  refine s_lload_n 1 dX7_tables_126 rfl ?_
  refine s_lload_n 1 dX7_tables_127 rfl ?_
  refine s_lmul dX7_tables_128 ?_
  refine s_eql f129 ?_
  refine s_lstore [(5, .long v129), (0, .ref (ad 0)), (1, .long x1), (3, .int x3), (4, .int x4)] dX7_tables_129 (Nat.lt_of_lt_of_le (Nat.lt_succ_self _) (Nat.le_of_ble_eq_true rfl)) rfl ?_
  refine s_aload_n 1 dX7_tables_131 rfl ?_
  refine g_X7_101 dX7_tables_132 rfl ?_
  refine s_iconst (v := 3) dX7_tables_135 rfl ?_
  refine s_icmp_ne (tgt := 157) dX7_tables_136 (by decide) (fun c => ?_) (fun c => ?_)
  · refine s_pick [1, 2, 3, 4, 0] [(0, .ref (ad 0)), (1, .long x1), (3, .int x3), (4, .int x4), (5, .long v129)] rfl ?_; exact kt c
  · refine s_pick [1, 2, 3, 4, 0] [(0, .ref (ad 0)), (1, .long x1), (3, .int x3), (4, .int x4), (5, .long v129)] rfl ?_; exact kf (by first | exact c | exact Classical.not_not.mp c)
theorem bX7_tables_139 {l : Launch} {D : va_G} {aI aL : ClassId} {ad : Nat → Nat} {P : sa_P} {I : sa_I} {J : sa_J} {x1 : Int64} {x3 : Int32} {x4 : Int32} {x5 : Int64} (z153 : ¬ x5 = 0)  (k : Sat (ER l D aI aL ad) M_X7_tables P 158 [(0, .ref (ad 0)), (1, .long x1), (3, .int x3), (4, .int x4), (5, .long x5)] [.long (((J 8 2) * ((I 0 9).toInt64)) / x5)] I J) : Sat (ER l D aI aL ad) M_X7_tables P 139 [(0, .ref (ad 0)), (1, .long x1), (3, .int x3), (4, .int x4), (5, .long x5)] [] I J := by
  refine s_aload_n 0 dX7_tables_139 rfl ?_
  refine g_X7_32 dX7_tables_140 rfl ?_
  refine s_iconst (v := 2) dX7_tables_143 rfl ?_
  refine s_eqi (y := nI 2) rfl ?_
  refine s_laloadN aJ_R8 (by decide) (by decide) dX7_tables_144 ?_
  refine s_aload_n 0 dX7_tables_145 rfl ?_
  refine g_X7_142 dX7_tables_146 rfl ?_
  refine s_i2l dX7_tables_149 ?_
  refine s_lmul dX7_tables_150 ?_
  refine s_lload 4 dX7_tables_151 rfl ?_
  refine s_ldiv dX7_tables_153 z153 ?_
  refine s_goto (tgt := 158) dX7_tables_154 (by decide) ?_
  exact k
theorem bX7_tables_157 {l : Launch} {D : va_G} {aI aL : ClassId} {ad : Nat → Nat} {P : sa_P} {I : sa_I} {J : sa_J} {x1 : Int64} {x3 : Int32} {x4 : Int32} {x5 : Int64}   (k : Sat (ER l D aI aL ad) M_X7_tables P 158 [(0, .ref (ad 0)), (1, .long x1), (3, .int x3), (4, .int x4), (5, .long x5)] [.long (0 : Int64)] I J) : Sat (ER l D aI aL ad) M_X7_tables P 157 [(0, .ref (ad 0)), (1, .long x1), (3, .int x3), (4, .int x4), (5, .long x5)] [] I J := by
  refine s_lconst (v := 0) dX7_tables_157 rfl ?_
  exact k
theorem bX7_tables_158 {l : Launch} {D : va_G} {aI aL : ClassId} {ad : Nat → Nat} {P : sa_P} {I : sa_I} {J : sa_J} {x1 : Int64} {x3 : Int32} {x4 : Int32} {x5 : Int64} {s0 : Int64} {v193 : Int64} {j207 : Nat} {v253 : Int64} {j268 : Nat} {j286 : Nat} {v290 : Int32} (z181 : ¬ (I 0 9).toInt64 = 0) (z192 : ¬ x5 = 0) (e207 : ((9 : Int32) * x3) + ((3 : Int32) * x4) = nI j207) (z229 : ¬ (I 0 6).toInt64 = 0) (z247 : ¬ (I 0 9).toInt64 = 0) (z252 : ¬ x5 = 0) (h253 : j207 < 27) (e268 : (((9 : Int32) * x3) + ((3 : Int32) * x4)) + (1 : Int32) = nI j268) (h271 : j268 < 27) (e286 : (((9 : Int32) * x3) + ((3 : Int32) * x4)) + (2 : Int32) = nI j286) (h289 : j286 < 27) (f193 : (((J 8 1) - ((s0 * ((I 0 8).toInt64)) * (x5 / ((I 0 9).toInt64)))) * ((I 0 6).toInt64)) / x5 = v193) (f253 : (((J 8 0) - ((v193 * ((I 0 5).toInt64)) * (x5 / ((I 0 6).toInt64)))) - ((s0 * ((I 0 7).toInt64)) * (x5 / ((I 0 9).toInt64)))) / x5 = v253) (f290 : x4 + 1 = v290) (k : Sat (ER l D aI aL ad) M_X7_tables P 25 [(0, .ref (ad 0)), (1, .long x1), (3, .int x3), (4, .int v290)] [] I (sa_uJ (sa_uJ (sa_uJ J 2 j207 v253) 2 j268 v193) 2 j286 s0)) : Sat (ER l D aI aL ad) M_X7_tables P 158 [(0, .ref (ad 0)), (1, .long x1), (3, .int x3), (4, .int x4), (5, .long x5)] [.long s0] I J := by
  refine s_lstore [(7, .long s0), (0, .ref (ad 0)), (1, .long x1), (3, .int x3), (4, .int x4), (5, .long x5)] dX7_tables_158 (Nat.lt_of_lt_of_le (Nat.lt_succ_self _) (Nat.le_of_ble_eq_true rfl)) rfl ?_
  refine s_aload_n 1 dX7_tables_160 rfl ?_
  refine g_X7_32 dX7_tables_161 rfl ?_
  refine s_iconst (v := 1) dX7_tables_164 rfl ?_
  refine s_eqi (y := nI 1) rfl ?_
  refine s_laloadN aJ_R8 (by decide) (by decide) dX7_tables_165 ?_
  refine s_lload 0 dX7_tables_166 rfl ?_
  refine s_aload_n 1 dX7_tables_168 rfl ?_
  refine g_X7_148 dX7_tables_169 rfl ?_
  refine s_i2l dX7_tables_172 ?_
  refine s_lmul dX7_tables_173 ?_
  refine s_lload 5 dX7_tables_174 rfl ?_
  refine s_aload_n 1 dX7_tables_176 rfl ?_
  refine g_X7_142 dX7_tables_177 rfl ?_
  refine s_i2l dX7_tables_180 ?_
  refine s_ldiv dX7_tables_181 z181 ?_
  refine s_lmul dX7_tables_182 ?_
  refine s_lsub dX7_tables_183 ?_
  refine s_aload_n 1 dX7_tables_184 rfl ?_
  refine g_X7_139 dX7_tables_185 rfl ?_
  refine s_i2l dX7_tables_188 ?_
  refine s_lmul dX7_tables_189 ?_
  refine s_lload 5 dX7_tables_190 rfl ?_
  refine s_ldiv dX7_tables_192 z192 ?_
  refine s_eql f193 ?_
  refine s_lstore [(9, .long v193), (7, .long s0), (0, .ref (ad 0)), (1, .long x1), (3, .int x3), (4, .int x4), (5, .long x5)] dX7_tables_193 (Nat.lt_of_lt_of_le (Nat.lt_succ_self _) (Nat.le_of_ble_eq_true rfl)) rfl ?_
  refine s_aload_n 2 dX7_tables_195 rfl ?_
  refine g_X7_13 dX7_tables_196 rfl ?_
  refine s_bipush (v := 9) dX7_tables_199 rfl ?_
  refine s_iload_n 4 dX7_tables_201 rfl ?_
  refine s_imul dX7_tables_202 ?_
  refine s_iconst (v := 3) dX7_tables_203 rfl ?_
  refine s_iload 5 dX7_tables_204 rfl ?_
  refine s_imul dX7_tables_206 ?_
  refine s_iadd dX7_tables_207 ?_
  refine s_eqi e207 ?_
  refine s_aload_n 2 dX7_tables_208 rfl ?_
  refine g_X7_32 dX7_tables_209 rfl ?_
  refine s_iconst (v := 0) dX7_tables_212 rfl ?_
  refine s_eqi (y := nI 0) rfl ?_
  refine s_laloadN aJ_R8 (by decide) (by decide) dX7_tables_213 ?_
  refine s_lload 0 dX7_tables_214 rfl ?_
  refine s_aload_n 2 dX7_tables_216 rfl ?_
  refine g_X7_136 dX7_tables_217 rfl ?_
  refine s_i2l dX7_tables_220 ?_
  refine s_lmul dX7_tables_221 ?_
  refine s_lload 6 dX7_tables_222 rfl ?_
  refine s_aload_n 2 dX7_tables_224 rfl ?_
  refine g_X7_139 dX7_tables_225 rfl ?_
  refine s_i2l dX7_tables_228 ?_
  refine s_ldiv dX7_tables_229 z229 ?_
  refine s_lmul dX7_tables_230 ?_
  refine s_lsub dX7_tables_231 ?_
  refine s_lload 1 dX7_tables_232 rfl ?_
  refine s_aload_n 2 dX7_tables_234 rfl ?_
  refine g_X7_145 dX7_tables_235 rfl ?_
  refine s_i2l dX7_tables_238 ?_
  refine s_lmul dX7_tables_239 ?_
  refine s_lload 6 dX7_tables_240 rfl ?_
  refine s_aload_n 2 dX7_tables_242 rfl ?_
  refine g_X7_142 dX7_tables_243 rfl ?_
  refine s_i2l dX7_tables_246 ?_
  refine s_ldiv dX7_tables_247 z247 ?_
  refine s_lmul dX7_tables_248 ?_
  refine s_lsub dX7_tables_249 ?_
  refine s_lload 6 dX7_tables_250 rfl ?_
  refine s_ldiv dX7_tables_252 z252 ?_
  refine s_eql f253 ?_
  refine s_lastoreN aJ_R2 h253 (by decide) dX7_tables_253 ?_
  refine s_aload_n 2 dX7_tables_254 rfl ?_
  refine g_X7_13 dX7_tables_255 rfl ?_
  refine s_bipush (v := 9) dX7_tables_258 rfl ?_
  refine s_iload_n 4 dX7_tables_260 rfl ?_
  refine s_imul dX7_tables_261 ?_
  refine s_iconst (v := 3) dX7_tables_262 rfl ?_
  refine s_iload 5 dX7_tables_263 rfl ?_
  refine s_imul dX7_tables_265 ?_
  refine s_iadd dX7_tables_266 ?_
  refine s_iconst (v := 1) dX7_tables_267 rfl ?_
  refine s_iadd dX7_tables_268 ?_
  refine s_eqi e268 ?_
  refine s_lload 0 dX7_tables_269 rfl ?_
  refine s_lastoreN aJ_R2 h271 (by decide) dX7_tables_271 ?_
  refine s_aload_n 2 dX7_tables_272 rfl ?_
  refine g_X7_13 dX7_tables_273 rfl ?_
  refine s_bipush (v := 9) dX7_tables_276 rfl ?_
  refine s_iload_n 4 dX7_tables_278 rfl ?_
  refine s_imul dX7_tables_279 ?_
  refine s_iconst (v := 3) dX7_tables_280 rfl ?_
  refine s_iload 5 dX7_tables_281 rfl ?_
  refine s_imul dX7_tables_283 ?_
  refine s_iadd dX7_tables_284 ?_
  refine s_iconst (v := 2) dX7_tables_285 rfl ?_
  refine s_iadd dX7_tables_286 ?_
  refine s_eqi e286 ?_
  refine s_lload 1 dX7_tables_287 rfl ?_
  refine s_lastoreN aJ_R2 h289 (by decide) dX7_tables_289 ?_
  refine s_iinc 5 v290 [(4, .int v290), (9, .long v193), (7, .long s0), (0, .ref (ad 0)), (1, .long x1), (3, .int x3), (5, .long x5)] dX7_tables_290 rfl f290 (Nat.lt_of_lt_of_le (Nat.lt_succ_self _) (Nat.le_of_ble_eq_true rfl)) rfl ?_
  refine s_goto (tgt := 25) dX7_tables_293 (by decide) ?_
  refine s_pick [3, 4, 5, 0] [(0, .ref (ad 0)), (1, .long x1), (3, .int x3), (4, .int v290)] rfl ?_; exact k
theorem bX7_tables_296 {l : Launch} {D : va_G} {aI aL : ClassId} {ad : Nat → Nat} {P : sa_P} {I : sa_I} {J : sa_J} {x1 : Int64} {x3 : Int32} {v296 : Int32}  (f296 : x3 + 1 = v296) (k : Sat (ER l D aI aL ad) M_X7_tables P 14 [(0, .ref (ad 0)), (1, .long x1), (3, .int v296)] [] I J) : Sat (ER l D aI aL ad) M_X7_tables P 296 [(0, .ref (ad 0)), (1, .long x1), (3, .int x3)] [] I J := by
  refine s_iinc 2 v296 [(3, .int v296), (0, .ref (ad 0)), (1, .long x1)] dX7_tables_296 rfl f296 (Nat.lt_of_lt_of_le (Nat.lt_succ_self _) (Nat.le_of_ble_eq_true rfl)) rfl ?_
  refine s_goto (tgt := 14) dX7_tables_299 (by decide) ?_
  refine s_pick [1, 2, 0] [(0, .ref (ad 0)), (1, .long x1), (3, .int v296)] rfl ?_; exact k
theorem bX7_tables_302 {l : Launch} {D : va_G} {aI aL : ClassId} {ad : Nat → Nat} {P : sa_P} {I : sa_I} {J : sa_J}    (k : P (none) I J) : Sat (ER l D aI aL ad) M_X7_tables P 302 [] [] I J := by
  exact s_vret rfl dX7_tables_302 k
/-! X7_isField -/
theorem dX7_isField_0 : decode cX7_isField 0 = .ok (.aload_n 0, 1) := by decide +kernel
theorem dX7_isField_1 : decode cX7_isField 1 = .ok (.getfield 101, 3) := by decide +kernel
theorem dX7_isField_4 : decode cX7_isField 4 = .ok (.ifCond .le 7, 3) := by decide +kernel
theorem dX7_isField_7 : decode cX7_isField 7 = .ok (.iconst 1, 1) := by decide +kernel
theorem dX7_isField_8 : decode cX7_isField 8 = .ok (.goto 4, 3) := by decide +kernel
theorem dX7_isField_11 : decode cX7_isField 11 = .ok (.iconst 0, 1) := by decide +kernel
theorem dX7_isField_12 : decode cX7_isField 12 = .ok (.ireturn, 1) := by decide +kernel
theorem bX7_isField_0 {l : Launch} {D : va_G} {aI aL : ClassId} {ad : Nat → Nat} {P : sa_P} {I : sa_I} {J : sa_J}    (kt : I 0 1 ≤ 0 → Sat (ER l D aI aL ad) M_X7_isField P 11 [] [] I J) (kf : ¬ I 0 1 ≤ 0 → Sat (ER l D aI aL ad) M_X7_isField P 7 [] [] I J) : Sat (ER l D aI aL ad) M_X7_isField P 0 [(0, .ref (ad 0))] [] I J := by
  refine s_aload_n 0 dX7_isField_0 rfl ?_
  refine g_X7_101 dX7_isField_1 rfl ?_
  refine s_if_le (tgt := 11) dX7_isField_4 (by decide) (fun c => ?_) (fun c => ?_)
  · refine s_pick [] [] rfl ?_; exact kt c
  · refine s_pick [] [] rfl ?_; exact kf c
theorem bX7_isField_7 {l : Launch} {D : va_G} {aI aL : ClassId} {ad : Nat → Nat} {P : sa_P} {I : sa_I} {J : sa_J}    (k : Sat (ER l D aI aL ad) M_X7_isField P 12 [] [.int (1 : Int32)] I J) : Sat (ER l D aI aL ad) M_X7_isField P 7 [] [] I J := by
  refine s_iconst (v := 1) dX7_isField_7 rfl ?_
  refine s_goto (tgt := 12) dX7_isField_8 (by decide) ?_
  exact k
theorem bX7_isField_11 {l : Launch} {D : va_G} {aI aL : ClassId} {ad : Nat → Nat} {P : sa_P} {I : sa_I} {J : sa_J}    (k : Sat (ER l D aI aL ad) M_X7_isField P 12 [] [.int (0 : Int32)] I J) : Sat (ER l D aI aL ad) M_X7_isField P 11 [] [] I J := by
  refine s_iconst (v := 0) dX7_isField_11 rfl ?_
  exact k
theorem bX7_isField_12 {l : Launch} {D : va_G} {aI aL : ClassId} {ad : Nat → Nat} {P : sa_P} {I : sa_I} {J : sa_J} {s0 : Int32} (hz : narrow .boolean (.int s0) = .int s0)  (k : P (some (.int s0)) I J) : Sat (ER l D aI aL ad) M_X7_isField P 12 [] [.int s0] I J := by
  exact s_zret hz rfl dX7_isField_12 k
/-! X7_field -/
theorem dX7_field_0 : decode cX7_field 0 = .ok (.aload_n 0, 1) := by decide +kernel
theorem dX7_field_1 : decode cX7_field 1 = .ok (.invokevirtual 203, 3) := by decide +kernel
theorem dX7_field_4 : decode cX7_field 4 = .ok (.ifCond .ne 10, 3) := by decide +kernel
theorem dX7_field_7 : decode cX7_field 7 = .ok (.aload_n 0, 1) := by decide +kernel
theorem dX7_field_8 : decode cX7_field 8 = .ok (.bipush (-3), 2) := by decide +kernel
theorem dX7_field_10 : decode cX7_field 10 = .ok (.invokevirtual 84, 3) := by decide +kernel
theorem dX7_field_13 : decode cX7_field 13 = .ok (.ireturn, 1) := by decide +kernel
theorem dX7_field_14 : decode cX7_field 14 = .ok (.aload_n 0, 1) := by decide +kernel
theorem dX7_field_15 : decode cX7_field 15 = .ok (.getfield 101, 3) := by decide +kernel
theorem dX7_field_18 : decode cX7_field 18 = .ok (.iconst 2, 1) := by decide +kernel
theorem dX7_field_19 : decode cX7_field 19 = .ok (.if_icmp .ne 20, 3) := by decide +kernel
theorem dX7_field_22 : decode cX7_field 22 = .ok (.aload_n 0, 1) := by decide +kernel
theorem dX7_field_23 : decode cX7_field 23 = .ok (.getfield 157, 3) := by decide +kernel
theorem dX7_field_26 : decode cX7_field 26 = .ok (.lconst 0, 1) := by decide +kernel
theorem dX7_field_27 : decode cX7_field 27 = .ok (.lcmp, 1) := by decide +kernel
theorem dX7_field_28 : decode cX7_field 28 = .ok (.ifCond .le 7, 3) := by decide +kernel
theorem dX7_field_31 : decode cX7_field 31 = .ok (.iconst 2, 1) := by decide +kernel
theorem dX7_field_32 : decode cX7_field 32 = .ok (.goto 21, 3) := by decide +kernel
theorem dX7_field_35 : decode cX7_field 35 = .ok (.iconst 0, 1) := by decide +kernel
theorem dX7_field_36 : decode cX7_field 36 = .ok (.goto 17, 3) := by decide +kernel
theorem dX7_field_39 : decode cX7_field 39 = .ok (.aload_n 0, 1) := by decide +kernel
theorem dX7_field_40 : decode cX7_field 40 = .ok (.getfield 157, 3) := by decide +kernel
theorem dX7_field_43 : decode cX7_field 43 = .ok (.lconst 0, 1) := by decide +kernel
theorem dX7_field_44 : decode cX7_field 44 = .ok (.lcmp, 1) := by decide +kernel
theorem dX7_field_45 : decode cX7_field 45 = .ok (.ifCond .le 7, 3) := by decide +kernel
theorem dX7_field_48 : decode cX7_field 48 = .ok (.iconst 3, 1) := by decide +kernel
theorem dX7_field_49 : decode cX7_field 49 = .ok (.goto 4, 3) := by decide +kernel
theorem dX7_field_52 : decode cX7_field 52 = .ok (.iconst 1, 1) := by decide +kernel
theorem dX7_field_53 : decode cX7_field 53 = .ok (.istore_n 2, 1) := by decide +kernel
theorem dX7_field_54 : decode cX7_field 54 = .ok (.iload_n 1, 1) := by decide +kernel
theorem dX7_field_55 : decode cX7_field 55 = .ok (.tableswitch 59 0 3 #[29, 34, 44, 46], 29) := by decide +kernel
theorem dX7_field_84 : decode cX7_field 84 = .ok (.aload_n 0, 1) := by decide +kernel
theorem dX7_field_85 : decode cX7_field 85 = .ok (.getfield 101, 3) := by decide +kernel
theorem dX7_field_88 : decode cX7_field 88 = .ok (.ireturn, 1) := by decide +kernel
theorem dX7_field_89 : decode cX7_field 89 = .ok (.aload_n 0, 1) := by decide +kernel
theorem dX7_field_90 : decode cX7_field 90 = .ok (.getfield 139, 3) := by decide +kernel
theorem dX7_field_93 : decode cX7_field 93 = .ok (.aload_n 0, 1) := by decide +kernel
theorem dX7_field_94 : decode cX7_field 94 = .ok (.getfield 142, 3) := by decide +kernel
theorem dX7_field_97 : decode cX7_field 97 = .ok (.imul, 1) := by decide +kernel
theorem dX7_field_98 : decode cX7_field 98 = .ok (.ireturn, 1) := by decide +kernel
theorem dX7_field_99 : decode cX7_field 99 = .ok (.iload_n 2, 1) := by decide +kernel
theorem dX7_field_100 : decode cX7_field 100 = .ok (.ireturn, 1) := by decide +kernel
theorem dX7_field_101 : decode cX7_field 101 = .ok (.iload_n 2, 1) := by decide +kernel
theorem dX7_field_102 : decode cX7_field 102 = .ok (.aload_n 0, 1) := by decide +kernel
theorem dX7_field_103 : decode cX7_field 103 = .ok (.getfield 101, 3) := by decide +kernel
theorem dX7_field_106 : decode cX7_field 106 = .ok (.iload_n 2, 1) := by decide +kernel
theorem dX7_field_107 : decode cX7_field 107 = .ok (.isub, 1) := by decide +kernel
theorem dX7_field_108 : decode cX7_field 108 = .ok (.iconst 2, 1) := by decide +kernel
theorem dX7_field_109 : decode cX7_field 109 = .ok (.idiv, 1) := by decide +kernel
theorem dX7_field_110 : decode cX7_field 110 = .ok (.iadd, 1) := by decide +kernel
theorem dX7_field_111 : decode cX7_field 111 = .ok (.iconst 1, 1) := by decide +kernel
theorem dX7_field_112 : decode cX7_field 112 = .ok (.isub, 1) := by decide +kernel
theorem dX7_field_113 : decode cX7_field 113 = .ok (.ireturn, 1) := by decide +kernel
theorem dX7_field_114 : decode cX7_field 114 = .ok (.aload_n 0, 1) := by decide +kernel
theorem dX7_field_115 : decode cX7_field 115 = .ok (.bipush (-2), 2) := by decide +kernel
theorem dX7_field_117 : decode cX7_field 117 = .ok (.invokevirtual 84, 3) := by decide +kernel
theorem dX7_field_120 : decode cX7_field 120 = .ok (.ireturn, 1) := by decide +kernel
theorem bX7_field_0 {l : Launch} {D : va_G} {aI aL : ClassId} {ad : Nat → Nat} {P : sa_P} {I : sa_I} {J : sa_J} {x1 : Int32}   (k : Sat (ER l D aI aL ad) M_X7_field P 1 [(0, .ref (ad 0)), (1, .int x1)] [.ref (ad 0)] I J) : Sat (ER l D aI aL ad) M_X7_field P 0 [(0, .ref (ad 0)), (1, .int x1)] [] I J := by
  refine s_aload_n 0 dX7_field_0 rfl ?_
  exact k
theorem bX7_field_4 {l : Launch} {D : va_G} {aI aL : ClassId} {ad : Nat → Nat} {P : sa_P} {I : sa_I} {J : sa_J} {x1 : Int32} {s0 : Int32}   (kt : ¬ s0 = 0 → Sat (ER l D aI aL ad) M_X7_field P 14 [(0, .ref (ad 0)), (1, .int x1)] [] I J) (kf : s0 = 0 → Sat (ER l D aI aL ad) M_X7_field P 7 [(0, .ref (ad 0))] [] I J) : Sat (ER l D aI aL ad) M_X7_field P 4 [(0, .ref (ad 0)), (1, .int x1)] [.int s0] I J := by
  refine s_if_ne (tgt := 14) dX7_field_4 (by decide) (fun c => ?_) (fun c => ?_)
  · exact kt c
  · refine s_pick [0] [(0, .ref (ad 0))] rfl ?_; exact kf (by first | exact c | exact Classical.not_not.mp c)
theorem bX7_field_7 {l : Launch} {D : va_G} {aI aL : ClassId} {ad : Nat → Nat} {P : sa_P} {I : sa_I} {J : sa_J}    (k : Sat (ER l D aI aL ad) M_X7_field P 10 [] [.int (-3 : Int32), .ref (ad 0)] I J) : Sat (ER l D aI aL ad) M_X7_field P 7 [(0, .ref (ad 0))] [] I J := by
  refine s_aload_n 0 dX7_field_7 rfl ?_
  refine s_bipush (v := -3) dX7_field_8 rfl ?_
  refine s_pick [] [] rfl ?_; exact k
theorem bX7_field_13 {l : Launch} {D : va_G} {aI aL : ClassId} {ad : Nat → Nat} {P : sa_P} {I : sa_I} {J : sa_J} {s0 : Int32}   (k : P (some (.int s0)) I J) : Sat (ER l D aI aL ad) M_X7_field P 13 [] [.int s0] I J := by
  exact s_iret rfl dX7_field_13 k
theorem bX7_field_14 {l : Launch} {D : va_G} {aI aL : ClassId} {ad : Nat → Nat} {P : sa_P} {I : sa_I} {J : sa_J} {x1 : Int32}   (kt : ¬ I 0 1 = (2 : Int32) → Sat (ER l D aI aL ad) M_X7_field P 39 [(0, .ref (ad 0)), (1, .int x1)] [] I J) (kf : I 0 1 = (2 : Int32) → Sat (ER l D aI aL ad) M_X7_field P 22 [(0, .ref (ad 0)), (1, .int x1)] [] I J) : Sat (ER l D aI aL ad) M_X7_field P 14 [(0, .ref (ad 0)), (1, .int x1)] [] I J := by
  refine s_aload_n 0 dX7_field_14 rfl ?_
  refine g_X7_101 dX7_field_15 rfl ?_
  refine s_iconst (v := 2) dX7_field_18 rfl ?_
  refine s_icmp_ne (tgt := 39) dX7_field_19 (by decide) (fun c => ?_) (fun c => ?_)
  · exact kt c
  · exact kf (by first | exact c | exact Classical.not_not.mp c)
theorem bX7_field_22 {l : Launch} {D : va_G} {aI aL : ClassId} {ad : Nat → Nat} {P : sa_P} {I : sa_I} {J : sa_J} {x1 : Int32}   (kt : J 0 10 ≤ (0 : Int64) → Sat (ER l D aI aL ad) M_X7_field P 35 [(0, .ref (ad 0)), (1, .int x1)] [] I J) (kf : ¬ J 0 10 ≤ (0 : Int64) → Sat (ER l D aI aL ad) M_X7_field P 31 [(0, .ref (ad 0)), (1, .int x1)] [] I J) : Sat (ER l D aI aL ad) M_X7_field P 22 [(0, .ref (ad 0)), (1, .int x1)] [] I J := by
  refine s_aload_n 0 dX7_field_22 rfl ?_
  refine g_X7_157 dX7_field_23 rfl ?_
  refine s_lconst (v := 0) dX7_field_26 rfl ?_
  refine s_lif_le (tgt := 35) dX7_field_27 dX7_field_28 (by decide) (fun c => ?_) (fun c => ?_)
  · exact kt c
  · exact kf c
theorem bX7_field_31 {l : Launch} {D : va_G} {aI aL : ClassId} {ad : Nat → Nat} {P : sa_P} {I : sa_I} {J : sa_J} {x1 : Int32}   (k : Sat (ER l D aI aL ad) M_X7_field P 53 [(0, .ref (ad 0)), (1, .int x1)] [.int (2 : Int32)] I J) : Sat (ER l D aI aL ad) M_X7_field P 31 [(0, .ref (ad 0)), (1, .int x1)] [] I J := by
  refine s_iconst (v := 2) dX7_field_31 rfl ?_
  refine s_goto (tgt := 53) dX7_field_32 (by decide) ?_
  exact k
theorem bX7_field_35 {l : Launch} {D : va_G} {aI aL : ClassId} {ad : Nat → Nat} {P : sa_P} {I : sa_I} {J : sa_J} {x1 : Int32}   (k : Sat (ER l D aI aL ad) M_X7_field P 53 [(0, .ref (ad 0)), (1, .int x1)] [.int (0 : Int32)] I J) : Sat (ER l D aI aL ad) M_X7_field P 35 [(0, .ref (ad 0)), (1, .int x1)] [] I J := by
  refine s_iconst (v := 0) dX7_field_35 rfl ?_
  refine s_goto (tgt := 53) dX7_field_36 (by decide) ?_
  exact k
theorem bX7_field_39 {l : Launch} {D : va_G} {aI aL : ClassId} {ad : Nat → Nat} {P : sa_P} {I : sa_I} {J : sa_J} {x1 : Int32}   (kt : J 0 10 ≤ (0 : Int64) → Sat (ER l D aI aL ad) M_X7_field P 52 [(0, .ref (ad 0)), (1, .int x1)] [] I J) (kf : ¬ J 0 10 ≤ (0 : Int64) → Sat (ER l D aI aL ad) M_X7_field P 48 [(0, .ref (ad 0)), (1, .int x1)] [] I J) : Sat (ER l D aI aL ad) M_X7_field P 39 [(0, .ref (ad 0)), (1, .int x1)] [] I J := by
  refine s_aload_n 0 dX7_field_39 rfl ?_
  refine g_X7_157 dX7_field_40 rfl ?_
  refine s_lconst (v := 0) dX7_field_43 rfl ?_
  refine s_lif_le (tgt := 52) dX7_field_44 dX7_field_45 (by decide) (fun c => ?_) (fun c => ?_)
  · exact kt c
  · exact kf c
theorem bX7_field_48 {l : Launch} {D : va_G} {aI aL : ClassId} {ad : Nat → Nat} {P : sa_P} {I : sa_I} {J : sa_J} {x1 : Int32}   (k : Sat (ER l D aI aL ad) M_X7_field P 53 [(0, .ref (ad 0)), (1, .int x1)] [.int (3 : Int32)] I J) : Sat (ER l D aI aL ad) M_X7_field P 48 [(0, .ref (ad 0)), (1, .int x1)] [] I J := by
  refine s_iconst (v := 3) dX7_field_48 rfl ?_
  refine s_goto (tgt := 53) dX7_field_49 (by decide) ?_
  exact k
theorem bX7_field_52 {l : Launch} {D : va_G} {aI aL : ClassId} {ad : Nat → Nat} {P : sa_P} {I : sa_I} {J : sa_J} {x1 : Int32}   (k : Sat (ER l D aI aL ad) M_X7_field P 53 [(0, .ref (ad 0)), (1, .int x1)] [.int (1 : Int32)] I J) : Sat (ER l D aI aL ad) M_X7_field P 52 [(0, .ref (ad 0)), (1, .int x1)] [] I J := by
  refine s_iconst (v := 1) dX7_field_52 rfl ?_
  exact k
theorem bX7_field_53 {l : Launch} {D : va_G} {aI aL : ClassId} {ad : Nat → Nat} {P : sa_P} {I : sa_I} {J : sa_J} {x1 : Int32} {s0 : Int32}   (k0 : x1 = 0 → Sat (ER l D aI aL ad) M_X7_field P 84 [(0, .ref (ad 0))] [] I J) (k1 : x1 = 1 → Sat (ER l D aI aL ad) M_X7_field P 89 [(0, .ref (ad 0))] [] I J) (k2 : x1 = 2 → Sat (ER l D aI aL ad) M_X7_field P 99 [(2, .int s0)] [] I J) (k3 : x1 = 3 → Sat (ER l D aI aL ad) M_X7_field P 101 [(0, .ref (ad 0)), (2, .int s0)] [] I J) (kd : (x1.toInt < 0 ∨ 3 < x1.toInt) → Sat (ER l D aI aL ad) M_X7_field P 114 [(0, .ref (ad 0))] [] I J) : Sat (ER l D aI aL ad) M_X7_field P 53 [(0, .ref (ad 0)), (1, .int x1)] [.int s0] I J := by
  refine s_istore_n [(2, .int s0), (0, .ref (ad 0)), (1, .int x1)] dX7_field_53 (Nat.lt_of_lt_of_le (Nat.lt_succ_self _) (Nat.le_of_ble_eq_true rfl)) rfl ?_
  refine s_iload_n 2 dX7_field_54 rfl ?_
  by_cases hlo : (x1).toInt < 0
  · refine s_tableOut (tgt := 114) dX7_field_55 (Or.inl hlo) (by decide) ?_; refine s_pick [1] [(0, .ref (ad 0))] rfl ?_; exact kd (Or.inl hlo)
  by_cases hhi : 3 < (x1).toInt
  · refine s_tableOut (tgt := 114) dX7_field_55 (Or.inr hhi) (by decide) ?_; refine s_pick [1] [(0, .ref (ad 0))] rfl ?_; exact kd (Or.inr hhi)
  obtain hx | hx | hx | hx : x1 = 0 ∨ x1 = 1 ∨ x1 = 2 ∨ x1 = 3 := by
    have hh : (x1).toInt = 0 ∨ (x1).toInt = 1 ∨ (x1).toInt = 2 ∨ (x1).toInt = 3 := by omega
    simpa [← Int32.toInt_inj] using hh
  · have e1 : (x1).toInt = 0 := by rw [hx]; rfl
    refine s_tableIn (tgt := 84) dX7_field_55 hlo hhi (off := 29) (by rw [e1]; rfl) (by decide) ?_; refine s_pick [1] [(0, .ref (ad 0))] rfl ?_; exact k0 hx
  · have e1 : (x1).toInt = 1 := by rw [hx]; rfl
    refine s_tableIn (tgt := 89) dX7_field_55 hlo hhi (off := 34) (by rw [e1]; rfl) (by decide) ?_; refine s_pick [1] [(0, .ref (ad 0))] rfl ?_; exact k1 hx
  · have e1 : (x1).toInt = 2 := by rw [hx]; rfl
    refine s_tableIn (tgt := 99) dX7_field_55 hlo hhi (off := 44) (by rw [e1]; rfl) (by decide) ?_; refine s_pick [0] [(2, .int s0)] rfl ?_; exact k2 hx
  · have e1 : (x1).toInt = 3 := by rw [hx]; rfl
    refine s_tableIn (tgt := 101) dX7_field_55 hlo hhi (off := 46) (by rw [e1]; rfl) (by decide) ?_; refine s_pick [1, 0] [(0, .ref (ad 0)), (2, .int s0)] rfl ?_; exact k3 hx
theorem bX7_field_84 {l : Launch} {D : va_G} {aI aL : ClassId} {ad : Nat → Nat} {P : sa_P} {I : sa_I} {J : sa_J}    (k : P (some (.int (I 0 1))) I J) : Sat (ER l D aI aL ad) M_X7_field P 84 [(0, .ref (ad 0))] [] I J := by
  refine s_aload_n 0 dX7_field_84 rfl ?_
  refine g_X7_101 dX7_field_85 rfl ?_
  exact s_iret rfl dX7_field_88 k
theorem bX7_field_89 {l : Launch} {D : va_G} {aI aL : ClassId} {ad : Nat → Nat} {P : sa_P} {I : sa_I} {J : sa_J}    (k : P (some (.int ((I 0 6) * (I 0 9)))) I J) : Sat (ER l D aI aL ad) M_X7_field P 89 [(0, .ref (ad 0))] [] I J := by
  refine s_aload_n 0 dX7_field_89 rfl ?_
  refine g_X7_139 dX7_field_90 rfl ?_
  refine s_aload_n 0 dX7_field_93 rfl ?_
  refine g_X7_142 dX7_field_94 rfl ?_
  refine s_imul dX7_field_97 ?_
  exact s_iret rfl dX7_field_98 k
theorem bX7_field_99 {l : Launch} {D : va_G} {aI aL : ClassId} {ad : Nat → Nat} {P : sa_P} {I : sa_I} {J : sa_J} {x2 : Int32}   (k : P (some (.int x2)) I J) : Sat (ER l D aI aL ad) M_X7_field P 99 [(2, .int x2)] [] I J := by
  refine s_iload_n 0 dX7_field_99 rfl ?_
  exact s_iret rfl dX7_field_100 k
theorem bX7_field_101 {l : Launch} {D : va_G} {aI aL : ClassId} {ad : Nat → Nat} {P : sa_P} {I : sa_I} {J : sa_J} {x2 : Int32}   (k : P (some (.int ((x2 + (((I 0 1) - x2) / (2 : Int32))) - (1 : Int32)))) I J) : Sat (ER l D aI aL ad) M_X7_field P 101 [(0, .ref (ad 0)), (2, .int x2)] [] I J := by
  refine s_iload_n 1 dX7_field_101 rfl ?_
  refine s_aload_n 0 dX7_field_102 rfl ?_
  refine g_X7_101 dX7_field_103 rfl ?_
  refine s_iload_n 1 dX7_field_106 rfl ?_
  refine s_isub dX7_field_107 ?_
  refine s_iconst (v := 2) dX7_field_108 rfl ?_
  refine s_idiv dX7_field_109 (by decide) ?_
  refine s_iadd dX7_field_110 ?_
  refine s_iconst (v := 1) dX7_field_111 rfl ?_
  refine s_isub dX7_field_112 ?_
  exact s_iret rfl dX7_field_113 k
theorem bX7_field_114 {l : Launch} {D : va_G} {aI aL : ClassId} {ad : Nat → Nat} {P : sa_P} {I : sa_I} {J : sa_J}    (k : Sat (ER l D aI aL ad) M_X7_field P 117 [] [.int (-2 : Int32), .ref (ad 0)] I J) : Sat (ER l D aI aL ad) M_X7_field P 114 [(0, .ref (ad 0))] [] I J := by
  refine s_aload_n 0 dX7_field_114 rfl ?_
  refine s_bipush (v := -2) dX7_field_115 rfl ?_
  refine s_pick [] [] rfl ?_; exact k
theorem bX7_field_120 {l : Launch} {D : va_G} {aI aL : ClassId} {ad : Nat → Nat} {P : sa_P} {I : sa_I} {J : sa_J} {s0 : Int32}   (k : P (some (.int s0)) I J) : Sat (ER l D aI aL ad) M_X7_field P 120 [] [.int s0] I J := by
  exact s_iret rfl dX7_field_120 k
/-! X7_disc -/
theorem dX7_disc_0 : decode cX7_disc 0 = .ok (.aload_n 0, 1) := by decide +kernel
theorem dX7_disc_1 : decode cX7_disc 1 = .ok (.invokevirtual 203, 3) := by decide +kernel
theorem dX7_disc_4 : decode cX7_disc 4 = .ok (.ifCond .ne 10, 3) := by decide +kernel
theorem dX7_disc_7 : decode cX7_disc 7 = .ok (.aload_n 0, 1) := by decide +kernel
theorem dX7_disc_8 : decode cX7_disc 8 = .ok (.bipush (-3), 2) := by decide +kernel
theorem dX7_disc_10 : decode cX7_disc 10 = .ok (.invokevirtual 206, 3) := by decide +kernel
theorem dX7_disc_13 : decode cX7_disc 13 = .ok (.lreturn, 1) := by decide +kernel
theorem dX7_disc_14 : decode cX7_disc 14 = .ok (.iload_n 1, 1) := by decide +kernel
theorem dX7_disc_15 : decode cX7_disc 15 = .ok (.iconst 2, 1) := by decide +kernel
theorem dX7_disc_16 : decode cX7_disc 16 = .ok (.invokestatic 210, 3) := by decide +kernel
theorem dX7_disc_19 : decode cX7_disc 19 = .ok (.ifCond .ne 10, 3) := by decide +kernel
theorem dX7_disc_22 : decode cX7_disc 22 = .ok (.aload_n 0, 1) := by decide +kernel
theorem dX7_disc_23 : decode cX7_disc 23 = .ok (.bipush (-2), 2) := by decide +kernel
theorem dX7_disc_25 : decode cX7_disc 25 = .ok (.invokevirtual 206, 3) := by decide +kernel
theorem dX7_disc_28 : decode cX7_disc 28 = .ok (.lreturn, 1) := by decide +kernel
theorem dX7_disc_29 : decode cX7_disc 29 = .ok (.iload_n 1, 1) := by decide +kernel
theorem dX7_disc_30 : decode cX7_disc 30 = .ok (.ifCond .ne 10, 3) := by decide +kernel
theorem dX7_disc_33 : decode cX7_disc 33 = .ok (.aload_n 0, 1) := by decide +kernel
theorem dX7_disc_34 : decode cX7_disc 34 = .ok (.getfield 157, 3) := by decide +kernel
theorem dX7_disc_37 : decode cX7_disc 37 = .ok (.goto 7, 3) := by decide +kernel
theorem dX7_disc_40 : decode cX7_disc 40 = .ok (.aload_n 0, 1) := by decide +kernel
theorem dX7_disc_41 : decode cX7_disc 41 = .ok (.getfield 114, 3) := by decide +kernel
theorem dX7_disc_44 : decode cX7_disc 44 = .ok (.lreturn, 1) := by decide +kernel
theorem bX7_disc_0 {l : Launch} {D : va_G} {aI aL : ClassId} {ad : Nat → Nat} {P : sa_P} {I : sa_I} {J : sa_J} {x1 : Int32}   (k : Sat (ER l D aI aL ad) M_X7_disc P 1 [(0, .ref (ad 0)), (1, .int x1)] [.ref (ad 0)] I J) : Sat (ER l D aI aL ad) M_X7_disc P 0 [(0, .ref (ad 0)), (1, .int x1)] [] I J := by
  refine s_aload_n 0 dX7_disc_0 rfl ?_
  exact k
theorem bX7_disc_4 {l : Launch} {D : va_G} {aI aL : ClassId} {ad : Nat → Nat} {P : sa_P} {I : sa_I} {J : sa_J} {x1 : Int32} {s0 : Int32}   (kt : ¬ s0 = 0 → Sat (ER l D aI aL ad) M_X7_disc P 14 [(0, .ref (ad 0)), (1, .int x1)] [] I J) (kf : s0 = 0 → Sat (ER l D aI aL ad) M_X7_disc P 7 [(0, .ref (ad 0))] [] I J) : Sat (ER l D aI aL ad) M_X7_disc P 4 [(0, .ref (ad 0)), (1, .int x1)] [.int s0] I J := by
  refine s_if_ne (tgt := 14) dX7_disc_4 (by decide) (fun c => ?_) (fun c => ?_)
  · exact kt c
  · refine s_pick [0] [(0, .ref (ad 0))] rfl ?_; exact kf (by first | exact c | exact Classical.not_not.mp c)
theorem bX7_disc_7 {l : Launch} {D : va_G} {aI aL : ClassId} {ad : Nat → Nat} {P : sa_P} {I : sa_I} {J : sa_J}    (k : Sat (ER l D aI aL ad) M_X7_disc P 10 [] [.int (-3 : Int32), .ref (ad 0)] I J) : Sat (ER l D aI aL ad) M_X7_disc P 7 [(0, .ref (ad 0))] [] I J := by
  refine s_aload_n 0 dX7_disc_7 rfl ?_
  refine s_bipush (v := -3) dX7_disc_8 rfl ?_
  refine s_pick [] [] rfl ?_; exact k
theorem bX7_disc_13 {l : Launch} {D : va_G} {aI aL : ClassId} {ad : Nat → Nat} {P : sa_P} {I : sa_I} {J : sa_J} {s0 : Int64}   (k : P (some (.long s0)) I J) : Sat (ER l D aI aL ad) M_X7_disc P 13 [] [.long s0] I J := by
  exact s_lret rfl dX7_disc_13 k
theorem bX7_disc_14 {l : Launch} {D : va_G} {aI aL : ClassId} {ad : Nat → Nat} {P : sa_P} {I : sa_I} {J : sa_J} {x1 : Int32}   (k : Sat (ER l D aI aL ad) M_X7_disc P 16 [(0, .ref (ad 0)), (1, .int x1)] [.int (2 : Int32), .int x1] I J) : Sat (ER l D aI aL ad) M_X7_disc P 14 [(0, .ref (ad 0)), (1, .int x1)] [] I J := by
  refine s_iload_n 1 dX7_disc_14 rfl ?_
  refine s_iconst (v := 2) dX7_disc_15 rfl ?_
  exact k
theorem bX7_disc_19 {l : Launch} {D : va_G} {aI aL : ClassId} {ad : Nat → Nat} {P : sa_P} {I : sa_I} {J : sa_J} {x1 : Int32} {s0 : Int32}   (kt : ¬ s0 = 0 → Sat (ER l D aI aL ad) M_X7_disc P 29 [(0, .ref (ad 0)), (1, .int x1)] [] I J) (kf : s0 = 0 → Sat (ER l D aI aL ad) M_X7_disc P 22 [(0, .ref (ad 0))] [] I J) : Sat (ER l D aI aL ad) M_X7_disc P 19 [(0, .ref (ad 0)), (1, .int x1)] [.int s0] I J := by
  refine s_if_ne (tgt := 29) dX7_disc_19 (by decide) (fun c => ?_) (fun c => ?_)
  · exact kt c
  · refine s_pick [0] [(0, .ref (ad 0))] rfl ?_; exact kf (by first | exact c | exact Classical.not_not.mp c)
theorem bX7_disc_22 {l : Launch} {D : va_G} {aI aL : ClassId} {ad : Nat → Nat} {P : sa_P} {I : sa_I} {J : sa_J}    (k : Sat (ER l D aI aL ad) M_X7_disc P 25 [] [.int (-2 : Int32), .ref (ad 0)] I J) : Sat (ER l D aI aL ad) M_X7_disc P 22 [(0, .ref (ad 0))] [] I J := by
  refine s_aload_n 0 dX7_disc_22 rfl ?_
  refine s_bipush (v := -2) dX7_disc_23 rfl ?_
  refine s_pick [] [] rfl ?_; exact k
theorem bX7_disc_28 {l : Launch} {D : va_G} {aI aL : ClassId} {ad : Nat → Nat} {P : sa_P} {I : sa_I} {J : sa_J} {s0 : Int64}   (k : P (some (.long s0)) I J) : Sat (ER l D aI aL ad) M_X7_disc P 28 [] [.long s0] I J := by
  exact s_lret rfl dX7_disc_28 k
theorem bX7_disc_29 {l : Launch} {D : va_G} {aI aL : ClassId} {ad : Nat → Nat} {P : sa_P} {I : sa_I} {J : sa_J} {x1 : Int32}   (kt : ¬ x1 = 0 → Sat (ER l D aI aL ad) M_X7_disc P 40 [(0, .ref (ad 0))] [] I J) (kf : x1 = 0 → Sat (ER l D aI aL ad) M_X7_disc P 33 [(0, .ref (ad 0))] [] I J) : Sat (ER l D aI aL ad) M_X7_disc P 29 [(0, .ref (ad 0)), (1, .int x1)] [] I J := by
  refine s_iload_n 1 dX7_disc_29 rfl ?_
  refine s_if_ne (tgt := 40) dX7_disc_30 (by decide) (fun c => ?_) (fun c => ?_)
  · refine s_pick [0] [(0, .ref (ad 0))] rfl ?_; exact kt c
  · refine s_pick [0] [(0, .ref (ad 0))] rfl ?_; exact kf (by first | exact c | exact Classical.not_not.mp c)
theorem bX7_disc_33 {l : Launch} {D : va_G} {aI aL : ClassId} {ad : Nat → Nat} {P : sa_P} {I : sa_I} {J : sa_J}    (k : Sat (ER l D aI aL ad) M_X7_disc P 44 [] [.long (J 0 10)] I J) : Sat (ER l D aI aL ad) M_X7_disc P 33 [(0, .ref (ad 0))] [] I J := by
  refine s_aload_n 0 dX7_disc_33 rfl ?_
  refine g_X7_157 dX7_disc_34 rfl ?_
  refine s_goto (tgt := 44) dX7_disc_37 (by decide) ?_
  refine s_pick [] [] rfl ?_; exact k
theorem bX7_disc_40 {l : Launch} {D : va_G} {aI aL : ClassId} {ad : Nat → Nat} {P : sa_P} {I : sa_I} {J : sa_J}    (k : Sat (ER l D aI aL ad) M_X7_disc P 44 [] [.long (J 0 11)] I J) : Sat (ER l D aI aL ad) M_X7_disc P 40 [(0, .ref (ad 0))] [] I J := by
  refine s_aload_n 0 dX7_disc_40 rfl ?_
  refine g_X7_114 dX7_disc_41 rfl ?_
  refine s_pick [] [] rfl ?_; exact k
theorem bX7_disc_44 {l : Launch} {D : va_G} {aI aL : ClassId} {ad : Nat → Nat} {P : sa_P} {I : sa_I} {J : sa_J} {s0 : Int64}   (k : P (some (.long s0)) I J) : Sat (ER l D aI aL ad) M_X7_disc P 44 [] [.long s0] I J := by
  exact s_lret rfl dX7_disc_44 k
/-! X7_basis -/
theorem dX7_basis_0 : decode cX7_basis 0 = .ok (.aload_n 0, 1) := by decide +kernel
theorem dX7_basis_1 : decode cX7_basis 1 = .ok (.invokevirtual 203, 3) := by decide +kernel
theorem dX7_basis_4 : decode cX7_basis 4 = .ok (.ifCond .ne 10, 3) := by decide +kernel
theorem dX7_basis_7 : decode cX7_basis 7 = .ok (.aload_n 0, 1) := by decide +kernel
theorem dX7_basis_8 : decode cX7_basis 8 = .ok (.bipush (-3), 2) := by decide +kernel
theorem dX7_basis_10 : decode cX7_basis 10 = .ok (.invokevirtual 84, 3) := by decide +kernel
theorem dX7_basis_13 : decode cX7_basis 13 = .ok (.ireturn, 1) := by decide +kernel
theorem dX7_basis_14 : decode cX7_basis 14 = .ok (.iload_n 1, 1) := by decide +kernel
theorem dX7_basis_15 : decode cX7_basis 15 = .ok (.aload_n 0, 1) := by decide +kernel
theorem dX7_basis_16 : decode cX7_basis 16 = .ok (.getfield 101, 3) := by decide +kernel
theorem dX7_basis_19 : decode cX7_basis 19 = .ok (.invokestatic 210, 3) := by decide +kernel
theorem dX7_basis_22 : decode cX7_basis 22 = .ok (.ifCond .eq 16, 3) := by decide +kernel
theorem dX7_basis_25 : decode cX7_basis 25 = .ok (.iload_n 2, 1) := by decide +kernel
theorem dX7_basis_26 : decode cX7_basis 26 = .ok (.aload_n 0, 1) := by decide +kernel
theorem dX7_basis_27 : decode cX7_basis 27 = .ok (.getfield 101, 3) := by decide +kernel
theorem dX7_basis_30 : decode cX7_basis 30 = .ok (.iconst 1, 1) := by decide +kernel
theorem dX7_basis_31 : decode cX7_basis 31 = .ok (.iadd, 1) := by decide +kernel
theorem dX7_basis_32 : decode cX7_basis 32 = .ok (.invokestatic 210, 3) := by decide +kernel
theorem dX7_basis_35 : decode cX7_basis 35 = .ok (.ifCond .ne 9, 3) := by decide +kernel
theorem dX7_basis_38 : decode cX7_basis 38 = .ok (.aload_n 0, 1) := by decide +kernel
theorem dX7_basis_39 : decode cX7_basis 39 = .ok (.iconst (-1), 1) := by decide +kernel
theorem dX7_basis_40 : decode cX7_basis 40 = .ok (.invokevirtual 84, 3) := by decide +kernel
theorem dX7_basis_43 : decode cX7_basis 43 = .ok (.ireturn, 1) := by decide +kernel
theorem dX7_basis_44 : decode cX7_basis 44 = .ok (.iload_n 2, 1) := by decide +kernel
theorem dX7_basis_45 : decode cX7_basis 45 = .ok (.aload_n 0, 1) := by decide +kernel
theorem dX7_basis_46 : decode cX7_basis 46 = .ok (.getfield 101, 3) := by decide +kernel
theorem dX7_basis_49 : decode cX7_basis 49 = .ok (.if_icmp .ne 28, 3) := by decide +kernel
theorem dX7_basis_52 : decode cX7_basis 52 = .ok (.iload_n 1, 1) := by decide +kernel
theorem dX7_basis_53 : decode cX7_basis 53 = .ok (.ifCond .ne 7, 3) := by decide +kernel
theorem dX7_basis_56 : decode cX7_basis 56 = .ok (.iconst 1, 1) := by decide +kernel
theorem dX7_basis_57 : decode cX7_basis 57 = .ok (.goto 19, 3) := by decide +kernel
theorem dX7_basis_60 : decode cX7_basis 60 = .ok (.iload_n 1, 1) := by decide +kernel
theorem dX7_basis_61 : decode cX7_basis 61 = .ok (.iconst 1, 1) := by decide +kernel
theorem dX7_basis_62 : decode cX7_basis 62 = .ok (.if_icmp .ne 10, 3) := by decide +kernel
theorem dX7_basis_65 : decode cX7_basis 65 = .ok (.aload_n 0, 1) := by decide +kernel
theorem dX7_basis_66 : decode cX7_basis 66 = .ok (.getfield 139, 3) := by decide +kernel
theorem dX7_basis_69 : decode cX7_basis 69 = .ok (.goto 7, 3) := by decide +kernel
theorem dX7_basis_72 : decode cX7_basis 72 = .ok (.aload_n 0, 1) := by decide +kernel
theorem dX7_basis_73 : decode cX7_basis 73 = .ok (.getfield 142, 3) := by decide +kernel
theorem dX7_basis_76 : decode cX7_basis 76 = .ok (.ireturn, 1) := by decide +kernel
theorem dX7_basis_77 : decode cX7_basis 77 = .ok (.iload_n 1, 1) := by decide +kernel
theorem dX7_basis_78 : decode cX7_basis 78 = .ok (.iload_n 2, 1) := by decide +kernel
theorem dX7_basis_79 : decode cX7_basis 79 = .ok (.if_icmp .ne 5, 3) := by decide +kernel
theorem dX7_basis_82 : decode cX7_basis 82 = .ok (.iconst 1, 1) := by decide +kernel
theorem dX7_basis_83 : decode cX7_basis 83 = .ok (.ireturn, 1) := by decide +kernel
theorem dX7_basis_84 : decode cX7_basis 84 = .ok (.iload_n 2, 1) := by decide +kernel
theorem dX7_basis_85 : decode cX7_basis 85 = .ok (.iload_n 1, 1) := by decide +kernel
theorem dX7_basis_86 : decode cX7_basis 86 = .ok (.if_icmp .le 7, 3) := by decide +kernel
theorem dX7_basis_89 : decode cX7_basis 89 = .ok (.iconst 0, 1) := by decide +kernel
theorem dX7_basis_90 : decode cX7_basis 90 = .ok (.goto 30, 3) := by decide +kernel
theorem dX7_basis_93 : decode cX7_basis 93 = .ok (.iload_n 1, 1) := by decide +kernel
theorem dX7_basis_94 : decode cX7_basis 94 = .ok (.iconst 1, 1) := by decide +kernel
theorem dX7_basis_95 : decode cX7_basis 95 = .ok (.if_icmp .ne 10, 3) := by decide +kernel
theorem dX7_basis_98 : decode cX7_basis 98 = .ok (.aload_n 0, 1) := by decide +kernel
theorem dX7_basis_99 : decode cX7_basis 99 = .ok (.getfield 136, 3) := by decide +kernel
theorem dX7_basis_102 : decode cX7_basis 102 = .ok (.goto 18, 3) := by decide +kernel
theorem dX7_basis_105 : decode cX7_basis 105 = .ok (.iload_n 2, 1) := by decide +kernel
theorem dX7_basis_106 : decode cX7_basis 106 = .ok (.ifCond .ne 10, 3) := by decide +kernel
theorem dX7_basis_109 : decode cX7_basis 109 = .ok (.aload_n 0, 1) := by decide +kernel
theorem dX7_basis_110 : decode cX7_basis 110 = .ok (.getfield 145, 3) := by decide +kernel
theorem dX7_basis_113 : decode cX7_basis 113 = .ok (.goto 7, 3) := by decide +kernel
theorem dX7_basis_116 : decode cX7_basis 116 = .ok (.aload_n 0, 1) := by decide +kernel
theorem dX7_basis_117 : decode cX7_basis 117 = .ok (.getfield 148, 3) := by decide +kernel
theorem dX7_basis_120 : decode cX7_basis 120 = .ok (.ireturn, 1) := by decide +kernel
theorem bX7_basis_0 {l : Launch} {D : va_G} {aI aL : ClassId} {ad : Nat → Nat} {P : sa_P} {I : sa_I} {J : sa_J} {x1 : Int32} {x2 : Int32}   (k : Sat (ER l D aI aL ad) M_X7_basis P 1 [(0, .ref (ad 0)), (1, .int x1), (2, .int x2)] [.ref (ad 0)] I J) : Sat (ER l D aI aL ad) M_X7_basis P 0 [(0, .ref (ad 0)), (1, .int x1), (2, .int x2)] [] I J := by
  refine s_aload_n 0 dX7_basis_0 rfl ?_
  exact k
theorem bX7_basis_4 {l : Launch} {D : va_G} {aI aL : ClassId} {ad : Nat → Nat} {P : sa_P} {I : sa_I} {J : sa_J} {x1 : Int32} {x2 : Int32} {s0 : Int32}   (kt : ¬ s0 = 0 → Sat (ER l D aI aL ad) M_X7_basis P 14 [(0, .ref (ad 0)), (1, .int x1), (2, .int x2)] [] I J) (kf : s0 = 0 → Sat (ER l D aI aL ad) M_X7_basis P 7 [(0, .ref (ad 0))] [] I J) : Sat (ER l D aI aL ad) M_X7_basis P 4 [(0, .ref (ad 0)), (1, .int x1), (2, .int x2)] [.int s0] I J := by
  refine s_if_ne (tgt := 14) dX7_basis_4 (by decide) (fun c => ?_) (fun c => ?_)
  · exact kt c
  · refine s_pick [0] [(0, .ref (ad 0))] rfl ?_; exact kf (by first | exact c | exact Classical.not_not.mp c)
theorem bX7_basis_7 {l : Launch} {D : va_G} {aI aL : ClassId} {ad : Nat → Nat} {P : sa_P} {I : sa_I} {J : sa_J}    (k : Sat (ER l D aI aL ad) M_X7_basis P 10 [] [.int (-3 : Int32), .ref (ad 0)] I J) : Sat (ER l D aI aL ad) M_X7_basis P 7 [(0, .ref (ad 0))] [] I J := by
  refine s_aload_n 0 dX7_basis_7 rfl ?_
  refine s_bipush (v := -3) dX7_basis_8 rfl ?_
  refine s_pick [] [] rfl ?_; exact k
theorem bX7_basis_13 {l : Launch} {D : va_G} {aI aL : ClassId} {ad : Nat → Nat} {P : sa_P} {I : sa_I} {J : sa_J} {s0 : Int32}   (k : P (some (.int s0)) I J) : Sat (ER l D aI aL ad) M_X7_basis P 13 [] [.int s0] I J := by
  exact s_iret rfl dX7_basis_13 k
theorem bX7_basis_14 {l : Launch} {D : va_G} {aI aL : ClassId} {ad : Nat → Nat} {P : sa_P} {I : sa_I} {J : sa_J} {x1 : Int32} {x2 : Int32}   (k : Sat (ER l D aI aL ad) M_X7_basis P 19 [(0, .ref (ad 0)), (1, .int x1), (2, .int x2)] [.int (I 0 1), .int x1] I J) : Sat (ER l D aI aL ad) M_X7_basis P 14 [(0, .ref (ad 0)), (1, .int x1), (2, .int x2)] [] I J := by
  refine s_iload_n 1 dX7_basis_14 rfl ?_
  refine s_aload_n 0 dX7_basis_15 rfl ?_
  refine g_X7_101 dX7_basis_16 rfl ?_
  exact k
theorem bX7_basis_22 {l : Launch} {D : va_G} {aI aL : ClassId} {ad : Nat → Nat} {P : sa_P} {I : sa_I} {J : sa_J} {x1 : Int32} {x2 : Int32} {s0 : Int32}   (kt : s0 = 0 → Sat (ER l D aI aL ad) M_X7_basis P 38 [(0, .ref (ad 0))] [] I J) (kf : ¬ s0 = 0 → Sat (ER l D aI aL ad) M_X7_basis P 25 [(0, .ref (ad 0)), (1, .int x1), (2, .int x2)] [] I J) : Sat (ER l D aI aL ad) M_X7_basis P 22 [(0, .ref (ad 0)), (1, .int x1), (2, .int x2)] [.int s0] I J := by
  refine s_if_eq (tgt := 38) dX7_basis_22 (by decide) (fun c => ?_) (fun c => ?_)
  · refine s_pick [0] [(0, .ref (ad 0))] rfl ?_; exact kt c
  · exact kf c
theorem bX7_basis_25 {l : Launch} {D : va_G} {aI aL : ClassId} {ad : Nat → Nat} {P : sa_P} {I : sa_I} {J : sa_J} {x1 : Int32} {x2 : Int32}   (k : Sat (ER l D aI aL ad) M_X7_basis P 32 [(0, .ref (ad 0)), (1, .int x1), (2, .int x2)] [.int ((I 0 1) + (1 : Int32)), .int x2] I J) : Sat (ER l D aI aL ad) M_X7_basis P 25 [(0, .ref (ad 0)), (1, .int x1), (2, .int x2)] [] I J := by
  refine s_iload_n 2 dX7_basis_25 rfl ?_
  refine s_aload_n 0 dX7_basis_26 rfl ?_
  refine g_X7_101 dX7_basis_27 rfl ?_
  refine s_iconst (v := 1) dX7_basis_30 rfl ?_
  refine s_iadd dX7_basis_31 ?_
  exact k
theorem bX7_basis_35 {l : Launch} {D : va_G} {aI aL : ClassId} {ad : Nat → Nat} {P : sa_P} {I : sa_I} {J : sa_J} {x1 : Int32} {x2 : Int32} {s0 : Int32}   (kt : ¬ s0 = 0 → Sat (ER l D aI aL ad) M_X7_basis P 44 [(0, .ref (ad 0)), (1, .int x1), (2, .int x2)] [] I J) (kf : s0 = 0 → Sat (ER l D aI aL ad) M_X7_basis P 38 [(0, .ref (ad 0))] [] I J) : Sat (ER l D aI aL ad) M_X7_basis P 35 [(0, .ref (ad 0)), (1, .int x1), (2, .int x2)] [.int s0] I J := by
  refine s_if_ne (tgt := 44) dX7_basis_35 (by decide) (fun c => ?_) (fun c => ?_)
  · exact kt c
  · refine s_pick [0] [(0, .ref (ad 0))] rfl ?_; exact kf (by first | exact c | exact Classical.not_not.mp c)
theorem bX7_basis_38 {l : Launch} {D : va_G} {aI aL : ClassId} {ad : Nat → Nat} {P : sa_P} {I : sa_I} {J : sa_J}    (k : Sat (ER l D aI aL ad) M_X7_basis P 40 [] [.int (-1 : Int32), .ref (ad 0)] I J) : Sat (ER l D aI aL ad) M_X7_basis P 38 [(0, .ref (ad 0))] [] I J := by
  refine s_aload_n 0 dX7_basis_38 rfl ?_
  refine s_iconst (v := -1) dX7_basis_39 rfl ?_
  refine s_pick [] [] rfl ?_; exact k
theorem bX7_basis_43 {l : Launch} {D : va_G} {aI aL : ClassId} {ad : Nat → Nat} {P : sa_P} {I : sa_I} {J : sa_J} {s0 : Int32}   (k : P (some (.int s0)) I J) : Sat (ER l D aI aL ad) M_X7_basis P 43 [] [.int s0] I J := by
  exact s_iret rfl dX7_basis_43 k
theorem bX7_basis_44 {l : Launch} {D : va_G} {aI aL : ClassId} {ad : Nat → Nat} {P : sa_P} {I : sa_I} {J : sa_J} {x1 : Int32} {x2 : Int32}   (kt : ¬ x2 = I 0 1 → Sat (ER l D aI aL ad) M_X7_basis P 77 [(0, .ref (ad 0)), (1, .int x1), (2, .int x2)] [] I J) (kf : x2 = I 0 1 → Sat (ER l D aI aL ad) M_X7_basis P 52 [(0, .ref (ad 0)), (1, .int x1)] [] I J) : Sat (ER l D aI aL ad) M_X7_basis P 44 [(0, .ref (ad 0)), (1, .int x1), (2, .int x2)] [] I J := by
  refine s_iload_n 2 dX7_basis_44 rfl ?_
  refine s_aload_n 0 dX7_basis_45 rfl ?_
  refine g_X7_101 dX7_basis_46 rfl ?_
  refine s_icmp_ne (tgt := 77) dX7_basis_49 (by decide) (fun c => ?_) (fun c => ?_)
  · exact kt c
  · refine s_pick [0, 1] [(0, .ref (ad 0)), (1, .int x1)] rfl ?_; exact kf (by first | exact c | exact Classical.not_not.mp c)
theorem bX7_basis_52 {l : Launch} {D : va_G} {aI aL : ClassId} {ad : Nat → Nat} {P : sa_P} {I : sa_I} {J : sa_J} {x1 : Int32}   (kt : ¬ x1 = 0 → Sat (ER l D aI aL ad) M_X7_basis P 60 [(0, .ref (ad 0)), (1, .int x1)] [] I J) (kf : x1 = 0 → Sat (ER l D aI aL ad) M_X7_basis P 56 [] [] I J) : Sat (ER l D aI aL ad) M_X7_basis P 52 [(0, .ref (ad 0)), (1, .int x1)] [] I J := by
  refine s_iload_n 1 dX7_basis_52 rfl ?_
  refine s_if_ne (tgt := 60) dX7_basis_53 (by decide) (fun c => ?_) (fun c => ?_)
  · exact kt c
  · refine s_pick [] [] rfl ?_; exact kf (by first | exact c | exact Classical.not_not.mp c)
theorem bX7_basis_56 {l : Launch} {D : va_G} {aI aL : ClassId} {ad : Nat → Nat} {P : sa_P} {I : sa_I} {J : sa_J}    (k : Sat (ER l D aI aL ad) M_X7_basis P 76 [] [.int (1 : Int32)] I J) : Sat (ER l D aI aL ad) M_X7_basis P 56 [] [] I J := by
  refine s_iconst (v := 1) dX7_basis_56 rfl ?_
  refine s_goto (tgt := 76) dX7_basis_57 (by decide) ?_
  exact k
theorem bX7_basis_60 {l : Launch} {D : va_G} {aI aL : ClassId} {ad : Nat → Nat} {P : sa_P} {I : sa_I} {J : sa_J} {x1 : Int32}   (kt : ¬ x1 = (1 : Int32) → Sat (ER l D aI aL ad) M_X7_basis P 72 [(0, .ref (ad 0))] [] I J) (kf : x1 = (1 : Int32) → Sat (ER l D aI aL ad) M_X7_basis P 65 [(0, .ref (ad 0))] [] I J) : Sat (ER l D aI aL ad) M_X7_basis P 60 [(0, .ref (ad 0)), (1, .int x1)] [] I J := by
  refine s_iload_n 1 dX7_basis_60 rfl ?_
  refine s_iconst (v := 1) dX7_basis_61 rfl ?_
  refine s_icmp_ne (tgt := 72) dX7_basis_62 (by decide) (fun c => ?_) (fun c => ?_)
  · refine s_pick [0] [(0, .ref (ad 0))] rfl ?_; exact kt c
  · refine s_pick [0] [(0, .ref (ad 0))] rfl ?_; exact kf (by first | exact c | exact Classical.not_not.mp c)
theorem bX7_basis_65 {l : Launch} {D : va_G} {aI aL : ClassId} {ad : Nat → Nat} {P : sa_P} {I : sa_I} {J : sa_J}    (k : Sat (ER l D aI aL ad) M_X7_basis P 76 [] [.int (I 0 6)] I J) : Sat (ER l D aI aL ad) M_X7_basis P 65 [(0, .ref (ad 0))] [] I J := by
  refine s_aload_n 0 dX7_basis_65 rfl ?_
  refine g_X7_139 dX7_basis_66 rfl ?_
  refine s_goto (tgt := 76) dX7_basis_69 (by decide) ?_
  refine s_pick [] [] rfl ?_; exact k
theorem bX7_basis_72 {l : Launch} {D : va_G} {aI aL : ClassId} {ad : Nat → Nat} {P : sa_P} {I : sa_I} {J : sa_J}    (k : Sat (ER l D aI aL ad) M_X7_basis P 76 [] [.int (I 0 9)] I J) : Sat (ER l D aI aL ad) M_X7_basis P 72 [(0, .ref (ad 0))] [] I J := by
  refine s_aload_n 0 dX7_basis_72 rfl ?_
  refine g_X7_142 dX7_basis_73 rfl ?_
  refine s_pick [] [] rfl ?_; exact k
theorem bX7_basis_76 {l : Launch} {D : va_G} {aI aL : ClassId} {ad : Nat → Nat} {P : sa_P} {I : sa_I} {J : sa_J} {s0 : Int32}   (k : P (some (.int s0)) I J) : Sat (ER l D aI aL ad) M_X7_basis P 76 [] [.int s0] I J := by
  exact s_iret rfl dX7_basis_76 k
theorem bX7_basis_77 {l : Launch} {D : va_G} {aI aL : ClassId} {ad : Nat → Nat} {P : sa_P} {I : sa_I} {J : sa_J} {x1 : Int32} {x2 : Int32}   (kt : ¬ x1 = x2 → Sat (ER l D aI aL ad) M_X7_basis P 84 [(0, .ref (ad 0)), (1, .int x1), (2, .int x2)] [] I J) (kf : x1 = x2 → Sat (ER l D aI aL ad) M_X7_basis P 82 [] [] I J) : Sat (ER l D aI aL ad) M_X7_basis P 77 [(0, .ref (ad 0)), (1, .int x1), (2, .int x2)] [] I J := by
  refine s_iload_n 1 dX7_basis_77 rfl ?_
  refine s_iload_n 2 dX7_basis_78 rfl ?_
  refine s_icmp_ne (tgt := 84) dX7_basis_79 (by decide) (fun c => ?_) (fun c => ?_)
  · exact kt c
  · refine s_pick [] [] rfl ?_; exact kf (by first | exact c | exact Classical.not_not.mp c)
theorem bX7_basis_82 {l : Launch} {D : va_G} {aI aL : ClassId} {ad : Nat → Nat} {P : sa_P} {I : sa_I} {J : sa_J}    (k : P (some (.int (1 : Int32))) I J) : Sat (ER l D aI aL ad) M_X7_basis P 82 [] [] I J := by
  refine s_iconst (v := 1) dX7_basis_82 rfl ?_
  exact s_iret rfl dX7_basis_83 k
theorem bX7_basis_84 {l : Launch} {D : va_G} {aI aL : ClassId} {ad : Nat → Nat} {P : sa_P} {I : sa_I} {J : sa_J} {x1 : Int32} {x2 : Int32}   (kt : x2 ≤ x1 → Sat (ER l D aI aL ad) M_X7_basis P 93 [(0, .ref (ad 0)), (1, .int x1), (2, .int x2)] [] I J) (kf : ¬ x2 ≤ x1 → Sat (ER l D aI aL ad) M_X7_basis P 89 [] [] I J) : Sat (ER l D aI aL ad) M_X7_basis P 84 [(0, .ref (ad 0)), (1, .int x1), (2, .int x2)] [] I J := by
  refine s_iload_n 2 dX7_basis_84 rfl ?_
  refine s_iload_n 1 dX7_basis_85 rfl ?_
  refine s_icmp_le (tgt := 93) dX7_basis_86 (by decide) (fun c => ?_) (fun c => ?_)
  · exact kt c
  · refine s_pick [] [] rfl ?_; exact kf c
theorem bX7_basis_89 {l : Launch} {D : va_G} {aI aL : ClassId} {ad : Nat → Nat} {P : sa_P} {I : sa_I} {J : sa_J}    (k : Sat (ER l D aI aL ad) M_X7_basis P 120 [] [.int (0 : Int32)] I J) : Sat (ER l D aI aL ad) M_X7_basis P 89 [] [] I J := by
  refine s_iconst (v := 0) dX7_basis_89 rfl ?_
  refine s_goto (tgt := 120) dX7_basis_90 (by decide) ?_
  exact k
theorem bX7_basis_93 {l : Launch} {D : va_G} {aI aL : ClassId} {ad : Nat → Nat} {P : sa_P} {I : sa_I} {J : sa_J} {x1 : Int32} {x2 : Int32}   (kt : ¬ x1 = (1 : Int32) → Sat (ER l D aI aL ad) M_X7_basis P 105 [(0, .ref (ad 0)), (2, .int x2)] [] I J) (kf : x1 = (1 : Int32) → Sat (ER l D aI aL ad) M_X7_basis P 98 [(0, .ref (ad 0))] [] I J) : Sat (ER l D aI aL ad) M_X7_basis P 93 [(0, .ref (ad 0)), (1, .int x1), (2, .int x2)] [] I J := by
  refine s_iload_n 1 dX7_basis_93 rfl ?_
  refine s_iconst (v := 1) dX7_basis_94 rfl ?_
  refine s_icmp_ne (tgt := 105) dX7_basis_95 (by decide) (fun c => ?_) (fun c => ?_)
  · refine s_pick [0, 2] [(0, .ref (ad 0)), (2, .int x2)] rfl ?_; exact kt c
  · refine s_pick [0] [(0, .ref (ad 0))] rfl ?_; exact kf (by first | exact c | exact Classical.not_not.mp c)
theorem bX7_basis_98 {l : Launch} {D : va_G} {aI aL : ClassId} {ad : Nat → Nat} {P : sa_P} {I : sa_I} {J : sa_J}    (k : Sat (ER l D aI aL ad) M_X7_basis P 120 [] [.int (I 0 5)] I J) : Sat (ER l D aI aL ad) M_X7_basis P 98 [(0, .ref (ad 0))] [] I J := by
  refine s_aload_n 0 dX7_basis_98 rfl ?_
  refine g_X7_136 dX7_basis_99 rfl ?_
  refine s_goto (tgt := 120) dX7_basis_102 (by decide) ?_
  refine s_pick [] [] rfl ?_; exact k
theorem bX7_basis_105 {l : Launch} {D : va_G} {aI aL : ClassId} {ad : Nat → Nat} {P : sa_P} {I : sa_I} {J : sa_J} {x2 : Int32}   (kt : ¬ x2 = 0 → Sat (ER l D aI aL ad) M_X7_basis P 116 [(0, .ref (ad 0))] [] I J) (kf : x2 = 0 → Sat (ER l D aI aL ad) M_X7_basis P 109 [(0, .ref (ad 0))] [] I J) : Sat (ER l D aI aL ad) M_X7_basis P 105 [(0, .ref (ad 0)), (2, .int x2)] [] I J := by
  refine s_iload_n 1 dX7_basis_105 rfl ?_
  refine s_if_ne (tgt := 116) dX7_basis_106 (by decide) (fun c => ?_) (fun c => ?_)
  · refine s_pick [0] [(0, .ref (ad 0))] rfl ?_; exact kt c
  · refine s_pick [0] [(0, .ref (ad 0))] rfl ?_; exact kf (by first | exact c | exact Classical.not_not.mp c)
theorem bX7_basis_109 {l : Launch} {D : va_G} {aI aL : ClassId} {ad : Nat → Nat} {P : sa_P} {I : sa_I} {J : sa_J}    (k : Sat (ER l D aI aL ad) M_X7_basis P 120 [] [.int (I 0 7)] I J) : Sat (ER l D aI aL ad) M_X7_basis P 109 [(0, .ref (ad 0))] [] I J := by
  refine s_aload_n 0 dX7_basis_109 rfl ?_
  refine g_X7_145 dX7_basis_110 rfl ?_
  refine s_goto (tgt := 120) dX7_basis_113 (by decide) ?_
  refine s_pick [] [] rfl ?_; exact k
theorem bX7_basis_116 {l : Launch} {D : va_G} {aI aL : ClassId} {ad : Nat → Nat} {P : sa_P} {I : sa_I} {J : sa_J}    (k : Sat (ER l D aI aL ad) M_X7_basis P 120 [] [.int (I 0 8)] I J) : Sat (ER l D aI aL ad) M_X7_basis P 116 [(0, .ref (ad 0))] [] I J := by
  refine s_aload_n 0 dX7_basis_116 rfl ?_
  refine g_X7_148 dX7_basis_117 rfl ?_
  refine s_pick [] [] rfl ?_; exact k
theorem bX7_basis_120 {l : Launch} {D : va_G} {aI aL : ClassId} {ad : Nat → Nat} {P : sa_P} {I : sa_I} {J : sa_J} {s0 : Int32}   (k : P (some (.int s0)) I J) : Sat (ER l D aI aL ad) M_X7_basis P 120 [] [.int s0] I J := by
  exact s_iret rfl dX7_basis_120 k
/-! X7_table -/
theorem dX7_table_0 : decode cX7_table 0 = .ok (.aload_n 0, 1) := by decide +kernel
theorem dX7_table_1 : decode cX7_table 1 = .ok (.invokevirtual 203, 3) := by decide +kernel
theorem dX7_table_4 : decode cX7_table 4 = .ok (.ifCond .ne 10, 3) := by decide +kernel
theorem dX7_table_7 : decode cX7_table 7 = .ok (.aload_n 0, 1) := by decide +kernel
theorem dX7_table_8 : decode cX7_table 8 = .ok (.bipush (-3), 2) := by decide +kernel
theorem dX7_table_10 : decode cX7_table 10 = .ok (.invokevirtual 214, 3) := by decide +kernel
theorem dX7_table_13 : decode cX7_table 13 = .ok (.ireturn, 1) := by decide +kernel
theorem dX7_table_14 : decode cX7_table 14 = .ok (.iload_n 1, 1) := by decide +kernel
theorem dX7_table_15 : decode cX7_table 15 = .ok (.aload_n 0, 1) := by decide +kernel
theorem dX7_table_16 : decode cX7_table 16 = .ok (.getfield 101, 3) := by decide +kernel
theorem dX7_table_19 : decode cX7_table 19 = .ok (.invokestatic 210, 3) := by decide +kernel
theorem dX7_table_22 : decode cX7_table 22 = .ok (.ifCond .eq 44, 3) := by decide +kernel
theorem dX7_table_25 : decode cX7_table 25 = .ok (.iload_n 2, 1) := by decide +kernel
theorem dX7_table_26 : decode cX7_table 26 = .ok (.aload_n 0, 1) := by decide +kernel
theorem dX7_table_27 : decode cX7_table 27 = .ok (.getfield 101, 3) := by decide +kernel
theorem dX7_table_30 : decode cX7_table 30 = .ok (.invokestatic 210, 3) := by decide +kernel
theorem dX7_table_33 : decode cX7_table 33 = .ok (.ifCond .eq 33, 3) := by decide +kernel
theorem dX7_table_36 : decode cX7_table 36 = .ok (.iload_n 3, 1) := by decide +kernel
theorem dX7_table_37 : decode cX7_table 37 = .ok (.aload_n 0, 1) := by decide +kernel
theorem dX7_table_38 : decode cX7_table 38 = .ok (.getfield 101, 3) := by decide +kernel
theorem dX7_table_41 : decode cX7_table 41 = .ok (.invokestatic 210, 3) := by decide +kernel
theorem dX7_table_44 : decode cX7_table 44 = .ok (.ifCond .eq 22, 3) := by decide +kernel
theorem dX7_table_47 : decode cX7_table 47 = .ok (.aload_n 0, 1) := by decide +kernel
theorem dX7_table_48 : decode cX7_table 48 = .ok (.getfield 13, 3) := by decide +kernel
theorem dX7_table_51 : decode cX7_table 51 = .ok (.bipush 9, 2) := by decide +kernel
theorem dX7_table_53 : decode cX7_table 53 = .ok (.iload_n 1, 1) := by decide +kernel
theorem dX7_table_54 : decode cX7_table 54 = .ok (.imul, 1) := by decide +kernel
theorem dX7_table_55 : decode cX7_table 55 = .ok (.iconst 3, 1) := by decide +kernel
theorem dX7_table_56 : decode cX7_table 56 = .ok (.iload_n 2, 1) := by decide +kernel
theorem dX7_table_57 : decode cX7_table 57 = .ok (.imul, 1) := by decide +kernel
theorem dX7_table_58 : decode cX7_table 58 = .ok (.iadd, 1) := by decide +kernel
theorem dX7_table_59 : decode cX7_table 59 = .ok (.iload_n 3, 1) := by decide +kernel
theorem dX7_table_60 : decode cX7_table 60 = .ok (.iadd, 1) := by decide +kernel
theorem dX7_table_61 : decode cX7_table 61 = .ok (.laload, 1) := by decide +kernel
theorem dX7_table_62 : decode cX7_table 62 = .ok (.l2i, 1) := by decide +kernel
theorem dX7_table_63 : decode cX7_table 63 = .ok (.goto 8, 3) := by decide +kernel
theorem dX7_table_66 : decode cX7_table 66 = .ok (.aload_n 0, 1) := by decide +kernel
theorem dX7_table_67 : decode cX7_table 67 = .ok (.iconst (-1), 1) := by decide +kernel
theorem dX7_table_68 : decode cX7_table 68 = .ok (.invokevirtual 214, 3) := by decide +kernel
theorem dX7_table_71 : decode cX7_table 71 = .ok (.ireturn, 1) := by decide +kernel
theorem bX7_table_0 {l : Launch} {D : va_G} {aI aL : ClassId} {ad : Nat → Nat} {P : sa_P} {I : sa_I} {J : sa_J} {x1 : Int32} {x2 : Int32} {x3 : Int32}   (k : Sat (ER l D aI aL ad) M_X7_table P 1 [(0, .ref (ad 0)), (1, .int x1), (2, .int x2), (3, .int x3)] [.ref (ad 0)] I J) : Sat (ER l D aI aL ad) M_X7_table P 0 [(0, .ref (ad 0)), (1, .int x1), (2, .int x2), (3, .int x3)] [] I J := by
  refine s_aload_n 0 dX7_table_0 rfl ?_
  exact k
theorem bX7_table_4 {l : Launch} {D : va_G} {aI aL : ClassId} {ad : Nat → Nat} {P : sa_P} {I : sa_I} {J : sa_J} {x1 : Int32} {x2 : Int32} {x3 : Int32} {s0 : Int32}   (kt : ¬ s0 = 0 → Sat (ER l D aI aL ad) M_X7_table P 14 [(0, .ref (ad 0)), (1, .int x1), (2, .int x2), (3, .int x3)] [] I J) (kf : s0 = 0 → Sat (ER l D aI aL ad) M_X7_table P 7 [(0, .ref (ad 0))] [] I J) : Sat (ER l D aI aL ad) M_X7_table P 4 [(0, .ref (ad 0)), (1, .int x1), (2, .int x2), (3, .int x3)] [.int s0] I J := by
  refine s_if_ne (tgt := 14) dX7_table_4 (by decide) (fun c => ?_) (fun c => ?_)
  · exact kt c
  · refine s_pick [0] [(0, .ref (ad 0))] rfl ?_; exact kf (by first | exact c | exact Classical.not_not.mp c)
theorem bX7_table_7 {l : Launch} {D : va_G} {aI aL : ClassId} {ad : Nat → Nat} {P : sa_P} {I : sa_I} {J : sa_J}    (k : Sat (ER l D aI aL ad) M_X7_table P 10 [] [.int (-3 : Int32), .ref (ad 0)] I J) : Sat (ER l D aI aL ad) M_X7_table P 7 [(0, .ref (ad 0))] [] I J := by
  refine s_aload_n 0 dX7_table_7 rfl ?_
  refine s_bipush (v := -3) dX7_table_8 rfl ?_
  refine s_pick [] [] rfl ?_; exact k
theorem bX7_table_13 {l : Launch} {D : va_G} {aI aL : ClassId} {ad : Nat → Nat} {P : sa_P} {I : sa_I} {J : sa_J} {s0 : Int32}   (k : P (some (.int s0)) I J) : Sat (ER l D aI aL ad) M_X7_table P 13 [] [.int s0] I J := by
  exact s_iret rfl dX7_table_13 k
theorem bX7_table_14 {l : Launch} {D : va_G} {aI aL : ClassId} {ad : Nat → Nat} {P : sa_P} {I : sa_I} {J : sa_J} {x1 : Int32} {x2 : Int32} {x3 : Int32}   (k : Sat (ER l D aI aL ad) M_X7_table P 19 [(0, .ref (ad 0)), (1, .int x1), (2, .int x2), (3, .int x3)] [.int (I 0 1), .int x1] I J) : Sat (ER l D aI aL ad) M_X7_table P 14 [(0, .ref (ad 0)), (1, .int x1), (2, .int x2), (3, .int x3)] [] I J := by
  refine s_iload_n 1 dX7_table_14 rfl ?_
  refine s_aload_n 0 dX7_table_15 rfl ?_
  refine g_X7_101 dX7_table_16 rfl ?_
  exact k
theorem bX7_table_22 {l : Launch} {D : va_G} {aI aL : ClassId} {ad : Nat → Nat} {P : sa_P} {I : sa_I} {J : sa_J} {x1 : Int32} {x2 : Int32} {x3 : Int32} {s0 : Int32}   (kt : s0 = 0 → Sat (ER l D aI aL ad) M_X7_table P 66 [(0, .ref (ad 0))] [] I J) (kf : ¬ s0 = 0 → Sat (ER l D aI aL ad) M_X7_table P 25 [(0, .ref (ad 0)), (1, .int x1), (2, .int x2), (3, .int x3)] [] I J) : Sat (ER l D aI aL ad) M_X7_table P 22 [(0, .ref (ad 0)), (1, .int x1), (2, .int x2), (3, .int x3)] [.int s0] I J := by
  refine s_if_eq (tgt := 66) dX7_table_22 (by decide) (fun c => ?_) (fun c => ?_)
  · refine s_pick [0] [(0, .ref (ad 0))] rfl ?_; exact kt c
  · exact kf c
theorem bX7_table_25 {l : Launch} {D : va_G} {aI aL : ClassId} {ad : Nat → Nat} {P : sa_P} {I : sa_I} {J : sa_J} {x1 : Int32} {x2 : Int32} {x3 : Int32}   (k : Sat (ER l D aI aL ad) M_X7_table P 30 [(0, .ref (ad 0)), (1, .int x1), (2, .int x2), (3, .int x3)] [.int (I 0 1), .int x2] I J) : Sat (ER l D aI aL ad) M_X7_table P 25 [(0, .ref (ad 0)), (1, .int x1), (2, .int x2), (3, .int x3)] [] I J := by
  refine s_iload_n 2 dX7_table_25 rfl ?_
  refine s_aload_n 0 dX7_table_26 rfl ?_
  refine g_X7_101 dX7_table_27 rfl ?_
  exact k
theorem bX7_table_33 {l : Launch} {D : va_G} {aI aL : ClassId} {ad : Nat → Nat} {P : sa_P} {I : sa_I} {J : sa_J} {x1 : Int32} {x2 : Int32} {x3 : Int32} {s0 : Int32}   (kt : s0 = 0 → Sat (ER l D aI aL ad) M_X7_table P 66 [(0, .ref (ad 0))] [] I J) (kf : ¬ s0 = 0 → Sat (ER l D aI aL ad) M_X7_table P 36 [(0, .ref (ad 0)), (1, .int x1), (2, .int x2), (3, .int x3)] [] I J) : Sat (ER l D aI aL ad) M_X7_table P 33 [(0, .ref (ad 0)), (1, .int x1), (2, .int x2), (3, .int x3)] [.int s0] I J := by
  refine s_if_eq (tgt := 66) dX7_table_33 (by decide) (fun c => ?_) (fun c => ?_)
  · refine s_pick [0] [(0, .ref (ad 0))] rfl ?_; exact kt c
  · exact kf c
theorem bX7_table_36 {l : Launch} {D : va_G} {aI aL : ClassId} {ad : Nat → Nat} {P : sa_P} {I : sa_I} {J : sa_J} {x1 : Int32} {x2 : Int32} {x3 : Int32}   (k : Sat (ER l D aI aL ad) M_X7_table P 41 [(0, .ref (ad 0)), (1, .int x1), (2, .int x2), (3, .int x3)] [.int (I 0 1), .int x3] I J) : Sat (ER l D aI aL ad) M_X7_table P 36 [(0, .ref (ad 0)), (1, .int x1), (2, .int x2), (3, .int x3)] [] I J := by
  refine s_iload_n 3 dX7_table_36 rfl ?_
  refine s_aload_n 0 dX7_table_37 rfl ?_
  refine g_X7_101 dX7_table_38 rfl ?_
  exact k
theorem bX7_table_44 {l : Launch} {D : va_G} {aI aL : ClassId} {ad : Nat → Nat} {P : sa_P} {I : sa_I} {J : sa_J} {x1 : Int32} {x2 : Int32} {x3 : Int32} {s0 : Int32}   (kt : s0 = 0 → Sat (ER l D aI aL ad) M_X7_table P 66 [(0, .ref (ad 0))] [] I J) (kf : ¬ s0 = 0 → Sat (ER l D aI aL ad) M_X7_table P 47 [(0, .ref (ad 0)), (1, .int x1), (2, .int x2), (3, .int x3)] [] I J) : Sat (ER l D aI aL ad) M_X7_table P 44 [(0, .ref (ad 0)), (1, .int x1), (2, .int x2), (3, .int x3)] [.int s0] I J := by
  refine s_if_eq (tgt := 66) dX7_table_44 (by decide) (fun c => ?_) (fun c => ?_)
  · refine s_pick [0] [(0, .ref (ad 0))] rfl ?_; exact kt c
  · exact kf c
theorem bX7_table_47 {l : Launch} {D : va_G} {aI aL : ClassId} {ad : Nat → Nat} {P : sa_P} {I : sa_I} {J : sa_J} {x1 : Int32} {x2 : Int32} {x3 : Int32} {j60 : Nat} (e60 : (((9 : Int32) * x1) + ((3 : Int32) * x2)) + x3 = nI j60) (h61 : j60 < 27)  (k : Sat (ER l D aI aL ad) M_X7_table P 71 [] [.int ((J 2 j60).toInt32)] I J) : Sat (ER l D aI aL ad) M_X7_table P 47 [(0, .ref (ad 0)), (1, .int x1), (2, .int x2), (3, .int x3)] [] I J := by
  refine s_aload_n 0 dX7_table_47 rfl ?_
  refine g_X7_13 dX7_table_48 rfl ?_
  refine s_bipush (v := 9) dX7_table_51 rfl ?_
  refine s_iload_n 1 dX7_table_53 rfl ?_
  refine s_imul dX7_table_54 ?_
  refine s_iconst (v := 3) dX7_table_55 rfl ?_
  refine s_iload_n 2 dX7_table_56 rfl ?_
  refine s_imul dX7_table_57 ?_
  refine s_iadd dX7_table_58 ?_
  refine s_iload_n 3 dX7_table_59 rfl ?_
  refine s_iadd dX7_table_60 ?_
  refine s_eqi e60 ?_
  refine s_laloadN aJ_R2 h61 (by decide) dX7_table_61 ?_
  refine s_l2i dX7_table_62 ?_
  refine s_goto (tgt := 71) dX7_table_63 (by decide) ?_
  refine s_pick [] [] rfl ?_; exact k
theorem bX7_table_66 {l : Launch} {D : va_G} {aI aL : ClassId} {ad : Nat → Nat} {P : sa_P} {I : sa_I} {J : sa_J}    (k : Sat (ER l D aI aL ad) M_X7_table P 68 [] [.int (-1 : Int32), .ref (ad 0)] I J) : Sat (ER l D aI aL ad) M_X7_table P 66 [(0, .ref (ad 0))] [] I J := by
  refine s_aload_n 0 dX7_table_66 rfl ?_
  refine s_iconst (v := -1) dX7_table_67 rfl ?_
  refine s_pick [] [] rfl ?_; exact k
theorem bX7_table_71 {l : Launch} {D : va_G} {aI aL : ClassId} {ad : Nat → Nat} {P : sa_P} {I : sa_I} {J : sa_J} {s0 : Int32}   (k : P (some (.int s0)) I J) : Sat (ER l D aI aL ad) M_X7_table P 71 [] [.int s0] I J := by
  exact s_iret rfl dX7_table_71 k
/-! X7_product -/
theorem dX7_product_0 : decode cX7_product 0 = .ok (.iconst 0, 1) := by decide +kernel
theorem dX7_product_1 : decode cX7_product 1 = .ok (.istore_n 1, 1) := by decide +kernel
theorem dX7_product_2 : decode cX7_product 2 = .ok (.iload_n 1, 1) := by decide +kernel
theorem dX7_product_3 : decode cX7_product 3 = .ok (.iconst 3, 1) := by decide +kernel
theorem dX7_product_4 : decode cX7_product 4 = .ok (.if_icmp .ge 98, 3) := by decide +kernel
theorem dX7_product_7 : decode cX7_product 7 = .ok (.lconst 0, 1) := by decide +kernel
theorem dX7_product_8 : decode cX7_product 8 = .ok (.lstore_n 2, 1) := by decide +kernel
theorem dX7_product_9 : decode cX7_product 9 = .ok (.iconst 0, 1) := by decide +kernel
theorem dX7_product_10 : decode cX7_product 10 = .ok (.istore 4, 2) := by decide +kernel
theorem dX7_product_12 : decode cX7_product 12 = .ok (.iload 4, 2) := by decide +kernel
theorem dX7_product_14 : decode cX7_product 14 = .ok (.aload_n 0, 1) := by decide +kernel
theorem dX7_product_15 : decode cX7_product 15 = .ok (.getfield 101, 3) := by decide +kernel
theorem dX7_product_18 : decode cX7_product 18 = .ok (.if_icmp .ge 71, 3) := by decide +kernel
theorem dX7_product_21 : decode cX7_product 21 = .ok (.iconst 0, 1) := by decide +kernel
theorem dX7_product_22 : decode cX7_product 22 = .ok (.istore 5, 2) := by decide +kernel
theorem dX7_product_24 : decode cX7_product 24 = .ok (.iload 5, 2) := by decide +kernel
theorem dX7_product_26 : decode cX7_product 26 = .ok (.aload_n 0, 1) := by decide +kernel
theorem dX7_product_27 : decode cX7_product 27 = .ok (.getfield 101, 3) := by decide +kernel
theorem dX7_product_30 : decode cX7_product 30 = .ok (.if_icmp .ge 53, 3) := by decide +kernel
theorem dX7_product_33 : decode cX7_product 33 = .ok (.iload_n 1, 1) := by decide +kernel
theorem dX7_product_34 : decode cX7_product 34 = .ok (.aload_n 0, 1) := by decide +kernel
theorem dX7_product_35 : decode cX7_product 35 = .ok (.getfield 101, 3) := by decide +kernel
theorem dX7_product_38 : decode cX7_product 38 = .ok (.if_icmp .ge 45, 3) := by decide +kernel
theorem dX7_product_41 : decode cX7_product 41 = .ok (.lload_n 2, 1) := by decide +kernel
theorem dX7_product_42 : decode cX7_product 42 = .ok (.aload_n 0, 1) := by decide +kernel
theorem dX7_product_43 : decode cX7_product 43 = .ok (.getfield 38, 3) := by decide +kernel
theorem dX7_product_46 : decode cX7_product 46 = .ok (.iload 4, 2) := by decide +kernel
theorem dX7_product_48 : decode cX7_product 48 = .ok (.laload, 1) := by decide +kernel
theorem dX7_product_49 : decode cX7_product 49 = .ok (.aload_n 0, 1) := by decide +kernel
theorem dX7_product_50 : decode cX7_product 50 = .ok (.getfield 41, 3) := by decide +kernel
theorem dX7_product_53 : decode cX7_product 53 = .ok (.iload 5, 2) := by decide +kernel
theorem dX7_product_55 : decode cX7_product 55 = .ok (.laload, 1) := by decide +kernel
theorem dX7_product_56 : decode cX7_product 56 = .ok (.lmul, 1) := by decide +kernel
theorem dX7_product_57 : decode cX7_product 57 = .ok (.aload_n 0, 1) := by decide +kernel
theorem dX7_product_58 : decode cX7_product 58 = .ok (.getfield 13, 3) := by decide +kernel
theorem dX7_product_61 : decode cX7_product 61 = .ok (.bipush 9, 2) := by decide +kernel
theorem dX7_product_63 : decode cX7_product 63 = .ok (.iload 4, 2) := by decide +kernel
theorem dX7_product_65 : decode cX7_product 65 = .ok (.imul, 1) := by decide +kernel
theorem dX7_product_66 : decode cX7_product 66 = .ok (.iconst 3, 1) := by decide +kernel
theorem dX7_product_67 : decode cX7_product 67 = .ok (.iload 5, 2) := by decide +kernel
theorem dX7_product_69 : decode cX7_product 69 = .ok (.imul, 1) := by decide +kernel
theorem dX7_product_70 : decode cX7_product 70 = .ok (.iadd, 1) := by decide +kernel
theorem dX7_product_71 : decode cX7_product 71 = .ok (.iload_n 1, 1) := by decide +kernel
theorem dX7_product_72 : decode cX7_product 72 = .ok (.iadd, 1) := by decide +kernel
theorem dX7_product_73 : decode cX7_product 73 = .ok (.laload, 1) := by decide +kernel
theorem dX7_product_74 : decode cX7_product 74 = .ok (.lmul, 1) := by decide +kernel
theorem dX7_product_75 : decode cX7_product 75 = .ok (.ladd, 1) := by decide +kernel
theorem dX7_product_76 : decode cX7_product 76 = .ok (.lstore_n 2, 1) := by decide +kernel
theorem dX7_product_77 : decode cX7_product 77 = .ok (.iinc 5 1, 3) := by decide +kernel
theorem dX7_product_80 : decode cX7_product 80 = .ok (.goto (-56), 3) := by decide +kernel
theorem dX7_product_83 : decode cX7_product 83 = .ok (.iinc 4 1, 3) := by decide +kernel
theorem dX7_product_86 : decode cX7_product 86 = .ok (.goto (-74), 3) := by decide +kernel
theorem dX7_product_89 : decode cX7_product 89 = .ok (.aload_n 0, 1) := by decide +kernel
theorem dX7_product_90 : decode cX7_product 90 = .ok (.getfield 44, 3) := by decide +kernel
theorem dX7_product_93 : decode cX7_product 93 = .ok (.iload_n 1, 1) := by decide +kernel
theorem dX7_product_94 : decode cX7_product 94 = .ok (.lload_n 2, 1) := by decide +kernel
theorem dX7_product_95 : decode cX7_product 95 = .ok (.lastore, 1) := by decide +kernel
theorem dX7_product_96 : decode cX7_product 96 = .ok (.iinc 1 1, 3) := by decide +kernel
theorem dX7_product_99 : decode cX7_product 99 = .ok (.goto (-97), 3) := by decide +kernel
theorem dX7_product_102 : decode cX7_product 102 = .ok (.return_, 1) := by decide +kernel
theorem bX7_product_0 {l : Launch} {D : va_G} {aI aL : ClassId} {ad : Nat → Nat} {P : sa_P} {I : sa_I} {J : sa_J} {v1 : Int32}  (f1 : (0 : Int32) = v1) (k : Sat (ER l D aI aL ad) M_X7_product P 2 [(0, .ref (ad 0)), (1, .int v1)] [] I J) : Sat (ER l D aI aL ad) M_X7_product P 0 [(0, .ref (ad 0))] [] I J := by
  refine s_iconst (v := 0) dX7_product_0 rfl ?_
  refine s_eqi f1 ?_
  refine s_istore_n [(1, .int v1), (0, .ref (ad 0))] dX7_product_1 (Nat.lt_of_lt_of_le (Nat.lt_succ_self _) (Nat.le_of_ble_eq_true rfl)) rfl ?_
  refine s_pick [1, 0] [(0, .ref (ad 0)), (1, .int v1)] rfl ?_; exact k
theorem bX7_product_2 {l : Launch} {D : va_G} {aI aL : ClassId} {ad : Nat → Nat} {P : sa_P} {I : sa_I} {J : sa_J} {x1 : Int32}   (kt : (3 : Int32) ≤ x1 → Sat (ER l D aI aL ad) M_X7_product P 102 [] [] I J) (kf : ¬ (3 : Int32) ≤ x1 → Sat (ER l D aI aL ad) M_X7_product P 7 [(0, .ref (ad 0)), (1, .int x1)] [] I J) : Sat (ER l D aI aL ad) M_X7_product P 2 [(0, .ref (ad 0)), (1, .int x1)] [] I J := by
  refine s_iload_n 1 dX7_product_2 rfl ?_
  refine s_iconst (v := 3) dX7_product_3 rfl ?_
  refine s_icmp_ge (tgt := 102) dX7_product_4 (by decide) (fun c => ?_) (fun c => ?_)
  · refine s_pick [] [] rfl ?_; exact kt c
  · exact kf c
theorem bX7_product_7 {l : Launch} {D : va_G} {aI aL : ClassId} {ad : Nat → Nat} {P : sa_P} {I : sa_I} {J : sa_J} {x1 : Int32} {v8 : Int64} {v10 : Int32}  (f8 : (0 : Int64) = v8) (f10 : (0 : Int32) = v10) (k : Sat (ER l D aI aL ad) M_X7_product P 12 [(0, .ref (ad 0)), (1, .int x1), (2, .long v8), (4, .int v10)] [] I J) : Sat (ER l D aI aL ad) M_X7_product P 7 [(0, .ref (ad 0)), (1, .int x1)] [] I J := by
  refine s_lconst (v := 0) dX7_product_7 rfl ?_
  refine s_eql f8 ?_
  refine s_lstore_n [(2, .long v8), (0, .ref (ad 0)), (1, .int x1)] dX7_product_8 (Nat.lt_of_lt_of_le (Nat.lt_succ_self _) (Nat.le_of_ble_eq_true rfl)) rfl ?_
  refine s_iconst (v := 0) dX7_product_9 rfl ?_
  refine s_eqi f10 ?_
  refine s_istore [(4, .int v10), (2, .long v8), (0, .ref (ad 0)), (1, .int x1)] dX7_product_10 (Nat.lt_of_lt_of_le (Nat.lt_succ_self _) (Nat.le_of_ble_eq_true rfl)) rfl ?_
  refine s_pick [2, 3, 1, 0] [(0, .ref (ad 0)), (1, .int x1), (2, .long v8), (4, .int v10)] rfl ?_; exact k
theorem bX7_product_12 {l : Launch} {D : va_G} {aI aL : ClassId} {ad : Nat → Nat} {P : sa_P} {I : sa_I} {J : sa_J} {x1 : Int32} {x2 : Int64} {x4 : Int32}   (kt : I 0 1 ≤ x4 → Sat (ER l D aI aL ad) M_X7_product P 89 [(0, .ref (ad 0)), (1, .int x1), (2, .long x2)] [] I J) (kf : ¬ I 0 1 ≤ x4 → Sat (ER l D aI aL ad) M_X7_product P 21 [(0, .ref (ad 0)), (1, .int x1), (2, .long x2), (4, .int x4)] [] I J) : Sat (ER l D aI aL ad) M_X7_product P 12 [(0, .ref (ad 0)), (1, .int x1), (2, .long x2), (4, .int x4)] [] I J := by
  refine s_iload 3 dX7_product_12 rfl ?_
  refine s_aload_n 0 dX7_product_14 rfl ?_
  refine g_X7_101 dX7_product_15 rfl ?_
  refine s_icmp_ge (tgt := 89) dX7_product_18 (by decide) (fun c => ?_) (fun c => ?_)
  · refine s_pick [0, 1, 2] [(0, .ref (ad 0)), (1, .int x1), (2, .long x2)] rfl ?_; exact kt c
  · exact kf c
theorem bX7_product_21 {l : Launch} {D : va_G} {aI aL : ClassId} {ad : Nat → Nat} {P : sa_P} {I : sa_I} {J : sa_J} {x1 : Int32} {x2 : Int64} {x4 : Int32} {v22 : Int32}  (f22 : (0 : Int32) = v22) (k : Sat (ER l D aI aL ad) M_X7_product P 24 [(0, .ref (ad 0)), (1, .int x1), (2, .long x2), (4, .int x4), (5, .int v22)] [] I J) : Sat (ER l D aI aL ad) M_X7_product P 21 [(0, .ref (ad 0)), (1, .int x1), (2, .long x2), (4, .int x4)] [] I J := by
  refine s_iconst (v := 0) dX7_product_21 rfl ?_
  refine s_eqi f22 ?_
  refine s_istore [(5, .int v22), (0, .ref (ad 0)), (1, .int x1), (2, .long x2), (4, .int x4)] dX7_product_22 (Nat.lt_of_lt_of_le (Nat.lt_succ_self _) (Nat.le_of_ble_eq_true rfl)) rfl ?_
  refine s_pick [1, 2, 3, 4, 0] [(0, .ref (ad 0)), (1, .int x1), (2, .long x2), (4, .int x4), (5, .int v22)] rfl ?_; exact k
theorem bX7_product_24 {l : Launch} {D : va_G} {aI aL : ClassId} {ad : Nat → Nat} {P : sa_P} {I : sa_I} {J : sa_J} {x1 : Int32} {x2 : Int64} {x4 : Int32} {x5 : Int32}   (kt : I 0 1 ≤ x5 → Sat (ER l D aI aL ad) M_X7_product P 83 [(0, .ref (ad 0)), (1, .int x1), (2, .long x2), (4, .int x4)] [] I J) (kf : ¬ I 0 1 ≤ x5 → Sat (ER l D aI aL ad) M_X7_product P 33 [(0, .ref (ad 0)), (1, .int x1), (2, .long x2), (4, .int x4), (5, .int x5)] [] I J) : Sat (ER l D aI aL ad) M_X7_product P 24 [(0, .ref (ad 0)), (1, .int x1), (2, .long x2), (4, .int x4), (5, .int x5)] [] I J := by
  refine s_iload 4 dX7_product_24 rfl ?_
  refine s_aload_n 0 dX7_product_26 rfl ?_
  refine g_X7_101 dX7_product_27 rfl ?_
  refine s_icmp_ge (tgt := 83) dX7_product_30 (by decide) (fun c => ?_) (fun c => ?_)
  · refine s_pick [0, 1, 2, 3] [(0, .ref (ad 0)), (1, .int x1), (2, .long x2), (4, .int x4)] rfl ?_; exact kt c
  · exact kf c
theorem bX7_product_33 {l : Launch} {D : va_G} {aI aL : ClassId} {ad : Nat → Nat} {P : sa_P} {I : sa_I} {J : sa_J} {x1 : Int32} {x2 : Int64} {x4 : Int32} {x5 : Int32}   (kt : I 0 1 ≤ x1 → Sat (ER l D aI aL ad) M_X7_product P 83 [(0, .ref (ad 0)), (1, .int x1), (2, .long x2), (4, .int x4)] [] I J) (kf : ¬ I 0 1 ≤ x1 → Sat (ER l D aI aL ad) M_X7_product P 41 [(0, .ref (ad 0)), (1, .int x1), (2, .long x2), (4, .int x4), (5, .int x5)] [] I J) : Sat (ER l D aI aL ad) M_X7_product P 33 [(0, .ref (ad 0)), (1, .int x1), (2, .long x2), (4, .int x4), (5, .int x5)] [] I J := by
  refine s_iload_n 1 dX7_product_33 rfl ?_
  refine s_aload_n 0 dX7_product_34 rfl ?_
  refine g_X7_101 dX7_product_35 rfl ?_
  refine s_icmp_ge (tgt := 83) dX7_product_38 (by decide) (fun c => ?_) (fun c => ?_)
  · refine s_pick [0, 1, 2, 3] [(0, .ref (ad 0)), (1, .int x1), (2, .long x2), (4, .int x4)] rfl ?_; exact kt c
  · exact kf c
theorem bX7_product_41 {l : Launch} {D : va_G} {aI aL : ClassId} {ad : Nat → Nat} {P : sa_P} {I : sa_I} {J : sa_J} {x1 : Int32} {x2 : Int64} {x4 : Int32} {x5 : Int32} {j46 : Nat} {j53 : Nat} {j72 : Nat} {v76 : Int64} {v77 : Int32} (e46 : x4 = nI j46) (h48 : j46 < 3) (e53 : x5 = nI j53) (h55 : j53 < 3) (e72 : (((9 : Int32) * x4) + ((3 : Int32) * x5)) + x1 = nI j72) (h73 : j72 < 27) (f76 : x2 + (((J 10 j46) * (J 11 j53)) * (J 2 j72)) = v76) (f77 : x5 + 1 = v77) (k : Sat (ER l D aI aL ad) M_X7_product P 24 [(0, .ref (ad 0)), (1, .int x1), (2, .long v76), (4, .int x4), (5, .int v77)] [] I J) : Sat (ER l D aI aL ad) M_X7_product P 41 [(0, .ref (ad 0)), (1, .int x1), (2, .long x2), (4, .int x4), (5, .int x5)] [] I J := by
  refine s_lload_n 2 dX7_product_41 rfl ?_
  refine s_aload_n 0 dX7_product_42 rfl ?_
  refine g_X7_38 dX7_product_43 rfl ?_
  refine s_iload 3 dX7_product_46 rfl ?_
  refine s_eqi e46 ?_
  refine s_laloadN aJ_R10 h48 (by decide) dX7_product_48 ?_
  refine s_aload_n 0 dX7_product_49 rfl ?_
  refine g_X7_41 dX7_product_50 rfl ?_
  refine s_iload 4 dX7_product_53 rfl ?_
  refine s_eqi e53 ?_
  refine s_laloadN aJ_R11 h55 (by decide) dX7_product_55 ?_
  refine s_lmul dX7_product_56 ?_
  refine s_aload_n 0 dX7_product_57 rfl ?_
  refine g_X7_13 dX7_product_58 rfl ?_
  refine s_bipush (v := 9) dX7_product_61 rfl ?_
  refine s_iload 3 dX7_product_63 rfl ?_
  refine s_imul dX7_product_65 ?_
  refine s_iconst (v := 3) dX7_product_66 rfl ?_
  refine s_iload 4 dX7_product_67 rfl ?_
  refine s_imul dX7_product_69 ?_
  refine s_iadd dX7_product_70 ?_
  refine s_iload_n 1 dX7_product_71 rfl ?_
  refine s_iadd dX7_product_72 ?_
  refine s_eqi e72 ?_
  refine s_laloadN aJ_R2 h73 (by decide) dX7_product_73 ?_
  refine s_lmul dX7_product_74 ?_
  refine s_ladd dX7_product_75 ?_
  refine s_eql f76 ?_
  refine s_lstore_n [(2, .long v76), (0, .ref (ad 0)), (1, .int x1), (4, .int x4), (5, .int x5)] dX7_product_76 (Nat.lt_of_lt_of_le (Nat.lt_succ_self _) (Nat.le_of_ble_eq_true rfl)) rfl ?_
  refine s_iinc 4 v77 [(5, .int v77), (2, .long v76), (0, .ref (ad 0)), (1, .int x1), (4, .int x4)] dX7_product_77 rfl f77 (Nat.lt_of_lt_of_le (Nat.lt_succ_self _) (Nat.le_of_ble_eq_true rfl)) rfl ?_
  refine s_goto (tgt := 24) dX7_product_80 (by decide) ?_
  refine s_pick [2, 3, 1, 4, 0] [(0, .ref (ad 0)), (1, .int x1), (2, .long v76), (4, .int x4), (5, .int v77)] rfl ?_; exact k
theorem bX7_product_83 {l : Launch} {D : va_G} {aI aL : ClassId} {ad : Nat → Nat} {P : sa_P} {I : sa_I} {J : sa_J} {x1 : Int32} {x2 : Int64} {x4 : Int32} {v83 : Int32}  (f83 : x4 + 1 = v83) (k : Sat (ER l D aI aL ad) M_X7_product P 12 [(0, .ref (ad 0)), (1, .int x1), (2, .long x2), (4, .int v83)] [] I J) : Sat (ER l D aI aL ad) M_X7_product P 83 [(0, .ref (ad 0)), (1, .int x1), (2, .long x2), (4, .int x4)] [] I J := by
  refine s_iinc 3 v83 [(4, .int v83), (0, .ref (ad 0)), (1, .int x1), (2, .long x2)] dX7_product_83 rfl f83 (Nat.lt_of_lt_of_le (Nat.lt_succ_self _) (Nat.le_of_ble_eq_true rfl)) rfl ?_
  refine s_goto (tgt := 12) dX7_product_86 (by decide) ?_
  refine s_pick [1, 2, 3, 0] [(0, .ref (ad 0)), (1, .int x1), (2, .long x2), (4, .int v83)] rfl ?_; exact k
theorem bX7_product_89 {l : Launch} {D : va_G} {aI aL : ClassId} {ad : Nat → Nat} {P : sa_P} {I : sa_I} {J : sa_J} {x1 : Int32} {x2 : Int64} {j93 : Nat} {v96 : Int32} (e93 : x1 = nI j93) (h95 : j93 < 3) (f96 : x1 + 1 = v96) (k : Sat (ER l D aI aL ad) M_X7_product P 2 [(0, .ref (ad 0)), (1, .int v96)] [] I (sa_uJ J 12 j93 x2)) : Sat (ER l D aI aL ad) M_X7_product P 89 [(0, .ref (ad 0)), (1, .int x1), (2, .long x2)] [] I J := by
  refine s_aload_n 0 dX7_product_89 rfl ?_
  refine g_X7_44 dX7_product_90 rfl ?_
  refine s_iload_n 1 dX7_product_93 rfl ?_
  refine s_eqi e93 ?_
  refine s_lload_n 2 dX7_product_94 rfl ?_
  refine s_lastoreN aJ_R12 h95 (by decide) dX7_product_95 ?_
  refine s_iinc 1 v96 [(1, .int v96), (0, .ref (ad 0)), (2, .long x2)] dX7_product_96 rfl f96 (Nat.lt_of_lt_of_le (Nat.lt_succ_self _) (Nat.le_of_ble_eq_true rfl)) rfl ?_
  refine s_goto (tgt := 2) dX7_product_99 (by decide) ?_
  refine s_pick [1, 0] [(0, .ref (ad 0)), (1, .int v96)] rfl ?_; exact k
theorem bX7_product_102 {l : Launch} {D : va_G} {aI aL : ClassId} {ad : Nat → Nat} {P : sa_P} {I : sa_I} {J : sa_J}    (k : P (none) I J) : Sat (ER l D aI aL ad) M_X7_product P 102 [] [] I J := by
  exact s_vret rfl dX7_product_102 k
/-! X7_brings -/
theorem dX7_brings_0 : decode cX7_brings 0 = .ok (.iconst 0, 1) := by decide +kernel
theorem dX7_brings_1 : decode cX7_brings 1 = .ok (.istore_n 3, 1) := by decide +kernel
theorem dX7_brings_2 : decode cX7_brings 2 = .ok (.iload_n 3, 1) := by decide +kernel
theorem dX7_brings_3 : decode cX7_brings 3 = .ok (.iconst 3, 1) := by decide +kernel
theorem dX7_brings_4 : decode cX7_brings 4 = .ok (.if_icmp .ge 23, 3) := by decide +kernel
theorem dX7_brings_7 : decode cX7_brings 7 = .ok (.aload_n 2, 1) := by decide +kernel
theorem dX7_brings_8 : decode cX7_brings 8 = .ok (.iload_n 3, 1) := by decide +kernel
theorem dX7_brings_9 : decode cX7_brings 9 = .ok (.aload_n 0, 1) := by decide +kernel
theorem dX7_brings_10 : decode cX7_brings 10 = .ok (.getfield 17, 3) := by decide +kernel
theorem dX7_brings_13 : decode cX7_brings 13 = .ok (.iconst 3, 1) := by decide +kernel
theorem dX7_brings_14 : decode cX7_brings 14 = .ok (.iload_n 1, 1) := by decide +kernel
theorem dX7_brings_15 : decode cX7_brings 15 = .ok (.imul, 1) := by decide +kernel
theorem dX7_brings_16 : decode cX7_brings 16 = .ok (.iload_n 3, 1) := by decide +kernel
theorem dX7_brings_17 : decode cX7_brings 17 = .ok (.iadd, 1) := by decide +kernel
theorem dX7_brings_18 : decode cX7_brings 18 = .ok (.iaload, 1) := by decide +kernel
theorem dX7_brings_19 : decode cX7_brings 19 = .ok (.i2l, 1) := by decide +kernel
theorem dX7_brings_20 : decode cX7_brings 20 = .ok (.lastore, 1) := by decide +kernel
theorem dX7_brings_21 : decode cX7_brings 21 = .ok (.iinc 3 1, 3) := by decide +kernel
theorem dX7_brings_24 : decode cX7_brings 24 = .ok (.goto (-22), 3) := by decide +kernel
theorem dX7_brings_27 : decode cX7_brings 27 = .ok (.return_, 1) := by decide +kernel
theorem bX7_brings_0 {l : Launch} {D : va_G} {aI aL : ClassId} {ad : Nat → Nat} {P : sa_P} {I : sa_I} {J : sa_J} {x1 : Int32} {a2 q2 n2 : Nat} {v1 : Int32} (hq2 : sa_iJ (ER l D aI aL ad) a2 q2 n2) (hn2 : n2 < 2 ^ 31) (f1 : (0 : Int32) = v1) (k : Sat (ER l D aI aL ad) M_X7_brings P 2 [(0, .ref (ad 0)), (1, .int x1), (2, .ref a2), (3, .int v1)] [] I J) : Sat (ER l D aI aL ad) M_X7_brings P 0 [(0, .ref (ad 0)), (1, .int x1), (2, .ref a2)] [] I J := by
  refine s_iconst (v := 0) dX7_brings_0 rfl ?_
  refine s_eqi f1 ?_
  refine s_istore_n [(3, .int v1), (0, .ref (ad 0)), (1, .int x1), (2, .ref a2)] dX7_brings_1 (Nat.lt_of_lt_of_le (Nat.lt_succ_self _) (Nat.le_of_ble_eq_true rfl)) rfl ?_
  refine s_pick [1, 2, 3, 0] [(0, .ref (ad 0)), (1, .int x1), (2, .ref a2), (3, .int v1)] rfl ?_; exact k
theorem bX7_brings_2 {l : Launch} {D : va_G} {aI aL : ClassId} {ad : Nat → Nat} {P : sa_P} {I : sa_I} {J : sa_J} {x1 : Int32} {a2 q2 n2 : Nat} {x3 : Int32} (hq2 : sa_iJ (ER l D aI aL ad) a2 q2 n2) (hn2 : n2 < 2 ^ 31)  (kt : (3 : Int32) ≤ x3 → Sat (ER l D aI aL ad) M_X7_brings P 27 [] [] I J) (kf : ¬ (3 : Int32) ≤ x3 → Sat (ER l D aI aL ad) M_X7_brings P 7 [(0, .ref (ad 0)), (1, .int x1), (2, .ref a2), (3, .int x3)] [] I J) : Sat (ER l D aI aL ad) M_X7_brings P 2 [(0, .ref (ad 0)), (1, .int x1), (2, .ref a2), (3, .int x3)] [] I J := by
  refine s_iload_n 3 dX7_brings_2 rfl ?_
  refine s_iconst (v := 3) dX7_brings_3 rfl ?_
  refine s_icmp_ge (tgt := 27) dX7_brings_4 (by decide) (fun c => ?_) (fun c => ?_)
  · refine s_pick [] [] rfl ?_; exact kt c
  · exact kf c
theorem bX7_brings_7 {l : Launch} {D : va_G} {aI aL : ClassId} {ad : Nat → Nat} {P : sa_P} {I : sa_I} {J : sa_J} {x1 : Int32} {a2 q2 n2 : Nat} {x3 : Int32} {j8 : Nat} {j17 : Nat} {v20 : Int64} {v21 : Int32} (hq2 : sa_iJ (ER l D aI aL ad) a2 q2 n2) (hn2 : n2 < 2 ^ 31) (e8 : x3 = nI j8) (e17 : ((3 : Int32) * x1) + x3 = nI j17) (h18 : j17 < 300) (h20 : j8 < n2) (f20 : (I 3 j17).toInt64 = v20) (f21 : x3 + 1 = v21) (k : Sat (ER l D aI aL ad) M_X7_brings P 2 [(0, .ref (ad 0)), (1, .int x1), (2, .ref a2), (3, .int v21)] [] I (sa_uJ J q2 j8 v20)) : Sat (ER l D aI aL ad) M_X7_brings P 7 [(0, .ref (ad 0)), (1, .int x1), (2, .ref a2), (3, .int x3)] [] I J := by
  refine s_aload_n 2 dX7_brings_7 rfl ?_
  refine s_iload_n 3 dX7_brings_8 rfl ?_
  refine s_eqi e8 ?_
  refine s_aload_n 0 dX7_brings_9 rfl ?_
  refine g_X7_17 dX7_brings_10 rfl ?_
  refine s_iconst (v := 3) dX7_brings_13 rfl ?_
  refine s_iload_n 1 dX7_brings_14 rfl ?_
  refine s_imul dX7_brings_15 ?_
  refine s_iload_n 3 dX7_brings_16 rfl ?_
  refine s_iadd dX7_brings_17 ?_
  refine s_eqi e17 ?_
  refine s_ialoadN aI_R3 h18 (by decide) dX7_brings_18 ?_
  refine s_i2l dX7_brings_19 ?_
  refine s_eql f20 ?_
  refine s_lastoreN hq2 h20 hn2 dX7_brings_20 ?_
  refine s_iinc 3 v21 [(3, .int v21), (0, .ref (ad 0)), (1, .int x1), (2, .ref a2)] dX7_brings_21 rfl f21 (Nat.lt_of_lt_of_le (Nat.lt_succ_self _) (Nat.le_of_ble_eq_true rfl)) rfl ?_
  refine s_goto (tgt := 2) dX7_brings_24 (by decide) ?_
  refine s_pick [1, 2, 3, 0] [(0, .ref (ad 0)), (1, .int x1), (2, .ref a2), (3, .int v21)] rfl ?_; exact k
theorem bX7_brings_27 {l : Launch} {D : va_G} {aI aL : ClassId} {ad : Nat → Nat} {P : sa_P} {I : sa_I} {J : sa_J}    (k : P (none) I J) : Sat (ER l D aI aL ad) M_X7_brings P 27 [] [] I J := by
  exact s_vret rfl dX7_brings_27 k
/-! X7_acts -/
theorem dX7_acts_0 : decode cX7_acts 0 = .ok (.iconst 0, 1) := by decide +kernel
theorem dX7_acts_1 : decode cX7_acts 1 = .ok (.istore_n 2, 1) := by decide +kernel
theorem dX7_acts_2 : decode cX7_acts 2 = .ok (.iload_n 2, 1) := by decide +kernel
theorem dX7_acts_3 : decode cX7_acts 3 = .ok (.aload_n 0, 1) := by decide +kernel
theorem dX7_acts_4 : decode cX7_acts 4 = .ok (.getfield 101, 3) := by decide +kernel
theorem dX7_acts_7 : decode cX7_acts 7 = .ok (.if_icmp .ge 84, 3) := by decide +kernel
theorem dX7_acts_10 : decode cX7_acts 10 = .ok (.iconst 0, 1) := by decide +kernel
theorem dX7_acts_11 : decode cX7_acts 11 = .ok (.istore_n 3, 1) := by decide +kernel
theorem dX7_acts_12 : decode cX7_acts 12 = .ok (.iload_n 3, 1) := by decide +kernel
theorem dX7_acts_13 : decode cX7_acts 13 = .ok (.aload_n 0, 1) := by decide +kernel
theorem dX7_acts_14 : decode cX7_acts 14 = .ok (.getfield 101, 3) := by decide +kernel
theorem dX7_acts_17 : decode cX7_acts 17 = .ok (.if_icmp .ge 68, 3) := by decide +kernel
theorem dX7_acts_20 : decode cX7_acts 20 = .ok (.lconst 0, 1) := by decide +kernel
theorem dX7_acts_21 : decode cX7_acts 21 = .ok (.lstore 4, 2) := by decide +kernel
theorem dX7_acts_23 : decode cX7_acts 23 = .ok (.iconst 0, 1) := by decide +kernel
theorem dX7_acts_24 : decode cX7_acts 24 = .ok (.istore 6, 2) := by decide +kernel
theorem dX7_acts_26 : decode cX7_acts 26 = .ok (.iload 6, 2) := by decide +kernel
theorem dX7_acts_28 : decode cX7_acts 28 = .ok (.aload_n 0, 1) := by decide +kernel
theorem dX7_acts_29 : decode cX7_acts 29 = .ok (.getfield 101, 3) := by decide +kernel
theorem dX7_acts_32 : decode cX7_acts 32 = .ok (.if_icmp .ge 35, 3) := by decide +kernel
theorem dX7_acts_35 : decode cX7_acts 35 = .ok (.lload 4, 2) := by decide +kernel
theorem dX7_acts_37 : decode cX7_acts 37 = .ok (.aload_n 1, 1) := by decide +kernel
theorem dX7_acts_38 : decode cX7_acts 38 = .ok (.iload 6, 2) := by decide +kernel
theorem dX7_acts_40 : decode cX7_acts 40 = .ok (.laload, 1) := by decide +kernel
theorem dX7_acts_41 : decode cX7_acts 41 = .ok (.aload_n 0, 1) := by decide +kernel
theorem dX7_acts_42 : decode cX7_acts 42 = .ok (.getfield 13, 3) := by decide +kernel
theorem dX7_acts_45 : decode cX7_acts 45 = .ok (.bipush 9, 2) := by decide +kernel
theorem dX7_acts_47 : decode cX7_acts 47 = .ok (.iload 6, 2) := by decide +kernel
theorem dX7_acts_49 : decode cX7_acts 49 = .ok (.imul, 1) := by decide +kernel
theorem dX7_acts_50 : decode cX7_acts 50 = .ok (.iconst 3, 1) := by decide +kernel
theorem dX7_acts_51 : decode cX7_acts 51 = .ok (.iload_n 2, 1) := by decide +kernel
theorem dX7_acts_52 : decode cX7_acts 52 = .ok (.imul, 1) := by decide +kernel
theorem dX7_acts_53 : decode cX7_acts 53 = .ok (.iadd, 1) := by decide +kernel
theorem dX7_acts_54 : decode cX7_acts 54 = .ok (.iload_n 3, 1) := by decide +kernel
theorem dX7_acts_55 : decode cX7_acts 55 = .ok (.iadd, 1) := by decide +kernel
theorem dX7_acts_56 : decode cX7_acts 56 = .ok (.laload, 1) := by decide +kernel
theorem dX7_acts_57 : decode cX7_acts 57 = .ok (.lmul, 1) := by decide +kernel
theorem dX7_acts_58 : decode cX7_acts 58 = .ok (.ladd, 1) := by decide +kernel
theorem dX7_acts_59 : decode cX7_acts 59 = .ok (.lstore 4, 2) := by decide +kernel
theorem dX7_acts_61 : decode cX7_acts 61 = .ok (.iinc 6 1, 3) := by decide +kernel
theorem dX7_acts_64 : decode cX7_acts 64 = .ok (.goto (-38), 3) := by decide +kernel
theorem dX7_acts_67 : decode cX7_acts 67 = .ok (.aload_n 0, 1) := by decide +kernel
theorem dX7_acts_68 : decode cX7_acts 68 = .ok (.getfield 35, 3) := by decide +kernel
theorem dX7_acts_71 : decode cX7_acts 71 = .ok (.iconst 3, 1) := by decide +kernel
theorem dX7_acts_72 : decode cX7_acts 72 = .ok (.iload_n 2, 1) := by decide +kernel
theorem dX7_acts_73 : decode cX7_acts 73 = .ok (.imul, 1) := by decide +kernel
theorem dX7_acts_74 : decode cX7_acts 74 = .ok (.iload_n 3, 1) := by decide +kernel
theorem dX7_acts_75 : decode cX7_acts 75 = .ok (.iadd, 1) := by decide +kernel
theorem dX7_acts_76 : decode cX7_acts 76 = .ok (.lload 4, 2) := by decide +kernel
theorem dX7_acts_78 : decode cX7_acts 78 = .ok (.lastore, 1) := by decide +kernel
theorem dX7_acts_79 : decode cX7_acts 79 = .ok (.iinc 3 1, 3) := by decide +kernel
theorem dX7_acts_82 : decode cX7_acts 82 = .ok (.goto (-70), 3) := by decide +kernel
theorem dX7_acts_85 : decode cX7_acts 85 = .ok (.iinc 2 1, 3) := by decide +kernel
theorem dX7_acts_88 : decode cX7_acts 88 = .ok (.goto (-86), 3) := by decide +kernel
theorem dX7_acts_91 : decode cX7_acts 91 = .ok (.return_, 1) := by decide +kernel
theorem bX7_acts_0 {l : Launch} {D : va_G} {aI aL : ClassId} {ad : Nat → Nat} {P : sa_P} {I : sa_I} {J : sa_J} {a1 q1 n1 : Nat} {v1 : Int32} (hq1 : sa_iJ (ER l D aI aL ad) a1 q1 n1) (hn1 : n1 < 2 ^ 31) (f1 : (0 : Int32) = v1) (k : Sat (ER l D aI aL ad) M_X7_acts P 2 [(0, .ref (ad 0)), (1, .ref a1), (2, .int v1)] [] I J) : Sat (ER l D aI aL ad) M_X7_acts P 0 [(0, .ref (ad 0)), (1, .ref a1)] [] I J := by
  refine s_iconst (v := 0) dX7_acts_0 rfl ?_
  refine s_eqi f1 ?_
  refine s_istore_n [(2, .int v1), (0, .ref (ad 0)), (1, .ref a1)] dX7_acts_1 (Nat.lt_of_lt_of_le (Nat.lt_succ_self _) (Nat.le_of_ble_eq_true rfl)) rfl ?_
  refine s_pick [1, 2, 0] [(0, .ref (ad 0)), (1, .ref a1), (2, .int v1)] rfl ?_; exact k
theorem bX7_acts_2 {l : Launch} {D : va_G} {aI aL : ClassId} {ad : Nat → Nat} {P : sa_P} {I : sa_I} {J : sa_J} {a1 q1 n1 : Nat} {x2 : Int32} (hq1 : sa_iJ (ER l D aI aL ad) a1 q1 n1) (hn1 : n1 < 2 ^ 31)  (kt : I 0 1 ≤ x2 → Sat (ER l D aI aL ad) M_X7_acts P 91 [] [] I J) (kf : ¬ I 0 1 ≤ x2 → Sat (ER l D aI aL ad) M_X7_acts P 10 [(0, .ref (ad 0)), (1, .ref a1), (2, .int x2)] [] I J) : Sat (ER l D aI aL ad) M_X7_acts P 2 [(0, .ref (ad 0)), (1, .ref a1), (2, .int x2)] [] I J := by
  refine s_iload_n 2 dX7_acts_2 rfl ?_
  refine s_aload_n 0 dX7_acts_3 rfl ?_
  refine g_X7_101 dX7_acts_4 rfl ?_
  refine s_icmp_ge (tgt := 91) dX7_acts_7 (by decide) (fun c => ?_) (fun c => ?_)
  · refine s_pick [] [] rfl ?_; exact kt c
  · exact kf c
theorem bX7_acts_10 {l : Launch} {D : va_G} {aI aL : ClassId} {ad : Nat → Nat} {P : sa_P} {I : sa_I} {J : sa_J} {a1 q1 n1 : Nat} {x2 : Int32} {v11 : Int32} (hq1 : sa_iJ (ER l D aI aL ad) a1 q1 n1) (hn1 : n1 < 2 ^ 31) (f11 : (0 : Int32) = v11) (k : Sat (ER l D aI aL ad) M_X7_acts P 12 [(0, .ref (ad 0)), (1, .ref a1), (2, .int x2), (3, .int v11)] [] I J) : Sat (ER l D aI aL ad) M_X7_acts P 10 [(0, .ref (ad 0)), (1, .ref a1), (2, .int x2)] [] I J := by
  refine s_iconst (v := 0) dX7_acts_10 rfl ?_
  refine s_eqi f11 ?_
  refine s_istore_n [(3, .int v11), (0, .ref (ad 0)), (1, .ref a1), (2, .int x2)] dX7_acts_11 (Nat.lt_of_lt_of_le (Nat.lt_succ_self _) (Nat.le_of_ble_eq_true rfl)) rfl ?_
  refine s_pick [1, 2, 3, 0] [(0, .ref (ad 0)), (1, .ref a1), (2, .int x2), (3, .int v11)] rfl ?_; exact k
theorem bX7_acts_12 {l : Launch} {D : va_G} {aI aL : ClassId} {ad : Nat → Nat} {P : sa_P} {I : sa_I} {J : sa_J} {a1 q1 n1 : Nat} {x2 : Int32} {x3 : Int32} (hq1 : sa_iJ (ER l D aI aL ad) a1 q1 n1) (hn1 : n1 < 2 ^ 31)  (kt : I 0 1 ≤ x3 → Sat (ER l D aI aL ad) M_X7_acts P 85 [(0, .ref (ad 0)), (1, .ref a1), (2, .int x2)] [] I J) (kf : ¬ I 0 1 ≤ x3 → Sat (ER l D aI aL ad) M_X7_acts P 20 [(0, .ref (ad 0)), (1, .ref a1), (2, .int x2), (3, .int x3)] [] I J) : Sat (ER l D aI aL ad) M_X7_acts P 12 [(0, .ref (ad 0)), (1, .ref a1), (2, .int x2), (3, .int x3)] [] I J := by
  refine s_iload_n 3 dX7_acts_12 rfl ?_
  refine s_aload_n 0 dX7_acts_13 rfl ?_
  refine g_X7_101 dX7_acts_14 rfl ?_
  refine s_icmp_ge (tgt := 85) dX7_acts_17 (by decide) (fun c => ?_) (fun c => ?_)
  · refine s_pick [0, 1, 2] [(0, .ref (ad 0)), (1, .ref a1), (2, .int x2)] rfl ?_; exact kt c
  · exact kf c
theorem bX7_acts_20 {l : Launch} {D : va_G} {aI aL : ClassId} {ad : Nat → Nat} {P : sa_P} {I : sa_I} {J : sa_J} {a1 q1 n1 : Nat} {x2 : Int32} {x3 : Int32} {v21 : Int64} {v24 : Int32} (hq1 : sa_iJ (ER l D aI aL ad) a1 q1 n1) (hn1 : n1 < 2 ^ 31) (f21 : (0 : Int64) = v21) (f24 : (0 : Int32) = v24) (k : Sat (ER l D aI aL ad) M_X7_acts P 26 [(0, .ref (ad 0)), (1, .ref a1), (2, .int x2), (3, .int x3), (4, .long v21), (6, .int v24)] [] I J) : Sat (ER l D aI aL ad) M_X7_acts P 20 [(0, .ref (ad 0)), (1, .ref a1), (2, .int x2), (3, .int x3)] [] I J := by
  refine s_lconst (v := 0) dX7_acts_20 rfl ?_
  refine s_eql f21 ?_
  refine s_lstore [(4, .long v21), (0, .ref (ad 0)), (1, .ref a1), (2, .int x2), (3, .int x3)] dX7_acts_21 (Nat.lt_of_lt_of_le (Nat.lt_succ_self _) (Nat.le_of_ble_eq_true rfl)) rfl ?_
  refine s_iconst (v := 0) dX7_acts_23 rfl ?_
  refine s_eqi f24 ?_
  refine s_istore [(6, .int v24), (4, .long v21), (0, .ref (ad 0)), (1, .ref a1), (2, .int x2), (3, .int x3)] dX7_acts_24 (Nat.lt_of_lt_of_le (Nat.lt_succ_self _) (Nat.le_of_ble_eq_true rfl)) rfl ?_
  refine s_pick [2, 3, 4, 5, 1, 0] [(0, .ref (ad 0)), (1, .ref a1), (2, .int x2), (3, .int x3), (4, .long v21), (6, .int v24)] rfl ?_; exact k
theorem bX7_acts_26 {l : Launch} {D : va_G} {aI aL : ClassId} {ad : Nat → Nat} {P : sa_P} {I : sa_I} {J : sa_J} {a1 q1 n1 : Nat} {x2 : Int32} {x3 : Int32} {x4 : Int64} {x6 : Int32} (hq1 : sa_iJ (ER l D aI aL ad) a1 q1 n1) (hn1 : n1 < 2 ^ 31)  (kt : I 0 1 ≤ x6 → Sat (ER l D aI aL ad) M_X7_acts P 67 [(0, .ref (ad 0)), (1, .ref a1), (2, .int x2), (3, .int x3), (4, .long x4)] [] I J) (kf : ¬ I 0 1 ≤ x6 → Sat (ER l D aI aL ad) M_X7_acts P 35 [(0, .ref (ad 0)), (1, .ref a1), (2, .int x2), (3, .int x3), (4, .long x4), (6, .int x6)] [] I J) : Sat (ER l D aI aL ad) M_X7_acts P 26 [(0, .ref (ad 0)), (1, .ref a1), (2, .int x2), (3, .int x3), (4, .long x4), (6, .int x6)] [] I J := by
  refine s_iload 5 dX7_acts_26 rfl ?_
  refine s_aload_n 0 dX7_acts_28 rfl ?_
  refine g_X7_101 dX7_acts_29 rfl ?_
  refine s_icmp_ge (tgt := 67) dX7_acts_32 (by decide) (fun c => ?_) (fun c => ?_)
  · refine s_pick [0, 1, 2, 3, 4] [(0, .ref (ad 0)), (1, .ref a1), (2, .int x2), (3, .int x3), (4, .long x4)] rfl ?_; exact kt c
  · exact kf c
theorem bX7_acts_35 {l : Launch} {D : va_G} {aI aL : ClassId} {ad : Nat → Nat} {P : sa_P} {I : sa_I} {J : sa_J} {a1 q1 n1 : Nat} {x2 : Int32} {x3 : Int32} {x4 : Int64} {x6 : Int32} {j38 : Nat} {j55 : Nat} {v59 : Int64} {v61 : Int32} (hq1 : sa_iJ (ER l D aI aL ad) a1 q1 n1) (hn1 : n1 < 2 ^ 31) (e38 : x6 = nI j38) (h40 : j38 < n1) (e55 : (((9 : Int32) * x6) + ((3 : Int32) * x2)) + x3 = nI j55) (h56 : j55 < 27) (f59 : x4 + ((J q1 j38) * (J 2 j55)) = v59) (f61 : x6 + 1 = v61) (k : Sat (ER l D aI aL ad) M_X7_acts P 26 [(0, .ref (ad 0)), (1, .ref a1), (2, .int x2), (3, .int x3), (4, .long v59), (6, .int v61)] [] I J) : Sat (ER l D aI aL ad) M_X7_acts P 35 [(0, .ref (ad 0)), (1, .ref a1), (2, .int x2), (3, .int x3), (4, .long x4), (6, .int x6)] [] I J := by
  refine s_lload 4 dX7_acts_35 rfl ?_
  refine s_aload_n 1 dX7_acts_37 rfl ?_
  refine s_iload 5 dX7_acts_38 rfl ?_
  refine s_eqi e38 ?_
  refine s_laloadN hq1 h40 hn1 dX7_acts_40 ?_
  refine s_aload_n 0 dX7_acts_41 rfl ?_
  refine g_X7_13 dX7_acts_42 rfl ?_
  refine s_bipush (v := 9) dX7_acts_45 rfl ?_
  refine s_iload 5 dX7_acts_47 rfl ?_
  refine s_imul dX7_acts_49 ?_
  refine s_iconst (v := 3) dX7_acts_50 rfl ?_
  refine s_iload_n 2 dX7_acts_51 rfl ?_
  refine s_imul dX7_acts_52 ?_
  refine s_iadd dX7_acts_53 ?_
  refine s_iload_n 3 dX7_acts_54 rfl ?_
  refine s_iadd dX7_acts_55 ?_
  refine s_eqi e55 ?_
  refine s_laloadN aJ_R2 h56 (by decide) dX7_acts_56 ?_
  refine s_lmul dX7_acts_57 ?_
  refine s_ladd dX7_acts_58 ?_
  refine s_eql f59 ?_
  refine s_lstore [(4, .long v59), (0, .ref (ad 0)), (1, .ref a1), (2, .int x2), (3, .int x3), (6, .int x6)] dX7_acts_59 (Nat.lt_of_lt_of_le (Nat.lt_succ_self _) (Nat.le_of_ble_eq_true rfl)) rfl ?_
  refine s_iinc 5 v61 [(6, .int v61), (4, .long v59), (0, .ref (ad 0)), (1, .ref a1), (2, .int x2), (3, .int x3)] dX7_acts_61 rfl f61 (Nat.lt_of_lt_of_le (Nat.lt_succ_self _) (Nat.le_of_ble_eq_true rfl)) rfl ?_
  refine s_goto (tgt := 26) dX7_acts_64 (by decide) ?_
  refine s_pick [2, 3, 4, 5, 1, 0] [(0, .ref (ad 0)), (1, .ref a1), (2, .int x2), (3, .int x3), (4, .long v59), (6, .int v61)] rfl ?_; exact k
theorem bX7_acts_67 {l : Launch} {D : va_G} {aI aL : ClassId} {ad : Nat → Nat} {P : sa_P} {I : sa_I} {J : sa_J} {a1 q1 n1 : Nat} {x2 : Int32} {x3 : Int32} {x4 : Int64} {j75 : Nat} {v79 : Int32} (hq1 : sa_iJ (ER l D aI aL ad) a1 q1 n1) (hn1 : n1 < 2 ^ 31) (e75 : ((3 : Int32) * x2) + x3 = nI j75) (h78 : j75 < 9) (f79 : x3 + 1 = v79) (k : Sat (ER l D aI aL ad) M_X7_acts P 12 [(0, .ref (ad 0)), (1, .ref a1), (2, .int x2), (3, .int v79)] [] I (sa_uJ J 9 j75 x4)) : Sat (ER l D aI aL ad) M_X7_acts P 67 [(0, .ref (ad 0)), (1, .ref a1), (2, .int x2), (3, .int x3), (4, .long x4)] [] I J := by
  refine s_aload_n 0 dX7_acts_67 rfl ?_
  refine g_X7_35 dX7_acts_68 rfl ?_
  refine s_iconst (v := 3) dX7_acts_71 rfl ?_
  refine s_iload_n 2 dX7_acts_72 rfl ?_
  refine s_imul dX7_acts_73 ?_
  refine s_iload_n 3 dX7_acts_74 rfl ?_
  refine s_iadd dX7_acts_75 ?_
  refine s_eqi e75 ?_
  refine s_lload 4 dX7_acts_76 rfl ?_
  refine s_lastoreN aJ_R9 h78 (by decide) dX7_acts_78 ?_
  refine s_iinc 3 v79 [(3, .int v79), (0, .ref (ad 0)), (1, .ref a1), (2, .int x2), (4, .long x4)] dX7_acts_79 rfl f79 (Nat.lt_of_lt_of_le (Nat.lt_succ_self _) (Nat.le_of_ble_eq_true rfl)) rfl ?_
  refine s_goto (tgt := 12) dX7_acts_82 (by decide) ?_
  refine s_pick [1, 2, 3, 0] [(0, .ref (ad 0)), (1, .ref a1), (2, .int x2), (3, .int v79)] rfl ?_; exact k
theorem bX7_acts_85 {l : Launch} {D : va_G} {aI aL : ClassId} {ad : Nat → Nat} {P : sa_P} {I : sa_I} {J : sa_J} {a1 q1 n1 : Nat} {x2 : Int32} {v85 : Int32} (hq1 : sa_iJ (ER l D aI aL ad) a1 q1 n1) (hn1 : n1 < 2 ^ 31) (f85 : x2 + 1 = v85) (k : Sat (ER l D aI aL ad) M_X7_acts P 2 [(0, .ref (ad 0)), (1, .ref a1), (2, .int v85)] [] I J) : Sat (ER l D aI aL ad) M_X7_acts P 85 [(0, .ref (ad 0)), (1, .ref a1), (2, .int x2)] [] I J := by
  refine s_iinc 2 v85 [(2, .int v85), (0, .ref (ad 0)), (1, .ref a1)] dX7_acts_85 rfl f85 (Nat.lt_of_lt_of_le (Nat.lt_succ_self _) (Nat.le_of_ble_eq_true rfl)) rfl ?_
  refine s_goto (tgt := 2) dX7_acts_88 (by decide) ?_
  refine s_pick [1, 2, 0] [(0, .ref (ad 0)), (1, .ref a1), (2, .int v85)] rfl ?_; exact k
theorem bX7_acts_91 {l : Launch} {D : va_G} {aI aL : ClassId} {ad : Nat → Nat} {P : sa_P} {I : sa_I} {J : sa_J}    (k : P (none) I J) : Sat (ER l D aI aL ad) M_X7_acts P 91 [] [] I J := by
  exact s_vret rfl dX7_acts_91 k
/-! X7_isElement -/
theorem dX7_isElement_0 : decode cX7_isElement 0 = .ok (.iload_n 1, 1) := by decide +kernel
theorem dX7_isElement_1 : decode cX7_isElement 1 = .ok (.aload_n 0, 1) := by decide +kernel
theorem dX7_isElement_2 : decode cX7_isElement 2 = .ok (.getfield 163, 3) := by decide +kernel
theorem dX7_isElement_5 : decode cX7_isElement 5 = .ok (.invokestatic 210, 3) := by decide +kernel
theorem dX7_isElement_8 : decode cX7_isElement 8 = .ok (.ireturn, 1) := by decide +kernel
theorem bX7_isElement_0 {l : Launch} {D : va_G} {aI aL : ClassId} {ad : Nat → Nat} {P : sa_P} {I : sa_I} {J : sa_J} {x1 : Int32}   (k : Sat (ER l D aI aL ad) M_X7_isElement P 5 [] [.int (I 0 13), .int x1] I J) : Sat (ER l D aI aL ad) M_X7_isElement P 0 [(0, .ref (ad 0)), (1, .int x1)] [] I J := by
  refine s_iload_n 1 dX7_isElement_0 rfl ?_
  refine s_aload_n 0 dX7_isElement_1 rfl ?_
  refine g_X7_163 dX7_isElement_2 rfl ?_
  refine s_pick [] [] rfl ?_; exact k
theorem bX7_isElement_8 {l : Launch} {D : va_G} {aI aL : ClassId} {ad : Nat → Nat} {P : sa_P} {I : sa_I} {J : sa_J} {s0 : Int32} (hz : narrow .boolean (.int s0) = .int s0)  (k : P (some (.int s0)) I J) : Sat (ER l D aI aL ad) M_X7_isElement P 8 [] [.int s0] I J := by
  exact s_zret hz rfl dX7_isElement_8 k
/-! X7_adds -/
theorem dX7_adds_0 : decode cX7_adds 0 = .ok (.lload_n 1, 1) := by decide +kernel
theorem dX7_adds_1 : decode cX7_adds 1 = .ok (.ldc2_w 217, 3) := by decide +kernel
theorem dX7_adds_4 : decode cX7_adds 4 = .ok (.lcmp, 1) := by decide +kernel
theorem dX7_adds_5 : decode cX7_adds 5 = .ok (.ifCond .lt 20, 3) := by decide +kernel
theorem dX7_adds_8 : decode cX7_adds 8 = .ok (.lload_n 3, 1) := by decide +kernel
theorem dX7_adds_9 : decode cX7_adds 9 = .ok (.ldc2_w 217, 3) := by decide +kernel
theorem dX7_adds_12 : decode cX7_adds 12 = .ok (.lcmp, 1) := by decide +kernel
theorem dX7_adds_13 : decode cX7_adds 13 = .ok (.ifCond .lt 12, 3) := by decide +kernel
theorem dX7_adds_16 : decode cX7_adds 16 = .ok (.lload 5, 2) := by decide +kernel
theorem dX7_adds_18 : decode cX7_adds 18 = .ok (.ldc2_w 217, 3) := by decide +kernel
theorem dX7_adds_21 : decode cX7_adds 21 = .ok (.lcmp, 1) := by decide +kernel
theorem dX7_adds_22 : decode cX7_adds 22 = .ok (.ifCond .ge 10, 3) := by decide +kernel
theorem dX7_adds_25 : decode cX7_adds 25 = .ok (.aload_n 0, 1) := by decide +kernel
theorem dX7_adds_26 : decode cX7_adds 26 = .ok (.bipush (-4), 2) := by decide +kernel
theorem dX7_adds_28 : decode cX7_adds 28 = .ok (.invokevirtual 84, 3) := by decide +kernel
theorem dX7_adds_31 : decode cX7_adds 31 = .ok (.ireturn, 1) := by decide +kernel
theorem dX7_adds_32 : decode cX7_adds 32 = .ok (.lload_n 1, 1) := by decide +kernel
theorem dX7_adds_33 : decode cX7_adds 33 = .ok (.ldc2_w 219, 3) := by decide +kernel
theorem dX7_adds_36 : decode cX7_adds 36 = .ok (.lcmp, 1) := by decide +kernel
theorem dX7_adds_37 : decode cX7_adds 37 = .ok (.ifCond .gt 29, 3) := by decide +kernel
theorem dX7_adds_40 : decode cX7_adds 40 = .ok (.lload_n 3, 1) := by decide +kernel
theorem dX7_adds_41 : decode cX7_adds 41 = .ok (.ldc2_w 219, 3) := by decide +kernel
theorem dX7_adds_44 : decode cX7_adds 44 = .ok (.lcmp, 1) := by decide +kernel
theorem dX7_adds_45 : decode cX7_adds 45 = .ok (.ifCond .gt 21, 3) := by decide +kernel
theorem dX7_adds_48 : decode cX7_adds 48 = .ok (.lload 5, 2) := by decide +kernel
theorem dX7_adds_50 : decode cX7_adds 50 = .ok (.ldc2_w 219, 3) := by decide +kernel
theorem dX7_adds_53 : decode cX7_adds 53 = .ok (.lcmp, 1) := by decide +kernel
theorem dX7_adds_54 : decode cX7_adds 54 = .ok (.ifCond .gt 12, 3) := by decide +kernel
theorem dX7_adds_57 : decode cX7_adds 57 = .ok (.aload_n 0, 1) := by decide +kernel
theorem dX7_adds_58 : decode cX7_adds 58 = .ok (.getfield 163, 3) := by decide +kernel
theorem dX7_adds_61 : decode cX7_adds 61 = .ok (.bipush 100, 2) := by decide +kernel
theorem dX7_adds_63 : decode cX7_adds 63 = .ok (.if_icmp .ne 10, 3) := by decide +kernel
theorem dX7_adds_66 : decode cX7_adds 66 = .ok (.aload_n 0, 1) := by decide +kernel
theorem dX7_adds_67 : decode cX7_adds 67 = .ok (.bipush (-6), 2) := by decide +kernel
theorem dX7_adds_69 : decode cX7_adds 69 = .ok (.invokevirtual 84, 3) := by decide +kernel
theorem dX7_adds_72 : decode cX7_adds 72 = .ok (.ireturn, 1) := by decide +kernel
theorem dX7_adds_73 : decode cX7_adds 73 = .ok (.aload_n 0, 1) := by decide +kernel
theorem dX7_adds_74 : decode cX7_adds 74 = .ok (.getfield 17, 3) := by decide +kernel
theorem dX7_adds_77 : decode cX7_adds 77 = .ok (.iconst 3, 1) := by decide +kernel
theorem dX7_adds_78 : decode cX7_adds 78 = .ok (.aload_n 0, 1) := by decide +kernel
theorem dX7_adds_79 : decode cX7_adds 79 = .ok (.getfield 163, 3) := by decide +kernel
theorem dX7_adds_82 : decode cX7_adds 82 = .ok (.imul, 1) := by decide +kernel
theorem dX7_adds_83 : decode cX7_adds 83 = .ok (.lload_n 1, 1) := by decide +kernel
theorem dX7_adds_84 : decode cX7_adds 84 = .ok (.l2i, 1) := by decide +kernel
theorem dX7_adds_85 : decode cX7_adds 85 = .ok (.iastore, 1) := by decide +kernel
theorem dX7_adds_86 : decode cX7_adds 86 = .ok (.aload_n 0, 1) := by decide +kernel
theorem dX7_adds_87 : decode cX7_adds 87 = .ok (.getfield 17, 3) := by decide +kernel
theorem dX7_adds_90 : decode cX7_adds 90 = .ok (.iconst 3, 1) := by decide +kernel
theorem dX7_adds_91 : decode cX7_adds 91 = .ok (.aload_n 0, 1) := by decide +kernel
theorem dX7_adds_92 : decode cX7_adds 92 = .ok (.getfield 163, 3) := by decide +kernel
theorem dX7_adds_95 : decode cX7_adds 95 = .ok (.imul, 1) := by decide +kernel
theorem dX7_adds_96 : decode cX7_adds 96 = .ok (.iconst 1, 1) := by decide +kernel
theorem dX7_adds_97 : decode cX7_adds 97 = .ok (.iadd, 1) := by decide +kernel
theorem dX7_adds_98 : decode cX7_adds 98 = .ok (.lload_n 3, 1) := by decide +kernel
theorem dX7_adds_99 : decode cX7_adds 99 = .ok (.l2i, 1) := by decide +kernel
theorem dX7_adds_100 : decode cX7_adds 100 = .ok (.iastore, 1) := by decide +kernel
theorem dX7_adds_101 : decode cX7_adds 101 = .ok (.aload_n 0, 1) := by decide +kernel
theorem dX7_adds_102 : decode cX7_adds 102 = .ok (.getfield 17, 3) := by decide +kernel
theorem dX7_adds_105 : decode cX7_adds 105 = .ok (.iconst 3, 1) := by decide +kernel
theorem dX7_adds_106 : decode cX7_adds 106 = .ok (.aload_n 0, 1) := by decide +kernel
theorem dX7_adds_107 : decode cX7_adds 107 = .ok (.getfield 163, 3) := by decide +kernel
theorem dX7_adds_110 : decode cX7_adds 110 = .ok (.imul, 1) := by decide +kernel
theorem dX7_adds_111 : decode cX7_adds 111 = .ok (.iconst 2, 1) := by decide +kernel
theorem dX7_adds_112 : decode cX7_adds 112 = .ok (.iadd, 1) := by decide +kernel
theorem dX7_adds_113 : decode cX7_adds 113 = .ok (.lload 5, 2) := by decide +kernel
theorem dX7_adds_115 : decode cX7_adds 115 = .ok (.l2i, 1) := by decide +kernel
theorem dX7_adds_116 : decode cX7_adds 116 = .ok (.iastore, 1) := by decide +kernel
theorem dX7_adds_117 : decode cX7_adds 117 = .ok (.aload_n 0, 1) := by decide +kernel
theorem dX7_adds_118 : decode cX7_adds 118 = .ok (.dup, 1) := by decide +kernel
theorem dX7_adds_119 : decode cX7_adds 119 = .ok (.getfield 163, 3) := by decide +kernel
theorem dX7_adds_122 : decode cX7_adds 122 = .ok (.iconst 1, 1) := by decide +kernel
theorem dX7_adds_123 : decode cX7_adds 123 = .ok (.iadd, 1) := by decide +kernel
theorem dX7_adds_124 : decode cX7_adds 124 = .ok (.putfield 163, 3) := by decide +kernel
theorem dX7_adds_127 : decode cX7_adds 127 = .ok (.aload_n 0, 1) := by decide +kernel
theorem dX7_adds_128 : decode cX7_adds 128 = .ok (.getfield 163, 3) := by decide +kernel
theorem dX7_adds_131 : decode cX7_adds 131 = .ok (.iconst 1, 1) := by decide +kernel
theorem dX7_adds_132 : decode cX7_adds 132 = .ok (.isub, 1) := by decide +kernel
theorem dX7_adds_133 : decode cX7_adds 133 = .ok (.ireturn, 1) := by decide +kernel
theorem bX7_adds_0 {l : Launch} {D : va_G} {aI aL : ClassId} {ad : Nat → Nat} {P : sa_P} {I : sa_I} {J : sa_J} {x1 : Int64} {x3 : Int64} {x5 : Int64}   (kt : x1 < (-300 : Int64) → Sat (ER l D aI aL ad) M_X7_adds P 25 [(0, .ref (ad 0))] [] I J) (kf : ¬ x1 < (-300 : Int64) → Sat (ER l D aI aL ad) M_X7_adds P 8 [(0, .ref (ad 0)), (1, .long x1), (3, .long x3), (5, .long x5)] [] I J) : Sat (ER l D aI aL ad) M_X7_adds P 0 [(0, .ref (ad 0)), (1, .long x1), (3, .long x3), (5, .long x5)] [] I J := by
  refine s_lload_n 1 dX7_adds_0 rfl ?_
  refine s_ldc2 wk_X7_217 dX7_adds_1 ?_
  refine s_lif_lt (tgt := 25) dX7_adds_4 dX7_adds_5 (by decide) (fun c => ?_) (fun c => ?_)
  · refine s_pick [0] [(0, .ref (ad 0))] rfl ?_; exact kt c
  · exact kf c
theorem bX7_adds_8 {l : Launch} {D : va_G} {aI aL : ClassId} {ad : Nat → Nat} {P : sa_P} {I : sa_I} {J : sa_J} {x1 : Int64} {x3 : Int64} {x5 : Int64}   (kt : x3 < (-300 : Int64) → Sat (ER l D aI aL ad) M_X7_adds P 25 [(0, .ref (ad 0))] [] I J) (kf : ¬ x3 < (-300 : Int64) → Sat (ER l D aI aL ad) M_X7_adds P 16 [(0, .ref (ad 0)), (1, .long x1), (3, .long x3), (5, .long x5)] [] I J) : Sat (ER l D aI aL ad) M_X7_adds P 8 [(0, .ref (ad 0)), (1, .long x1), (3, .long x3), (5, .long x5)] [] I J := by
  refine s_lload_n 2 dX7_adds_8 rfl ?_
  refine s_ldc2 wk_X7_217 dX7_adds_9 ?_
  refine s_lif_lt (tgt := 25) dX7_adds_12 dX7_adds_13 (by decide) (fun c => ?_) (fun c => ?_)
  · refine s_pick [0] [(0, .ref (ad 0))] rfl ?_; exact kt c
  · exact kf c
theorem bX7_adds_16 {l : Launch} {D : va_G} {aI aL : ClassId} {ad : Nat → Nat} {P : sa_P} {I : sa_I} {J : sa_J} {x1 : Int64} {x3 : Int64} {x5 : Int64}   (kt : (-300 : Int64) ≤ x5 → Sat (ER l D aI aL ad) M_X7_adds P 32 [(0, .ref (ad 0)), (1, .long x1), (3, .long x3), (5, .long x5)] [] I J) (kf : ¬ (-300 : Int64) ≤ x5 → Sat (ER l D aI aL ad) M_X7_adds P 25 [(0, .ref (ad 0))] [] I J) : Sat (ER l D aI aL ad) M_X7_adds P 16 [(0, .ref (ad 0)), (1, .long x1), (3, .long x3), (5, .long x5)] [] I J := by
  refine s_lload 3 dX7_adds_16 rfl ?_
  refine s_ldc2 wk_X7_217 dX7_adds_18 ?_
  refine s_lif_ge (tgt := 32) dX7_adds_21 dX7_adds_22 (by decide) (fun c => ?_) (fun c => ?_)
  · exact kt c
  · refine s_pick [0] [(0, .ref (ad 0))] rfl ?_; exact kf c
theorem bX7_adds_25 {l : Launch} {D : va_G} {aI aL : ClassId} {ad : Nat → Nat} {P : sa_P} {I : sa_I} {J : sa_J}    (k : Sat (ER l D aI aL ad) M_X7_adds P 28 [] [.int (-4 : Int32), .ref (ad 0)] I J) : Sat (ER l D aI aL ad) M_X7_adds P 25 [(0, .ref (ad 0))] [] I J := by
  refine s_aload_n 0 dX7_adds_25 rfl ?_
  refine s_bipush (v := -4) dX7_adds_26 rfl ?_
  refine s_pick [] [] rfl ?_; exact k
theorem bX7_adds_31 {l : Launch} {D : va_G} {aI aL : ClassId} {ad : Nat → Nat} {P : sa_P} {I : sa_I} {J : sa_J} {s0 : Int32}   (k : P (some (.int s0)) I J) : Sat (ER l D aI aL ad) M_X7_adds P 31 [] [.int s0] I J := by
  exact s_iret rfl dX7_adds_31 k
theorem bX7_adds_32 {l : Launch} {D : va_G} {aI aL : ClassId} {ad : Nat → Nat} {P : sa_P} {I : sa_I} {J : sa_J} {x1 : Int64} {x3 : Int64} {x5 : Int64}   (kt : (300 : Int64) < x1 → Sat (ER l D aI aL ad) M_X7_adds P 66 [(0, .ref (ad 0))] [] I J) (kf : ¬ (300 : Int64) < x1 → Sat (ER l D aI aL ad) M_X7_adds P 40 [(0, .ref (ad 0)), (1, .long x1), (3, .long x3), (5, .long x5)] [] I J) : Sat (ER l D aI aL ad) M_X7_adds P 32 [(0, .ref (ad 0)), (1, .long x1), (3, .long x3), (5, .long x5)] [] I J := by
  refine s_lload_n 1 dX7_adds_32 rfl ?_
  refine s_ldc2 wk_X7_219 dX7_adds_33 ?_
  refine s_lif_gt (tgt := 66) dX7_adds_36 dX7_adds_37 (by decide) (fun c => ?_) (fun c => ?_)
  · refine s_pick [0] [(0, .ref (ad 0))] rfl ?_; exact kt c
  · exact kf c
theorem bX7_adds_40 {l : Launch} {D : va_G} {aI aL : ClassId} {ad : Nat → Nat} {P : sa_P} {I : sa_I} {J : sa_J} {x1 : Int64} {x3 : Int64} {x5 : Int64}   (kt : (300 : Int64) < x3 → Sat (ER l D aI aL ad) M_X7_adds P 66 [(0, .ref (ad 0))] [] I J) (kf : ¬ (300 : Int64) < x3 → Sat (ER l D aI aL ad) M_X7_adds P 48 [(0, .ref (ad 0)), (1, .long x1), (3, .long x3), (5, .long x5)] [] I J) : Sat (ER l D aI aL ad) M_X7_adds P 40 [(0, .ref (ad 0)), (1, .long x1), (3, .long x3), (5, .long x5)] [] I J := by
  refine s_lload_n 2 dX7_adds_40 rfl ?_
  refine s_ldc2 wk_X7_219 dX7_adds_41 ?_
  refine s_lif_gt (tgt := 66) dX7_adds_44 dX7_adds_45 (by decide) (fun c => ?_) (fun c => ?_)
  · refine s_pick [0] [(0, .ref (ad 0))] rfl ?_; exact kt c
  · exact kf c
theorem bX7_adds_48 {l : Launch} {D : va_G} {aI aL : ClassId} {ad : Nat → Nat} {P : sa_P} {I : sa_I} {J : sa_J} {x1 : Int64} {x3 : Int64} {x5 : Int64}   (kt : (300 : Int64) < x5 → Sat (ER l D aI aL ad) M_X7_adds P 66 [(0, .ref (ad 0))] [] I J) (kf : ¬ (300 : Int64) < x5 → Sat (ER l D aI aL ad) M_X7_adds P 57 [(0, .ref (ad 0)), (1, .long x1), (3, .long x3), (5, .long x5)] [] I J) : Sat (ER l D aI aL ad) M_X7_adds P 48 [(0, .ref (ad 0)), (1, .long x1), (3, .long x3), (5, .long x5)] [] I J := by
  refine s_lload 3 dX7_adds_48 rfl ?_
  refine s_ldc2 wk_X7_219 dX7_adds_50 ?_
  refine s_lif_gt (tgt := 66) dX7_adds_53 dX7_adds_54 (by decide) (fun c => ?_) (fun c => ?_)
  · refine s_pick [0] [(0, .ref (ad 0))] rfl ?_; exact kt c
  · exact kf c
theorem bX7_adds_57 {l : Launch} {D : va_G} {aI aL : ClassId} {ad : Nat → Nat} {P : sa_P} {I : sa_I} {J : sa_J} {x1 : Int64} {x3 : Int64} {x5 : Int64}   (kt : ¬ I 0 13 = (100 : Int32) → Sat (ER l D aI aL ad) M_X7_adds P 73 [(0, .ref (ad 0)), (1, .long x1), (3, .long x3), (5, .long x5)] [] I J) (kf : I 0 13 = (100 : Int32) → Sat (ER l D aI aL ad) M_X7_adds P 66 [(0, .ref (ad 0))] [] I J) : Sat (ER l D aI aL ad) M_X7_adds P 57 [(0, .ref (ad 0)), (1, .long x1), (3, .long x3), (5, .long x5)] [] I J := by
  refine s_aload_n 0 dX7_adds_57 rfl ?_
  refine g_X7_163 dX7_adds_58 rfl ?_
  refine s_bipush (v := 100) dX7_adds_61 rfl ?_
  refine s_icmp_ne (tgt := 73) dX7_adds_63 (by decide) (fun c => ?_) (fun c => ?_)
  · exact kt c
  · refine s_pick [0] [(0, .ref (ad 0))] rfl ?_; exact kf (by first | exact c | exact Classical.not_not.mp c)
theorem bX7_adds_66 {l : Launch} {D : va_G} {aI aL : ClassId} {ad : Nat → Nat} {P : sa_P} {I : sa_I} {J : sa_J}    (k : Sat (ER l D aI aL ad) M_X7_adds P 69 [] [.int (-6 : Int32), .ref (ad 0)] I J) : Sat (ER l D aI aL ad) M_X7_adds P 66 [(0, .ref (ad 0))] [] I J := by
  refine s_aload_n 0 dX7_adds_66 rfl ?_
  refine s_bipush (v := -6) dX7_adds_67 rfl ?_
  refine s_pick [] [] rfl ?_; exact k
theorem bX7_adds_72 {l : Launch} {D : va_G} {aI aL : ClassId} {ad : Nat → Nat} {P : sa_P} {I : sa_I} {J : sa_J} {s0 : Int32}   (k : P (some (.int s0)) I J) : Sat (ER l D aI aL ad) M_X7_adds P 72 [] [.int s0] I J := by
  exact s_iret rfl dX7_adds_72 k
theorem bX7_adds_73 {l : Launch} {D : va_G} {aI aL : ClassId} {ad : Nat → Nat} {P : sa_P} {I : sa_I} {J : sa_J} {x1 : Int64} {x3 : Int64} {x5 : Int64} {j82 : Nat} {v85 : Int32} {j97 : Nat} {v100 : Int32} {j112 : Nat} {v116 : Int32} {v124 : Int32} (e82 : (3 : Int32) * (I 0 13) = nI j82) (h85 : j82 < 300) (e97 : ((3 : Int32) * ((sa_uI I 3 j82 v85) 0 13)) + (1 : Int32) = nI j97) (h100 : j97 < 300) (e112 : ((3 : Int32) * ((sa_uI (sa_uI I 3 j82 v85) 3 j97 v100) 0 13)) + (2 : Int32) = nI j112) (h116 : j112 < 300) (f85 : x1.toInt32 = v85) (f100 : x3.toInt32 = v100) (f116 : x5.toInt32 = v116) (f124 : ((sa_uI (sa_uI (sa_uI I 3 j82 v85) 3 j97 v100) 3 j112 v116) 0 13) + (1 : Int32) = v124) (k : P (some (.int (((sa_uI (sa_uI (sa_uI (sa_uI I 3 j82 v85) 3 j97 v100) 3 j112 v116) 0 13 v124) 0 13) - (1 : Int32)))) (sa_uI (sa_uI (sa_uI (sa_uI I 3 j82 v85) 3 j97 v100) 3 j112 v116) 0 13 v124) J) : Sat (ER l D aI aL ad) M_X7_adds P 73 [(0, .ref (ad 0)), (1, .long x1), (3, .long x3), (5, .long x5)] [] I J := by
  refine s_aload_n 0 dX7_adds_73 rfl ?_
  refine g_X7_17 dX7_adds_74 rfl ?_
  refine s_iconst (v := 3) dX7_adds_77 rfl ?_
  refine s_aload_n 0 dX7_adds_78 rfl ?_
  refine g_X7_163 dX7_adds_79 rfl ?_
  refine s_imul dX7_adds_82 ?_
  refine s_eqi e82 ?_
  refine s_lload_n 1 dX7_adds_83 rfl ?_
  refine s_l2i dX7_adds_84 ?_
  refine s_eqi f85 ?_
  refine s_iastoreN aI_R3 h85 (by decide) dX7_adds_85 ?_
  refine s_aload_n 0 dX7_adds_86 rfl ?_
  refine g_X7_17 dX7_adds_87 rfl ?_
  refine s_iconst (v := 3) dX7_adds_90 rfl ?_
  refine s_aload_n 0 dX7_adds_91 rfl ?_
  refine g_X7_163 dX7_adds_92 rfl ?_
  refine s_imul dX7_adds_95 ?_
  refine s_iconst (v := 1) dX7_adds_96 rfl ?_
  refine s_iadd dX7_adds_97 ?_
  refine s_eqi e97 ?_
  refine s_lload_n 2 dX7_adds_98 rfl ?_
  refine s_l2i dX7_adds_99 ?_
  refine s_eqi f100 ?_
  refine s_iastoreN aI_R3 h100 (by decide) dX7_adds_100 ?_
  refine s_aload_n 0 dX7_adds_101 rfl ?_
  refine g_X7_17 dX7_adds_102 rfl ?_
  refine s_iconst (v := 3) dX7_adds_105 rfl ?_
  refine s_aload_n 0 dX7_adds_106 rfl ?_
  refine g_X7_163 dX7_adds_107 rfl ?_
  refine s_imul dX7_adds_110 ?_
  refine s_iconst (v := 2) dX7_adds_111 rfl ?_
  refine s_iadd dX7_adds_112 ?_
  refine s_eqi e112 ?_
  refine s_lload 3 dX7_adds_113 rfl ?_
  refine s_l2i dX7_adds_115 ?_
  refine s_eqi f116 ?_
  refine s_iastoreN aI_R3 h116 (by decide) dX7_adds_116 ?_
  refine s_aload_n 0 dX7_adds_117 rfl ?_
  refine s_dup dX7_adds_118 rfl ?_
  refine g_X7_163 dX7_adds_119 rfl ?_
  refine s_iconst (v := 1) dX7_adds_122 rfl ?_
  refine s_iadd dX7_adds_123 ?_
  refine s_eqi f124 ?_
  refine p_X7_163 dX7_adds_124 rfl ?_
  refine s_aload_n 0 dX7_adds_127 rfl ?_
  refine g_X7_163 dX7_adds_128 rfl ?_
  refine s_iconst (v := 1) dX7_adds_131 rfl ?_
  refine s_isub dX7_adds_132 ?_
  exact s_iret rfl dX7_adds_133 k
