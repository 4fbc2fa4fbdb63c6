/-! X7_holdsPrime -/
theorem dX7_holdsPrime_0 : decode cX7_holdsPrime 0 = .ok (.iconst 0, 1) := by decide +kernel
theorem dX7_holdsPrime_1 : decode cX7_holdsPrime 1 = .ok (.istore_n 3, 1) := by decide +kernel
theorem dX7_holdsPrime_2 : decode cX7_holdsPrime 2 = .ok (.iload_n 3, 1) := by decide +kernel
theorem dX7_holdsPrime_3 : decode cX7_holdsPrime 3 = .ok (.bipush 9, 2) := by decide +kernel
theorem dX7_holdsPrime_5 : decode cX7_holdsPrime 5 = .ok (.if_icmp .ge 29, 3) := by decide +kernel
theorem dX7_holdsPrime_8 : decode cX7_holdsPrime 8 = .ok (.aload_n 0, 1) := by decide +kernel
theorem dX7_holdsPrime_9 : decode cX7_holdsPrime 9 = .ok (.getfield 62, 3) := by decide +kernel
theorem dX7_holdsPrime_12 : decode cX7_holdsPrime 12 = .ok (.bipush 9, 2) := by decide +kernel
theorem dX7_holdsPrime_14 : decode cX7_holdsPrime 14 = .ok (.aload_n 0, 1) := by decide +kernel
theorem dX7_holdsPrime_15 : decode cX7_holdsPrime 15 = .ok (.getfield 307, 3) := by decide +kernel
theorem dX7_holdsPrime_18 : decode cX7_holdsPrime 18 = .ok (.imul, 1) := by decide +kernel
theorem dX7_holdsPrime_19 : decode cX7_holdsPrime 19 = .ok (.iload_n 3, 1) := by decide +kernel
theorem dX7_holdsPrime_20 : decode cX7_holdsPrime 20 = .ok (.iadd, 1) := by decide +kernel
theorem dX7_holdsPrime_21 : decode cX7_holdsPrime 21 = .ok (.aload_n 0, 1) := by decide +kernel
theorem dX7_holdsPrime_22 : decode cX7_holdsPrime 22 = .ok (.getfield 50, 3) := by decide +kernel
theorem dX7_holdsPrime_25 : decode cX7_holdsPrime 25 = .ok (.iload_n 3, 1) := by decide +kernel
theorem dX7_holdsPrime_26 : decode cX7_holdsPrime 26 = .ok (.laload, 1) := by decide +kernel
theorem dX7_holdsPrime_27 : decode cX7_holdsPrime 27 = .ok (.lastore, 1) := by decide +kernel
theorem dX7_holdsPrime_28 : decode cX7_holdsPrime 28 = .ok (.iinc 3 1, 3) := by decide +kernel
theorem dX7_holdsPrime_31 : decode cX7_holdsPrime 31 = .ok (.goto (-29), 3) := by decide +kernel
theorem dX7_holdsPrime_34 : decode cX7_holdsPrime 34 = .ok (.aload_n 0, 1) := by decide +kernel
theorem dX7_holdsPrime_35 : decode cX7_holdsPrime 35 = .ok (.getfield 68, 3) := by decide +kernel
theorem dX7_holdsPrime_38 : decode cX7_holdsPrime 38 = .ok (.aload_n 0, 1) := by decide +kernel
theorem dX7_holdsPrime_39 : decode cX7_holdsPrime 39 = .ok (.getfield 307, 3) := by decide +kernel
theorem dX7_holdsPrime_42 : decode cX7_holdsPrime 42 = .ok (.iload_n 1, 1) := by decide +kernel
theorem dX7_holdsPrime_43 : decode cX7_holdsPrime 43 = .ok (.iastore, 1) := by decide +kernel
theorem dX7_holdsPrime_44 : decode cX7_holdsPrime 44 = .ok (.aload_n 0, 1) := by decide +kernel
theorem dX7_holdsPrime_45 : decode cX7_holdsPrime 45 = .ok (.getfield 65, 3) := by decide +kernel
theorem dX7_holdsPrime_48 : decode cX7_holdsPrime 48 = .ok (.aload_n 0, 1) := by decide +kernel
theorem dX7_holdsPrime_49 : decode cX7_holdsPrime 49 = .ok (.getfield 307, 3) := by decide +kernel
theorem dX7_holdsPrime_52 : decode cX7_holdsPrime 52 = .ok (.iload_n 2, 1) := by decide +kernel
theorem dX7_holdsPrime_53 : decode cX7_holdsPrime 53 = .ok (.iastore, 1) := by decide +kernel
theorem dX7_holdsPrime_54 : decode cX7_holdsPrime 54 = .ok (.aload_n 0, 1) := by decide +kernel
theorem dX7_holdsPrime_55 : decode cX7_holdsPrime 55 = .ok (.dup, 1) := by decide +kernel
theorem dX7_holdsPrime_56 : decode cX7_holdsPrime 56 = .ok (.getfield 307, 3) := by decide +kernel
theorem dX7_holdsPrime_59 : decode cX7_holdsPrime 59 = .ok (.iconst 1, 1) := by decide +kernel
theorem dX7_holdsPrime_60 : decode cX7_holdsPrime 60 = .ok (.iadd, 1) := by decide +kernel
theorem dX7_holdsPrime_61 : decode cX7_holdsPrime 61 = .ok (.putfield 307, 3) := by decide +kernel
theorem dX7_holdsPrime_64 : decode cX7_holdsPrime 64 = .ok (.return_, 1) := by decide +kernel
theorem bX7_holdsPrime_0 {l : Launch} {D : va_G} {aI aL : ClassId} {ad : Nat → Nat} {P : sa_P} {I : sa_I} {J : sa_J} {x1 : Int32} {x2 : Int32} {v1 : Int32}  (f1 : (0 : Int32) = v1) (k : Sat (ER l D aI aL ad) M_X7_holdsPrime P 2 [(0, .ref (ad 0)), (1, .int x1), (2, .int x2), (3, .int v1)] [] I J) : Sat (ER l D aI aL ad) M_X7_holdsPrime P 0 [(0, .ref (ad 0)), (1, .int x1), (2, .int x2)] [] I J := by
  refine s_iconst (v := 0) dX7_holdsPrime_0 rfl ?_
  refine s_eqi f1 ?_
  refine s_istore_n [(3, .int v1), (0, .ref (ad 0)), (1, .int x1), (2, .int x2)] dX7_holdsPrime_1 (Nat.lt_of_lt_of_le (Nat.lt_succ_self _) (Nat.le_of_ble_eq_true rfl)) rfl ?_
  refine s_pick [1, 2, 3, 0] [(0, .ref (ad 0)), (1, .int x1), (2, .int x2), (3, .int v1)] rfl ?_; exact k
theorem bX7_holdsPrime_2 {l : Launch} {D : va_G} {aI aL : ClassId} {ad : Nat → Nat} {P : sa_P} {I : sa_I} {J : sa_J} {x1 : Int32} {x2 : Int32} {x3 : Int32}   (kt : (9 : Int32) ≤ x3 → Sat (ER l D aI aL ad) M_X7_holdsPrime P 34 [(0, .ref (ad 0)), (1, .int x1), (2, .int x2)] [] I J) (kf : ¬ (9 : Int32) ≤ x3 → Sat (ER l D aI aL ad) M_X7_holdsPrime P 8 [(0, .ref (ad 0)), (1, .int x1), (2, .int x2), (3, .int x3)] [] I J) : Sat (ER l D aI aL ad) M_X7_holdsPrime P 2 [(0, .ref (ad 0)), (1, .int x1), (2, .int x2), (3, .int x3)] [] I J := by
  refine s_iload_n 3 dX7_holdsPrime_2 rfl ?_
  refine s_bipush (v := 9) dX7_holdsPrime_3 rfl ?_
  refine s_icmp_ge (tgt := 34) dX7_holdsPrime_5 (by decide) (fun c => ?_) (fun c => ?_)
  · refine s_pick [0, 1, 2] [(0, .ref (ad 0)), (1, .int x1), (2, .int x2)] rfl ?_; exact kt c
  · exact kf c
theorem bX7_holdsPrime_8 {l : Launch} {D : va_G} {aI aL : ClassId} {ad : Nat → Nat} {P : sa_P} {I : sa_I} {J : sa_J} {x1 : Int32} {x2 : Int32} {x3 : Int32} {j20 : Nat} {j25 : Nat} {v27 : Int64} {v28 : Int32} (e20 : ((9 : Int32) * (I 0 32)) + x3 = nI j20) (e25 : x3 = nI j25) (h26 : j25 < 9) (h27 : j20 < 27) (f27 : J 14 j25 = v27) (f28 : x3 + 1 = v28) (k : Sat (ER l D aI aL ad) M_X7_holdsPrime P 2 [(0, .ref (ad 0)), (1, .int x1), (2, .int x2), (3, .int v28)] [] I (sa_uJ J 18 j20 v27)) : Sat (ER l D aI aL ad) M_X7_holdsPrime P 8 [(0, .ref (ad 0)), (1, .int x1), (2, .int x2), (3, .int x3)] [] I J := by
  refine s_aload_n 0 dX7_holdsPrime_8 rfl ?_
  refine g_X7_62 dX7_holdsPrime_9 rfl ?_
  refine s_bipush (v := 9) dX7_holdsPrime_12 rfl ?_
  refine s_aload_n 0 dX7_holdsPrime_14 rfl ?_
  refine g_X7_307 dX7_holdsPrime_15 rfl ?_
  refine s_imul dX7_holdsPrime_18 ?_
  refine s_iload_n 3 dX7_holdsPrime_19 rfl ?_
  refine s_iadd dX7_holdsPrime_20 ?_
  refine s_eqi e20 ?_
  refine s_aload_n 0 dX7_holdsPrime_21 rfl ?_
  refine g_X7_50 dX7_holdsPrime_22 rfl ?_
  refine s_iload_n 3 dX7_holdsPrime_25 rfl ?_
  refine s_eqi e25 ?_
  refine s_laloadN aJ_R14 h26 (by decide) dX7_holdsPrime_26 ?_
  refine s_eql f27 ?_
  refine s_lastoreN aJ_R18 h27 (by decide) dX7_holdsPrime_27 ?_
  refine s_iinc 3 v28 [(3, .int v28), (0, .ref (ad 0)), (1, .int x1), (2, .int x2)] dX7_holdsPrime_28 rfl f28 (Nat.lt_of_lt_of_le (Nat.lt_succ_self _) (Nat.le_of_ble_eq_true rfl)) rfl ?_
  refine s_goto (tgt := 2) dX7_holdsPrime_31 (by decide) ?_
  refine s_pick [1, 2, 3, 0] [(0, .ref (ad 0)), (1, .int x1), (2, .int x2), (3, .int v28)] rfl ?_; exact k
theorem bX7_holdsPrime_34 {l : Launch} {D : va_G} {aI aL : ClassId} {ad : Nat → Nat} {P : sa_P} {I : sa_I} {J : sa_J} {x1 : Int32} {x2 : Int32} {j39 : Nat} {j49 : Nat} {v61 : Int32} (e39 : I 0 32 = nI j39) (h43 : j39 < 3) (e49 : (sa_uI I 20 j39 x1) 0 32 = nI j49) (h53 : j49 < 3) (f61 : ((sa_uI (sa_uI I 20 j39 x1) 19 j49 x2) 0 32) + (1 : Int32) = v61) (k : P (none) (sa_uI (sa_uI (sa_uI I 20 j39 x1) 19 j49 x2) 0 32 v61) J) : Sat (ER l D aI aL ad) M_X7_holdsPrime P 34 [(0, .ref (ad 0)), (1, .int x1), (2, .int x2)] [] I J := by
  refine s_aload_n 0 dX7_holdsPrime_34 rfl ?_
  refine g_X7_68 dX7_holdsPrime_35 rfl ?_
  refine s_aload_n 0 dX7_holdsPrime_38 rfl ?_
  refine g_X7_307 dX7_holdsPrime_39 rfl ?_
  refine s_eqi e39 ?_
  refine s_iload_n 1 dX7_holdsPrime_42 rfl ?_
  refine s_iastoreN aI_R20 h43 (by decide) dX7_holdsPrime_43 ?_
  refine s_aload_n 0 dX7_holdsPrime_44 rfl ?_
  refine g_X7_65 dX7_holdsPrime_45 rfl ?_
  refine s_aload_n 0 dX7_holdsPrime_48 rfl ?_
  refine g_X7_307 dX7_holdsPrime_49 rfl ?_
  refine s_eqi e49 ?_
  refine s_iload_n 2 dX7_holdsPrime_52 rfl ?_
  refine s_iastoreN aI_R19 h53 (by decide) dX7_holdsPrime_53 ?_
  refine s_aload_n 0 dX7_holdsPrime_54 rfl ?_
  refine s_dup dX7_holdsPrime_55 rfl ?_
  refine g_X7_307 dX7_holdsPrime_56 rfl ?_
  refine s_iconst (v := 1) dX7_holdsPrime_59 rfl ?_
  refine s_iadd dX7_holdsPrime_60 ?_
  refine s_eqi f61 ?_
  refine p_X7_307 dX7_holdsPrime_61 rfl ?_
  exact s_vret rfl dX7_holdsPrime_64 k
/-! X7_wholeRows -/
theorem dX7_wholeRows_0 : decode cX7_wholeRows 0 = .ok (.iconst 0, 1) := by decide +kernel
theorem dX7_wholeRows_1 : decode cX7_wholeRows 1 = .ok (.istore 4, 2) := by decide +kernel
theorem dX7_wholeRows_3 : decode cX7_wholeRows 3 = .ok (.iload 4, 2) := by decide +kernel
theorem dX7_wholeRows_5 : decode cX7_wholeRows 5 = .ok (.bipush 9, 2) := by decide +kernel
theorem dX7_wholeRows_7 : decode cX7_wholeRows 7 = .ok (.if_icmp .ge 36, 3) := by decide +kernel
theorem dX7_wholeRows_10 : decode cX7_wholeRows 10 = .ok (.aload_n 3, 1) := by decide +kernel
theorem dX7_wholeRows_11 : decode cX7_wholeRows 11 = .ok (.iload 4, 2) := by decide +kernel
theorem dX7_wholeRows_13 : decode cX7_wholeRows 13 = .ok (.iload 4, 2) := by decide +kernel
theorem dX7_wholeRows_15 : decode cX7_wholeRows 15 = .ok (.iconst 4, 1) := by decide +kernel
theorem dX7_wholeRows_16 : decode cX7_wholeRows 16 = .ok (.irem, 1) := by decide +kernel
theorem dX7_wholeRows_17 : decode cX7_wholeRows 17 = .ok (.ifCond .ne 18, 3) := by decide +kernel
theorem dX7_wholeRows_20 : decode cX7_wholeRows 20 = .ok (.iload 4, 2) := by decide +kernel
theorem dX7_wholeRows_22 : decode cX7_wholeRows 22 = .ok (.iconst 4, 1) := by decide +kernel
theorem dX7_wholeRows_23 : decode cX7_wholeRows 23 = .ok (.idiv, 1) := by decide +kernel
theorem dX7_wholeRows_24 : decode cX7_wholeRows 24 = .ok (.aload_n 0, 1) := by decide +kernel
theorem dX7_wholeRows_25 : decode cX7_wholeRows 25 = .ok (.getfield 101, 3) := by decide +kernel
theorem dX7_wholeRows_28 : decode cX7_wholeRows 28 = .ok (.if_icmp .ge 7, 3) := by decide +kernel
theorem dX7_wholeRows_31 : decode cX7_wholeRows 31 = .ok (.lload_n 1, 1) := by decide +kernel
theorem dX7_wholeRows_32 : decode cX7_wholeRows 32 = .ok (.goto 4, 3) := by decide +kernel
theorem dX7_wholeRows_35 : decode cX7_wholeRows 35 = .ok (.lconst 0, 1) := by decide +kernel
theorem dX7_wholeRows_36 : decode cX7_wholeRows 36 = .ok (.lastore, 1) := by decide +kernel
theorem dX7_wholeRows_37 : decode cX7_wholeRows 37 = .ok (.iinc 4 1, 3) := by decide +kernel
theorem dX7_wholeRows_40 : decode cX7_wholeRows 40 = .ok (.goto (-37), 3) := by decide +kernel
theorem dX7_wholeRows_43 : decode cX7_wholeRows 43 = .ok (.return_, 1) := by decide +kernel
theorem bX7_wholeRows_0 {l : Launch} {D : va_G} {aI aL : ClassId} {ad : Nat → Nat} {P : sa_P} {I : sa_I} {J : sa_J} {x1 : Int64} {a3 q3 n3 : Nat} {v1 : Int32} (hq3 : sa_iJ (ER l D aI aL ad) a3 q3 n3) (hn3 : n3 < 2 ^ 31) (f1 : (0 : Int32) = v1) (k : Sat (ER l D aI aL ad) M_X7_wholeRows P 3 [(0, .ref (ad 0)), (1, .long x1), (3, .ref a3), (4, .int v1)] [] I J) : Sat (ER l D aI aL ad) M_X7_wholeRows P 0 [(0, .ref (ad 0)), (1, .long x1), (3, .ref a3)] [] I J := by
  refine s_iconst (v := 0) dX7_wholeRows_0 rfl ?_
  refine s_eqi f1 ?_
  refine s_istore [(4, .int v1), (0, .ref (ad 0)), (1, .long x1), (3, .ref a3)] dX7_wholeRows_1 (Nat.lt_of_lt_of_le (Nat.lt_succ_self _) (Nat.le_of_ble_eq_true rfl)) rfl ?_
  refine s_pick [1, 2, 3, 0] [(0, .ref (ad 0)), (1, .long x1), (3, .ref a3), (4, .int v1)] rfl ?_; exact k
theorem bX7_wholeRows_3 {l : Launch} {D : va_G} {aI aL : ClassId} {ad : Nat → Nat} {P : sa_P} {I : sa_I} {J : sa_J} {x1 : Int64} {a3 q3 n3 : Nat} {x4 : Int32} (hq3 : sa_iJ (ER l D aI aL ad) a3 q3 n3) (hn3 : n3 < 2 ^ 31)  (kt : (9 : Int32) ≤ x4 → Sat (ER l D aI aL ad) M_X7_wholeRows P 43 [] [] I J) (kf : ¬ (9 : Int32) ≤ x4 → Sat (ER l D aI aL ad) M_X7_wholeRows P 10 [(0, .ref (ad 0)), (1, .long x1), (3, .ref a3), (4, .int x4)] [] I J) : Sat (ER l D aI aL ad) M_X7_wholeRows P 3 [(0, .ref (ad 0)), (1, .long x1), (3, .ref a3), (4, .int x4)] [] I J := by
  refine s_iload 3 dX7_wholeRows_3 rfl ?_
  refine s_bipush (v := 9) dX7_wholeRows_5 rfl ?_
  refine s_icmp_ge (tgt := 43) dX7_wholeRows_7 (by decide) (fun c => ?_) (fun c => ?_)
  · refine s_pick [] [] rfl ?_; exact kt c
  · exact kf c
theorem bX7_wholeRows_10 {l : Launch} {D : va_G} {aI aL : ClassId} {ad : Nat → Nat} {P : sa_P} {I : sa_I} {J : sa_J} {x1 : Int64} {a3 q3 n3 : Nat} {x4 : Int32} (hq3 : sa_iJ (ER l D aI aL ad) a3 q3 n3) (hn3 : n3 < 2 ^ 31)  (kt : ¬ x4 - x4 / (4 : Int32) * (4 : Int32) = 0 → Sat (ER l D aI aL ad) M_X7_wholeRows P 35 [(0, .ref (ad 0)), (1, .long x1), (3, .ref a3), (4, .int x4)] [.int x4, .ref a3] I J) (kf : x4 - x4 / (4 : Int32) * (4 : Int32) = 0 → Sat (ER l D aI aL ad) M_X7_wholeRows P 20 [(0, .ref (ad 0)), (1, .long x1), (3, .ref a3), (4, .int x4)] [.int x4, .ref a3] I J) : Sat (ER l D aI aL ad) M_X7_wholeRows P 10 [(0, .ref (ad 0)), (1, .long x1), (3, .ref a3), (4, .int x4)] [] I J := by
  refine s_aload_n 2 dX7_wholeRows_10 rfl ?_
  refine s_iload 3 dX7_wholeRows_11 rfl ?_
  refine s_iload 3 dX7_wholeRows_13 rfl ?_
  refine s_iconst (v := 4) dX7_wholeRows_15 rfl ?_
  refine s_irem dX7_wholeRows_16 (by decide) ?_
  refine s_if_ne (tgt := 35) dX7_wholeRows_17 (by decide) (fun c => ?_) (fun c => ?_)
  · exact kt c
  · exact kf (by first | exact c | exact Classical.not_not.mp c)
theorem bX7_wholeRows_20 {l : Launch} {D : va_G} {aI aL : ClassId} {ad : Nat → Nat} {P : sa_P} {I : sa_I} {J : sa_J} {x1 : Int64} {a3 q3 n3 : Nat} {x4 : Int32} {s1 : Int32} (hq3 : sa_iJ (ER l D aI aL ad) a3 q3 n3) (hn3 : n3 < 2 ^ 31)  (kt : I 0 1 ≤ x4 / (4 : Int32) → Sat (ER l D aI aL ad) M_X7_wholeRows P 35 [(0, .ref (ad 0)), (1, .long x1), (3, .ref a3), (4, .int x4)] [.int s1, .ref a3] I J) (kf : ¬ I 0 1 ≤ x4 / (4 : Int32) → Sat (ER l D aI aL ad) M_X7_wholeRows P 31 [(0, .ref (ad 0)), (1, .long x1), (3, .ref a3), (4, .int x4)] [.int s1, .ref a3] I J) : Sat (ER l D aI aL ad) M_X7_wholeRows P 20 [(0, .ref (ad 0)), (1, .long x1), (3, .ref a3), (4, .int x4)] [.int s1, .ref a3] I J := by
  refine s_iload 3 dX7_wholeRows_20 rfl ?_
  refine s_iconst (v := 4) dX7_wholeRows_22 rfl ?_
  refine s_idiv dX7_wholeRows_23 (by decide) ?_
  refine s_aload_n 0 dX7_wholeRows_24 rfl ?_
  refine g_X7_101 dX7_wholeRows_25 rfl ?_
  refine s_icmp_ge (tgt := 35) dX7_wholeRows_28 (by decide) (fun c => ?_) (fun c => ?_)
  · exact kt c
  · exact kf c
theorem bX7_wholeRows_31 {l : Launch} {D : va_G} {aI aL : ClassId} {ad : Nat → Nat} {P : sa_P} {I : sa_I} {J : sa_J} {x1 : Int64} {a3 q3 n3 : Nat} {x4 : Int32} {s1 : Int32} (hq3 : sa_iJ (ER l D aI aL ad) a3 q3 n3) (hn3 : n3 < 2 ^ 31)  (k : Sat (ER l D aI aL ad) M_X7_wholeRows P 36 [(0, .ref (ad 0)), (1, .long x1), (3, .ref a3), (4, .int x4)] [.long x1, .int s1, .ref a3] I J) : Sat (ER l D aI aL ad) M_X7_wholeRows P 31 [(0, .ref (ad 0)), (1, .long x1), (3, .ref a3), (4, .int x4)] [.int s1, .ref a3] I J := by
  refine s_lload_n 1 dX7_wholeRows_31 rfl ?_
  refine s_goto (tgt := 36) dX7_wholeRows_32 (by decide) ?_
  exact k
theorem bX7_wholeRows_35 {l : Launch} {D : va_G} {aI aL : ClassId} {ad : Nat → Nat} {P : sa_P} {I : sa_I} {J : sa_J} {x1 : Int64} {a3 q3 n3 : Nat} {x4 : Int32} {s1 : Int32} (hq3 : sa_iJ (ER l D aI aL ad) a3 q3 n3) (hn3 : n3 < 2 ^ 31)  (k : Sat (ER l D aI aL ad) M_X7_wholeRows P 36 [(0, .ref (ad 0)), (1, .long x1), (3, .ref a3), (4, .int x4)] [.long (0 : Int64), .int s1, .ref a3] I J) : Sat (ER l D aI aL ad) M_X7_wholeRows P 35 [(0, .ref (ad 0)), (1, .long x1), (3, .ref a3), (4, .int x4)] [.int s1, .ref a3] I J := by
  refine s_lconst (v := 0) dX7_wholeRows_35 rfl ?_
  exact k
theorem bX7_wholeRows_36 {l : Launch} {D : va_G} {aI aL : ClassId} {ad : Nat → Nat} {P : sa_P} {I : sa_I} {J : sa_J} {x1 : Int64} {a3 q3 n3 : Nat} {x4 : Int32} {s1 : Nat} {s2 : Int64} {v37 : Int32} (hq3 : sa_iJ (ER l D aI aL ad) a3 q3 n3) (hn3 : n3 < 2 ^ 31) (h36 : s1 < n3) (f37 : x4 + 1 = v37) (k : Sat (ER l D aI aL ad) M_X7_wholeRows P 3 [(0, .ref (ad 0)), (1, .long x1), (3, .ref a3), (4, .int v37)] [] I (sa_uJ J q3 s1 s2)) : Sat (ER l D aI aL ad) M_X7_wholeRows P 36 [(0, .ref (ad 0)), (1, .long x1), (3, .ref a3), (4, .int x4)] [.long s2, .int (nI s1), .ref a3] I J := by
  refine s_lastoreN hq3 h36 hn3 dX7_wholeRows_36 ?_
  refine s_iinc 3 v37 [(4, .int v37), (0, .ref (ad 0)), (1, .long x1), (3, .ref a3)] dX7_wholeRows_37 rfl f37 (Nat.lt_of_lt_of_le (Nat.lt_succ_self _) (Nat.le_of_ble_eq_true rfl)) rfl ?_
  refine s_goto (tgt := 3) dX7_wholeRows_40 (by decide) ?_
  refine s_pick [1, 2, 3, 0] [(0, .ref (ad 0)), (1, .long x1), (3, .ref a3), (4, .int v37)] rfl ?_; exact k
theorem bX7_wholeRows_43 {l : Launch} {D : va_G} {aI aL : ClassId} {ad : Nat → Nat} {P : sa_P} {I : sa_I} {J : sa_J}    (k : P (none) I J) : Sat (ER l D aI aL ad) M_X7_wholeRows P 43 [] [] I J := by
  exact s_vret rfl dX7_wholeRows_43 k
/-! X7_loadPrime -/
theorem dX7_loadPrime_0 : decode cX7_loadPrime 0 = .ok (.iconst 0, 1) := by decide +kernel
theorem dX7_loadPrime_1 : decode cX7_loadPrime 1 = .ok (.istore_n 3, 1) := by decide +kernel
theorem dX7_loadPrime_2 : decode cX7_loadPrime 2 = .ok (.iload_n 3, 1) := by decide +kernel
theorem dX7_loadPrime_3 : decode cX7_loadPrime 3 = .ok (.bipush 9, 2) := by decide +kernel
theorem dX7_loadPrime_5 : decode cX7_loadPrime 5 = .ok (.if_icmp .ge 23, 3) := by decide +kernel
theorem dX7_loadPrime_8 : decode cX7_loadPrime 8 = .ok (.aload_n 2, 1) := by decide +kernel
theorem dX7_loadPrime_9 : decode cX7_loadPrime 9 = .ok (.iload_n 3, 1) := by decide +kernel
theorem dX7_loadPrime_10 : decode cX7_loadPrime 10 = .ok (.aload_n 0, 1) := by decide +kernel
theorem dX7_loadPrime_11 : decode cX7_loadPrime 11 = .ok (.getfield 62, 3) := by decide +kernel
theorem dX7_loadPrime_14 : decode cX7_loadPrime 14 = .ok (.bipush 9, 2) := by decide +kernel
theorem dX7_loadPrime_16 : decode cX7_loadPrime 16 = .ok (.iload_n 1, 1) := by decide +kernel
theorem dX7_loadPrime_17 : decode cX7_loadPrime 17 = .ok (.imul, 1) := by decide +kernel
theorem dX7_loadPrime_18 : decode cX7_loadPrime 18 = .ok (.iload_n 3, 1) := by decide +kernel
theorem dX7_loadPrime_19 : decode cX7_loadPrime 19 = .ok (.iadd, 1) := by decide +kernel
theorem dX7_loadPrime_20 : decode cX7_loadPrime 20 = .ok (.laload, 1) := by decide +kernel
theorem dX7_loadPrime_21 : decode cX7_loadPrime 21 = .ok (.lastore, 1) := by decide +kernel
theorem dX7_loadPrime_22 : decode cX7_loadPrime 22 = .ok (.iinc 3 1, 3) := by decide +kernel
theorem dX7_loadPrime_25 : decode cX7_loadPrime 25 = .ok (.goto (-23), 3) := by decide +kernel
theorem dX7_loadPrime_28 : decode cX7_loadPrime 28 = .ok (.return_, 1) := by decide +kernel
theorem bX7_loadPrime_0 {l : Launch} {D : va_G} {aI aL : ClassId} {ad : Nat → Nat} {P : sa_P} {I : sa_I} {J : sa_J} {x1 : Int32} {a2 q2 n2 : Nat} {v1 : Int32} (hq2 : sa_iJ (ER l D aI aL ad) a2 q2 n2) (hn2 : n2 < 2 ^ 31) (f1 : (0 : Int32) = v1) (k : Sat (ER l D aI aL ad) M_X7_loadPrime P 2 [(0, .ref (ad 0)), (1, .int x1), (2, .ref a2), (3, .int v1)] [] I J) : Sat (ER l D aI aL ad) M_X7_loadPrime P 0 [(0, .ref (ad 0)), (1, .int x1), (2, .ref a2)] [] I J := by
  refine s_iconst (v := 0) dX7_loadPrime_0 rfl ?_
  refine s_eqi f1 ?_
  refine s_istore_n [(3, .int v1), (0, .ref (ad 0)), (1, .int x1), (2, .ref a2)] dX7_loadPrime_1 (Nat.lt_of_lt_of_le (Nat.lt_succ_self _) (Nat.le_of_ble_eq_true rfl)) rfl ?_
  refine s_pick [1, 2, 3, 0] [(0, .ref (ad 0)), (1, .int x1), (2, .ref a2), (3, .int v1)] rfl ?_; exact k
theorem bX7_loadPrime_2 {l : Launch} {D : va_G} {aI aL : ClassId} {ad : Nat → Nat} {P : sa_P} {I : sa_I} {J : sa_J} {x1 : Int32} {a2 q2 n2 : Nat} {x3 : Int32} (hq2 : sa_iJ (ER l D aI aL ad) a2 q2 n2) (hn2 : n2 < 2 ^ 31)  (kt : (9 : Int32) ≤ x3 → Sat (ER l D aI aL ad) M_X7_loadPrime P 28 [] [] I J) (kf : ¬ (9 : Int32) ≤ x3 → Sat (ER l D aI aL ad) M_X7_loadPrime P 8 [(0, .ref (ad 0)), (1, .int x1), (2, .ref a2), (3, .int x3)] [] I J) : Sat (ER l D aI aL ad) M_X7_loadPrime P 2 [(0, .ref (ad 0)), (1, .int x1), (2, .ref a2), (3, .int x3)] [] I J := by
  refine s_iload_n 3 dX7_loadPrime_2 rfl ?_
  refine s_bipush (v := 9) dX7_loadPrime_3 rfl ?_
  refine s_icmp_ge (tgt := 28) dX7_loadPrime_5 (by decide) (fun c => ?_) (fun c => ?_)
  · refine s_pick [] [] rfl ?_; exact kt c
  · exact kf c
theorem bX7_loadPrime_8 {l : Launch} {D : va_G} {aI aL : ClassId} {ad : Nat → Nat} {P : sa_P} {I : sa_I} {J : sa_J} {x1 : Int32} {a2 q2 n2 : Nat} {x3 : Int32} {j9 : Nat} {j19 : Nat} {v21 : Int64} {v22 : Int32} (hq2 : sa_iJ (ER l D aI aL ad) a2 q2 n2) (hn2 : n2 < 2 ^ 31) (e9 : x3 = nI j9) (e19 : ((9 : Int32) * x1) + x3 = nI j19) (h20 : j19 < 27) (h21 : j9 < n2) (f21 : J 18 j19 = v21) (f22 : x3 + 1 = v22) (k : Sat (ER l D aI aL ad) M_X7_loadPrime P 2 [(0, .ref (ad 0)), (1, .int x1), (2, .ref a2), (3, .int v22)] [] I (sa_uJ J q2 j9 v21)) : Sat (ER l D aI aL ad) M_X7_loadPrime P 8 [(0, .ref (ad 0)), (1, .int x1), (2, .ref a2), (3, .int x3)] [] I J := by
  refine s_aload_n 2 dX7_loadPrime_8 rfl ?_
  refine s_iload_n 3 dX7_loadPrime_9 rfl ?_
  refine s_eqi e9 ?_
  refine s_aload_n 0 dX7_loadPrime_10 rfl ?_
  refine g_X7_62 dX7_loadPrime_11 rfl ?_
  refine s_bipush (v := 9) dX7_loadPrime_14 rfl ?_
  refine s_iload_n 1 dX7_loadPrime_16 rfl ?_
  refine s_imul dX7_loadPrime_17 ?_
  refine s_iload_n 3 dX7_loadPrime_18 rfl ?_
  refine s_iadd dX7_loadPrime_19 ?_
  refine s_eqi e19 ?_
  refine s_laloadN aJ_R18 h20 (by decide) dX7_loadPrime_20 ?_
  refine s_eql f21 ?_
  refine s_lastoreN hq2 h21 hn2 dX7_loadPrime_21 ?_
  refine s_iinc 3 v22 [(3, .int v22), (0, .ref (ad 0)), (1, .int x1), (2, .ref a2)] dX7_loadPrime_22 rfl f22 (Nat.lt_of_lt_of_le (Nat.lt_succ_self _) (Nat.le_of_ble_eq_true rfl)) rfl ?_
  refine s_goto (tgt := 2) dX7_loadPrime_25 (by decide) ?_
  refine s_pick [1, 2, 3, 0] [(0, .ref (ad 0)), (1, .int x1), (2, .ref a2), (3, .int v22)] rfl ?_; exact k
theorem bX7_loadPrime_28 {l : Launch} {D : va_G} {aI aL : ClassId} {ad : Nat → Nat} {P : sa_P} {I : sa_I} {J : sa_J}    (k : P (none) I J) : Sat (ER l D aI aL ad) M_X7_loadPrime P 28 [] [] I J := by
  exact s_vret rfl dX7_loadPrime_28 k
/-! X7_moves -/
theorem dX7_moves_0 : decode cX7_moves 0 = .ok (.iconst 0, 1) := by decide +kernel
theorem dX7_moves_1 : decode cX7_moves 1 = .ok (.istore_n 3, 1) := by decide +kernel
theorem dX7_moves_2 : decode cX7_moves 2 = .ok (.iload_n 3, 1) := by decide +kernel
theorem dX7_moves_3 : decode cX7_moves 3 = .ok (.bipush 9, 2) := by decide +kernel
theorem dX7_moves_5 : decode cX7_moves 5 = .ok (.if_icmp .ge 15, 3) := by decide +kernel
theorem dX7_moves_8 : decode cX7_moves 8 = .ok (.aload_n 2, 1) := by decide +kernel
theorem dX7_moves_9 : decode cX7_moves 9 = .ok (.iload_n 3, 1) := by decide +kernel
theorem dX7_moves_10 : decode cX7_moves 10 = .ok (.aload_n 1, 1) := by decide +kernel
theorem dX7_moves_11 : decode cX7_moves 11 = .ok (.iload_n 3, 1) := by decide +kernel
theorem dX7_moves_12 : decode cX7_moves 12 = .ok (.laload, 1) := by decide +kernel
theorem dX7_moves_13 : decode cX7_moves 13 = .ok (.lastore, 1) := by decide +kernel
theorem dX7_moves_14 : decode cX7_moves 14 = .ok (.iinc 3 1, 3) := by decide +kernel
theorem dX7_moves_17 : decode cX7_moves 17 = .ok (.goto (-15), 3) := by decide +kernel
theorem dX7_moves_20 : decode cX7_moves 20 = .ok (.return_, 1) := by decide +kernel
theorem bX7_moves_0 {l : Launch} {D : va_G} {aI aL : ClassId} {ad : Nat → Nat} {P : sa_P} {I : sa_I} {J : sa_J} {a1 q1 n1 : Nat} {a2 q2 n2 : Nat} {v1 : Int32} (hq1 : sa_iJ (ER l D aI aL ad) a1 q1 n1) (hn1 : n1 < 2 ^ 31) (hq2 : sa_iJ (ER l D aI aL ad) a2 q2 n2) (hn2 : n2 < 2 ^ 31) (f1 : (0 : Int32) = v1) (k : Sat (ER l D aI aL ad) M_X7_moves P 2 [(1, .ref a1), (2, .ref a2), (3, .int v1)] [] I J) : Sat (ER l D aI aL ad) M_X7_moves P 0 [(0, .ref (ad 0)), (1, .ref a1), (2, .ref a2)] [] I J := by
  refine s_iconst (v := 0) dX7_moves_0 rfl ?_
  refine s_eqi f1 ?_
  refine s_istore_n [(3, .int v1), (0, .ref (ad 0)), (1, .ref a1), (2, .ref a2)] dX7_moves_1 (Nat.lt_of_lt_of_le (Nat.lt_succ_self _) (Nat.le_of_ble_eq_true rfl)) rfl ?_
  refine s_pick [2, 3, 0] [(1, .ref a1), (2, .ref a2), (3, .int v1)] rfl ?_; exact k
theorem bX7_moves_2 {l : Launch} {D : va_G} {aI aL : ClassId} {ad : Nat → Nat} {P : sa_P} {I : sa_I} {J : sa_J} {a1 q1 n1 : Nat} {a2 q2 n2 : Nat} {x3 : Int32} (hq1 : sa_iJ (ER l D aI aL ad) a1 q1 n1) (hn1 : n1 < 2 ^ 31) (hq2 : sa_iJ (ER l D aI aL ad) a2 q2 n2) (hn2 : n2 < 2 ^ 31)  (kt : (9 : Int32) ≤ x3 → Sat (ER l D aI aL ad) M_X7_moves P 20 [] [] I J) (kf : ¬ (9 : Int32) ≤ x3 → Sat (ER l D aI aL ad) M_X7_moves P 8 [(1, .ref a1), (2, .ref a2), (3, .int x3)] [] I J) : Sat (ER l D aI aL ad) M_X7_moves P 2 [(1, .ref a1), (2, .ref a2), (3, .int x3)] [] I J := by
  refine s_iload_n 2 dX7_moves_2 rfl ?_
  refine s_bipush (v := 9) dX7_moves_3 rfl ?_
  refine s_icmp_ge (tgt := 20) dX7_moves_5 (by decide) (fun c => ?_) (fun c => ?_)
  · refine s_pick [] [] rfl ?_; exact kt c
  · exact kf c
theorem bX7_moves_8 {l : Launch} {D : va_G} {aI aL : ClassId} {ad : Nat → Nat} {P : sa_P} {I : sa_I} {J : sa_J} {a1 q1 n1 : Nat} {a2 q2 n2 : Nat} {x3 : Int32} {j9 : Nat} {j11 : Nat} {v13 : Int64} {v14 : Int32} (hq1 : sa_iJ (ER l D aI aL ad) a1 q1 n1) (hn1 : n1 < 2 ^ 31) (hq2 : sa_iJ (ER l D aI aL ad) a2 q2 n2) (hn2 : n2 < 2 ^ 31) (e9 : x3 = nI j9) (e11 : x3 = nI j11) (h12 : j11 < n1) (h13 : j9 < n2) (f13 : J q1 j11 = v13) (f14 : x3 + 1 = v14) (k : Sat (ER l D aI aL ad) M_X7_moves P 2 [(1, .ref a1), (2, .ref a2), (3, .int v14)] [] I (sa_uJ J q2 j9 v13)) : Sat (ER l D aI aL ad) M_X7_moves P 8 [(1, .ref a1), (2, .ref a2), (3, .int x3)] [] I J := by
  refine s_aload_n 1 dX7_moves_8 rfl ?_
  refine s_iload_n 2 dX7_moves_9 rfl ?_
  refine s_eqi e9 ?_
  refine s_aload_n 0 dX7_moves_10 rfl ?_
  refine s_iload_n 2 dX7_moves_11 rfl ?_
  refine s_eqi e11 ?_
  refine s_laloadN hq1 h12 hn1 dX7_moves_12 ?_
  refine s_eql f13 ?_
  refine s_lastoreN hq2 h13 hn2 dX7_moves_13 ?_
  refine s_iinc 2 v14 [(3, .int v14), (1, .ref a1), (2, .ref a2)] dX7_moves_14 rfl f14 (Nat.lt_of_lt_of_le (Nat.lt_succ_self _) (Nat.le_of_ble_eq_true rfl)) rfl ?_
  refine s_goto (tgt := 2) dX7_moves_17 (by decide) ?_
  refine s_pick [1, 2, 0] [(1, .ref a1), (2, .ref a2), (3, .int v14)] rfl ?_; exact k
theorem bX7_moves_20 {l : Launch} {D : va_G} {aI aL : ClassId} {ad : Nat → Nat} {P : sa_P} {I : sa_I} {J : sa_J}    (k : P (none) I J) : Sat (ER l D aI aL ad) M_X7_moves P 20 [] [] I J := by
  exact s_vret rfl dX7_moves_20 k
/-! X7_knows -/
theorem dX7_knows_0 : decode cX7_knows 0 = .ok (.iload_n 1, 1) := by decide +kernel
theorem dX7_knows_1 : decode cX7_knows 1 = .ok (.iconst 2, 1) := by decide +kernel
theorem dX7_knows_2 : decode cX7_knows 2 = .ok (.if_icmp .lt 16, 3) := by decide +kernel
theorem dX7_knows_5 : decode cX7_knows 5 = .ok (.iload_n 1, 1) := by decide +kernel
theorem dX7_knows_6 : decode cX7_knows 6 = .ok (.bipush 97, 2) := by decide +kernel
theorem dX7_knows_8 : decode cX7_knows 8 = .ok (.if_icmp .gt 10, 3) := by decide +kernel
theorem dX7_knows_11 : decode cX7_knows 11 = .ok (.iload_n 1, 1) := by decide +kernel
theorem dX7_knows_12 : decode cX7_knows 12 = .ok (.invokestatic 125, 3) := by decide +kernel
theorem dX7_knows_15 : decode cX7_knows 15 = .ok (.ifCond .ne 5, 3) := by decide +kernel
theorem dX7_knows_18 : decode cX7_knows 18 = .ok (.iconst 0, 1) := by decide +kernel
theorem dX7_knows_19 : decode cX7_knows 19 = .ok (.ireturn, 1) := by decide +kernel
theorem dX7_knows_20 : decode cX7_knows 20 = .ok (.aload_n 0, 1) := by decide +kernel
theorem dX7_knows_21 : decode cX7_knows 21 = .ok (.getfield 172, 3) := by decide +kernel
theorem dX7_knows_24 : decode cX7_knows 24 = .ok (.iload_n 1, 1) := by decide +kernel
theorem dX7_knows_25 : decode cX7_knows 25 = .ok (.if_icmp .ne 5, 3) := by decide +kernel
theorem dX7_knows_28 : decode cX7_knows 28 = .ok (.iconst 1, 1) := by decide +kernel
theorem dX7_knows_29 : decode cX7_knows 29 = .ok (.ireturn, 1) := by decide +kernel
theorem dX7_knows_30 : decode cX7_knows 30 = .ok (.aload_n 0, 1) := by decide +kernel
theorem dX7_knows_31 : decode cX7_knows 31 = .ok (.iload_n 1, 1) := by decide +kernel
theorem dX7_knows_32 : decode cX7_knows 32 = .ok (.putfield 172, 3) := by decide +kernel
theorem dX7_knows_35 : decode cX7_knows 35 = .ok (.aload_n 0, 1) := by decide +kernel
theorem dX7_knows_36 : decode cX7_knows 36 = .ok (.iconst 0, 1) := by decide +kernel
theorem dX7_knows_37 : decode cX7_knows 37 = .ok (.putfield 307, 3) := by decide +kernel
theorem dX7_knows_40 : decode cX7_knows 40 = .ok (.iconst 0, 1) := by decide +kernel
theorem dX7_knows_41 : decode cX7_knows 41 = .ok (.istore_n 2, 1) := by decide +kernel
theorem dX7_knows_42 : decode cX7_knows 42 = .ok (.iload_n 2, 1) := by decide +kernel
theorem dX7_knows_43 : decode cX7_knows 43 = .ok (.iload_n 1, 1) := by decide +kernel
theorem dX7_knows_44 : decode cX7_knows 44 = .ok (.if_icmp .ge 110, 3) := by decide +kernel
theorem dX7_knows_47 : decode cX7_knows 47 = .ok (.iconst 0, 1) := by decide +kernel
theorem dX7_knows_48 : decode cX7_knows 48 = .ok (.istore_n 3, 1) := by decide +kernel
theorem dX7_knows_49 : decode cX7_knows 49 = .ok (.iload_n 3, 1) := by decide +kernel
theorem dX7_knows_50 : decode cX7_knows 50 = .ok (.aload_n 0, 1) := by decide +kernel
theorem dX7_knows_51 : decode cX7_knows 51 = .ok (.getfield 101, 3) := by decide +kernel
theorem dX7_knows_54 : decode cX7_knows 54 = .ok (.iconst 3, 1) := by decide +kernel
theorem dX7_knows_55 : decode cX7_knows 55 = .ok (.if_icmp .ne 7, 3) := by decide +kernel
theorem dX7_knows_58 : decode cX7_knows 58 = .ok (.iload_n 1, 1) := by decide +kernel
theorem dX7_knows_59 : decode cX7_knows 59 = .ok (.goto 4, 3) := by decide +kernel
theorem dX7_knows_62 : decode cX7_knows 62 = .ok (.iconst 1, 1) := by decide +kernel
theorem dX7_knows_63 : decode cX7_knows 63 = .ok (.if_icmp .ge 85, 3) := by decide +kernel
theorem dX7_knows_66 : decode cX7_knows 66 = .ok (.aload_n 0, 1) := by decide +kernel
theorem dX7_knows_67 : decode cX7_knows 67 = .ok (.iload_n 1, 1) := by decide +kernel
theorem dX7_knows_68 : decode cX7_knows 68 = .ok (.iload_n 2, 1) := by decide +kernel
theorem dX7_knows_69 : decode cX7_knows 69 = .ok (.isub, 1) := by decide +kernel
theorem dX7_knows_70 : decode cX7_knows 70 = .ok (.iload_n 1, 1) := by decide +kernel
theorem dX7_knows_71 : decode cX7_knows 71 = .ok (.irem, 1) := by decide +kernel
theorem dX7_knows_72 : decode cX7_knows 72 = .ok (.i2l, 1) := by decide +kernel
theorem dX7_knows_73 : decode cX7_knows 73 = .ok (.iload_n 1, 1) := by decide +kernel
theorem dX7_knows_74 : decode cX7_knows 74 = .ok (.iload_n 3, 1) := by decide +kernel
theorem dX7_knows_75 : decode cX7_knows 75 = .ok (.isub, 1) := by decide +kernel
theorem dX7_knows_76 : decode cX7_knows 76 = .ok (.iload_n 1, 1) := by decide +kernel
theorem dX7_knows_77 : decode cX7_knows 77 = .ok (.irem, 1) := by decide +kernel
theorem dX7_knows_78 : decode cX7_knows 78 = .ok (.i2l, 1) := by decide +kernel
theorem dX7_knows_79 : decode cX7_knows 79 = .ok (.iload_n 1, 1) := by decide +kernel
theorem dX7_knows_80 : decode cX7_knows 80 = .ok (.i2l, 1) := by decide +kernel
theorem dX7_knows_81 : decode cX7_knows 81 = .ok (.invokevirtual 297, 3) := by decide +kernel
theorem dX7_knows_84 : decode cX7_knows 84 = .ok (.ifCond .ne 6, 3) := by decide +kernel
theorem dX7_knows_87 : decode cX7_knows 87 = .ok (.goto 55, 3) := by decide +kernel
theorem dX7_knows_90 : decode cX7_knows 90 = .ok (.aload_n 0, 1) := by decide +kernel
theorem dX7_knows_91 : decode cX7_knows 91 = .ok (.lconst 1, 1) := by decide +kernel
theorem dX7_knows_92 : decode cX7_knows 92 = .ok (.aload_n 0, 1) := by decide +kernel
theorem dX7_knows_93 : decode cX7_knows 93 = .ok (.getfield 50, 3) := by decide +kernel
theorem dX7_knows_96 : decode cX7_knows 96 = .ok (.invokevirtual 310, 3) := by decide +kernel
theorem dX7_knows_99 : decode cX7_knows 99 = .ok (.aload_n 0, 1) := by decide +kernel
theorem dX7_knows_100 : decode cX7_knows 100 = .ok (.getfield 50, 3) := by decide +kernel
theorem dX7_knows_103 : decode cX7_knows 103 = .ok (.iconst 0, 1) := by decide +kernel
theorem dX7_knows_104 : decode cX7_knows 104 = .ok (.iload_n 1, 1) := by decide +kernel
theorem dX7_knows_105 : decode cX7_knows 105 = .ok (.i2l, 1) := by decide +kernel
theorem dX7_knows_106 : decode cX7_knows 106 = .ok (.lastore, 1) := by decide +kernel
theorem dX7_knows_107 : decode cX7_knows 107 = .ok (.aload_n 0, 1) := by decide +kernel
theorem dX7_knows_108 : decode cX7_knows 108 = .ok (.getfield 50, 3) := by decide +kernel
theorem dX7_knows_111 : decode cX7_knows 111 = .ok (.iconst 3, 1) := by decide +kernel
theorem dX7_knows_112 : decode cX7_knows 112 = .ok (.iload_n 2, 1) := by decide +kernel
theorem dX7_knows_113 : decode cX7_knows 113 = .ok (.i2l, 1) := by decide +kernel
theorem dX7_knows_114 : decode cX7_knows 114 = .ok (.lastore, 1) := by decide +kernel
theorem dX7_knows_115 : decode cX7_knows 115 = .ok (.aload_n 0, 1) := by decide +kernel
theorem dX7_knows_116 : decode cX7_knows 116 = .ok (.getfield 50, 3) := by decide +kernel
theorem dX7_knows_119 : decode cX7_knows 119 = .ok (.bipush 6, 2) := by decide +kernel
theorem dX7_knows_121 : decode cX7_knows 121 = .ok (.aload_n 0, 1) := by decide +kernel
theorem dX7_knows_122 : decode cX7_knows 122 = .ok (.getfield 101, 3) := by decide +kernel
theorem dX7_knows_125 : decode cX7_knows 125 = .ok (.iconst 3, 1) := by decide +kernel
theorem dX7_knows_126 : decode cX7_knows 126 = .ok (.if_icmp .ne 8, 3) := by decide +kernel
theorem dX7_knows_129 : decode cX7_knows 129 = .ok (.iload_n 3, 1) := by decide +kernel
theorem dX7_knows_130 : decode cX7_knows 130 = .ok (.i2l, 1) := by decide +kernel
theorem dX7_knows_131 : decode cX7_knows 131 = .ok (.goto 4, 3) := by decide +kernel
theorem dX7_knows_134 : decode cX7_knows 134 = .ok (.lconst 0, 1) := by decide +kernel
theorem dX7_knows_135 : decode cX7_knows 135 = .ok (.lastore, 1) := by decide +kernel
theorem dX7_knows_136 : decode cX7_knows 136 = .ok (.aload_n 0, 1) := by decide +kernel
theorem dX7_knows_137 : decode cX7_knows 137 = .ok (.iconst 1, 1) := by decide +kernel
theorem dX7_knows_138 : decode cX7_knows 138 = .ok (.iconst 1, 1) := by decide +kernel
theorem dX7_knows_139 : decode cX7_knows 139 = .ok (.invokevirtual 314, 3) := by decide +kernel
theorem dX7_knows_142 : decode cX7_knows 142 = .ok (.iinc 3 1, 3) := by decide +kernel
theorem dX7_knows_145 : decode cX7_knows 145 = .ok (.goto (-96), 3) := by decide +kernel
theorem dX7_knows_148 : decode cX7_knows 148 = .ok (.iinc 2 1, 3) := by decide +kernel
theorem dX7_knows_151 : decode cX7_knows 151 = .ok (.goto (-109), 3) := by decide +kernel
theorem dX7_knows_154 : decode cX7_knows 154 = .ok (.aload_n 0, 1) := by decide +kernel
theorem dX7_knows_155 : decode cX7_knows 155 = .ok (.getfield 307, 3) := by decide +kernel
theorem dX7_knows_158 : decode cX7_knows 158 = .ok (.ifCond .ne 24, 3) := by decide +kernel
theorem dX7_knows_161 : decode cX7_knows 161 = .ok (.aload_n 0, 1) := by decide +kernel
theorem dX7_knows_162 : decode cX7_knows 162 = .ok (.iload_n 1, 1) := by decide +kernel
theorem dX7_knows_163 : decode cX7_knows 163 = .ok (.i2l, 1) := by decide +kernel
theorem dX7_knows_164 : decode cX7_knows 164 = .ok (.aload_n 0, 1) := by decide +kernel
theorem dX7_knows_165 : decode cX7_knows 165 = .ok (.getfield 50, 3) := by decide +kernel
theorem dX7_knows_168 : decode cX7_knows 168 = .ok (.invokevirtual 310, 3) := by decide +kernel
theorem dX7_knows_171 : decode cX7_knows 171 = .ok (.aload_n 0, 1) := by decide +kernel
theorem dX7_knows_172 : decode cX7_knows 172 = .ok (.aload_n 0, 1) := by decide +kernel
theorem dX7_knows_173 : decode cX7_knows 173 = .ok (.getfield 101, 3) := by decide +kernel
theorem dX7_knows_176 : decode cX7_knows 176 = .ok (.iconst 1, 1) := by decide +kernel
theorem dX7_knows_177 : decode cX7_knows 177 = .ok (.invokevirtual 314, 3) := by decide +kernel
theorem dX7_knows_180 : decode cX7_knows 180 = .ok (.iconst 1, 1) := by decide +kernel
theorem dX7_knows_181 : decode cX7_knows 181 = .ok (.ireturn, 1) := by decide +kernel
theorem dX7_knows_182 : decode cX7_knows 182 = .ok (.aload_n 0, 1) := by decide +kernel
theorem dX7_knows_183 : decode cX7_knows 183 = .ok (.getfield 307, 3) := by decide +kernel
theorem dX7_knows_186 : decode cX7_knows 186 = .ok (.istore_n 2, 1) := by decide +kernel
theorem dX7_knows_187 : decode cX7_knows 187 = .ok (.iconst 0, 1) := by decide +kernel
theorem dX7_knows_188 : decode cX7_knows 188 = .ok (.istore_n 3, 1) := by decide +kernel
theorem dX7_knows_189 : decode cX7_knows 189 = .ok (.iload_n 3, 1) := by decide +kernel
theorem dX7_knows_190 : decode cX7_knows 190 = .ok (.iload_n 2, 1) := by decide +kernel
theorem dX7_knows_191 : decode cX7_knows 191 = .ok (.if_icmp .ge 99, 3) := by decide +kernel
theorem dX7_knows_194 : decode cX7_knows 194 = .ok (.iload_n 2, 1) := by decide +kernel
theorem dX7_knows_195 : decode cX7_knows 195 = .ok (.aload_n 0, 1) := by decide +kernel
theorem dX7_knows_196 : decode cX7_knows 196 = .ok (.getfield 101, 3) := by decide +kernel
theorem dX7_knows_199 : decode cX7_knows 199 = .ok (.if_icmp .ge 91, 3) := by decide +kernel
theorem dX7_knows_202 : decode cX7_knows 202 = .ok (.aload_n 0, 1) := by decide +kernel
theorem dX7_knows_203 : decode cX7_knows 203 = .ok (.iload_n 1, 1) := by decide +kernel
theorem dX7_knows_204 : decode cX7_knows 204 = .ok (.i2l, 1) := by decide +kernel
theorem dX7_knows_205 : decode cX7_knows 205 = .ok (.aload_n 0, 1) := by decide +kernel
theorem dX7_knows_206 : decode cX7_knows 206 = .ok (.getfield 53, 3) := by decide +kernel
theorem dX7_knows_209 : decode cX7_knows 209 = .ok (.invokevirtual 310, 3) := by decide +kernel
theorem dX7_knows_212 : decode cX7_knows 212 = .ok (.aload_n 0, 1) := by decide +kernel
theorem dX7_knows_213 : decode cX7_knows 213 = .ok (.iload_n 3, 1) := by decide +kernel
theorem dX7_knows_214 : decode cX7_knows 214 = .ok (.aload_n 0, 1) := by decide +kernel
theorem dX7_knows_215 : decode cX7_knows 215 = .ok (.getfield 56, 3) := by decide +kernel
theorem dX7_knows_218 : decode cX7_knows 218 = .ok (.invokevirtual 318, 3) := by decide +kernel
theorem dX7_knows_221 : decode cX7_knows 221 = .ok (.aload_n 0, 1) := by decide +kernel
theorem dX7_knows_222 : decode cX7_knows 222 = .ok (.invokevirtual 291, 3) := by decide +kernel
theorem dX7_knows_225 : decode cX7_knows 225 = .ok (.aload_n 0, 1) := by decide +kernel
theorem dX7_knows_226 : decode cX7_knows 226 = .ok (.aload_n 0, 1) := by decide +kernel
theorem dX7_knows_227 : decode cX7_knows 227 = .ok (.getfield 50, 3) := by decide +kernel
theorem dX7_knows_230 : decode cX7_knows 230 = .ok (.aload_n 0, 1) := by decide +kernel
theorem dX7_knows_231 : decode cX7_knows 231 = .ok (.getfield 53, 3) := by decide +kernel
theorem dX7_knows_234 : decode cX7_knows 234 = .ok (.invokevirtual 321, 3) := by decide +kernel
theorem dX7_knows_237 : decode cX7_knows 237 = .ok (.aload_n 0, 1) := by decide +kernel
theorem dX7_knows_238 : decode cX7_knows 238 = .ok (.invokevirtual 288, 3) := by decide +kernel
theorem dX7_knows_241 : decode cX7_knows 241 = .ok (.istore 4, 2) := by decide +kernel
theorem dX7_knows_243 : decode cX7_knows 243 = .ok (.iload 4, 2) := by decide +kernel
theorem dX7_knows_245 : decode cX7_knows 245 = .ok (.ifCond .eq 20, 3) := by decide +kernel
theorem dX7_knows_248 : decode cX7_knows 248 = .ok (.aload_n 0, 1) := by decide +kernel
theorem dX7_knows_249 : decode cX7_knows 249 = .ok (.getfield 65, 3) := by decide +kernel
theorem dX7_knows_252 : decode cX7_knows 252 = .ok (.iload_n 3, 1) := by decide +kernel
theorem dX7_knows_253 : decode cX7_knows 253 = .ok (.aload_n 0, 1) := by decide +kernel
theorem dX7_knows_254 : decode cX7_knows 254 = .ok (.getfield 101, 3) := by decide +kernel
theorem dX7_knows_257 : decode cX7_knows 257 = .ok (.iconst 1, 1) := by decide +kernel
theorem dX7_knows_258 : decode cX7_knows 258 = .ok (.iadd, 1) := by decide +kernel
theorem dX7_knows_259 : decode cX7_knows 259 = .ok (.iload_n 2, 1) := by decide +kernel
theorem dX7_knows_260 : decode cX7_knows 260 = .ok (.isub, 1) := by decide +kernel
theorem dX7_knows_261 : decode cX7_knows 261 = .ok (.iastore, 1) := by decide +kernel
theorem dX7_knows_262 : decode cX7_knows 262 = .ok (.goto 22, 3) := by decide +kernel
theorem dX7_knows_265 : decode cX7_knows 265 = .ok (.aload_n 0, 1) := by decide +kernel
theorem dX7_knows_266 : decode cX7_knows 266 = .ok (.getfield 101, 3) := by decide +kernel
theorem dX7_knows_269 : decode cX7_knows 269 = .ok (.iconst 3, 1) := by decide +kernel
theorem dX7_knows_270 : decode cX7_knows 270 = .ok (.if_icmp .ne 14, 3) := by decide +kernel
theorem dX7_knows_273 : decode cX7_knows 273 = .ok (.iload_n 2, 1) := by decide +kernel
theorem dX7_knows_274 : decode cX7_knows 274 = .ok (.iconst 1, 1) := by decide +kernel
theorem dX7_knows_275 : decode cX7_knows 275 = .ok (.if_icmp .ne 9, 3) := by decide +kernel
theorem dX7_knows_278 : decode cX7_knows 278 = .ok (.aload_n 0, 1) := by decide +kernel
theorem dX7_knows_279 : decode cX7_knows 279 = .ok (.iconst 2, 1) := by decide +kernel
theorem dX7_knows_280 : decode cX7_knows 280 = .ok (.iconst 1, 1) := by decide +kernel
theorem dX7_knows_281 : decode cX7_knows 281 = .ok (.invokevirtual 314, 3) := by decide +kernel
theorem dX7_knows_284 : decode cX7_knows 284 = .ok (.iinc 3 1, 3) := by decide +kernel
theorem dX7_knows_287 : decode cX7_knows 287 = .ok (.goto (-98), 3) := by decide +kernel
theorem dX7_knows_290 : decode cX7_knows 290 = .ok (.iconst 1, 1) := by decide +kernel
theorem dX7_knows_291 : decode cX7_knows 291 = .ok (.ireturn, 1) := by decide +kernel
theorem bX7_knows_0 {l : Launch} {D : va_G} {aI aL : ClassId} {ad : Nat → Nat} {P : sa_P} {I : sa_I} {J : sa_J} {x1 : Int32}   (kt : x1 < (2 : Int32) → Sat (ER l D aI aL ad) M_X7_knows P 18 [] [] I J) (kf : ¬ x1 < (2 : Int32) → Sat (ER l D aI aL ad) M_X7_knows P 5 [(0, .ref (ad 0)), (1, .int x1)] [] I J) : Sat (ER l D aI aL ad) M_X7_knows P 0 [(0, .ref (ad 0)), (1, .int x1)] [] I J := by
  refine s_iload_n 1 dX7_knows_0 rfl ?_
  refine s_iconst (v := 2) dX7_knows_1 rfl ?_
  refine s_icmp_lt (tgt := 18) dX7_knows_2 (by decide) (fun c => ?_) (fun c => ?_)
  · refine s_pick [] [] rfl ?_; exact kt c
  · exact kf c
theorem bX7_knows_5 {l : Launch} {D : va_G} {aI aL : ClassId} {ad : Nat → Nat} {P : sa_P} {I : sa_I} {J : sa_J} {x1 : Int32}   (kt : (97 : Int32) < x1 → Sat (ER l D aI aL ad) M_X7_knows P 18 [] [] I J) (kf : ¬ (97 : Int32) < x1 → Sat (ER l D aI aL ad) M_X7_knows P 11 [(0, .ref (ad 0)), (1, .int x1)] [] I J) : Sat (ER l D aI aL ad) M_X7_knows P 5 [(0, .ref (ad 0)), (1, .int x1)] [] I J := by
  refine s_iload_n 1 dX7_knows_5 rfl ?_
  refine s_bipush (v := 97) dX7_knows_6 rfl ?_
  refine s_icmp_gt (tgt := 18) dX7_knows_8 (by decide) (fun c => ?_) (fun c => ?_)
  · refine s_pick [] [] rfl ?_; exact kt c
  · exact kf c
theorem bX7_knows_11 {l : Launch} {D : va_G} {aI aL : ClassId} {ad : Nat → Nat} {P : sa_P} {I : sa_I} {J : sa_J} {x1 : Int32}   (k : Sat (ER l D aI aL ad) M_X7_knows P 12 [(0, .ref (ad 0)), (1, .int x1)] [.int x1] I J) : Sat (ER l D aI aL ad) M_X7_knows P 11 [(0, .ref (ad 0)), (1, .int x1)] [] I J := by
  refine s_iload_n 1 dX7_knows_11 rfl ?_
  exact k
theorem bX7_knows_15 {l : Launch} {D : va_G} {aI aL : ClassId} {ad : Nat → Nat} {P : sa_P} {I : sa_I} {J : sa_J} {x1 : Int32} {s0 : Int32}   (kt : ¬ s0 = 0 → Sat (ER l D aI aL ad) M_X7_knows P 20 [(0, .ref (ad 0)), (1, .int x1)] [] I J) (kf : s0 = 0 → Sat (ER l D aI aL ad) M_X7_knows P 18 [] [] I J) : Sat (ER l D aI aL ad) M_X7_knows P 15 [(0, .ref (ad 0)), (1, .int x1)] [.int s0] I J := by
  refine s_if_ne (tgt := 20) dX7_knows_15 (by decide) (fun c => ?_) (fun c => ?_)
  · exact kt c
  · refine s_pick [] [] rfl ?_; exact kf (by first | exact c | exact Classical.not_not.mp c)
theorem bX7_knows_18 {l : Launch} {D : va_G} {aI aL : ClassId} {ad : Nat → Nat} {P : sa_P} {I : sa_I} {J : sa_J}    (k : P (some (.int (0 : Int32))) I J) : Sat (ER l D aI aL ad) M_X7_knows P 18 [] [] I J := by
  refine s_iconst (v := 0) dX7_knows_18 rfl ?_
  exact s_zret rfl rfl dX7_knows_19 k
theorem bX7_knows_20 {l : Launch} {D : va_G} {aI aL : ClassId} {ad : Nat → Nat} {P : sa_P} {I : sa_I} {J : sa_J} {x1 : Int32}   (kt : ¬ I 0 31 = x1 → Sat (ER l D aI aL ad) M_X7_knows P 30 [(0, .ref (ad 0)), (1, .int x1)] [] I J) (kf : I 0 31 = x1 → Sat (ER l D aI aL ad) M_X7_knows P 28 [] [] I J) : Sat (ER l D aI aL ad) M_X7_knows P 20 [(0, .ref (ad 0)), (1, .int x1)] [] I J := by
  refine s_aload_n 0 dX7_knows_20 rfl ?_
  refine g_X7_172 dX7_knows_21 rfl ?_
  refine s_iload_n 1 dX7_knows_24 rfl ?_
  refine s_icmp_ne (tgt := 30) dX7_knows_25 (by decide) (fun c => ?_) (fun c => ?_)
  · exact kt c
  · refine s_pick [] [] rfl ?_; exact kf (by first | exact c | exact Classical.not_not.mp c)
theorem bX7_knows_28 {l : Launch} {D : va_G} {aI aL : ClassId} {ad : Nat → Nat} {P : sa_P} {I : sa_I} {J : sa_J}    (k : P (some (.int (1 : Int32))) I J) : Sat (ER l D aI aL ad) M_X7_knows P 28 [] [] I J := by
  refine s_iconst (v := 1) dX7_knows_28 rfl ?_
  exact s_zret rfl rfl dX7_knows_29 k
theorem bX7_knows_30 {l : Launch} {D : va_G} {aI aL : ClassId} {ad : Nat → Nat} {P : sa_P} {I : sa_I} {J : sa_J} {x1 : Int32} {v37 : Int32} {v41 : Int32}  (f37 : (0 : Int32) = v37) (f41 : (0 : Int32) = v41) (k : Sat (ER l D aI aL ad) M_X7_knows P 42 [(0, .ref (ad 0)), (1, .int x1), (2, .int v41)] [] (sa_uI (sa_uI I 0 31 x1) 0 32 v37) J) : Sat (ER l D aI aL ad) M_X7_knows P 30 [(0, .ref (ad 0)), (1, .int x1)] [] I J := by
  refine s_aload_n 0 dX7_knows_30 rfl ?_
  refine s_iload_n 1 dX7_knows_31 rfl ?_
  refine p_X7_172 dX7_knows_32 rfl ?_
  refine s_aload_n 0 dX7_knows_35 rfl ?_
  refine s_iconst (v := 0) dX7_knows_36 rfl ?_
  refine s_eqi f37 ?_
  refine p_X7_307 dX7_knows_37 rfl ?_
  refine s_iconst (v := 0) dX7_knows_40 rfl ?_
  refine s_eqi f41 ?_
  refine s_istore_n [(2, .int v41), (0, .ref (ad 0)), (1, .int x1)] dX7_knows_41 (Nat.lt_of_lt_of_le (Nat.lt_succ_self _) (Nat.le_of_ble_eq_true rfl)) rfl ?_
  refine s_pick [1, 2, 0] [(0, .ref (ad 0)), (1, .int x1), (2, .int v41)] rfl ?_; exact k
theorem bX7_knows_42 {l : Launch} {D : va_G} {aI aL : ClassId} {ad : Nat → Nat} {P : sa_P} {I : sa_I} {J : sa_J} {x1 : Int32} {x2 : Int32}   (kt : x1 ≤ x2 → Sat (ER l D aI aL ad) M_X7_knows P 154 [(0, .ref (ad 0)), (1, .int x1)] [] I J) (kf : ¬ x1 ≤ x2 → Sat (ER l D aI aL ad) M_X7_knows P 47 [(0, .ref (ad 0)), (1, .int x1), (2, .int x2)] [] I J) : Sat (ER l D aI aL ad) M_X7_knows P 42 [(0, .ref (ad 0)), (1, .int x1), (2, .int x2)] [] I J := by
  refine s_iload_n 2 dX7_knows_42 rfl ?_
  refine s_iload_n 1 dX7_knows_43 rfl ?_
  refine s_icmp_ge (tgt := 154) dX7_knows_44 (by decide) (fun c => ?_) (fun c => ?_)
  · refine s_pick [0, 1] [(0, .ref (ad 0)), (1, .int x1)] rfl ?_; exact kt c
  · exact kf c
theorem bX7_knows_47 {l : Launch} {D : va_G} {aI aL : ClassId} {ad : Nat → Nat} {P : sa_P} {I : sa_I} {J : sa_J} {x1 : Int32} {x2 : Int32} {v48 : Int32}  (f48 : (0 : Int32) = v48) (k : Sat (ER l D aI aL ad) M_X7_knows P 49 [(0, .ref (ad 0)), (1, .int x1), (2, .int x2), (3, .int v48)] [] I J) : Sat (ER l D aI aL ad) M_X7_knows P 47 [(0, .ref (ad 0)), (1, .int x1), (2, .int x2)] [] I J := by
  refine s_iconst (v := 0) dX7_knows_47 rfl ?_
  refine s_eqi f48 ?_
  refine s_istore_n [(3, .int v48), (0, .ref (ad 0)), (1, .int x1), (2, .int x2)] dX7_knows_48 (Nat.lt_of_lt_of_le (Nat.lt_succ_self _) (Nat.le_of_ble_eq_true rfl)) rfl ?_
  refine s_pick [1, 2, 3, 0] [(0, .ref (ad 0)), (1, .int x1), (2, .int x2), (3, .int v48)] rfl ?_; exact k
theorem bX7_knows_49 {l : Launch} {D : va_G} {aI aL : ClassId} {ad : Nat → Nat} {P : sa_P} {I : sa_I} {J : sa_J} {x1 : Int32} {x2 : Int32} {x3 : Int32}   (kt : ¬ I 0 1 = (3 : Int32) → Sat (ER l D aI aL ad) M_X7_knows P 62 [(0, .ref (ad 0)), (1, .int x1), (2, .int x2), (3, .int x3)] [.int x3] I J) (kf : I 0 1 = (3 : Int32) → Sat (ER l D aI aL ad) M_X7_knows P 58 [(0, .ref (ad 0)), (1, .int x1), (2, .int x2), (3, .int x3)] [.int x3] I J) : Sat (ER l D aI aL ad) M_X7_knows P 49 [(0, .ref (ad 0)), (1, .int x1), (2, .int x2), (3, .int x3)] [] I J := by
  refine s_iload_n 3 dX7_knows_49 rfl ?_
  refine s_aload_n 0 dX7_knows_50 rfl ?_
  refine g_X7_101 dX7_knows_51 rfl ?_
  refine s_iconst (v := 3) dX7_knows_54 rfl ?_
  refine s_icmp_ne (tgt := 62) dX7_knows_55 (by decide) (fun c => ?_) (fun c => ?_)
  · exact kt c
  · exact kf (by first | exact c | exact Classical.not_not.mp c)
theorem bX7_knows_58 {l : Launch} {D : va_G} {aI aL : ClassId} {ad : Nat → Nat} {P : sa_P} {I : sa_I} {J : sa_J} {x1 : Int32} {x2 : Int32} {x3 : Int32} {s0 : Int32}   (k : Sat (ER l D aI aL ad) M_X7_knows P 63 [(0, .ref (ad 0)), (1, .int x1), (2, .int x2), (3, .int x3)] [.int x1, .int s0] I J) : Sat (ER l D aI aL ad) M_X7_knows P 58 [(0, .ref (ad 0)), (1, .int x1), (2, .int x2), (3, .int x3)] [.int s0] I J := by
  refine s_iload_n 1 dX7_knows_58 rfl ?_
  refine s_goto (tgt := 63) dX7_knows_59 (by decide) ?_
  exact k
theorem bX7_knows_62 {l : Launch} {D : va_G} {aI aL : ClassId} {ad : Nat → Nat} {P : sa_P} {I : sa_I} {J : sa_J} {x1 : Int32} {x2 : Int32} {x3 : Int32} {s0 : Int32}   (k : Sat (ER l D aI aL ad) M_X7_knows P 63 [(0, .ref (ad 0)), (1, .int x1), (2, .int x2), (3, .int x3)] [.int (1 : Int32), .int s0] I J) : Sat (ER l D aI aL ad) M_X7_knows P 62 [(0, .ref (ad 0)), (1, .int x1), (2, .int x2), (3, .int x3)] [.int s0] I J := by
  refine s_iconst (v := 1) dX7_knows_62 rfl ?_
  exact k
theorem bX7_knows_63 {l : Launch} {D : va_G} {aI aL : ClassId} {ad : Nat → Nat} {P : sa_P} {I : sa_I} {J : sa_J} {x1 : Int32} {x2 : Int32} {x3 : Int32} {s0 : Int32} {s1 : Int32}   (kt : s1 ≤ s0 → Sat (ER l D aI aL ad) M_X7_knows P 148 [(0, .ref (ad 0)), (1, .int x1), (2, .int x2)] [] I J) (kf : ¬ s1 ≤ s0 → Sat (ER l D aI aL ad) M_X7_knows P 66 [(0, .ref (ad 0)), (1, .int x1), (2, .int x2), (3, .int x3)] [] I J) : Sat (ER l D aI aL ad) M_X7_knows P 63 [(0, .ref (ad 0)), (1, .int x1), (2, .int x2), (3, .int x3)] [.int s1, .int s0] I J := by
  refine s_icmp_ge (tgt := 148) dX7_knows_63 (by decide) (fun c => ?_) (fun c => ?_)
  · refine s_pick [0, 1, 2] [(0, .ref (ad 0)), (1, .int x1), (2, .int x2)] rfl ?_; exact kt c
  · exact kf c
theorem bX7_knows_66 {l : Launch} {D : va_G} {aI aL : ClassId} {ad : Nat → Nat} {P : sa_P} {I : sa_I} {J : sa_J} {x1 : Int32} {x2 : Int32} {x3 : Int32} (z71 : ¬ x1 = 0) (z77 : ¬ x1 = 0)  (k : Sat (ER l D aI aL ad) M_X7_knows P 81 [(0, .ref (ad 0)), (1, .int x1), (2, .int x2), (3, .int x3)] [.long x1.toInt64, .long (((x1 - x3) - (x1 - x3) / x1 * x1).toInt64), .long (((x1 - x2) - (x1 - x2) / x1 * x1).toInt64), .ref (ad 0)] I J) : Sat (ER l D aI aL ad) M_X7_knows P 66 [(0, .ref (ad 0)), (1, .int x1), (2, .int x2), (3, .int x3)] [] I J := by
  refine s_aload_n 0 dX7_knows_66 rfl ?_
  refine s_iload_n 1 dX7_knows_67 rfl ?_
  refine s_iload_n 2 dX7_knows_68 rfl ?_
  refine s_isub dX7_knows_69 ?_
  refine s_iload_n 1 dX7_knows_70 rfl ?_
  refine s_irem dX7_knows_71 z71 ?_
  refine s_i2l dX7_knows_72 ?_
  refine s_iload_n 1 dX7_knows_73 rfl ?_
  refine s_iload_n 3 dX7_knows_74 rfl ?_
  refine s_isub dX7_knows_75 ?_
  refine s_iload_n 1 dX7_knows_76 rfl ?_
  refine s_irem dX7_knows_77 z77 ?_
  refine s_i2l dX7_knows_78 ?_
  refine s_iload_n 1 dX7_knows_79 rfl ?_
  refine s_i2l dX7_knows_80 ?_
  exact k
theorem bX7_knows_84 {l : Launch} {D : va_G} {aI aL : ClassId} {ad : Nat → Nat} {P : sa_P} {I : sa_I} {J : sa_J} {x1 : Int32} {x2 : Int32} {x3 : Int32} {s0 : Int32}   (kt : ¬ s0 = 0 → Sat (ER l D aI aL ad) M_X7_knows P 90 [(0, .ref (ad 0)), (1, .int x1), (2, .int x2), (3, .int x3)] [] I J) (kf : s0 = 0 → Sat (ER l D aI aL ad) M_X7_knows P 87 [(0, .ref (ad 0)), (1, .int x1), (2, .int x2), (3, .int x3)] [] I J) : Sat (ER l D aI aL ad) M_X7_knows P 84 [(0, .ref (ad 0)), (1, .int x1), (2, .int x2), (3, .int x3)] [.int s0] I J := by
  refine s_if_ne (tgt := 90) dX7_knows_84 (by decide) (fun c => ?_) (fun c => ?_)
  · exact kt c
  · exact kf (by first | exact c | exact Classical.not_not.mp c)
theorem bX7_knows_87 {l : Launch} {D : va_G} {aI aL : ClassId} {ad : Nat → Nat} {P : sa_P} {I : sa_I} {J : sa_J} {x1 : Int32} {x2 : Int32} {x3 : Int32}   (k : Sat (ER l D aI aL ad) M_X7_knows P 142 [(0, .ref (ad 0)), (1, .int x1), (2, .int x2), (3, .int x3)] [] I J) : Sat (ER l D aI aL ad) M_X7_knows P 87 [(0, .ref (ad 0)), (1, .int x1), (2, .int x2), (3, .int x3)] [] I J := by
  refine s_goto (tgt := 142) dX7_knows_87 (by decide) ?_
  exact k
theorem bX7_knows_90 {l : Launch} {D : va_G} {aI aL : ClassId} {ad : Nat → Nat} {P : sa_P} {I : sa_I} {J : sa_J} {x1 : Int32} {x2 : Int32} {x3 : Int32}   (k : Sat (ER l D aI aL ad) M_X7_knows P 96 [(0, .ref (ad 0)), (1, .int x1), (2, .int x2), (3, .int x3)] [.ref (ad 14), .long (1 : Int64), .ref (ad 0)] I J) : Sat (ER l D aI aL ad) M_X7_knows P 90 [(0, .ref (ad 0)), (1, .int x1), (2, .int x2), (3, .int x3)] [] I J := by
  refine s_aload_n 0 dX7_knows_90 rfl ?_
  refine s_lconst (v := 1) dX7_knows_91 rfl ?_
  refine s_aload_n 0 dX7_knows_92 rfl ?_
  refine g_X7_50 dX7_knows_93 rfl ?_
  exact k
theorem bX7_knows_99 {l : Launch} {D : va_G} {aI aL : ClassId} {ad : Nat → Nat} {P : sa_P} {I : sa_I} {J : sa_J} {x1 : Int32} {x2 : Int32} {x3 : Int32} {v106 : Int64} {v114 : Int64}  (f106 : x1.toInt64 = v106) (f114 : x2.toInt64 = v114) (kt : ¬ I 0 1 = (3 : Int32) → Sat (ER l D aI aL ad) M_X7_knows P 134 [(0, .ref (ad 0)), (1, .int x1), (2, .int x2), (3, .int x3)] [.int (6 : Int32), .ref (ad 14)] I (sa_uJ (sa_uJ J 14 0 v106) 14 3 v114)) (kf : I 0 1 = (3 : Int32) → Sat (ER l D aI aL ad) M_X7_knows P 129 [(0, .ref (ad 0)), (1, .int x1), (2, .int x2), (3, .int x3)] [.int (6 : Int32), .ref (ad 14)] I (sa_uJ (sa_uJ J 14 0 v106) 14 3 v114)) : Sat (ER l D aI aL ad) M_X7_knows P 99 [(0, .ref (ad 0)), (1, .int x1), (2, .int x2), (3, .int x3)] [] I J := by
  refine s_aload_n 0 dX7_knows_99 rfl ?_
  refine g_X7_50 dX7_knows_100 rfl ?_
  refine s_iconst (v := 0) dX7_knows_103 rfl ?_
  refine s_eqi (y := nI 0) rfl ?_
  refine s_iload_n 1 dX7_knows_104 rfl ?_
  refine s_i2l dX7_knows_105 ?_
  refine s_eql f106 ?_
  refine s_lastoreN aJ_R14 (by decide) (by decide) dX7_knows_106 ?_
  refine s_aload_n 0 dX7_knows_107 rfl ?_
  refine g_X7_50 dX7_knows_108 rfl ?_
  refine s_iconst (v := 3) dX7_knows_111 rfl ?_
  refine s_eqi (y := nI 3) rfl ?_
  refine s_iload_n 2 dX7_knows_112 rfl ?_
  refine s_i2l dX7_knows_113 ?_
  refine s_eql f114 ?_
  refine s_lastoreN aJ_R14 (by decide) (by decide) dX7_knows_114 ?_
  refine s_aload_n 0 dX7_knows_115 rfl ?_
  refine g_X7_50 dX7_knows_116 rfl ?_
  refine s_bipush (v := 6) dX7_knows_119 rfl ?_
  refine s_aload_n 0 dX7_knows_121 rfl ?_
  refine g_X7_101 dX7_knows_122 rfl ?_
  refine s_iconst (v := 3) dX7_knows_125 rfl ?_
  refine s_icmp_ne (tgt := 134) dX7_knows_126 (by decide) (fun c => ?_) (fun c => ?_)
  · exact kt c
  · exact kf (by first | exact c | exact Classical.not_not.mp c)
theorem bX7_knows_129 {l : Launch} {D : va_G} {aI aL : ClassId} {ad : Nat → Nat} {P : sa_P} {I : sa_I} {J : sa_J} {x1 : Int32} {x2 : Int32} {x3 : Int32} {s1 : Int32}   (k : Sat (ER l D aI aL ad) M_X7_knows P 135 [(0, .ref (ad 0)), (1, .int x1), (2, .int x2), (3, .int x3)] [.long x3.toInt64, .int s1, .ref (ad 14)] I J) : Sat (ER l D aI aL ad) M_X7_knows P 129 [(0, .ref (ad 0)), (1, .int x1), (2, .int x2), (3, .int x3)] [.int s1, .ref (ad 14)] I J := by
  refine s_iload_n 3 dX7_knows_129 rfl ?_
  refine s_i2l dX7_knows_130 ?_
  refine s_goto (tgt := 135) dX7_knows_131 (by decide) ?_
  exact k
theorem bX7_knows_134 {l : Launch} {D : va_G} {aI aL : ClassId} {ad : Nat → Nat} {P : sa_P} {I : sa_I} {J : sa_J} {x1 : Int32} {x2 : Int32} {x3 : Int32} {s1 : Int32}   (k : Sat (ER l D aI aL ad) M_X7_knows P 135 [(0, .ref (ad 0)), (1, .int x1), (2, .int x2), (3, .int x3)] [.long (0 : Int64), .int s1, .ref (ad 14)] I J) : Sat (ER l D aI aL ad) M_X7_knows P 134 [(0, .ref (ad 0)), (1, .int x1), (2, .int x2), (3, .int x3)] [.int s1, .ref (ad 14)] I J := by
  refine s_lconst (v := 0) dX7_knows_134 rfl ?_
  exact k
theorem bX7_knows_135 {l : Launch} {D : va_G} {aI aL : ClassId} {ad : Nat → Nat} {P : sa_P} {I : sa_I} {J : sa_J} {x1 : Int32} {x2 : Int32} {x3 : Int32} {s1 : Nat} {s2 : Int64} (h135 : s1 < 9)  (k : Sat (ER l D aI aL ad) M_X7_knows P 139 [(0, .ref (ad 0)), (1, .int x1), (2, .int x2), (3, .int x3)] [.int (1 : Int32), .int (1 : Int32), .ref (ad 0)] I (sa_uJ J 14 s1 s2)) : Sat (ER l D aI aL ad) M_X7_knows P 135 [(0, .ref (ad 0)), (1, .int x1), (2, .int x2), (3, .int x3)] [.long s2, .int (nI s1), .ref (ad 14)] I J := by
  refine s_lastoreN aJ_R14 h135 (by decide) dX7_knows_135 ?_
  refine s_aload_n 0 dX7_knows_136 rfl ?_
  refine s_iconst (v := 1) dX7_knows_137 rfl ?_
  refine s_iconst (v := 1) dX7_knows_138 rfl ?_
  exact k
theorem bX7_knows_142 {l : Launch} {D : va_G} {aI aL : ClassId} {ad : Nat → Nat} {P : sa_P} {I : sa_I} {J : sa_J} {x1 : Int32} {x2 : Int32} {x3 : Int32} {v142 : Int32}  (f142 : x3 + 1 = v142) (k : Sat (ER l D aI aL ad) M_X7_knows P 49 [(0, .ref (ad 0)), (1, .int x1), (2, .int x2), (3, .int v142)] [] I J) : Sat (ER l D aI aL ad) M_X7_knows P 142 [(0, .ref (ad 0)), (1, .int x1), (2, .int x2), (3, .int x3)] [] I J := by
  refine s_iinc 3 v142 [(3, .int v142), (0, .ref (ad 0)), (1, .int x1), (2, .int x2)] dX7_knows_142 rfl f142 (Nat.lt_of_lt_of_le (Nat.lt_succ_self _) (Nat.le_of_ble_eq_true rfl)) rfl ?_
  refine s_goto (tgt := 49) dX7_knows_145 (by decide) ?_
  refine s_pick [1, 2, 3, 0] [(0, .ref (ad 0)), (1, .int x1), (2, .int x2), (3, .int v142)] rfl ?_; exact k
theorem bX7_knows_148 {l : Launch} {D : va_G} {aI aL : ClassId} {ad : Nat → Nat} {P : sa_P} {I : sa_I} {J : sa_J} {x1 : Int32} {x2 : Int32} {v148 : Int32}  (f148 : x2 + 1 = v148) (k : Sat (ER l D aI aL ad) M_X7_knows P 42 [(0, .ref (ad 0)), (1, .int x1), (2, .int v148)] [] I J) : Sat (ER l D aI aL ad) M_X7_knows P 148 [(0, .ref (ad 0)), (1, .int x1), (2, .int x2)] [] I J := by
  refine s_iinc 2 v148 [(2, .int v148), (0, .ref (ad 0)), (1, .int x1)] dX7_knows_148 rfl f148 (Nat.lt_of_lt_of_le (Nat.lt_succ_self _) (Nat.le_of_ble_eq_true rfl)) rfl ?_
  refine s_goto (tgt := 42) dX7_knows_151 (by decide) ?_
  refine s_pick [1, 2, 0] [(0, .ref (ad 0)), (1, .int x1), (2, .int v148)] rfl ?_; exact k
theorem bX7_knows_154 {l : Launch} {D : va_G} {aI aL : ClassId} {ad : Nat → Nat} {P : sa_P} {I : sa_I} {J : sa_J} {x1 : Int32}   (kt : ¬ I 0 32 = 0 → Sat (ER l D aI aL ad) M_X7_knows P 182 [(0, .ref (ad 0)), (1, .int x1)] [] I J) (kf : I 0 32 = 0 → Sat (ER l D aI aL ad) M_X7_knows P 161 [(0, .ref (ad 0)), (1, .int x1)] [] I J) : Sat (ER l D aI aL ad) M_X7_knows P 154 [(0, .ref (ad 0)), (1, .int x1)] [] I J := by
  refine s_aload_n 0 dX7_knows_154 rfl ?_
  refine g_X7_307 dX7_knows_155 rfl ?_
  refine s_if_ne (tgt := 182) dX7_knows_158 (by decide) (fun c => ?_) (fun c => ?_)
  · exact kt c
  · exact kf (by first | exact c | exact Classical.not_not.mp c)
theorem bX7_knows_161 {l : Launch} {D : va_G} {aI aL : ClassId} {ad : Nat → Nat} {P : sa_P} {I : sa_I} {J : sa_J} {x1 : Int32}   (k : Sat (ER l D aI aL ad) M_X7_knows P 168 [(0, .ref (ad 0))] [.ref (ad 14), .long x1.toInt64, .ref (ad 0)] I J) : Sat (ER l D aI aL ad) M_X7_knows P 161 [(0, .ref (ad 0)), (1, .int x1)] [] I J := by
  refine s_aload_n 0 dX7_knows_161 rfl ?_
  refine s_iload_n 1 dX7_knows_162 rfl ?_
  refine s_i2l dX7_knows_163 ?_
  refine s_aload_n 0 dX7_knows_164 rfl ?_
  refine g_X7_50 dX7_knows_165 rfl ?_
  refine s_pick [0] [(0, .ref (ad 0))] rfl ?_; exact k
theorem bX7_knows_171 {l : Launch} {D : va_G} {aI aL : ClassId} {ad : Nat → Nat} {P : sa_P} {I : sa_I} {J : sa_J}    (k : Sat (ER l D aI aL ad) M_X7_knows P 177 [] [.int (1 : Int32), .int (I 0 1), .ref (ad 0)] I J) : Sat (ER l D aI aL ad) M_X7_knows P 171 [(0, .ref (ad 0))] [] I J := by
  refine s_aload_n 0 dX7_knows_171 rfl ?_
  refine s_aload_n 0 dX7_knows_172 rfl ?_
  refine g_X7_101 dX7_knows_173 rfl ?_
  refine s_iconst (v := 1) dX7_knows_176 rfl ?_
  refine s_pick [] [] rfl ?_; exact k
theorem bX7_knows_180 {l : Launch} {D : va_G} {aI aL : ClassId} {ad : Nat → Nat} {P : sa_P} {I : sa_I} {J : sa_J}    (k : P (some (.int (1 : Int32))) I J) : Sat (ER l D aI aL ad) M_X7_knows P 180 [] [] I J := by
  refine s_iconst (v := 1) dX7_knows_180 rfl ?_
  exact s_zret rfl rfl dX7_knows_181 k
theorem bX7_knows_182 {l : Launch} {D : va_G} {aI aL : ClassId} {ad : Nat → Nat} {P : sa_P} {I : sa_I} {J : sa_J} {x1 : Int32} {v186 : Int32} {v188 : Int32}  (f186 : I 0 32 = v186) (f188 : (0 : Int32) = v188) (k : Sat (ER l D aI aL ad) M_X7_knows P 189 [(0, .ref (ad 0)), (1, .int x1), (2, .int v186), (3, .int v188)] [] I J) : Sat (ER l D aI aL ad) M_X7_knows P 182 [(0, .ref (ad 0)), (1, .int x1)] [] I J := by
  refine s_aload_n 0 dX7_knows_182 rfl ?_
  refine g_X7_307 dX7_knows_183 rfl ?_
  refine s_eqi f186 ?_
  refine s_istore_n [(2, .int v186), (0, .ref (ad 0)), (1, .int x1)] dX7_knows_186 (Nat.lt_of_lt_of_le (Nat.lt_succ_self _) (Nat.le_of_ble_eq_true rfl)) rfl ?_
  refine s_iconst (v := 0) dX7_knows_187 rfl ?_
  refine s_eqi f188 ?_
  refine s_istore_n [(3, .int v188), (2, .int v186), (0, .ref (ad 0)), (1, .int x1)] dX7_knows_188 (Nat.lt_of_lt_of_le (Nat.lt_succ_self _) (Nat.le_of_ble_eq_true rfl)) rfl ?_
  refine s_pick [2, 3, 1, 0] [(0, .ref (ad 0)), (1, .int x1), (2, .int v186), (3, .int v188)] rfl ?_; exact k
theorem bX7_knows_189 {l : Launch} {D : va_G} {aI aL : ClassId} {ad : Nat → Nat} {P : sa_P} {I : sa_I} {J : sa_J} {x1 : Int32} {x2 : Int32} {x3 : Int32}   (kt : x2 ≤ x3 → Sat (ER l D aI aL ad) M_X7_knows P 290 [] [] I J) (kf : ¬ x2 ≤ x3 → Sat (ER l D aI aL ad) M_X7_knows P 194 [(0, .ref (ad 0)), (1, .int x1), (2, .int x2), (3, .int x3)] [] I J) : Sat (ER l D aI aL ad) M_X7_knows P 189 [(0, .ref (ad 0)), (1, .int x1), (2, .int x2), (3, .int x3)] [] I J := by
  refine s_iload_n 3 dX7_knows_189 rfl ?_
  refine s_iload_n 2 dX7_knows_190 rfl ?_
  refine s_icmp_ge (tgt := 290) dX7_knows_191 (by decide) (fun c => ?_) (fun c => ?_)
  · refine s_pick [] [] rfl ?_; exact kt c
  · exact kf c
theorem bX7_knows_194 {l : Launch} {D : va_G} {aI aL : ClassId} {ad : Nat → Nat} {P : sa_P} {I : sa_I} {J : sa_J} {x1 : Int32} {x2 : Int32} {x3 : Int32}   (kt : I 0 1 ≤ x2 → Sat (ER l D aI aL ad) M_X7_knows P 290 [] [] I J) (kf : ¬ I 0 1 ≤ x2 → Sat (ER l D aI aL ad) M_X7_knows P 202 [(0, .ref (ad 0)), (1, .int x1), (2, .int x2), (3, .int x3)] [] I J) : Sat (ER l D aI aL ad) M_X7_knows P 194 [(0, .ref (ad 0)), (1, .int x1), (2, .int x2), (3, .int x3)] [] I J := by
  refine s_iload_n 2 dX7_knows_194 rfl ?_
  refine s_aload_n 0 dX7_knows_195 rfl ?_
  refine g_X7_101 dX7_knows_196 rfl ?_
  refine s_icmp_ge (tgt := 290) dX7_knows_199 (by decide) (fun c => ?_) (fun c => ?_)
  · refine s_pick [] [] rfl ?_; exact kt c
  · exact kf c
theorem bX7_knows_202 {l : Launch} {D : va_G} {aI aL : ClassId} {ad : Nat → Nat} {P : sa_P} {I : sa_I} {J : sa_J} {x1 : Int32} {x2 : Int32} {x3 : Int32}   (k : Sat (ER l D aI aL ad) M_X7_knows P 209 [(0, .ref (ad 0)), (1, .int x1), (2, .int x2), (3, .int x3)] [.ref (ad 15), .long x1.toInt64, .ref (ad 0)] I J) : Sat (ER l D aI aL ad) M_X7_knows P 202 [(0, .ref (ad 0)), (1, .int x1), (2, .int x2), (3, .int x3)] [] I J := by
  refine s_aload_n 0 dX7_knows_202 rfl ?_
  refine s_iload_n 1 dX7_knows_203 rfl ?_
  refine s_i2l dX7_knows_204 ?_
  refine s_aload_n 0 dX7_knows_205 rfl ?_
  refine g_X7_53 dX7_knows_206 rfl ?_
  exact k
theorem bX7_knows_212 {l : Launch} {D : va_G} {aI aL : ClassId} {ad : Nat → Nat} {P : sa_P} {I : sa_I} {J : sa_J} {x1 : Int32} {x2 : Int32} {x3 : Int32}   (k : Sat (ER l D aI aL ad) M_X7_knows P 218 [(0, .ref (ad 0)), (1, .int x1), (2, .int x2), (3, .int x3)] [.ref (ad 16), .int x3, .ref (ad 0)] I J) : Sat (ER l D aI aL ad) M_X7_knows P 212 [(0, .ref (ad 0)), (1, .int x1), (2, .int x2), (3, .int x3)] [] I J := by
  refine s_aload_n 0 dX7_knows_212 rfl ?_
  refine s_iload_n 3 dX7_knows_213 rfl ?_
  refine s_aload_n 0 dX7_knows_214 rfl ?_
  refine g_X7_56 dX7_knows_215 rfl ?_
  exact k
theorem bX7_knows_221 {l : Launch} {D : va_G} {aI aL : ClassId} {ad : Nat → Nat} {P : sa_P} {I : sa_I} {J : sa_J} {x1 : Int32} {x2 : Int32} {x3 : Int32}   (k : Sat (ER l D aI aL ad) M_X7_knows P 222 [(0, .ref (ad 0)), (1, .int x1), (2, .int x2), (3, .int x3)] [.ref (ad 0)] I J) : Sat (ER l D aI aL ad) M_X7_knows P 221 [(0, .ref (ad 0)), (1, .int x1), (2, .int x2), (3, .int x3)] [] I J := by
  refine s_aload_n 0 dX7_knows_221 rfl ?_
  exact k
theorem bX7_knows_225 {l : Launch} {D : va_G} {aI aL : ClassId} {ad : Nat → Nat} {P : sa_P} {I : sa_I} {J : sa_J} {x1 : Int32} {x2 : Int32} {x3 : Int32}   (k : Sat (ER l D aI aL ad) M_X7_knows P 234 [(0, .ref (ad 0)), (1, .int x1), (2, .int x2), (3, .int x3)] [.ref (ad 15), .ref (ad 14), .ref (ad 0)] I J) : Sat (ER l D aI aL ad) M_X7_knows P 225 [(0, .ref (ad 0)), (1, .int x1), (2, .int x2), (3, .int x3)] [] I J := by
  refine s_aload_n 0 dX7_knows_225 rfl ?_
  refine s_aload_n 0 dX7_knows_226 rfl ?_
  refine g_X7_50 dX7_knows_227 rfl ?_
  refine s_aload_n 0 dX7_knows_230 rfl ?_
  refine g_X7_53 dX7_knows_231 rfl ?_
  exact k
theorem bX7_knows_237 {l : Launch} {D : va_G} {aI aL : ClassId} {ad : Nat → Nat} {P : sa_P} {I : sa_I} {J : sa_J} {x1 : Int32} {x2 : Int32} {x3 : Int32}   (k : Sat (ER l D aI aL ad) M_X7_knows P 238 [(0, .ref (ad 0)), (1, .int x1), (2, .int x2), (3, .int x3)] [.ref (ad 0)] I J) : Sat (ER l D aI aL ad) M_X7_knows P 237 [(0, .ref (ad 0)), (1, .int x1), (2, .int x2), (3, .int x3)] [] I J := by
  refine s_aload_n 0 dX7_knows_237 rfl ?_
  exact k
theorem bX7_knows_241 {l : Launch} {D : va_G} {aI aL : ClassId} {ad : Nat → Nat} {P : sa_P} {I : sa_I} {J : sa_J} {x1 : Int32} {x2 : Int32} {x3 : Int32} {s0 : Int32}   (kt : s0 = 0 → Sat (ER l D aI aL ad) M_X7_knows P 265 [(0, .ref (ad 0)), (1, .int x1), (2, .int x2), (3, .int x3)] [] I J) (kf : ¬ s0 = 0 → Sat (ER l D aI aL ad) M_X7_knows P 248 [(0, .ref (ad 0)), (1, .int x1), (2, .int x2), (3, .int x3)] [] I J) : Sat (ER l D aI aL ad) M_X7_knows P 241 [(0, .ref (ad 0)), (1, .int x1), (2, .int x2), (3, .int x3)] [.int s0] I J := by
  refine s_istore [(4, .int s0), (0, .ref (ad 0)), (1, .int x1), (2, .int x2), (3, .int x3)] dX7_knows_241 (Nat.lt_of_lt_of_le (Nat.lt_succ_self _) (Nat.le_of_ble_eq_true rfl)) rfl ?_
  refine s_iload 0 dX7_knows_243 rfl ?_
  refine s_if_eq (tgt := 265) dX7_knows_245 (by decide) (fun c => ?_) (fun c => ?_)
  · refine s_pick [1, 2, 3, 4] [(0, .ref (ad 0)), (1, .int x1), (2, .int x2), (3, .int x3)] rfl ?_; exact kt c
  · refine s_pick [1, 2, 3, 4] [(0, .ref (ad 0)), (1, .int x1), (2, .int x2), (3, .int x3)] rfl ?_; exact kf c
theorem bX7_knows_248 {l : Launch} {D : va_G} {aI aL : ClassId} {ad : Nat → Nat} {P : sa_P} {I : sa_I} {J : sa_J} {x1 : Int32} {x2 : Int32} {x3 : Int32} {j252 : Nat} {v261 : Int32} (e252 : x3 = nI j252) (h261 : j252 < 3) (f261 : ((I 0 1) + (1 : Int32)) - x2 = v261) (k : Sat (ER l D aI aL ad) M_X7_knows P 284 [(0, .ref (ad 0)), (1, .int x1), (2, .int x2), (3, .int x3)] [] (sa_uI I 19 j252 v261) J) : Sat (ER l D aI aL ad) M_X7_knows P 248 [(0, .ref (ad 0)), (1, .int x1), (2, .int x2), (3, .int x3)] [] I J := by
  refine s_aload_n 0 dX7_knows_248 rfl ?_
  refine g_X7_65 dX7_knows_249 rfl ?_
  refine s_iload_n 3 dX7_knows_252 rfl ?_
  refine s_eqi e252 ?_
  refine s_aload_n 0 dX7_knows_253 rfl ?_
  refine g_X7_101 dX7_knows_254 rfl ?_
  refine s_iconst (v := 1) dX7_knows_257 rfl ?_
  refine s_iadd dX7_knows_258 ?_
  refine s_iload_n 2 dX7_knows_259 rfl ?_
  refine s_isub dX7_knows_260 ?_
  refine s_eqi f261 ?_
  refine s_iastoreN aI_R19 h261 (by decide) dX7_knows_261 ?_
  refine s_goto (tgt := 284) dX7_knows_262 (by decide) ?_
  exact k
theorem bX7_knows_265 {l : Launch} {D : va_G} {aI aL : ClassId} {ad : Nat → Nat} {P : sa_P} {I : sa_I} {J : sa_J} {x1 : Int32} {x2 : Int32} {x3 : Int32}   (kt : ¬ I 0 1 = (3 : Int32) → Sat (ER l D aI aL ad) M_X7_knows P 284 [(0, .ref (ad 0)), (1, .int x1), (2, .int x2), (3, .int x3)] [] I J) (kf : I 0 1 = (3 : Int32) → Sat (ER l D aI aL ad) M_X7_knows P 273 [(0, .ref (ad 0)), (1, .int x1), (2, .int x2), (3, .int x3)] [] I J) : Sat (ER l D aI aL ad) M_X7_knows P 265 [(0, .ref (ad 0)), (1, .int x1), (2, .int x2), (3, .int x3)] [] I J := by
  refine s_aload_n 0 dX7_knows_265 rfl ?_
  refine g_X7_101 dX7_knows_266 rfl ?_
  refine s_iconst (v := 3) dX7_knows_269 rfl ?_
  refine s_icmp_ne (tgt := 284) dX7_knows_270 (by decide) (fun c => ?_) (fun c => ?_)
  · exact kt c
  · exact kf (by first | exact c | exact Classical.not_not.mp c)
theorem bX7_knows_273 {l : Launch} {D : va_G} {aI aL : ClassId} {ad : Nat → Nat} {P : sa_P} {I : sa_I} {J : sa_J} {x1 : Int32} {x2 : Int32} {x3 : Int32}   (kt : ¬ x2 = (1 : Int32) → Sat (ER l D aI aL ad) M_X7_knows P 284 [(0, .ref (ad 0)), (1, .int x1), (2, .int x2), (3, .int x3)] [] I J) (kf : x2 = (1 : Int32) → Sat (ER l D aI aL ad) M_X7_knows P 278 [(0, .ref (ad 0)), (1, .int x1), (2, .int x2), (3, .int x3)] [] I J) : Sat (ER l D aI aL ad) M_X7_knows P 273 [(0, .ref (ad 0)), (1, .int x1), (2, .int x2), (3, .int x3)] [] I J := by
  refine s_iload_n 2 dX7_knows_273 rfl ?_
  refine s_iconst (v := 1) dX7_knows_274 rfl ?_
  refine s_icmp_ne (tgt := 284) dX7_knows_275 (by decide) (fun c => ?_) (fun c => ?_)
  · exact kt c
  · exact kf (by first | exact c | exact Classical.not_not.mp c)
theorem bX7_knows_278 {l : Launch} {D : va_G} {aI aL : ClassId} {ad : Nat → Nat} {P : sa_P} {I : sa_I} {J : sa_J} {x1 : Int32} {x2 : Int32} {x3 : Int32}   (k : Sat (ER l D aI aL ad) M_X7_knows P 281 [(0, .ref (ad 0)), (1, .int x1), (2, .int x2), (3, .int x3)] [.int (1 : Int32), .int (2 : Int32), .ref (ad 0)] I J) : Sat (ER l D aI aL ad) M_X7_knows P 278 [(0, .ref (ad 0)), (1, .int x1), (2, .int x2), (3, .int x3)] [] I J := by
  refine s_aload_n 0 dX7_knows_278 rfl ?_
  refine s_iconst (v := 2) dX7_knows_279 rfl ?_
  refine s_iconst (v := 1) dX7_knows_280 rfl ?_
  exact k
theorem bX7_knows_284 {l : Launch} {D : va_G} {aI aL : ClassId} {ad : Nat → Nat} {P : sa_P} {I : sa_I} {J : sa_J} {x1 : Int32} {x2 : Int32} {x3 : Int32} {v284 : Int32}  (f284 : x3 + 1 = v284) (k : Sat (ER l D aI aL ad) M_X7_knows P 189 [(0, .ref (ad 0)), (1, .int x1), (2, .int x2), (3, .int v284)] [] I J) : Sat (ER l D aI aL ad) M_X7_knows P 284 [(0, .ref (ad 0)), (1, .int x1), (2, .int x2), (3, .int x3)] [] I J := by
  refine s_iinc 3 v284 [(3, .int v284), (0, .ref (ad 0)), (1, .int x1), (2, .int x2)] dX7_knows_284 rfl f284 (Nat.lt_of_lt_of_le (Nat.lt_succ_self _) (Nat.le_of_ble_eq_true rfl)) rfl ?_
  refine s_goto (tgt := 189) dX7_knows_287 (by decide) ?_
  refine s_pick [1, 2, 3, 0] [(0, .ref (ad 0)), (1, .int x1), (2, .int x2), (3, .int v284)] rfl ?_; exact k
theorem bX7_knows_290 {l : Launch} {D : va_G} {aI aL : ClassId} {ad : Nat → Nat} {P : sa_P} {I : sa_I} {J : sa_J}    (k : P (some (.int (1 : Int32))) I J) : Sat (ER l D aI aL ad) M_X7_knows P 290 [] [] I J := by
  refine s_iconst (v := 1) dX7_knows_290 rfl ?_
  exact s_zret rfl rfl dX7_knows_291 k
/-! X7_primes -/
theorem dX7_primes_0 : decode cX7_primes 0 = .ok (.aload_n 0, 1) := by decide +kernel
theorem dX7_primes_1 : decode cX7_primes 1 = .ok (.invokevirtual 203, 3) := by decide +kernel
theorem dX7_primes_4 : decode cX7_primes 4 = .ok (.ifCond .ne 10, 3) := by decide +kernel
theorem dX7_primes_7 : decode cX7_primes 7 = .ok (.aload_n 0, 1) := by decide +kernel
theorem dX7_primes_8 : decode cX7_primes 8 = .ok (.bipush (-3), 2) := by decide +kernel
theorem dX7_primes_10 : decode cX7_primes 10 = .ok (.invokevirtual 84, 3) := by decide +kernel
theorem dX7_primes_13 : decode cX7_primes 13 = .ok (.ireturn, 1) := by decide +kernel
theorem dX7_primes_14 : decode cX7_primes 14 = .ok (.aload_n 0, 1) := by decide +kernel
theorem dX7_primes_15 : decode cX7_primes 15 = .ok (.iload_n 1, 1) := by decide +kernel
theorem dX7_primes_16 : decode cX7_primes 16 = .ok (.invokevirtual 325, 3) := by decide +kernel
theorem dX7_primes_19 : decode cX7_primes 19 = .ok (.ifCond .eq 10, 3) := by decide +kernel
theorem dX7_primes_22 : decode cX7_primes 22 = .ok (.aload_n 0, 1) := by decide +kernel
theorem dX7_primes_23 : decode cX7_primes 23 = .ok (.getfield 307, 3) := by decide +kernel
theorem dX7_primes_26 : decode cX7_primes 26 = .ok (.goto 8, 3) := by decide +kernel
theorem dX7_primes_29 : decode cX7_primes 29 = .ok (.aload_n 0, 1) := by decide +kernel
theorem dX7_primes_30 : decode cX7_primes 30 = .ok (.iconst (-1), 1) := by decide +kernel
theorem dX7_primes_31 : decode cX7_primes 31 = .ok (.invokevirtual 84, 3) := by decide +kernel
theorem dX7_primes_34 : decode cX7_primes 34 = .ok (.ireturn, 1) := by decide +kernel
theorem bX7_primes_0 {l : Launch} {D : va_G} {aI aL : ClassId} {ad : Nat → Nat} {P : sa_P} {I : sa_I} {J : sa_J} {x1 : Int32}   (k : Sat (ER l D aI aL ad) M_X7_primes P 1 [(0, .ref (ad 0)), (1, .int x1)] [.ref (ad 0)] I J) : Sat (ER l D aI aL ad) M_X7_primes P 0 [(0, .ref (ad 0)), (1, .int x1)] [] I J := by
  refine s_aload_n 0 dX7_primes_0 rfl ?_
  exact k
theorem bX7_primes_4 {l : Launch} {D : va_G} {aI aL : ClassId} {ad : Nat → Nat} {P : sa_P} {I : sa_I} {J : sa_J} {x1 : Int32} {s0 : Int32}   (kt : ¬ s0 = 0 → Sat (ER l D aI aL ad) M_X7_primes P 14 [(0, .ref (ad 0)), (1, .int x1)] [] I J) (kf : s0 = 0 → Sat (ER l D aI aL ad) M_X7_primes P 7 [(0, .ref (ad 0))] [] I J) : Sat (ER l D aI aL ad) M_X7_primes P 4 [(0, .ref (ad 0)), (1, .int x1)] [.int s0] I J := by
  refine s_if_ne (tgt := 14) dX7_primes_4 (by decide) (fun c => ?_) (fun c => ?_)
  · exact kt c
  · refine s_pick [0] [(0, .ref (ad 0))] rfl ?_; exact kf (by first | exact c | exact Classical.not_not.mp c)
theorem bX7_primes_7 {l : Launch} {D : va_G} {aI aL : ClassId} {ad : Nat → Nat} {P : sa_P} {I : sa_I} {J : sa_J}    (k : Sat (ER l D aI aL ad) M_X7_primes P 10 [] [.int (-3 : Int32), .ref (ad 0)] I J) : Sat (ER l D aI aL ad) M_X7_primes P 7 [(0, .ref (ad 0))] [] I J := by
  refine s_aload_n 0 dX7_primes_7 rfl ?_
  refine s_bipush (v := -3) dX7_primes_8 rfl ?_
  refine s_pick [] [] rfl ?_; exact k
theorem bX7_primes_13 {l : Launch} {D : va_G} {aI aL : ClassId} {ad : Nat → Nat} {P : sa_P} {I : sa_I} {J : sa_J} {s0 : Int32}   (k : P (some (.int s0)) I J) : Sat (ER l D aI aL ad) M_X7_primes P 13 [] [.int s0] I J := by
  exact s_iret rfl dX7_primes_13 k
theorem bX7_primes_14 {l : Launch} {D : va_G} {aI aL : ClassId} {ad : Nat → Nat} {P : sa_P} {I : sa_I} {J : sa_J} {x1 : Int32}   (k : Sat (ER l D aI aL ad) M_X7_primes P 16 [(0, .ref (ad 0))] [.int x1, .ref (ad 0)] I J) : Sat (ER l D aI aL ad) M_X7_primes P 14 [(0, .ref (ad 0)), (1, .int x1)] [] I J := by
  refine s_aload_n 0 dX7_primes_14 rfl ?_
  refine s_iload_n 1 dX7_primes_15 rfl ?_
  refine s_pick [0] [(0, .ref (ad 0))] rfl ?_; exact k
theorem bX7_primes_19 {l : Launch} {D : va_G} {aI aL : ClassId} {ad : Nat → Nat} {P : sa_P} {I : sa_I} {J : sa_J} {s0 : Int32}   (kt : s0 = 0 → Sat (ER l D aI aL ad) M_X7_primes P 29 [(0, .ref (ad 0))] [] I J) (kf : ¬ s0 = 0 → Sat (ER l D aI aL ad) M_X7_primes P 22 [(0, .ref (ad 0))] [] I J) : Sat (ER l D aI aL ad) M_X7_primes P 19 [(0, .ref (ad 0))] [.int s0] I J := by
  refine s_if_eq (tgt := 29) dX7_primes_19 (by decide) (fun c => ?_) (fun c => ?_)
  · exact kt c
  · exact kf c
theorem bX7_primes_22 {l : Launch} {D : va_G} {aI aL : ClassId} {ad : Nat → Nat} {P : sa_P} {I : sa_I} {J : sa_J}    (k : Sat (ER l D aI aL ad) M_X7_primes P 34 [] [.int (I 0 32)] I J) : Sat (ER l D aI aL ad) M_X7_primes P 22 [(0, .ref (ad 0))] [] I J := by
  refine s_aload_n 0 dX7_primes_22 rfl ?_
  refine g_X7_307 dX7_primes_23 rfl ?_
  refine s_goto (tgt := 34) dX7_primes_26 (by decide) ?_
  refine s_pick [] [] rfl ?_; exact k
theorem bX7_primes_29 {l : Launch} {D : va_G} {aI aL : ClassId} {ad : Nat → Nat} {P : sa_P} {I : sa_I} {J : sa_J}    (k : Sat (ER l D aI aL ad) M_X7_primes P 31 [] [.int (-1 : Int32), .ref (ad 0)] I J) : Sat (ER l D aI aL ad) M_X7_primes P 29 [(0, .ref (ad 0))] [] I J := by
  refine s_aload_n 0 dX7_primes_29 rfl ?_
  refine s_iconst (v := -1) dX7_primes_30 rfl ?_
  refine s_pick [] [] rfl ?_; exact k
theorem bX7_primes_34 {l : Launch} {D : va_G} {aI aL : ClassId} {ad : Nat → Nat} {P : sa_P} {I : sa_I} {J : sa_J} {s0 : Int32}   (k : P (some (.int s0)) I J) : Sat (ER l D aI aL ad) M_X7_primes P 34 [] [.int s0] I J := by
  exact s_iret rfl dX7_primes_34 k
/-! X7_isPrimeOver -/
theorem dX7_isPrimeOver_0 : decode cX7_isPrimeOver 0 = .ok (.aload_n 0, 1) := by decide +kernel
theorem dX7_isPrimeOver_1 : decode cX7_isPrimeOver 1 = .ok (.iload_n 1, 1) := by decide +kernel
theorem dX7_isPrimeOver_2 : decode cX7_isPrimeOver 2 = .ok (.invokevirtual 325, 3) := by decide +kernel
theorem dX7_isPrimeOver_5 : decode cX7_isPrimeOver 5 = .ok (.ifCond .eq 18, 3) := by decide +kernel
theorem dX7_isPrimeOver_8 : decode cX7_isPrimeOver 8 = .ok (.iload_n 2, 1) := by decide +kernel
theorem dX7_isPrimeOver_9 : decode cX7_isPrimeOver 9 = .ok (.aload_n 0, 1) := by decide +kernel
theorem dX7_isPrimeOver_10 : decode cX7_isPrimeOver 10 = .ok (.getfield 307, 3) := by decide +kernel
theorem dX7_isPrimeOver_13 : decode cX7_isPrimeOver 13 = .ok (.invokestatic 210, 3) := by decide +kernel
theorem dX7_isPrimeOver_16 : decode cX7_isPrimeOver 16 = .ok (.ifCond .eq 7, 3) := by decide +kernel
theorem dX7_isPrimeOver_19 : decode cX7_isPrimeOver 19 = .ok (.iconst 1, 1) := by decide +kernel
theorem dX7_isPrimeOver_20 : decode cX7_isPrimeOver 20 = .ok (.goto 4, 3) := by decide +kernel
theorem dX7_isPrimeOver_23 : decode cX7_isPrimeOver 23 = .ok (.iconst 0, 1) := by decide +kernel
theorem dX7_isPrimeOver_24 : decode cX7_isPrimeOver 24 = .ok (.ireturn, 1) := by decide +kernel
theorem bX7_isPrimeOver_0 {l : Launch} {D : va_G} {aI aL : ClassId} {ad : Nat → Nat} {P : sa_P} {I : sa_I} {J : sa_J} {x1 : Int32} {x2 : Int32}   (k : Sat (ER l D aI aL ad) M_X7_isPrimeOver P 2 [(0, .ref (ad 0)), (2, .int x2)] [.int x1, .ref (ad 0)] I J) : Sat (ER l D aI aL ad) M_X7_isPrimeOver P 0 [(0, .ref (ad 0)), (1, .int x1), (2, .int x2)] [] I J := by
  refine s_aload_n 0 dX7_isPrimeOver_0 rfl ?_
  refine s_iload_n 1 dX7_isPrimeOver_1 rfl ?_
  refine s_pick [0, 2] [(0, .ref (ad 0)), (2, .int x2)] rfl ?_; exact k
theorem bX7_isPrimeOver_5 {l : Launch} {D : va_G} {aI aL : ClassId} {ad : Nat → Nat} {P : sa_P} {I : sa_I} {J : sa_J} {x2 : Int32} {s0 : Int32}   (kt : s0 = 0 → Sat (ER l D aI aL ad) M_X7_isPrimeOver P 23 [] [] I J) (kf : ¬ s0 = 0 → Sat (ER l D aI aL ad) M_X7_isPrimeOver P 8 [(0, .ref (ad 0)), (2, .int x2)] [] I J) : Sat (ER l D aI aL ad) M_X7_isPrimeOver P 5 [(0, .ref (ad 0)), (2, .int x2)] [.int s0] I J := by
  refine s_if_eq (tgt := 23) dX7_isPrimeOver_5 (by decide) (fun c => ?_) (fun c => ?_)
  · refine s_pick [] [] rfl ?_; exact kt c
  · exact kf c
theorem bX7_isPrimeOver_8 {l : Launch} {D : va_G} {aI aL : ClassId} {ad : Nat → Nat} {P : sa_P} {I : sa_I} {J : sa_J} {x2 : Int32}   (k : Sat (ER l D aI aL ad) M_X7_isPrimeOver P 13 [] [.int (I 0 32), .int x2] I J) : Sat (ER l D aI aL ad) M_X7_isPrimeOver P 8 [(0, .ref (ad 0)), (2, .int x2)] [] I J := by
  refine s_iload_n 1 dX7_isPrimeOver_8 rfl ?_
  refine s_aload_n 0 dX7_isPrimeOver_9 rfl ?_
  refine g_X7_307 dX7_isPrimeOver_10 rfl ?_
  refine s_pick [] [] rfl ?_; exact k
theorem bX7_isPrimeOver_16 {l : Launch} {D : va_G} {aI aL : ClassId} {ad : Nat → Nat} {P : sa_P} {I : sa_I} {J : sa_J} {s0 : Int32}   (kt : s0 = 0 → Sat (ER l D aI aL ad) M_X7_isPrimeOver P 23 [] [] I J) (kf : ¬ s0 = 0 → Sat (ER l D aI aL ad) M_X7_isPrimeOver P 19 [] [] I J) : Sat (ER l D aI aL ad) M_X7_isPrimeOver P 16 [] [.int s0] I J := by
  refine s_if_eq (tgt := 23) dX7_isPrimeOver_16 (by decide) (fun c => ?_) (fun c => ?_)
  · exact kt c
  · exact kf c
theorem bX7_isPrimeOver_19 {l : Launch} {D : va_G} {aI aL : ClassId} {ad : Nat → Nat} {P : sa_P} {I : sa_I} {J : sa_J}    (k : Sat (ER l D aI aL ad) M_X7_isPrimeOver P 24 [] [.int (1 : Int32)] I J) : Sat (ER l D aI aL ad) M_X7_isPrimeOver P 19 [] [] I J := by
  refine s_iconst (v := 1) dX7_isPrimeOver_19 rfl ?_
  refine s_goto (tgt := 24) dX7_isPrimeOver_20 (by decide) ?_
  exact k
theorem bX7_isPrimeOver_23 {l : Launch} {D : va_G} {aI aL : ClassId} {ad : Nat → Nat} {P : sa_P} {I : sa_I} {J : sa_J}    (k : Sat (ER l D aI aL ad) M_X7_isPrimeOver P 24 [] [.int (0 : Int32)] I J) : Sat (ER l D aI aL ad) M_X7_isPrimeOver P 23 [] [] I J := by
  refine s_iconst (v := 0) dX7_isPrimeOver_23 rfl ?_
  exact k
theorem bX7_isPrimeOver_24 {l : Launch} {D : va_G} {aI aL : ClassId} {ad : Nat → Nat} {P : sa_P} {I : sa_I} {J : sa_J} {s0 : Int32} (hz : narrow .boolean (.int s0) = .int s0)  (k : P (some (.int s0)) I J) : Sat (ER l D aI aL ad) M_X7_isPrimeOver P 24 [] [.int s0] I J := by
  exact s_zret hz rfl dX7_isPrimeOver_24 k
/-! X7_prime -/
theorem dX7_prime_0 : decode cX7_prime 0 = .ok (.aload_n 0, 1) := by decide +kernel
theorem dX7_prime_1 : decode cX7_prime 1 = .ok (.invokevirtual 203, 3) := by decide +kernel
theorem dX7_prime_4 : decode cX7_prime 4 = .ok (.ifCond .ne 10, 3) := by decide +kernel
theorem dX7_prime_7 : decode cX7_prime 7 = .ok (.aload_n 0, 1) := by decide +kernel
theorem dX7_prime_8 : decode cX7_prime 8 = .ok (.bipush (-3), 2) := by decide +kernel
theorem dX7_prime_10 : decode cX7_prime 10 = .ok (.invokevirtual 84, 3) := by decide +kernel
theorem dX7_prime_13 : decode cX7_prime 13 = .ok (.ireturn, 1) := by decide +kernel
theorem dX7_prime_14 : decode cX7_prime 14 = .ok (.aload_n 0, 1) := by decide +kernel
theorem dX7_prime_15 : decode cX7_prime 15 = .ok (.iload_n 1, 1) := by decide +kernel
theorem dX7_prime_16 : decode cX7_prime 16 = .ok (.iload_n 2, 1) := by decide +kernel
theorem dX7_prime_17 : decode cX7_prime 17 = .ok (.invokevirtual 328, 3) := by decide +kernel
theorem dX7_prime_20 : decode cX7_prime 20 = .ok (.ifCond .ne 9, 3) := by decide +kernel
theorem dX7_prime_23 : decode cX7_prime 23 = .ok (.aload_n 0, 1) := by decide +kernel
theorem dX7_prime_24 : decode cX7_prime 24 = .ok (.iconst (-1), 1) := by decide +kernel
theorem dX7_prime_25 : decode cX7_prime 25 = .ok (.invokevirtual 84, 3) := by decide +kernel
theorem dX7_prime_28 : decode cX7_prime 28 = .ok (.ireturn, 1) := by decide +kernel
theorem dX7_prime_29 : decode cX7_prime 29 = .ok (.iload_n 3, 1) := by decide +kernel
theorem dX7_prime_30 : decode cX7_prime 30 = .ok (.iconst 2, 1) := by decide +kernel
theorem dX7_prime_31 : decode cX7_prime 31 = .ok (.aload_n 0, 1) := by decide +kernel
theorem dX7_prime_32 : decode cX7_prime 32 = .ok (.getfield 101, 3) := by decide +kernel
theorem dX7_prime_35 : decode cX7_prime 35 = .ok (.aload_n 0, 1) := by decide +kernel
theorem dX7_prime_36 : decode cX7_prime 36 = .ok (.getfield 101, 3) := by decide +kernel
theorem dX7_prime_39 : decode cX7_prime 39 = .ok (.imul, 1) := by decide +kernel
theorem dX7_prime_40 : decode cX7_prime 40 = .ok (.iadd, 1) := by decide +kernel
theorem dX7_prime_41 : decode cX7_prime 41 = .ok (.invokestatic 210, 3) := by decide +kernel
theorem dX7_prime_44 : decode cX7_prime 44 = .ok (.ifCond .ne 10, 3) := by decide +kernel
theorem dX7_prime_47 : decode cX7_prime 47 = .ok (.aload_n 0, 1) := by decide +kernel
theorem dX7_prime_48 : decode cX7_prime 48 = .ok (.bipush (-2), 2) := by decide +kernel
theorem dX7_prime_50 : decode cX7_prime 50 = .ok (.invokevirtual 84, 3) := by decide +kernel
theorem dX7_prime_53 : decode cX7_prime 53 = .ok (.ireturn, 1) := by decide +kernel
theorem dX7_prime_54 : decode cX7_prime 54 = .ok (.iload_n 3, 1) := by decide +kernel
theorem dX7_prime_55 : decode cX7_prime 55 = .ok (.iconst 2, 1) := by decide +kernel
theorem dX7_prime_56 : decode cX7_prime 56 = .ok (.if_icmp .ge 23, 3) := by decide +kernel
theorem dX7_prime_59 : decode cX7_prime 59 = .ok (.iload_n 3, 1) := by decide +kernel
theorem dX7_prime_60 : decode cX7_prime 60 = .ok (.ifCond .ne 12, 3) := by decide +kernel
theorem dX7_prime_63 : decode cX7_prime 63 = .ok (.aload_n 0, 1) := by decide +kernel
theorem dX7_prime_64 : decode cX7_prime 64 = .ok (.getfield 65, 3) := by decide +kernel
theorem dX7_prime_67 : decode cX7_prime 67 = .ok (.iload_n 2, 1) := by decide +kernel
theorem dX7_prime_68 : decode cX7_prime 68 = .ok (.iaload, 1) := by decide +kernel
theorem dX7_prime_69 : decode cX7_prime 69 = .ok (.goto 9, 3) := by decide +kernel
theorem dX7_prime_72 : decode cX7_prime 72 = .ok (.aload_n 0, 1) := by decide +kernel
theorem dX7_prime_73 : decode cX7_prime 73 = .ok (.getfield 68, 3) := by decide +kernel
theorem dX7_prime_76 : decode cX7_prime 76 = .ok (.iload_n 2, 1) := by decide +kernel
theorem dX7_prime_77 : decode cX7_prime 77 = .ok (.iaload, 1) := by decide +kernel
theorem dX7_prime_78 : decode cX7_prime 78 = .ok (.ireturn, 1) := by decide +kernel
theorem dX7_prime_79 : decode cX7_prime 79 = .ok (.aload_n 0, 1) := by decide +kernel
theorem dX7_prime_80 : decode cX7_prime 80 = .ok (.getfield 62, 3) := by decide +kernel
theorem dX7_prime_83 : decode cX7_prime 83 = .ok (.bipush 9, 2) := by decide +kernel
theorem dX7_prime_85 : decode cX7_prime 85 = .ok (.iload_n 2, 1) := by decide +kernel
theorem dX7_prime_86 : decode cX7_prime 86 = .ok (.imul, 1) := by decide +kernel
theorem dX7_prime_87 : decode cX7_prime 87 = .ok (.iconst 3, 1) := by decide +kernel
theorem dX7_prime_88 : decode cX7_prime 88 = .ok (.iload_n 3, 1) := by decide +kernel
theorem dX7_prime_89 : decode cX7_prime 89 = .ok (.iconst 2, 1) := by decide +kernel
theorem dX7_prime_90 : decode cX7_prime 90 = .ok (.isub, 1) := by decide +kernel
theorem dX7_prime_91 : decode cX7_prime 91 = .ok (.aload_n 0, 1) := by decide +kernel
theorem dX7_prime_92 : decode cX7_prime 92 = .ok (.getfield 101, 3) := by decide +kernel
theorem dX7_prime_95 : decode cX7_prime 95 = .ok (.idiv, 1) := by decide +kernel
theorem dX7_prime_96 : decode cX7_prime 96 = .ok (.imul, 1) := by decide +kernel
theorem dX7_prime_97 : decode cX7_prime 97 = .ok (.iadd, 1) := by decide +kernel
theorem dX7_prime_98 : decode cX7_prime 98 = .ok (.iload_n 3, 1) := by decide +kernel
theorem dX7_prime_99 : decode cX7_prime 99 = .ok (.iconst 2, 1) := by decide +kernel
theorem dX7_prime_100 : decode cX7_prime 100 = .ok (.isub, 1) := by decide +kernel
theorem dX7_prime_101 : decode cX7_prime 101 = .ok (.aload_n 0, 1) := by decide +kernel
theorem dX7_prime_102 : decode cX7_prime 102 = .ok (.getfield 101, 3) := by decide +kernel
theorem dX7_prime_105 : decode cX7_prime 105 = .ok (.irem, 1) := by decide +kernel
theorem dX7_prime_106 : decode cX7_prime 106 = .ok (.iadd, 1) := by decide +kernel
theorem dX7_prime_107 : decode cX7_prime 107 = .ok (.laload, 1) := by decide +kernel
theorem dX7_prime_108 : decode cX7_prime 108 = .ok (.l2i, 1) := by decide +kernel
theorem dX7_prime_109 : decode cX7_prime 109 = .ok (.ireturn, 1) := by decide +kernel
theorem bX7_prime_0 {l : Launch} {D : va_G} {aI aL : ClassId} {ad : Nat → Nat} {P : sa_P} {I : sa_I} {J : sa_J} {x1 : Int32} {x2 : Int32} {x3 : Int32}   (k : Sat (ER l D aI aL ad) M_X7_prime P 1 [(0, .ref (ad 0)), (1, .int x1), (2, .int x2), (3, .int x3)] [.ref (ad 0)] I J) : Sat (ER l D aI aL ad) M_X7_prime P 0 [(0, .ref (ad 0)), (1, .int x1), (2, .int x2), (3, .int x3)] [] I J := by
  refine s_aload_n 0 dX7_prime_0 rfl ?_
  exact k
theorem bX7_prime_4 {l : Launch} {D : va_G} {aI aL : ClassId} {ad : Nat → Nat} {P : sa_P} {I : sa_I} {J : sa_J} {x1 : Int32} {x2 : Int32} {x3 : Int32} {s0 : Int32}   (kt : ¬ s0 = 0 → Sat (ER l D aI aL ad) M_X7_prime P 14 [(0, .ref (ad 0)), (1, .int x1), (2, .int x2), (3, .int x3)] [] I J) (kf : s0 = 0 → Sat (ER l D aI aL ad) M_X7_prime P 7 [(0, .ref (ad 0))] [] I J) : Sat (ER l D aI aL ad) M_X7_prime P 4 [(0, .ref (ad 0)), (1, .int x1), (2, .int x2), (3, .int x3)] [.int s0] I J := by
  refine s_if_ne (tgt := 14) dX7_prime_4 (by decide) (fun c => ?_) (fun c => ?_)
  · exact kt c
  · refine s_pick [0] [(0, .ref (ad 0))] rfl ?_; exact kf (by first | exact c | exact Classical.not_not.mp c)
theorem bX7_prime_7 {l : Launch} {D : va_G} {aI aL : ClassId} {ad : Nat → Nat} {P : sa_P} {I : sa_I} {J : sa_J}    (k : Sat (ER l D aI aL ad) M_X7_prime P 10 [] [.int (-3 : Int32), .ref (ad 0)] I J) : Sat (ER l D aI aL ad) M_X7_prime P 7 [(0, .ref (ad 0))] [] I J := by
  refine s_aload_n 0 dX7_prime_7 rfl ?_
  refine s_bipush (v := -3) dX7_prime_8 rfl ?_
  refine s_pick [] [] rfl ?_; exact k
theorem bX7_prime_13 {l : Launch} {D : va_G} {aI aL : ClassId} {ad : Nat → Nat} {P : sa_P} {I : sa_I} {J : sa_J} {s0 : Int32}   (k : P (some (.int s0)) I J) : Sat (ER l D aI aL ad) M_X7_prime P 13 [] [.int s0] I J := by
  exact s_iret rfl dX7_prime_13 k
theorem bX7_prime_14 {l : Launch} {D : va_G} {aI aL : ClassId} {ad : Nat → Nat} {P : sa_P} {I : sa_I} {J : sa_J} {x1 : Int32} {x2 : Int32} {x3 : Int32}   (k : Sat (ER l D aI aL ad) M_X7_prime P 17 [(0, .ref (ad 0)), (2, .int x2), (3, .int x3)] [.int x2, .int x1, .ref (ad 0)] I J) : Sat (ER l D aI aL ad) M_X7_prime P 14 [(0, .ref (ad 0)), (1, .int x1), (2, .int x2), (3, .int x3)] [] I J := by
  refine s_aload_n 0 dX7_prime_14 rfl ?_
  refine s_iload_n 1 dX7_prime_15 rfl ?_
  refine s_iload_n 2 dX7_prime_16 rfl ?_
  refine s_pick [0, 2, 3] [(0, .ref (ad 0)), (2, .int x2), (3, .int x3)] rfl ?_; exact k
theorem bX7_prime_20 {l : Launch} {D : va_G} {aI aL : ClassId} {ad : Nat → Nat} {P : sa_P} {I : sa_I} {J : sa_J} {x2 : Int32} {x3 : Int32} {s0 : Int32}   (kt : ¬ s0 = 0 → Sat (ER l D aI aL ad) M_X7_prime P 29 [(0, .ref (ad 0)), (2, .int x2), (3, .int x3)] [] I J) (kf : s0 = 0 → Sat (ER l D aI aL ad) M_X7_prime P 23 [(0, .ref (ad 0))] [] I J) : Sat (ER l D aI aL ad) M_X7_prime P 20 [(0, .ref (ad 0)), (2, .int x2), (3, .int x3)] [.int s0] I J := by
  refine s_if_ne (tgt := 29) dX7_prime_20 (by decide) (fun c => ?_) (fun c => ?_)
  · exact kt c
  · refine s_pick [0] [(0, .ref (ad 0))] rfl ?_; exact kf (by first | exact c | exact Classical.not_not.mp c)
theorem bX7_prime_23 {l : Launch} {D : va_G} {aI aL : ClassId} {ad : Nat → Nat} {P : sa_P} {I : sa_I} {J : sa_J}    (k : Sat (ER l D aI aL ad) M_X7_prime P 25 [] [.int (-1 : Int32), .ref (ad 0)] I J) : Sat (ER l D aI aL ad) M_X7_prime P 23 [(0, .ref (ad 0))] [] I J := by
  refine s_aload_n 0 dX7_prime_23 rfl ?_
  refine s_iconst (v := -1) dX7_prime_24 rfl ?_
  refine s_pick [] [] rfl ?_; exact k
theorem bX7_prime_28 {l : Launch} {D : va_G} {aI aL : ClassId} {ad : Nat → Nat} {P : sa_P} {I : sa_I} {J : sa_J} {s0 : Int32}   (k : P (some (.int s0)) I J) : Sat (ER l D aI aL ad) M_X7_prime P 28 [] [.int s0] I J := by
  exact s_iret rfl dX7_prime_28 k
theorem bX7_prime_29 {l : Launch} {D : va_G} {aI aL : ClassId} {ad : Nat → Nat} {P : sa_P} {I : sa_I} {J : sa_J} {x2 : Int32} {x3 : Int32}   (k : Sat (ER l D aI aL ad) M_X7_prime P 41 [(0, .ref (ad 0)), (2, .int x2), (3, .int x3)] [.int ((2 : Int32) + ((I 0 1) * (I 0 1))), .int x3] I J) : Sat (ER l D aI aL ad) M_X7_prime P 29 [(0, .ref (ad 0)), (2, .int x2), (3, .int x3)] [] I J := by
  refine s_iload_n 2 dX7_prime_29 rfl ?_
  refine s_iconst (v := 2) dX7_prime_30 rfl ?_
  refine s_aload_n 0 dX7_prime_31 rfl ?_
  refine g_X7_101 dX7_prime_32 rfl ?_
  refine s_aload_n 0 dX7_prime_35 rfl ?_
  refine g_X7_101 dX7_prime_36 rfl ?_
  refine s_imul dX7_prime_39 ?_
  refine s_iadd dX7_prime_40 ?_
  exact k
theorem bX7_prime_44 {l : Launch} {D : va_G} {aI aL : ClassId} {ad : Nat → Nat} {P : sa_P} {I : sa_I} {J : sa_J} {x2 : Int32} {x3 : Int32} {s0 : Int32}   (kt : ¬ s0 = 0 → Sat (ER l D aI aL ad) M_X7_prime P 54 [(0, .ref (ad 0)), (2, .int x2), (3, .int x3)] [] I J) (kf : s0 = 0 → Sat (ER l D aI aL ad) M_X7_prime P 47 [(0, .ref (ad 0))] [] I J) : Sat (ER l D aI aL ad) M_X7_prime P 44 [(0, .ref (ad 0)), (2, .int x2), (3, .int x3)] [.int s0] I J := by
  refine s_if_ne (tgt := 54) dX7_prime_44 (by decide) (fun c => ?_) (fun c => ?_)
  · exact kt c
  · refine s_pick [0] [(0, .ref (ad 0))] rfl ?_; exact kf (by first | exact c | exact Classical.not_not.mp c)
theorem bX7_prime_47 {l : Launch} {D : va_G} {aI aL : ClassId} {ad : Nat → Nat} {P : sa_P} {I : sa_I} {J : sa_J}    (k : Sat (ER l D aI aL ad) M_X7_prime P 50 [] [.int (-2 : Int32), .ref (ad 0)] I J) : Sat (ER l D aI aL ad) M_X7_prime P 47 [(0, .ref (ad 0))] [] I J := by
  refine s_aload_n 0 dX7_prime_47 rfl ?_
  refine s_bipush (v := -2) dX7_prime_48 rfl ?_
  refine s_pick [] [] rfl ?_; exact k
theorem bX7_prime_53 {l : Launch} {D : va_G} {aI aL : ClassId} {ad : Nat → Nat} {P : sa_P} {I : sa_I} {J : sa_J} {s0 : Int32}   (k : P (some (.int s0)) I J) : Sat (ER l D aI aL ad) M_X7_prime P 53 [] [.int s0] I J := by
  exact s_iret rfl dX7_prime_53 k
theorem bX7_prime_54 {l : Launch} {D : va_G} {aI aL : ClassId} {ad : Nat → Nat} {P : sa_P} {I : sa_I} {J : sa_J} {x2 : Int32} {x3 : Int32}   (kt : (2 : Int32) ≤ x3 → Sat (ER l D aI aL ad) M_X7_prime P 79 [(0, .ref (ad 0)), (2, .int x2), (3, .int x3)] [] I J) (kf : ¬ (2 : Int32) ≤ x3 → Sat (ER l D aI aL ad) M_X7_prime P 59 [(0, .ref (ad 0)), (2, .int x2), (3, .int x3)] [] I J) : Sat (ER l D aI aL ad) M_X7_prime P 54 [(0, .ref (ad 0)), (2, .int x2), (3, .int x3)] [] I J := by
  refine s_iload_n 2 dX7_prime_54 rfl ?_
  refine s_iconst (v := 2) dX7_prime_55 rfl ?_
  refine s_icmp_ge (tgt := 79) dX7_prime_56 (by decide) (fun c => ?_) (fun c => ?_)
  · exact kt c
  · exact kf c
theorem bX7_prime_59 {l : Launch} {D : va_G} {aI aL : ClassId} {ad : Nat → Nat} {P : sa_P} {I : sa_I} {J : sa_J} {x2 : Int32} {x3 : Int32}   (kt : ¬ x3 = 0 → Sat (ER l D aI aL ad) M_X7_prime P 72 [(0, .ref (ad 0)), (2, .int x2)] [] I J) (kf : x3 = 0 → Sat (ER l D aI aL ad) M_X7_prime P 63 [(0, .ref (ad 0)), (2, .int x2)] [] I J) : Sat (ER l D aI aL ad) M_X7_prime P 59 [(0, .ref (ad 0)), (2, .int x2), (3, .int x3)] [] I J := by
  refine s_iload_n 2 dX7_prime_59 rfl ?_
  refine s_if_ne (tgt := 72) dX7_prime_60 (by decide) (fun c => ?_) (fun c => ?_)
  · refine s_pick [0, 1] [(0, .ref (ad 0)), (2, .int x2)] rfl ?_; exact kt c
  · refine s_pick [0, 1] [(0, .ref (ad 0)), (2, .int x2)] rfl ?_; exact kf (by first | exact c | exact Classical.not_not.mp c)
theorem bX7_prime_63 {l : Launch} {D : va_G} {aI aL : ClassId} {ad : Nat → Nat} {P : sa_P} {I : sa_I} {J : sa_J} {x2 : Int32} {j67 : Nat} (e67 : x2 = nI j67) (h68 : j67 < 3)  (k : Sat (ER l D aI aL ad) M_X7_prime P 78 [] [.int (I 19 j67)] I J) : Sat (ER l D aI aL ad) M_X7_prime P 63 [(0, .ref (ad 0)), (2, .int x2)] [] I J := by
  refine s_aload_n 0 dX7_prime_63 rfl ?_
  refine g_X7_65 dX7_prime_64 rfl ?_
  refine s_iload_n 1 dX7_prime_67 rfl ?_
  refine s_eqi e67 ?_
  refine s_ialoadN aI_R19 h68 (by decide) dX7_prime_68 ?_
  refine s_goto (tgt := 78) dX7_prime_69 (by decide) ?_
  refine s_pick [] [] rfl ?_; exact k
theorem bX7_prime_72 {l : Launch} {D : va_G} {aI aL : ClassId} {ad : Nat → Nat} {P : sa_P} {I : sa_I} {J : sa_J} {x2 : Int32} {j76 : Nat} (e76 : x2 = nI j76) (h77 : j76 < 3)  (k : Sat (ER l D aI aL ad) M_X7_prime P 78 [] [.int (I 20 j76)] I J) : Sat (ER l D aI aL ad) M_X7_prime P 72 [(0, .ref (ad 0)), (2, .int x2)] [] I J := by
  refine s_aload_n 0 dX7_prime_72 rfl ?_
  refine g_X7_68 dX7_prime_73 rfl ?_
  refine s_iload_n 1 dX7_prime_76 rfl ?_
  refine s_eqi e76 ?_
  refine s_ialoadN aI_R20 h77 (by decide) dX7_prime_77 ?_
  refine s_pick [] [] rfl ?_; exact k
theorem bX7_prime_78 {l : Launch} {D : va_G} {aI aL : ClassId} {ad : Nat → Nat} {P : sa_P} {I : sa_I} {J : sa_J} {s0 : Int32}   (k : P (some (.int s0)) I J) : Sat (ER l D aI aL ad) M_X7_prime P 78 [] [.int s0] I J := by
  exact s_iret rfl dX7_prime_78 k
theorem bX7_prime_79 {l : Launch} {D : va_G} {aI aL : ClassId} {ad : Nat → Nat} {P : sa_P} {I : sa_I} {J : sa_J} {x2 : Int32} {x3 : Int32} {j106 : Nat} (z95 : ¬ I 0 1 = 0) (z105 : ¬ I 0 1 = 0) (e106 : (((9 : Int32) * x2) + ((3 : Int32) * ((x3 - (2 : Int32)) / (I 0 1)))) + ((x3 - (2 : Int32)) - (x3 - (2 : Int32)) / (I 0 1) * (I 0 1)) = nI j106) (h107 : j106 < 27)  (k : P (some (.int ((J 18 j106).toInt32))) I J) : Sat (ER l D aI aL ad) M_X7_prime P 79 [(0, .ref (ad 0)), (2, .int x2), (3, .int x3)] [] I J := by
  refine s_aload_n 0 dX7_prime_79 rfl ?_
  refine g_X7_62 dX7_prime_80 rfl ?_
  refine s_bipush (v := 9) dX7_prime_83 rfl ?_
  refine s_iload_n 1 dX7_prime_85 rfl ?_
  refine s_imul dX7_prime_86 ?_
  refine s_iconst (v := 3) dX7_prime_87 rfl ?_
  refine s_iload_n 2 dX7_prime_88 rfl ?_
  refine s_iconst (v := 2) dX7_prime_89 rfl ?_
  refine s_isub dX7_prime_90 ?_
  refine s_aload_n 0 dX7_prime_91 rfl ?_
  refine g_X7_101 dX7_prime_92 rfl ?_
  refine s_idiv dX7_prime_95 z95 ?_
  refine s_imul dX7_prime_96 ?_
  refine s_iadd dX7_prime_97 ?_
  refine s_iload_n 2 dX7_prime_98 rfl ?_
  refine s_iconst (v := 2) dX7_prime_99 rfl ?_
  refine s_isub dX7_prime_100 ?_
  refine s_aload_n 0 dX7_prime_101 rfl ?_
  refine g_X7_101 dX7_prime_102 rfl ?_
  refine s_irem dX7_prime_105 z105 ?_
  refine s_iadd dX7_prime_106 ?_
  refine s_eqi e106 ?_
  refine s_laloadN aJ_R18 h107 (by decide) dX7_prime_107 ?_
  refine s_l2i dX7_prime_108 ?_
  exact s_iret rfl dX7_prime_109 k
/-! X7_take -/
theorem dX7_take_0 : decode cX7_take 0 = .ok (.aload_n 0, 1) := by decide +kernel
theorem dX7_take_1 : decode cX7_take 1 = .ok (.invokevirtual 203, 3) := by decide +kernel
theorem dX7_take_4 : decode cX7_take 4 = .ok (.ifCond .ne 10, 3) := by decide +kernel
theorem dX7_take_7 : decode cX7_take 7 = .ok (.aload_n 0, 1) := by decide +kernel
theorem dX7_take_8 : decode cX7_take 8 = .ok (.bipush (-3), 2) := by decide +kernel
theorem dX7_take_10 : decode cX7_take 10 = .ok (.invokevirtual 84, 3) := by decide +kernel
theorem dX7_take_13 : decode cX7_take 13 = .ok (.ireturn, 1) := by decide +kernel
theorem dX7_take_14 : decode cX7_take 14 = .ok (.aload_n 0, 1) := by decide +kernel
theorem dX7_take_15 : decode cX7_take 15 = .ok (.iload_n 1, 1) := by decide +kernel
theorem dX7_take_16 : decode cX7_take 16 = .ok (.iload_n 2, 1) := by decide +kernel
theorem dX7_take_17 : decode cX7_take 17 = .ok (.invokevirtual 328, 3) := by decide +kernel
theorem dX7_take_20 : decode cX7_take 20 = .ok (.ifCond .ne 9, 3) := by decide +kernel
theorem dX7_take_23 : decode cX7_take 23 = .ok (.aload_n 0, 1) := by decide +kernel
theorem dX7_take_24 : decode cX7_take 24 = .ok (.iconst (-1), 1) := by decide +kernel
theorem dX7_take_25 : decode cX7_take 25 = .ok (.invokevirtual 84, 3) := by decide +kernel
theorem dX7_take_28 : decode cX7_take 28 = .ok (.ireturn, 1) := by decide +kernel
theorem dX7_take_29 : decode cX7_take 29 = .ok (.aload_n 0, 1) := by decide +kernel
theorem dX7_take_30 : decode cX7_take 30 = .ok (.iload_n 2, 1) := by decide +kernel
theorem dX7_take_31 : decode cX7_take 31 = .ok (.aload_n 0, 1) := by decide +kernel
theorem dX7_take_32 : decode cX7_take 32 = .ok (.getfield 50, 3) := by decide +kernel
theorem dX7_take_35 : decode cX7_take 35 = .ok (.invokevirtual 318, 3) := by decide +kernel
theorem dX7_take_38 : decode cX7_take 38 = .ok (.aload_n 0, 1) := by decide +kernel
theorem dX7_take_39 : decode cX7_take 39 = .ok (.invokevirtual 263, 3) := by decide +kernel
theorem dX7_take_42 : decode cX7_take 42 = .ok (.ireturn, 1) := by decide +kernel
theorem bX7_take_0 {l : Launch} {D : va_G} {aI aL : ClassId} {ad : Nat → Nat} {P : sa_P} {I : sa_I} {J : sa_J} {x1 : Int32} {x2 : Int32}   (k : Sat (ER l D aI aL ad) M_X7_take P 1 [(0, .ref (ad 0)), (1, .int x1), (2, .int x2)] [.ref (ad 0)] I J) : Sat (ER l D aI aL ad) M_X7_take P 0 [(0, .ref (ad 0)), (1, .int x1), (2, .int x2)] [] I J := by
  refine s_aload_n 0 dX7_take_0 rfl ?_
  exact k
theorem bX7_take_4 {l : Launch} {D : va_G} {aI aL : ClassId} {ad : Nat → Nat} {P : sa_P} {I : sa_I} {J : sa_J} {x1 : Int32} {x2 : Int32} {s0 : Int32}   (kt : ¬ s0 = 0 → Sat (ER l D aI aL ad) M_X7_take P 14 [(0, .ref (ad 0)), (1, .int x1), (2, .int x2)] [] I J) (kf : s0 = 0 → Sat (ER l D aI aL ad) M_X7_take P 7 [(0, .ref (ad 0))] [] I J) : Sat (ER l D aI aL ad) M_X7_take P 4 [(0, .ref (ad 0)), (1, .int x1), (2, .int x2)] [.int s0] I J := by
  refine s_if_ne (tgt := 14) dX7_take_4 (by decide) (fun c => ?_) (fun c => ?_)
  · exact kt c
  · refine s_pick [0] [(0, .ref (ad 0))] rfl ?_; exact kf (by first | exact c | exact Classical.not_not.mp c)
theorem bX7_take_7 {l : Launch} {D : va_G} {aI aL : ClassId} {ad : Nat → Nat} {P : sa_P} {I : sa_I} {J : sa_J}    (k : Sat (ER l D aI aL ad) M_X7_take P 10 [] [.int (-3 : Int32), .ref (ad 0)] I J) : Sat (ER l D aI aL ad) M_X7_take P 7 [(0, .ref (ad 0))] [] I J := by
  refine s_aload_n 0 dX7_take_7 rfl ?_
  refine s_bipush (v := -3) dX7_take_8 rfl ?_
  refine s_pick [] [] rfl ?_; exact k
theorem bX7_take_13 {l : Launch} {D : va_G} {aI aL : ClassId} {ad : Nat → Nat} {P : sa_P} {I : sa_I} {J : sa_J} {s0 : Int32}   (k : P (some (.int s0)) I J) : Sat (ER l D aI aL ad) M_X7_take P 13 [] [.int s0] I J := by
  exact s_iret rfl dX7_take_13 k
theorem bX7_take_14 {l : Launch} {D : va_G} {aI aL : ClassId} {ad : Nat → Nat} {P : sa_P} {I : sa_I} {J : sa_J} {x1 : Int32} {x2 : Int32}   (k : Sat (ER l D aI aL ad) M_X7_take P 17 [(0, .ref (ad 0)), (2, .int x2)] [.int x2, .int x1, .ref (ad 0)] I J) : Sat (ER l D aI aL ad) M_X7_take P 14 [(0, .ref (ad 0)), (1, .int x1), (2, .int x2)] [] I J := by
  refine s_aload_n 0 dX7_take_14 rfl ?_
  refine s_iload_n 1 dX7_take_15 rfl ?_
  refine s_iload_n 2 dX7_take_16 rfl ?_
  refine s_pick [0, 2] [(0, .ref (ad 0)), (2, .int x2)] rfl ?_; exact k
theorem bX7_take_20 {l : Launch} {D : va_G} {aI aL : ClassId} {ad : Nat → Nat} {P : sa_P} {I : sa_I} {J : sa_J} {x2 : Int32} {s0 : Int32}   (kt : ¬ s0 = 0 → Sat (ER l D aI aL ad) M_X7_take P 29 [(0, .ref (ad 0)), (2, .int x2)] [] I J) (kf : s0 = 0 → Sat (ER l D aI aL ad) M_X7_take P 23 [(0, .ref (ad 0))] [] I J) : Sat (ER l D aI aL ad) M_X7_take P 20 [(0, .ref (ad 0)), (2, .int x2)] [.int s0] I J := by
  refine s_if_ne (tgt := 29) dX7_take_20 (by decide) (fun c => ?_) (fun c => ?_)
  · exact kt c
  · refine s_pick [0] [(0, .ref (ad 0))] rfl ?_; exact kf (by first | exact c | exact Classical.not_not.mp c)
theorem bX7_take_23 {l : Launch} {D : va_G} {aI aL : ClassId} {ad : Nat → Nat} {P : sa_P} {I : sa_I} {J : sa_J}    (k : Sat (ER l D aI aL ad) M_X7_take P 25 [] [.int (-1 : Int32), .ref (ad 0)] I J) : Sat (ER l D aI aL ad) M_X7_take P 23 [(0, .ref (ad 0))] [] I J := by
  refine s_aload_n 0 dX7_take_23 rfl ?_
  refine s_iconst (v := -1) dX7_take_24 rfl ?_
  refine s_pick [] [] rfl ?_; exact k
theorem bX7_take_28 {l : Launch} {D : va_G} {aI aL : ClassId} {ad : Nat → Nat} {P : sa_P} {I : sa_I} {J : sa_J} {s0 : Int32}   (k : P (some (.int s0)) I J) : Sat (ER l D aI aL ad) M_X7_take P 28 [] [.int s0] I J := by
  exact s_iret rfl dX7_take_28 k
theorem bX7_take_29 {l : Launch} {D : va_G} {aI aL : ClassId} {ad : Nat → Nat} {P : sa_P} {I : sa_I} {J : sa_J} {x2 : Int32}   (k : Sat (ER l D aI aL ad) M_X7_take P 35 [(0, .ref (ad 0))] [.ref (ad 14), .int x2, .ref (ad 0)] I J) : Sat (ER l D aI aL ad) M_X7_take P 29 [(0, .ref (ad 0)), (2, .int x2)] [] I J := by
  refine s_aload_n 0 dX7_take_29 rfl ?_
  refine s_iload_n 1 dX7_take_30 rfl ?_
  refine s_aload_n 0 dX7_take_31 rfl ?_
  refine g_X7_50 dX7_take_32 rfl ?_
  refine s_pick [0] [(0, .ref (ad 0))] rfl ?_; exact k
theorem bX7_take_38 {l : Launch} {D : va_G} {aI aL : ClassId} {ad : Nat → Nat} {P : sa_P} {I : sa_I} {J : sa_J}    (k : Sat (ER l D aI aL ad) M_X7_take P 39 [] [.ref (ad 0)] I J) : Sat (ER l D aI aL ad) M_X7_take P 38 [(0, .ref (ad 0))] [] I J := by
  refine s_aload_n 0 dX7_take_38 rfl ?_
  refine s_pick [] [] rfl ?_; exact k
theorem bX7_take_42 {l : Launch} {D : va_G} {aI aL : ClassId} {ad : Nat → Nat} {P : sa_P} {I : sa_I} {J : sa_J} {s0 : Int32}   (k : P (some (.int s0)) I J) : Sat (ER l D aI aL ad) M_X7_take P 42 [] [.int s0] I J := by
  exact s_iret rfl dX7_take_42 k
/-! X7_times -/
theorem dX7_times_0 : decode cX7_times 0 = .ok (.aload_n 0, 1) := by decide +kernel
theorem dX7_times_1 : decode cX7_times 1 = .ok (.invokevirtual 203, 3) := by decide +kernel
theorem dX7_times_4 : decode cX7_times 4 = .ok (.ifCond .ne 10, 3) := by decide +kernel
theorem dX7_times_7 : decode cX7_times 7 = .ok (.aload_n 0, 1) := by decide +kernel
theorem dX7_times_8 : decode cX7_times 8 = .ok (.bipush (-3), 2) := by decide +kernel
theorem dX7_times_10 : decode cX7_times 10 = .ok (.invokevirtual 84, 3) := by decide +kernel
theorem dX7_times_13 : decode cX7_times 13 = .ok (.ireturn, 1) := by decide +kernel
theorem dX7_times_14 : decode cX7_times 14 = .ok (.aload_n 0, 1) := by decide +kernel
theorem dX7_times_15 : decode cX7_times 15 = .ok (.iload_n 1, 1) := by decide +kernel
theorem dX7_times_16 : decode cX7_times 16 = .ok (.invokevirtual 282, 3) := by decide +kernel
theorem dX7_times_19 : decode cX7_times 19 = .ok (.ifCond .eq 12, 3) := by decide +kernel
theorem dX7_times_22 : decode cX7_times 22 = .ok (.aload_n 0, 1) := by decide +kernel
theorem dX7_times_23 : decode cX7_times 23 = .ok (.iload_n 2, 1) := by decide +kernel
theorem dX7_times_24 : decode cX7_times 24 = .ok (.iload_n 3, 1) := by decide +kernel
theorem dX7_times_25 : decode cX7_times 25 = .ok (.invokevirtual 328, 3) := by decide +kernel
theorem dX7_times_28 : decode cX7_times 28 = .ok (.ifCond .ne 9, 3) := by decide +kernel
theorem dX7_times_31 : decode cX7_times 31 = .ok (.aload_n 0, 1) := by decide +kernel
theorem dX7_times_32 : decode cX7_times 32 = .ok (.iconst (-1), 1) := by decide +kernel
theorem dX7_times_33 : decode cX7_times 33 = .ok (.invokevirtual 84, 3) := by decide +kernel
theorem dX7_times_36 : decode cX7_times 36 = .ok (.ireturn, 1) := by decide +kernel
theorem dX7_times_37 : decode cX7_times 37 = .ok (.iconst 0, 1) := by decide +kernel
theorem dX7_times_38 : decode cX7_times 38 = .ok (.istore 4, 2) := by decide +kernel
theorem dX7_times_40 : decode cX7_times 40 = .ok (.aload_n 0, 1) := by decide +kernel
theorem dX7_times_41 : decode cX7_times 41 = .ok (.iload_n 1, 1) := by decide +kernel
theorem dX7_times_42 : decode cX7_times 42 = .ok (.aload_n 0, 1) := by decide +kernel
theorem dX7_times_43 : decode cX7_times 43 = .ok (.getfield 53, 3) := by decide +kernel
theorem dX7_times_46 : decode cX7_times 46 = .ok (.invokevirtual 285, 3) := by decide +kernel
theorem dX7_times_49 : decode cX7_times 49 = .ok (.aload_n 0, 1) := by decide +kernel
theorem dX7_times_50 : decode cX7_times 50 = .ok (.iload_n 3, 1) := by decide +kernel
theorem dX7_times_51 : decode cX7_times 51 = .ok (.aload_n 0, 1) := by decide +kernel
theorem dX7_times_52 : decode cX7_times 52 = .ok (.getfield 56, 3) := by decide +kernel
theorem dX7_times_55 : decode cX7_times 55 = .ok (.invokevirtual 318, 3) := by decide +kernel
theorem dX7_times_58 : decode cX7_times 58 = .ok (.aload_n 0, 1) := by decide +kernel
theorem dX7_times_59 : decode cX7_times 59 = .ok (.invokevirtual 288, 3) := by decide +kernel
theorem dX7_times_62 : decode cX7_times 62 = .ok (.ifCond .eq 25, 3) := by decide +kernel
theorem dX7_times_65 : decode cX7_times 65 = .ok (.aload_n 0, 1) := by decide +kernel
theorem dX7_times_66 : decode cX7_times 66 = .ok (.invokevirtual 291, 3) := by decide +kernel
theorem dX7_times_69 : decode cX7_times 69 = .ok (.aload_n 0, 1) := by decide +kernel
theorem dX7_times_70 : decode cX7_times 70 = .ok (.aload_n 0, 1) := by decide +kernel
theorem dX7_times_71 : decode cX7_times 71 = .ok (.getfield 50, 3) := by decide +kernel
theorem dX7_times_74 : decode cX7_times 74 = .ok (.aload_n 0, 1) := by decide +kernel
theorem dX7_times_75 : decode cX7_times 75 = .ok (.getfield 53, 3) := by decide +kernel
theorem dX7_times_78 : decode cX7_times 78 = .ok (.invokevirtual 321, 3) := by decide +kernel
theorem dX7_times_81 : decode cX7_times 81 = .ok (.iinc 4 1, 3) := by decide +kernel
theorem dX7_times_84 : decode cX7_times 84 = .ok (.goto (-26), 3) := by decide +kernel
theorem dX7_times_87 : decode cX7_times 87 = .ok (.iload 4, 2) := by decide +kernel
theorem dX7_times_89 : decode cX7_times 89 = .ok (.ireturn, 1) := by decide +kernel
theorem bX7_times_0 {l : Launch} {D : va_G} {aI aL : ClassId} {ad : Nat → Nat} {P : sa_P} {I : sa_I} {J : sa_J} {x1 : Int32} {x2 : Int32} {x3 : Int32}   (k : Sat (ER l D aI aL ad) M_X7_times P 1 [(0, .ref (ad 0)), (1, .int x1), (2, .int x2), (3, .int x3)] [.ref (ad 0)] I J) : Sat (ER l D aI aL ad) M_X7_times P 0 [(0, .ref (ad 0)), (1, .int x1), (2, .int x2), (3, .int x3)] [] I J := by
  refine s_aload_n 0 dX7_times_0 rfl ?_
  exact k
theorem bX7_times_4 {l : Launch} {D : va_G} {aI aL : ClassId} {ad : Nat → Nat} {P : sa_P} {I : sa_I} {J : sa_J} {x1 : Int32} {x2 : Int32} {x3 : Int32} {s0 : Int32}   (kt : ¬ s0 = 0 → Sat (ER l D aI aL ad) M_X7_times P 14 [(0, .ref (ad 0)), (1, .int x1), (2, .int x2), (3, .int x3)] [] I J) (kf : s0 = 0 → Sat (ER l D aI aL ad) M_X7_times P 7 [(0, .ref (ad 0))] [] I J) : Sat (ER l D aI aL ad) M_X7_times P 4 [(0, .ref (ad 0)), (1, .int x1), (2, .int x2), (3, .int x3)] [.int s0] I J := by
  refine s_if_ne (tgt := 14) dX7_times_4 (by decide) (fun c => ?_) (fun c => ?_)
  · exact kt c
  · refine s_pick [0] [(0, .ref (ad 0))] rfl ?_; exact kf (by first | exact c | exact Classical.not_not.mp c)
theorem bX7_times_7 {l : Launch} {D : va_G} {aI aL : ClassId} {ad : Nat → Nat} {P : sa_P} {I : sa_I} {J : sa_J}    (k : Sat (ER l D aI aL ad) M_X7_times P 10 [] [.int (-3 : Int32), .ref (ad 0)] I J) : Sat (ER l D aI aL ad) M_X7_times P 7 [(0, .ref (ad 0))] [] I J := by
  refine s_aload_n 0 dX7_times_7 rfl ?_
  refine s_bipush (v := -3) dX7_times_8 rfl ?_
  refine s_pick [] [] rfl ?_; exact k
theorem bX7_times_13 {l : Launch} {D : va_G} {aI aL : ClassId} {ad : Nat → Nat} {P : sa_P} {I : sa_I} {J : sa_J} {s0 : Int32}   (k : P (some (.int s0)) I J) : Sat (ER l D aI aL ad) M_X7_times P 13 [] [.int s0] I J := by
  exact s_iret rfl dX7_times_13 k
theorem bX7_times_14 {l : Launch} {D : va_G} {aI aL : ClassId} {ad : Nat → Nat} {P : sa_P} {I : sa_I} {J : sa_J} {x1 : Int32} {x2 : Int32} {x3 : Int32}   (k : Sat (ER l D aI aL ad) M_X7_times P 16 [(0, .ref (ad 0)), (1, .int x1), (2, .int x2), (3, .int x3)] [.int x1, .ref (ad 0)] I J) : Sat (ER l D aI aL ad) M_X7_times P 14 [(0, .ref (ad 0)), (1, .int x1), (2, .int x2), (3, .int x3)] [] I J := by
  refine s_aload_n 0 dX7_times_14 rfl ?_
  refine s_iload_n 1 dX7_times_15 rfl ?_
  exact k
theorem bX7_times_19 {l : Launch} {D : va_G} {aI aL : ClassId} {ad : Nat → Nat} {P : sa_P} {I : sa_I} {J : sa_J} {x1 : Int32} {x2 : Int32} {x3 : Int32} {s0 : Int32}   (kt : s0 = 0 → Sat (ER l D aI aL ad) M_X7_times P 31 [(0, .ref (ad 0))] [] I J) (kf : ¬ s0 = 0 → Sat (ER l D aI aL ad) M_X7_times P 22 [(0, .ref (ad 0)), (1, .int x1), (2, .int x2), (3, .int x3)] [] I J) : Sat (ER l D aI aL ad) M_X7_times P 19 [(0, .ref (ad 0)), (1, .int x1), (2, .int x2), (3, .int x3)] [.int s0] I J := by
  refine s_if_eq (tgt := 31) dX7_times_19 (by decide) (fun c => ?_) (fun c => ?_)
  · refine s_pick [0] [(0, .ref (ad 0))] rfl ?_; exact kt c
  · exact kf c
theorem bX7_times_22 {l : Launch} {D : va_G} {aI aL : ClassId} {ad : Nat → Nat} {P : sa_P} {I : sa_I} {J : sa_J} {x1 : Int32} {x2 : Int32} {x3 : Int32}   (k : Sat (ER l D aI aL ad) M_X7_times P 25 [(0, .ref (ad 0)), (1, .int x1), (3, .int x3)] [.int x3, .int x2, .ref (ad 0)] I J) : Sat (ER l D aI aL ad) M_X7_times P 22 [(0, .ref (ad 0)), (1, .int x1), (2, .int x2), (3, .int x3)] [] I J := by
  refine s_aload_n 0 dX7_times_22 rfl ?_
  refine s_iload_n 2 dX7_times_23 rfl ?_
  refine s_iload_n 3 dX7_times_24 rfl ?_
  refine s_pick [0, 1, 3] [(0, .ref (ad 0)), (1, .int x1), (3, .int x3)] rfl ?_; exact k
theorem bX7_times_28 {l : Launch} {D : va_G} {aI aL : ClassId} {ad : Nat → Nat} {P : sa_P} {I : sa_I} {J : sa_J} {x1 : Int32} {x3 : Int32} {s0 : Int32}   (kt : ¬ s0 = 0 → Sat (ER l D aI aL ad) M_X7_times P 37 [(0, .ref (ad 0)), (1, .int x1), (3, .int x3)] [] I J) (kf : s0 = 0 → Sat (ER l D aI aL ad) M_X7_times P 31 [(0, .ref (ad 0))] [] I J) : Sat (ER l D aI aL ad) M_X7_times P 28 [(0, .ref (ad 0)), (1, .int x1), (3, .int x3)] [.int s0] I J := by
  refine s_if_ne (tgt := 37) dX7_times_28 (by decide) (fun c => ?_) (fun c => ?_)
  · exact kt c
  · refine s_pick [0] [(0, .ref (ad 0))] rfl ?_; exact kf (by first | exact c | exact Classical.not_not.mp c)
theorem bX7_times_31 {l : Launch} {D : va_G} {aI aL : ClassId} {ad : Nat → Nat} {P : sa_P} {I : sa_I} {J : sa_J}    (k : Sat (ER l D aI aL ad) M_X7_times P 33 [] [.int (-1 : Int32), .ref (ad 0)] I J) : Sat (ER l D aI aL ad) M_X7_times P 31 [(0, .ref (ad 0))] [] I J := by
  refine s_aload_n 0 dX7_times_31 rfl ?_
  refine s_iconst (v := -1) dX7_times_32 rfl ?_
  refine s_pick [] [] rfl ?_; exact k
theorem bX7_times_36 {l : Launch} {D : va_G} {aI aL : ClassId} {ad : Nat → Nat} {P : sa_P} {I : sa_I} {J : sa_J} {s0 : Int32}   (k : P (some (.int s0)) I J) : Sat (ER l D aI aL ad) M_X7_times P 36 [] [.int s0] I J := by
  exact s_iret rfl dX7_times_36 k
theorem bX7_times_37 {l : Launch} {D : va_G} {aI aL : ClassId} {ad : Nat → Nat} {P : sa_P} {I : sa_I} {J : sa_J} {x1 : Int32} {x3 : Int32} {v38 : Int32}  (f38 : (0 : Int32) = v38) (k : Sat (ER l D aI aL ad) M_X7_times P 46 [(0, .ref (ad 0)), (3, .int x3), (4, .int v38)] [.ref (ad 15), .int x1, .ref (ad 0)] I J) : Sat (ER l D aI aL ad) M_X7_times P 37 [(0, .ref (ad 0)), (1, .int x1), (3, .int x3)] [] I J := by
  refine s_iconst (v := 0) dX7_times_37 rfl ?_
  refine s_eqi f38 ?_
  refine s_istore [(4, .int v38), (0, .ref (ad 0)), (1, .int x1), (3, .int x3)] dX7_times_38 (Nat.lt_of_lt_of_le (Nat.lt_succ_self _) (Nat.le_of_ble_eq_true rfl)) rfl ?_
  refine s_aload_n 1 dX7_times_40 rfl ?_
  refine s_iload_n 2 dX7_times_41 rfl ?_
  refine s_aload_n 1 dX7_times_42 rfl ?_
  refine g_X7_53 dX7_times_43 rfl ?_
  refine s_pick [1, 3, 0] [(0, .ref (ad 0)), (3, .int x3), (4, .int v38)] rfl ?_; exact k
theorem bX7_times_49 {l : Launch} {D : va_G} {aI aL : ClassId} {ad : Nat → Nat} {P : sa_P} {I : sa_I} {J : sa_J} {x3 : Int32} {x4 : Int32}   (k : Sat (ER l D aI aL ad) M_X7_times P 55 [(0, .ref (ad 0)), (4, .int x4)] [.ref (ad 16), .int x3, .ref (ad 0)] I J) : Sat (ER l D aI aL ad) M_X7_times P 49 [(0, .ref (ad 0)), (3, .int x3), (4, .int x4)] [] I J := by
  refine s_aload_n 0 dX7_times_49 rfl ?_
  refine s_iload_n 1 dX7_times_50 rfl ?_
  refine s_aload_n 0 dX7_times_51 rfl ?_
  refine g_X7_56 dX7_times_52 rfl ?_
  refine s_pick [0, 2] [(0, .ref (ad 0)), (4, .int x4)] rfl ?_; exact k
theorem bX7_times_58 {l : Launch} {D : va_G} {aI aL : ClassId} {ad : Nat → Nat} {P : sa_P} {I : sa_I} {J : sa_J} {x4 : Int32}   (k : Sat (ER l D aI aL ad) M_X7_times P 59 [(0, .ref (ad 0)), (4, .int x4)] [.ref (ad 0)] I J) : Sat (ER l D aI aL ad) M_X7_times P 58 [(0, .ref (ad 0)), (4, .int x4)] [] I J := by
  refine s_aload_n 0 dX7_times_58 rfl ?_
  exact k
theorem bX7_times_62 {l : Launch} {D : va_G} {aI aL : ClassId} {ad : Nat → Nat} {P : sa_P} {I : sa_I} {J : sa_J} {x4 : Int32} {s0 : Int32}   (kt : s0 = 0 → Sat (ER l D aI aL ad) M_X7_times P 87 [(4, .int x4)] [] I J) (kf : ¬ s0 = 0 → Sat (ER l D aI aL ad) M_X7_times P 65 [(0, .ref (ad 0)), (4, .int x4)] [] I J) : Sat (ER l D aI aL ad) M_X7_times P 62 [(0, .ref (ad 0)), (4, .int x4)] [.int s0] I J := by
  refine s_if_eq (tgt := 87) dX7_times_62 (by decide) (fun c => ?_) (fun c => ?_)
  · refine s_pick [1] [(4, .int x4)] rfl ?_; exact kt c
  · exact kf c
theorem bX7_times_65 {l : Launch} {D : va_G} {aI aL : ClassId} {ad : Nat → Nat} {P : sa_P} {I : sa_I} {J : sa_J} {x4 : Int32}   (k : Sat (ER l D aI aL ad) M_X7_times P 66 [(0, .ref (ad 0)), (4, .int x4)] [.ref (ad 0)] I J) : Sat (ER l D aI aL ad) M_X7_times P 65 [(0, .ref (ad 0)), (4, .int x4)] [] I J := by
  refine s_aload_n 0 dX7_times_65 rfl ?_
  exact k
theorem bX7_times_69 {l : Launch} {D : va_G} {aI aL : ClassId} {ad : Nat → Nat} {P : sa_P} {I : sa_I} {J : sa_J} {x4 : Int32}   (k : Sat (ER l D aI aL ad) M_X7_times P 78 [(0, .ref (ad 0)), (4, .int x4)] [.ref (ad 15), .ref (ad 14), .ref (ad 0)] I J) : Sat (ER l D aI aL ad) M_X7_times P 69 [(0, .ref (ad 0)), (4, .int x4)] [] I J := by
  refine s_aload_n 0 dX7_times_69 rfl ?_
  refine s_aload_n 0 dX7_times_70 rfl ?_
  refine g_X7_50 dX7_times_71 rfl ?_
  refine s_aload_n 0 dX7_times_74 rfl ?_
  refine g_X7_53 dX7_times_75 rfl ?_
  exact k
theorem bX7_times_81 {l : Launch} {D : va_G} {aI aL : ClassId} {ad : Nat → Nat} {P : sa_P} {I : sa_I} {J : sa_J} {x4 : Int32} {v81 : Int32}  (f81 : x4 + 1 = v81) (k : Sat (ER l D aI aL ad) M_X7_times P 58 [(0, .ref (ad 0)), (4, .int v81)] [] I J) : Sat (ER l D aI aL ad) M_X7_times P 81 [(0, .ref (ad 0)), (4, .int x4)] [] I J := by
  refine s_iinc 1 v81 [(4, .int v81), (0, .ref (ad 0))] dX7_times_81 rfl f81 (Nat.lt_of_lt_of_le (Nat.lt_succ_self _) (Nat.le_of_ble_eq_true rfl)) rfl ?_
  refine s_goto (tgt := 58) dX7_times_84 (by decide) ?_
  refine s_pick [1, 0] [(0, .ref (ad 0)), (4, .int v81)] rfl ?_; exact k
theorem bX7_times_87 {l : Launch} {D : va_G} {aI aL : ClassId} {ad : Nat → Nat} {P : sa_P} {I : sa_I} {J : sa_J} {x4 : Int32}   (k : P (some (.int x4)) I J) : Sat (ER l D aI aL ad) M_X7_times P 87 [(4, .int x4)] [] I J := by
  refine s_iload 0 dX7_times_87 rfl ?_
  exact s_iret rfl dX7_times_89 k
/-! X7_holdsForm -/
theorem dX7_holdsForm_0 : decode cX7_holdsForm 0 = .ok (.aload_n 0, 1) := by decide +kernel
theorem dX7_holdsForm_1 : decode cX7_holdsForm 1 = .ok (.getfield 71, 3) := by decide +kernel
theorem dX7_holdsForm_4 : decode cX7_holdsForm 4 = .ok (.aload_n 0, 1) := by decide +kernel
theorem dX7_holdsForm_5 : decode cX7_holdsForm 5 = .ok (.getfield 169, 3) := by decide +kernel
theorem dX7_holdsForm_8 : decode cX7_holdsForm 8 = .ok (.lload_n 1, 1) := by decide +kernel
theorem dX7_holdsForm_9 : decode cX7_holdsForm 9 = .ok (.l2i, 1) := by decide +kernel
theorem dX7_holdsForm_10 : decode cX7_holdsForm 10 = .ok (.iastore, 1) := by decide +kernel
theorem dX7_holdsForm_11 : decode cX7_holdsForm 11 = .ok (.aload_n 0, 1) := by decide +kernel
theorem dX7_holdsForm_12 : decode cX7_holdsForm 12 = .ok (.getfield 74, 3) := by decide +kernel
theorem dX7_holdsForm_15 : decode cX7_holdsForm 15 = .ok (.aload_n 0, 1) := by decide +kernel
theorem dX7_holdsForm_16 : decode cX7_holdsForm 16 = .ok (.getfield 169, 3) := by decide +kernel
theorem dX7_holdsForm_19 : decode cX7_holdsForm 19 = .ok (.lload_n 3, 1) := by decide +kernel
theorem dX7_holdsForm_20 : decode cX7_holdsForm 20 = .ok (.l2i, 1) := by decide +kernel
theorem dX7_holdsForm_21 : decode cX7_holdsForm 21 = .ok (.iastore, 1) := by decide +kernel
theorem dX7_holdsForm_22 : decode cX7_holdsForm 22 = .ok (.aload_n 0, 1) := by decide +kernel
theorem dX7_holdsForm_23 : decode cX7_holdsForm 23 = .ok (.getfield 77, 3) := by decide +kernel
theorem dX7_holdsForm_26 : decode cX7_holdsForm 26 = .ok (.aload_n 0, 1) := by decide +kernel
theorem dX7_holdsForm_27 : decode cX7_holdsForm 27 = .ok (.getfield 169, 3) := by decide +kernel
theorem dX7_holdsForm_30 : decode cX7_holdsForm 30 = .ok (.lload_n 3, 1) := by decide +kernel
theorem dX7_holdsForm_31 : decode cX7_holdsForm 31 = .ok (.lload_n 3, 1) := by decide +kernel
theorem dX7_holdsForm_32 : decode cX7_holdsForm 32 = .ok (.lmul, 1) := by decide +kernel
theorem dX7_holdsForm_33 : decode cX7_holdsForm 33 = .ok (.aload_n 0, 1) := by decide +kernel
theorem dX7_holdsForm_34 : decode cX7_holdsForm 34 = .ok (.getfield 157, 3) := by decide +kernel
theorem dX7_holdsForm_37 : decode cX7_holdsForm 37 = .ok (.lsub, 1) := by decide +kernel
theorem dX7_holdsForm_38 : decode cX7_holdsForm 38 = .ok (.ldc2_w 96, 3) := by decide +kernel
theorem dX7_holdsForm_41 : decode cX7_holdsForm 41 = .ok (.lload_n 1, 1) := by decide +kernel
theorem dX7_holdsForm_42 : decode cX7_holdsForm 42 = .ok (.lmul, 1) := by decide +kernel
theorem dX7_holdsForm_43 : decode cX7_holdsForm 43 = .ok (.ldiv, 1) := by decide +kernel
theorem dX7_holdsForm_44 : decode cX7_holdsForm 44 = .ok (.l2i, 1) := by decide +kernel
theorem dX7_holdsForm_45 : decode cX7_holdsForm 45 = .ok (.iastore, 1) := by decide +kernel
theorem dX7_holdsForm_46 : decode cX7_holdsForm 46 = .ok (.aload_n 0, 1) := by decide +kernel
theorem dX7_holdsForm_47 : decode cX7_holdsForm 47 = .ok (.dup, 1) := by decide +kernel
theorem dX7_holdsForm_48 : decode cX7_holdsForm 48 = .ok (.getfield 169, 3) := by decide +kernel
theorem dX7_holdsForm_51 : decode cX7_holdsForm 51 = .ok (.iconst 1, 1) := by decide +kernel
theorem dX7_holdsForm_52 : decode cX7_holdsForm 52 = .ok (.iadd, 1) := by decide +kernel
theorem dX7_holdsForm_53 : decode cX7_holdsForm 53 = .ok (.putfield 169, 3) := by decide +kernel
theorem dX7_holdsForm_56 : decode cX7_holdsForm 56 = .ok (.return_, 1) := by decide +kernel
theorem bX7_holdsForm_0 {l : Launch} {D : va_G} {aI aL : ClassId} {ad : Nat → Nat} {P : sa_P} {I : sa_I} {J : sa_J} {x1 : Int64} {x3 : Int64} {j5 : Nat} {v10 : Int32} {j16 : Nat} {v21 : Int32} {j27 : Nat} {v45 : Int32} {v53 : Int32} (e5 : I 0 36 = nI j5) (h10 : j5 < 3000) (e16 : (sa_uI I 21 j5 v10) 0 36 = nI j16) (h21 : j16 < 3000) (e27 : (sa_uI (sa_uI I 21 j5 v10) 22 j16 v21) 0 36 = nI j27) (z43 : ¬ (4 : Int64) * x1 = 0) (h45 : j27 < 3000) (f10 : x1.toInt32 = v10) (f21 : x3.toInt32 = v21) (f45 : (((x3 * x3) - (J 0 10)) / ((4 : Int64) * x1)).toInt32 = v45) (f53 : ((sa_uI (sa_uI (sa_uI I 21 j5 v10) 22 j16 v21) 23 j27 v45) 0 36) + (1 : Int32) = v53) (k : P (none) (sa_uI (sa_uI (sa_uI (sa_uI I 21 j5 v10) 22 j16 v21) 23 j27 v45) 0 36 v53) J) : Sat (ER l D aI aL ad) M_X7_holdsForm P 0 [(0, .ref (ad 0)), (1, .long x1), (3, .long x3)] [] I J := by
  refine s_aload_n 0 dX7_holdsForm_0 rfl ?_
  refine g_X7_71 dX7_holdsForm_1 rfl ?_
  refine s_aload_n 0 dX7_holdsForm_4 rfl ?_
  refine g_X7_169 dX7_holdsForm_5 rfl ?_
  refine s_eqi e5 ?_
  refine s_lload_n 1 dX7_holdsForm_8 rfl ?_
  refine s_l2i dX7_holdsForm_9 ?_
  refine s_eqi f10 ?_
  refine s_iastoreN aI_R21 h10 (by decide) dX7_holdsForm_10 ?_
  refine s_aload_n 0 dX7_holdsForm_11 rfl ?_
  refine g_X7_74 dX7_holdsForm_12 rfl ?_
  refine s_aload_n 0 dX7_holdsForm_15 rfl ?_
  refine g_X7_169 dX7_holdsForm_16 rfl ?_
  refine s_eqi e16 ?_
  refine s_lload_n 2 dX7_holdsForm_19 rfl ?_
  refine s_l2i dX7_holdsForm_20 ?_
  refine s_eqi f21 ?_
  refine s_iastoreN aI_R22 h21 (by decide) dX7_holdsForm_21 ?_
  refine s_aload_n 0 dX7_holdsForm_22 rfl ?_
  refine g_X7_77 dX7_holdsForm_23 rfl ?_
  refine s_aload_n 0 dX7_holdsForm_26 rfl ?_
  refine g_X7_169 dX7_holdsForm_27 rfl ?_
  refine s_eqi e27 ?_
  refine s_lload_n 2 dX7_holdsForm_30 rfl ?_
  refine s_lload_n 2 dX7_holdsForm_31 rfl ?_
  refine s_lmul dX7_holdsForm_32 ?_
  refine s_aload_n 0 dX7_holdsForm_33 rfl ?_
  refine g_X7_157 dX7_holdsForm_34 rfl ?_
  refine s_lsub dX7_holdsForm_37 ?_
  refine s_ldc2 wk_X7_96 dX7_holdsForm_38 ?_
  refine s_lload_n 1 dX7_holdsForm_41 rfl ?_
  refine s_lmul dX7_holdsForm_42 ?_
  refine s_ldiv dX7_holdsForm_43 z43 ?_
  refine s_l2i dX7_holdsForm_44 ?_
  refine s_eqi f45 ?_
  refine s_iastoreN aI_R23 h45 (by decide) dX7_holdsForm_45 ?_
  refine s_aload_n 0 dX7_holdsForm_46 rfl ?_
  refine s_dup dX7_holdsForm_47 rfl ?_
  refine g_X7_169 dX7_holdsForm_48 rfl ?_
  refine s_iconst (v := 1) dX7_holdsForm_51 rfl ?_
  refine s_iadd dX7_holdsForm_52 ?_
  refine s_eqi f53 ?_
  refine p_X7_169 dX7_holdsForm_53 rfl ?_
  exact s_vret rfl dX7_holdsForm_56 k
/-! X7_findForms -/
theorem dX7_findForms_0 : decode cX7_findForms 0 = .ok (.aload_n 0, 1) := by decide +kernel
theorem dX7_findForms_1 : decode cX7_findForms 1 = .ok (.getfield 169, 3) := by decide +kernel
theorem dX7_findForms_4 : decode cX7_findForms 4 = .ok (.ifCond .lt 4, 3) := by decide +kernel
theorem dX7_findForms_7 : decode cX7_findForms 7 = .ok (.return_, 1) := by decide +kernel
theorem dX7_findForms_8 : decode cX7_findForms 8 = .ok (.aload_n 0, 1) := by decide +kernel
theorem dX7_findForms_9 : decode cX7_findForms 9 = .ok (.iconst 0, 1) := by decide +kernel
theorem dX7_findForms_10 : decode cX7_findForms 10 = .ok (.putfield 169, 3) := by decide +kernel
theorem dX7_findForms_13 : decode cX7_findForms 13 = .ok (.aload_n 0, 1) := by decide +kernel
theorem dX7_findForms_14 : decode cX7_findForms 14 = .ok (.aload_n 0, 1) := by decide +kernel
theorem dX7_findForms_15 : decode cX7_findForms 15 = .ok (.getfield 157, 3) := by decide +kernel
theorem dX7_findForms_18 : decode cX7_findForms 18 = .ok (.lconst 0, 1) := by decide +kernel
theorem dX7_findForms_19 : decode cX7_findForms 19 = .ok (.lcmp, 1) := by decide +kernel
theorem dX7_findForms_20 : decode cX7_findForms 20 = .ok (.ifCond .le 13, 3) := by decide +kernel
theorem dX7_findForms_23 : decode cX7_findForms 23 = .ok (.aload_n 0, 1) := by decide +kernel
theorem dX7_findForms_24 : decode cX7_findForms 24 = .ok (.getfield 157, 3) := by decide +kernel
theorem dX7_findForms_27 : decode cX7_findForms 27 = .ok (.invokestatic 98, 3) := by decide +kernel
theorem dX7_findForms_30 : decode cX7_findForms 30 = .ok (.goto 4, 3) := by decide +kernel
theorem dX7_findForms_33 : decode cX7_findForms 33 = .ok (.lconst 0, 1) := by decide +kernel
theorem dX7_findForms_34 : decode cX7_findForms 34 = .ok (.putfield 331, 3) := by decide +kernel
theorem dX7_findForms_37 : decode cX7_findForms 37 = .ok (.aload_n 0, 1) := by decide +kernel
theorem dX7_findForms_38 : decode cX7_findForms 38 = .ok (.getfield 157, 3) := by decide +kernel
theorem dX7_findForms_41 : decode cX7_findForms 41 = .ok (.lconst 0, 1) := by decide +kernel
theorem dX7_findForms_42 : decode cX7_findForms 42 = .ok (.lcmp, 1) := by decide +kernel
theorem dX7_findForms_43 : decode cX7_findForms 43 = .ok (.ifCond .le 10, 3) := by decide +kernel
theorem dX7_findForms_46 : decode cX7_findForms 46 = .ok (.aload_n 0, 1) := by decide +kernel
theorem dX7_findForms_47 : decode cX7_findForms 47 = .ok (.getfield 331, 3) := by decide +kernel
theorem dX7_findForms_50 : decode cX7_findForms 50 = .ok (.goto 11, 3) := by decide +kernel
theorem dX7_findForms_53 : decode cX7_findForms 53 = .ok (.aload_n 0, 1) := by decide +kernel
theorem dX7_findForms_54 : decode cX7_findForms 54 = .ok (.getfield 157, 3) := by decide +kernel
theorem dX7_findForms_57 : decode cX7_findForms 57 = .ok (.lneg, 1) := by decide +kernel
theorem dX7_findForms_58 : decode cX7_findForms 58 = .ok (.invokestatic 98, 3) := by decide +kernel
theorem dX7_findForms_61 : decode cX7_findForms 61 = .ok (.lstore_n 1, 1) := by decide +kernel
theorem dX7_findForms_62 : decode cX7_findForms 62 = .ok (.aload_n 0, 1) := by decide +kernel
theorem dX7_findForms_63 : decode cX7_findForms 63 = .ok (.getfield 157, 3) := by decide +kernel
theorem dX7_findForms_66 : decode cX7_findForms 66 = .ok (.lconst 0, 1) := by decide +kernel
theorem dX7_findForms_67 : decode cX7_findForms 67 = .ok (.lcmp, 1) := by decide +kernel
theorem dX7_findForms_68 : decode cX7_findForms 68 = .ok (.ifCond .le 8, 3) := by decide +kernel
theorem dX7_findForms_71 : decode cX7_findForms 71 = .ok (.lload_n 1, 1) := by decide +kernel
theorem dX7_findForms_72 : decode cX7_findForms 72 = .ok (.lneg, 1) := by decide +kernel
theorem dX7_findForms_73 : decode cX7_findForms 73 = .ok (.goto 4, 3) := by decide +kernel
theorem dX7_findForms_76 : decode cX7_findForms 76 = .ok (.lconst 1, 1) := by decide +kernel
theorem dX7_findForms_77 : decode cX7_findForms 77 = .ok (.lstore_n 3, 1) := by decide +kernel
theorem dX7_findForms_78 : decode cX7_findForms 78 = .ok (.lload_n 3, 1) := by decide +kernel
theorem dX7_findForms_79 : decode cX7_findForms 79 = .ok (.lload_n 1, 1) := by decide +kernel
theorem dX7_findForms_80 : decode cX7_findForms 80 = .ok (.lcmp, 1) := by decide +kernel
theorem dX7_findForms_81 : decode cX7_findForms 81 = .ok (.ifCond .gt 106, 3) := by decide +kernel
theorem dX7_findForms_84 : decode cX7_findForms 84 = .ok (.aload_n 0, 1) := by decide +kernel
theorem dX7_findForms_85 : decode cX7_findForms 85 = .ok (.getfield 157, 3) := by decide +kernel
theorem dX7_findForms_88 : decode cX7_findForms 88 = .ok (.lconst 0, 1) := by decide +kernel
theorem dX7_findForms_89 : decode cX7_findForms 89 = .ok (.lcmp, 1) := by decide +kernel
theorem dX7_findForms_90 : decode cX7_findForms 90 = .ok (.ifCond .le 7, 3) := by decide +kernel
theorem dX7_findForms_93 : decode cX7_findForms 93 = .ok (.lconst 1, 1) := by decide +kernel
theorem dX7_findForms_94 : decode cX7_findForms 94 = .ok (.goto 5, 3) := by decide +kernel
theorem dX7_findForms_97 : decode cX7_findForms 97 = .ok (.lload_n 3, 1) := by decide +kernel
theorem dX7_findForms_98 : decode cX7_findForms 98 = .ok (.lneg, 1) := by decide +kernel
theorem dX7_findForms_99 : decode cX7_findForms 99 = .ok (.lstore 5, 2) := by decide +kernel
theorem dX7_findForms_101 : decode cX7_findForms 101 = .ok (.lload 5, 2) := by decide +kernel
theorem dX7_findForms_103 : decode cX7_findForms 103 = .ok (.aload_n 0, 1) := by decide +kernel
theorem dX7_findForms_104 : decode cX7_findForms 104 = .ok (.getfield 157, 3) := by decide +kernel
theorem dX7_findForms_107 : decode cX7_findForms 107 = .ok (.lconst 0, 1) := by decide +kernel
theorem dX7_findForms_108 : decode cX7_findForms 108 = .ok (.lcmp, 1) := by decide +kernel
theorem dX7_findForms_109 : decode cX7_findForms 109 = .ok (.ifCond .le 10, 3) := by decide +kernel
theorem dX7_findForms_112 : decode cX7_findForms 112 = .ok (.aload_n 0, 1) := by decide +kernel
theorem dX7_findForms_113 : decode cX7_findForms 113 = .ok (.getfield 331, 3) := by decide +kernel
theorem dX7_findForms_116 : decode cX7_findForms 116 = .ok (.goto 4, 3) := by decide +kernel
theorem dX7_findForms_119 : decode cX7_findForms 119 = .ok (.lload_n 3, 1) := by decide +kernel
theorem dX7_findForms_120 : decode cX7_findForms 120 = .ok (.lcmp, 1) := by decide +kernel
theorem dX7_findForms_121 : decode cX7_findForms 121 = .ok (.ifCond .gt 59, 3) := by decide +kernel
theorem dX7_findForms_124 : decode cX7_findForms 124 = .ok (.lload_n 3, 1) := by decide +kernel
theorem dX7_findForms_125 : decode cX7_findForms 125 = .ok (.lconst 0, 1) := by decide +kernel
theorem dX7_findForms_126 : decode cX7_findForms 126 = .ok (.lcmp, 1) := by decide +kernel
theorem dX7_findForms_127 : decode cX7_findForms 127 = .ok (.ifCond .eq 44, 3) := by decide +kernel
theorem dX7_findForms_130 : decode cX7_findForms 130 = .ok (.lload 5, 2) := by decide +kernel
theorem dX7_findForms_132 : decode cX7_findForms 132 = .ok (.lload 5, 2) := by decide +kernel
theorem dX7_findForms_134 : decode cX7_findForms 134 = .ok (.lmul, 1) := by decide +kernel
theorem dX7_findForms_135 : decode cX7_findForms 135 = .ok (.aload_n 0, 1) := by decide +kernel
theorem dX7_findForms_136 : decode cX7_findForms 136 = .ok (.getfield 157, 3) := by decide +kernel
theorem dX7_findForms_139 : decode cX7_findForms 139 = .ok (.lsub, 1) := by decide +kernel
theorem dX7_findForms_140 : decode cX7_findForms 140 = .ok (.ldc2_w 96, 3) := by decide +kernel
theorem dX7_findForms_143 : decode cX7_findForms 143 = .ok (.lload_n 3, 1) := by decide +kernel
theorem dX7_findForms_144 : decode cX7_findForms 144 = .ok (.lmul, 1) := by decide +kernel
theorem dX7_findForms_145 : decode cX7_findForms 145 = .ok (.lrem, 1) := by decide +kernel
theorem dX7_findForms_146 : decode cX7_findForms 146 = .ok (.lconst 0, 1) := by decide +kernel
theorem dX7_findForms_147 : decode cX7_findForms 147 = .ok (.lcmp, 1) := by decide +kernel
theorem dX7_findForms_148 : decode cX7_findForms 148 = .ok (.ifCond .ne 23, 3) := by decide +kernel
theorem dX7_findForms_151 : decode cX7_findForms 151 = .ok (.aload_n 0, 1) := by decide +kernel
theorem dX7_findForms_152 : decode cX7_findForms 152 = .ok (.lload_n 3, 1) := by decide +kernel
theorem dX7_findForms_153 : decode cX7_findForms 153 = .ok (.lload 5, 2) := by decide +kernel
theorem dX7_findForms_155 : decode cX7_findForms 155 = .ok (.invokevirtual 334, 3) := by decide +kernel
theorem dX7_findForms_158 : decode cX7_findForms 158 = .ok (.ifCond .ne 6, 3) := by decide +kernel
theorem dX7_findForms_161 : decode cX7_findForms 161 = .ok (.goto 10, 3) := by decide +kernel
theorem dX7_findForms_164 : decode cX7_findForms 164 = .ok (.aload_n 0, 1) := by decide +kernel
theorem dX7_findForms_165 : decode cX7_findForms 165 = .ok (.lload_n 3, 1) := by decide +kernel
theorem dX7_findForms_166 : decode cX7_findForms 166 = .ok (.lload 5, 2) := by decide +kernel
theorem dX7_findForms_168 : decode cX7_findForms 168 = .ok (.invokevirtual 338, 3) := by decide +kernel
theorem dX7_findForms_171 : decode cX7_findForms 171 = .ok (.lload 5, 2) := by decide +kernel
theorem dX7_findForms_173 : decode cX7_findForms 173 = .ok (.lconst 1, 1) := by decide +kernel
theorem dX7_findForms_174 : decode cX7_findForms 174 = .ok (.ladd, 1) := by decide +kernel
theorem dX7_findForms_175 : decode cX7_findForms 175 = .ok (.lstore 5, 2) := by decide +kernel
theorem dX7_findForms_177 : decode cX7_findForms 177 = .ok (.goto (-76), 3) := by decide +kernel
theorem dX7_findForms_180 : decode cX7_findForms 180 = .ok (.lload_n 3, 1) := by decide +kernel
theorem dX7_findForms_181 : decode cX7_findForms 181 = .ok (.lconst 1, 1) := by decide +kernel
theorem dX7_findForms_182 : decode cX7_findForms 182 = .ok (.ladd, 1) := by decide +kernel
theorem dX7_findForms_183 : decode cX7_findForms 183 = .ok (.lstore_n 3, 1) := by decide +kernel
theorem dX7_findForms_184 : decode cX7_findForms 184 = .ok (.goto (-106), 3) := by decide +kernel
theorem dX7_findForms_187 : decode cX7_findForms 187 = .ok (.iconst 0, 1) := by decide +kernel
theorem dX7_findForms_188 : decode cX7_findForms 188 = .ok (.istore_n 3, 1) := by decide +kernel
theorem dX7_findForms_189 : decode cX7_findForms 189 = .ok (.iload_n 3, 1) := by decide +kernel
theorem dX7_findForms_190 : decode cX7_findForms 190 = .ok (.aload_n 0, 1) := by decide +kernel
theorem dX7_findForms_191 : decode cX7_findForms 191 = .ok (.getfield 169, 3) := by decide +kernel
theorem dX7_findForms_194 : decode cX7_findForms 194 = .ok (.if_icmp .ge 29, 3) := by decide +kernel
theorem dX7_findForms_197 : decode cX7_findForms 197 = .ok (.aload_n 0, 1) := by decide +kernel
theorem dX7_findForms_198 : decode cX7_findForms 198 = .ok (.getfield 80, 3) := by decide +kernel
theorem dX7_findForms_201 : decode cX7_findForms 201 = .ok (.iload_n 3, 1) := by decide +kernel
theorem dX7_findForms_202 : decode cX7_findForms 202 = .ok (.aload_n 0, 1) := by decide +kernel
theorem dX7_findForms_203 : decode cX7_findForms 203 = .ok (.getfield 157, 3) := by decide +kernel
theorem dX7_findForms_206 : decode cX7_findForms 206 = .ok (.lconst 0, 1) := by decide +kernel
theorem dX7_findForms_207 : decode cX7_findForms 207 = .ok (.lcmp, 1) := by decide +kernel
theorem dX7_findForms_208 : decode cX7_findForms 208 = .ok (.ifCond .le 7, 3) := by decide +kernel
theorem dX7_findForms_211 : decode cX7_findForms 211 = .ok (.iconst (-1), 1) := by decide +kernel
theorem dX7_findForms_212 : decode cX7_findForms 212 = .ok (.goto 4, 3) := by decide +kernel
theorem dX7_findForms_215 : decode cX7_findForms 215 = .ok (.iload_n 3, 1) := by decide +kernel
theorem dX7_findForms_216 : decode cX7_findForms 216 = .ok (.iastore, 1) := by decide +kernel
theorem dX7_findForms_217 : decode cX7_findForms 217 = .ok (.iinc 3 1, 3) := by decide +kernel
theorem dX7_findForms_220 : decode cX7_findForms 220 = .ok (.goto (-31), 3) := by decide +kernel
theorem dX7_findForms_223 : decode cX7_findForms 223 = .ok (.iconst 0, 1) := by decide +kernel
theorem dX7_findForms_224 : decode cX7_findForms 224 = .ok (.istore_n 3, 1) := by decide +kernel
theorem dX7_findForms_225 : decode cX7_findForms 225 = .ok (.iload_n 3, 1) := by decide +kernel
theorem dX7_findForms_226 : decode cX7_findForms 226 = .ok (.aload_n 0, 1) := by decide +kernel
theorem dX7_findForms_227 : decode cX7_findForms 227 = .ok (.getfield 169, 3) := by decide +kernel
theorem dX7_findForms_230 : decode cX7_findForms 230 = .ok (.if_icmp .ge 75, 3) := by decide +kernel
theorem dX7_findForms_233 : decode cX7_findForms 233 = .ok (.iload_n 3, 1) := by decide +kernel
theorem dX7_findForms_234 : decode cX7_findForms 234 = .ok (.istore 4, 2) := by decide +kernel
theorem dX7_findForms_236 : decode cX7_findForms 236 = .ok (.aload_n 0, 1) := by decide +kernel
theorem dX7_findForms_237 : decode cX7_findForms 237 = .ok (.getfield 80, 3) := by decide +kernel
theorem dX7_findForms_240 : decode cX7_findForms 240 = .ok (.iload 4, 2) := by decide +kernel
theorem dX7_findForms_242 : decode cX7_findForms 242 = .ok (.iaload, 1) := by decide +kernel
theorem dX7_findForms_243 : decode cX7_findForms 243 = .ok (.ifCond .ge 56, 3) := by decide +kernel
theorem dX7_findForms_246 : decode cX7_findForms 246 = .ok (.aload_n 0, 1) := by decide +kernel
theorem dX7_findForms_247 : decode cX7_findForms 247 = .ok (.getfield 80, 3) := by decide +kernel
theorem dX7_findForms_250 : decode cX7_findForms 250 = .ok (.iload 4, 2) := by decide +kernel
theorem dX7_findForms_252 : decode cX7_findForms 252 = .ok (.iload_n 3, 1) := by decide +kernel
theorem dX7_findForms_253 : decode cX7_findForms 253 = .ok (.iastore, 1) := by decide +kernel
theorem dX7_findForms_254 : decode cX7_findForms 254 = .ok (.aload_n 0, 1) := by decide +kernel
theorem dX7_findForms_255 : decode cX7_findForms 255 = .ok (.aload_n 0, 1) := by decide +kernel
theorem dX7_findForms_256 : decode cX7_findForms 256 = .ok (.getfield 71, 3) := by decide +kernel
theorem dX7_findForms_259 : decode cX7_findForms 259 = .ok (.iload 4, 2) := by decide +kernel
theorem dX7_findForms_261 : decode cX7_findForms 261 = .ok (.iaload, 1) := by decide +kernel
theorem dX7_findForms_262 : decode cX7_findForms 262 = .ok (.i2l, 1) := by decide +kernel
theorem dX7_findForms_263 : decode cX7_findForms 263 = .ok (.aload_n 0, 1) := by decide +kernel
theorem dX7_findForms_264 : decode cX7_findForms 264 = .ok (.getfield 74, 3) := by decide +kernel
theorem dX7_findForms_267 : decode cX7_findForms 267 = .ok (.iload 4, 2) := by decide +kernel
theorem dX7_findForms_269 : decode cX7_findForms 269 = .ok (.iaload, 1) := by decide +kernel
theorem dX7_findForms_270 : decode cX7_findForms 270 = .ok (.i2l, 1) := by decide +kernel
theorem dX7_findForms_271 : decode cX7_findForms 271 = .ok (.aload_n 0, 1) := by decide +kernel
theorem dX7_findForms_272 : decode cX7_findForms 272 = .ok (.getfield 77, 3) := by decide +kernel
theorem dX7_findForms_275 : decode cX7_findForms 275 = .ok (.iload 4, 2) := by decide +kernel
theorem dX7_findForms_277 : decode cX7_findForms 277 = .ok (.iaload, 1) := by decide +kernel
theorem dX7_findForms_278 : decode cX7_findForms 278 = .ok (.i2l, 1) := by decide +kernel
theorem dX7_findForms_279 : decode cX7_findForms 279 = .ok (.invokevirtual 342, 3) := by decide +kernel
theorem dX7_findForms_282 : decode cX7_findForms 282 = .ok (.aload_n 0, 1) := by decide +kernel
theorem dX7_findForms_283 : decode cX7_findForms 283 = .ok (.aload_n 0, 1) := by decide +kernel
theorem dX7_findForms_284 : decode cX7_findForms 284 = .ok (.getfield 345, 3) := by decide +kernel
theorem dX7_findForms_287 : decode cX7_findForms 287 = .ok (.aload_n 0, 1) := by decide +kernel
theorem dX7_findForms_288 : decode cX7_findForms 288 = .ok (.getfield 348, 3) := by decide +kernel
theorem dX7_findForms_291 : decode cX7_findForms 291 = .ok (.invokevirtual 351, 3) := by decide +kernel
theorem dX7_findForms_294 : decode cX7_findForms 294 = .ok (.istore 4, 2) := by decide +kernel
theorem dX7_findForms_296 : decode cX7_findForms 296 = .ok (.goto (-60), 3) := by decide +kernel
theorem dX7_findForms_299 : decode cX7_findForms 299 = .ok (.iinc 3 1, 3) := by decide +kernel
theorem dX7_findForms_302 : decode cX7_findForms 302 = .ok (.goto (-77), 3) := by decide +kernel
theorem dX7_findForms_305 : decode cX7_findForms 305 = .ok (.return_, 1) := by decide +kernel
theorem bX7_findForms_0 {l : Launch} {D : va_G} {aI aL : ClassId} {ad : Nat → Nat} {P : sa_P} {I : sa_I} {J : sa_J}    (kt : I 0 36 < 0 → Sat (ER l D aI aL ad) M_X7_findForms P 8 [(0, .ref (ad 0))] [] I J) (kf : ¬ I 0 36 < 0 → Sat (ER l D aI aL ad) M_X7_findForms P 7 [] [] I J) : Sat (ER l D aI aL ad) M_X7_findForms P 0 [(0, .ref (ad 0))] [] I J := by
  refine s_aload_n 0 dX7_findForms_0 rfl ?_
  refine g_X7_169 dX7_findForms_1 rfl ?_
  refine s_if_lt (tgt := 8) dX7_findForms_4 (by decide) (fun c => ?_) (fun c => ?_)
  · exact kt c
  · refine s_pick [] [] rfl ?_; exact kf c
theorem bX7_findForms_7 {l : Launch} {D : va_G} {aI aL : ClassId} {ad : Nat → Nat} {P : sa_P} {I : sa_I} {J : sa_J}    (k : P (none) I J) : Sat (ER l D aI aL ad) M_X7_findForms P 7 [] [] I J := by
  exact s_vret rfl dX7_findForms_7 k
theorem bX7_findForms_8 {l : Launch} {D : va_G} {aI aL : ClassId} {ad : Nat → Nat} {P : sa_P} {I : sa_I} {J : sa_J} {v10 : Int32}  (f10 : (0 : Int32) = v10) (kt : J 0 10 ≤ (0 : Int64) → Sat (ER l D aI aL ad) M_X7_findForms P 33 [(0, .ref (ad 0))] [.ref (ad 0)] (sa_uI I 0 36 v10) J) (kf : ¬ J 0 10 ≤ (0 : Int64) → Sat (ER l D aI aL ad) M_X7_findForms P 23 [(0, .ref (ad 0))] [.ref (ad 0)] (sa_uI I 0 36 v10) J) : Sat (ER l D aI aL ad) M_X7_findForms P 8 [(0, .ref (ad 0))] [] I J := by
  refine s_aload_n 0 dX7_findForms_8 rfl ?_
  refine s_iconst (v := 0) dX7_findForms_9 rfl ?_
  refine s_eqi f10 ?_
  refine p_X7_169 dX7_findForms_10 rfl ?_
  refine s_aload_n 0 dX7_findForms_13 rfl ?_
  refine s_aload_n 0 dX7_findForms_14 rfl ?_
  refine g_X7_157 dX7_findForms_15 rfl ?_
  refine s_lconst (v := 0) dX7_findForms_18 rfl ?_
  refine s_lif_le (tgt := 33) dX7_findForms_19 dX7_findForms_20 (by decide) (fun c => ?_) (fun c => ?_)
  · exact kt c
  · exact kf c
theorem bX7_findForms_23 {l : Launch} {D : va_G} {aI aL : ClassId} {ad : Nat → Nat} {P : sa_P} {I : sa_I} {J : sa_J}    (k : Sat (ER l D aI aL ad) M_X7_findForms P 27 [(0, .ref (ad 0))] [.long (J 0 10), .ref (ad 0)] I J) : Sat (ER l D aI aL ad) M_X7_findForms P 23 [(0, .ref (ad 0))] [.ref (ad 0)] I J := by
  refine s_aload_n 0 dX7_findForms_23 rfl ?_
  refine g_X7_157 dX7_findForms_24 rfl ?_
  exact k
theorem bX7_findForms_30 {l : Launch} {D : va_G} {aI aL : ClassId} {ad : Nat → Nat} {P : sa_P} {I : sa_I} {J : sa_J} {s1 : Int64}   (k : Sat (ER l D aI aL ad) M_X7_findForms P 34 [(0, .ref (ad 0))] [.long s1, .ref (ad 0)] I J) : Sat (ER l D aI aL ad) M_X7_findForms P 30 [(0, .ref (ad 0))] [.long s1, .ref (ad 0)] I J := by
  refine s_goto (tgt := 34) dX7_findForms_30 (by decide) ?_
  exact k
theorem bX7_findForms_33 {l : Launch} {D : va_G} {aI aL : ClassId} {ad : Nat → Nat} {P : sa_P} {I : sa_I} {J : sa_J}    (k : Sat (ER l D aI aL ad) M_X7_findForms P 34 [(0, .ref (ad 0))] [.long (0 : Int64), .ref (ad 0)] I J) : Sat (ER l D aI aL ad) M_X7_findForms P 33 [(0, .ref (ad 0))] [.ref (ad 0)] I J := by
  refine s_lconst (v := 0) dX7_findForms_33 rfl ?_
  exact k
theorem bX7_findForms_34 {l : Launch} {D : va_G} {aI aL : ClassId} {ad : Nat → Nat} {P : sa_P} {I : sa_I} {J : sa_J} {s1 : Int64}   (kt : (sa_uJ J 0 41 s1) 0 10 ≤ (0 : Int64) → Sat (ER l D aI aL ad) M_X7_findForms P 53 [(0, .ref (ad 0))] [] I (sa_uJ J 0 41 s1)) (kf : ¬ (sa_uJ J 0 41 s1) 0 10 ≤ (0 : Int64) → Sat (ER l D aI aL ad) M_X7_findForms P 46 [(0, .ref (ad 0))] [] I (sa_uJ J 0 41 s1)) : Sat (ER l D aI aL ad) M_X7_findForms P 34 [(0, .ref (ad 0))] [.long s1, .ref (ad 0)] I J := by
  refine p_X7_331 dX7_findForms_34 rfl ?_
  refine s_aload_n 0 dX7_findForms_37 rfl ?_
  refine g_X7_157 dX7_findForms_38 rfl ?_
  refine s_lconst (v := 0) dX7_findForms_41 rfl ?_
  refine s_lif_le (tgt := 53) dX7_findForms_42 dX7_findForms_43 (by decide) (fun c => ?_) (fun c => ?_)
  · exact kt c
  · exact kf c
theorem bX7_findForms_46 {l : Launch} {D : va_G} {aI aL : ClassId} {ad : Nat → Nat} {P : sa_P} {I : sa_I} {J : sa_J}    (k : Sat (ER l D aI aL ad) M_X7_findForms P 61 [(0, .ref (ad 0))] [.long (J 0 41)] I J) : Sat (ER l D aI aL ad) M_X7_findForms P 46 [(0, .ref (ad 0))] [] I J := by
  refine s_aload_n 0 dX7_findForms_46 rfl ?_
  refine g_X7_331 dX7_findForms_47 rfl ?_
  refine s_goto (tgt := 61) dX7_findForms_50 (by decide) ?_
  exact k
theorem bX7_findForms_53 {l : Launch} {D : va_G} {aI aL : ClassId} {ad : Nat → Nat} {P : sa_P} {I : sa_I} {J : sa_J}    (k : Sat (ER l D aI aL ad) M_X7_findForms P 58 [(0, .ref (ad 0))] [.long (-(J 0 10))] I J) : Sat (ER l D aI aL ad) M_X7_findForms P 53 [(0, .ref (ad 0))] [] I J := by
  refine s_aload_n 0 dX7_findForms_53 rfl ?_
  refine g_X7_157 dX7_findForms_54 rfl ?_
  refine s_lneg dX7_findForms_57 ?_
  exact k
theorem bX7_findForms_61 {l : Launch} {D : va_G} {aI aL : ClassId} {ad : Nat → Nat} {P : sa_P} {I : sa_I} {J : sa_J} {s0 : Int64}   (kt : J 0 10 ≤ (0 : Int64) → Sat (ER l D aI aL ad) M_X7_findForms P 76 [(0, .ref (ad 0)), (1, .long s0)] [] I J) (kf : ¬ J 0 10 ≤ (0 : Int64) → Sat (ER l D aI aL ad) M_X7_findForms P 71 [(0, .ref (ad 0)), (1, .long s0)] [] I J) : Sat (ER l D aI aL ad) M_X7_findForms P 61 [(0, .ref (ad 0))] [.long s0] I J := by
  refine s_lstore_n [(1, .long s0), (0, .ref (ad 0))] dX7_findForms_61 (Nat.lt_of_lt_of_le (Nat.lt_succ_self _) (Nat.le_of_ble_eq_true rfl)) rfl ?_
  refine s_aload_n 1 dX7_findForms_62 rfl ?_
  refine g_X7_157 dX7_findForms_63 rfl ?_
  refine s_lconst (v := 0) dX7_findForms_66 rfl ?_
  refine s_lif_le (tgt := 76) dX7_findForms_67 dX7_findForms_68 (by decide) (fun c => ?_) (fun c => ?_)
  · refine s_pick [1, 0] [(0, .ref (ad 0)), (1, .long s0)] rfl ?_; exact kt c
  · refine s_pick [1, 0] [(0, .ref (ad 0)), (1, .long s0)] rfl ?_; exact kf c
theorem bX7_findForms_71 {l : Launch} {D : va_G} {aI aL : ClassId} {ad : Nat → Nat} {P : sa_P} {I : sa_I} {J : sa_J} {x1 : Int64}   (k : Sat (ER l D aI aL ad) M_X7_findForms P 77 [(0, .ref (ad 0)), (1, .long x1)] [.long (-x1)] I J) : Sat (ER l D aI aL ad) M_X7_findForms P 71 [(0, .ref (ad 0)), (1, .long x1)] [] I J := by
  refine s_lload_n 1 dX7_findForms_71 rfl ?_
  refine s_lneg dX7_findForms_72 ?_
  refine s_goto (tgt := 77) dX7_findForms_73 (by decide) ?_
  exact k
theorem bX7_findForms_76 {l : Launch} {D : va_G} {aI aL : ClassId} {ad : Nat → Nat} {P : sa_P} {I : sa_I} {J : sa_J} {x1 : Int64}   (k : Sat (ER l D aI aL ad) M_X7_findForms P 77 [(0, .ref (ad 0)), (1, .long x1)] [.long (1 : Int64)] I J) : Sat (ER l D aI aL ad) M_X7_findForms P 76 [(0, .ref (ad 0)), (1, .long x1)] [] I J := by
  refine s_lconst (v := 1) dX7_findForms_76 rfl ?_
  exact k
theorem bX7_findForms_77 {l : Launch} {D : va_G} {aI aL : ClassId} {ad : Nat → Nat} {P : sa_P} {I : sa_I} {J : sa_J} {x1 : Int64} {s0 : Int64}   (k : Sat (ER l D aI aL ad) M_X7_findForms P 78 [(0, .ref (ad 0)), (1, .long x1), (3, .long s0)] [] I J) : Sat (ER l D aI aL ad) M_X7_findForms P 77 [(0, .ref (ad 0)), (1, .long x1)] [.long s0] I J := by
  refine s_lstore_n [(3, .long s0), (0, .ref (ad 0)), (1, .long x1)] dX7_findForms_77 (Nat.lt_of_lt_of_le (Nat.lt_succ_self _) (Nat.le_of_ble_eq_true rfl)) rfl ?_
  refine s_pick [1, 2, 0] [(0, .ref (ad 0)), (1, .long x1), (3, .long s0)] rfl ?_; exact k
theorem bX7_findForms_78 {l : Launch} {D : va_G} {aI aL : ClassId} {ad : Nat → Nat} {P : sa_P} {I : sa_I} {J : sa_J} {x1 : Int64} {x3 : Int64}   (kt : x1 < x3 → Sat (ER l D aI aL ad) M_X7_findForms P 187 [(0, .ref (ad 0))] [] I J) (kf : ¬ x1 < x3 → Sat (ER l D aI aL ad) M_X7_findForms P 84 [(0, .ref (ad 0)), (1, .long x1), (3, .long x3)] [] I J) : Sat (ER l D aI aL ad) M_X7_findForms P 78 [(0, .ref (ad 0)), (1, .long x1), (3, .long x3)] [] I J := by
  refine s_lload_n 2 dX7_findForms_78 rfl ?_
  refine s_lload_n 1 dX7_findForms_79 rfl ?_
  refine s_lif_gt (tgt := 187) dX7_findForms_80 dX7_findForms_81 (by decide) (fun c => ?_) (fun c => ?_)
  · refine s_pick [0] [(0, .ref (ad 0))] rfl ?_; exact kt c
  · exact kf c
theorem bX7_findForms_84 {l : Launch} {D : va_G} {aI aL : ClassId} {ad : Nat → Nat} {P : sa_P} {I : sa_I} {J : sa_J} {x1 : Int64} {x3 : Int64}   (kt : J 0 10 ≤ (0 : Int64) → Sat (ER l D aI aL ad) M_X7_findForms P 97 [(0, .ref (ad 0)), (1, .long x1), (3, .long x3)] [] I J) (kf : ¬ J 0 10 ≤ (0 : Int64) → Sat (ER l D aI aL ad) M_X7_findForms P 93 [(0, .ref (ad 0)), (1, .long x1), (3, .long x3)] [] I J) : Sat (ER l D aI aL ad) M_X7_findForms P 84 [(0, .ref (ad 0)), (1, .long x1), (3, .long x3)] [] I J := by
  refine s_aload_n 0 dX7_findForms_84 rfl ?_
  refine g_X7_157 dX7_findForms_85 rfl ?_
  refine s_lconst (v := 0) dX7_findForms_88 rfl ?_
  refine s_lif_le (tgt := 97) dX7_findForms_89 dX7_findForms_90 (by decide) (fun c => ?_) (fun c => ?_)
  · exact kt c
  · exact kf c
theorem bX7_findForms_93 {l : Launch} {D : va_G} {aI aL : ClassId} {ad : Nat → Nat} {P : sa_P} {I : sa_I} {J : sa_J} {x1 : Int64} {x3 : Int64}   (k : Sat (ER l D aI aL ad) M_X7_findForms P 99 [(0, .ref (ad 0)), (1, .long x1), (3, .long x3)] [.long (1 : Int64)] I J) : Sat (ER l D aI aL ad) M_X7_findForms P 93 [(0, .ref (ad 0)), (1, .long x1), (3, .long x3)] [] I J := by
  refine s_lconst (v := 1) dX7_findForms_93 rfl ?_
  refine s_goto (tgt := 99) dX7_findForms_94 (by decide) ?_
  exact k
theorem bX7_findForms_97 {l : Launch} {D : va_G} {aI aL : ClassId} {ad : Nat → Nat} {P : sa_P} {I : sa_I} {J : sa_J} {x1 : Int64} {x3 : Int64}   (k : Sat (ER l D aI aL ad) M_X7_findForms P 99 [(0, .ref (ad 0)), (1, .long x1), (3, .long x3)] [.long (-x3)] I J) : Sat (ER l D aI aL ad) M_X7_findForms P 97 [(0, .ref (ad 0)), (1, .long x1), (3, .long x3)] [] I J := by
  refine s_lload_n 2 dX7_findForms_97 rfl ?_
  refine s_lneg dX7_findForms_98 ?_
  exact k
theorem bX7_findForms_99 {l : Launch} {D : va_G} {aI aL : ClassId} {ad : Nat → Nat} {P : sa_P} {I : sa_I} {J : sa_J} {x1 : Int64} {x3 : Int64} {s0 : Int64}   (k : Sat (ER l D aI aL ad) M_X7_findForms P 101 [(0, .ref (ad 0)), (1, .long x1), (3, .long x3), (5, .long s0)] [] I J) : Sat (ER l D aI aL ad) M_X7_findForms P 99 [(0, .ref (ad 0)), (1, .long x1), (3, .long x3)] [.long s0] I J := by
  refine s_lstore [(5, .long s0), (0, .ref (ad 0)), (1, .long x1), (3, .long x3)] dX7_findForms_99 (Nat.lt_of_lt_of_le (Nat.lt_succ_self _) (Nat.le_of_ble_eq_true rfl)) rfl ?_
  refine s_pick [1, 2, 3, 0] [(0, .ref (ad 0)), (1, .long x1), (3, .long x3), (5, .long s0)] rfl ?_; exact k
theorem bX7_findForms_101 {l : Launch} {D : va_G} {aI aL : ClassId} {ad : Nat → Nat} {P : sa_P} {I : sa_I} {J : sa_J} {x1 : Int64} {x3 : Int64} {x5 : Int64}   (kt : J 0 10 ≤ (0 : Int64) → Sat (ER l D aI aL ad) M_X7_findForms P 119 [(0, .ref (ad 0)), (1, .long x1), (3, .long x3), (5, .long x5)] [.long x5] I J) (kf : ¬ J 0 10 ≤ (0 : Int64) → Sat (ER l D aI aL ad) M_X7_findForms P 112 [(0, .ref (ad 0)), (1, .long x1), (3, .long x3), (5, .long x5)] [.long x5] I J) : Sat (ER l D aI aL ad) M_X7_findForms P 101 [(0, .ref (ad 0)), (1, .long x1), (3, .long x3), (5, .long x5)] [] I J := by
  refine s_lload 3 dX7_findForms_101 rfl ?_
  refine s_aload_n 0 dX7_findForms_103 rfl ?_
  refine g_X7_157 dX7_findForms_104 rfl ?_
  refine s_lconst (v := 0) dX7_findForms_107 rfl ?_
  refine s_lif_le (tgt := 119) dX7_findForms_108 dX7_findForms_109 (by decide) (fun c => ?_) (fun c => ?_)
  · exact kt c
  · exact kf c
theorem bX7_findForms_112 {l : Launch} {D : va_G} {aI aL : ClassId} {ad : Nat → Nat} {P : sa_P} {I : sa_I} {J : sa_J} {x1 : Int64} {x3 : Int64} {x5 : Int64} {s0 : Int64}   (k : Sat (ER l D aI aL ad) M_X7_findForms P 120 [(0, .ref (ad 0)), (1, .long x1), (3, .long x3), (5, .long x5)] [.long (J 0 41), .long s0] I J) : Sat (ER l D aI aL ad) M_X7_findForms P 112 [(0, .ref (ad 0)), (1, .long x1), (3, .long x3), (5, .long x5)] [.long s0] I J := by
  refine s_aload_n 0 dX7_findForms_112 rfl ?_
  refine g_X7_331 dX7_findForms_113 rfl ?_
  refine s_goto (tgt := 120) dX7_findForms_116 (by decide) ?_
  exact k
theorem bX7_findForms_119 {l : Launch} {D : va_G} {aI aL : ClassId} {ad : Nat → Nat} {P : sa_P} {I : sa_I} {J : sa_J} {x1 : Int64} {x3 : Int64} {x5 : Int64} {s0 : Int64}   (k : Sat (ER l D aI aL ad) M_X7_findForms P 120 [(0, .ref (ad 0)), (1, .long x1), (3, .long x3), (5, .long x5)] [.long x3, .long s0] I J) : Sat (ER l D aI aL ad) M_X7_findForms P 119 [(0, .ref (ad 0)), (1, .long x1), (3, .long x3), (5, .long x5)] [.long s0] I J := by
  refine s_lload_n 2 dX7_findForms_119 rfl ?_
  exact k
theorem bX7_findForms_120 {l : Launch} {D : va_G} {aI aL : ClassId} {ad : Nat → Nat} {P : sa_P} {I : sa_I} {J : sa_J} {x1 : Int64} {x3 : Int64} {x5 : Int64} {s0 : Int64} {s1 : Int64}   (kt : s1 < s0 → Sat (ER l D aI aL ad) M_X7_findForms P 180 [(0, .ref (ad 0)), (1, .long x1), (3, .long x3)] [] I J) (kf : ¬ s1 < s0 → Sat (ER l D aI aL ad) M_X7_findForms P 124 [(0, .ref (ad 0)), (1, .long x1), (3, .long x3), (5, .long x5)] [] I J) : Sat (ER l D aI aL ad) M_X7_findForms P 120 [(0, .ref (ad 0)), (1, .long x1), (3, .long x3), (5, .long x5)] [.long s1, .long s0] I J := by
  refine s_lif_gt (tgt := 180) dX7_findForms_120 dX7_findForms_121 (by decide) (fun c => ?_) (fun c => ?_)
  · refine s_pick [0, 1, 2] [(0, .ref (ad 0)), (1, .long x1), (3, .long x3)] rfl ?_; exact kt c
  · exact kf c
theorem bX7_findForms_124 {l : Launch} {D : va_G} {aI aL : ClassId} {ad : Nat → Nat} {P : sa_P} {I : sa_I} {J : sa_J} {x1 : Int64} {x3 : Int64} {x5 : Int64}   (kt : x3 = (0 : Int64) → Sat (ER l D aI aL ad) M_X7_findForms P 171 [(0, .ref (ad 0)), (1, .long x1), (3, .long x3), (5, .long x5)] [] I J) (kf : ¬ x3 = (0 : Int64) → Sat (ER l D aI aL ad) M_X7_findForms P 130 [(0, .ref (ad 0)), (1, .long x1), (3, .long x3), (5, .long x5)] [] I J) : Sat (ER l D aI aL ad) M_X7_findForms P 124 [(0, .ref (ad 0)), (1, .long x1), (3, .long x3), (5, .long x5)] [] I J := by
  refine s_lload_n 2 dX7_findForms_124 rfl ?_
  refine s_lconst (v := 0) dX7_findForms_125 rfl ?_
  refine s_lif_eq (tgt := 171) dX7_findForms_126 dX7_findForms_127 (by decide) (fun c => ?_) (fun c => ?_)
  · exact kt c
  · exact kf c
theorem bX7_findForms_130 {l : Launch} {D : va_G} {aI aL : ClassId} {ad : Nat → Nat} {P : sa_P} {I : sa_I} {J : sa_J} {x1 : Int64} {x3 : Int64} {x5 : Int64} (z145 : ¬ (4 : Int64) * x3 = 0)  (kt : ¬ ((x5 * x5) - (J 0 10)) - ((x5 * x5) - (J 0 10)) / ((4 : Int64) * x3) * ((4 : Int64) * x3) = (0 : Int64) → Sat (ER l D aI aL ad) M_X7_findForms P 171 [(0, .ref (ad 0)), (1, .long x1), (3, .long x3), (5, .long x5)] [] I J) (kf : ((x5 * x5) - (J 0 10)) - ((x5 * x5) - (J 0 10)) / ((4 : Int64) * x3) * ((4 : Int64) * x3) = (0 : Int64) → Sat (ER l D aI aL ad) M_X7_findForms P 151 [(0, .ref (ad 0)), (1, .long x1), (3, .long x3), (5, .long x5)] [] I J) : Sat (ER l D aI aL ad) M_X7_findForms P 130 [(0, .ref (ad 0)), (1, .long x1), (3, .long x3), (5, .long x5)] [] I J := by
  refine s_lload 3 dX7_findForms_130 rfl ?_
  refine s_lload 3 dX7_findForms_132 rfl ?_
  refine s_lmul dX7_findForms_134 ?_
  refine s_aload_n 0 dX7_findForms_135 rfl ?_
  refine g_X7_157 dX7_findForms_136 rfl ?_
  refine s_lsub dX7_findForms_139 ?_
  refine s_ldc2 wk_X7_96 dX7_findForms_140 ?_
  refine s_lload_n 2 dX7_findForms_143 rfl ?_
  refine s_lmul dX7_findForms_144 ?_
  refine s_lrem dX7_findForms_145 z145 ?_
  refine s_lconst (v := 0) dX7_findForms_146 rfl ?_
  refine s_lif_ne (tgt := 171) dX7_findForms_147 dX7_findForms_148 (by decide) (fun c => ?_) (fun c => ?_)
  · exact kt c
  · exact kf (by first | exact c | exact Classical.not_not.mp c)
theorem bX7_findForms_151 {l : Launch} {D : va_G} {aI aL : ClassId} {ad : Nat → Nat} {P : sa_P} {I : sa_I} {J : sa_J} {x1 : Int64} {x3 : Int64} {x5 : Int64}   (k : Sat (ER l D aI aL ad) M_X7_findForms P 155 [(0, .ref (ad 0)), (1, .long x1), (3, .long x3), (5, .long x5)] [.long x5, .long x3, .ref (ad 0)] I J) : Sat (ER l D aI aL ad) M_X7_findForms P 151 [(0, .ref (ad 0)), (1, .long x1), (3, .long x3), (5, .long x5)] [] I J := by
  refine s_aload_n 0 dX7_findForms_151 rfl ?_
  refine s_lload_n 2 dX7_findForms_152 rfl ?_
  refine s_lload 3 dX7_findForms_153 rfl ?_
  exact k
theorem bX7_findForms_158 {l : Launch} {D : va_G} {aI aL : ClassId} {ad : Nat → Nat} {P : sa_P} {I : sa_I} {J : sa_J} {x1 : Int64} {x3 : Int64} {x5 : Int64} {s0 : Int32}   (kt : ¬ s0 = 0 → Sat (ER l D aI aL ad) M_X7_findForms P 164 [(0, .ref (ad 0)), (1, .long x1), (3, .long x3), (5, .long x5)] [] I J) (kf : s0 = 0 → Sat (ER l D aI aL ad) M_X7_findForms P 161 [(0, .ref (ad 0)), (1, .long x1), (3, .long x3), (5, .long x5)] [] I J) : Sat (ER l D aI aL ad) M_X7_findForms P 158 [(0, .ref (ad 0)), (1, .long x1), (3, .long x3), (5, .long x5)] [.int s0] I J := by
  refine s_if_ne (tgt := 164) dX7_findForms_158 (by decide) (fun c => ?_) (fun c => ?_)
  · exact kt c
  · exact kf (by first | exact c | exact Classical.not_not.mp c)
theorem bX7_findForms_161 {l : Launch} {D : va_G} {aI aL : ClassId} {ad : Nat → Nat} {P : sa_P} {I : sa_I} {J : sa_J} {x1 : Int64} {x3 : Int64} {x5 : Int64}   (k : Sat (ER l D aI aL ad) M_X7_findForms P 171 [(0, .ref (ad 0)), (1, .long x1), (3, .long x3), (5, .long x5)] [] I J) : Sat (ER l D aI aL ad) M_X7_findForms P 161 [(0, .ref (ad 0)), (1, .long x1), (3, .long x3), (5, .long x5)] [] I J := by
  refine s_goto (tgt := 171) dX7_findForms_161 (by decide) ?_
  exact k
theorem bX7_findForms_164 {l : Launch} {D : va_G} {aI aL : ClassId} {ad : Nat → Nat} {P : sa_P} {I : sa_I} {J : sa_J} {x1 : Int64} {x3 : Int64} {x5 : Int64}   (k : Sat (ER l D aI aL ad) M_X7_findForms P 168 [(0, .ref (ad 0)), (1, .long x1), (3, .long x3), (5, .long x5)] [.long x5, .long x3, .ref (ad 0)] I J) : Sat (ER l D aI aL ad) M_X7_findForms P 164 [(0, .ref (ad 0)), (1, .long x1), (3, .long x3), (5, .long x5)] [] I J := by
  refine s_aload_n 0 dX7_findForms_164 rfl ?_
  refine s_lload_n 2 dX7_findForms_165 rfl ?_
  refine s_lload 3 dX7_findForms_166 rfl ?_
  exact k
theorem bX7_findForms_171 {l : Launch} {D : va_G} {aI aL : ClassId} {ad : Nat → Nat} {P : sa_P} {I : sa_I} {J : sa_J} {x1 : Int64} {x3 : Int64} {x5 : Int64} {v175 : Int64}  (f175 : x5 + (1 : Int64) = v175) (k : Sat (ER l D aI aL ad) M_X7_findForms P 101 [(0, .ref (ad 0)), (1, .long x1), (3, .long x3), (5, .long v175)] [] I J) : Sat (ER l D aI aL ad) M_X7_findForms P 171 [(0, .ref (ad 0)), (1, .long x1), (3, .long x3), (5, .long x5)] [] I J := by
  refine s_lload 3 dX7_findForms_171 rfl ?_
  refine s_lconst (v := 1) dX7_findForms_173 rfl ?_
  refine s_ladd dX7_findForms_174 ?_
  refine s_eql f175 ?_
  refine s_lstore [(5, .long v175), (0, .ref (ad 0)), (1, .long x1), (3, .long x3)] dX7_findForms_175 (Nat.lt_of_lt_of_le (Nat.lt_succ_self _) (Nat.le_of_ble_eq_true rfl)) rfl ?_
  refine s_goto (tgt := 101) dX7_findForms_177 (by decide) ?_
  refine s_pick [1, 2, 3, 0] [(0, .ref (ad 0)), (1, .long x1), (3, .long x3), (5, .long v175)] rfl ?_; exact k
theorem bX7_findForms_180 {l : Launch} {D : va_G} {aI aL : ClassId} {ad : Nat → Nat} {P : sa_P} {I : sa_I} {J : sa_J} {x1 : Int64} {x3 : Int64} {v183 : Int64}  (f183 : x3 + (1 : Int64) = v183) (k : Sat (ER l D aI aL ad) M_X7_findForms P 78 [(0, .ref (ad 0)), (1, .long x1), (3, .long v183)] [] I J) : Sat (ER l D aI aL ad) M_X7_findForms P 180 [(0, .ref (ad 0)), (1, .long x1), (3, .long x3)] [] I J := by
  refine s_lload_n 2 dX7_findForms_180 rfl ?_
  refine s_lconst (v := 1) dX7_findForms_181 rfl ?_
  refine s_ladd dX7_findForms_182 ?_
  refine s_eql f183 ?_
  refine s_lstore_n [(3, .long v183), (0, .ref (ad 0)), (1, .long x1)] dX7_findForms_183 (Nat.lt_of_lt_of_le (Nat.lt_succ_self _) (Nat.le_of_ble_eq_true rfl)) rfl ?_
  refine s_goto (tgt := 78) dX7_findForms_184 (by decide) ?_
  refine s_pick [1, 2, 0] [(0, .ref (ad 0)), (1, .long x1), (3, .long v183)] rfl ?_; exact k
theorem bX7_findForms_187 {l : Launch} {D : va_G} {aI aL : ClassId} {ad : Nat → Nat} {P : sa_P} {I : sa_I} {J : sa_J} {v188 : Int32}  (f188 : (0 : Int32) = v188) (k : Sat (ER l D aI aL ad) M_X7_findForms P 189 [(0, .ref (ad 0)), (3, .int v188)] [] I J) : Sat (ER l D aI aL ad) M_X7_findForms P 187 [(0, .ref (ad 0))] [] I J := by
  refine s_iconst (v := 0) dX7_findForms_187 rfl ?_
  refine s_eqi f188 ?_
  refine s_istore_n [(3, .int v188), (0, .ref (ad 0))] dX7_findForms_188 (Nat.lt_of_lt_of_le (Nat.lt_succ_self _) (Nat.le_of_ble_eq_true rfl)) rfl ?_
  refine s_pick [1, 0] [(0, .ref (ad 0)), (3, .int v188)] rfl ?_; exact k
theorem bX7_findForms_189 {l : Launch} {D : va_G} {aI aL : ClassId} {ad : Nat → Nat} {P : sa_P} {I : sa_I} {J : sa_J} {x3 : Int32}   (kt : I 0 36 ≤ x3 → Sat (ER l D aI aL ad) M_X7_findForms P 223 [(0, .ref (ad 0))] [] I J) (kf : ¬ I 0 36 ≤ x3 → Sat (ER l D aI aL ad) M_X7_findForms P 197 [(0, .ref (ad 0)), (3, .int x3)] [] I J) : Sat (ER l D aI aL ad) M_X7_findForms P 189 [(0, .ref (ad 0)), (3, .int x3)] [] I J := by
  refine s_iload_n 1 dX7_findForms_189 rfl ?_
  refine s_aload_n 0 dX7_findForms_190 rfl ?_
  refine g_X7_169 dX7_findForms_191 rfl ?_
  refine s_icmp_ge (tgt := 223) dX7_findForms_194 (by decide) (fun c => ?_) (fun c => ?_)
  · refine s_pick [0] [(0, .ref (ad 0))] rfl ?_; exact kt c
  · exact kf c
theorem bX7_findForms_197 {l : Launch} {D : va_G} {aI aL : ClassId} {ad : Nat → Nat} {P : sa_P} {I : sa_I} {J : sa_J} {x3 : Int32}   (kt : J 0 10 ≤ (0 : Int64) → Sat (ER l D aI aL ad) M_X7_findForms P 215 [(0, .ref (ad 0)), (3, .int x3)] [.int x3, .ref (ad 24)] I J) (kf : ¬ J 0 10 ≤ (0 : Int64) → Sat (ER l D aI aL ad) M_X7_findForms P 211 [(0, .ref (ad 0)), (3, .int x3)] [.int x3, .ref (ad 24)] I J) : Sat (ER l D aI aL ad) M_X7_findForms P 197 [(0, .ref (ad 0)), (3, .int x3)] [] I J := by
  refine s_aload_n 0 dX7_findForms_197 rfl ?_
  refine g_X7_80 dX7_findForms_198 rfl ?_
  refine s_iload_n 1 dX7_findForms_201 rfl ?_
  refine s_aload_n 0 dX7_findForms_202 rfl ?_
  refine g_X7_157 dX7_findForms_203 rfl ?_
  refine s_lconst (v := 0) dX7_findForms_206 rfl ?_
  refine s_lif_le (tgt := 215) dX7_findForms_207 dX7_findForms_208 (by decide) (fun c => ?_) (fun c => ?_)
  · exact kt c
  · exact kf c
theorem bX7_findForms_211 {l : Launch} {D : va_G} {aI aL : ClassId} {ad : Nat → Nat} {P : sa_P} {I : sa_I} {J : sa_J} {x3 : Int32} {s1 : Int32}   (k : Sat (ER l D aI aL ad) M_X7_findForms P 216 [(0, .ref (ad 0)), (3, .int x3)] [.int (-1 : Int32), .int s1, .ref (ad 24)] I J) : Sat (ER l D aI aL ad) M_X7_findForms P 211 [(0, .ref (ad 0)), (3, .int x3)] [.int s1, .ref (ad 24)] I J := by
  refine s_iconst (v := -1) dX7_findForms_211 rfl ?_
  refine s_goto (tgt := 216) dX7_findForms_212 (by decide) ?_
  exact k
theorem bX7_findForms_215 {l : Launch} {D : va_G} {aI aL : ClassId} {ad : Nat → Nat} {P : sa_P} {I : sa_I} {J : sa_J} {x3 : Int32} {s1 : Int32}   (k : Sat (ER l D aI aL ad) M_X7_findForms P 216 [(0, .ref (ad 0)), (3, .int x3)] [.int x3, .int s1, .ref (ad 24)] I J) : Sat (ER l D aI aL ad) M_X7_findForms P 215 [(0, .ref (ad 0)), (3, .int x3)] [.int s1, .ref (ad 24)] I J := by
  refine s_iload_n 1 dX7_findForms_215 rfl ?_
  exact k
theorem bX7_findForms_216 {l : Launch} {D : va_G} {aI aL : ClassId} {ad : Nat → Nat} {P : sa_P} {I : sa_I} {J : sa_J} {x3 : Int32} {s1 : Nat} {s2 : Int32} {v217 : Int32} (h216 : s1 < 3000) (f217 : x3 + 1 = v217) (k : Sat (ER l D aI aL ad) M_X7_findForms P 189 [(0, .ref (ad 0)), (3, .int v217)] [] (sa_uI I 24 s1 s2) J) : Sat (ER l D aI aL ad) M_X7_findForms P 216 [(0, .ref (ad 0)), (3, .int x3)] [.int s2, .int (nI s1), .ref (ad 24)] I J := by
  refine s_iastoreN aI_R24 h216 (by decide) dX7_findForms_216 ?_
  refine s_iinc 1 v217 [(3, .int v217), (0, .ref (ad 0))] dX7_findForms_217 rfl f217 (Nat.lt_of_lt_of_le (Nat.lt_succ_self _) (Nat.le_of_ble_eq_true rfl)) rfl ?_
  refine s_goto (tgt := 189) dX7_findForms_220 (by decide) ?_
  refine s_pick [1, 0] [(0, .ref (ad 0)), (3, .int v217)] rfl ?_; exact k
theorem bX7_findForms_223 {l : Launch} {D : va_G} {aI aL : ClassId} {ad : Nat → Nat} {P : sa_P} {I : sa_I} {J : sa_J} {v224 : Int32}  (f224 : (0 : Int32) = v224) (k : Sat (ER l D aI aL ad) M_X7_findForms P 225 [(0, .ref (ad 0)), (3, .int v224)] [] I J) : Sat (ER l D aI aL ad) M_X7_findForms P 223 [(0, .ref (ad 0))] [] I J := by
  refine s_iconst (v := 0) dX7_findForms_223 rfl ?_
  refine s_eqi f224 ?_
  refine s_istore_n [(3, .int v224), (0, .ref (ad 0))] dX7_findForms_224 (Nat.lt_of_lt_of_le (Nat.lt_succ_self _) (Nat.le_of_ble_eq_true rfl)) rfl ?_
  refine s_pick [1, 0] [(0, .ref (ad 0)), (3, .int v224)] rfl ?_; exact k
theorem bX7_findForms_225 {l : Launch} {D : va_G} {aI aL : ClassId} {ad : Nat → Nat} {P : sa_P} {I : sa_I} {J : sa_J} {x3 : Int32}   (kt : I 0 36 ≤ x3 → Sat (ER l D aI aL ad) M_X7_findForms P 305 [] [] I J) (kf : ¬ I 0 36 ≤ x3 → Sat (ER l D aI aL ad) M_X7_findForms P 233 [(0, .ref (ad 0)), (3, .int x3)] [] I J) : Sat (ER l D aI aL ad) M_X7_findForms P 225 [(0, .ref (ad 0)), (3, .int x3)] [] I J := by
  refine s_iload_n 1 dX7_findForms_225 rfl ?_
  refine s_aload_n 0 dX7_findForms_226 rfl ?_
  refine g_X7_169 dX7_findForms_227 rfl ?_
  refine s_icmp_ge (tgt := 305) dX7_findForms_230 (by decide) (fun c => ?_) (fun c => ?_)
  · refine s_pick [] [] rfl ?_; exact kt c
  · exact kf c
theorem bX7_findForms_233 {l : Launch} {D : va_G} {aI aL : ClassId} {ad : Nat → Nat} {P : sa_P} {I : sa_I} {J : sa_J} {x3 : Int32}   (k : Sat (ER l D aI aL ad) M_X7_findForms P 236 [(0, .ref (ad 0)), (3, .int x3), (4, .int x3)] [] I J) : Sat (ER l D aI aL ad) M_X7_findForms P 233 [(0, .ref (ad 0)), (3, .int x3)] [] I J := by
  refine s_iload_n 1 dX7_findForms_233 rfl ?_
  refine s_istore [(4, .int x3), (0, .ref (ad 0)), (3, .int x3)] dX7_findForms_234 (Nat.lt_of_lt_of_le (Nat.lt_succ_self _) (Nat.le_of_ble_eq_true rfl)) rfl ?_
  refine s_pick [1, 2, 0] [(0, .ref (ad 0)), (3, .int x3), (4, .int x3)] rfl ?_; exact k
theorem bX7_findForms_236 {l : Launch} {D : va_G} {aI aL : ClassId} {ad : Nat → Nat} {P : sa_P} {I : sa_I} {J : sa_J} {x3 : Int32} {x4 : Int32} {j240 : Nat} (e240 : x4 = nI j240) (h242 : j240 < 3000)  (kt : 0 ≤ I 24 j240 → Sat (ER l D aI aL ad) M_X7_findForms P 299 [(0, .ref (ad 0)), (3, .int x3)] [] I J) (kf : ¬ 0 ≤ I 24 j240 → Sat (ER l D aI aL ad) M_X7_findForms P 246 [(0, .ref (ad 0)), (3, .int x3), (4, .int x4)] [] I J) : Sat (ER l D aI aL ad) M_X7_findForms P 236 [(0, .ref (ad 0)), (3, .int x3), (4, .int x4)] [] I J := by
  refine s_aload_n 0 dX7_findForms_236 rfl ?_
  refine g_X7_80 dX7_findForms_237 rfl ?_
  refine s_iload 2 dX7_findForms_240 rfl ?_
  refine s_eqi e240 ?_
  refine s_ialoadN aI_R24 h242 (by decide) dX7_findForms_242 ?_
  refine s_if_ge (tgt := 299) dX7_findForms_243 (by decide) (fun c => ?_) (fun c => ?_)
  · refine s_pick [0, 1] [(0, .ref (ad 0)), (3, .int x3)] rfl ?_; exact kt c
  · exact kf c
theorem bX7_findForms_246 {l : Launch} {D : va_G} {aI aL : ClassId} {ad : Nat → Nat} {P : sa_P} {I : sa_I} {J : sa_J} {x3 : Int32} {x4 : Int32} {j250 : Nat} {j259 : Nat} {j267 : Nat} {j275 : Nat} (e250 : x4 = nI j250) (h253 : j250 < 3000) (e259 : x4 = nI j259) (h261 : j259 < 3000) (e267 : x4 = nI j267) (h269 : j267 < 3000) (e275 : x4 = nI j275) (h277 : j275 < 3000)  (k : Sat (ER l D aI aL ad) M_X7_findForms P 279 [(0, .ref (ad 0)), (3, .int x3)] [.long (((sa_uI I 24 j250 x3) 23 j275).toInt64), .long (((sa_uI I 24 j250 x3) 22 j267).toInt64), .long (((sa_uI I 24 j250 x3) 21 j259).toInt64), .ref (ad 0)] (sa_uI I 24 j250 x3) J) : Sat (ER l D aI aL ad) M_X7_findForms P 246 [(0, .ref (ad 0)), (3, .int x3), (4, .int x4)] [] I J := by
  refine s_aload_n 0 dX7_findForms_246 rfl ?_
  refine g_X7_80 dX7_findForms_247 rfl ?_
  refine s_iload 2 dX7_findForms_250 rfl ?_
  refine s_eqi e250 ?_
  refine s_iload_n 1 dX7_findForms_252 rfl ?_
  refine s_iastoreN aI_R24 h253 (by decide) dX7_findForms_253 ?_
  refine s_aload_n 0 dX7_findForms_254 rfl ?_
  refine s_aload_n 0 dX7_findForms_255 rfl ?_
  refine g_X7_71 dX7_findForms_256 rfl ?_
  refine s_iload 2 dX7_findForms_259 rfl ?_
  refine s_eqi e259 ?_
  refine s_ialoadN aI_R21 h261 (by decide) dX7_findForms_261 ?_
  refine s_i2l dX7_findForms_262 ?_
  refine s_aload_n 0 dX7_findForms_263 rfl ?_
  refine g_X7_74 dX7_findForms_264 rfl ?_
  refine s_iload 2 dX7_findForms_267 rfl ?_
  refine s_eqi e267 ?_
  refine s_ialoadN aI_R22 h269 (by decide) dX7_findForms_269 ?_
  refine s_i2l dX7_findForms_270 ?_
  refine s_aload_n 0 dX7_findForms_271 rfl ?_
  refine g_X7_77 dX7_findForms_272 rfl ?_
  refine s_iload 2 dX7_findForms_275 rfl ?_
  refine s_eqi e275 ?_
  refine s_ialoadN aI_R23 h277 (by decide) dX7_findForms_277 ?_
  refine s_i2l dX7_findForms_278 ?_
  refine s_pick [0, 1] [(0, .ref (ad 0)), (3, .int x3)] rfl ?_; exact k
theorem bX7_findForms_282 {l : Launch} {D : va_G} {aI aL : ClassId} {ad : Nat → Nat} {P : sa_P} {I : sa_I} {J : sa_J} {x3 : Int32}   (k : Sat (ER l D aI aL ad) M_X7_findForms P 291 [(0, .ref (ad 0)), (3, .int x3)] [.long (J 0 43), .long (J 0 42), .ref (ad 0)] I J) : Sat (ER l D aI aL ad) M_X7_findForms P 282 [(0, .ref (ad 0)), (3, .int x3)] [] I J := by
  refine s_aload_n 0 dX7_findForms_282 rfl ?_
  refine s_aload_n 0 dX7_findForms_283 rfl ?_
  refine g_X7_345 dX7_findForms_284 rfl ?_
  refine s_aload_n 0 dX7_findForms_287 rfl ?_
  refine g_X7_348 dX7_findForms_288 rfl ?_
  exact k
theorem bX7_findForms_294 {l : Launch} {D : va_G} {aI aL : ClassId} {ad : Nat → Nat} {P : sa_P} {I : sa_I} {J : sa_J} {x3 : Int32} {s0 : Int32}   (k : Sat (ER l D aI aL ad) M_X7_findForms P 236 [(0, .ref (ad 0)), (3, .int x3), (4, .int s0)] [] I J) : Sat (ER l D aI aL ad) M_X7_findForms P 294 [(0, .ref (ad 0)), (3, .int x3)] [.int s0] I J := by
  refine s_istore [(4, .int s0), (0, .ref (ad 0)), (3, .int x3)] dX7_findForms_294 (Nat.lt_of_lt_of_le (Nat.lt_succ_self _) (Nat.le_of_ble_eq_true rfl)) rfl ?_
  refine s_goto (tgt := 236) dX7_findForms_296 (by decide) ?_
  refine s_pick [1, 2, 0] [(0, .ref (ad 0)), (3, .int x3), (4, .int s0)] rfl ?_; exact k
theorem bX7_findForms_299 {l : Launch} {D : va_G} {aI aL : ClassId} {ad : Nat → Nat} {P : sa_P} {I : sa_I} {J : sa_J} {x3 : Int32} {v299 : Int32}  (f299 : x3 + 1 = v299) (k : Sat (ER l D aI aL ad) M_X7_findForms P 225 [(0, .ref (ad 0)), (3, .int v299)] [] I J) : Sat (ER l D aI aL ad) M_X7_findForms P 299 [(0, .ref (ad 0)), (3, .int x3)] [] I J := by
  refine s_iinc 1 v299 [(3, .int v299), (0, .ref (ad 0))] dX7_findForms_299 rfl f299 (Nat.lt_of_lt_of_le (Nat.lt_succ_self _) (Nat.le_of_ble_eq_true rfl)) rfl ?_
  refine s_goto (tgt := 225) dX7_findForms_302 (by decide) ?_
  refine s_pick [1, 0] [(0, .ref (ad 0)), (3, .int v299)] rfl ?_; exact k
theorem bX7_findForms_305 {l : Launch} {D : va_G} {aI aL : ClassId} {ad : Nat → Nat} {P : sa_P} {I : sa_I} {J : sa_J}    (k : P (none) I J) : Sat (ER l D aI aL ad) M_X7_findForms P 305 [] [] I J := by
  exact s_vret rfl dX7_findForms_305 k
/-! X7_isReduced -/
theorem dX7_isReduced_0 : decode cX7_isReduced 0 = .ok (.lload_n 3, 1) := by decide +kernel
theorem dX7_isReduced_1 : decode cX7_isReduced 1 = .ok (.lload_n 3, 1) := by decide +kernel
theorem dX7_isReduced_2 : decode cX7_isReduced 2 = .ok (.lmul, 1) := by decide +kernel
theorem dX7_isReduced_3 : decode cX7_isReduced 3 = .ok (.aload_n 0, 1) := by decide +kernel
theorem dX7_isReduced_4 : decode cX7_isReduced 4 = .ok (.getfield 157, 3) := by decide +kernel
theorem dX7_isReduced_7 : decode cX7_isReduced 7 = .ok (.lsub, 1) := by decide +kernel
theorem dX7_isReduced_8 : decode cX7_isReduced 8 = .ok (.ldc2_w 96, 3) := by decide +kernel
theorem dX7_isReduced_11 : decode cX7_isReduced 11 = .ok (.lload_n 1, 1) := by decide +kernel
theorem dX7_isReduced_12 : decode cX7_isReduced 12 = .ok (.lmul, 1) := by decide +kernel
theorem dX7_isReduced_13 : decode cX7_isReduced 13 = .ok (.ldiv, 1) := by decide +kernel
theorem dX7_isReduced_14 : decode cX7_isReduced 14 = .ok (.lstore 5, 2) := by decide +kernel
theorem dX7_isReduced_16 : decode cX7_isReduced 16 = .ok (.aload_n 0, 1) := by decide +kernel
theorem dX7_isReduced_17 : decode cX7_isReduced 17 = .ok (.getfield 157, 3) := by decide +kernel
theorem dX7_isReduced_20 : decode cX7_isReduced 20 = .ok (.lconst 0, 1) := by decide +kernel
theorem dX7_isReduced_21 : decode cX7_isReduced 21 = .ok (.lcmp, 1) := by decide +kernel
theorem dX7_isReduced_22 : decode cX7_isReduced 22 = .ok (.ifCond .ge 45, 3) := by decide +kernel
theorem dX7_isReduced_25 : decode cX7_isReduced 25 = .ok (.lload_n 1, 1) := by decide +kernel
theorem dX7_isReduced_26 : decode cX7_isReduced 26 = .ok (.lload 5, 2) := by decide +kernel
theorem dX7_isReduced_28 : decode cX7_isReduced 28 = .ok (.lcmp, 1) := by decide +kernel
theorem dX7_isReduced_29 : decode cX7_isReduced 29 = .ok (.ifCond .gt 36, 3) := by decide +kernel
theorem dX7_isReduced_32 : decode cX7_isReduced 32 = .ok (.lload_n 3, 1) := by decide +kernel
theorem dX7_isReduced_33 : decode cX7_isReduced 33 = .ok (.invokestatic 90, 3) := by decide +kernel
theorem dX7_isReduced_36 : decode cX7_isReduced 36 = .ok (.lload_n 1, 1) := by decide +kernel
theorem dX7_isReduced_37 : decode cX7_isReduced 37 = .ok (.lcmp, 1) := by decide +kernel
theorem dX7_isReduced_38 : decode cX7_isReduced 38 = .ok (.ifCond .gt 27, 3) := by decide +kernel
theorem dX7_isReduced_41 : decode cX7_isReduced 41 = .ok (.lload_n 3, 1) := by decide +kernel
theorem dX7_isReduced_42 : decode cX7_isReduced 42 = .ok (.lconst 0, 1) := by decide +kernel
theorem dX7_isReduced_43 : decode cX7_isReduced 43 = .ok (.lcmp, 1) := by decide +kernel
theorem dX7_isReduced_44 : decode cX7_isReduced 44 = .ok (.ifCond .ge 17, 3) := by decide +kernel
theorem dX7_isReduced_47 : decode cX7_isReduced 47 = .ok (.lload_n 3, 1) := by decide +kernel
theorem dX7_isReduced_48 : decode cX7_isReduced 48 = .ok (.lneg, 1) := by decide +kernel
theorem dX7_isReduced_49 : decode cX7_isReduced 49 = .ok (.lload_n 1, 1) := by decide +kernel
theorem dX7_isReduced_50 : decode cX7_isReduced 50 = .ok (.lcmp, 1) := by decide +kernel
theorem dX7_isReduced_51 : decode cX7_isReduced 51 = .ok (.ifCond .ge 14, 3) := by decide +kernel
theorem dX7_isReduced_54 : decode cX7_isReduced 54 = .ok (.lload_n 1, 1) := by decide +kernel
theorem dX7_isReduced_55 : decode cX7_isReduced 55 = .ok (.lload 5, 2) := by decide +kernel
theorem dX7_isReduced_57 : decode cX7_isReduced 57 = .ok (.lcmp, 1) := by decide +kernel
theorem dX7_isReduced_58 : decode cX7_isReduced 58 = .ok (.ifCond .ge 7, 3) := by decide +kernel
theorem dX7_isReduced_61 : decode cX7_isReduced 61 = .ok (.iconst 1, 1) := by decide +kernel
theorem dX7_isReduced_62 : decode cX7_isReduced 62 = .ok (.goto 4, 3) := by decide +kernel
theorem dX7_isReduced_65 : decode cX7_isReduced 65 = .ok (.iconst 0, 1) := by decide +kernel
theorem dX7_isReduced_66 : decode cX7_isReduced 66 = .ok (.ireturn, 1) := by decide +kernel
theorem dX7_isReduced_67 : decode cX7_isReduced 67 = .ok (.ldc2_w 355, 3) := by decide +kernel
theorem dX7_isReduced_70 : decode cX7_isReduced 70 = .ok (.lload_n 1, 1) := by decide +kernel
theorem dX7_isReduced_71 : decode cX7_isReduced 71 = .ok (.invokestatic 90, 3) := by decide +kernel
theorem dX7_isReduced_74 : decode cX7_isReduced 74 = .ok (.lmul, 1) := by decide +kernel
theorem dX7_isReduced_75 : decode cX7_isReduced 75 = .ok (.lstore 7, 2) := by decide +kernel
theorem dX7_isReduced_77 : decode cX7_isReduced 77 = .ok (.lload 7, 2) := by decide +kernel
theorem dX7_isReduced_79 : decode cX7_isReduced 79 = .ok (.lload_n 3, 1) := by decide +kernel
theorem dX7_isReduced_80 : decode cX7_isReduced 80 = .ok (.ladd, 1) := by decide +kernel
theorem dX7_isReduced_81 : decode cX7_isReduced 81 = .ok (.lload 7, 2) := by decide +kernel
theorem dX7_isReduced_83 : decode cX7_isReduced 83 = .ok (.lload_n 3, 1) := by decide +kernel
theorem dX7_isReduced_84 : decode cX7_isReduced 84 = .ok (.ladd, 1) := by decide +kernel
theorem dX7_isReduced_85 : decode cX7_isReduced 85 = .ok (.lmul, 1) := by decide +kernel
theorem dX7_isReduced_86 : decode cX7_isReduced 86 = .ok (.aload_n 0, 1) := by decide +kernel
theorem dX7_isReduced_87 : decode cX7_isReduced 87 = .ok (.getfield 157, 3) := by decide +kernel
theorem dX7_isReduced_90 : decode cX7_isReduced 90 = .ok (.lcmp, 1) := by decide +kernel
theorem dX7_isReduced_91 : decode cX7_isReduced 91 = .ok (.ifCond .le 31, 3) := by decide +kernel
theorem dX7_isReduced_94 : decode cX7_isReduced 94 = .ok (.lload 7, 2) := by decide +kernel
theorem dX7_isReduced_96 : decode cX7_isReduced 96 = .ok (.lload_n 3, 1) := by decide +kernel
theorem dX7_isReduced_97 : decode cX7_isReduced 97 = .ok (.lcmp, 1) := by decide +kernel
theorem dX7_isReduced_98 : decode cX7_isReduced 98 = .ok (.ifCond .lt 20, 3) := by decide +kernel
theorem dX7_isReduced_101 : decode cX7_isReduced 101 = .ok (.lload 7, 2) := by decide +kernel
theorem dX7_isReduced_103 : decode cX7_isReduced 103 = .ok (.lload_n 3, 1) := by decide +kernel
theorem dX7_isReduced_104 : decode cX7_isReduced 104 = .ok (.lsub, 1) := by decide +kernel
theorem dX7_isReduced_105 : decode cX7_isReduced 105 = .ok (.lload 7, 2) := by decide +kernel
theorem dX7_isReduced_107 : decode cX7_isReduced 107 = .ok (.lload_n 3, 1) := by decide +kernel
theorem dX7_isReduced_108 : decode cX7_isReduced 108 = .ok (.lsub, 1) := by decide +kernel
theorem dX7_isReduced_109 : decode cX7_isReduced 109 = .ok (.lmul, 1) := by decide +kernel
theorem dX7_isReduced_110 : decode cX7_isReduced 110 = .ok (.aload_n 0, 1) := by decide +kernel
theorem dX7_isReduced_111 : decode cX7_isReduced 111 = .ok (.getfield 157, 3) := by decide +kernel
theorem dX7_isReduced_114 : decode cX7_isReduced 114 = .ok (.lcmp, 1) := by decide +kernel
theorem dX7_isReduced_115 : decode cX7_isReduced 115 = .ok (.ifCond .ge 7, 3) := by decide +kernel
theorem dX7_isReduced_118 : decode cX7_isReduced 118 = .ok (.iconst 1, 1) := by decide +kernel
theorem dX7_isReduced_119 : decode cX7_isReduced 119 = .ok (.goto 4, 3) := by decide +kernel
theorem dX7_isReduced_122 : decode cX7_isReduced 122 = .ok (.iconst 0, 1) := by decide +kernel
theorem dX7_isReduced_123 : decode cX7_isReduced 123 = .ok (.ireturn, 1) := by decide +kernel
theorem bX7_isReduced_0 {l : Launch} {D : va_G} {aI aL : ClassId} {ad : Nat → Nat} {P : sa_P} {I : sa_I} {J : sa_J} {x1 : Int64} {x3 : Int64} {v14 : Int64} (z13 : ¬ (4 : Int64) * x1 = 0) (f14 : ((x3 * x3) - (J 0 10)) / ((4 : Int64) * x1) = v14) (kt : (0 : Int64) ≤ J 0 10 → Sat (ER l D aI aL ad) M_X7_isReduced P 67 [(0, .ref (ad 0)), (1, .long x1), (3, .long x3)] [] I J) (kf : ¬ (0 : Int64) ≤ J 0 10 → Sat (ER l D aI aL ad) M_X7_isReduced P 25 [(1, .long x1), (3, .long x3), (5, .long v14)] [] I J) : Sat (ER l D aI aL ad) M_X7_isReduced P 0 [(0, .ref (ad 0)), (1, .long x1), (3, .long x3)] [] I J := by
  refine s_lload_n 2 dX7_isReduced_0 rfl ?_
  refine s_lload_n 2 dX7_isReduced_1 rfl ?_
  refine s_lmul dX7_isReduced_2 ?_
  refine s_aload_n 0 dX7_isReduced_3 rfl ?_
  refine g_X7_157 dX7_isReduced_4 rfl ?_
  refine s_lsub dX7_isReduced_7 ?_
  refine s_ldc2 wk_X7_96 dX7_isReduced_8 ?_
  refine s_lload_n 1 dX7_isReduced_11 rfl ?_
  refine s_lmul dX7_isReduced_12 ?_
  refine s_ldiv dX7_isReduced_13 z13 ?_
  refine s_eql f14 ?_
  refine s_lstore [(5, .long v14), (0, .ref (ad 0)), (1, .long x1), (3, .long x3)] dX7_isReduced_14 (Nat.lt_of_lt_of_le (Nat.lt_succ_self _) (Nat.le_of_ble_eq_true rfl)) rfl ?_
  refine s_aload_n 1 dX7_isReduced_16 rfl ?_
  refine g_X7_157 dX7_isReduced_17 rfl ?_
  refine s_lconst (v := 0) dX7_isReduced_20 rfl ?_
  refine s_lif_ge (tgt := 67) dX7_isReduced_21 dX7_isReduced_22 (by decide) (fun c => ?_) (fun c => ?_)
  · refine s_pick [1, 2, 3] [(0, .ref (ad 0)), (1, .long x1), (3, .long x3)] rfl ?_; exact kt c
  · refine s_pick [2, 3, 0] [(1, .long x1), (3, .long x3), (5, .long v14)] rfl ?_; exact kf c
theorem bX7_isReduced_25 {l : Launch} {D : va_G} {aI aL : ClassId} {ad : Nat → Nat} {P : sa_P} {I : sa_I} {J : sa_J} {x1 : Int64} {x3 : Int64} {x5 : Int64}   (kt : x5 < x1 → Sat (ER l D aI aL ad) M_X7_isReduced P 65 [] [] I J) (kf : ¬ x5 < x1 → Sat (ER l D aI aL ad) M_X7_isReduced P 32 [(1, .long x1), (3, .long x3), (5, .long x5)] [] I J) : Sat (ER l D aI aL ad) M_X7_isReduced P 25 [(1, .long x1), (3, .long x3), (5, .long x5)] [] I J := by
  refine s_lload_n 0 dX7_isReduced_25 rfl ?_
  refine s_lload 2 dX7_isReduced_26 rfl ?_
  refine s_lif_gt (tgt := 65) dX7_isReduced_28 dX7_isReduced_29 (by decide) (fun c => ?_) (fun c => ?_)
  · refine s_pick [] [] rfl ?_; exact kt c
  · exact kf c
theorem bX7_isReduced_32 {l : Launch} {D : va_G} {aI aL : ClassId} {ad : Nat → Nat} {P : sa_P} {I : sa_I} {J : sa_J} {x1 : Int64} {x3 : Int64} {x5 : Int64}   (k : Sat (ER l D aI aL ad) M_X7_isReduced P 33 [(1, .long x1), (3, .long x3), (5, .long x5)] [.long x3] I J) : Sat (ER l D aI aL ad) M_X7_isReduced P 32 [(1, .long x1), (3, .long x3), (5, .long x5)] [] I J := by
  refine s_lload_n 1 dX7_isReduced_32 rfl ?_
  exact k
theorem bX7_isReduced_36 {l : Launch} {D : va_G} {aI aL : ClassId} {ad : Nat → Nat} {P : sa_P} {I : sa_I} {J : sa_J} {x1 : Int64} {x3 : Int64} {x5 : Int64} {s0 : Int64}   (kt : x1 < s0 → Sat (ER l D aI aL ad) M_X7_isReduced P 65 [] [] I J) (kf : ¬ x1 < s0 → Sat (ER l D aI aL ad) M_X7_isReduced P 41 [(1, .long x1), (3, .long x3), (5, .long x5)] [] I J) : Sat (ER l D aI aL ad) M_X7_isReduced P 36 [(1, .long x1), (3, .long x3), (5, .long x5)] [.long s0] I J := by
  refine s_lload_n 0 dX7_isReduced_36 rfl ?_
  refine s_lif_gt (tgt := 65) dX7_isReduced_37 dX7_isReduced_38 (by decide) (fun c => ?_) (fun c => ?_)
  · refine s_pick [] [] rfl ?_; exact kt c
  · exact kf c
theorem bX7_isReduced_41 {l : Launch} {D : va_G} {aI aL : ClassId} {ad : Nat → Nat} {P : sa_P} {I : sa_I} {J : sa_J} {x1 : Int64} {x3 : Int64} {x5 : Int64}   (kt : (0 : Int64) ≤ x3 → Sat (ER l D aI aL ad) M_X7_isReduced P 61 [] [] I J) (kf : ¬ (0 : Int64) ≤ x3 → Sat (ER l D aI aL ad) M_X7_isReduced P 47 [(1, .long x1), (3, .long x3), (5, .long x5)] [] I J) : Sat (ER l D aI aL ad) M_X7_isReduced P 41 [(1, .long x1), (3, .long x3), (5, .long x5)] [] I J := by
  refine s_lload_n 1 dX7_isReduced_41 rfl ?_
  refine s_lconst (v := 0) dX7_isReduced_42 rfl ?_
  refine s_lif_ge (tgt := 61) dX7_isReduced_43 dX7_isReduced_44 (by decide) (fun c => ?_) (fun c => ?_)
  · refine s_pick [] [] rfl ?_; exact kt c
  · exact kf c
theorem bX7_isReduced_47 {l : Launch} {D : va_G} {aI aL : ClassId} {ad : Nat → Nat} {P : sa_P} {I : sa_I} {J : sa_J} {x1 : Int64} {x3 : Int64} {x5 : Int64}   (kt : x1 ≤ -x3 → Sat (ER l D aI aL ad) M_X7_isReduced P 65 [] [] I J) (kf : ¬ x1 ≤ -x3 → Sat (ER l D aI aL ad) M_X7_isReduced P 54 [(1, .long x1), (5, .long x5)] [] I J) : Sat (ER l D aI aL ad) M_X7_isReduced P 47 [(1, .long x1), (3, .long x3), (5, .long x5)] [] I J := by
  refine s_lload_n 1 dX7_isReduced_47 rfl ?_
  refine s_lneg dX7_isReduced_48 ?_
  refine s_lload_n 0 dX7_isReduced_49 rfl ?_
  refine s_lif_ge (tgt := 65) dX7_isReduced_50 dX7_isReduced_51 (by decide) (fun c => ?_) (fun c => ?_)
  · refine s_pick [] [] rfl ?_; exact kt c
  · refine s_pick [0, 2] [(1, .long x1), (5, .long x5)] rfl ?_; exact kf c
theorem bX7_isReduced_54 {l : Launch} {D : va_G} {aI aL : ClassId} {ad : Nat → Nat} {P : sa_P} {I : sa_I} {J : sa_J} {x1 : Int64} {x5 : Int64}   (kt : x5 ≤ x1 → Sat (ER l D aI aL ad) M_X7_isReduced P 65 [] [] I J) (kf : ¬ x5 ≤ x1 → Sat (ER l D aI aL ad) M_X7_isReduced P 61 [] [] I J) : Sat (ER l D aI aL ad) M_X7_isReduced P 54 [(1, .long x1), (5, .long x5)] [] I J := by
  refine s_lload_n 0 dX7_isReduced_54 rfl ?_
  refine s_lload 1 dX7_isReduced_55 rfl ?_
  refine s_lif_ge (tgt := 65) dX7_isReduced_57 dX7_isReduced_58 (by decide) (fun c => ?_) (fun c => ?_)
  · refine s_pick [] [] rfl ?_; exact kt c
  · refine s_pick [] [] rfl ?_; exact kf c
theorem bX7_isReduced_61 {l : Launch} {D : va_G} {aI aL : ClassId} {ad : Nat → Nat} {P : sa_P} {I : sa_I} {J : sa_J}    (k : Sat (ER l D aI aL ad) M_X7_isReduced P 66 [] [.int (1 : Int32)] I J) : Sat (ER l D aI aL ad) M_X7_isReduced P 61 [] [] I J := by
  refine s_iconst (v := 1) dX7_isReduced_61 rfl ?_
  refine s_goto (tgt := 66) dX7_isReduced_62 (by decide) ?_
  exact k
theorem bX7_isReduced_65 {l : Launch} {D : va_G} {aI aL : ClassId} {ad : Nat → Nat} {P : sa_P} {I : sa_I} {J : sa_J}    (k : Sat (ER l D aI aL ad) M_X7_isReduced P 66 [] [.int (0 : Int32)] I J) : Sat (ER l D aI aL ad) M_X7_isReduced P 65 [] [] I J := by
  refine s_iconst (v := 0) dX7_isReduced_65 rfl ?_
  exact k
theorem bX7_isReduced_66 {l : Launch} {D : va_G} {aI aL : ClassId} {ad : Nat → Nat} {P : sa_P} {I : sa_I} {J : sa_J} {s0 : Int32} (hz : narrow .boolean (.int s0) = .int s0)  (k : P (some (.int s0)) I J) : Sat (ER l D aI aL ad) M_X7_isReduced P 66 [] [.int s0] I J := by
  exact s_zret hz rfl dX7_isReduced_66 k
theorem bX7_isReduced_67 {l : Launch} {D : va_G} {aI aL : ClassId} {ad : Nat → Nat} {P : sa_P} {I : sa_I} {J : sa_J} {x1 : Int64} {x3 : Int64}   (k : Sat (ER l D aI aL ad) M_X7_isReduced P 71 [(0, .ref (ad 0)), (3, .long x3)] [.long x1, .long (2 : Int64)] I J) : Sat (ER l D aI aL ad) M_X7_isReduced P 67 [(0, .ref (ad 0)), (1, .long x1), (3, .long x3)] [] I J := by
  refine s_ldc2 wk_X7_355 dX7_isReduced_67 ?_
  refine s_lload_n 1 dX7_isReduced_70 rfl ?_
  refine s_pick [0, 2] [(0, .ref (ad 0)), (3, .long x3)] rfl ?_; exact k
theorem bX7_isReduced_74 {l : Launch} {D : va_G} {aI aL : ClassId} {ad : Nat → Nat} {P : sa_P} {I : sa_I} {J : sa_J} {x3 : Int64} {s0 : Int64} {s1 : Int64} {v75 : Int64}  (f75 : s0 * s1 = v75) (kt : (v75 + x3) * (v75 + x3) ≤ J 0 10 → Sat (ER l D aI aL ad) M_X7_isReduced P 122 [] [] I J) (kf : ¬ (v75 + x3) * (v75 + x3) ≤ J 0 10 → Sat (ER l D aI aL ad) M_X7_isReduced P 94 [(0, .ref (ad 0)), (3, .long x3), (7, .long v75)] [] I J) : Sat (ER l D aI aL ad) M_X7_isReduced P 74 [(0, .ref (ad 0)), (3, .long x3)] [.long s1, .long s0] I J := by
  refine s_lmul dX7_isReduced_74 ?_
  refine s_eql f75 ?_
  refine s_lstore [(7, .long v75), (0, .ref (ad 0)), (3, .long x3)] dX7_isReduced_75 (Nat.lt_of_lt_of_le (Nat.lt_succ_self _) (Nat.le_of_ble_eq_true rfl)) rfl ?_
  refine s_lload 0 dX7_isReduced_77 rfl ?_
  refine s_lload_n 2 dX7_isReduced_79 rfl ?_
  refine s_ladd dX7_isReduced_80 ?_
  refine s_lload 0 dX7_isReduced_81 rfl ?_
  refine s_lload_n 2 dX7_isReduced_83 rfl ?_
  refine s_ladd dX7_isReduced_84 ?_
  refine s_lmul dX7_isReduced_85 ?_
  refine s_aload_n 1 dX7_isReduced_86 rfl ?_
  refine g_X7_157 dX7_isReduced_87 rfl ?_
  refine s_lif_le (tgt := 122) dX7_isReduced_90 dX7_isReduced_91 (by decide) (fun c => ?_) (fun c => ?_)
  · refine s_pick [] [] rfl ?_; exact kt c
  · refine s_pick [1, 2, 0] [(0, .ref (ad 0)), (3, .long x3), (7, .long v75)] rfl ?_; exact kf c
theorem bX7_isReduced_94 {l : Launch} {D : va_G} {aI aL : ClassId} {ad : Nat → Nat} {P : sa_P} {I : sa_I} {J : sa_J} {x3 : Int64} {x7 : Int64}   (kt : x7 < x3 → Sat (ER l D aI aL ad) M_X7_isReduced P 118 [] [] I J) (kf : ¬ x7 < x3 → Sat (ER l D aI aL ad) M_X7_isReduced P 101 [(0, .ref (ad 0)), (3, .long x3), (7, .long x7)] [] I J) : Sat (ER l D aI aL ad) M_X7_isReduced P 94 [(0, .ref (ad 0)), (3, .long x3), (7, .long x7)] [] I J := by
  refine s_lload 2 dX7_isReduced_94 rfl ?_
  refine s_lload_n 1 dX7_isReduced_96 rfl ?_
  refine s_lif_lt (tgt := 118) dX7_isReduced_97 dX7_isReduced_98 (by decide) (fun c => ?_) (fun c => ?_)
  · refine s_pick [] [] rfl ?_; exact kt c
  · exact kf c
theorem bX7_isReduced_101 {l : Launch} {D : va_G} {aI aL : ClassId} {ad : Nat → Nat} {P : sa_P} {I : sa_I} {J : sa_J} {x3 : Int64} {x7 : Int64}   (kt : J 0 10 ≤ (x7 - x3) * (x7 - x3) → Sat (ER l D aI aL ad) M_X7_isReduced P 122 [] [] I J) (kf : ¬ J 0 10 ≤ (x7 - x3) * (x7 - x3) → Sat (ER l D aI aL ad) M_X7_isReduced P 118 [] [] I J) : Sat (ER l D aI aL ad) M_X7_isReduced P 101 [(0, .ref (ad 0)), (3, .long x3), (7, .long x7)] [] I J := by
  refine s_lload 2 dX7_isReduced_101 rfl ?_
  refine s_lload_n 1 dX7_isReduced_103 rfl ?_
  refine s_lsub dX7_isReduced_104 ?_
  refine s_lload 2 dX7_isReduced_105 rfl ?_
  refine s_lload_n 1 dX7_isReduced_107 rfl ?_
  refine s_lsub dX7_isReduced_108 ?_
  refine s_lmul dX7_isReduced_109 ?_
  refine s_aload_n 0 dX7_isReduced_110 rfl ?_
  refine g_X7_157 dX7_isReduced_111 rfl ?_
  refine s_lif_ge (tgt := 122) dX7_isReduced_114 dX7_isReduced_115 (by decide) (fun c => ?_) (fun c => ?_)
  · refine s_pick [] [] rfl ?_; exact kt c
  · refine s_pick [] [] rfl ?_; exact kf c
theorem bX7_isReduced_118 {l : Launch} {D : va_G} {aI aL : ClassId} {ad : Nat → Nat} {P : sa_P} {I : sa_I} {J : sa_J}    (k : Sat (ER l D aI aL ad) M_X7_isReduced P 123 [] [.int (1 : Int32)] I J) : Sat (ER l D aI aL ad) M_X7_isReduced P 118 [] [] I J := by
  refine s_iconst (v := 1) dX7_isReduced_118 rfl ?_
  refine s_goto (tgt := 123) dX7_isReduced_119 (by decide) ?_
  exact k
theorem bX7_isReduced_122 {l : Launch} {D : va_G} {aI aL : ClassId} {ad : Nat → Nat} {P : sa_P} {I : sa_I} {J : sa_J}    (k : Sat (ER l D aI aL ad) M_X7_isReduced P 123 [] [.int (0 : Int32)] I J) : Sat (ER l D aI aL ad) M_X7_isReduced P 122 [] [] I J := by
  refine s_iconst (v := 0) dX7_isReduced_122 rfl ?_
  exact k
theorem bX7_isReduced_123 {l : Launch} {D : va_G} {aI aL : ClassId} {ad : Nat → Nat} {P : sa_P} {I : sa_I} {J : sa_J} {s0 : Int32} (hz : narrow .boolean (.int s0) = .int s0)  (k : P (some (.int s0)) I J) : Sat (ER l D aI aL ad) M_X7_isReduced P 123 [] [.int s0] I J := by
  exact s_zret hz rfl dX7_isReduced_123 k
/-! X7_find -/
theorem dX7_find_0 : decode cX7_find 0 = .ok (.iconst 0, 1) := by decide +kernel
theorem dX7_find_1 : decode cX7_find 1 = .ok (.istore 5, 2) := by decide +kernel
theorem dX7_find_3 : decode cX7_find 3 = .ok (.iload 5, 2) := by decide +kernel
theorem dX7_find_5 : decode cX7_find 5 = .ok (.aload_n 0, 1) := by decide +kernel
theorem dX7_find_6 : decode cX7_find 6 = .ok (.getfield 169, 3) := by decide +kernel
theorem dX7_find_9 : decode cX7_find 9 = .ok (.if_icmp .ge 38, 3) := by decide +kernel
theorem dX7_find_12 : decode cX7_find 12 = .ok (.aload_n 0, 1) := by decide +kernel
theorem dX7_find_13 : decode cX7_find 13 = .ok (.getfield 71, 3) := by decide +kernel
theorem dX7_find_16 : decode cX7_find 16 = .ok (.iload 5, 2) := by decide +kernel
theorem dX7_find_18 : decode cX7_find 18 = .ok (.iaload, 1) := by decide +kernel
theorem dX7_find_19 : decode cX7_find 19 = .ok (.i2l, 1) := by decide +kernel
theorem dX7_find_20 : decode cX7_find 20 = .ok (.lload_n 1, 1) := by decide +kernel
theorem dX7_find_21 : decode cX7_find 21 = .ok (.lcmp, 1) := by decide +kernel
theorem dX7_find_22 : decode cX7_find 22 = .ok (.ifCond .ne 19, 3) := by decide +kernel
theorem dX7_find_25 : decode cX7_find 25 = .ok (.aload_n 0, 1) := by decide +kernel
theorem dX7_find_26 : decode cX7_find 26 = .ok (.getfield 74, 3) := by decide +kernel
theorem dX7_find_29 : decode cX7_find 29 = .ok (.iload 5, 2) := by decide +kernel
theorem dX7_find_31 : decode cX7_find 31 = .ok (.iaload, 1) := by decide +kernel
theorem dX7_find_32 : decode cX7_find 32 = .ok (.i2l, 1) := by decide +kernel
theorem dX7_find_33 : decode cX7_find 33 = .ok (.lload_n 3, 1) := by decide +kernel
theorem dX7_find_34 : decode cX7_find 34 = .ok (.lcmp, 1) := by decide +kernel
theorem dX7_find_35 : decode cX7_find 35 = .ok (.ifCond .ne 6, 3) := by decide +kernel
theorem dX7_find_38 : decode cX7_find 38 = .ok (.iload 5, 2) := by decide +kernel
theorem dX7_find_40 : decode cX7_find 40 = .ok (.ireturn, 1) := by decide +kernel
theorem dX7_find_41 : decode cX7_find 41 = .ok (.iinc 5 1, 3) := by decide +kernel
theorem dX7_find_44 : decode cX7_find 44 = .ok (.goto (-41), 3) := by decide +kernel
theorem dX7_find_47 : decode cX7_find 47 = .ok (.iconst (-1), 1) := by decide +kernel
theorem dX7_find_48 : decode cX7_find 48 = .ok (.ireturn, 1) := by decide +kernel
theorem bX7_find_0 {l : Launch} {D : va_G} {aI aL : ClassId} {ad : Nat → Nat} {P : sa_P} {I : sa_I} {J : sa_J} {x1 : Int64} {x3 : Int64} {v1 : Int32}  (f1 : (0 : Int32) = v1) (k : Sat (ER l D aI aL ad) M_X7_find P 3 [(0, .ref (ad 0)), (1, .long x1), (3, .long x3), (5, .int v1)] [] I J) : Sat (ER l D aI aL ad) M_X7_find P 0 [(0, .ref (ad 0)), (1, .long x1), (3, .long x3)] [] I J := by
  refine s_iconst (v := 0) dX7_find_0 rfl ?_
  refine s_eqi f1 ?_
  refine s_istore [(5, .int v1), (0, .ref (ad 0)), (1, .long x1), (3, .long x3)] dX7_find_1 (Nat.lt_of_lt_of_le (Nat.lt_succ_self _) (Nat.le_of_ble_eq_true rfl)) rfl ?_
  refine s_pick [1, 2, 3, 0] [(0, .ref (ad 0)), (1, .long x1), (3, .long x3), (5, .int v1)] rfl ?_; exact k
theorem bX7_find_3 {l : Launch} {D : va_G} {aI aL : ClassId} {ad : Nat → Nat} {P : sa_P} {I : sa_I} {J : sa_J} {x1 : Int64} {x3 : Int64} {x5 : Int32}   (kt : I 0 36 ≤ x5 → Sat (ER l D aI aL ad) M_X7_find P 47 [] [] I J) (kf : ¬ I 0 36 ≤ x5 → Sat (ER l D aI aL ad) M_X7_find P 12 [(0, .ref (ad 0)), (1, .long x1), (3, .long x3), (5, .int x5)] [] I J) : Sat (ER l D aI aL ad) M_X7_find P 3 [(0, .ref (ad 0)), (1, .long x1), (3, .long x3), (5, .int x5)] [] I J := by
  refine s_iload 3 dX7_find_3 rfl ?_
  refine s_aload_n 0 dX7_find_5 rfl ?_
  refine g_X7_169 dX7_find_6 rfl ?_
  refine s_icmp_ge (tgt := 47) dX7_find_9 (by decide) (fun c => ?_) (fun c => ?_)
  · refine s_pick [] [] rfl ?_; exact kt c
  · exact kf c
theorem bX7_find_12 {l : Launch} {D : va_G} {aI aL : ClassId} {ad : Nat → Nat} {P : sa_P} {I : sa_I} {J : sa_J} {x1 : Int64} {x3 : Int64} {x5 : Int32} {j16 : Nat} (e16 : x5 = nI j16) (h18 : j16 < 3000)  (kt : ¬ (I 21 j16).toInt64 = x1 → Sat (ER l D aI aL ad) M_X7_find P 41 [(0, .ref (ad 0)), (1, .long x1), (3, .long x3), (5, .int x5)] [] I J) (kf : (I 21 j16).toInt64 = x1 → Sat (ER l D aI aL ad) M_X7_find P 25 [(0, .ref (ad 0)), (1, .long x1), (3, .long x3), (5, .int x5)] [] I J) : Sat (ER l D aI aL ad) M_X7_find P 12 [(0, .ref (ad 0)), (1, .long x1), (3, .long x3), (5, .int x5)] [] I J := by
  refine s_aload_n 0 dX7_find_12 rfl ?_
  refine g_X7_71 dX7_find_13 rfl ?_
  refine s_iload 3 dX7_find_16 rfl ?_
  refine s_eqi e16 ?_
  refine s_ialoadN aI_R21 h18 (by decide) dX7_find_18 ?_
  refine s_i2l dX7_find_19 ?_
  refine s_lload_n 1 dX7_find_20 rfl ?_
  refine s_lif_ne (tgt := 41) dX7_find_21 dX7_find_22 (by decide) (fun c => ?_) (fun c => ?_)
  · exact kt c
  · exact kf (by first | exact c | exact Classical.not_not.mp c)
theorem bX7_find_25 {l : Launch} {D : va_G} {aI aL : ClassId} {ad : Nat → Nat} {P : sa_P} {I : sa_I} {J : sa_J} {x1 : Int64} {x3 : Int64} {x5 : Int32} {j29 : Nat} (e29 : x5 = nI j29) (h31 : j29 < 3000)  (kt : ¬ (I 22 j29).toInt64 = x3 → Sat (ER l D aI aL ad) M_X7_find P 41 [(0, .ref (ad 0)), (1, .long x1), (3, .long x3), (5, .int x5)] [] I J) (kf : (I 22 j29).toInt64 = x3 → Sat (ER l D aI aL ad) M_X7_find P 38 [(5, .int x5)] [] I J) : Sat (ER l D aI aL ad) M_X7_find P 25 [(0, .ref (ad 0)), (1, .long x1), (3, .long x3), (5, .int x5)] [] I J := by
  refine s_aload_n 0 dX7_find_25 rfl ?_
  refine g_X7_74 dX7_find_26 rfl ?_
  refine s_iload 3 dX7_find_29 rfl ?_
  refine s_eqi e29 ?_
  refine s_ialoadN aI_R22 h31 (by decide) dX7_find_31 ?_
  refine s_i2l dX7_find_32 ?_
  refine s_lload_n 2 dX7_find_33 rfl ?_
  refine s_lif_ne (tgt := 41) dX7_find_34 dX7_find_35 (by decide) (fun c => ?_) (fun c => ?_)
  · exact kt c
  · refine s_pick [3] [(5, .int x5)] rfl ?_; exact kf (by first | exact c | exact Classical.not_not.mp c)
theorem bX7_find_38 {l : Launch} {D : va_G} {aI aL : ClassId} {ad : Nat → Nat} {P : sa_P} {I : sa_I} {J : sa_J} {x5 : Int32}   (k : P (some (.int x5)) I J) : Sat (ER l D aI aL ad) M_X7_find P 38 [(5, .int x5)] [] I J := by
  refine s_iload 0 dX7_find_38 rfl ?_
  exact s_iret rfl dX7_find_40 k
theorem bX7_find_41 {l : Launch} {D : va_G} {aI aL : ClassId} {ad : Nat → Nat} {P : sa_P} {I : sa_I} {J : sa_J} {x1 : Int64} {x3 : Int64} {x5 : Int32} {v41 : Int32}  (f41 : x5 + 1 = v41) (k : Sat (ER l D aI aL ad) M_X7_find P 3 [(0, .ref (ad 0)), (1, .long x1), (3, .long x3), (5, .int v41)] [] I J) : Sat (ER l D aI aL ad) M_X7_find P 41 [(0, .ref (ad 0)), (1, .long x1), (3, .long x3), (5, .int x5)] [] I J := by
  refine s_iinc 3 v41 [(5, .int v41), (0, .ref (ad 0)), (1, .long x1), (3, .long x3)] dX7_find_41 rfl f41 (Nat.lt_of_lt_of_le (Nat.lt_succ_self _) (Nat.le_of_ble_eq_true rfl)) rfl ?_
  refine s_goto (tgt := 3) dX7_find_44 (by decide) ?_
  refine s_pick [1, 2, 3, 0] [(0, .ref (ad 0)), (1, .long x1), (3, .long x3), (5, .int v41)] rfl ?_; exact k
theorem bX7_find_47 {l : Launch} {D : va_G} {aI aL : ClassId} {ad : Nat → Nat} {P : sa_P} {I : sa_I} {J : sa_J}    (k : P (some (.int (-1 : Int32))) I J) : Sat (ER l D aI aL ad) M_X7_find P 47 [] [] I J := by
  refine s_iconst (v := -1) dX7_find_47 rfl ?_
  exact s_iret rfl dX7_find_48 k
/-! X7_follows -/
theorem dX7_follows_0 : decode cX7_follows 0 = .ok (.lload 5, 2) := by decide +kernel
theorem dX7_follows_2 : decode cX7_follows 2 = .ok (.invokestatic 90, 3) := by decide +kernel
theorem dX7_follows_5 : decode cX7_follows 5 = .ok (.lstore 7, 2) := by decide +kernel
theorem dX7_follows_7 : decode cX7_follows 7 = .ok (.lload_n 3, 1) := by decide +kernel
theorem dX7_follows_8 : decode cX7_follows 8 = .ok (.lneg, 1) := by decide +kernel
theorem dX7_follows_9 : decode cX7_follows 9 = .ok (.ldc2_w 355, 3) := by decide +kernel
theorem dX7_follows_12 : decode cX7_follows 12 = .ok (.lload 7, 2) := by decide +kernel
theorem dX7_follows_14 : decode cX7_follows 14 = .ok (.lmul, 1) := by decide +kernel
theorem dX7_follows_15 : decode cX7_follows 15 = .ok (.invokestatic 155, 3) := by decide +kernel
theorem dX7_follows_18 : decode cX7_follows 18 = .ok (.lstore 9, 2) := by decide +kernel
theorem dX7_follows_20 : decode cX7_follows 20 = .ok (.lload 7, 2) := by decide +kernel
theorem dX7_follows_22 : decode cX7_follows 22 = .ok (.lload 7, 2) := by decide +kernel
theorem dX7_follows_24 : decode cX7_follows 24 = .ok (.lmul, 1) := by decide +kernel
theorem dX7_follows_25 : decode cX7_follows 25 = .ok (.aload_n 0, 1) := by decide +kernel
theorem dX7_follows_26 : decode cX7_follows 26 = .ok (.getfield 157, 3) := by decide +kernel
theorem dX7_follows_29 : decode cX7_follows 29 = .ok (.lcmp, 1) := by decide +kernel
theorem dX7_follows_30 : decode cX7_follows 30 = .ok (.ifCond .ge 28, 3) := by decide +kernel
theorem dX7_follows_33 : decode cX7_follows 33 = .ok (.aload_n 0, 1) := by decide +kernel
theorem dX7_follows_34 : decode cX7_follows 34 = .ok (.getfield 331, 3) := by decide +kernel
theorem dX7_follows_37 : decode cX7_follows 37 = .ok (.aload_n 0, 1) := by decide +kernel
theorem dX7_follows_38 : decode cX7_follows 38 = .ok (.getfield 331, 3) := by decide +kernel
theorem dX7_follows_41 : decode cX7_follows 41 = .ok (.lload_n 3, 1) := by decide +kernel
theorem dX7_follows_42 : decode cX7_follows 42 = .ok (.ladd, 1) := by decide +kernel
theorem dX7_follows_43 : decode cX7_follows 43 = .ok (.ldc2_w 355, 3) := by decide +kernel
theorem dX7_follows_46 : decode cX7_follows 46 = .ok (.lload 7, 2) := by decide +kernel
theorem dX7_follows_48 : decode cX7_follows 48 = .ok (.lmul, 1) := by decide +kernel
theorem dX7_follows_49 : decode cX7_follows 49 = .ok (.invokestatic 155, 3) := by decide +kernel
theorem dX7_follows_52 : decode cX7_follows 52 = .ok (.lsub, 1) := by decide +kernel
theorem dX7_follows_53 : decode cX7_follows 53 = .ok (.lstore 9, 2) := by decide +kernel
theorem dX7_follows_55 : decode cX7_follows 55 = .ok (.goto 22, 3) := by decide +kernel
theorem dX7_follows_58 : decode cX7_follows 58 = .ok (.lload 9, 2) := by decide +kernel
theorem dX7_follows_60 : decode cX7_follows 60 = .ok (.lload 7, 2) := by decide +kernel
theorem dX7_follows_62 : decode cX7_follows 62 = .ok (.lcmp, 1) := by decide +kernel
theorem dX7_follows_63 : decode cX7_follows 63 = .ok (.ifCond .le 14, 3) := by decide +kernel
theorem dX7_follows_66 : decode cX7_follows 66 = .ok (.lload 9, 2) := by decide +kernel
theorem dX7_follows_68 : decode cX7_follows 68 = .ok (.ldc2_w 355, 3) := by decide +kernel
theorem dX7_follows_71 : decode cX7_follows 71 = .ok (.lload 7, 2) := by decide +kernel
theorem dX7_follows_73 : decode cX7_follows 73 = .ok (.lmul, 1) := by decide +kernel
theorem dX7_follows_74 : decode cX7_follows 74 = .ok (.lsub, 1) := by decide +kernel
theorem dX7_follows_75 : decode cX7_follows 75 = .ok (.lstore 9, 2) := by decide +kernel
theorem dX7_follows_77 : decode cX7_follows 77 = .ok (.aload_n 0, 1) := by decide +kernel
theorem dX7_follows_78 : decode cX7_follows 78 = .ok (.lload 5, 2) := by decide +kernel
theorem dX7_follows_80 : decode cX7_follows 80 = .ok (.putfield 345, 3) := by decide +kernel
theorem dX7_follows_83 : decode cX7_follows 83 = .ok (.aload_n 0, 1) := by decide +kernel
theorem dX7_follows_84 : decode cX7_follows 84 = .ok (.lload 9, 2) := by decide +kernel
theorem dX7_follows_86 : decode cX7_follows 86 = .ok (.putfield 348, 3) := by decide +kernel
theorem dX7_follows_89 : decode cX7_follows 89 = .ok (.aload_n 0, 1) := by decide +kernel
theorem dX7_follows_90 : decode cX7_follows 90 = .ok (.lload 9, 2) := by decide +kernel
theorem dX7_follows_92 : decode cX7_follows 92 = .ok (.lload 9, 2) := by decide +kernel
theorem dX7_follows_94 : decode cX7_follows 94 = .ok (.lmul, 1) := by decide +kernel
theorem dX7_follows_95 : decode cX7_follows 95 = .ok (.aload_n 0, 1) := by decide +kernel
theorem dX7_follows_96 : decode cX7_follows 96 = .ok (.getfield 157, 3) := by decide +kernel
theorem dX7_follows_99 : decode cX7_follows 99 = .ok (.lsub, 1) := by decide +kernel
theorem dX7_follows_100 : decode cX7_follows 100 = .ok (.ldc2_w 96, 3) := by decide +kernel
theorem dX7_follows_103 : decode cX7_follows 103 = .ok (.lload 5, 2) := by decide +kernel
theorem dX7_follows_105 : decode cX7_follows 105 = .ok (.lmul, 1) := by decide +kernel
theorem dX7_follows_106 : decode cX7_follows 106 = .ok (.ldiv, 1) := by decide +kernel
theorem dX7_follows_107 : decode cX7_follows 107 = .ok (.putfield 357, 3) := by decide +kernel
theorem dX7_follows_110 : decode cX7_follows 110 = .ok (.return_, 1) := by decide +kernel
theorem bX7_follows_0 {l : Launch} {D : va_G} {aI aL : ClassId} {ad : Nat → Nat} {P : sa_P} {I : sa_I} {J : sa_J} {x1 : Int64} {x3 : Int64} {x5 : Int64}   (k : Sat (ER l D aI aL ad) M_X7_follows P 2 [(0, .ref (ad 0)), (3, .long x3), (5, .long x5)] [.long x5] I J) : Sat (ER l D aI aL ad) M_X7_follows P 0 [(0, .ref (ad 0)), (1, .long x1), (3, .long x3), (5, .long x5)] [] I J := by
  refine s_lload 3 dX7_follows_0 rfl ?_
  refine s_pick [0, 2, 3] [(0, .ref (ad 0)), (3, .long x3), (5, .long x5)] rfl ?_; exact k
theorem bX7_follows_5 {l : Launch} {D : va_G} {aI aL : ClassId} {ad : Nat → Nat} {P : sa_P} {I : sa_I} {J : sa_J} {x3 : Int64} {x5 : Int64} {s0 : Int64}   (k : Sat (ER l D aI aL ad) M_X7_follows P 15 [(0, .ref (ad 0)), (3, .long x3), (5, .long x5), (7, .long s0)] [.long ((2 : Int64) * s0), .long (-x3)] I J) : Sat (ER l D aI aL ad) M_X7_follows P 5 [(0, .ref (ad 0)), (3, .long x3), (5, .long x5)] [.long s0] I J := by
  refine s_lstore [(7, .long s0), (0, .ref (ad 0)), (3, .long x3), (5, .long x5)] dX7_follows_5 (Nat.lt_of_lt_of_le (Nat.lt_succ_self _) (Nat.le_of_ble_eq_true rfl)) rfl ?_
  refine s_lload_n 2 dX7_follows_7 rfl ?_
  refine s_lneg dX7_follows_8 ?_
  refine s_ldc2 wk_X7_355 dX7_follows_9 ?_
  refine s_lload 0 dX7_follows_12 rfl ?_
  refine s_lmul dX7_follows_14 ?_
  refine s_pick [1, 2, 3, 0] [(0, .ref (ad 0)), (3, .long x3), (5, .long x5), (7, .long s0)] rfl ?_; exact k
theorem bX7_follows_18 {l : Launch} {D : va_G} {aI aL : ClassId} {ad : Nat → Nat} {P : sa_P} {I : sa_I} {J : sa_J} {x3 : Int64} {x5 : Int64} {x7 : Int64} {s0 : Int64}   (kt : J 0 10 ≤ x7 * x7 → Sat (ER l D aI aL ad) M_X7_follows P 58 [(0, .ref (ad 0)), (5, .long x5), (7, .long x7), (9, .long s0)] [] I J) (kf : ¬ J 0 10 ≤ x7 * x7 → Sat (ER l D aI aL ad) M_X7_follows P 33 [(0, .ref (ad 0)), (3, .long x3), (5, .long x5), (7, .long x7)] [] I J) : Sat (ER l D aI aL ad) M_X7_follows P 18 [(0, .ref (ad 0)), (3, .long x3), (5, .long x5), (7, .long x7)] [.long s0] I J := by
  refine s_lstore [(9, .long s0), (0, .ref (ad 0)), (3, .long x3), (5, .long x5), (7, .long x7)] dX7_follows_18 (Nat.lt_of_lt_of_le (Nat.lt_succ_self _) (Nat.le_of_ble_eq_true rfl)) rfl ?_
  refine s_lload 4 dX7_follows_20 rfl ?_
  refine s_lload 4 dX7_follows_22 rfl ?_
  refine s_lmul dX7_follows_24 ?_
  refine s_aload_n 1 dX7_follows_25 rfl ?_
  refine g_X7_157 dX7_follows_26 rfl ?_
  refine s_lif_ge (tgt := 58) dX7_follows_29 dX7_follows_30 (by decide) (fun c => ?_) (fun c => ?_)
  · refine s_pick [1, 3, 4, 0] [(0, .ref (ad 0)), (5, .long x5), (7, .long x7), (9, .long s0)] rfl ?_; exact kt c
  · refine s_pick [1, 2, 3, 4] [(0, .ref (ad 0)), (3, .long x3), (5, .long x5), (7, .long x7)] rfl ?_; exact kf c
theorem bX7_follows_33 {l : Launch} {D : va_G} {aI aL : ClassId} {ad : Nat → Nat} {P : sa_P} {I : sa_I} {J : sa_J} {x3 : Int64} {x5 : Int64} {x7 : Int64}   (k : Sat (ER l D aI aL ad) M_X7_follows P 49 [(0, .ref (ad 0)), (5, .long x5)] [.long ((2 : Int64) * x7), .long ((J 0 41) + x3), .long (J 0 41)] I J) : Sat (ER l D aI aL ad) M_X7_follows P 33 [(0, .ref (ad 0)), (3, .long x3), (5, .long x5), (7, .long x7)] [] I J := by
  refine s_aload_n 0 dX7_follows_33 rfl ?_
  refine g_X7_331 dX7_follows_34 rfl ?_
  refine s_aload_n 0 dX7_follows_37 rfl ?_
  refine g_X7_331 dX7_follows_38 rfl ?_
  refine s_lload_n 1 dX7_follows_41 rfl ?_
  refine s_ladd dX7_follows_42 ?_
  refine s_ldc2 wk_X7_355 dX7_follows_43 ?_
  refine s_lload 3 dX7_follows_46 rfl ?_
  refine s_lmul dX7_follows_48 ?_
  refine s_pick [0, 2] [(0, .ref (ad 0)), (5, .long x5)] rfl ?_; exact k
theorem bX7_follows_52 {l : Launch} {D : va_G} {aI aL : ClassId} {ad : Nat → Nat} {P : sa_P} {I : sa_I} {J : sa_J} {x5 : Int64} {s0 : Int64} {s1 : Int64} {v53 : Int64}  (f53 : s0 - s1 = v53) (k : Sat (ER l D aI aL ad) M_X7_follows P 77 [(0, .ref (ad 0)), (5, .long x5), (9, .long v53)] [] I J) : Sat (ER l D aI aL ad) M_X7_follows P 52 [(0, .ref (ad 0)), (5, .long x5)] [.long s1, .long s0] I J := by
  refine s_lsub dX7_follows_52 ?_
  refine s_eql f53 ?_
  refine s_lstore [(9, .long v53), (0, .ref (ad 0)), (5, .long x5)] dX7_follows_53 (Nat.lt_of_lt_of_le (Nat.lt_succ_self _) (Nat.le_of_ble_eq_true rfl)) rfl ?_
  refine s_goto (tgt := 77) dX7_follows_55 (by decide) ?_
  refine s_pick [1, 2, 0] [(0, .ref (ad 0)), (5, .long x5), (9, .long v53)] rfl ?_; exact k
theorem bX7_follows_58 {l : Launch} {D : va_G} {aI aL : ClassId} {ad : Nat → Nat} {P : sa_P} {I : sa_I} {J : sa_J} {x5 : Int64} {x7 : Int64} {x9 : Int64}   (kt : x9 ≤ x7 → Sat (ER l D aI aL ad) M_X7_follows P 77 [(0, .ref (ad 0)), (5, .long x5), (9, .long x9)] [] I J) (kf : ¬ x9 ≤ x7 → Sat (ER l D aI aL ad) M_X7_follows P 66 [(0, .ref (ad 0)), (5, .long x5), (7, .long x7), (9, .long x9)] [] I J) : Sat (ER l D aI aL ad) M_X7_follows P 58 [(0, .ref (ad 0)), (5, .long x5), (7, .long x7), (9, .long x9)] [] I J := by
  refine s_lload 3 dX7_follows_58 rfl ?_
  refine s_lload 2 dX7_follows_60 rfl ?_
  refine s_lif_le (tgt := 77) dX7_follows_62 dX7_follows_63 (by decide) (fun c => ?_) (fun c => ?_)
  · refine s_pick [0, 1, 3] [(0, .ref (ad 0)), (5, .long x5), (9, .long x9)] rfl ?_; exact kt c
  · exact kf c
theorem bX7_follows_66 {l : Launch} {D : va_G} {aI aL : ClassId} {ad : Nat → Nat} {P : sa_P} {I : sa_I} {J : sa_J} {x5 : Int64} {x7 : Int64} {x9 : Int64} {v75 : Int64}  (f75 : x9 - ((2 : Int64) * x7) = v75) (k : Sat (ER l D aI aL ad) M_X7_follows P 77 [(0, .ref (ad 0)), (5, .long x5), (9, .long v75)] [] I J) : Sat (ER l D aI aL ad) M_X7_follows P 66 [(0, .ref (ad 0)), (5, .long x5), (7, .long x7), (9, .long x9)] [] I J := by
  refine s_lload 3 dX7_follows_66 rfl ?_
  refine s_ldc2 wk_X7_355 dX7_follows_68 ?_
  refine s_lload 2 dX7_follows_71 rfl ?_
  refine s_lmul dX7_follows_73 ?_
  refine s_lsub dX7_follows_74 ?_
  refine s_eql f75 ?_
  refine s_lstore [(9, .long v75), (0, .ref (ad 0)), (5, .long x5), (7, .long x7)] dX7_follows_75 (Nat.lt_of_lt_of_le (Nat.lt_succ_self _) (Nat.le_of_ble_eq_true rfl)) rfl ?_
  refine s_pick [1, 2, 0] [(0, .ref (ad 0)), (5, .long x5), (9, .long v75)] rfl ?_; exact k
theorem bX7_follows_77 {l : Launch} {D : va_G} {aI aL : ClassId} {ad : Nat → Nat} {P : sa_P} {I : sa_I} {J : sa_J} {x5 : Int64} {x9 : Int64} {v107 : Int64} (z106 : ¬ (4 : Int64) * x5 = 0) (f107 : ((x9 * x9) - ((sa_uJ (sa_uJ J 0 42 x5) 0 43 x9) 0 10)) / ((4 : Int64) * x5) = v107) (k : P (none) I (sa_uJ (sa_uJ (sa_uJ J 0 42 x5) 0 43 x9) 0 44 v107)) : Sat (ER l D aI aL ad) M_X7_follows P 77 [(0, .ref (ad 0)), (5, .long x5), (9, .long x9)] [] I J := by
  refine s_aload_n 0 dX7_follows_77 rfl ?_
  refine s_lload 1 dX7_follows_78 rfl ?_
  refine p_X7_345 dX7_follows_80 rfl ?_
  refine s_aload_n 0 dX7_follows_83 rfl ?_
  refine s_lload 2 dX7_follows_84 rfl ?_
  refine p_X7_348 dX7_follows_86 rfl ?_
  refine s_aload_n 0 dX7_follows_89 rfl ?_
  refine s_lload 2 dX7_follows_90 rfl ?_
  refine s_lload 2 dX7_follows_92 rfl ?_
  refine s_lmul dX7_follows_94 ?_
  refine s_aload_n 0 dX7_follows_95 rfl ?_
  refine g_X7_157 dX7_follows_96 rfl ?_
  refine s_lsub dX7_follows_99 ?_
  refine s_ldc2 wk_X7_96 dX7_follows_100 ?_
  refine s_lload 1 dX7_follows_103 rfl ?_
  refine s_lmul dX7_follows_105 ?_
  refine s_ldiv dX7_follows_106 z106 ?_
  refine s_eql f107 ?_
  refine p_X7_357 dX7_follows_107 rfl ?_
  exact s_vret rfl dX7_follows_110 k
/-! X7_classOfRows -/
theorem dX7_classOfRows_0 : decode cX7_classOfRows 0 = .ok (.aload_n 0, 1) := by decide +kernel
theorem dX7_classOfRows_1 : decode cX7_classOfRows 1 = .ok (.invokevirtual 360, 3) := by decide +kernel
theorem dX7_classOfRows_4 : decode cX7_classOfRows 4 = .ok (.aload_n 0, 1) := by decide +kernel
theorem dX7_classOfRows_5 : decode cX7_classOfRows 5 = .ok (.getfield 53, 3) := by decide +kernel
theorem dX7_classOfRows_8 : decode cX7_classOfRows 8 = .ok (.iconst 4, 1) := by decide +kernel
theorem dX7_classOfRows_9 : decode cX7_classOfRows 9 = .ok (.laload, 1) := by decide +kernel
theorem dX7_classOfRows_10 : decode cX7_classOfRows 10 = .ok (.lstore_n 1, 1) := by decide +kernel
theorem dX7_classOfRows_11 : decode cX7_classOfRows 11 = .ok (.aload_n 0, 1) := by decide +kernel
theorem dX7_classOfRows_12 : decode cX7_classOfRows 12 = .ok (.getfield 53, 3) := by decide +kernel
theorem dX7_classOfRows_15 : decode cX7_classOfRows 15 = .ok (.iconst 0, 1) := by decide +kernel
theorem dX7_classOfRows_16 : decode cX7_classOfRows 16 = .ok (.laload, 1) := by decide +kernel
theorem dX7_classOfRows_17 : decode cX7_classOfRows 17 = .ok (.lload_n 1, 1) := by decide +kernel
theorem dX7_classOfRows_18 : decode cX7_classOfRows 18 = .ok (.ldiv, 1) := by decide +kernel
theorem dX7_classOfRows_19 : decode cX7_classOfRows 19 = .ok (.lstore_n 3, 1) := by decide +kernel
theorem dX7_classOfRows_20 : decode cX7_classOfRows 20 = .ok (.ldc2_w 355, 3) := by decide +kernel
theorem dX7_classOfRows_23 : decode cX7_classOfRows 23 = .ok (.aload_n 0, 1) := by decide +kernel
theorem dX7_classOfRows_24 : decode cX7_classOfRows 24 = .ok (.getfield 53, 3) := by decide +kernel
theorem dX7_classOfRows_27 : decode cX7_classOfRows 27 = .ok (.iconst 3, 1) := by decide +kernel
theorem dX7_classOfRows_28 : decode cX7_classOfRows 28 = .ok (.laload, 1) := by decide +kernel
theorem dX7_classOfRows_29 : decode cX7_classOfRows 29 = .ok (.lload_n 1, 1) := by decide +kernel
theorem dX7_classOfRows_30 : decode cX7_classOfRows 30 = .ok (.ldiv, 1) := by decide +kernel
theorem dX7_classOfRows_31 : decode cX7_classOfRows 31 = .ok (.lmul, 1) := by decide +kernel
theorem dX7_classOfRows_32 : decode cX7_classOfRows 32 = .ok (.aload_n 0, 1) := by decide +kernel
theorem dX7_classOfRows_33 : decode cX7_classOfRows 33 = .ok (.invokevirtual 363, 3) := by decide +kernel
theorem dX7_classOfRows_36 : decode cX7_classOfRows 36 = .ok (.ladd, 1) := by decide +kernel
theorem dX7_classOfRows_37 : decode cX7_classOfRows 37 = .ok (.lstore 5, 2) := by decide +kernel
theorem dX7_classOfRows_39 : decode cX7_classOfRows 39 = .ok (.aload_n 0, 1) := by decide +kernel
theorem dX7_classOfRows_40 : decode cX7_classOfRows 40 = .ok (.getfield 157, 3) := by decide +kernel
theorem dX7_classOfRows_43 : decode cX7_classOfRows 43 = .ok (.lconst 0, 1) := by decide +kernel
theorem dX7_classOfRows_44 : decode cX7_classOfRows 44 = .ok (.lcmp, 1) := by decide +kernel
theorem dX7_classOfRows_45 : decode cX7_classOfRows 45 = .ok (.ifCond .ge 11, 3) := by decide +kernel
theorem dX7_classOfRows_48 : decode cX7_classOfRows 48 = .ok (.aload_n 0, 1) := by decide +kernel
theorem dX7_classOfRows_49 : decode cX7_classOfRows 49 = .ok (.lload_n 3, 1) := by decide +kernel
theorem dX7_classOfRows_50 : decode cX7_classOfRows 50 = .ok (.lload 5, 2) := by decide +kernel
theorem dX7_classOfRows_52 : decode cX7_classOfRows 52 = .ok (.invokevirtual 366, 3) := by decide +kernel
theorem dX7_classOfRows_55 : decode cX7_classOfRows 55 = .ok (.ireturn, 1) := by decide +kernel
theorem dX7_classOfRows_56 : decode cX7_classOfRows 56 = .ok (.aload_n 0, 1) := by decide +kernel
theorem dX7_classOfRows_57 : decode cX7_classOfRows 57 = .ok (.lload_n 3, 1) := by decide +kernel
theorem dX7_classOfRows_58 : decode cX7_classOfRows 58 = .ok (.putfield 345, 3) := by decide +kernel
theorem dX7_classOfRows_61 : decode cX7_classOfRows 61 = .ok (.aload_n 0, 1) := by decide +kernel
theorem dX7_classOfRows_62 : decode cX7_classOfRows 62 = .ok (.lload 5, 2) := by decide +kernel
theorem dX7_classOfRows_64 : decode cX7_classOfRows 64 = .ok (.putfield 348, 3) := by decide +kernel
theorem dX7_classOfRows_67 : decode cX7_classOfRows 67 = .ok (.aload_n 0, 1) := by decide +kernel
theorem dX7_classOfRows_68 : decode cX7_classOfRows 68 = .ok (.lload 5, 2) := by decide +kernel
theorem dX7_classOfRows_70 : decode cX7_classOfRows 70 = .ok (.lload 5, 2) := by decide +kernel
theorem dX7_classOfRows_72 : decode cX7_classOfRows 72 = .ok (.lmul, 1) := by decide +kernel
theorem dX7_classOfRows_73 : decode cX7_classOfRows 73 = .ok (.aload_n 0, 1) := by decide +kernel
theorem dX7_classOfRows_74 : decode cX7_classOfRows 74 = .ok (.getfield 157, 3) := by decide +kernel
theorem dX7_classOfRows_77 : decode cX7_classOfRows 77 = .ok (.lsub, 1) := by decide +kernel
theorem dX7_classOfRows_78 : decode cX7_classOfRows 78 = .ok (.ldc2_w 96, 3) := by decide +kernel
theorem dX7_classOfRows_81 : decode cX7_classOfRows 81 = .ok (.lload_n 3, 1) := by decide +kernel
theorem dX7_classOfRows_82 : decode cX7_classOfRows 82 = .ok (.lmul, 1) := by decide +kernel
theorem dX7_classOfRows_83 : decode cX7_classOfRows 83 = .ok (.ldiv, 1) := by decide +kernel
theorem dX7_classOfRows_84 : decode cX7_classOfRows 84 = .ok (.putfield 357, 3) := by decide +kernel
theorem dX7_classOfRows_87 : decode cX7_classOfRows 87 = .ok (.aload_n 0, 1) := by decide +kernel
theorem dX7_classOfRows_88 : decode cX7_classOfRows 88 = .ok (.aload_n 0, 1) := by decide +kernel
theorem dX7_classOfRows_89 : decode cX7_classOfRows 89 = .ok (.getfield 345, 3) := by decide +kernel
theorem dX7_classOfRows_92 : decode cX7_classOfRows 92 = .ok (.aload_n 0, 1) := by decide +kernel
theorem dX7_classOfRows_93 : decode cX7_classOfRows 93 = .ok (.getfield 348, 3) := by decide +kernel
theorem dX7_classOfRows_96 : decode cX7_classOfRows 96 = .ok (.invokevirtual 351, 3) := by decide +kernel
theorem dX7_classOfRows_99 : decode cX7_classOfRows 99 = .ok (.istore 7, 2) := by decide +kernel
theorem dX7_classOfRows_101 : decode cX7_classOfRows 101 = .ok (.iload 7, 2) := by decide +kernel
theorem dX7_classOfRows_103 : decode cX7_classOfRows 103 = .ok (.ifCond .ge 36, 3) := by decide +kernel
theorem dX7_classOfRows_106 : decode cX7_classOfRows 106 = .ok (.aload_n 0, 1) := by decide +kernel
theorem dX7_classOfRows_107 : decode cX7_classOfRows 107 = .ok (.aload_n 0, 1) := by decide +kernel
theorem dX7_classOfRows_108 : decode cX7_classOfRows 108 = .ok (.getfield 345, 3) := by decide +kernel
theorem dX7_classOfRows_111 : decode cX7_classOfRows 111 = .ok (.aload_n 0, 1) := by decide +kernel
theorem dX7_classOfRows_112 : decode cX7_classOfRows 112 = .ok (.getfield 348, 3) := by decide +kernel
theorem dX7_classOfRows_115 : decode cX7_classOfRows 115 = .ok (.aload_n 0, 1) := by decide +kernel
theorem dX7_classOfRows_116 : decode cX7_classOfRows 116 = .ok (.getfield 357, 3) := by decide +kernel
theorem dX7_classOfRows_119 : decode cX7_classOfRows 119 = .ok (.invokevirtual 342, 3) := by decide +kernel
theorem dX7_classOfRows_122 : decode cX7_classOfRows 122 = .ok (.aload_n 0, 1) := by decide +kernel
theorem dX7_classOfRows_123 : decode cX7_classOfRows 123 = .ok (.aload_n 0, 1) := by decide +kernel
theorem dX7_classOfRows_124 : decode cX7_classOfRows 124 = .ok (.getfield 345, 3) := by decide +kernel
theorem dX7_classOfRows_127 : decode cX7_classOfRows 127 = .ok (.aload_n 0, 1) := by decide +kernel
theorem dX7_classOfRows_128 : decode cX7_classOfRows 128 = .ok (.getfield 348, 3) := by decide +kernel
theorem dX7_classOfRows_131 : decode cX7_classOfRows 131 = .ok (.invokevirtual 351, 3) := by decide +kernel
theorem dX7_classOfRows_134 : decode cX7_classOfRows 134 = .ok (.istore 7, 2) := by decide +kernel
theorem dX7_classOfRows_136 : decode cX7_classOfRows 136 = .ok (.goto (-35), 3) := by decide +kernel
theorem dX7_classOfRows_139 : decode cX7_classOfRows 139 = .ok (.aload_n 0, 1) := by decide +kernel
theorem dX7_classOfRows_140 : decode cX7_classOfRows 140 = .ok (.getfield 80, 3) := by decide +kernel
theorem dX7_classOfRows_143 : decode cX7_classOfRows 143 = .ok (.iload 7, 2) := by decide +kernel
theorem dX7_classOfRows_145 : decode cX7_classOfRows 145 = .ok (.iaload, 1) := by decide +kernel
theorem dX7_classOfRows_146 : decode cX7_classOfRows 146 = .ok (.ireturn, 1) := by decide +kernel
theorem bX7_classOfRows_0 {l : Launch} {D : va_G} {aI aL : ClassId} {ad : Nat → Nat} {P : sa_P} {I : sa_I} {J : sa_J}    (k : Sat (ER l D aI aL ad) M_X7_classOfRows P 1 [(0, .ref (ad 0))] [.ref (ad 0)] I J) : Sat (ER l D aI aL ad) M_X7_classOfRows P 0 [(0, .ref (ad 0))] [] I J := by
  refine s_aload_n 0 dX7_classOfRows_0 rfl ?_
  exact k
theorem bX7_classOfRows_4 {l : Launch} {D : va_G} {aI aL : ClassId} {ad : Nat → Nat} {P : sa_P} {I : sa_I} {J : sa_J} {v10 : Int64} {v19 : Int64} (z18 : ¬ v10 = 0) (z30 : ¬ v10 = 0) (f10 : J 15 4 = v10) (f19 : (J 15 0) / v10 = v19) (k : Sat (ER l D aI aL ad) M_X7_classOfRows P 33 [(0, .ref (ad 0)), (3, .long v19)] [.ref (ad 0), .long ((2 : Int64) * ((J 15 3) / v10))] I J) : Sat (ER l D aI aL ad) M_X7_classOfRows P 4 [(0, .ref (ad 0))] [] I J := by
  refine s_aload_n 0 dX7_classOfRows_4 rfl ?_
  refine g_X7_53 dX7_classOfRows_5 rfl ?_
  refine s_iconst (v := 4) dX7_classOfRows_8 rfl ?_
  refine s_eqi (y := nI 4) rfl ?_
  refine s_laloadN aJ_R15 (by decide) (by decide) dX7_classOfRows_9 ?_
  refine s_eql f10 ?_
  refine s_lstore_n [(1, .long v10), (0, .ref (ad 0))] dX7_classOfRows_10 (Nat.lt_of_lt_of_le (Nat.lt_succ_self _) (Nat.le_of_ble_eq_true rfl)) rfl ?_
  refine s_aload_n 1 dX7_classOfRows_11 rfl ?_
  refine g_X7_53 dX7_classOfRows_12 rfl ?_
  refine s_iconst (v := 0) dX7_classOfRows_15 rfl ?_
  refine s_eqi (y := nI 0) rfl ?_
  refine s_laloadN aJ_R15 (by decide) (by decide) dX7_classOfRows_16 ?_
  refine s_lload_n 0 dX7_classOfRows_17 rfl ?_
  refine s_ldiv dX7_classOfRows_18 z18 ?_
  refine s_eql f19 ?_
  refine s_lstore_n [(3, .long v19), (1, .long v10), (0, .ref (ad 0))] dX7_classOfRows_19 (Nat.lt_of_lt_of_le (Nat.lt_succ_self _) (Nat.le_of_ble_eq_true rfl)) rfl ?_
  refine s_ldc2 wk_X7_355 dX7_classOfRows_20 ?_
  refine s_aload_n 2 dX7_classOfRows_23 rfl ?_
  refine g_X7_53 dX7_classOfRows_24 rfl ?_
  refine s_iconst (v := 3) dX7_classOfRows_27 rfl ?_
  refine s_eqi (y := nI 3) rfl ?_
  refine s_laloadN aJ_R15 (by decide) (by decide) dX7_classOfRows_28 ?_
  refine s_lload_n 1 dX7_classOfRows_29 rfl ?_
  refine s_ldiv dX7_classOfRows_30 z30 ?_
  refine s_lmul dX7_classOfRows_31 ?_
  refine s_aload_n 2 dX7_classOfRows_32 rfl ?_
  refine s_pick [2, 0] [(0, .ref (ad 0)), (3, .long v19)] rfl ?_; exact k
theorem bX7_classOfRows_36 {l : Launch} {D : va_G} {aI aL : ClassId} {ad : Nat → Nat} {P : sa_P} {I : sa_I} {J : sa_J} {x3 : Int64} {s0 : Int64} {s1 : Int64} {v37 : Int64}  (f37 : s0 + s1 = v37) (kt : (0 : Int64) ≤ J 0 10 → Sat (ER l D aI aL ad) M_X7_classOfRows P 56 [(0, .ref (ad 0)), (3, .long x3), (5, .long v37)] [] I J) (kf : ¬ (0 : Int64) ≤ J 0 10 → Sat (ER l D aI aL ad) M_X7_classOfRows P 48 [(0, .ref (ad 0)), (3, .long x3), (5, .long v37)] [] I J) : Sat (ER l D aI aL ad) M_X7_classOfRows P 36 [(0, .ref (ad 0)), (3, .long x3)] [.long s1, .long s0] I J := by
  refine s_ladd dX7_classOfRows_36 ?_
  refine s_eql f37 ?_
  refine s_lstore [(5, .long v37), (0, .ref (ad 0)), (3, .long x3)] dX7_classOfRows_37 (Nat.lt_of_lt_of_le (Nat.lt_succ_self _) (Nat.le_of_ble_eq_true rfl)) rfl ?_
  refine s_aload_n 1 dX7_classOfRows_39 rfl ?_
  refine g_X7_157 dX7_classOfRows_40 rfl ?_
  refine s_lconst (v := 0) dX7_classOfRows_43 rfl ?_
  refine s_lif_ge (tgt := 56) dX7_classOfRows_44 dX7_classOfRows_45 (by decide) (fun c => ?_) (fun c => ?_)
  · refine s_pick [1, 2, 0] [(0, .ref (ad 0)), (3, .long x3), (5, .long v37)] rfl ?_; exact kt c
  · refine s_pick [1, 2, 0] [(0, .ref (ad 0)), (3, .long x3), (5, .long v37)] rfl ?_; exact kf c
theorem bX7_classOfRows_48 {l : Launch} {D : va_G} {aI aL : ClassId} {ad : Nat → Nat} {P : sa_P} {I : sa_I} {J : sa_J} {x3 : Int64} {x5 : Int64}   (k : Sat (ER l D aI aL ad) M_X7_classOfRows P 52 [] [.long x5, .long x3, .ref (ad 0)] I J) : Sat (ER l D aI aL ad) M_X7_classOfRows P 48 [(0, .ref (ad 0)), (3, .long x3), (5, .long x5)] [] I J := by
  refine s_aload_n 0 dX7_classOfRows_48 rfl ?_
  refine s_lload_n 1 dX7_classOfRows_49 rfl ?_
  refine s_lload 2 dX7_classOfRows_50 rfl ?_
  refine s_pick [] [] rfl ?_; exact k
theorem bX7_classOfRows_55 {l : Launch} {D : va_G} {aI aL : ClassId} {ad : Nat → Nat} {P : sa_P} {I : sa_I} {J : sa_J} {s0 : Int32}   (k : P (some (.int s0)) I J) : Sat (ER l D aI aL ad) M_X7_classOfRows P 55 [] [.int s0] I J := by
  exact s_iret rfl dX7_classOfRows_55 k
theorem bX7_classOfRows_56 {l : Launch} {D : va_G} {aI aL : ClassId} {ad : Nat → Nat} {P : sa_P} {I : sa_I} {J : sa_J} {x3 : Int64} {x5 : Int64} {v84 : Int64} (z83 : ¬ (4 : Int64) * x3 = 0) (f84 : ((x5 * x5) - ((sa_uJ (sa_uJ J 0 42 x3) 0 43 x5) 0 10)) / ((4 : Int64) * x3) = v84) (k : Sat (ER l D aI aL ad) M_X7_classOfRows P 96 [(0, .ref (ad 0))] [.long ((sa_uJ (sa_uJ (sa_uJ J 0 42 x3) 0 43 x5) 0 44 v84) 0 43), .long ((sa_uJ (sa_uJ (sa_uJ J 0 42 x3) 0 43 x5) 0 44 v84) 0 42), .ref (ad 0)] I (sa_uJ (sa_uJ (sa_uJ J 0 42 x3) 0 43 x5) 0 44 v84)) : Sat (ER l D aI aL ad) M_X7_classOfRows P 56 [(0, .ref (ad 0)), (3, .long x3), (5, .long x5)] [] I J := by
  refine s_aload_n 0 dX7_classOfRows_56 rfl ?_
  refine s_lload_n 1 dX7_classOfRows_57 rfl ?_
  refine p_X7_345 dX7_classOfRows_58 rfl ?_
  refine s_aload_n 0 dX7_classOfRows_61 rfl ?_
  refine s_lload 2 dX7_classOfRows_62 rfl ?_
  refine p_X7_348 dX7_classOfRows_64 rfl ?_
  refine s_aload_n 0 dX7_classOfRows_67 rfl ?_
  refine s_lload 2 dX7_classOfRows_68 rfl ?_
  refine s_lload 2 dX7_classOfRows_70 rfl ?_
  refine s_lmul dX7_classOfRows_72 ?_
  refine s_aload_n 0 dX7_classOfRows_73 rfl ?_
  refine g_X7_157 dX7_classOfRows_74 rfl ?_
  refine s_lsub dX7_classOfRows_77 ?_
  refine s_ldc2 wk_X7_96 dX7_classOfRows_78 ?_
  refine s_lload_n 1 dX7_classOfRows_81 rfl ?_
  refine s_lmul dX7_classOfRows_82 ?_
  refine s_ldiv dX7_classOfRows_83 z83 ?_
  refine s_eql f84 ?_
  refine p_X7_357 dX7_classOfRows_84 rfl ?_
  refine s_aload_n 0 dX7_classOfRows_87 rfl ?_
  refine s_aload_n 0 dX7_classOfRows_88 rfl ?_
  refine g_X7_345 dX7_classOfRows_89 rfl ?_
  refine s_aload_n 0 dX7_classOfRows_92 rfl ?_
  refine g_X7_348 dX7_classOfRows_93 rfl ?_
  refine s_pick [0] [(0, .ref (ad 0))] rfl ?_; exact k
theorem bX7_classOfRows_99 {l : Launch} {D : va_G} {aI aL : ClassId} {ad : Nat → Nat} {P : sa_P} {I : sa_I} {J : sa_J} {s0 : Int32}   (k : Sat (ER l D aI aL ad) M_X7_classOfRows P 101 [(0, .ref (ad 0)), (7, .int s0)] [] I J) : Sat (ER l D aI aL ad) M_X7_classOfRows P 99 [(0, .ref (ad 0))] [.int s0] I J := by
  refine s_istore [(7, .int s0), (0, .ref (ad 0))] dX7_classOfRows_99 (Nat.lt_of_lt_of_le (Nat.lt_succ_self _) (Nat.le_of_ble_eq_true rfl)) rfl ?_
  refine s_pick [1, 0] [(0, .ref (ad 0)), (7, .int s0)] rfl ?_; exact k
theorem bX7_classOfRows_101 {l : Launch} {D : va_G} {aI aL : ClassId} {ad : Nat → Nat} {P : sa_P} {I : sa_I} {J : sa_J} {x7 : Int32}   (kt : 0 ≤ x7 → Sat (ER l D aI aL ad) M_X7_classOfRows P 139 [(0, .ref (ad 0)), (7, .int x7)] [] I J) (kf : ¬ 0 ≤ x7 → Sat (ER l D aI aL ad) M_X7_classOfRows P 106 [(0, .ref (ad 0))] [] I J) : Sat (ER l D aI aL ad) M_X7_classOfRows P 101 [(0, .ref (ad 0)), (7, .int x7)] [] I J := by
  refine s_iload 1 dX7_classOfRows_101 rfl ?_
  refine s_if_ge (tgt := 139) dX7_classOfRows_103 (by decide) (fun c => ?_) (fun c => ?_)
  · exact kt c
  · refine s_pick [0] [(0, .ref (ad 0))] rfl ?_; exact kf c
theorem bX7_classOfRows_106 {l : Launch} {D : va_G} {aI aL : ClassId} {ad : Nat → Nat} {P : sa_P} {I : sa_I} {J : sa_J}    (k : Sat (ER l D aI aL ad) M_X7_classOfRows P 119 [(0, .ref (ad 0))] [.long (J 0 44), .long (J 0 43), .long (J 0 42), .ref (ad 0)] I J) : Sat (ER l D aI aL ad) M_X7_classOfRows P 106 [(0, .ref (ad 0))] [] I J := by
  refine s_aload_n 0 dX7_classOfRows_106 rfl ?_
  refine s_aload_n 0 dX7_classOfRows_107 rfl ?_
  refine g_X7_345 dX7_classOfRows_108 rfl ?_
  refine s_aload_n 0 dX7_classOfRows_111 rfl ?_
  refine g_X7_348 dX7_classOfRows_112 rfl ?_
  refine s_aload_n 0 dX7_classOfRows_115 rfl ?_
  refine g_X7_357 dX7_classOfRows_116 rfl ?_
  exact k
theorem bX7_classOfRows_122 {l : Launch} {D : va_G} {aI aL : ClassId} {ad : Nat → Nat} {P : sa_P} {I : sa_I} {J : sa_J}    (k : Sat (ER l D aI aL ad) M_X7_classOfRows P 131 [(0, .ref (ad 0))] [.long (J 0 43), .long (J 0 42), .ref (ad 0)] I J) : Sat (ER l D aI aL ad) M_X7_classOfRows P 122 [(0, .ref (ad 0))] [] I J := by
  refine s_aload_n 0 dX7_classOfRows_122 rfl ?_
  refine s_aload_n 0 dX7_classOfRows_123 rfl ?_
  refine g_X7_345 dX7_classOfRows_124 rfl ?_
  refine s_aload_n 0 dX7_classOfRows_127 rfl ?_
  refine g_X7_348 dX7_classOfRows_128 rfl ?_
  exact k
theorem bX7_classOfRows_134 {l : Launch} {D : va_G} {aI aL : ClassId} {ad : Nat → Nat} {P : sa_P} {I : sa_I} {J : sa_J} {s0 : Int32}   (k : Sat (ER l D aI aL ad) M_X7_classOfRows P 101 [(0, .ref (ad 0)), (7, .int s0)] [] I J) : Sat (ER l D aI aL ad) M_X7_classOfRows P 134 [(0, .ref (ad 0))] [.int s0] I J := by
  refine s_istore [(7, .int s0), (0, .ref (ad 0))] dX7_classOfRows_134 (Nat.lt_of_lt_of_le (Nat.lt_succ_self _) (Nat.le_of_ble_eq_true rfl)) rfl ?_
  refine s_goto (tgt := 101) dX7_classOfRows_136 (by decide) ?_
  refine s_pick [1, 0] [(0, .ref (ad 0)), (7, .int s0)] rfl ?_; exact k
theorem bX7_classOfRows_139 {l : Launch} {D : va_G} {aI aL : ClassId} {ad : Nat → Nat} {P : sa_P} {I : sa_I} {J : sa_J} {x7 : Int32} {j143 : Nat} (e143 : x7 = nI j143) (h145 : j143 < 3000)  (k : P (some (.int (I 24 j143))) I J) : Sat (ER l D aI aL ad) M_X7_classOfRows P 139 [(0, .ref (ad 0)), (7, .int x7)] [] I J := by
  refine s_aload_n 0 dX7_classOfRows_139 rfl ?_
  refine g_X7_80 dX7_classOfRows_140 rfl ?_
  refine s_iload 1 dX7_classOfRows_143 rfl ?_
  refine s_eqi e143 ?_
  refine s_ialoadN aI_R24 h145 (by decide) dX7_classOfRows_145 ?_
  exact s_iret rfl dX7_classOfRows_146 k
/-! X7_traceOfBase -/
theorem dX7_traceOfBase_0 : decode cX7_traceOfBase 0 = .ok (.aload_n 0, 1) := by decide +kernel
theorem dX7_traceOfBase_1 : decode cX7_traceOfBase 1 = .ok (.getfield 13, 3) := by decide +kernel
theorem dX7_traceOfBase_4 : decode cX7_traceOfBase 4 = .ok (.bipush 13, 2) := by decide +kernel
theorem dX7_traceOfBase_6 : decode cX7_traceOfBase 6 = .ok (.laload, 1) := by decide +kernel
theorem dX7_traceOfBase_7 : decode cX7_traceOfBase 7 = .ok (.lreturn, 1) := by decide +kernel
theorem bX7_traceOfBase_0 {l : Launch} {D : va_G} {aI aL : ClassId} {ad : Nat → Nat} {P : sa_P} {I : sa_I} {J : sa_J}    (k : P (some (.long (J 2 13))) I J) : Sat (ER l D aI aL ad) M_X7_traceOfBase P 0 [(0, .ref (ad 0))] [] I J := by
  refine s_aload_n 0 dX7_traceOfBase_0 rfl ?_
  refine g_X7_13 dX7_traceOfBase_1 rfl ?_
  refine s_bipush (v := 13) dX7_traceOfBase_4 rfl ?_
  refine s_eqi (y := nI 13) rfl ?_
  refine s_laloadN aJ_R2 (by decide) (by decide) dX7_traceOfBase_6 ?_
  exact s_lret rfl dX7_traceOfBase_7 k
/-! X7_reduced -/
theorem dX7_reduced_0 : decode cX7_reduced 0 = .ok (.lload_n 1, 1) := by decide +kernel
theorem dX7_reduced_1 : decode cX7_reduced 1 = .ok (.lstore 5, 2) := by decide +kernel
theorem dX7_reduced_3 : decode cX7_reduced 3 = .ok (.lload_n 3, 1) := by decide +kernel
theorem dX7_reduced_4 : decode cX7_reduced 4 = .ok (.lstore 7, 2) := by decide +kernel
theorem dX7_reduced_6 : decode cX7_reduced 6 = .ok (.iconst 1, 1) := by decide +kernel
theorem dX7_reduced_7 : decode cX7_reduced 7 = .ok (.istore 9, 2) := by decide +kernel
theorem dX7_reduced_9 : decode cX7_reduced 9 = .ok (.iload 9, 2) := by decide +kernel
theorem dX7_reduced_11 : decode cX7_reduced 11 = .ok (.ifCond .eq 114, 3) := by decide +kernel
theorem dX7_reduced_14 : decode cX7_reduced 14 = .ok (.lload 7, 2) := by decide +kernel
theorem dX7_reduced_16 : decode cX7_reduced 16 = .ok (.ldc2_w 355, 3) := by decide +kernel
theorem dX7_reduced_19 : decode cX7_reduced 19 = .ok (.lload 5, 2) := by decide +kernel
theorem dX7_reduced_21 : decode cX7_reduced 21 = .ok (.lmul, 1) := by decide +kernel
theorem dX7_reduced_22 : decode cX7_reduced 22 = .ok (.invokestatic 155, 3) := by decide +kernel
theorem dX7_reduced_25 : decode cX7_reduced 25 = .ok (.lstore 7, 2) := by decide +kernel
theorem dX7_reduced_27 : decode cX7_reduced 27 = .ok (.lload 7, 2) := by decide +kernel
theorem dX7_reduced_29 : decode cX7_reduced 29 = .ok (.lload 5, 2) := by decide +kernel
theorem dX7_reduced_31 : decode cX7_reduced 31 = .ok (.lcmp, 1) := by decide +kernel
theorem dX7_reduced_32 : decode cX7_reduced 32 = .ok (.ifCond .le 15, 3) := by decide +kernel
theorem dX7_reduced_35 : decode cX7_reduced 35 = .ok (.lload 7, 2) := by decide +kernel
theorem dX7_reduced_37 : decode cX7_reduced 37 = .ok (.ldc2_w 355, 3) := by decide +kernel
theorem dX7_reduced_40 : decode cX7_reduced 40 = .ok (.lload 5, 2) := by decide +kernel
theorem dX7_reduced_42 : decode cX7_reduced 42 = .ok (.lmul, 1) := by decide +kernel
theorem dX7_reduced_43 : decode cX7_reduced 43 = .ok (.lsub, 1) := by decide +kernel
theorem dX7_reduced_44 : decode cX7_reduced 44 = .ok (.goto 5, 3) := by decide +kernel
theorem dX7_reduced_47 : decode cX7_reduced 47 = .ok (.lload 7, 2) := by decide +kernel
theorem dX7_reduced_49 : decode cX7_reduced 49 = .ok (.lstore 7, 2) := by decide +kernel
theorem dX7_reduced_51 : decode cX7_reduced 51 = .ok (.lload 7, 2) := by decide +kernel
theorem dX7_reduced_53 : decode cX7_reduced 53 = .ok (.lload 7, 2) := by decide +kernel
theorem dX7_reduced_55 : decode cX7_reduced 55 = .ok (.lmul, 1) := by decide +kernel
theorem dX7_reduced_56 : decode cX7_reduced 56 = .ok (.aload_n 0, 1) := by decide +kernel
theorem dX7_reduced_57 : decode cX7_reduced 57 = .ok (.getfield 157, 3) := by decide +kernel
theorem dX7_reduced_60 : decode cX7_reduced 60 = .ok (.lsub, 1) := by decide +kernel
theorem dX7_reduced_61 : decode cX7_reduced 61 = .ok (.ldc2_w 96, 3) := by decide +kernel
theorem dX7_reduced_64 : decode cX7_reduced 64 = .ok (.lload 5, 2) := by decide +kernel
theorem dX7_reduced_66 : decode cX7_reduced 66 = .ok (.lmul, 1) := by decide +kernel
theorem dX7_reduced_67 : decode cX7_reduced 67 = .ok (.ldiv, 1) := by decide +kernel
theorem dX7_reduced_68 : decode cX7_reduced 68 = .ok (.lstore 10, 2) := by decide +kernel
theorem dX7_reduced_70 : decode cX7_reduced 70 = .ok (.lload 5, 2) := by decide +kernel
theorem dX7_reduced_72 : decode cX7_reduced 72 = .ok (.lload 10, 2) := by decide +kernel
theorem dX7_reduced_74 : decode cX7_reduced 74 = .ok (.lcmp, 1) := by decide +kernel
theorem dX7_reduced_75 : decode cX7_reduced 75 = .ok (.ifCond .le 7, 3) := by decide +kernel
theorem dX7_reduced_78 : decode cX7_reduced 78 = .ok (.iconst 1, 1) := by decide +kernel
theorem dX7_reduced_79 : decode cX7_reduced 79 = .ok (.goto 4, 3) := by decide +kernel
theorem dX7_reduced_82 : decode cX7_reduced 82 = .ok (.iconst 0, 1) := by decide +kernel
theorem dX7_reduced_83 : decode cX7_reduced 83 = .ok (.istore 9, 2) := by decide +kernel
theorem dX7_reduced_85 : decode cX7_reduced 85 = .ok (.iload 9, 2) := by decide +kernel
theorem dX7_reduced_87 : decode cX7_reduced 87 = .ok (.ifCond .eq 15, 3) := by decide +kernel
theorem dX7_reduced_90 : decode cX7_reduced 90 = .ok (.lload 10, 2) := by decide +kernel
theorem dX7_reduced_92 : decode cX7_reduced 92 = .ok (.lstore 5, 2) := by decide +kernel
theorem dX7_reduced_94 : decode cX7_reduced 94 = .ok (.lload 7, 2) := by decide +kernel
theorem dX7_reduced_96 : decode cX7_reduced 96 = .ok (.lneg, 1) := by decide +kernel
theorem dX7_reduced_97 : decode cX7_reduced 97 = .ok (.lstore 7, 2) := by decide +kernel
theorem dX7_reduced_99 : decode cX7_reduced 99 = .ok (.goto 23, 3) := by decide +kernel
theorem dX7_reduced_102 : decode cX7_reduced 102 = .ok (.lload 5, 2) := by decide +kernel
theorem dX7_reduced_104 : decode cX7_reduced 104 = .ok (.lload 10, 2) := by decide +kernel
theorem dX7_reduced_106 : decode cX7_reduced 106 = .ok (.lcmp, 1) := by decide +kernel
theorem dX7_reduced_107 : decode cX7_reduced 107 = .ok (.ifCond .ne 15, 3) := by decide +kernel
theorem dX7_reduced_110 : decode cX7_reduced 110 = .ok (.lload 7, 2) := by decide +kernel
theorem dX7_reduced_112 : decode cX7_reduced 112 = .ok (.lconst 0, 1) := by decide +kernel
theorem dX7_reduced_113 : decode cX7_reduced 113 = .ok (.lcmp, 1) := by decide +kernel
theorem dX7_reduced_114 : decode cX7_reduced 114 = .ok (.ifCond .ge 8, 3) := by decide +kernel
theorem dX7_reduced_117 : decode cX7_reduced 117 = .ok (.lload 7, 2) := by decide +kernel
theorem dX7_reduced_119 : decode cX7_reduced 119 = .ok (.lneg, 1) := by decide +kernel
theorem dX7_reduced_120 : decode cX7_reduced 120 = .ok (.lstore 7, 2) := by decide +kernel
theorem dX7_reduced_122 : decode cX7_reduced 122 = .ok (.goto (-113), 3) := by decide +kernel
theorem dX7_reduced_125 : decode cX7_reduced 125 = .ok (.aload_n 0, 1) := by decide +kernel
theorem dX7_reduced_126 : decode cX7_reduced 126 = .ok (.lload 5, 2) := by decide +kernel
theorem dX7_reduced_128 : decode cX7_reduced 128 = .ok (.lload 7, 2) := by decide +kernel
theorem dX7_reduced_130 : decode cX7_reduced 130 = .ok (.invokevirtual 351, 3) := by decide +kernel
theorem dX7_reduced_133 : decode cX7_reduced 133 = .ok (.ireturn, 1) := by decide +kernel
theorem bX7_reduced_0 {l : Launch} {D : va_G} {aI aL : ClassId} {ad : Nat → Nat} {P : sa_P} {I : sa_I} {J : sa_J} {x1 : Int64} {x3 : Int64} {v7 : Int32}  (f7 : (1 : Int32) = v7) (k : Sat (ER l D aI aL ad) M_X7_reduced P 9 [(0, .ref (ad 0)), (5, .long x1), (7, .long x3), (9, .int v7)] [] I J) : Sat (ER l D aI aL ad) M_X7_reduced P 0 [(0, .ref (ad 0)), (1, .long x1), (3, .long x3)] [] I J := by
  refine s_lload_n 1 dX7_reduced_0 rfl ?_
  refine s_lstore [(5, .long x1), (0, .ref (ad 0)), (1, .long x1), (3, .long x3)] dX7_reduced_1 (Nat.lt_of_lt_of_le (Nat.lt_succ_self _) (Nat.le_of_ble_eq_true rfl)) rfl ?_
  refine s_lload_n 3 dX7_reduced_3 rfl ?_
  refine s_lstore [(7, .long x3), (5, .long x1), (0, .ref (ad 0)), (1, .long x1), (3, .long x3)] dX7_reduced_4 (Nat.lt_of_lt_of_le (Nat.lt_succ_self _) (Nat.le_of_ble_eq_true rfl)) rfl ?_
  refine s_iconst (v := 1) dX7_reduced_6 rfl ?_
  refine s_eqi f7 ?_
  refine s_istore [(9, .int v7), (7, .long x3), (5, .long x1), (0, .ref (ad 0)), (1, .long x1), (3, .long x3)] dX7_reduced_7 (Nat.lt_of_lt_of_le (Nat.lt_succ_self _) (Nat.le_of_ble_eq_true rfl)) rfl ?_
  refine s_pick [3, 2, 1, 0] [(0, .ref (ad 0)), (5, .long x1), (7, .long x3), (9, .int v7)] rfl ?_; exact k
theorem bX7_reduced_9 {l : Launch} {D : va_G} {aI aL : ClassId} {ad : Nat → Nat} {P : sa_P} {I : sa_I} {J : sa_J} {x5 : Int64} {x7 : Int64} {x9 : Int32}   (kt : x9 = 0 → Sat (ER l D aI aL ad) M_X7_reduced P 125 [(0, .ref (ad 0)), (5, .long x5), (7, .long x7)] [] I J) (kf : ¬ x9 = 0 → Sat (ER l D aI aL ad) M_X7_reduced P 14 [(0, .ref (ad 0)), (5, .long x5), (7, .long x7)] [] I J) : Sat (ER l D aI aL ad) M_X7_reduced P 9 [(0, .ref (ad 0)), (5, .long x5), (7, .long x7), (9, .int x9)] [] I J := by
  refine s_iload 3 dX7_reduced_9 rfl ?_
  refine s_if_eq (tgt := 125) dX7_reduced_11 (by decide) (fun c => ?_) (fun c => ?_)
  · refine s_pick [0, 1, 2] [(0, .ref (ad 0)), (5, .long x5), (7, .long x7)] rfl ?_; exact kt c
  · refine s_pick [0, 1, 2] [(0, .ref (ad 0)), (5, .long x5), (7, .long x7)] rfl ?_; exact kf c
theorem bX7_reduced_14 {l : Launch} {D : va_G} {aI aL : ClassId} {ad : Nat → Nat} {P : sa_P} {I : sa_I} {J : sa_J} {x5 : Int64} {x7 : Int64}   (k : Sat (ER l D aI aL ad) M_X7_reduced P 22 [(0, .ref (ad 0)), (5, .long x5)] [.long ((2 : Int64) * x5), .long x7] I J) : Sat (ER l D aI aL ad) M_X7_reduced P 14 [(0, .ref (ad 0)), (5, .long x5), (7, .long x7)] [] I J := by
  refine s_lload 2 dX7_reduced_14 rfl ?_
  refine s_ldc2 wk_X7_355 dX7_reduced_16 ?_
  refine s_lload 1 dX7_reduced_19 rfl ?_
  refine s_lmul dX7_reduced_21 ?_
  refine s_pick [0, 1] [(0, .ref (ad 0)), (5, .long x5)] rfl ?_; exact k
theorem bX7_reduced_25 {l : Launch} {D : va_G} {aI aL : ClassId} {ad : Nat → Nat} {P : sa_P} {I : sa_I} {J : sa_J} {x5 : Int64} {s0 : Int64}   (kt : s0 ≤ x5 → Sat (ER l D aI aL ad) M_X7_reduced P 47 [(0, .ref (ad 0)), (5, .long x5), (7, .long s0)] [] I J) (kf : ¬ s0 ≤ x5 → Sat (ER l D aI aL ad) M_X7_reduced P 35 [(0, .ref (ad 0)), (5, .long x5), (7, .long s0)] [] I J) : Sat (ER l D aI aL ad) M_X7_reduced P 25 [(0, .ref (ad 0)), (5, .long x5)] [.long s0] I J := by
  refine s_lstore [(7, .long s0), (0, .ref (ad 0)), (5, .long x5)] dX7_reduced_25 (Nat.lt_of_lt_of_le (Nat.lt_succ_self _) (Nat.le_of_ble_eq_true rfl)) rfl ?_
  refine s_lload 0 dX7_reduced_27 rfl ?_
  refine s_lload 2 dX7_reduced_29 rfl ?_
  refine s_lif_le (tgt := 47) dX7_reduced_31 dX7_reduced_32 (by decide) (fun c => ?_) (fun c => ?_)
  · refine s_pick [1, 2, 0] [(0, .ref (ad 0)), (5, .long x5), (7, .long s0)] rfl ?_; exact kt c
  · refine s_pick [1, 2, 0] [(0, .ref (ad 0)), (5, .long x5), (7, .long s0)] rfl ?_; exact kf c
theorem bX7_reduced_35 {l : Launch} {D : va_G} {aI aL : ClassId} {ad : Nat → Nat} {P : sa_P} {I : sa_I} {J : sa_J} {x5 : Int64} {x7 : Int64}   (k : Sat (ER l D aI aL ad) M_X7_reduced P 49 [(0, .ref (ad 0)), (5, .long x5)] [.long (x7 - ((2 : Int64) * x5))] I J) : Sat (ER l D aI aL ad) M_X7_reduced P 35 [(0, .ref (ad 0)), (5, .long x5), (7, .long x7)] [] I J := by
  refine s_lload 2 dX7_reduced_35 rfl ?_
  refine s_ldc2 wk_X7_355 dX7_reduced_37 ?_
  refine s_lload 1 dX7_reduced_40 rfl ?_
  refine s_lmul dX7_reduced_42 ?_
  refine s_lsub dX7_reduced_43 ?_
  refine s_goto (tgt := 49) dX7_reduced_44 (by decide) ?_
  refine s_pick [0, 1] [(0, .ref (ad 0)), (5, .long x5)] rfl ?_; exact k
theorem bX7_reduced_47 {l : Launch} {D : va_G} {aI aL : ClassId} {ad : Nat → Nat} {P : sa_P} {I : sa_I} {J : sa_J} {x5 : Int64} {x7 : Int64}   (k : Sat (ER l D aI aL ad) M_X7_reduced P 49 [(0, .ref (ad 0)), (5, .long x5)] [.long x7] I J) : Sat (ER l D aI aL ad) M_X7_reduced P 47 [(0, .ref (ad 0)), (5, .long x5), (7, .long x7)] [] I J := by
  refine s_lload 2 dX7_reduced_47 rfl ?_
  refine s_pick [0, 1] [(0, .ref (ad 0)), (5, .long x5)] rfl ?_; exact k
theorem bX7_reduced_49 {l : Launch} {D : va_G} {aI aL : ClassId} {ad : Nat → Nat} {P : sa_P} {I : sa_I} {J : sa_J} {x5 : Int64} {s0 : Int64} {v68 : Int64} (z67 : ¬ (4 : Int64) * x5 = 0) (f68 : ((s0 * s0) - (J 0 10)) / ((4 : Int64) * x5) = v68) (kt : x5 ≤ v68 → Sat (ER l D aI aL ad) M_X7_reduced P 82 [(0, .ref (ad 0)), (5, .long x5), (7, .long s0), (10, .long v68)] [] I J) (kf : ¬ x5 ≤ v68 → Sat (ER l D aI aL ad) M_X7_reduced P 78 [(0, .ref (ad 0)), (5, .long x5), (7, .long s0), (10, .long v68)] [] I J) : Sat (ER l D aI aL ad) M_X7_reduced P 49 [(0, .ref (ad 0)), (5, .long x5)] [.long s0] I J := by
  refine s_lstore [(7, .long s0), (0, .ref (ad 0)), (5, .long x5)] dX7_reduced_49 (Nat.lt_of_lt_of_le (Nat.lt_succ_self _) (Nat.le_of_ble_eq_true rfl)) rfl ?_
  refine s_lload 0 dX7_reduced_51 rfl ?_
  refine s_lload 0 dX7_reduced_53 rfl ?_
  refine s_lmul dX7_reduced_55 ?_
  refine s_aload_n 1 dX7_reduced_56 rfl ?_
  refine g_X7_157 dX7_reduced_57 rfl ?_
  refine s_lsub dX7_reduced_60 ?_
  refine s_ldc2 wk_X7_96 dX7_reduced_61 ?_
  refine s_lload 2 dX7_reduced_64 rfl ?_
  refine s_lmul dX7_reduced_66 ?_
  refine s_ldiv dX7_reduced_67 z67 ?_
  refine s_eql f68 ?_
  refine s_lstore [(10, .long v68), (7, .long s0), (0, .ref (ad 0)), (5, .long x5)] dX7_reduced_68 (Nat.lt_of_lt_of_le (Nat.lt_succ_self _) (Nat.le_of_ble_eq_true rfl)) rfl ?_
  refine s_lload 3 dX7_reduced_70 rfl ?_
  refine s_lload 0 dX7_reduced_72 rfl ?_
  refine s_lif_le (tgt := 82) dX7_reduced_74 dX7_reduced_75 (by decide) (fun c => ?_) (fun c => ?_)
  · refine s_pick [2, 3, 1, 0] [(0, .ref (ad 0)), (5, .long x5), (7, .long s0), (10, .long v68)] rfl ?_; exact kt c
  · refine s_pick [2, 3, 1, 0] [(0, .ref (ad 0)), (5, .long x5), (7, .long s0), (10, .long v68)] rfl ?_; exact kf c
theorem bX7_reduced_78 {l : Launch} {D : va_G} {aI aL : ClassId} {ad : Nat → Nat} {P : sa_P} {I : sa_I} {J : sa_J} {x5 : Int64} {x7 : Int64} {x10 : Int64}   (k : Sat (ER l D aI aL ad) M_X7_reduced P 83 [(0, .ref (ad 0)), (5, .long x5), (7, .long x7), (10, .long x10)] [.int (1 : Int32)] I J) : Sat (ER l D aI aL ad) M_X7_reduced P 78 [(0, .ref (ad 0)), (5, .long x5), (7, .long x7), (10, .long x10)] [] I J := by
  refine s_iconst (v := 1) dX7_reduced_78 rfl ?_
  refine s_goto (tgt := 83) dX7_reduced_79 (by decide) ?_
  exact k
theorem bX7_reduced_82 {l : Launch} {D : va_G} {aI aL : ClassId} {ad : Nat → Nat} {P : sa_P} {I : sa_I} {J : sa_J} {x5 : Int64} {x7 : Int64} {x10 : Int64}   (k : Sat (ER l D aI aL ad) M_X7_reduced P 83 [(0, .ref (ad 0)), (5, .long x5), (7, .long x7), (10, .long x10)] [.int (0 : Int32)] I J) : Sat (ER l D aI aL ad) M_X7_reduced P 82 [(0, .ref (ad 0)), (5, .long x5), (7, .long x7), (10, .long x10)] [] I J := by
  refine s_iconst (v := 0) dX7_reduced_82 rfl ?_
  exact k
theorem bX7_reduced_83 {l : Launch} {D : va_G} {aI aL : ClassId} {ad : Nat → Nat} {P : sa_P} {I : sa_I} {J : sa_J} {x5 : Int64} {x7 : Int64} {x10 : Int64} {s0 : Int32}   (kt : s0 = 0 → Sat (ER l D aI aL ad) M_X7_reduced P 102 [(0, .ref (ad 0)), (5, .long x5), (7, .long x7), (9, .int s0), (10, .long x10)] [] I J) (kf : ¬ s0 = 0 → Sat (ER l D aI aL ad) M_X7_reduced P 90 [(0, .ref (ad 0)), (7, .long x7), (9, .int s0), (10, .long x10)] [] I J) : Sat (ER l D aI aL ad) M_X7_reduced P 83 [(0, .ref (ad 0)), (5, .long x5), (7, .long x7), (10, .long x10)] [.int s0] I J := by
  refine s_istore [(9, .int s0), (0, .ref (ad 0)), (5, .long x5), (7, .long x7), (10, .long x10)] dX7_reduced_83 (Nat.lt_of_lt_of_le (Nat.lt_succ_self _) (Nat.le_of_ble_eq_true rfl)) rfl ?_
  refine s_iload 0 dX7_reduced_85 rfl ?_
  refine s_if_eq (tgt := 102) dX7_reduced_87 (by decide) (fun c => ?_) (fun c => ?_)
  · refine s_pick [1, 2, 3, 0, 4] [(0, .ref (ad 0)), (5, .long x5), (7, .long x7), (9, .int s0), (10, .long x10)] rfl ?_; exact kt c
  · refine s_pick [1, 3, 0, 4] [(0, .ref (ad 0)), (7, .long x7), (9, .int s0), (10, .long x10)] rfl ?_; exact kf c
theorem bX7_reduced_90 {l : Launch} {D : va_G} {aI aL : ClassId} {ad : Nat → Nat} {P : sa_P} {I : sa_I} {J : sa_J} {x7 : Int64} {x9 : Int32} {x10 : Int64} {v97 : Int64}  (f97 : -x7 = v97) (k : Sat (ER l D aI aL ad) M_X7_reduced P 122 [(0, .ref (ad 0)), (5, .long x10), (7, .long v97), (9, .int x9)] [] I J) : Sat (ER l D aI aL ad) M_X7_reduced P 90 [(0, .ref (ad 0)), (7, .long x7), (9, .int x9), (10, .long x10)] [] I J := by
  refine s_lload 3 dX7_reduced_90 rfl ?_
  refine s_lstore [(5, .long x10), (0, .ref (ad 0)), (7, .long x7), (9, .int x9), (10, .long x10)] dX7_reduced_92 (Nat.lt_of_lt_of_le (Nat.lt_succ_self _) (Nat.le_of_ble_eq_true rfl)) rfl ?_
  refine s_lload 2 dX7_reduced_94 rfl ?_
  refine s_lneg dX7_reduced_96 ?_
  refine s_eql f97 ?_
  refine s_lstore [(7, .long v97), (5, .long x10), (0, .ref (ad 0)), (9, .int x9), (10, .long x10)] dX7_reduced_97 (Nat.lt_of_lt_of_le (Nat.lt_succ_self _) (Nat.le_of_ble_eq_true rfl)) rfl ?_
  refine s_goto (tgt := 122) dX7_reduced_99 (by decide) ?_
  refine s_pick [2, 1, 0, 3] [(0, .ref (ad 0)), (5, .long x10), (7, .long v97), (9, .int x9)] rfl ?_; exact k
theorem bX7_reduced_102 {l : Launch} {D : va_G} {aI aL : ClassId} {ad : Nat → Nat} {P : sa_P} {I : sa_I} {J : sa_J} {x5 : Int64} {x7 : Int64} {x9 : Int32} {x10 : Int64}   (kt : ¬ x5 = x10 → Sat (ER l D aI aL ad) M_X7_reduced P 122 [(0, .ref (ad 0)), (5, .long x5), (7, .long x7), (9, .int x9)] [] I J) (kf : x5 = x10 → Sat (ER l D aI aL ad) M_X7_reduced P 110 [(0, .ref (ad 0)), (5, .long x5), (7, .long x7), (9, .int x9)] [] I J) : Sat (ER l D aI aL ad) M_X7_reduced P 102 [(0, .ref (ad 0)), (5, .long x5), (7, .long x7), (9, .int x9), (10, .long x10)] [] I J := by
  refine s_lload 1 dX7_reduced_102 rfl ?_
  refine s_lload 4 dX7_reduced_104 rfl ?_
  refine s_lif_ne (tgt := 122) dX7_reduced_106 dX7_reduced_107 (by decide) (fun c => ?_) (fun c => ?_)
  · refine s_pick [0, 1, 2, 3] [(0, .ref (ad 0)), (5, .long x5), (7, .long x7), (9, .int x9)] rfl ?_; exact kt c
  · refine s_pick [0, 1, 2, 3] [(0, .ref (ad 0)), (5, .long x5), (7, .long x7), (9, .int x9)] rfl ?_; exact kf (by first | exact c | exact Classical.not_not.mp c)
theorem bX7_reduced_110 {l : Launch} {D : va_G} {aI aL : ClassId} {ad : Nat → Nat} {P : sa_P} {I : sa_I} {J : sa_J} {x5 : Int64} {x7 : Int64} {x9 : Int32}   (kt : (0 : Int64) ≤ x7 → Sat (ER l D aI aL ad) M_X7_reduced P 122 [(0, .ref (ad 0)), (5, .long x5), (7, .long x7), (9, .int x9)] [] I J) (kf : ¬ (0 : Int64) ≤ x7 → Sat (ER l D aI aL ad) M_X7_reduced P 117 [(0, .ref (ad 0)), (5, .long x5), (7, .long x7), (9, .int x9)] [] I J) : Sat (ER l D aI aL ad) M_X7_reduced P 110 [(0, .ref (ad 0)), (5, .long x5), (7, .long x7), (9, .int x9)] [] I J := by
  refine s_lload 2 dX7_reduced_110 rfl ?_
  refine s_lconst (v := 0) dX7_reduced_112 rfl ?_
  refine s_lif_ge (tgt := 122) dX7_reduced_113 dX7_reduced_114 (by decide) (fun c => ?_) (fun c => ?_)
  · exact kt c
  · exact kf c
theorem bX7_reduced_117 {l : Launch} {D : va_G} {aI aL : ClassId} {ad : Nat → Nat} {P : sa_P} {I : sa_I} {J : sa_J} {x5 : Int64} {x7 : Int64} {x9 : Int32} {v120 : Int64}  (f120 : -x7 = v120) (k : Sat (ER l D aI aL ad) M_X7_reduced P 122 [(0, .ref (ad 0)), (5, .long x5), (7, .long v120), (9, .int x9)] [] I J) : Sat (ER l D aI aL ad) M_X7_reduced P 117 [(0, .ref (ad 0)), (5, .long x5), (7, .long x7), (9, .int x9)] [] I J := by
  refine s_lload 2 dX7_reduced_117 rfl ?_
  refine s_lneg dX7_reduced_119 ?_
  refine s_eql f120 ?_
  refine s_lstore [(7, .long v120), (0, .ref (ad 0)), (5, .long x5), (9, .int x9)] dX7_reduced_120 (Nat.lt_of_lt_of_le (Nat.lt_succ_self _) (Nat.le_of_ble_eq_true rfl)) rfl ?_
  refine s_pick [1, 2, 0, 3] [(0, .ref (ad 0)), (5, .long x5), (7, .long v120), (9, .int x9)] rfl ?_; exact k
theorem bX7_reduced_122 {l : Launch} {D : va_G} {aI aL : ClassId} {ad : Nat → Nat} {P : sa_P} {I : sa_I} {J : sa_J} {x5 : Int64} {x7 : Int64} {x9 : Int32}   (k : Sat (ER l D aI aL ad) M_X7_reduced P 9 [(0, .ref (ad 0)), (5, .long x5), (7, .long x7), (9, .int x9)] [] I J) : Sat (ER l D aI aL ad) M_X7_reduced P 122 [(0, .ref (ad 0)), (5, .long x5), (7, .long x7), (9, .int x9)] [] I J := by
  refine s_goto (tgt := 9) dX7_reduced_122 (by decide) ?_
  exact k
theorem bX7_reduced_125 {l : Launch} {D : va_G} {aI aL : ClassId} {ad : Nat → Nat} {P : sa_P} {I : sa_I} {J : sa_J} {x5 : Int64} {x7 : Int64}   (k : Sat (ER l D aI aL ad) M_X7_reduced P 130 [] [.long x7, .long x5, .ref (ad 0)] I J) : Sat (ER l D aI aL ad) M_X7_reduced P 125 [(0, .ref (ad 0)), (5, .long x5), (7, .long x7)] [] I J := by
  refine s_aload_n 0 dX7_reduced_125 rfl ?_
  refine s_lload 1 dX7_reduced_126 rfl ?_
  refine s_lload 2 dX7_reduced_128 rfl ?_
  refine s_pick [] [] rfl ?_; exact k
theorem bX7_reduced_133 {l : Launch} {D : va_G} {aI aL : ClassId} {ad : Nat → Nat} {P : sa_P} {I : sa_I} {J : sa_J} {s0 : Int32}   (k : P (some (.int s0)) I J) : Sat (ER l D aI aL ad) M_X7_reduced P 133 [] [.int s0] I J := by
  exact s_iret rfl dX7_reduced_133 k
/-! X7_represents -/
theorem dX7_represents_0 : decode cX7_represents 0 = .ok (.iload_n 1, 1) := by decide +kernel
theorem dX7_represents_1 : decode cX7_represents 1 = .ok (.istore_n 2, 1) := by decide +kernel
theorem dX7_represents_2 : decode cX7_represents 2 = .ok (.aload_n 0, 1) := by decide +kernel
theorem dX7_represents_3 : decode cX7_represents 3 = .ok (.getfield 71, 3) := by decide +kernel
theorem dX7_represents_6 : decode cX7_represents 6 = .ok (.iload_n 2, 1) := by decide +kernel
theorem dX7_represents_7 : decode cX7_represents 7 = .ok (.iaload, 1) := by decide +kernel
theorem dX7_represents_8 : decode cX7_represents 8 = .ok (.ifCond .ge 44, 3) := by decide +kernel
theorem dX7_represents_11 : decode cX7_represents 11 = .ok (.aload_n 0, 1) := by decide +kernel
theorem dX7_represents_12 : decode cX7_represents 12 = .ok (.aload_n 0, 1) := by decide +kernel
theorem dX7_represents_13 : decode cX7_represents 13 = .ok (.getfield 71, 3) := by decide +kernel
theorem dX7_represents_16 : decode cX7_represents 16 = .ok (.iload_n 2, 1) := by decide +kernel
theorem dX7_represents_17 : decode cX7_represents 17 = .ok (.iaload, 1) := by decide +kernel
theorem dX7_represents_18 : decode cX7_represents 18 = .ok (.i2l, 1) := by decide +kernel
theorem dX7_represents_19 : decode cX7_represents 19 = .ok (.aload_n 0, 1) := by decide +kernel
theorem dX7_represents_20 : decode cX7_represents 20 = .ok (.getfield 74, 3) := by decide +kernel
theorem dX7_represents_23 : decode cX7_represents 23 = .ok (.iload_n 2, 1) := by decide +kernel
theorem dX7_represents_24 : decode cX7_represents 24 = .ok (.iaload, 1) := by decide +kernel
theorem dX7_represents_25 : decode cX7_represents 25 = .ok (.i2l, 1) := by decide +kernel
theorem dX7_represents_26 : decode cX7_represents 26 = .ok (.aload_n 0, 1) := by decide +kernel
theorem dX7_represents_27 : decode cX7_represents 27 = .ok (.getfield 77, 3) := by decide +kernel
theorem dX7_represents_30 : decode cX7_represents 30 = .ok (.iload_n 2, 1) := by decide +kernel
theorem dX7_represents_31 : decode cX7_represents 31 = .ok (.iaload, 1) := by decide +kernel
theorem dX7_represents_32 : decode cX7_represents 32 = .ok (.i2l, 1) := by decide +kernel
theorem dX7_represents_33 : decode cX7_represents 33 = .ok (.invokevirtual 342, 3) := by decide +kernel
theorem dX7_represents_36 : decode cX7_represents 36 = .ok (.aload_n 0, 1) := by decide +kernel
theorem dX7_represents_37 : decode cX7_represents 37 = .ok (.aload_n 0, 1) := by decide +kernel
theorem dX7_represents_38 : decode cX7_represents 38 = .ok (.getfield 345, 3) := by decide +kernel
theorem dX7_represents_41 : decode cX7_represents 41 = .ok (.aload_n 0, 1) := by decide +kernel
theorem dX7_represents_42 : decode cX7_represents 42 = .ok (.getfield 348, 3) := by decide +kernel
theorem dX7_represents_45 : decode cX7_represents 45 = .ok (.invokevirtual 351, 3) := by decide +kernel
theorem dX7_represents_48 : decode cX7_represents 48 = .ok (.istore_n 2, 1) := by decide +kernel
theorem dX7_represents_49 : decode cX7_represents 49 = .ok (.goto (-47), 3) := by decide +kernel
theorem dX7_represents_52 : decode cX7_represents 52 = .ok (.aload_n 0, 1) := by decide +kernel
theorem dX7_represents_53 : decode cX7_represents 53 = .ok (.lconst 1, 1) := by decide +kernel
theorem dX7_represents_54 : decode cX7_represents 54 = .ok (.aload_n 0, 1) := by decide +kernel
theorem dX7_represents_55 : decode cX7_represents 55 = .ok (.getfield 53, 3) := by decide +kernel
theorem dX7_represents_58 : decode cX7_represents 58 = .ok (.invokevirtual 310, 3) := by decide +kernel
theorem dX7_represents_61 : decode cX7_represents 61 = .ok (.aload_n 0, 1) := by decide +kernel
theorem dX7_represents_62 : decode cX7_represents 62 = .ok (.getfield 53, 3) := by decide +kernel
theorem dX7_represents_65 : decode cX7_represents 65 = .ok (.iconst 0, 1) := by decide +kernel
theorem dX7_represents_66 : decode cX7_represents 66 = .ok (.aload_n 0, 1) := by decide +kernel
theorem dX7_represents_67 : decode cX7_represents 67 = .ok (.getfield 71, 3) := by decide +kernel
theorem dX7_represents_70 : decode cX7_represents 70 = .ok (.iload_n 2, 1) := by decide +kernel
theorem dX7_represents_71 : decode cX7_represents 71 = .ok (.iaload, 1) := by decide +kernel
theorem dX7_represents_72 : decode cX7_represents 72 = .ok (.i2l, 1) := by decide +kernel
theorem dX7_represents_73 : decode cX7_represents 73 = .ok (.lastore, 1) := by decide +kernel
theorem dX7_represents_74 : decode cX7_represents 74 = .ok (.aload_n 0, 1) := by decide +kernel
theorem dX7_represents_75 : decode cX7_represents 75 = .ok (.getfield 53, 3) := by decide +kernel
theorem dX7_represents_78 : decode cX7_represents 78 = .ok (.iconst 3, 1) := by decide +kernel
theorem dX7_represents_79 : decode cX7_represents 79 = .ok (.aload_n 0, 1) := by decide +kernel
theorem dX7_represents_80 : decode cX7_represents 80 = .ok (.getfield 74, 3) := by decide +kernel
theorem dX7_represents_83 : decode cX7_represents 83 = .ok (.iload_n 2, 1) := by decide +kernel
theorem dX7_represents_84 : decode cX7_represents 84 = .ok (.iaload, 1) := by decide +kernel
theorem dX7_represents_85 : decode cX7_represents 85 = .ok (.i2l, 1) := by decide +kernel
theorem dX7_represents_86 : decode cX7_represents 86 = .ok (.aload_n 0, 1) := by decide +kernel
theorem dX7_represents_87 : decode cX7_represents 87 = .ok (.invokevirtual 363, 3) := by decide +kernel
theorem dX7_represents_90 : decode cX7_represents 90 = .ok (.lsub, 1) := by decide +kernel
theorem dX7_represents_91 : decode cX7_represents 91 = .ok (.ldc2_w 355, 3) := by decide +kernel
theorem dX7_represents_94 : decode cX7_represents 94 = .ok (.ldiv, 1) := by decide +kernel
theorem dX7_represents_95 : decode cX7_represents 95 = .ok (.aload_n 0, 1) := by decide +kernel
theorem dX7_represents_96 : decode cX7_represents 96 = .ok (.getfield 71, 3) := by decide +kernel
theorem dX7_represents_99 : decode cX7_represents 99 = .ok (.iload_n 2, 1) := by decide +kernel
theorem dX7_represents_100 : decode cX7_represents 100 = .ok (.iaload, 1) := by decide +kernel
theorem dX7_represents_101 : decode cX7_represents 101 = .ok (.i2l, 1) := by decide +kernel
theorem dX7_represents_102 : decode cX7_represents 102 = .ok (.invokestatic 155, 3) := by decide +kernel
theorem dX7_represents_105 : decode cX7_represents 105 = .ok (.lastore, 1) := by decide +kernel
theorem dX7_represents_106 : decode cX7_represents 106 = .ok (.return_, 1) := by decide +kernel
theorem bX7_represents_0 {l : Launch} {D : va_G} {aI aL : ClassId} {ad : Nat → Nat} {P : sa_P} {I : sa_I} {J : sa_J} {x1 : Int32}   (k : Sat (ER l D aI aL ad) M_X7_represents P 2 [(0, .ref (ad 0)), (2, .int x1)] [] I J) : Sat (ER l D aI aL ad) M_X7_represents P 0 [(0, .ref (ad 0)), (1, .int x1)] [] I J := by
  refine s_iload_n 1 dX7_represents_0 rfl ?_
  refine s_istore_n [(2, .int x1), (0, .ref (ad 0)), (1, .int x1)] dX7_represents_1 (Nat.lt_of_lt_of_le (Nat.lt_succ_self _) (Nat.le_of_ble_eq_true rfl)) rfl ?_
  refine s_pick [1, 0] [(0, .ref (ad 0)), (2, .int x1)] rfl ?_; exact k
theorem bX7_represents_2 {l : Launch} {D : va_G} {aI aL : ClassId} {ad : Nat → Nat} {P : sa_P} {I : sa_I} {J : sa_J} {x2 : Int32} {j6 : Nat} (e6 : x2 = nI j6) (h7 : j6 < 3000)  (kt : 0 ≤ I 21 j6 → Sat (ER l D aI aL ad) M_X7_represents P 52 [(0, .ref (ad 0)), (2, .int x2)] [] I J) (kf : ¬ 0 ≤ I 21 j6 → Sat (ER l D aI aL ad) M_X7_represents P 11 [(0, .ref (ad 0)), (2, .int x2)] [] I J) : Sat (ER l D aI aL ad) M_X7_represents P 2 [(0, .ref (ad 0)), (2, .int x2)] [] I J := by
  refine s_aload_n 0 dX7_represents_2 rfl ?_
  refine g_X7_71 dX7_represents_3 rfl ?_
  refine s_iload_n 1 dX7_represents_6 rfl ?_
  refine s_eqi e6 ?_
  refine s_ialoadN aI_R21 h7 (by decide) dX7_represents_7 ?_
  refine s_if_ge (tgt := 52) dX7_represents_8 (by decide) (fun c => ?_) (fun c => ?_)
  · exact kt c
  · exact kf c
theorem bX7_represents_11 {l : Launch} {D : va_G} {aI aL : ClassId} {ad : Nat → Nat} {P : sa_P} {I : sa_I} {J : sa_J} {x2 : Int32} {j16 : Nat} {j23 : Nat} {j30 : Nat} (e16 : x2 = nI j16) (h17 : j16 < 3000) (e23 : x2 = nI j23) (h24 : j23 < 3000) (e30 : x2 = nI j30) (h31 : j30 < 3000)  (k : Sat (ER l D aI aL ad) M_X7_represents P 33 [(0, .ref (ad 0))] [.long ((I 23 j30).toInt64), .long ((I 22 j23).toInt64), .long ((I 21 j16).toInt64), .ref (ad 0)] I J) : Sat (ER l D aI aL ad) M_X7_represents P 11 [(0, .ref (ad 0)), (2, .int x2)] [] I J := by
  refine s_aload_n 0 dX7_represents_11 rfl ?_
  refine s_aload_n 0 dX7_represents_12 rfl ?_
  refine g_X7_71 dX7_represents_13 rfl ?_
  refine s_iload_n 1 dX7_represents_16 rfl ?_
  refine s_eqi e16 ?_
  refine s_ialoadN aI_R21 h17 (by decide) dX7_represents_17 ?_
  refine s_i2l dX7_represents_18 ?_
  refine s_aload_n 0 dX7_represents_19 rfl ?_
  refine g_X7_74 dX7_represents_20 rfl ?_
  refine s_iload_n 1 dX7_represents_23 rfl ?_
  refine s_eqi e23 ?_
  refine s_ialoadN aI_R22 h24 (by decide) dX7_represents_24 ?_
  refine s_i2l dX7_represents_25 ?_
  refine s_aload_n 0 dX7_represents_26 rfl ?_
  refine g_X7_77 dX7_represents_27 rfl ?_
  refine s_iload_n 1 dX7_represents_30 rfl ?_
  refine s_eqi e30 ?_
  refine s_ialoadN aI_R23 h31 (by decide) dX7_represents_31 ?_
  refine s_i2l dX7_represents_32 ?_
  refine s_pick [0] [(0, .ref (ad 0))] rfl ?_; exact k
theorem bX7_represents_36 {l : Launch} {D : va_G} {aI aL : ClassId} {ad : Nat → Nat} {P : sa_P} {I : sa_I} {J : sa_J}    (k : Sat (ER l D aI aL ad) M_X7_represents P 45 [(0, .ref (ad 0))] [.long (J 0 43), .long (J 0 42), .ref (ad 0)] I J) : Sat (ER l D aI aL ad) M_X7_represents P 36 [(0, .ref (ad 0))] [] I J := by
  refine s_aload_n 0 dX7_represents_36 rfl ?_
  refine s_aload_n 0 dX7_represents_37 rfl ?_
  refine g_X7_345 dX7_represents_38 rfl ?_
  refine s_aload_n 0 dX7_represents_41 rfl ?_
  refine g_X7_348 dX7_represents_42 rfl ?_
  exact k
theorem bX7_represents_48 {l : Launch} {D : va_G} {aI aL : ClassId} {ad : Nat → Nat} {P : sa_P} {I : sa_I} {J : sa_J} {s0 : Int32}   (k : Sat (ER l D aI aL ad) M_X7_represents P 2 [(0, .ref (ad 0)), (2, .int s0)] [] I J) : Sat (ER l D aI aL ad) M_X7_represents P 48 [(0, .ref (ad 0))] [.int s0] I J := by
  refine s_istore_n [(2, .int s0), (0, .ref (ad 0))] dX7_represents_48 (Nat.lt_of_lt_of_le (Nat.lt_succ_self _) (Nat.le_of_ble_eq_true rfl)) rfl ?_
  refine s_goto (tgt := 2) dX7_represents_49 (by decide) ?_
  refine s_pick [1, 0] [(0, .ref (ad 0)), (2, .int s0)] rfl ?_; exact k
theorem bX7_represents_52 {l : Launch} {D : va_G} {aI aL : ClassId} {ad : Nat → Nat} {P : sa_P} {I : sa_I} {J : sa_J} {x2 : Int32}   (k : Sat (ER l D aI aL ad) M_X7_represents P 58 [(0, .ref (ad 0)), (2, .int x2)] [.ref (ad 15), .long (1 : Int64), .ref (ad 0)] I J) : Sat (ER l D aI aL ad) M_X7_represents P 52 [(0, .ref (ad 0)), (2, .int x2)] [] I J := by
  refine s_aload_n 0 dX7_represents_52 rfl ?_
  refine s_lconst (v := 1) dX7_represents_53 rfl ?_
  refine s_aload_n 0 dX7_represents_54 rfl ?_
  refine g_X7_53 dX7_represents_55 rfl ?_
  exact k
theorem bX7_represents_61 {l : Launch} {D : va_G} {aI aL : ClassId} {ad : Nat → Nat} {P : sa_P} {I : sa_I} {J : sa_J} {x2 : Int32} {j70 : Nat} {v73 : Int64} {j83 : Nat} (e70 : x2 = nI j70) (h71 : j70 < 3000) (e83 : x2 = nI j83) (h84 : j83 < 3000) (f73 : (I 21 j70).toInt64 = v73) (k : Sat (ER l D aI aL ad) M_X7_represents P 87 [(0, .ref (ad 0)), (2, .int x2)] [.ref (ad 0), .long ((I 22 j83).toInt64), .int (3 : Int32), .ref (ad 15)] I (sa_uJ J 15 0 v73)) : Sat (ER l D aI aL ad) M_X7_represents P 61 [(0, .ref (ad 0)), (2, .int x2)] [] I J := by
  refine s_aload_n 0 dX7_represents_61 rfl ?_
  refine g_X7_53 dX7_represents_62 rfl ?_
  refine s_iconst (v := 0) dX7_represents_65 rfl ?_
  refine s_eqi (y := nI 0) rfl ?_
  refine s_aload_n 0 dX7_represents_66 rfl ?_
  refine g_X7_71 dX7_represents_67 rfl ?_
  refine s_iload_n 1 dX7_represents_70 rfl ?_
  refine s_eqi e70 ?_
  refine s_ialoadN aI_R21 h71 (by decide) dX7_represents_71 ?_
  refine s_i2l dX7_represents_72 ?_
  refine s_eql f73 ?_
  refine s_lastoreN aJ_R15 (by decide) (by decide) dX7_represents_73 ?_
  refine s_aload_n 0 dX7_represents_74 rfl ?_
  refine g_X7_53 dX7_represents_75 rfl ?_
  refine s_iconst (v := 3) dX7_represents_78 rfl ?_
  refine s_aload_n 0 dX7_represents_79 rfl ?_
  refine g_X7_74 dX7_represents_80 rfl ?_
  refine s_iload_n 1 dX7_represents_83 rfl ?_
  refine s_eqi e83 ?_
  refine s_ialoadN aI_R22 h84 (by decide) dX7_represents_84 ?_
  refine s_i2l dX7_represents_85 ?_
  refine s_aload_n 0 dX7_represents_86 rfl ?_
  exact k
theorem bX7_represents_90 {l : Launch} {D : va_G} {aI aL : ClassId} {ad : Nat → Nat} {P : sa_P} {I : sa_I} {J : sa_J} {x2 : Int32} {s1 : Int32} {s2 : Int64} {s3 : Int64} {j99 : Nat} (e99 : x2 = nI j99) (h100 : j99 < 3000)  (k : Sat (ER l D aI aL ad) M_X7_represents P 102 [] [.long ((I 21 j99).toInt64), .long ((s2 - s3) / (2 : Int64)), .int s1, .ref (ad 15)] I J) : Sat (ER l D aI aL ad) M_X7_represents P 90 [(0, .ref (ad 0)), (2, .int x2)] [.long s3, .long s2, .int s1, .ref (ad 15)] I J := by
  refine s_lsub dX7_represents_90 ?_
  refine s_ldc2 wk_X7_355 dX7_represents_91 ?_
  refine s_ldiv dX7_represents_94 (by decide) ?_
  refine s_aload_n 0 dX7_represents_95 rfl ?_
  refine g_X7_71 dX7_represents_96 rfl ?_
  refine s_iload_n 1 dX7_represents_99 rfl ?_
  refine s_eqi e99 ?_
  refine s_ialoadN aI_R21 h100 (by decide) dX7_represents_100 ?_
  refine s_i2l dX7_represents_101 ?_
  refine s_pick [] [] rfl ?_; exact k
theorem bX7_represents_105 {l : Launch} {D : va_G} {aI aL : ClassId} {ad : Nat → Nat} {P : sa_P} {I : sa_I} {J : sa_J} {s1 : Nat} {s2 : Int64} (h105 : s1 < 9)  (k : P (none) I (sa_uJ J 15 s1 s2)) : Sat (ER l D aI aL ad) M_X7_represents P 105 [] [.long s2, .int (nI s1), .ref (ad 15)] I J := by
  refine s_lastoreN aJ_R15 h105 (by decide) dX7_represents_105 ?_
  exact s_vret rfl dX7_represents_106 k
/-! X7_wrongForms -/
theorem dX7_wrongForms_0 : decode cX7_wrongForms 0 = .ok (.aload_n 0, 1) := by decide +kernel
theorem dX7_wrongForms_1 : decode cX7_wrongForms 1 = .ok (.invokevirtual 203, 3) := by decide +kernel
theorem dX7_wrongForms_4 : decode cX7_wrongForms 4 = .ok (.ifCond .ne 8, 3) := by decide +kernel
theorem dX7_wrongForms_7 : decode cX7_wrongForms 7 = .ok (.bipush (-3), 2) := by decide +kernel
theorem dX7_wrongForms_9 : decode cX7_wrongForms 9 = .ok (.goto 17, 3) := by decide +kernel
theorem dX7_wrongForms_12 : decode cX7_wrongForms 12 = .ok (.aload_n 0, 1) := by decide +kernel
theorem dX7_wrongForms_13 : decode cX7_wrongForms 13 = .ok (.getfield 101, 3) := by decide +kernel
theorem dX7_wrongForms_16 : decode cX7_wrongForms 16 = .ok (.iconst 2, 1) := by decide +kernel
theorem dX7_wrongForms_17 : decode cX7_wrongForms 17 = .ok (.if_icmp .eq 8, 3) := by decide +kernel
theorem dX7_wrongForms_20 : decode cX7_wrongForms 20 = .ok (.bipush (-2), 2) := by decide +kernel
theorem dX7_wrongForms_22 : decode cX7_wrongForms 22 = .ok (.goto 4, 3) := by decide +kernel
theorem dX7_wrongForms_25 : decode cX7_wrongForms 25 = .ok (.iconst 0, 1) := by decide +kernel
theorem dX7_wrongForms_26 : decode cX7_wrongForms 26 = .ok (.ireturn, 1) := by decide +kernel
theorem bX7_wrongForms_0 {l : Launch} {D : va_G} {aI aL : ClassId} {ad : Nat → Nat} {P : sa_P} {I : sa_I} {J : sa_J}    (k : Sat (ER l D aI aL ad) M_X7_wrongForms P 1 [(0, .ref (ad 0))] [.ref (ad 0)] I J) : Sat (ER l D aI aL ad) M_X7_wrongForms P 0 [(0, .ref (ad 0))] [] I J := by
  refine s_aload_n 0 dX7_wrongForms_0 rfl ?_
  exact k
theorem bX7_wrongForms_4 {l : Launch} {D : va_G} {aI aL : ClassId} {ad : Nat → Nat} {P : sa_P} {I : sa_I} {J : sa_J} {s0 : Int32}   (kt : ¬ s0 = 0 → Sat (ER l D aI aL ad) M_X7_wrongForms P 12 [(0, .ref (ad 0))] [] I J) (kf : s0 = 0 → Sat (ER l D aI aL ad) M_X7_wrongForms P 7 [] [] I J) : Sat (ER l D aI aL ad) M_X7_wrongForms P 4 [(0, .ref (ad 0))] [.int s0] I J := by
  refine s_if_ne (tgt := 12) dX7_wrongForms_4 (by decide) (fun c => ?_) (fun c => ?_)
  · exact kt c
  · refine s_pick [] [] rfl ?_; exact kf (by first | exact c | exact Classical.not_not.mp c)
theorem bX7_wrongForms_7 {l : Launch} {D : va_G} {aI aL : ClassId} {ad : Nat → Nat} {P : sa_P} {I : sa_I} {J : sa_J}    (k : Sat (ER l D aI aL ad) M_X7_wrongForms P 26 [] [.int (-3 : Int32)] I J) : Sat (ER l D aI aL ad) M_X7_wrongForms P 7 [] [] I J := by
  refine s_bipush (v := -3) dX7_wrongForms_7 rfl ?_
  refine s_goto (tgt := 26) dX7_wrongForms_9 (by decide) ?_
  exact k
theorem bX7_wrongForms_12 {l : Launch} {D : va_G} {aI aL : ClassId} {ad : Nat → Nat} {P : sa_P} {I : sa_I} {J : sa_J}    (kt : I 0 1 = (2 : Int32) → Sat (ER l D aI aL ad) M_X7_wrongForms P 25 [] [] I J) (kf : ¬ I 0 1 = (2 : Int32) → Sat (ER l D aI aL ad) M_X7_wrongForms P 20 [] [] I J) : Sat (ER l D aI aL ad) M_X7_wrongForms P 12 [(0, .ref (ad 0))] [] I J := by
  refine s_aload_n 0 dX7_wrongForms_12 rfl ?_
  refine g_X7_101 dX7_wrongForms_13 rfl ?_
  refine s_iconst (v := 2) dX7_wrongForms_16 rfl ?_
  refine s_icmp_eq (tgt := 25) dX7_wrongForms_17 (by decide) (fun c => ?_) (fun c => ?_)
  · refine s_pick [] [] rfl ?_; exact kt c
  · refine s_pick [] [] rfl ?_; exact kf c
theorem bX7_wrongForms_20 {l : Launch} {D : va_G} {aI aL : ClassId} {ad : Nat → Nat} {P : sa_P} {I : sa_I} {J : sa_J}    (k : Sat (ER l D aI aL ad) M_X7_wrongForms P 26 [] [.int (-2 : Int32)] I J) : Sat (ER l D aI aL ad) M_X7_wrongForms P 20 [] [] I J := by
  refine s_bipush (v := -2) dX7_wrongForms_20 rfl ?_
  refine s_goto (tgt := 26) dX7_wrongForms_22 (by decide) ?_
  exact k
theorem bX7_wrongForms_25 {l : Launch} {D : va_G} {aI aL : ClassId} {ad : Nat → Nat} {P : sa_P} {I : sa_I} {J : sa_J}    (k : Sat (ER l D aI aL ad) M_X7_wrongForms P 26 [] [.int (0 : Int32)] I J) : Sat (ER l D aI aL ad) M_X7_wrongForms P 25 [] [] I J := by
  refine s_iconst (v := 0) dX7_wrongForms_25 rfl ?_
  exact k
theorem bX7_wrongForms_26 {l : Launch} {D : va_G} {aI aL : ClassId} {ad : Nat → Nat} {P : sa_P} {I : sa_I} {J : sa_J} {s0 : Int32}   (k : P (some (.int s0)) I J) : Sat (ER l D aI aL ad) M_X7_wrongForms P 26 [] [.int s0] I J := by
  exact s_iret rfl dX7_wrongForms_26 k
/-! X7_classes -/
theorem dX7_classes_0 : decode cX7_classes 0 = .ok (.aload_n 0, 1) := by decide +kernel
theorem dX7_classes_1 : decode cX7_classes 1 = .ok (.invokevirtual 369, 3) := by decide +kernel
theorem dX7_classes_4 : decode cX7_classes 4 = .ok (.istore_n 1, 1) := by decide +kernel
theorem dX7_classes_5 : decode cX7_classes 5 = .ok (.iload_n 1, 1) := by decide +kernel
theorem dX7_classes_6 : decode cX7_classes 6 = .ok (.ifCond .eq 9, 3) := by decide +kernel
theorem dX7_classes_9 : decode cX7_classes 9 = .ok (.aload_n 0, 1) := by decide +kernel
theorem dX7_classes_10 : decode cX7_classes 10 = .ok (.iload_n 1, 1) := by decide +kernel
theorem dX7_classes_11 : decode cX7_classes 11 = .ok (.invokevirtual 84, 3) := by decide +kernel
theorem dX7_classes_14 : decode cX7_classes 14 = .ok (.ireturn, 1) := by decide +kernel
theorem dX7_classes_15 : decode cX7_classes 15 = .ok (.aload_n 0, 1) := by decide +kernel
theorem dX7_classes_16 : decode cX7_classes 16 = .ok (.invokevirtual 360, 3) := by decide +kernel
theorem dX7_classes_19 : decode cX7_classes 19 = .ok (.iconst 0, 1) := by decide +kernel
theorem dX7_classes_20 : decode cX7_classes 20 = .ok (.istore_n 2, 1) := by decide +kernel
theorem dX7_classes_21 : decode cX7_classes 21 = .ok (.iconst 0, 1) := by decide +kernel
theorem dX7_classes_22 : decode cX7_classes 22 = .ok (.istore_n 3, 1) := by decide +kernel
theorem dX7_classes_23 : decode cX7_classes 23 = .ok (.iload_n 3, 1) := by decide +kernel
theorem dX7_classes_24 : decode cX7_classes 24 = .ok (.aload_n 0, 1) := by decide +kernel
theorem dX7_classes_25 : decode cX7_classes 25 = .ok (.getfield 169, 3) := by decide +kernel
theorem dX7_classes_28 : decode cX7_classes 28 = .ok (.if_icmp .ge 27, 3) := by decide +kernel
theorem dX7_classes_31 : decode cX7_classes 31 = .ok (.iload_n 2, 1) := by decide +kernel
theorem dX7_classes_32 : decode cX7_classes 32 = .ok (.aload_n 0, 1) := by decide +kernel
theorem dX7_classes_33 : decode cX7_classes 33 = .ok (.getfield 80, 3) := by decide +kernel
theorem dX7_classes_36 : decode cX7_classes 36 = .ok (.iload_n 3, 1) := by decide +kernel
theorem dX7_classes_37 : decode cX7_classes 37 = .ok (.iaload, 1) := by decide +kernel
theorem dX7_classes_38 : decode cX7_classes 38 = .ok (.iload_n 3, 1) := by decide +kernel
theorem dX7_classes_39 : decode cX7_classes 39 = .ok (.if_icmp .ne 7, 3) := by decide +kernel
theorem dX7_classes_42 : decode cX7_classes 42 = .ok (.iconst 1, 1) := by decide +kernel
theorem dX7_classes_43 : decode cX7_classes 43 = .ok (.goto 4, 3) := by decide +kernel
theorem dX7_classes_46 : decode cX7_classes 46 = .ok (.iconst 0, 1) := by decide +kernel
theorem dX7_classes_47 : decode cX7_classes 47 = .ok (.iadd, 1) := by decide +kernel
theorem dX7_classes_48 : decode cX7_classes 48 = .ok (.istore_n 2, 1) := by decide +kernel
theorem dX7_classes_49 : decode cX7_classes 49 = .ok (.iinc 3 1, 3) := by decide +kernel
theorem dX7_classes_52 : decode cX7_classes 52 = .ok (.goto (-29), 3) := by decide +kernel
theorem dX7_classes_55 : decode cX7_classes 55 = .ok (.iload_n 2, 1) := by decide +kernel
theorem dX7_classes_56 : decode cX7_classes 56 = .ok (.ireturn, 1) := by decide +kernel
theorem bX7_classes_0 {l : Launch} {D : va_G} {aI aL : ClassId} {ad : Nat → Nat} {P : sa_P} {I : sa_I} {J : sa_J}    (k : Sat (ER l D aI aL ad) M_X7_classes P 1 [(0, .ref (ad 0))] [.ref (ad 0)] I J) : Sat (ER l D aI aL ad) M_X7_classes P 0 [(0, .ref (ad 0))] [] I J := by
  refine s_aload_n 0 dX7_classes_0 rfl ?_
  exact k
theorem bX7_classes_4 {l : Launch} {D : va_G} {aI aL : ClassId} {ad : Nat → Nat} {P : sa_P} {I : sa_I} {J : sa_J} {s0 : Int32}   (kt : s0 = 0 → Sat (ER l D aI aL ad) M_X7_classes P 15 [(0, .ref (ad 0))] [] I J) (kf : ¬ s0 = 0 → Sat (ER l D aI aL ad) M_X7_classes P 9 [(0, .ref (ad 0)), (1, .int s0)] [] I J) : Sat (ER l D aI aL ad) M_X7_classes P 4 [(0, .ref (ad 0))] [.int s0] I J := by
  refine s_istore_n [(1, .int s0), (0, .ref (ad 0))] dX7_classes_4 (Nat.lt_of_lt_of_le (Nat.lt_succ_self _) (Nat.le_of_ble_eq_true rfl)) rfl ?_
  refine s_iload_n 0 dX7_classes_5 rfl ?_
  refine s_if_eq (tgt := 15) dX7_classes_6 (by decide) (fun c => ?_) (fun c => ?_)
  · refine s_pick [1] [(0, .ref (ad 0))] rfl ?_; exact kt c
  · refine s_pick [1, 0] [(0, .ref (ad 0)), (1, .int s0)] rfl ?_; exact kf c
theorem bX7_classes_9 {l : Launch} {D : va_G} {aI aL : ClassId} {ad : Nat → Nat} {P : sa_P} {I : sa_I} {J : sa_J} {x1 : Int32}   (k : Sat (ER l D aI aL ad) M_X7_classes P 11 [] [.int x1, .ref (ad 0)] I J) : Sat (ER l D aI aL ad) M_X7_classes P 9 [(0, .ref (ad 0)), (1, .int x1)] [] I J := by
  refine s_aload_n 0 dX7_classes_9 rfl ?_
  refine s_iload_n 1 dX7_classes_10 rfl ?_
  refine s_pick [] [] rfl ?_; exact k
theorem bX7_classes_14 {l : Launch} {D : va_G} {aI aL : ClassId} {ad : Nat → Nat} {P : sa_P} {I : sa_I} {J : sa_J} {s0 : Int32}   (k : P (some (.int s0)) I J) : Sat (ER l D aI aL ad) M_X7_classes P 14 [] [.int s0] I J := by
  exact s_iret rfl dX7_classes_14 k
theorem bX7_classes_15 {l : Launch} {D : va_G} {aI aL : ClassId} {ad : Nat → Nat} {P : sa_P} {I : sa_I} {J : sa_J}    (k : Sat (ER l D aI aL ad) M_X7_classes P 16 [(0, .ref (ad 0))] [.ref (ad 0)] I J) : Sat (ER l D aI aL ad) M_X7_classes P 15 [(0, .ref (ad 0))] [] I J := by
  refine s_aload_n 0 dX7_classes_15 rfl ?_
  exact k
theorem bX7_classes_19 {l : Launch} {D : va_G} {aI aL : ClassId} {ad : Nat → Nat} {P : sa_P} {I : sa_I} {J : sa_J} {v20 : Int32} {v22 : Int32}  (f20 : (0 : Int32) = v20) (f22 : (0 : Int32) = v22) (k : Sat (ER l D aI aL ad) M_X7_classes P 23 [(0, .ref (ad 0)), (2, .int v20), (3, .int v22)] [] I J) : Sat (ER l D aI aL ad) M_X7_classes P 19 [(0, .ref (ad 0))] [] I J := by
  refine s_iconst (v := 0) dX7_classes_19 rfl ?_
  refine s_eqi f20 ?_
  refine s_istore_n [(2, .int v20), (0, .ref (ad 0))] dX7_classes_20 (Nat.lt_of_lt_of_le (Nat.lt_succ_self _) (Nat.le_of_ble_eq_true rfl)) rfl ?_
  refine s_iconst (v := 0) dX7_classes_21 rfl ?_
  refine s_eqi f22 ?_
  refine s_istore_n [(3, .int v22), (2, .int v20), (0, .ref (ad 0))] dX7_classes_22 (Nat.lt_of_lt_of_le (Nat.lt_succ_self _) (Nat.le_of_ble_eq_true rfl)) rfl ?_
  refine s_pick [2, 1, 0] [(0, .ref (ad 0)), (2, .int v20), (3, .int v22)] rfl ?_; exact k
theorem bX7_classes_23 {l : Launch} {D : va_G} {aI aL : ClassId} {ad : Nat → Nat} {P : sa_P} {I : sa_I} {J : sa_J} {x2 : Int32} {x3 : Int32}   (kt : I 0 36 ≤ x3 → Sat (ER l D aI aL ad) M_X7_classes P 55 [(2, .int x2)] [] I J) (kf : ¬ I 0 36 ≤ x3 → Sat (ER l D aI aL ad) M_X7_classes P 31 [(0, .ref (ad 0)), (2, .int x2), (3, .int x3)] [] I J) : Sat (ER l D aI aL ad) M_X7_classes P 23 [(0, .ref (ad 0)), (2, .int x2), (3, .int x3)] [] I J := by
  refine s_iload_n 2 dX7_classes_23 rfl ?_
  refine s_aload_n 0 dX7_classes_24 rfl ?_
  refine g_X7_169 dX7_classes_25 rfl ?_
  refine s_icmp_ge (tgt := 55) dX7_classes_28 (by decide) (fun c => ?_) (fun c => ?_)
  · refine s_pick [1] [(2, .int x2)] rfl ?_; exact kt c
  · exact kf c
theorem bX7_classes_31 {l : Launch} {D : va_G} {aI aL : ClassId} {ad : Nat → Nat} {P : sa_P} {I : sa_I} {J : sa_J} {x2 : Int32} {x3 : Int32} {j36 : Nat} (e36 : x3 = nI j36) (h37 : j36 < 3000)  (kt : ¬ I 24 j36 = x3 → Sat (ER l D aI aL ad) M_X7_classes P 46 [(0, .ref (ad 0)), (3, .int x3)] [.int x2] I J) (kf : I 24 j36 = x3 → Sat (ER l D aI aL ad) M_X7_classes P 42 [(0, .ref (ad 0)), (3, .int x3)] [.int x2] I J) : Sat (ER l D aI aL ad) M_X7_classes P 31 [(0, .ref (ad 0)), (2, .int x2), (3, .int x3)] [] I J := by
  refine s_iload_n 1 dX7_classes_31 rfl ?_
  refine s_aload_n 0 dX7_classes_32 rfl ?_
  refine g_X7_80 dX7_classes_33 rfl ?_
  refine s_iload_n 2 dX7_classes_36 rfl ?_
  refine s_eqi e36 ?_
  refine s_ialoadN aI_R24 h37 (by decide) dX7_classes_37 ?_
  refine s_iload_n 2 dX7_classes_38 rfl ?_
  refine s_icmp_ne (tgt := 46) dX7_classes_39 (by decide) (fun c => ?_) (fun c => ?_)
  · refine s_pick [0, 2] [(0, .ref (ad 0)), (3, .int x3)] rfl ?_; exact kt c
  · refine s_pick [0, 2] [(0, .ref (ad 0)), (3, .int x3)] rfl ?_; exact kf (by first | exact c | exact Classical.not_not.mp c)
theorem bX7_classes_42 {l : Launch} {D : va_G} {aI aL : ClassId} {ad : Nat → Nat} {P : sa_P} {I : sa_I} {J : sa_J} {x3 : Int32} {s0 : Int32}   (k : Sat (ER l D aI aL ad) M_X7_classes P 47 [(0, .ref (ad 0)), (3, .int x3)] [.int (1 : Int32), .int s0] I J) : Sat (ER l D aI aL ad) M_X7_classes P 42 [(0, .ref (ad 0)), (3, .int x3)] [.int s0] I J := by
  refine s_iconst (v := 1) dX7_classes_42 rfl ?_
  refine s_goto (tgt := 47) dX7_classes_43 (by decide) ?_
  exact k
theorem bX7_classes_46 {l : Launch} {D : va_G} {aI aL : ClassId} {ad : Nat → Nat} {P : sa_P} {I : sa_I} {J : sa_J} {x3 : Int32} {s0 : Int32}   (k : Sat (ER l D aI aL ad) M_X7_classes P 47 [(0, .ref (ad 0)), (3, .int x3)] [.int (0 : Int32), .int s0] I J) : Sat (ER l D aI aL ad) M_X7_classes P 46 [(0, .ref (ad 0)), (3, .int x3)] [.int s0] I J := by
  refine s_iconst (v := 0) dX7_classes_46 rfl ?_
  exact k
theorem bX7_classes_47 {l : Launch} {D : va_G} {aI aL : ClassId} {ad : Nat → Nat} {P : sa_P} {I : sa_I} {J : sa_J} {x3 : Int32} {s0 : Int32} {s1 : Int32} {v48 : Int32} {v49 : Int32}  (f48 : s0 + s1 = v48) (f49 : x3 + 1 = v49) (k : Sat (ER l D aI aL ad) M_X7_classes P 23 [(0, .ref (ad 0)), (2, .int v48), (3, .int v49)] [] I J) : Sat (ER l D aI aL ad) M_X7_classes P 47 [(0, .ref (ad 0)), (3, .int x3)] [.int s1, .int s0] I J := by
  refine s_iadd dX7_classes_47 ?_
  refine s_eqi f48 ?_
  refine s_istore_n [(2, .int v48), (0, .ref (ad 0)), (3, .int x3)] dX7_classes_48 (Nat.lt_of_lt_of_le (Nat.lt_succ_self _) (Nat.le_of_ble_eq_true rfl)) rfl ?_
  refine s_iinc 2 v49 [(3, .int v49), (2, .int v48), (0, .ref (ad 0))] dX7_classes_49 rfl f49 (Nat.lt_of_lt_of_le (Nat.lt_succ_self _) (Nat.le_of_ble_eq_true rfl)) rfl ?_
  refine s_goto (tgt := 23) dX7_classes_52 (by decide) ?_
  refine s_pick [2, 1, 0] [(0, .ref (ad 0)), (2, .int v48), (3, .int v49)] rfl ?_; exact k
theorem bX7_classes_55 {l : Launch} {D : va_G} {aI aL : ClassId} {ad : Nat → Nat} {P : sa_P} {I : sa_I} {J : sa_J} {x2 : Int32}   (k : P (some (.int x2)) I J) : Sat (ER l D aI aL ad) M_X7_classes P 55 [(2, .int x2)] [] I J := by
  refine s_iload_n 0 dX7_classes_55 rfl ?_
  exact s_iret rfl dX7_classes_56 k
/-! X7_form -/
theorem dX7_form_0 : decode cX7_form 0 = .ok (.aload_n 0, 1) := by decide +kernel
theorem dX7_form_1 : decode cX7_form 1 = .ok (.invokevirtual 369, 3) := by decide +kernel
theorem dX7_form_4 : decode cX7_form 4 = .ok (.istore_n 3, 1) := by decide +kernel
theorem dX7_form_5 : decode cX7_form 5 = .ok (.iload_n 3, 1) := by decide +kernel
theorem dX7_form_6 : decode cX7_form 6 = .ok (.ifCond .ne 14, 3) := by decide +kernel
theorem dX7_form_9 : decode cX7_form 9 = .ok (.iload_n 2, 1) := by decide +kernel
theorem dX7_form_10 : decode cX7_form 10 = .ok (.iconst 3, 1) := by decide +kernel
theorem dX7_form_11 : decode cX7_form 11 = .ok (.invokestatic 210, 3) := by decide +kernel
theorem dX7_form_14 : decode cX7_form 14 = .ok (.ifCond .ne 6, 3) := by decide +kernel
theorem dX7_form_17 : decode cX7_form 17 = .ok (.bipush (-2), 2) := by decide +kernel
theorem dX7_form_19 : decode cX7_form 19 = .ok (.istore_n 3, 1) := by decide +kernel
theorem dX7_form_20 : decode cX7_form 20 = .ok (.iload_n 3, 1) := by decide +kernel
theorem dX7_form_21 : decode cX7_form 21 = .ok (.ifCond .eq 9, 3) := by decide +kernel
theorem dX7_form_24 : decode cX7_form 24 = .ok (.aload_n 0, 1) := by decide +kernel
theorem dX7_form_25 : decode cX7_form 25 = .ok (.iload_n 3, 1) := by decide +kernel
theorem dX7_form_26 : decode cX7_form 26 = .ok (.invokevirtual 214, 3) := by decide +kernel
theorem dX7_form_29 : decode cX7_form 29 = .ok (.ireturn, 1) := by decide +kernel
theorem dX7_form_30 : decode cX7_form 30 = .ok (.aload_n 0, 1) := by decide +kernel
theorem dX7_form_31 : decode cX7_form 31 = .ok (.invokevirtual 360, 3) := by decide +kernel
theorem dX7_form_34 : decode cX7_form 34 = .ok (.iload_n 1, 1) := by decide +kernel
theorem dX7_form_35 : decode cX7_form 35 = .ok (.aload_n 0, 1) := by decide +kernel
theorem dX7_form_36 : decode cX7_form 36 = .ok (.getfield 169, 3) := by decide +kernel
theorem dX7_form_39 : decode cX7_form 39 = .ok (.invokestatic 210, 3) := by decide +kernel
theorem dX7_form_42 : decode cX7_form 42 = .ok (.ifCond .ne 9, 3) := by decide +kernel
theorem dX7_form_45 : decode cX7_form 45 = .ok (.aload_n 0, 1) := by decide +kernel
theorem dX7_form_46 : decode cX7_form 46 = .ok (.iconst (-1), 1) := by decide +kernel
theorem dX7_form_47 : decode cX7_form 47 = .ok (.invokevirtual 214, 3) := by decide +kernel
theorem dX7_form_50 : decode cX7_form 50 = .ok (.ireturn, 1) := by decide +kernel
theorem dX7_form_51 : decode cX7_form 51 = .ok (.iload_n 2, 1) := by decide +kernel
theorem dX7_form_52 : decode cX7_form 52 = .ok (.ifCond .ne 12, 3) := by decide +kernel
theorem dX7_form_55 : decode cX7_form 55 = .ok (.aload_n 0, 1) := by decide +kernel
theorem dX7_form_56 : decode cX7_form 56 = .ok (.getfield 71, 3) := by decide +kernel
theorem dX7_form_59 : decode cX7_form 59 = .ok (.iload_n 1, 1) := by decide +kernel
theorem dX7_form_60 : decode cX7_form 60 = .ok (.iaload, 1) := by decide +kernel
theorem dX7_form_61 : decode cX7_form 61 = .ok (.goto 23, 3) := by decide +kernel
theorem dX7_form_64 : decode cX7_form 64 = .ok (.iload_n 2, 1) := by decide +kernel
theorem dX7_form_65 : decode cX7_form 65 = .ok (.iconst 1, 1) := by decide +kernel
theorem dX7_form_66 : decode cX7_form 66 = .ok (.if_icmp .ne 12, 3) := by decide +kernel
theorem dX7_form_69 : decode cX7_form 69 = .ok (.aload_n 0, 1) := by decide +kernel
theorem dX7_form_70 : decode cX7_form 70 = .ok (.getfield 74, 3) := by decide +kernel
theorem dX7_form_73 : decode cX7_form 73 = .ok (.iload_n 1, 1) := by decide +kernel
theorem dX7_form_74 : decode cX7_form 74 = .ok (.iaload, 1) := by decide +kernel
theorem dX7_form_75 : decode cX7_form 75 = .ok (.goto 9, 3) := by decide +kernel
theorem dX7_form_78 : decode cX7_form 78 = .ok (.aload_n 0, 1) := by decide +kernel
theorem dX7_form_79 : decode cX7_form 79 = .ok (.getfield 77, 3) := by decide +kernel
theorem dX7_form_82 : decode cX7_form 82 = .ok (.iload_n 1, 1) := by decide +kernel
theorem dX7_form_83 : decode cX7_form 83 = .ok (.iaload, 1) := by decide +kernel
theorem dX7_form_84 : decode cX7_form 84 = .ok (.ireturn, 1) := by decide +kernel
theorem bX7_form_0 {l : Launch} {D : va_G} {aI aL : ClassId} {ad : Nat → Nat} {P : sa_P} {I : sa_I} {J : sa_J} {x1 : Int32} {x2 : Int32}   (k : Sat (ER l D aI aL ad) M_X7_form P 1 [(0, .ref (ad 0)), (1, .int x1), (2, .int x2)] [.ref (ad 0)] I J) : Sat (ER l D aI aL ad) M_X7_form P 0 [(0, .ref (ad 0)), (1, .int x1), (2, .int x2)] [] I J := by
  refine s_aload_n 0 dX7_form_0 rfl ?_
  exact k
theorem bX7_form_4 {l : Launch} {D : va_G} {aI aL : ClassId} {ad : Nat → Nat} {P : sa_P} {I : sa_I} {J : sa_J} {x1 : Int32} {x2 : Int32} {s0 : Int32}   (kt : ¬ s0 = 0 → Sat (ER l D aI aL ad) M_X7_form P 20 [(0, .ref (ad 0)), (1, .int x1), (2, .int x2), (3, .int s0)] [] I J) (kf : s0 = 0 → Sat (ER l D aI aL ad) M_X7_form P 9 [(0, .ref (ad 0)), (1, .int x1), (2, .int x2), (3, .int s0)] [] I J) : Sat (ER l D aI aL ad) M_X7_form P 4 [(0, .ref (ad 0)), (1, .int x1), (2, .int x2)] [.int s0] I J := by
  refine s_istore_n [(3, .int s0), (0, .ref (ad 0)), (1, .int x1), (2, .int x2)] dX7_form_4 (Nat.lt_of_lt_of_le (Nat.lt_succ_self _) (Nat.le_of_ble_eq_true rfl)) rfl ?_
  refine s_iload_n 0 dX7_form_5 rfl ?_
  refine s_if_ne (tgt := 20) dX7_form_6 (by decide) (fun c => ?_) (fun c => ?_)
  · refine s_pick [1, 2, 3, 0] [(0, .ref (ad 0)), (1, .int x1), (2, .int x2), (3, .int s0)] rfl ?_; exact kt c
  · refine s_pick [1, 2, 3, 0] [(0, .ref (ad 0)), (1, .int x1), (2, .int x2), (3, .int s0)] rfl ?_; exact kf (by first | exact c | exact Classical.not_not.mp c)
theorem bX7_form_9 {l : Launch} {D : va_G} {aI aL : ClassId} {ad : Nat → Nat} {P : sa_P} {I : sa_I} {J : sa_J} {x1 : Int32} {x2 : Int32} {x3 : Int32}   (k : Sat (ER l D aI aL ad) M_X7_form P 11 [(0, .ref (ad 0)), (1, .int x1), (2, .int x2), (3, .int x3)] [.int (3 : Int32), .int x2] I J) : Sat (ER l D aI aL ad) M_X7_form P 9 [(0, .ref (ad 0)), (1, .int x1), (2, .int x2), (3, .int x3)] [] I J := by
  refine s_iload_n 2 dX7_form_9 rfl ?_
  refine s_iconst (v := 3) dX7_form_10 rfl ?_
  exact k
theorem bX7_form_14 {l : Launch} {D : va_G} {aI aL : ClassId} {ad : Nat → Nat} {P : sa_P} {I : sa_I} {J : sa_J} {x1 : Int32} {x2 : Int32} {x3 : Int32} {s0 : Int32}   (kt : ¬ s0 = 0 → Sat (ER l D aI aL ad) M_X7_form P 20 [(0, .ref (ad 0)), (1, .int x1), (2, .int x2), (3, .int x3)] [] I J) (kf : s0 = 0 → Sat (ER l D aI aL ad) M_X7_form P 17 [(0, .ref (ad 0)), (1, .int x1), (2, .int x2)] [] I J) : Sat (ER l D aI aL ad) M_X7_form P 14 [(0, .ref (ad 0)), (1, .int x1), (2, .int x2), (3, .int x3)] [.int s0] I J := by
  refine s_if_ne (tgt := 20) dX7_form_14 (by decide) (fun c => ?_) (fun c => ?_)
  · exact kt c
  · refine s_pick [0, 1, 2] [(0, .ref (ad 0)), (1, .int x1), (2, .int x2)] rfl ?_; exact kf (by first | exact c | exact Classical.not_not.mp c)
theorem bX7_form_17 {l : Launch} {D : va_G} {aI aL : ClassId} {ad : Nat → Nat} {P : sa_P} {I : sa_I} {J : sa_J} {x1 : Int32} {x2 : Int32} {v19 : Int32}  (f19 : (-2 : Int32) = v19) (k : Sat (ER l D aI aL ad) M_X7_form P 20 [(0, .ref (ad 0)), (1, .int x1), (2, .int x2), (3, .int v19)] [] I J) : Sat (ER l D aI aL ad) M_X7_form P 17 [(0, .ref (ad 0)), (1, .int x1), (2, .int x2)] [] I J := by
  refine s_bipush (v := -2) dX7_form_17 rfl ?_
  refine s_eqi f19 ?_
  refine s_istore_n [(3, .int v19), (0, .ref (ad 0)), (1, .int x1), (2, .int x2)] dX7_form_19 (Nat.lt_of_lt_of_le (Nat.lt_succ_self _) (Nat.le_of_ble_eq_true rfl)) rfl ?_
  refine s_pick [1, 2, 3, 0] [(0, .ref (ad 0)), (1, .int x1), (2, .int x2), (3, .int v19)] rfl ?_; exact k
theorem bX7_form_20 {l : Launch} {D : va_G} {aI aL : ClassId} {ad : Nat → Nat} {P : sa_P} {I : sa_I} {J : sa_J} {x1 : Int32} {x2 : Int32} {x3 : Int32}   (kt : x3 = 0 → Sat (ER l D aI aL ad) M_X7_form P 30 [(0, .ref (ad 0)), (1, .int x1), (2, .int x2)] [] I J) (kf : ¬ x3 = 0 → Sat (ER l D aI aL ad) M_X7_form P 24 [(0, .ref (ad 0)), (3, .int x3)] [] I J) : Sat (ER l D aI aL ad) M_X7_form P 20 [(0, .ref (ad 0)), (1, .int x1), (2, .int x2), (3, .int x3)] [] I J := by
  refine s_iload_n 3 dX7_form_20 rfl ?_
  refine s_if_eq (tgt := 30) dX7_form_21 (by decide) (fun c => ?_) (fun c => ?_)
  · refine s_pick [0, 1, 2] [(0, .ref (ad 0)), (1, .int x1), (2, .int x2)] rfl ?_; exact kt c
  · refine s_pick [0, 3] [(0, .ref (ad 0)), (3, .int x3)] rfl ?_; exact kf c
theorem bX7_form_24 {l : Launch} {D : va_G} {aI aL : ClassId} {ad : Nat → Nat} {P : sa_P} {I : sa_I} {J : sa_J} {x3 : Int32}   (k : Sat (ER l D aI aL ad) M_X7_form P 26 [] [.int x3, .ref (ad 0)] I J) : Sat (ER l D aI aL ad) M_X7_form P 24 [(0, .ref (ad 0)), (3, .int x3)] [] I J := by
  refine s_aload_n 0 dX7_form_24 rfl ?_
  refine s_iload_n 1 dX7_form_25 rfl ?_
  refine s_pick [] [] rfl ?_; exact k
theorem bX7_form_29 {l : Launch} {D : va_G} {aI aL : ClassId} {ad : Nat → Nat} {P : sa_P} {I : sa_I} {J : sa_J} {s0 : Int32}   (k : P (some (.int s0)) I J) : Sat (ER l D aI aL ad) M_X7_form P 29 [] [.int s0] I J := by
  exact s_iret rfl dX7_form_29 k
theorem bX7_form_30 {l : Launch} {D : va_G} {aI aL : ClassId} {ad : Nat → Nat} {P : sa_P} {I : sa_I} {J : sa_J} {x1 : Int32} {x2 : Int32}   (k : Sat (ER l D aI aL ad) M_X7_form P 31 [(0, .ref (ad 0)), (1, .int x1), (2, .int x2)] [.ref (ad 0)] I J) : Sat (ER l D aI aL ad) M_X7_form P 30 [(0, .ref (ad 0)), (1, .int x1), (2, .int x2)] [] I J := by
  refine s_aload_n 0 dX7_form_30 rfl ?_
  exact k
theorem bX7_form_34 {l : Launch} {D : va_G} {aI aL : ClassId} {ad : Nat → Nat} {P : sa_P} {I : sa_I} {J : sa_J} {x1 : Int32} {x2 : Int32}   (k : Sat (ER l D aI aL ad) M_X7_form P 39 [(0, .ref (ad 0)), (1, .int x1), (2, .int x2)] [.int (I 0 36), .int x1] I J) : Sat (ER l D aI aL ad) M_X7_form P 34 [(0, .ref (ad 0)), (1, .int x1), (2, .int x2)] [] I J := by
  refine s_iload_n 1 dX7_form_34 rfl ?_
  refine s_aload_n 0 dX7_form_35 rfl ?_
  refine g_X7_169 dX7_form_36 rfl ?_
  exact k
theorem bX7_form_42 {l : Launch} {D : va_G} {aI aL : ClassId} {ad : Nat → Nat} {P : sa_P} {I : sa_I} {J : sa_J} {x1 : Int32} {x2 : Int32} {s0 : Int32}   (kt : ¬ s0 = 0 → Sat (ER l D aI aL ad) M_X7_form P 51 [(0, .ref (ad 0)), (1, .int x1), (2, .int x2)] [] I J) (kf : s0 = 0 → Sat (ER l D aI aL ad) M_X7_form P 45 [(0, .ref (ad 0))] [] I J) : Sat (ER l D aI aL ad) M_X7_form P 42 [(0, .ref (ad 0)), (1, .int x1), (2, .int x2)] [.int s0] I J := by
  refine s_if_ne (tgt := 51) dX7_form_42 (by decide) (fun c => ?_) (fun c => ?_)
  · exact kt c
  · refine s_pick [0] [(0, .ref (ad 0))] rfl ?_; exact kf (by first | exact c | exact Classical.not_not.mp c)
theorem bX7_form_45 {l : Launch} {D : va_G} {aI aL : ClassId} {ad : Nat → Nat} {P : sa_P} {I : sa_I} {J : sa_J}    (k : Sat (ER l D aI aL ad) M_X7_form P 47 [] [.int (-1 : Int32), .ref (ad 0)] I J) : Sat (ER l D aI aL ad) M_X7_form P 45 [(0, .ref (ad 0))] [] I J := by
  refine s_aload_n 0 dX7_form_45 rfl ?_
  refine s_iconst (v := -1) dX7_form_46 rfl ?_
  refine s_pick [] [] rfl ?_; exact k
theorem bX7_form_50 {l : Launch} {D : va_G} {aI aL : ClassId} {ad : Nat → Nat} {P : sa_P} {I : sa_I} {J : sa_J} {s0 : Int32}   (k : P (some (.int s0)) I J) : Sat (ER l D aI aL ad) M_X7_form P 50 [] [.int s0] I J := by
  exact s_iret rfl dX7_form_50 k
theorem bX7_form_51 {l : Launch} {D : va_G} {aI aL : ClassId} {ad : Nat → Nat} {P : sa_P} {I : sa_I} {J : sa_J} {x1 : Int32} {x2 : Int32}   (kt : ¬ x2 = 0 → Sat (ER l D aI aL ad) M_X7_form P 64 [(0, .ref (ad 0)), (1, .int x1), (2, .int x2)] [] I J) (kf : x2 = 0 → Sat (ER l D aI aL ad) M_X7_form P 55 [(0, .ref (ad 0)), (1, .int x1)] [] I J) : Sat (ER l D aI aL ad) M_X7_form P 51 [(0, .ref (ad 0)), (1, .int x1), (2, .int x2)] [] I J := by
  refine s_iload_n 2 dX7_form_51 rfl ?_
  refine s_if_ne (tgt := 64) dX7_form_52 (by decide) (fun c => ?_) (fun c => ?_)
  · exact kt c
  · refine s_pick [0, 1] [(0, .ref (ad 0)), (1, .int x1)] rfl ?_; exact kf (by first | exact c | exact Classical.not_not.mp c)
theorem bX7_form_55 {l : Launch} {D : va_G} {aI aL : ClassId} {ad : Nat → Nat} {P : sa_P} {I : sa_I} {J : sa_J} {x1 : Int32} {j59 : Nat} (e59 : x1 = nI j59) (h60 : j59 < 3000)  (k : Sat (ER l D aI aL ad) M_X7_form P 84 [] [.int (I 21 j59)] I J) : Sat (ER l D aI aL ad) M_X7_form P 55 [(0, .ref (ad 0)), (1, .int x1)] [] I J := by
  refine s_aload_n 0 dX7_form_55 rfl ?_
  refine g_X7_71 dX7_form_56 rfl ?_
  refine s_iload_n 1 dX7_form_59 rfl ?_
  refine s_eqi e59 ?_
  refine s_ialoadN aI_R21 h60 (by decide) dX7_form_60 ?_
  refine s_goto (tgt := 84) dX7_form_61 (by decide) ?_
  refine s_pick [] [] rfl ?_; exact k
theorem bX7_form_64 {l : Launch} {D : va_G} {aI aL : ClassId} {ad : Nat → Nat} {P : sa_P} {I : sa_I} {J : sa_J} {x1 : Int32} {x2 : Int32}   (kt : ¬ x2 = (1 : Int32) → Sat (ER l D aI aL ad) M_X7_form P 78 [(0, .ref (ad 0)), (1, .int x1)] [] I J) (kf : x2 = (1 : Int32) → Sat (ER l D aI aL ad) M_X7_form P 69 [(0, .ref (ad 0)), (1, .int x1)] [] I J) : Sat (ER l D aI aL ad) M_X7_form P 64 [(0, .ref (ad 0)), (1, .int x1), (2, .int x2)] [] I J := by
  refine s_iload_n 2 dX7_form_64 rfl ?_
  refine s_iconst (v := 1) dX7_form_65 rfl ?_
  refine s_icmp_ne (tgt := 78) dX7_form_66 (by decide) (fun c => ?_) (fun c => ?_)
  · refine s_pick [0, 1] [(0, .ref (ad 0)), (1, .int x1)] rfl ?_; exact kt c
  · refine s_pick [0, 1] [(0, .ref (ad 0)), (1, .int x1)] rfl ?_; exact kf (by first | exact c | exact Classical.not_not.mp c)
theorem bX7_form_69 {l : Launch} {D : va_G} {aI aL : ClassId} {ad : Nat → Nat} {P : sa_P} {I : sa_I} {J : sa_J} {x1 : Int32} {j73 : Nat} (e73 : x1 = nI j73) (h74 : j73 < 3000)  (k : Sat (ER l D aI aL ad) M_X7_form P 84 [] [.int (I 22 j73)] I J) : Sat (ER l D aI aL ad) M_X7_form P 69 [(0, .ref (ad 0)), (1, .int x1)] [] I J := by
  refine s_aload_n 0 dX7_form_69 rfl ?_
  refine g_X7_74 dX7_form_70 rfl ?_
  refine s_iload_n 1 dX7_form_73 rfl ?_
  refine s_eqi e73 ?_
  refine s_ialoadN aI_R22 h74 (by decide) dX7_form_74 ?_
  refine s_goto (tgt := 84) dX7_form_75 (by decide) ?_
  refine s_pick [] [] rfl ?_; exact k
theorem bX7_form_78 {l : Launch} {D : va_G} {aI aL : ClassId} {ad : Nat → Nat} {P : sa_P} {I : sa_I} {J : sa_J} {x1 : Int32} {j82 : Nat} (e82 : x1 = nI j82) (h83 : j82 < 3000)  (k : Sat (ER l D aI aL ad) M_X7_form P 84 [] [.int (I 23 j82)] I J) : Sat (ER l D aI aL ad) M_X7_form P 78 [(0, .ref (ad 0)), (1, .int x1)] [] I J := by
  refine s_aload_n 0 dX7_form_78 rfl ?_
  refine g_X7_77 dX7_form_79 rfl ?_
  refine s_iload_n 1 dX7_form_82 rfl ?_
  refine s_eqi e82 ?_
  refine s_ialoadN aI_R23 h83 (by decide) dX7_form_83 ?_
  refine s_pick [] [] rfl ?_; exact k
theorem bX7_form_84 {l : Launch} {D : va_G} {aI aL : ClassId} {ad : Nat → Nat} {P : sa_P} {I : sa_I} {J : sa_J} {s0 : Int32}   (k : P (some (.int s0)) I J) : Sat (ER l D aI aL ad) M_X7_form P 84 [] [.int s0] I J := by
  exact s_iret rfl dX7_form_84 k
/-! X7_classOf -/
theorem dX7_classOf_0 : decode cX7_classOf 0 = .ok (.aload_n 0, 1) := by decide +kernel
theorem dX7_classOf_1 : decode cX7_classOf 1 = .ok (.invokevirtual 369, 3) := by decide +kernel
theorem dX7_classOf_4 : decode cX7_classOf 4 = .ok (.istore_n 2, 1) := by decide +kernel
theorem dX7_classOf_5 : decode cX7_classOf 5 = .ok (.iload_n 2, 1) := by decide +kernel
theorem dX7_classOf_6 : decode cX7_classOf 6 = .ok (.ifCond .ne 13, 3) := by decide +kernel
theorem dX7_classOf_9 : decode cX7_classOf 9 = .ok (.aload_n 0, 1) := by decide +kernel
theorem dX7_classOf_10 : decode cX7_classOf 10 = .ok (.iload_n 1, 1) := by decide +kernel
theorem dX7_classOf_11 : decode cX7_classOf 11 = .ok (.invokevirtual 282, 3) := by decide +kernel
theorem dX7_classOf_14 : decode cX7_classOf 14 = .ok (.ifCond .ne 5, 3) := by decide +kernel
theorem dX7_classOf_17 : decode cX7_classOf 17 = .ok (.iconst (-1), 1) := by decide +kernel
theorem dX7_classOf_18 : decode cX7_classOf 18 = .ok (.istore_n 2, 1) := by decide +kernel
theorem dX7_classOf_19 : decode cX7_classOf 19 = .ok (.iload_n 2, 1) := by decide +kernel
theorem dX7_classOf_20 : decode cX7_classOf 20 = .ok (.ifCond .eq 9, 3) := by decide +kernel
theorem dX7_classOf_23 : decode cX7_classOf 23 = .ok (.aload_n 0, 1) := by decide +kernel
theorem dX7_classOf_24 : decode cX7_classOf 24 = .ok (.iload_n 2, 1) := by decide +kernel
theorem dX7_classOf_25 : decode cX7_classOf 25 = .ok (.invokevirtual 84, 3) := by decide +kernel
theorem dX7_classOf_28 : decode cX7_classOf 28 = .ok (.ireturn, 1) := by decide +kernel
theorem dX7_classOf_29 : decode cX7_classOf 29 = .ok (.aload_n 0, 1) := by decide +kernel
theorem dX7_classOf_30 : decode cX7_classOf 30 = .ok (.iload_n 1, 1) := by decide +kernel
theorem dX7_classOf_31 : decode cX7_classOf 31 = .ok (.aload_n 0, 1) := by decide +kernel
theorem dX7_classOf_32 : decode cX7_classOf 32 = .ok (.getfield 53, 3) := by decide +kernel
theorem dX7_classOf_35 : decode cX7_classOf 35 = .ok (.invokevirtual 285, 3) := by decide +kernel
theorem dX7_classOf_38 : decode cX7_classOf 38 = .ok (.aload_n 0, 1) := by decide +kernel
theorem dX7_classOf_39 : decode cX7_classOf 39 = .ok (.invokevirtual 372, 3) := by decide +kernel
theorem dX7_classOf_42 : decode cX7_classOf 42 = .ok (.ireturn, 1) := by decide +kernel
theorem bX7_classOf_0 {l : Launch} {D : va_G} {aI aL : ClassId} {ad : Nat → Nat} {P : sa_P} {I : sa_I} {J : sa_J} {x1 : Int32}   (k : Sat (ER l D aI aL ad) M_X7_classOf P 1 [(0, .ref (ad 0)), (1, .int x1)] [.ref (ad 0)] I J) : Sat (ER l D aI aL ad) M_X7_classOf P 0 [(0, .ref (ad 0)), (1, .int x1)] [] I J := by
  refine s_aload_n 0 dX7_classOf_0 rfl ?_
  exact k
theorem bX7_classOf_4 {l : Launch} {D : va_G} {aI aL : ClassId} {ad : Nat → Nat} {P : sa_P} {I : sa_I} {J : sa_J} {x1 : Int32} {s0 : Int32}   (kt : ¬ s0 = 0 → Sat (ER l D aI aL ad) M_X7_classOf P 19 [(0, .ref (ad 0)), (1, .int x1), (2, .int s0)] [] I J) (kf : s0 = 0 → Sat (ER l D aI aL ad) M_X7_classOf P 9 [(0, .ref (ad 0)), (1, .int x1), (2, .int s0)] [] I J) : Sat (ER l D aI aL ad) M_X7_classOf P 4 [(0, .ref (ad 0)), (1, .int x1)] [.int s0] I J := by
  refine s_istore_n [(2, .int s0), (0, .ref (ad 0)), (1, .int x1)] dX7_classOf_4 (Nat.lt_of_lt_of_le (Nat.lt_succ_self _) (Nat.le_of_ble_eq_true rfl)) rfl ?_
  refine s_iload_n 0 dX7_classOf_5 rfl ?_
  refine s_if_ne (tgt := 19) dX7_classOf_6 (by decide) (fun c => ?_) (fun c => ?_)
  · refine s_pick [1, 2, 0] [(0, .ref (ad 0)), (1, .int x1), (2, .int s0)] rfl ?_; exact kt c
  · refine s_pick [1, 2, 0] [(0, .ref (ad 0)), (1, .int x1), (2, .int s0)] rfl ?_; exact kf (by first | exact c | exact Classical.not_not.mp c)
theorem bX7_classOf_9 {l : Launch} {D : va_G} {aI aL : ClassId} {ad : Nat → Nat} {P : sa_P} {I : sa_I} {J : sa_J} {x1 : Int32} {x2 : Int32}   (k : Sat (ER l D aI aL ad) M_X7_classOf P 11 [(0, .ref (ad 0)), (1, .int x1), (2, .int x2)] [.int x1, .ref (ad 0)] I J) : Sat (ER l D aI aL ad) M_X7_classOf P 9 [(0, .ref (ad 0)), (1, .int x1), (2, .int x2)] [] I J := by
  refine s_aload_n 0 dX7_classOf_9 rfl ?_
  refine s_iload_n 1 dX7_classOf_10 rfl ?_
  exact k
theorem bX7_classOf_14 {l : Launch} {D : va_G} {aI aL : ClassId} {ad : Nat → Nat} {P : sa_P} {I : sa_I} {J : sa_J} {x1 : Int32} {x2 : Int32} {s0 : Int32}   (kt : ¬ s0 = 0 → Sat (ER l D aI aL ad) M_X7_classOf P 19 [(0, .ref (ad 0)), (1, .int x1), (2, .int x2)] [] I J) (kf : s0 = 0 → Sat (ER l D aI aL ad) M_X7_classOf P 17 [(0, .ref (ad 0)), (1, .int x1)] [] I J) : Sat (ER l D aI aL ad) M_X7_classOf P 14 [(0, .ref (ad 0)), (1, .int x1), (2, .int x2)] [.int s0] I J := by
  refine s_if_ne (tgt := 19) dX7_classOf_14 (by decide) (fun c => ?_) (fun c => ?_)
  · exact kt c
  · refine s_pick [0, 1] [(0, .ref (ad 0)), (1, .int x1)] rfl ?_; exact kf (by first | exact c | exact Classical.not_not.mp c)
theorem bX7_classOf_17 {l : Launch} {D : va_G} {aI aL : ClassId} {ad : Nat → Nat} {P : sa_P} {I : sa_I} {J : sa_J} {x1 : Int32} {v18 : Int32}  (f18 : (-1 : Int32) = v18) (k : Sat (ER l D aI aL ad) M_X7_classOf P 19 [(0, .ref (ad 0)), (1, .int x1), (2, .int v18)] [] I J) : Sat (ER l D aI aL ad) M_X7_classOf P 17 [(0, .ref (ad 0)), (1, .int x1)] [] I J := by
  refine s_iconst (v := -1) dX7_classOf_17 rfl ?_
  refine s_eqi f18 ?_
  refine s_istore_n [(2, .int v18), (0, .ref (ad 0)), (1, .int x1)] dX7_classOf_18 (Nat.lt_of_lt_of_le (Nat.lt_succ_self _) (Nat.le_of_ble_eq_true rfl)) rfl ?_
  refine s_pick [1, 2, 0] [(0, .ref (ad 0)), (1, .int x1), (2, .int v18)] rfl ?_; exact k
theorem bX7_classOf_19 {l : Launch} {D : va_G} {aI aL : ClassId} {ad : Nat → Nat} {P : sa_P} {I : sa_I} {J : sa_J} {x1 : Int32} {x2 : Int32}   (kt : x2 = 0 → Sat (ER l D aI aL ad) M_X7_classOf P 29 [(0, .ref (ad 0)), (1, .int x1)] [] I J) (kf : ¬ x2 = 0 → Sat (ER l D aI aL ad) M_X7_classOf P 23 [(0, .ref (ad 0)), (2, .int x2)] [] I J) : Sat (ER l D aI aL ad) M_X7_classOf P 19 [(0, .ref (ad 0)), (1, .int x1), (2, .int x2)] [] I J := by
  refine s_iload_n 2 dX7_classOf_19 rfl ?_
  refine s_if_eq (tgt := 29) dX7_classOf_20 (by decide) (fun c => ?_) (fun c => ?_)
  · refine s_pick [0, 1] [(0, .ref (ad 0)), (1, .int x1)] rfl ?_; exact kt c
  · refine s_pick [0, 2] [(0, .ref (ad 0)), (2, .int x2)] rfl ?_; exact kf c
theorem bX7_classOf_23 {l : Launch} {D : va_G} {aI aL : ClassId} {ad : Nat → Nat} {P : sa_P} {I : sa_I} {J : sa_J} {x2 : Int32}   (k : Sat (ER l D aI aL ad) M_X7_classOf P 25 [] [.int x2, .ref (ad 0)] I J) : Sat (ER l D aI aL ad) M_X7_classOf P 23 [(0, .ref (ad 0)), (2, .int x2)] [] I J := by
  refine s_aload_n 0 dX7_classOf_23 rfl ?_
  refine s_iload_n 1 dX7_classOf_24 rfl ?_
  refine s_pick [] [] rfl ?_; exact k
theorem bX7_classOf_28 {l : Launch} {D : va_G} {aI aL : ClassId} {ad : Nat → Nat} {P : sa_P} {I : sa_I} {J : sa_J} {s0 : Int32}   (k : P (some (.int s0)) I J) : Sat (ER l D aI aL ad) M_X7_classOf P 28 [] [.int s0] I J := by
  exact s_iret rfl dX7_classOf_28 k
theorem bX7_classOf_29 {l : Launch} {D : va_G} {aI aL : ClassId} {ad : Nat → Nat} {P : sa_P} {I : sa_I} {J : sa_J} {x1 : Int32}   (k : Sat (ER l D aI aL ad) M_X7_classOf P 35 [(0, .ref (ad 0))] [.ref (ad 15), .int x1, .ref (ad 0)] I J) : Sat (ER l D aI aL ad) M_X7_classOf P 29 [(0, .ref (ad 0)), (1, .int x1)] [] I J := by
  refine s_aload_n 0 dX7_classOf_29 rfl ?_
  refine s_iload_n 1 dX7_classOf_30 rfl ?_
  refine s_aload_n 0 dX7_classOf_31 rfl ?_
  refine g_X7_53 dX7_classOf_32 rfl ?_
  refine s_pick [0] [(0, .ref (ad 0))] rfl ?_; exact k
theorem bX7_classOf_38 {l : Launch} {D : va_G} {aI aL : ClassId} {ad : Nat → Nat} {P : sa_P} {I : sa_I} {J : sa_J}    (k : Sat (ER l D aI aL ad) M_X7_classOf P 39 [] [.ref (ad 0)] I J) : Sat (ER l D aI aL ad) M_X7_classOf P 38 [(0, .ref (ad 0))] [] I J := by
  refine s_aload_n 0 dX7_classOf_38 rfl ?_
  refine s_pick [] [] rfl ?_; exact k
theorem bX7_classOf_42 {l : Launch} {D : va_G} {aI aL : ClassId} {ad : Nat → Nat} {P : sa_P} {I : sa_I} {J : sa_J} {s0 : Int32}   (k : P (some (.int s0)) I J) : Sat (ER l D aI aL ad) M_X7_classOf P 42 [] [.int s0] I J := by
  exact s_iret rfl dX7_classOf_42 k
/-! X7_order -/
theorem dX7_order_0 : decode cX7_order 0 = .ok (.aload_n 0, 1) := by decide +kernel
theorem dX7_order_1 : decode cX7_order 1 = .ok (.invokevirtual 369, 3) := by decide +kernel
theorem dX7_order_4 : decode cX7_order 4 = .ok (.istore_n 2, 1) := by decide +kernel
theorem dX7_order_5 : decode cX7_order 5 = .ok (.iload_n 2, 1) := by decide +kernel
theorem dX7_order_6 : decode cX7_order 6 = .ok (.ifCond .ne 13, 3) := by decide +kernel
theorem dX7_order_9 : decode cX7_order 9 = .ok (.aload_n 0, 1) := by decide +kernel
theorem dX7_order_10 : decode cX7_order 10 = .ok (.iload_n 1, 1) := by decide +kernel
theorem dX7_order_11 : decode cX7_order 11 = .ok (.invokevirtual 282, 3) := by decide +kernel
theorem dX7_order_14 : decode cX7_order 14 = .ok (.ifCond .ne 5, 3) := by decide +kernel
theorem dX7_order_17 : decode cX7_order 17 = .ok (.iconst (-1), 1) := by decide +kernel
theorem dX7_order_18 : decode cX7_order 18 = .ok (.istore_n 2, 1) := by decide +kernel
theorem dX7_order_19 : decode cX7_order 19 = .ok (.iload_n 2, 1) := by decide +kernel
theorem dX7_order_20 : decode cX7_order 20 = .ok (.ifCond .eq 9, 3) := by decide +kernel
theorem dX7_order_23 : decode cX7_order 23 = .ok (.aload_n 0, 1) := by decide +kernel
theorem dX7_order_24 : decode cX7_order 24 = .ok (.iload_n 2, 1) := by decide +kernel
theorem dX7_order_25 : decode cX7_order 25 = .ok (.invokevirtual 84, 3) := by decide +kernel
theorem dX7_order_28 : decode cX7_order 28 = .ok (.ireturn, 1) := by decide +kernel
theorem dX7_order_29 : decode cX7_order 29 = .ok (.aload_n 0, 1) := by decide +kernel
theorem dX7_order_30 : decode cX7_order 30 = .ok (.lconst 1, 1) := by decide +kernel
theorem dX7_order_31 : decode cX7_order 31 = .ok (.aload_n 0, 1) := by decide +kernel
theorem dX7_order_32 : decode cX7_order 32 = .ok (.getfield 53, 3) := by decide +kernel
theorem dX7_order_35 : decode cX7_order 35 = .ok (.invokevirtual 310, 3) := by decide +kernel
theorem dX7_order_38 : decode cX7_order 38 = .ok (.aload_n 0, 1) := by decide +kernel
theorem dX7_order_39 : decode cX7_order 39 = .ok (.invokevirtual 372, 3) := by decide +kernel
theorem dX7_order_42 : decode cX7_order 42 = .ok (.istore_n 3, 1) := by decide +kernel
theorem dX7_order_43 : decode cX7_order 43 = .ok (.aload_n 0, 1) := by decide +kernel
theorem dX7_order_44 : decode cX7_order 44 = .ok (.iload_n 1, 1) := by decide +kernel
theorem dX7_order_45 : decode cX7_order 45 = .ok (.aload_n 0, 1) := by decide +kernel
theorem dX7_order_46 : decode cX7_order 46 = .ok (.getfield 53, 3) := by decide +kernel
theorem dX7_order_49 : decode cX7_order 49 = .ok (.invokevirtual 285, 3) := by decide +kernel
theorem dX7_order_52 : decode cX7_order 52 = .ok (.aload_n 0, 1) := by decide +kernel
theorem dX7_order_53 : decode cX7_order 53 = .ok (.invokevirtual 372, 3) := by decide +kernel
theorem dX7_order_56 : decode cX7_order 56 = .ok (.istore 4, 2) := by decide +kernel
theorem dX7_order_58 : decode cX7_order 58 = .ok (.iload 4, 2) := by decide +kernel
theorem dX7_order_60 : decode cX7_order 60 = .ok (.istore 5, 2) := by decide +kernel
theorem dX7_order_62 : decode cX7_order 62 = .ok (.iconst 1, 1) := by decide +kernel
theorem dX7_order_63 : decode cX7_order 63 = .ok (.istore 6, 2) := by decide +kernel
theorem dX7_order_65 : decode cX7_order 65 = .ok (.iload 5, 2) := by decide +kernel
theorem dX7_order_67 : decode cX7_order 67 = .ok (.iload_n 3, 1) := by decide +kernel
theorem dX7_order_68 : decode cX7_order 68 = .ok (.if_icmp .eq 55, 3) := by decide +kernel
theorem dX7_order_71 : decode cX7_order 71 = .ok (.aload_n 0, 1) := by decide +kernel
theorem dX7_order_72 : decode cX7_order 72 = .ok (.iload 4, 2) := by decide +kernel
theorem dX7_order_74 : decode cX7_order 74 = .ok (.invokevirtual 375, 3) := by decide +kernel
theorem dX7_order_77 : decode cX7_order 77 = .ok (.aload_n 0, 1) := by decide +kernel
theorem dX7_order_78 : decode cX7_order 78 = .ok (.aload_n 0, 1) := by decide +kernel
theorem dX7_order_79 : decode cX7_order 79 = .ok (.getfield 53, 3) := by decide +kernel
theorem dX7_order_82 : decode cX7_order 82 = .ok (.aload_n 0, 1) := by decide +kernel
theorem dX7_order_83 : decode cX7_order 83 = .ok (.getfield 56, 3) := by decide +kernel
theorem dX7_order_86 : decode cX7_order 86 = .ok (.invokevirtual 321, 3) := by decide +kernel
theorem dX7_order_89 : decode cX7_order 89 = .ok (.aload_n 0, 1) := by decide +kernel
theorem dX7_order_90 : decode cX7_order 90 = .ok (.iload 5, 2) := by decide +kernel
theorem dX7_order_92 : decode cX7_order 92 = .ok (.invokevirtual 375, 3) := by decide +kernel
theorem dX7_order_95 : decode cX7_order 95 = .ok (.aload_n 0, 1) := by decide +kernel
theorem dX7_order_96 : decode cX7_order 96 = .ok (.invokevirtual 294, 3) := by decide +kernel
theorem dX7_order_99 : decode cX7_order 99 = .ok (.aload_n 0, 1) := by decide +kernel
theorem dX7_order_100 : decode cX7_order 100 = .ok (.aload_n 0, 1) := by decide +kernel
theorem dX7_order_101 : decode cX7_order 101 = .ok (.getfield 50, 3) := by decide +kernel
theorem dX7_order_104 : decode cX7_order 104 = .ok (.aload_n 0, 1) := by decide +kernel
theorem dX7_order_105 : decode cX7_order 105 = .ok (.getfield 53, 3) := by decide +kernel
theorem dX7_order_108 : decode cX7_order 108 = .ok (.invokevirtual 321, 3) := by decide +kernel
theorem dX7_order_111 : decode cX7_order 111 = .ok (.aload_n 0, 1) := by decide +kernel
theorem dX7_order_112 : decode cX7_order 112 = .ok (.invokevirtual 372, 3) := by decide +kernel
theorem dX7_order_115 : decode cX7_order 115 = .ok (.istore 5, 2) := by decide +kernel
theorem dX7_order_117 : decode cX7_order 117 = .ok (.iinc 6 1, 3) := by decide +kernel
theorem dX7_order_120 : decode cX7_order 120 = .ok (.goto (-55), 3) := by decide +kernel
theorem dX7_order_123 : decode cX7_order 123 = .ok (.iload 6, 2) := by decide +kernel
theorem dX7_order_125 : decode cX7_order 125 = .ok (.ireturn, 1) := by decide +kernel
theorem bX7_order_0 {l : Launch} {D : va_G} {aI aL : ClassId} {ad : Nat → Nat} {P : sa_P} {I : sa_I} {J : sa_J} {x1 : Int32}   (k : Sat (ER l D aI aL ad) M_X7_order P 1 [(0, .ref (ad 0)), (1, .int x1)] [.ref (ad 0)] I J) : Sat (ER l D aI aL ad) M_X7_order P 0 [(0, .ref (ad 0)), (1, .int x1)] [] I J := by
  refine s_aload_n 0 dX7_order_0 rfl ?_
  exact k
theorem bX7_order_4 {l : Launch} {D : va_G} {aI aL : ClassId} {ad : Nat → Nat} {P : sa_P} {I : sa_I} {J : sa_J} {x1 : Int32} {s0 : Int32}   (kt : ¬ s0 = 0 → Sat (ER l D aI aL ad) M_X7_order P 19 [(0, .ref (ad 0)), (1, .int x1), (2, .int s0)] [] I J) (kf : s0 = 0 → Sat (ER l D aI aL ad) M_X7_order P 9 [(0, .ref (ad 0)), (1, .int x1), (2, .int s0)] [] I J) : Sat (ER l D aI aL ad) M_X7_order P 4 [(0, .ref (ad 0)), (1, .int x1)] [.int s0] I J := by
  refine s_istore_n [(2, .int s0), (0, .ref (ad 0)), (1, .int x1)] dX7_order_4 (Nat.lt_of_lt_of_le (Nat.lt_succ_self _) (Nat.le_of_ble_eq_true rfl)) rfl ?_
  refine s_iload_n 0 dX7_order_5 rfl ?_
  refine s_if_ne (tgt := 19) dX7_order_6 (by decide) (fun c => ?_) (fun c => ?_)
  · refine s_pick [1, 2, 0] [(0, .ref (ad 0)), (1, .int x1), (2, .int s0)] rfl ?_; exact kt c
  · refine s_pick [1, 2, 0] [(0, .ref (ad 0)), (1, .int x1), (2, .int s0)] rfl ?_; exact kf (by first | exact c | exact Classical.not_not.mp c)
theorem bX7_order_9 {l : Launch} {D : va_G} {aI aL : ClassId} {ad : Nat → Nat} {P : sa_P} {I : sa_I} {J : sa_J} {x1 : Int32} {x2 : Int32}   (k : Sat (ER l D aI aL ad) M_X7_order P 11 [(0, .ref (ad 0)), (1, .int x1), (2, .int x2)] [.int x1, .ref (ad 0)] I J) : Sat (ER l D aI aL ad) M_X7_order P 9 [(0, .ref (ad 0)), (1, .int x1), (2, .int x2)] [] I J := by
  refine s_aload_n 0 dX7_order_9 rfl ?_
  refine s_iload_n 1 dX7_order_10 rfl ?_
  exact k
theorem bX7_order_14 {l : Launch} {D : va_G} {aI aL : ClassId} {ad : Nat → Nat} {P : sa_P} {I : sa_I} {J : sa_J} {x1 : Int32} {x2 : Int32} {s0 : Int32}   (kt : ¬ s0 = 0 → Sat (ER l D aI aL ad) M_X7_order P 19 [(0, .ref (ad 0)), (1, .int x1), (2, .int x2)] [] I J) (kf : s0 = 0 → Sat (ER l D aI aL ad) M_X7_order P 17 [(0, .ref (ad 0)), (1, .int x1)] [] I J) : Sat (ER l D aI aL ad) M_X7_order P 14 [(0, .ref (ad 0)), (1, .int x1), (2, .int x2)] [.int s0] I J := by
  refine s_if_ne (tgt := 19) dX7_order_14 (by decide) (fun c => ?_) (fun c => ?_)
  · exact kt c
  · refine s_pick [0, 1] [(0, .ref (ad 0)), (1, .int x1)] rfl ?_; exact kf (by first | exact c | exact Classical.not_not.mp c)
theorem bX7_order_17 {l : Launch} {D : va_G} {aI aL : ClassId} {ad : Nat → Nat} {P : sa_P} {I : sa_I} {J : sa_J} {x1 : Int32} {v18 : Int32}  (f18 : (-1 : Int32) = v18) (k : Sat (ER l D aI aL ad) M_X7_order P 19 [(0, .ref (ad 0)), (1, .int x1), (2, .int v18)] [] I J) : Sat (ER l D aI aL ad) M_X7_order P 17 [(0, .ref (ad 0)), (1, .int x1)] [] I J := by
  refine s_iconst (v := -1) dX7_order_17 rfl ?_
  refine s_eqi f18 ?_
  refine s_istore_n [(2, .int v18), (0, .ref (ad 0)), (1, .int x1)] dX7_order_18 (Nat.lt_of_lt_of_le (Nat.lt_succ_self _) (Nat.le_of_ble_eq_true rfl)) rfl ?_
  refine s_pick [1, 2, 0] [(0, .ref (ad 0)), (1, .int x1), (2, .int v18)] rfl ?_; exact k
theorem bX7_order_19 {l : Launch} {D : va_G} {aI aL : ClassId} {ad : Nat → Nat} {P : sa_P} {I : sa_I} {J : sa_J} {x1 : Int32} {x2 : Int32}   (kt : x2 = 0 → Sat (ER l D aI aL ad) M_X7_order P 29 [(0, .ref (ad 0)), (1, .int x1)] [] I J) (kf : ¬ x2 = 0 → Sat (ER l D aI aL ad) M_X7_order P 23 [(0, .ref (ad 0)), (2, .int x2)] [] I J) : Sat (ER l D aI aL ad) M_X7_order P 19 [(0, .ref (ad 0)), (1, .int x1), (2, .int x2)] [] I J := by
  refine s_iload_n 2 dX7_order_19 rfl ?_
  refine s_if_eq (tgt := 29) dX7_order_20 (by decide) (fun c => ?_) (fun c => ?_)
  · refine s_pick [0, 1] [(0, .ref (ad 0)), (1, .int x1)] rfl ?_; exact kt c
  · refine s_pick [0, 2] [(0, .ref (ad 0)), (2, .int x2)] rfl ?_; exact kf c
theorem bX7_order_23 {l : Launch} {D : va_G} {aI aL : ClassId} {ad : Nat → Nat} {P : sa_P} {I : sa_I} {J : sa_J} {x2 : Int32}   (k : Sat (ER l D aI aL ad) M_X7_order P 25 [] [.int x2, .ref (ad 0)] I J) : Sat (ER l D aI aL ad) M_X7_order P 23 [(0, .ref (ad 0)), (2, .int x2)] [] I J := by
  refine s_aload_n 0 dX7_order_23 rfl ?_
  refine s_iload_n 1 dX7_order_24 rfl ?_
  refine s_pick [] [] rfl ?_; exact k
theorem bX7_order_28 {l : Launch} {D : va_G} {aI aL : ClassId} {ad : Nat → Nat} {P : sa_P} {I : sa_I} {J : sa_J} {s0 : Int32}   (k : P (some (.int s0)) I J) : Sat (ER l D aI aL ad) M_X7_order P 28 [] [.int s0] I J := by
  exact s_iret rfl dX7_order_28 k
theorem bX7_order_29 {l : Launch} {D : va_G} {aI aL : ClassId} {ad : Nat → Nat} {P : sa_P} {I : sa_I} {J : sa_J} {x1 : Int32}   (k : Sat (ER l D aI aL ad) M_X7_order P 35 [(0, .ref (ad 0)), (1, .int x1)] [.ref (ad 15), .long (1 : Int64), .ref (ad 0)] I J) : Sat (ER l D aI aL ad) M_X7_order P 29 [(0, .ref (ad 0)), (1, .int x1)] [] I J := by
  refine s_aload_n 0 dX7_order_29 rfl ?_
  refine s_lconst (v := 1) dX7_order_30 rfl ?_
  refine s_aload_n 0 dX7_order_31 rfl ?_
  refine g_X7_53 dX7_order_32 rfl ?_
  exact k
theorem bX7_order_38 {l : Launch} {D : va_G} {aI aL : ClassId} {ad : Nat → Nat} {P : sa_P} {I : sa_I} {J : sa_J} {x1 : Int32}   (k : Sat (ER l D aI aL ad) M_X7_order P 39 [(0, .ref (ad 0)), (1, .int x1)] [.ref (ad 0)] I J) : Sat (ER l D aI aL ad) M_X7_order P 38 [(0, .ref (ad 0)), (1, .int x1)] [] I J := by
  refine s_aload_n 0 dX7_order_38 rfl ?_
  exact k
theorem bX7_order_42 {l : Launch} {D : va_G} {aI aL : ClassId} {ad : Nat → Nat} {P : sa_P} {I : sa_I} {J : sa_J} {x1 : Int32} {s0 : Int32}   (k : Sat (ER l D aI aL ad) M_X7_order P 49 [(0, .ref (ad 0)), (3, .int s0)] [.ref (ad 15), .int x1, .ref (ad 0)] I J) : Sat (ER l D aI aL ad) M_X7_order P 42 [(0, .ref (ad 0)), (1, .int x1)] [.int s0] I J := by
  refine s_istore_n [(3, .int s0), (0, .ref (ad 0)), (1, .int x1)] dX7_order_42 (Nat.lt_of_lt_of_le (Nat.lt_succ_self _) (Nat.le_of_ble_eq_true rfl)) rfl ?_
  refine s_aload_n 1 dX7_order_43 rfl ?_
  refine s_iload_n 2 dX7_order_44 rfl ?_
  refine s_aload_n 1 dX7_order_45 rfl ?_
  refine g_X7_53 dX7_order_46 rfl ?_
  refine s_pick [1, 0] [(0, .ref (ad 0)), (3, .int s0)] rfl ?_; exact k
theorem bX7_order_52 {l : Launch} {D : va_G} {aI aL : ClassId} {ad : Nat → Nat} {P : sa_P} {I : sa_I} {J : sa_J} {x3 : Int32}   (k : Sat (ER l D aI aL ad) M_X7_order P 53 [(0, .ref (ad 0)), (3, .int x3)] [.ref (ad 0)] I J) : Sat (ER l D aI aL ad) M_X7_order P 52 [(0, .ref (ad 0)), (3, .int x3)] [] I J := by
  refine s_aload_n 0 dX7_order_52 rfl ?_
  exact k
theorem bX7_order_56 {l : Launch} {D : va_G} {aI aL : ClassId} {ad : Nat → Nat} {P : sa_P} {I : sa_I} {J : sa_J} {x3 : Int32} {s0 : Int32} {v63 : Int32}  (f63 : (1 : Int32) = v63) (k : Sat (ER l D aI aL ad) M_X7_order P 65 [(0, .ref (ad 0)), (3, .int x3), (4, .int s0), (5, .int s0), (6, .int v63)] [] I J) : Sat (ER l D aI aL ad) M_X7_order P 56 [(0, .ref (ad 0)), (3, .int x3)] [.int s0] I J := by
  refine s_istore [(4, .int s0), (0, .ref (ad 0)), (3, .int x3)] dX7_order_56 (Nat.lt_of_lt_of_le (Nat.lt_succ_self _) (Nat.le_of_ble_eq_true rfl)) rfl ?_
  refine s_iload 0 dX7_order_58 rfl ?_
  refine s_istore [(5, .int s0), (4, .int s0), (0, .ref (ad 0)), (3, .int x3)] dX7_order_60 (Nat.lt_of_lt_of_le (Nat.lt_succ_self _) (Nat.le_of_ble_eq_true rfl)) rfl ?_
  refine s_iconst (v := 1) dX7_order_62 rfl ?_
  refine s_eqi f63 ?_
  refine s_istore [(6, .int v63), (5, .int s0), (4, .int s0), (0, .ref (ad 0)), (3, .int x3)] dX7_order_63 (Nat.lt_of_lt_of_le (Nat.lt_succ_self _) (Nat.le_of_ble_eq_true rfl)) rfl ?_
  refine s_pick [3, 4, 2, 1, 0] [(0, .ref (ad 0)), (3, .int x3), (4, .int s0), (5, .int s0), (6, .int v63)] rfl ?_; exact k
theorem bX7_order_65 {l : Launch} {D : va_G} {aI aL : ClassId} {ad : Nat → Nat} {P : sa_P} {I : sa_I} {J : sa_J} {x3 : Int32} {x4 : Int32} {x5 : Int32} {x6 : Int32}   (kt : x5 = x3 → Sat (ER l D aI aL ad) M_X7_order P 123 [(6, .int x6)] [] I J) (kf : ¬ x5 = x3 → Sat (ER l D aI aL ad) M_X7_order P 71 [(0, .ref (ad 0)), (3, .int x3), (4, .int x4), (5, .int x5), (6, .int x6)] [] I J) : Sat (ER l D aI aL ad) M_X7_order P 65 [(0, .ref (ad 0)), (3, .int x3), (4, .int x4), (5, .int x5), (6, .int x6)] [] I J := by
  refine s_iload 3 dX7_order_65 rfl ?_
  refine s_iload_n 1 dX7_order_67 rfl ?_
  refine s_icmp_eq (tgt := 123) dX7_order_68 (by decide) (fun c => ?_) (fun c => ?_)
  · refine s_pick [4] [(6, .int x6)] rfl ?_; exact kt c
  · exact kf c
theorem bX7_order_71 {l : Launch} {D : va_G} {aI aL : ClassId} {ad : Nat → Nat} {P : sa_P} {I : sa_I} {J : sa_J} {x3 : Int32} {x4 : Int32} {x5 : Int32} {x6 : Int32}   (k : Sat (ER l D aI aL ad) M_X7_order P 74 [(0, .ref (ad 0)), (3, .int x3), (4, .int x4), (5, .int x5), (6, .int x6)] [.int x4, .ref (ad 0)] I J) : Sat (ER l D aI aL ad) M_X7_order P 71 [(0, .ref (ad 0)), (3, .int x3), (4, .int x4), (5, .int x5), (6, .int x6)] [] I J := by
  refine s_aload_n 0 dX7_order_71 rfl ?_
  refine s_iload 2 dX7_order_72 rfl ?_
  exact k
theorem bX7_order_77 {l : Launch} {D : va_G} {aI aL : ClassId} {ad : Nat → Nat} {P : sa_P} {I : sa_I} {J : sa_J} {x3 : Int32} {x4 : Int32} {x5 : Int32} {x6 : Int32}   (k : Sat (ER l D aI aL ad) M_X7_order P 86 [(0, .ref (ad 0)), (3, .int x3), (4, .int x4), (5, .int x5), (6, .int x6)] [.ref (ad 16), .ref (ad 15), .ref (ad 0)] I J) : Sat (ER l D aI aL ad) M_X7_order P 77 [(0, .ref (ad 0)), (3, .int x3), (4, .int x4), (5, .int x5), (6, .int x6)] [] I J := by
  refine s_aload_n 0 dX7_order_77 rfl ?_
  refine s_aload_n 0 dX7_order_78 rfl ?_
  refine g_X7_53 dX7_order_79 rfl ?_
  refine s_aload_n 0 dX7_order_82 rfl ?_
  refine g_X7_56 dX7_order_83 rfl ?_
  exact k
theorem bX7_order_89 {l : Launch} {D : va_G} {aI aL : ClassId} {ad : Nat → Nat} {P : sa_P} {I : sa_I} {J : sa_J} {x3 : Int32} {x4 : Int32} {x5 : Int32} {x6 : Int32}   (k : Sat (ER l D aI aL ad) M_X7_order P 92 [(0, .ref (ad 0)), (3, .int x3), (4, .int x4), (6, .int x6)] [.int x5, .ref (ad 0)] I J) : Sat (ER l D aI aL ad) M_X7_order P 89 [(0, .ref (ad 0)), (3, .int x3), (4, .int x4), (5, .int x5), (6, .int x6)] [] I J := by
  refine s_aload_n 0 dX7_order_89 rfl ?_
  refine s_iload 3 dX7_order_90 rfl ?_
  refine s_pick [0, 1, 2, 4] [(0, .ref (ad 0)), (3, .int x3), (4, .int x4), (6, .int x6)] rfl ?_; exact k
theorem bX7_order_95 {l : Launch} {D : va_G} {aI aL : ClassId} {ad : Nat → Nat} {P : sa_P} {I : sa_I} {J : sa_J} {x3 : Int32} {x4 : Int32} {x6 : Int32}   (k : Sat (ER l D aI aL ad) M_X7_order P 96 [(0, .ref (ad 0)), (3, .int x3), (4, .int x4), (6, .int x6)] [.ref (ad 0)] I J) : Sat (ER l D aI aL ad) M_X7_order P 95 [(0, .ref (ad 0)), (3, .int x3), (4, .int x4), (6, .int x6)] [] I J := by
  refine s_aload_n 0 dX7_order_95 rfl ?_
  exact k
theorem bX7_order_99 {l : Launch} {D : va_G} {aI aL : ClassId} {ad : Nat → Nat} {P : sa_P} {I : sa_I} {J : sa_J} {x3 : Int32} {x4 : Int32} {x6 : Int32}   (k : Sat (ER l D aI aL ad) M_X7_order P 108 [(0, .ref (ad 0)), (3, .int x3), (4, .int x4), (6, .int x6)] [.ref (ad 15), .ref (ad 14), .ref (ad 0)] I J) : Sat (ER l D aI aL ad) M_X7_order P 99 [(0, .ref (ad 0)), (3, .int x3), (4, .int x4), (6, .int x6)] [] I J := by
  refine s_aload_n 0 dX7_order_99 rfl ?_
  refine s_aload_n 0 dX7_order_100 rfl ?_
  refine g_X7_50 dX7_order_101 rfl ?_
  refine s_aload_n 0 dX7_order_104 rfl ?_
  refine g_X7_53 dX7_order_105 rfl ?_
  exact k
theorem bX7_order_111 {l : Launch} {D : va_G} {aI aL : ClassId} {ad : Nat → Nat} {P : sa_P} {I : sa_I} {J : sa_J} {x3 : Int32} {x4 : Int32} {x6 : Int32}   (k : Sat (ER l D aI aL ad) M_X7_order P 112 [(0, .ref (ad 0)), (3, .int x3), (4, .int x4), (6, .int x6)] [.ref (ad 0)] I J) : Sat (ER l D aI aL ad) M_X7_order P 111 [(0, .ref (ad 0)), (3, .int x3), (4, .int x4), (6, .int x6)] [] I J := by
  refine s_aload_n 0 dX7_order_111 rfl ?_
  exact k
theorem bX7_order_115 {l : Launch} {D : va_G} {aI aL : ClassId} {ad : Nat → Nat} {P : sa_P} {I : sa_I} {J : sa_J} {x3 : Int32} {x4 : Int32} {x6 : Int32} {s0 : Int32} {v117 : Int32}  (f117 : x6 + 1 = v117) (k : Sat (ER l D aI aL ad) M_X7_order P 65 [(0, .ref (ad 0)), (3, .int x3), (4, .int x4), (5, .int s0), (6, .int v117)] [] I J) : Sat (ER l D aI aL ad) M_X7_order P 115 [(0, .ref (ad 0)), (3, .int x3), (4, .int x4), (6, .int x6)] [.int s0] I J := by
  refine s_istore [(5, .int s0), (0, .ref (ad 0)), (3, .int x3), (4, .int x4), (6, .int x6)] dX7_order_115 (Nat.lt_of_lt_of_le (Nat.lt_succ_self _) (Nat.le_of_ble_eq_true rfl)) rfl ?_
  refine s_iinc 4 v117 [(6, .int v117), (5, .int s0), (0, .ref (ad 0)), (3, .int x3), (4, .int x4)] dX7_order_117 rfl f117 (Nat.lt_of_lt_of_le (Nat.lt_succ_self _) (Nat.le_of_ble_eq_true rfl)) rfl ?_
  refine s_goto (tgt := 65) dX7_order_120 (by decide) ?_
  refine s_pick [2, 3, 4, 1, 0] [(0, .ref (ad 0)), (3, .int x3), (4, .int x4), (5, .int s0), (6, .int v117)] rfl ?_; exact k
theorem bX7_order_123 {l : Launch} {D : va_G} {aI aL : ClassId} {ad : Nat → Nat} {P : sa_P} {I : sa_I} {J : sa_J} {x6 : Int32}   (k : P (some (.int x6)) I J) : Sat (ER l D aI aL ad) M_X7_order P 123 [(6, .int x6)] [] I J := by
  refine s_iload 0 dX7_order_123 rfl ?_
  exact s_iret rfl dX7_order_125 k
/-! X7_first -/
theorem dX7_first_0 : decode cX7_first 0 = .ok (.aload_n 0, 1) := by decide +kernel
theorem dX7_first_1 : decode cX7_first 1 = .ok (.invokevirtual 203, 3) := by decide +kernel
theorem dX7_first_4 : decode cX7_first 4 = .ok (.ifCond .ne 10, 3) := by decide +kernel
theorem dX7_first_7 : decode cX7_first 7 = .ok (.aload_n 0, 1) := by decide +kernel
theorem dX7_first_8 : decode cX7_first 8 = .ok (.bipush (-3), 2) := by decide +kernel
theorem dX7_first_10 : decode cX7_first 10 = .ok (.invokevirtual 206, 3) := by decide +kernel
theorem dX7_first_13 : decode cX7_first 13 = .ok (.lreturn, 1) := by decide +kernel
theorem dX7_first_14 : decode cX7_first 14 = .ok (.aload_n 0, 1) := by decide +kernel
theorem dX7_first_15 : decode cX7_first 15 = .ok (.getfield 101, 3) := by decide +kernel
theorem dX7_first_18 : decode cX7_first 18 = .ok (.iconst 2, 1) := by decide +kernel
theorem dX7_first_19 : decode cX7_first 19 = .ok (.if_icmp .ne 20, 3) := by decide +kernel
theorem dX7_first_22 : decode cX7_first 22 = .ok (.aload_n 0, 1) := by decide +kernel
theorem dX7_first_23 : decode cX7_first 23 = .ok (.getfield 157, 3) := by decide +kernel
theorem dX7_first_26 : decode cX7_first 26 = .ok (.lconst 0, 1) := by decide +kernel
theorem dX7_first_27 : decode cX7_first 27 = .ok (.lcmp, 1) := by decide +kernel
theorem dX7_first_28 : decode cX7_first 28 = .ok (.ifCond .lt 11, 3) := by decide +kernel
theorem dX7_first_31 : decode cX7_first 31 = .ok (.iload_n 1, 1) := by decide +kernel
theorem dX7_first_32 : decode cX7_first 32 = .ok (.iconst 3, 1) := by decide +kernel
theorem dX7_first_33 : decode cX7_first 33 = .ok (.invokestatic 210, 3) := by decide +kernel
theorem dX7_first_36 : decode cX7_first 36 = .ok (.ifCond .ne 10, 3) := by decide +kernel
theorem dX7_first_39 : decode cX7_first 39 = .ok (.aload_n 0, 1) := by decide +kernel
theorem dX7_first_40 : decode cX7_first 40 = .ok (.bipush (-2), 2) := by decide +kernel
theorem dX7_first_42 : decode cX7_first 42 = .ok (.invokevirtual 206, 3) := by decide +kernel
theorem dX7_first_45 : decode cX7_first 45 = .ok (.lreturn, 1) := by decide +kernel
theorem dX7_first_46 : decode cX7_first 46 = .ok (.aload_n 0, 1) := by decide +kernel
theorem dX7_first_47 : decode cX7_first 47 = .ok (.getfield 157, 3) := by decide +kernel
theorem dX7_first_50 : decode cX7_first 50 = .ok (.invokestatic 98, 3) := by decide +kernel
theorem dX7_first_53 : decode cX7_first 53 = .ok (.lstore_n 2, 1) := by decide +kernel
theorem dX7_first_54 : decode cX7_first 54 = .ok (.aload_n 0, 1) := by decide +kernel
theorem dX7_first_55 : decode cX7_first 55 = .ok (.invokevirtual 363, 3) := by decide +kernel
theorem dX7_first_58 : decode cX7_first 58 = .ok (.lstore 4, 2) := by decide +kernel
theorem dX7_first_60 : decode cX7_first 60 = .ok (.lload 4, 2) := by decide +kernel
theorem dX7_first_62 : decode cX7_first 62 = .ok (.lstore 6, 2) := by decide +kernel
theorem dX7_first_64 : decode cX7_first 64 = .ok (.ldc2_w 355, 3) := by decide +kernel
theorem dX7_first_67 : decode cX7_first 67 = .ok (.lstore 8, 2) := by decide +kernel
theorem dX7_first_69 : decode cX7_first 69 = .ok (.lconst 1, 1) := by decide +kernel
theorem dX7_first_70 : decode cX7_first 70 = .ok (.lstore 10, 2) := by decide +kernel
theorem dX7_first_72 : decode cX7_first 72 = .ok (.lconst 0, 1) := by decide +kernel
theorem dX7_first_73 : decode cX7_first 73 = .ok (.lstore 12, 2) := by decide +kernel
theorem dX7_first_75 : decode cX7_first 75 = .ok (.lconst 0, 1) := by decide +kernel
theorem dX7_first_76 : decode cX7_first 76 = .ok (.lstore 14, 2) := by decide +kernel
theorem dX7_first_78 : decode cX7_first 78 = .ok (.lconst 1, 1) := by decide +kernel
theorem dX7_first_79 : decode cX7_first 79 = .ok (.lstore 16, 2) := by decide +kernel
theorem dX7_first_81 : decode cX7_first 81 = .ok (.lconst 1, 1) := by decide +kernel
theorem dX7_first_82 : decode cX7_first 82 = .ok (.lstore 18, 2) := by decide +kernel
theorem dX7_first_84 : decode cX7_first 84 = .ok (.iconst 1, 1) := by decide +kernel
theorem dX7_first_85 : decode cX7_first 85 = .ok (.istore 20, 2) := by decide +kernel
theorem dX7_first_87 : decode cX7_first 87 = .ok (.iload 20, 2) := by decide +kernel
theorem dX7_first_89 : decode cX7_first 89 = .ok (.ifCond .eq 115, 3) := by decide +kernel
theorem dX7_first_92 : decode cX7_first 92 = .ok (.lload 6, 2) := by decide +kernel
theorem dX7_first_94 : decode cX7_first 94 = .ok (.lload_n 2, 1) := by decide +kernel
theorem dX7_first_95 : decode cX7_first 95 = .ok (.ladd, 1) := by decide +kernel
theorem dX7_first_96 : decode cX7_first 96 = .ok (.lload 8, 2) := by decide +kernel
theorem dX7_first_98 : decode cX7_first 98 = .ok (.invokestatic 151, 3) := by decide +kernel
theorem dX7_first_101 : decode cX7_first 101 = .ok (.lstore 21, 2) := by decide +kernel
theorem dX7_first_103 : decode cX7_first 103 = .ok (.lload 21, 2) := by decide +kernel
theorem dX7_first_105 : decode cX7_first 105 = .ok (.lload 10, 2) := by decide +kernel
theorem dX7_first_107 : decode cX7_first 107 = .ok (.lmul, 1) := by decide +kernel
theorem dX7_first_108 : decode cX7_first 108 = .ok (.lload 12, 2) := by decide +kernel
theorem dX7_first_110 : decode cX7_first 110 = .ok (.ladd, 1) := by decide +kernel
theorem dX7_first_111 : decode cX7_first 111 = .ok (.lstore 23, 2) := by decide +kernel
theorem dX7_first_113 : decode cX7_first 113 = .ok (.lload 21, 2) := by decide +kernel
theorem dX7_first_115 : decode cX7_first 115 = .ok (.lload 14, 2) := by decide +kernel
theorem dX7_first_117 : decode cX7_first 117 = .ok (.lmul, 1) := by decide +kernel
theorem dX7_first_118 : decode cX7_first 118 = .ok (.lload 16, 2) := by decide +kernel
theorem dX7_first_120 : decode cX7_first 120 = .ok (.ladd, 1) := by decide +kernel
theorem dX7_first_121 : decode cX7_first 121 = .ok (.lstore 25, 2) := by decide +kernel
theorem dX7_first_123 : decode cX7_first 123 = .ok (.lload 10, 2) := by decide +kernel
theorem dX7_first_125 : decode cX7_first 125 = .ok (.lstore 12, 2) := by decide +kernel
theorem dX7_first_127 : decode cX7_first 127 = .ok (.lload 14, 2) := by decide +kernel
theorem dX7_first_129 : decode cX7_first 129 = .ok (.lstore 16, 2) := by decide +kernel
theorem dX7_first_131 : decode cX7_first 131 = .ok (.lload 23, 2) := by decide +kernel
theorem dX7_first_133 : decode cX7_first 133 = .ok (.lstore 10, 2) := by decide +kernel
theorem dX7_first_135 : decode cX7_first 135 = .ok (.lload 25, 2) := by decide +kernel
theorem dX7_first_137 : decode cX7_first 137 = .ok (.lstore 14, 2) := by decide +kernel
theorem dX7_first_139 : decode cX7_first 139 = .ok (.lload 21, 2) := by decide +kernel
theorem dX7_first_141 : decode cX7_first 141 = .ok (.lload 8, 2) := by decide +kernel
theorem dX7_first_143 : decode cX7_first 143 = .ok (.lmul, 1) := by decide +kernel
theorem dX7_first_144 : decode cX7_first 144 = .ok (.lload 6, 2) := by decide +kernel
theorem dX7_first_146 : decode cX7_first 146 = .ok (.lsub, 1) := by decide +kernel
theorem dX7_first_147 : decode cX7_first 147 = .ok (.lstore 6, 2) := by decide +kernel
theorem dX7_first_149 : decode cX7_first 149 = .ok (.aload_n 0, 1) := by decide +kernel
theorem dX7_first_150 : decode cX7_first 150 = .ok (.getfield 157, 3) := by decide +kernel
theorem dX7_first_153 : decode cX7_first 153 = .ok (.lload 6, 2) := by decide +kernel
theorem dX7_first_155 : decode cX7_first 155 = .ok (.lload 6, 2) := by decide +kernel
theorem dX7_first_157 : decode cX7_first 157 = .ok (.lmul, 1) := by decide +kernel
theorem dX7_first_158 : decode cX7_first 158 = .ok (.lsub, 1) := by decide +kernel
theorem dX7_first_159 : decode cX7_first 159 = .ok (.lload 8, 2) := by decide +kernel
theorem dX7_first_161 : decode cX7_first 161 = .ok (.ldiv, 1) := by decide +kernel
theorem dX7_first_162 : decode cX7_first 162 = .ok (.lstore 8, 2) := by decide +kernel
theorem dX7_first_164 : decode cX7_first 164 = .ok (.lload 18, 2) := by decide +kernel
theorem dX7_first_166 : decode cX7_first 166 = .ok (.lneg, 1) := by decide +kernel
theorem dX7_first_167 : decode cX7_first 167 = .ok (.lstore 18, 2) := by decide +kernel
theorem dX7_first_169 : decode cX7_first 169 = .ok (.lload 14, 2) := by decide +kernel
theorem dX7_first_171 : decode cX7_first 171 = .ok (.ldc2_w 379, 3) := by decide +kernel
theorem dX7_first_174 : decode cX7_first 174 = .ok (.lcmp, 1) := by decide +kernel
theorem dX7_first_175 : decode cX7_first 175 = .ok (.ifCond .le 10, 3) := by decide +kernel
theorem dX7_first_178 : decode cX7_first 178 = .ok (.aload_n 0, 1) := by decide +kernel
theorem dX7_first_179 : decode cX7_first 179 = .ok (.bipush (-6), 2) := by decide +kernel
theorem dX7_first_181 : decode cX7_first 181 = .ok (.invokevirtual 206, 3) := by decide +kernel
theorem dX7_first_184 : decode cX7_first 184 = .ok (.lreturn, 1) := by decide +kernel
theorem dX7_first_185 : decode cX7_first 185 = .ok (.lload 8, 2) := by decide +kernel
theorem dX7_first_187 : decode cX7_first 187 = .ok (.ldc2_w 355, 3) := by decide +kernel
theorem dX7_first_190 : decode cX7_first 190 = .ok (.lcmp, 1) := by decide +kernel
theorem dX7_first_191 : decode cX7_first 191 = .ok (.ifCond .eq 7, 3) := by decide +kernel
theorem dX7_first_194 : decode cX7_first 194 = .ok (.iconst 1, 1) := by decide +kernel
theorem dX7_first_195 : decode cX7_first 195 = .ok (.goto 4, 3) := by decide +kernel
theorem dX7_first_198 : decode cX7_first 198 = .ok (.iconst 0, 1) := by decide +kernel
theorem dX7_first_199 : decode cX7_first 199 = .ok (.istore 20, 2) := by decide +kernel
theorem dX7_first_201 : decode cX7_first 201 = .ok (.goto (-114), 3) := by decide +kernel
theorem dX7_first_204 : decode cX7_first 204 = .ok (.lload 10, 2) := by decide +kernel
theorem dX7_first_206 : decode cX7_first 206 = .ok (.lload 14, 2) := by decide +kernel
theorem dX7_first_208 : decode cX7_first 208 = .ok (.lload 4, 2) := by decide +kernel
theorem dX7_first_210 : decode cX7_first 210 = .ok (.lmul, 1) := by decide +kernel
theorem dX7_first_211 : decode cX7_first 211 = .ok (.lsub, 1) := by decide +kernel
theorem dX7_first_212 : decode cX7_first 212 = .ok (.lstore 21, 2) := by decide +kernel
theorem dX7_first_214 : decode cX7_first 214 = .ok (.lload 21, 2) := by decide +kernel
theorem dX7_first_216 : decode cX7_first 216 = .ok (.ldc2_w 379, 3) := by decide +kernel
theorem dX7_first_219 : decode cX7_first 219 = .ok (.lcmp, 1) := by decide +kernel
theorem dX7_first_220 : decode cX7_first 220 = .ok (.ifCond .gt 12, 3) := by decide +kernel
theorem dX7_first_223 : decode cX7_first 223 = .ok (.lload 21, 2) := by decide +kernel
theorem dX7_first_225 : decode cX7_first 225 = .ok (.ldc2_w 381, 3) := by decide +kernel
theorem dX7_first_228 : decode cX7_first 228 = .ok (.lcmp, 1) := by decide +kernel
theorem dX7_first_229 : decode cX7_first 229 = .ok (.ifCond .ge 10, 3) := by decide +kernel
theorem dX7_first_232 : decode cX7_first 232 = .ok (.aload_n 0, 1) := by decide +kernel
theorem dX7_first_233 : decode cX7_first 233 = .ok (.bipush (-6), 2) := by decide +kernel
theorem dX7_first_235 : decode cX7_first 235 = .ok (.invokevirtual 206, 3) := by decide +kernel
theorem dX7_first_238 : decode cX7_first 238 = .ok (.lreturn, 1) := by decide +kernel
theorem dX7_first_239 : decode cX7_first 239 = .ok (.iload_n 1, 1) := by decide +kernel
theorem dX7_first_240 : decode cX7_first 240 = .ok (.ifCond .ne 8, 3) := by decide +kernel
theorem dX7_first_243 : decode cX7_first 243 = .ok (.lload 21, 2) := by decide +kernel
theorem dX7_first_245 : decode cX7_first 245 = .ok (.goto 15, 3) := by decide +kernel
theorem dX7_first_248 : decode cX7_first 248 = .ok (.iload_n 1, 1) := by decide +kernel
theorem dX7_first_249 : decode cX7_first 249 = .ok (.iconst 1, 1) := by decide +kernel
theorem dX7_first_250 : decode cX7_first 250 = .ok (.if_icmp .ne 8, 3) := by decide +kernel
theorem dX7_first_253 : decode cX7_first 253 = .ok (.lload 14, 2) := by decide +kernel
theorem dX7_first_255 : decode cX7_first 255 = .ok (.goto 5, 3) := by decide +kernel
theorem dX7_first_258 : decode cX7_first 258 = .ok (.lload 18, 2) := by decide +kernel
theorem dX7_first_260 : decode cX7_first 260 = .ok (.lreturn, 1) := by decide +kernel
theorem bX7_first_0 {l : Launch} {D : va_G} {aI aL : ClassId} {ad : Nat → Nat} {P : sa_P} {I : sa_I} {J : sa_J} {x1 : Int32}   (k : Sat (ER l D aI aL ad) M_X7_first P 1 [(0, .ref (ad 0)), (1, .int x1)] [.ref (ad 0)] I J) : Sat (ER l D aI aL ad) M_X7_first P 0 [(0, .ref (ad 0)), (1, .int x1)] [] I J := by
  refine s_aload_n 0 dX7_first_0 rfl ?_
  exact k
theorem bX7_first_4 {l : Launch} {D : va_G} {aI aL : ClassId} {ad : Nat → Nat} {P : sa_P} {I : sa_I} {J : sa_J} {x1 : Int32} {s0 : Int32}   (kt : ¬ s0 = 0 → Sat (ER l D aI aL ad) M_X7_first P 14 [(0, .ref (ad 0)), (1, .int x1)] [] I J) (kf : s0 = 0 → Sat (ER l D aI aL ad) M_X7_first P 7 [(0, .ref (ad 0))] [] I J) : Sat (ER l D aI aL ad) M_X7_first P 4 [(0, .ref (ad 0)), (1, .int x1)] [.int s0] I J := by
  refine s_if_ne (tgt := 14) dX7_first_4 (by decide) (fun c => ?_) (fun c => ?_)
  · exact kt c
  · refine s_pick [0] [(0, .ref (ad 0))] rfl ?_; exact kf (by first | exact c | exact Classical.not_not.mp c)
theorem bX7_first_7 {l : Launch} {D : va_G} {aI aL : ClassId} {ad : Nat → Nat} {P : sa_P} {I : sa_I} {J : sa_J}    (k : Sat (ER l D aI aL ad) M_X7_first P 10 [] [.int (-3 : Int32), .ref (ad 0)] I J) : Sat (ER l D aI aL ad) M_X7_first P 7 [(0, .ref (ad 0))] [] I J := by
  refine s_aload_n 0 dX7_first_7 rfl ?_
  refine s_bipush (v := -3) dX7_first_8 rfl ?_
  refine s_pick [] [] rfl ?_; exact k
theorem bX7_first_13 {l : Launch} {D : va_G} {aI aL : ClassId} {ad : Nat → Nat} {P : sa_P} {I : sa_I} {J : sa_J} {s0 : Int64}   (k : P (some (.long s0)) I J) : Sat (ER l D aI aL ad) M_X7_first P 13 [] [.long s0] I J := by
  exact s_lret rfl dX7_first_13 k
theorem bX7_first_14 {l : Launch} {D : va_G} {aI aL : ClassId} {ad : Nat → Nat} {P : sa_P} {I : sa_I} {J : sa_J} {x1 : Int32}   (kt : ¬ I 0 1 = (2 : Int32) → Sat (ER l D aI aL ad) M_X7_first P 39 [(0, .ref (ad 0))] [] I J) (kf : I 0 1 = (2 : Int32) → Sat (ER l D aI aL ad) M_X7_first P 22 [(0, .ref (ad 0)), (1, .int x1)] [] I J) : Sat (ER l D aI aL ad) M_X7_first P 14 [(0, .ref (ad 0)), (1, .int x1)] [] I J := by
  refine s_aload_n 0 dX7_first_14 rfl ?_
  refine g_X7_101 dX7_first_15 rfl ?_
  refine s_iconst (v := 2) dX7_first_18 rfl ?_
  refine s_icmp_ne (tgt := 39) dX7_first_19 (by decide) (fun c => ?_) (fun c => ?_)
  · refine s_pick [0] [(0, .ref (ad 0))] rfl ?_; exact kt c
  · exact kf (by first | exact c | exact Classical.not_not.mp c)
theorem bX7_first_22 {l : Launch} {D : va_G} {aI aL : ClassId} {ad : Nat → Nat} {P : sa_P} {I : sa_I} {J : sa_J} {x1 : Int32}   (kt : J 0 10 < (0 : Int64) → Sat (ER l D aI aL ad) M_X7_first P 39 [(0, .ref (ad 0))] [] I J) (kf : ¬ J 0 10 < (0 : Int64) → Sat (ER l D aI aL ad) M_X7_first P 31 [(0, .ref (ad 0)), (1, .int x1)] [] I J) : Sat (ER l D aI aL ad) M_X7_first P 22 [(0, .ref (ad 0)), (1, .int x1)] [] I J := by
  refine s_aload_n 0 dX7_first_22 rfl ?_
  refine g_X7_157 dX7_first_23 rfl ?_
  refine s_lconst (v := 0) dX7_first_26 rfl ?_
  refine s_lif_lt (tgt := 39) dX7_first_27 dX7_first_28 (by decide) (fun c => ?_) (fun c => ?_)
  · refine s_pick [0] [(0, .ref (ad 0))] rfl ?_; exact kt c
  · exact kf c
theorem bX7_first_31 {l : Launch} {D : va_G} {aI aL : ClassId} {ad : Nat → Nat} {P : sa_P} {I : sa_I} {J : sa_J} {x1 : Int32}   (k : Sat (ER l D aI aL ad) M_X7_first P 33 [(0, .ref (ad 0)), (1, .int x1)] [.int (3 : Int32), .int x1] I J) : Sat (ER l D aI aL ad) M_X7_first P 31 [(0, .ref (ad 0)), (1, .int x1)] [] I J := by
  refine s_iload_n 1 dX7_first_31 rfl ?_
  refine s_iconst (v := 3) dX7_first_32 rfl ?_
  exact k
theorem bX7_first_36 {l : Launch} {D : va_G} {aI aL : ClassId} {ad : Nat → Nat} {P : sa_P} {I : sa_I} {J : sa_J} {x1 : Int32} {s0 : Int32}   (kt : ¬ s0 = 0 → Sat (ER l D aI aL ad) M_X7_first P 46 [(0, .ref (ad 0)), (1, .int x1)] [] I J) (kf : s0 = 0 → Sat (ER l D aI aL ad) M_X7_first P 39 [(0, .ref (ad 0))] [] I J) : Sat (ER l D aI aL ad) M_X7_first P 36 [(0, .ref (ad 0)), (1, .int x1)] [.int s0] I J := by
  refine s_if_ne (tgt := 46) dX7_first_36 (by decide) (fun c => ?_) (fun c => ?_)
  · exact kt c
  · refine s_pick [0] [(0, .ref (ad 0))] rfl ?_; exact kf (by first | exact c | exact Classical.not_not.mp c)
theorem bX7_first_39 {l : Launch} {D : va_G} {aI aL : ClassId} {ad : Nat → Nat} {P : sa_P} {I : sa_I} {J : sa_J}    (k : Sat (ER l D aI aL ad) M_X7_first P 42 [] [.int (-2 : Int32), .ref (ad 0)] I J) : Sat (ER l D aI aL ad) M_X7_first P 39 [(0, .ref (ad 0))] [] I J := by
  refine s_aload_n 0 dX7_first_39 rfl ?_
  refine s_bipush (v := -2) dX7_first_40 rfl ?_
  refine s_pick [] [] rfl ?_; exact k
theorem bX7_first_45 {l : Launch} {D : va_G} {aI aL : ClassId} {ad : Nat → Nat} {P : sa_P} {I : sa_I} {J : sa_J} {s0 : Int64}   (k : P (some (.long s0)) I J) : Sat (ER l D aI aL ad) M_X7_first P 45 [] [.long s0] I J := by
  exact s_lret rfl dX7_first_45 k
theorem bX7_first_46 {l : Launch} {D : va_G} {aI aL : ClassId} {ad : Nat → Nat} {P : sa_P} {I : sa_I} {J : sa_J} {x1 : Int32}   (k : Sat (ER l D aI aL ad) M_X7_first P 50 [(0, .ref (ad 0)), (1, .int x1)] [.long (J 0 10)] I J) : Sat (ER l D aI aL ad) M_X7_first P 46 [(0, .ref (ad 0)), (1, .int x1)] [] I J := by
  refine s_aload_n 0 dX7_first_46 rfl ?_
  refine g_X7_157 dX7_first_47 rfl ?_
  exact k
theorem bX7_first_53 {l : Launch} {D : va_G} {aI aL : ClassId} {ad : Nat → Nat} {P : sa_P} {I : sa_I} {J : sa_J} {x1 : Int32} {s0 : Int64}   (k : Sat (ER l D aI aL ad) M_X7_first P 55 [(0, .ref (ad 0)), (1, .int x1), (2, .long s0)] [.ref (ad 0)] I J) : Sat (ER l D aI aL ad) M_X7_first P 53 [(0, .ref (ad 0)), (1, .int x1)] [.long s0] I J := by
  refine s_lstore_n [(2, .long s0), (0, .ref (ad 0)), (1, .int x1)] dX7_first_53 (Nat.lt_of_lt_of_le (Nat.lt_succ_self _) (Nat.le_of_ble_eq_true rfl)) rfl ?_
  refine s_aload_n 1 dX7_first_54 rfl ?_
  refine s_pick [1, 2, 0] [(0, .ref (ad 0)), (1, .int x1), (2, .long s0)] rfl ?_; exact k
theorem bX7_first_58 {l : Launch} {D : va_G} {aI aL : ClassId} {ad : Nat → Nat} {P : sa_P} {I : sa_I} {J : sa_J} {x1 : Int32} {x2 : Int64} {s0 : Int64} {v67 : Int64} {v70 : Int64} {v73 : Int64} {v76 : Int64} {v79 : Int64} {v82 : Int64} {v85 : Int32}  (f67 : (2 : Int64) = v67) (f70 : (1 : Int64) = v70) (f73 : (0 : Int64) = v73) (f76 : (0 : Int64) = v76) (f79 : (1 : Int64) = v79) (f82 : (1 : Int64) = v82) (f85 : (1 : Int32) = v85) (k : Sat (ER l D aI aL ad) M_X7_first P 87 [(0, .ref (ad 0)), (1, .int x1), (2, .long x2), (4, .long s0), (6, .long s0), (8, .long v67), (10, .long v70), (12, .long v73), (14, .long v76), (16, .long v79), (18, .long v82), (20, .int v85)] [] I J) : Sat (ER l D aI aL ad) M_X7_first P 58 [(0, .ref (ad 0)), (1, .int x1), (2, .long x2)] [.long s0] I J := by
  refine s_lstore [(4, .long s0), (0, .ref (ad 0)), (1, .int x1), (2, .long x2)] dX7_first_58 (Nat.lt_of_lt_of_le (Nat.lt_succ_self _) (Nat.le_of_ble_eq_true rfl)) rfl ?_
  refine s_lload 0 dX7_first_60 rfl ?_
  refine s_lstore [(6, .long s0), (4, .long s0), (0, .ref (ad 0)), (1, .int x1), (2, .long x2)] dX7_first_62 (Nat.lt_of_lt_of_le (Nat.lt_succ_self _) (Nat.le_of_ble_eq_true rfl)) rfl ?_
  refine s_ldc2 wk_X7_355 dX7_first_64 ?_
  refine s_eql f67 ?_
  refine s_lstore [(8, .long v67), (6, .long s0), (4, .long s0), (0, .ref (ad 0)), (1, .int x1), (2, .long x2)] dX7_first_67 (Nat.lt_of_lt_of_le (Nat.lt_succ_self _) (Nat.le_of_ble_eq_true rfl)) rfl ?_
  refine s_lconst (v := 1) dX7_first_69 rfl ?_
  refine s_eql f70 ?_
  refine s_lstore [(10, .long v70), (8, .long v67), (6, .long s0), (4, .long s0), (0, .ref (ad 0)), (1, .int x1), (2, .long x2)] dX7_first_70 (Nat.lt_of_lt_of_le (Nat.lt_succ_self _) (Nat.le_of_ble_eq_true rfl)) rfl ?_
  refine s_lconst (v := 0) dX7_first_72 rfl ?_
  refine s_eql f73 ?_
  refine s_lstore [(12, .long v73), (10, .long v70), (8, .long v67), (6, .long s0), (4, .long s0), (0, .ref (ad 0)), (1, .int x1), (2, .long x2)] dX7_first_73 (Nat.lt_of_lt_of_le (Nat.lt_succ_self _) (Nat.le_of_ble_eq_true rfl)) rfl ?_
  refine s_lconst (v := 0) dX7_first_75 rfl ?_
  refine s_eql f76 ?_
  refine s_lstore [(14, .long v76), (12, .long v73), (10, .long v70), (8, .long v67), (6, .long s0), (4, .long s0), (0, .ref (ad 0)), (1, .int x1), (2, .long x2)] dX7_first_76 (Nat.lt_of_lt_of_le (Nat.lt_succ_self _) (Nat.le_of_ble_eq_true rfl)) rfl ?_
  refine s_lconst (v := 1) dX7_first_78 rfl ?_
  refine s_eql f79 ?_
  refine s_lstore [(16, .long v79), (14, .long v76), (12, .long v73), (10, .long v70), (8, .long v67), (6, .long s0), (4, .long s0), (0, .ref (ad 0)), (1, .int x1), (2, .long x2)] dX7_first_79 (Nat.lt_of_lt_of_le (Nat.lt_succ_self _) (Nat.le_of_ble_eq_true rfl)) rfl ?_
  refine s_lconst (v := 1) dX7_first_81 rfl ?_
  refine s_eql f82 ?_
  refine s_lstore [(18, .long v82), (16, .long v79), (14, .long v76), (12, .long v73), (10, .long v70), (8, .long v67), (6, .long s0), (4, .long s0), (0, .ref (ad 0)), (1, .int x1), (2, .long x2)] dX7_first_82 (Nat.lt_of_lt_of_le (Nat.lt_succ_self _) (Nat.le_of_ble_eq_true rfl)) rfl ?_
  refine s_iconst (v := 1) dX7_first_84 rfl ?_
  refine s_eqi f85 ?_
  refine s_istore [(20, .int v85), (18, .long v82), (16, .long v79), (14, .long v76), (12, .long v73), (10, .long v70), (8, .long v67), (6, .long s0), (4, .long s0), (0, .ref (ad 0)), (1, .int x1), (2, .long x2)] dX7_first_85 (Nat.lt_of_lt_of_le (Nat.lt_succ_self _) (Nat.le_of_ble_eq_true rfl)) rfl ?_
  refine s_pick [9, 10, 11, 8, 7, 6, 5, 4, 3, 2, 1, 0] [(0, .ref (ad 0)), (1, .int x1), (2, .long x2), (4, .long s0), (6, .long s0), (8, .long v67), (10, .long v70), (12, .long v73), (14, .long v76), (16, .long v79), (18, .long v82), (20, .int v85)] rfl ?_; exact k
theorem bX7_first_87 {l : Launch} {D : va_G} {aI aL : ClassId} {ad : Nat → Nat} {P : sa_P} {I : sa_I} {J : sa_J} {x1 : Int32} {x2 : Int64} {x4 : Int64} {x6 : Int64} {x8 : Int64} {x10 : Int64} {x12 : Int64} {x14 : Int64} {x16 : Int64} {x18 : Int64} {x20 : Int32}   (kt : x20 = 0 → Sat (ER l D aI aL ad) M_X7_first P 204 [(0, .ref (ad 0)), (1, .int x1), (4, .long x4), (10, .long x10), (14, .long x14), (18, .long x18)] [] I J) (kf : ¬ x20 = 0 → Sat (ER l D aI aL ad) M_X7_first P 92 [(0, .ref (ad 0)), (1, .int x1), (2, .long x2), (4, .long x4), (6, .long x6), (8, .long x8), (10, .long x10), (12, .long x12), (14, .long x14), (16, .long x16), (18, .long x18)] [] I J) : Sat (ER l D aI aL ad) M_X7_first P 87 [(0, .ref (ad 0)), (1, .int x1), (2, .long x2), (4, .long x4), (6, .long x6), (8, .long x8), (10, .long x10), (12, .long x12), (14, .long x14), (16, .long x16), (18, .long x18), (20, .int x20)] [] I J := by
  refine s_iload 11 dX7_first_87 rfl ?_
  refine s_if_eq (tgt := 204) dX7_first_89 (by decide) (fun c => ?_) (fun c => ?_)
  · refine s_pick [0, 1, 3, 6, 8, 10] [(0, .ref (ad 0)), (1, .int x1), (4, .long x4), (10, .long x10), (14, .long x14), (18, .long x18)] rfl ?_; exact kt c
  · refine s_pick [0, 1, 2, 3, 4, 5, 6, 7, 8, 9, 10] [(0, .ref (ad 0)), (1, .int x1), (2, .long x2), (4, .long x4), (6, .long x6), (8, .long x8), (10, .long x10), (12, .long x12), (14, .long x14), (16, .long x16), (18, .long x18)] rfl ?_; exact kf c
theorem bX7_first_92 {l : Launch} {D : va_G} {aI aL : ClassId} {ad : Nat → Nat} {P : sa_P} {I : sa_I} {J : sa_J} {x1 : Int32} {x2 : Int64} {x4 : Int64} {x6 : Int64} {x8 : Int64} {x10 : Int64} {x12 : Int64} {x14 : Int64} {x16 : Int64} {x18 : Int64}   (k : Sat (ER l D aI aL ad) M_X7_first P 98 [(0, .ref (ad 0)), (1, .int x1), (2, .long x2), (4, .long x4), (6, .long x6), (8, .long x8), (10, .long x10), (12, .long x12), (14, .long x14), (16, .long x16), (18, .long x18)] [.long x8, .long (x6 + x2)] I J) : Sat (ER l D aI aL ad) M_X7_first P 92 [(0, .ref (ad 0)), (1, .int x1), (2, .long x2), (4, .long x4), (6, .long x6), (8, .long x8), (10, .long x10), (12, .long x12), (14, .long x14), (16, .long x16), (18, .long x18)] [] I J := by
  refine s_lload 4 dX7_first_92 rfl ?_
  refine s_lload_n 2 dX7_first_94 rfl ?_
  refine s_ladd dX7_first_95 ?_
  refine s_lload 5 dX7_first_96 rfl ?_
  exact k
theorem bX7_first_101 {l : Launch} {D : va_G} {aI aL : ClassId} {ad : Nat → Nat} {P : sa_P} {I : sa_I} {J : sa_J} {x1 : Int32} {x2 : Int64} {x4 : Int64} {x6 : Int64} {x8 : Int64} {x10 : Int64} {x12 : Int64} {x14 : Int64} {x16 : Int64} {x18 : Int64} {s0 : Int64} {v111 : Int64} {v121 : Int64} {v147 : Int64} {v162 : Int64} {v167 : Int64} (z161 : ¬ x8 = 0) (f111 : (s0 * x10) + x12 = v111) (f121 : (s0 * x14) + x16 = v121) (f147 : (s0 * x8) - x6 = v147) (f162 : ((J 0 10) - (v147 * v147)) / x8 = v162) (f167 : -x18 = v167) (kt : v121 ≤ (1000000000000000 : Int64) → Sat (ER l D aI aL ad) M_X7_first P 185 [(0, .ref (ad 0)), (1, .int x1), (2, .long x2), (4, .long x4), (6, .long v147), (8, .long v162), (10, .long v111), (12, .long x10), (14, .long v121), (16, .long x14), (18, .long v167)] [] I J) (kf : ¬ v121 ≤ (1000000000000000 : Int64) → Sat (ER l D aI aL ad) M_X7_first P 178 [(0, .ref (ad 0))] [] I J) : Sat (ER l D aI aL ad) M_X7_first P 101 [(0, .ref (ad 0)), (1, .int x1), (2, .long x2), (4, .long x4), (6, .long x6), (8, .long x8), (10, .long x10), (12, .long x12), (14, .long x14), (16, .long x16), (18, .long x18)] [.long s0] I J := by
  refine s_lstore [(21, .long s0), (0, .ref (ad 0)), (1, .int x1), (2, .long x2), (4, .long x4), (6, .long x6), (8, .long x8), (10, .long x10), (12, .long x12), (14, .long x14), (16, .long x16), (18, .long x18)] dX7_first_101 (Nat.lt_of_lt_of_le (Nat.lt_succ_self _) (Nat.le_of_ble_eq_true rfl)) rfl ?_
  refine s_lload 0 dX7_first_103 rfl ?_
  refine s_lload 7 dX7_first_105 rfl ?_
  refine s_lmul dX7_first_107 ?_
  refine s_lload 8 dX7_first_108 rfl ?_
  refine s_ladd dX7_first_110 ?_
  refine s_eql f111 ?_
  refine s_lstore [(23, .long v111), (21, .long s0), (0, .ref (ad 0)), (1, .int x1), (2, .long x2), (4, .long x4), (6, .long x6), (8, .long x8), (10, .long x10), (12, .long x12), (14, .long x14), (16, .long x16), (18, .long x18)] dX7_first_111 (Nat.lt_of_lt_of_le (Nat.lt_succ_self _) (Nat.le_of_ble_eq_true rfl)) rfl ?_
  refine s_lload 1 dX7_first_113 rfl ?_
  refine s_lload 10 dX7_first_115 rfl ?_
  refine s_lmul dX7_first_117 ?_
  refine s_lload 11 dX7_first_118 rfl ?_
  refine s_ladd dX7_first_120 ?_
  refine s_eql f121 ?_
  refine s_lstore [(25, .long v121), (23, .long v111), (21, .long s0), (0, .ref (ad 0)), (1, .int x1), (2, .long x2), (4, .long x4), (6, .long x6), (8, .long x8), (10, .long x10), (12, .long x12), (14, .long x14), (16, .long x16), (18, .long x18)] dX7_first_121 (Nat.lt_of_lt_of_le (Nat.lt_succ_self _) (Nat.le_of_ble_eq_true rfl)) rfl ?_
  refine s_lload 9 dX7_first_123 rfl ?_
  refine s_lstore [(12, .long x10), (25, .long v121), (23, .long v111), (21, .long s0), (0, .ref (ad 0)), (1, .int x1), (2, .long x2), (4, .long x4), (6, .long x6), (8, .long x8), (10, .long x10), (14, .long x14), (16, .long x16), (18, .long x18)] dX7_first_125 (Nat.lt_of_lt_of_le (Nat.lt_succ_self _) (Nat.le_of_ble_eq_true rfl)) rfl ?_
  refine s_lload 11 dX7_first_127 rfl ?_
  refine s_lstore [(16, .long x14), (12, .long x10), (25, .long v121), (23, .long v111), (21, .long s0), (0, .ref (ad 0)), (1, .int x1), (2, .long x2), (4, .long x4), (6, .long x6), (8, .long x8), (10, .long x10), (14, .long x14), (18, .long x18)] dX7_first_129 (Nat.lt_of_lt_of_le (Nat.lt_succ_self _) (Nat.le_of_ble_eq_true rfl)) rfl ?_
  refine s_lload 3 dX7_first_131 rfl ?_
  refine s_lstore [(10, .long v111), (16, .long x14), (12, .long x10), (25, .long v121), (23, .long v111), (21, .long s0), (0, .ref (ad 0)), (1, .int x1), (2, .long x2), (4, .long x4), (6, .long x6), (8, .long x8), (14, .long x14), (18, .long x18)] dX7_first_133 (Nat.lt_of_lt_of_le (Nat.lt_succ_self _) (Nat.le_of_ble_eq_true rfl)) rfl ?_
  refine s_lload 3 dX7_first_135 rfl ?_
  refine s_lstore [(14, .long v121), (10, .long v111), (16, .long x14), (12, .long x10), (25, .long v121), (23, .long v111), (21, .long s0), (0, .ref (ad 0)), (1, .int x1), (2, .long x2), (4, .long x4), (6, .long x6), (8, .long x8), (18, .long x18)] dX7_first_137 (Nat.lt_of_lt_of_le (Nat.lt_succ_self _) (Nat.le_of_ble_eq_true rfl)) rfl ?_
  refine s_lload 6 dX7_first_139 rfl ?_
  refine s_lload 12 dX7_first_141 rfl ?_
  refine s_lmul dX7_first_143 ?_
  refine s_lload 11 dX7_first_144 rfl ?_
  refine s_lsub dX7_first_146 ?_
  refine s_eql f147 ?_
  refine s_lstore [(6, .long v147), (14, .long v121), (10, .long v111), (16, .long x14), (12, .long x10), (25, .long v121), (23, .long v111), (21, .long s0), (0, .ref (ad 0)), (1, .int x1), (2, .long x2), (4, .long x4), (8, .long x8), (18, .long x18)] dX7_first_147 (Nat.lt_of_lt_of_le (Nat.lt_succ_self _) (Nat.le_of_ble_eq_true rfl)) rfl ?_
  refine s_aload_n 8 dX7_first_149 rfl ?_
  refine g_X7_157 dX7_first_150 rfl ?_
  refine s_lload 0 dX7_first_153 rfl ?_
  refine s_lload 0 dX7_first_155 rfl ?_
  refine s_lmul dX7_first_157 ?_
  refine s_lsub dX7_first_158 ?_
  refine s_lload 12 dX7_first_159 rfl ?_
  refine s_ldiv dX7_first_161 z161 ?_
  refine s_eql f162 ?_
  refine s_lstore [(8, .long v162), (6, .long v147), (14, .long v121), (10, .long v111), (16, .long x14), (12, .long x10), (25, .long v121), (23, .long v111), (21, .long s0), (0, .ref (ad 0)), (1, .int x1), (2, .long x2), (4, .long x4), (18, .long x18)] dX7_first_162 (Nat.lt_of_lt_of_le (Nat.lt_succ_self _) (Nat.le_of_ble_eq_true rfl)) rfl ?_
  refine s_lload 13 dX7_first_164 rfl ?_
  refine s_lneg dX7_first_166 ?_
  refine s_eql f167 ?_
  refine s_lstore [(18, .long v167), (8, .long v162), (6, .long v147), (14, .long v121), (10, .long v111), (16, .long x14), (12, .long x10), (25, .long v121), (23, .long v111), (21, .long s0), (0, .ref (ad 0)), (1, .int x1), (2, .long x2), (4, .long x4)] dX7_first_167 (Nat.lt_of_lt_of_le (Nat.lt_succ_self _) (Nat.le_of_ble_eq_true rfl)) rfl ?_
  refine s_lload 3 dX7_first_169 rfl ?_
  refine s_ldc2 wk_X7_379 dX7_first_171 ?_
  refine s_lif_le (tgt := 185) dX7_first_174 dX7_first_175 (by decide) (fun c => ?_) (fun c => ?_)
  · refine s_pick [10, 11, 12, 13, 2, 1, 4, 6, 3, 5, 0] [(0, .ref (ad 0)), (1, .int x1), (2, .long x2), (4, .long x4), (6, .long v147), (8, .long v162), (10, .long v111), (12, .long x10), (14, .long v121), (16, .long x14), (18, .long v167)] rfl ?_; exact kt c
  · refine s_pick [10] [(0, .ref (ad 0))] rfl ?_; exact kf c
theorem bX7_first_178 {l : Launch} {D : va_G} {aI aL : ClassId} {ad : Nat → Nat} {P : sa_P} {I : sa_I} {J : sa_J}    (k : Sat (ER l D aI aL ad) M_X7_first P 181 [] [.int (-6 : Int32), .ref (ad 0)] I J) : Sat (ER l D aI aL ad) M_X7_first P 178 [(0, .ref (ad 0))] [] I J := by
  refine s_aload_n 0 dX7_first_178 rfl ?_
  refine s_bipush (v := -6) dX7_first_179 rfl ?_
  refine s_pick [] [] rfl ?_; exact k
theorem bX7_first_184 {l : Launch} {D : va_G} {aI aL : ClassId} {ad : Nat → Nat} {P : sa_P} {I : sa_I} {J : sa_J} {s0 : Int64}   (k : P (some (.long s0)) I J) : Sat (ER l D aI aL ad) M_X7_first P 184 [] [.long s0] I J := by
  exact s_lret rfl dX7_first_184 k
theorem bX7_first_185 {l : Launch} {D : va_G} {aI aL : ClassId} {ad : Nat → Nat} {P : sa_P} {I : sa_I} {J : sa_J} {x1 : Int32} {x2 : Int64} {x4 : Int64} {x6 : Int64} {x8 : Int64} {x10 : Int64} {x12 : Int64} {x14 : Int64} {x16 : Int64} {x18 : Int64}   (kt : x8 = (2 : Int64) → Sat (ER l D aI aL ad) M_X7_first P 198 [(0, .ref (ad 0)), (1, .int x1), (2, .long x2), (4, .long x4), (6, .long x6), (8, .long x8), (10, .long x10), (12, .long x12), (14, .long x14), (16, .long x16), (18, .long x18)] [] I J) (kf : ¬ x8 = (2 : Int64) → Sat (ER l D aI aL ad) M_X7_first P 194 [(0, .ref (ad 0)), (1, .int x1), (2, .long x2), (4, .long x4), (6, .long x6), (8, .long x8), (10, .long x10), (12, .long x12), (14, .long x14), (16, .long x16), (18, .long x18)] [] I J) : Sat (ER l D aI aL ad) M_X7_first P 185 [(0, .ref (ad 0)), (1, .int x1), (2, .long x2), (4, .long x4), (6, .long x6), (8, .long x8), (10, .long x10), (12, .long x12), (14, .long x14), (16, .long x16), (18, .long x18)] [] I J := by
  refine s_lload 5 dX7_first_185 rfl ?_
  refine s_ldc2 wk_X7_355 dX7_first_187 ?_
  refine s_lif_eq (tgt := 198) dX7_first_190 dX7_first_191 (by decide) (fun c => ?_) (fun c => ?_)
  · exact kt c
  · exact kf c
theorem bX7_first_194 {l : Launch} {D : va_G} {aI aL : ClassId} {ad : Nat → Nat} {P : sa_P} {I : sa_I} {J : sa_J} {x1 : Int32} {x2 : Int64} {x4 : Int64} {x6 : Int64} {x8 : Int64} {x10 : Int64} {x12 : Int64} {x14 : Int64} {x16 : Int64} {x18 : Int64}   (k : Sat (ER l D aI aL ad) M_X7_first P 199 [(0, .ref (ad 0)), (1, .int x1), (2, .long x2), (4, .long x4), (6, .long x6), (8, .long x8), (10, .long x10), (12, .long x12), (14, .long x14), (16, .long x16), (18, .long x18)] [.int (1 : Int32)] I J) : Sat (ER l D aI aL ad) M_X7_first P 194 [(0, .ref (ad 0)), (1, .int x1), (2, .long x2), (4, .long x4), (6, .long x6), (8, .long x8), (10, .long x10), (12, .long x12), (14, .long x14), (16, .long x16), (18, .long x18)] [] I J := by
  refine s_iconst (v := 1) dX7_first_194 rfl ?_
  refine s_goto (tgt := 199) dX7_first_195 (by decide) ?_
  exact k
theorem bX7_first_198 {l : Launch} {D : va_G} {aI aL : ClassId} {ad : Nat → Nat} {P : sa_P} {I : sa_I} {J : sa_J} {x1 : Int32} {x2 : Int64} {x4 : Int64} {x6 : Int64} {x8 : Int64} {x10 : Int64} {x12 : Int64} {x14 : Int64} {x16 : Int64} {x18 : Int64}   (k : Sat (ER l D aI aL ad) M_X7_first P 199 [(0, .ref (ad 0)), (1, .int x1), (2, .long x2), (4, .long x4), (6, .long x6), (8, .long x8), (10, .long x10), (12, .long x12), (14, .long x14), (16, .long x16), (18, .long x18)] [.int (0 : Int32)] I J) : Sat (ER l D aI aL ad) M_X7_first P 198 [(0, .ref (ad 0)), (1, .int x1), (2, .long x2), (4, .long x4), (6, .long x6), (8, .long x8), (10, .long x10), (12, .long x12), (14, .long x14), (16, .long x16), (18, .long x18)] [] I J := by
  refine s_iconst (v := 0) dX7_first_198 rfl ?_
  exact k
theorem bX7_first_199 {l : Launch} {D : va_G} {aI aL : ClassId} {ad : Nat → Nat} {P : sa_P} {I : sa_I} {J : sa_J} {x1 : Int32} {x2 : Int64} {x4 : Int64} {x6 : Int64} {x8 : Int64} {x10 : Int64} {x12 : Int64} {x14 : Int64} {x16 : Int64} {x18 : Int64} {s0 : Int32}   (k : Sat (ER l D aI aL ad) M_X7_first P 87 [(0, .ref (ad 0)), (1, .int x1), (2, .long x2), (4, .long x4), (6, .long x6), (8, .long x8), (10, .long x10), (12, .long x12), (14, .long x14), (16, .long x16), (18, .long x18), (20, .int s0)] [] I J) : Sat (ER l D aI aL ad) M_X7_first P 199 [(0, .ref (ad 0)), (1, .int x1), (2, .long x2), (4, .long x4), (6, .long x6), (8, .long x8), (10, .long x10), (12, .long x12), (14, .long x14), (16, .long x16), (18, .long x18)] [.int s0] I J := by
  refine s_istore [(20, .int s0), (0, .ref (ad 0)), (1, .int x1), (2, .long x2), (4, .long x4), (6, .long x6), (8, .long x8), (10, .long x10), (12, .long x12), (14, .long x14), (16, .long x16), (18, .long x18)] dX7_first_199 (Nat.lt_of_lt_of_le (Nat.lt_succ_self _) (Nat.le_of_ble_eq_true rfl)) rfl ?_
  refine s_goto (tgt := 87) dX7_first_201 (by decide) ?_
  refine s_pick [1, 2, 3, 4, 5, 6, 7, 8, 9, 10, 11, 0] [(0, .ref (ad 0)), (1, .int x1), (2, .long x2), (4, .long x4), (6, .long x6), (8, .long x8), (10, .long x10), (12, .long x12), (14, .long x14), (16, .long x16), (18, .long x18), (20, .int s0)] rfl ?_; exact k
theorem bX7_first_204 {l : Launch} {D : va_G} {aI aL : ClassId} {ad : Nat → Nat} {P : sa_P} {I : sa_I} {J : sa_J} {x1 : Int32} {x4 : Int64} {x10 : Int64} {x14 : Int64} {x18 : Int64} {v212 : Int64}  (f212 : x10 - (x14 * x4) = v212) (kt : (1000000000000000 : Int64) < v212 → Sat (ER l D aI aL ad) M_X7_first P 232 [(0, .ref (ad 0))] [] I J) (kf : ¬ (1000000000000000 : Int64) < v212 → Sat (ER l D aI aL ad) M_X7_first P 223 [(0, .ref (ad 0)), (1, .int x1), (14, .long x14), (18, .long x18), (21, .long v212)] [] I J) : Sat (ER l D aI aL ad) M_X7_first P 204 [(0, .ref (ad 0)), (1, .int x1), (4, .long x4), (10, .long x10), (14, .long x14), (18, .long x18)] [] I J := by
  refine s_lload 3 dX7_first_204 rfl ?_
  refine s_lload 4 dX7_first_206 rfl ?_
  refine s_lload 2 dX7_first_208 rfl ?_
  refine s_lmul dX7_first_210 ?_
  refine s_lsub dX7_first_211 ?_
  refine s_eql f212 ?_
  refine s_lstore [(21, .long v212), (0, .ref (ad 0)), (1, .int x1), (4, .long x4), (10, .long x10), (14, .long x14), (18, .long x18)] dX7_first_212 (Nat.lt_of_lt_of_le (Nat.lt_succ_self _) (Nat.le_of_ble_eq_true rfl)) rfl ?_
  refine s_lload 0 dX7_first_214 rfl ?_
  refine s_ldc2 wk_X7_379 dX7_first_216 ?_
  refine s_lif_gt (tgt := 232) dX7_first_219 dX7_first_220 (by decide) (fun c => ?_) (fun c => ?_)
  · refine s_pick [1] [(0, .ref (ad 0))] rfl ?_; exact kt c
  · refine s_pick [1, 2, 5, 6, 0] [(0, .ref (ad 0)), (1, .int x1), (14, .long x14), (18, .long x18), (21, .long v212)] rfl ?_; exact kf c
theorem bX7_first_223 {l : Launch} {D : va_G} {aI aL : ClassId} {ad : Nat → Nat} {P : sa_P} {I : sa_I} {J : sa_J} {x1 : Int32} {x14 : Int64} {x18 : Int64} {x21 : Int64}   (kt : (-1000000000000000 : Int64) ≤ x21 → Sat (ER l D aI aL ad) M_X7_first P 239 [(1, .int x1), (14, .long x14), (18, .long x18), (21, .long x21)] [] I J) (kf : ¬ (-1000000000000000 : Int64) ≤ x21 → Sat (ER l D aI aL ad) M_X7_first P 232 [(0, .ref (ad 0))] [] I J) : Sat (ER l D aI aL ad) M_X7_first P 223 [(0, .ref (ad 0)), (1, .int x1), (14, .long x14), (18, .long x18), (21, .long x21)] [] I J := by
  refine s_lload 4 dX7_first_223 rfl ?_
  refine s_ldc2 wk_X7_381 dX7_first_225 ?_
  refine s_lif_ge (tgt := 239) dX7_first_228 dX7_first_229 (by decide) (fun c => ?_) (fun c => ?_)
  · refine s_pick [1, 2, 3, 4] [(1, .int x1), (14, .long x14), (18, .long x18), (21, .long x21)] rfl ?_; exact kt c
  · refine s_pick [0] [(0, .ref (ad 0))] rfl ?_; exact kf c
theorem bX7_first_232 {l : Launch} {D : va_G} {aI aL : ClassId} {ad : Nat → Nat} {P : sa_P} {I : sa_I} {J : sa_J}    (k : Sat (ER l D aI aL ad) M_X7_first P 235 [] [.int (-6 : Int32), .ref (ad 0)] I J) : Sat (ER l D aI aL ad) M_X7_first P 232 [(0, .ref (ad 0))] [] I J := by
  refine s_aload_n 0 dX7_first_232 rfl ?_
  refine s_bipush (v := -6) dX7_first_233 rfl ?_
  refine s_pick [] [] rfl ?_; exact k
theorem bX7_first_238 {l : Launch} {D : va_G} {aI aL : ClassId} {ad : Nat → Nat} {P : sa_P} {I : sa_I} {J : sa_J} {s0 : Int64}   (k : P (some (.long s0)) I J) : Sat (ER l D aI aL ad) M_X7_first P 238 [] [.long s0] I J := by
  exact s_lret rfl dX7_first_238 k
theorem bX7_first_239 {l : Launch} {D : va_G} {aI aL : ClassId} {ad : Nat → Nat} {P : sa_P} {I : sa_I} {J : sa_J} {x1 : Int32} {x14 : Int64} {x18 : Int64} {x21 : Int64}   (kt : ¬ x1 = 0 → Sat (ER l D aI aL ad) M_X7_first P 248 [(1, .int x1), (14, .long x14), (18, .long x18)] [] I J) (kf : x1 = 0 → Sat (ER l D aI aL ad) M_X7_first P 243 [(21, .long x21)] [] I J) : Sat (ER l D aI aL ad) M_X7_first P 239 [(1, .int x1), (14, .long x14), (18, .long x18), (21, .long x21)] [] I J := by
  refine s_iload_n 0 dX7_first_239 rfl ?_
  refine s_if_ne (tgt := 248) dX7_first_240 (by decide) (fun c => ?_) (fun c => ?_)
  · refine s_pick [0, 1, 2] [(1, .int x1), (14, .long x14), (18, .long x18)] rfl ?_; exact kt c
  · refine s_pick [3] [(21, .long x21)] rfl ?_; exact kf (by first | exact c | exact Classical.not_not.mp c)
theorem bX7_first_243 {l : Launch} {D : va_G} {aI aL : ClassId} {ad : Nat → Nat} {P : sa_P} {I : sa_I} {J : sa_J} {x21 : Int64}   (k : Sat (ER l D aI aL ad) M_X7_first P 260 [] [.long x21] I J) : Sat (ER l D aI aL ad) M_X7_first P 243 [(21, .long x21)] [] I J := by
  refine s_lload 0 dX7_first_243 rfl ?_
  refine s_goto (tgt := 260) dX7_first_245 (by decide) ?_
  refine s_pick [] [] rfl ?_; exact k
theorem bX7_first_248 {l : Launch} {D : va_G} {aI aL : ClassId} {ad : Nat → Nat} {P : sa_P} {I : sa_I} {J : sa_J} {x1 : Int32} {x14 : Int64} {x18 : Int64}   (kt : ¬ x1 = (1 : Int32) → Sat (ER l D aI aL ad) M_X7_first P 258 [(18, .long x18)] [] I J) (kf : x1 = (1 : Int32) → Sat (ER l D aI aL ad) M_X7_first P 253 [(14, .long x14)] [] I J) : Sat (ER l D aI aL ad) M_X7_first P 248 [(1, .int x1), (14, .long x14), (18, .long x18)] [] I J := by
  refine s_iload_n 0 dX7_first_248 rfl ?_
  refine s_iconst (v := 1) dX7_first_249 rfl ?_
  refine s_icmp_ne (tgt := 258) dX7_first_250 (by decide) (fun c => ?_) (fun c => ?_)
  · refine s_pick [2] [(18, .long x18)] rfl ?_; exact kt c
  · refine s_pick [1] [(14, .long x14)] rfl ?_; exact kf (by first | exact c | exact Classical.not_not.mp c)
theorem bX7_first_253 {l : Launch} {D : va_G} {aI aL : ClassId} {ad : Nat → Nat} {P : sa_P} {I : sa_I} {J : sa_J} {x14 : Int64}   (k : Sat (ER l D aI aL ad) M_X7_first P 260 [] [.long x14] I J) : Sat (ER l D aI aL ad) M_X7_first P 253 [(14, .long x14)] [] I J := by
  refine s_lload 0 dX7_first_253 rfl ?_
  refine s_goto (tgt := 260) dX7_first_255 (by decide) ?_
  refine s_pick [] [] rfl ?_; exact k
theorem bX7_first_258 {l : Launch} {D : va_G} {aI aL : ClassId} {ad : Nat → Nat} {P : sa_P} {I : sa_I} {J : sa_J} {x18 : Int64}   (k : Sat (ER l D aI aL ad) M_X7_first P 260 [] [.long x18] I J) : Sat (ER l D aI aL ad) M_X7_first P 258 [(18, .long x18)] [] I J := by
  refine s_lload 0 dX7_first_258 rfl ?_
  refine s_pick [] [] rfl ?_; exact k
theorem bX7_first_260 {l : Launch} {D : va_G} {aI aL : ClassId} {ad : Nat → Nat} {P : sa_P} {I : sa_I} {J : sa_J} {s0 : Int64}   (k : P (some (.long s0)) I J) : Sat (ER l D aI aL ad) M_X7_first P 260 [] [.long s0] I J := by
  exact s_lret rfl dX7_first_260 k
/-! X7_count -/
theorem dX7_count_0 : decode cX7_count 0 = .ok (.iload_n 1, 1) := by decide +kernel
theorem dX7_count_1 : decode cX7_count 1 = .ok (.bipush 10, 2) := by decide +kernel
theorem dX7_count_3 : decode cX7_count 3 = .ok (.if_icmp .le 19, 3) := by decide +kernel
theorem dX7_count_6 : decode cX7_count 6 = .ok (.iload_n 1, 1) := by decide +kernel
theorem dX7_count_7 : decode cX7_count 7 = .ok (.bipush 17, 2) := by decide +kernel
theorem dX7_count_9 : decode cX7_count 9 = .ok (.if_icmp .ge 13, 3) := by decide +kernel
theorem dX7_count_12 : decode cX7_count 12 = .ok (.aload_n 0, 1) := by decide +kernel
theorem dX7_count_13 : decode cX7_count 13 = .ok (.getfield 7, 3) := by decide +kernel
theorem dX7_count_16 : decode cX7_count 16 = .ok (.iload_n 1, 1) := by decide +kernel
theorem dX7_count_17 : decode cX7_count 17 = .ok (.bipush 10, 2) := by decide +kernel
theorem dX7_count_19 : decode cX7_count 19 = .ok (.isub, 1) := by decide +kernel
theorem dX7_count_20 : decode cX7_count 20 = .ok (.iaload, 1) := by decide +kernel
theorem dX7_count_21 : decode cX7_count 21 = .ok (.ireturn, 1) := by decide +kernel
theorem dX7_count_22 : decode cX7_count 22 = .ok (.iload_n 1, 1) := by decide +kernel
theorem dX7_count_23 : decode cX7_count 23 = .ok (.ifCond .ne 10, 3) := by decide +kernel
theorem dX7_count_26 : decode cX7_count 26 = .ok (.aload_n 0, 1) := by decide +kernel
theorem dX7_count_27 : decode cX7_count 27 = .ok (.getfield 163, 3) := by decide +kernel
theorem dX7_count_30 : decode cX7_count 30 = .ok (.goto 17, 3) := by decide +kernel
theorem dX7_count_33 : decode cX7_count 33 = .ok (.iload_n 1, 1) := by decide +kernel
theorem dX7_count_34 : decode cX7_count 34 = .ok (.iconst 1, 1) := by decide +kernel
theorem dX7_count_35 : decode cX7_count 35 = .ok (.if_icmp .ne 10, 3) := by decide +kernel
theorem dX7_count_38 : decode cX7_count 38 = .ok (.aload_n 0, 1) := by decide +kernel
theorem dX7_count_39 : decode cX7_count 39 = .ok (.getfield 166, 3) := by decide +kernel
theorem dX7_count_42 : decode cX7_count 42 = .ok (.goto 5, 3) := by decide +kernel
theorem dX7_count_45 : decode cX7_count 45 = .ok (.bipush (-9), 2) := by decide +kernel
theorem dX7_count_47 : decode cX7_count 47 = .ok (.ireturn, 1) := by decide +kernel
theorem bX7_count_0 {l : Launch} {D : va_G} {aI aL : ClassId} {ad : Nat → Nat} {P : sa_P} {I : sa_I} {J : sa_J} {x1 : Int32}   (kt : x1 ≤ (10 : Int32) → Sat (ER l D aI aL ad) M_X7_count P 22 [(0, .ref (ad 0)), (1, .int x1)] [] I J) (kf : ¬ x1 ≤ (10 : Int32) → Sat (ER l D aI aL ad) M_X7_count P 6 [(0, .ref (ad 0)), (1, .int x1)] [] I J) : Sat (ER l D aI aL ad) M_X7_count P 0 [(0, .ref (ad 0)), (1, .int x1)] [] I J := by
  refine s_iload_n 1 dX7_count_0 rfl ?_
  refine s_bipush (v := 10) dX7_count_1 rfl ?_
  refine s_icmp_le (tgt := 22) dX7_count_3 (by decide) (fun c => ?_) (fun c => ?_)
  · exact kt c
  · exact kf c
theorem bX7_count_6 {l : Launch} {D : va_G} {aI aL : ClassId} {ad : Nat → Nat} {P : sa_P} {I : sa_I} {J : sa_J} {x1 : Int32}   (kt : (17 : Int32) ≤ x1 → Sat (ER l D aI aL ad) M_X7_count P 22 [(0, .ref (ad 0)), (1, .int x1)] [] I J) (kf : ¬ (17 : Int32) ≤ x1 → Sat (ER l D aI aL ad) M_X7_count P 12 [(0, .ref (ad 0)), (1, .int x1)] [] I J) : Sat (ER l D aI aL ad) M_X7_count P 6 [(0, .ref (ad 0)), (1, .int x1)] [] I J := by
  refine s_iload_n 1 dX7_count_6 rfl ?_
  refine s_bipush (v := 17) dX7_count_7 rfl ?_
  refine s_icmp_ge (tgt := 22) dX7_count_9 (by decide) (fun c => ?_) (fun c => ?_)
  · exact kt c
  · exact kf c
theorem bX7_count_12 {l : Launch} {D : va_G} {aI aL : ClassId} {ad : Nat → Nat} {P : sa_P} {I : sa_I} {J : sa_J} {x1 : Int32} {j19 : Nat} (e19 : x1 - (10 : Int32) = nI j19) (h20 : j19 < 7)  (k : P (some (.int (I 1 j19))) I J) : Sat (ER l D aI aL ad) M_X7_count P 12 [(0, .ref (ad 0)), (1, .int x1)] [] I J := by
  refine s_aload_n 0 dX7_count_12 rfl ?_
  refine g_X7_7 dX7_count_13 rfl ?_
  refine s_iload_n 1 dX7_count_16 rfl ?_
  refine s_bipush (v := 10) dX7_count_17 rfl ?_
  refine s_isub dX7_count_19 ?_
  refine s_eqi e19 ?_
  refine s_ialoadN aI_R1 h20 (by decide) dX7_count_20 ?_
  exact s_iret rfl dX7_count_21 k
theorem bX7_count_22 {l : Launch} {D : va_G} {aI aL : ClassId} {ad : Nat → Nat} {P : sa_P} {I : sa_I} {J : sa_J} {x1 : Int32}   (kt : ¬ x1 = 0 → Sat (ER l D aI aL ad) M_X7_count P 33 [(0, .ref (ad 0)), (1, .int x1)] [] I J) (kf : x1 = 0 → Sat (ER l D aI aL ad) M_X7_count P 26 [(0, .ref (ad 0))] [] I J) : Sat (ER l D aI aL ad) M_X7_count P 22 [(0, .ref (ad 0)), (1, .int x1)] [] I J := by
  refine s_iload_n 1 dX7_count_22 rfl ?_
  refine s_if_ne (tgt := 33) dX7_count_23 (by decide) (fun c => ?_) (fun c => ?_)
  · exact kt c
  · refine s_pick [0] [(0, .ref (ad 0))] rfl ?_; exact kf (by first | exact c | exact Classical.not_not.mp c)
theorem bX7_count_26 {l : Launch} {D : va_G} {aI aL : ClassId} {ad : Nat → Nat} {P : sa_P} {I : sa_I} {J : sa_J}    (k : Sat (ER l D aI aL ad) M_X7_count P 47 [] [.int (I 0 13)] I J) : Sat (ER l D aI aL ad) M_X7_count P 26 [(0, .ref (ad 0))] [] I J := by
  refine s_aload_n 0 dX7_count_26 rfl ?_
  refine g_X7_163 dX7_count_27 rfl ?_
  refine s_goto (tgt := 47) dX7_count_30 (by decide) ?_
  refine s_pick [] [] rfl ?_; exact k
theorem bX7_count_33 {l : Launch} {D : va_G} {aI aL : ClassId} {ad : Nat → Nat} {P : sa_P} {I : sa_I} {J : sa_J} {x1 : Int32}   (kt : ¬ x1 = (1 : Int32) → Sat (ER l D aI aL ad) M_X7_count P 45 [] [] I J) (kf : x1 = (1 : Int32) → Sat (ER l D aI aL ad) M_X7_count P 38 [(0, .ref (ad 0))] [] I J) : Sat (ER l D aI aL ad) M_X7_count P 33 [(0, .ref (ad 0)), (1, .int x1)] [] I J := by
  refine s_iload_n 1 dX7_count_33 rfl ?_
  refine s_iconst (v := 1) dX7_count_34 rfl ?_
  refine s_icmp_ne (tgt := 45) dX7_count_35 (by decide) (fun c => ?_) (fun c => ?_)
  · refine s_pick [] [] rfl ?_; exact kt c
  · refine s_pick [0] [(0, .ref (ad 0))] rfl ?_; exact kf (by first | exact c | exact Classical.not_not.mp c)
theorem bX7_count_38 {l : Launch} {D : va_G} {aI aL : ClassId} {ad : Nat → Nat} {P : sa_P} {I : sa_I} {J : sa_J}    (k : Sat (ER l D aI aL ad) M_X7_count P 47 [] [.int (I 0 14)] I J) : Sat (ER l D aI aL ad) M_X7_count P 38 [(0, .ref (ad 0))] [] I J := by
  refine s_aload_n 0 dX7_count_38 rfl ?_
  refine g_X7_166 dX7_count_39 rfl ?_
  refine s_goto (tgt := 47) dX7_count_42 (by decide) ?_
  refine s_pick [] [] rfl ?_; exact k
theorem bX7_count_45 {l : Launch} {D : va_G} {aI aL : ClassId} {ad : Nat → Nat} {P : sa_P} {I : sa_I} {J : sa_J}    (k : Sat (ER l D aI aL ad) M_X7_count P 47 [] [.int (-9 : Int32)] I J) : Sat (ER l D aI aL ad) M_X7_count P 45 [] [] I J := by
  refine s_bipush (v := -9) dX7_count_45 rfl ?_
  exact k
theorem bX7_count_47 {l : Launch} {D : va_G} {aI aL : ClassId} {ad : Nat → Nat} {P : sa_P} {I : sa_I} {J : sa_J} {s0 : Int32}   (k : P (some (.int s0)) I J) : Sat (ER l D aI aL ad) M_X7_count P 47 [] [.int s0] I J := by
  exact s_iret rfl dX7_count_47 k
