/-! X4_openSquare -/
theorem dX4_openSquare_0 : decode cX4_openSquare 0 = .ok (.aload_n 0, 1) := by decide +kernel
theorem dX4_openSquare_1 : decode cX4_openSquare 1 = .ok (.iconst 2, 1) := by decide +kernel
theorem dX4_openSquare_2 : decode cX4_openSquare 2 = .ok (.putfield 36, 3) := by decide +kernel
theorem dX4_openSquare_5 : decode cX4_openSquare 5 = .ok (.aload_n 0, 1) := by decide +kernel
theorem dX4_openSquare_6 : decode cX4_openSquare 6 = .ok (.getfield 9, 3) := by decide +kernel
theorem dX4_openSquare_9 : decode cX4_openSquare 9 = .ok (.iconst 0, 1) := by decide +kernel
theorem dX4_openSquare_10 : decode cX4_openSquare 10 = .ok (.lload_n 3, 1) := by decide +kernel
theorem dX4_openSquare_11 : decode cX4_openSquare 11 = .ok (.lastore, 1) := by decide +kernel
theorem dX4_openSquare_12 : decode cX4_openSquare 12 = .ok (.aload_n 0, 1) := by decide +kernel
theorem dX4_openSquare_13 : decode cX4_openSquare 13 = .ok (.getfield 9, 3) := by decide +kernel
theorem dX4_openSquare_16 : decode cX4_openSquare 16 = .ok (.iconst 1, 1) := by decide +kernel
theorem dX4_openSquare_17 : decode cX4_openSquare 17 = .ok (.lload_n 1, 1) := by decide +kernel
theorem dX4_openSquare_18 : decode cX4_openSquare 18 = .ok (.lastore, 1) := by decide +kernel
theorem dX4_openSquare_19 : decode cX4_openSquare 19 = .ok (.aload_n 0, 1) := by decide +kernel
theorem dX4_openSquare_20 : decode cX4_openSquare 20 = .ok (.getfield 9, 3) := by decide +kernel
theorem dX4_openSquare_23 : decode cX4_openSquare 23 = .ok (.iconst 2, 1) := by decide +kernel
theorem dX4_openSquare_24 : decode cX4_openSquare 24 = .ok (.lconst 0, 1) := by decide +kernel
theorem dX4_openSquare_25 : decode cX4_openSquare 25 = .ok (.lastore, 1) := by decide +kernel
theorem dX4_openSquare_26 : decode cX4_openSquare 26 = .ok (.aload_n 0, 1) := by decide +kernel
theorem dX4_openSquare_27 : decode cX4_openSquare 27 = .ok (.lload_n 1, 1) := by decide +kernel
theorem dX4_openSquare_28 : decode cX4_openSquare 28 = .ok (.lload_n 1, 1) := by decide +kernel
theorem dX4_openSquare_29 : decode cX4_openSquare 29 = .ok (.lmul, 1) := by decide +kernel
theorem dX4_openSquare_30 : decode cX4_openSquare 30 = .ok (.ldc2_w 40, 3) := by decide +kernel
theorem dX4_openSquare_33 : decode cX4_openSquare 33 = .ok (.lload_n 3, 1) := by decide +kernel
theorem dX4_openSquare_34 : decode cX4_openSquare 34 = .ok (.lmul, 1) := by decide +kernel
theorem dX4_openSquare_35 : decode cX4_openSquare 35 = .ok (.lsub, 1) := by decide +kernel
theorem dX4_openSquare_36 : decode cX4_openSquare 36 = .ok (.putfield 42, 3) := by decide +kernel
theorem dX4_openSquare_39 : decode cX4_openSquare 39 = .ok (.aload_n 0, 1) := by decide +kernel
theorem dX4_openSquare_40 : decode cX4_openSquare 40 = .ok (.invokevirtual 46, 3) := by decide +kernel
theorem dX4_openSquare_43 : decode cX4_openSquare 43 = .ok (.aload_n 0, 1) := by decide +kernel
theorem dX4_openSquare_44 : decode cX4_openSquare 44 = .ok (.invokevirtual 49, 3) := by decide +kernel
theorem dX4_openSquare_47 : decode cX4_openSquare 47 = .ok (.aload_n 0, 1) := by decide +kernel
theorem dX4_openSquare_48 : decode cX4_openSquare 48 = .ok (.invokevirtual 52, 3) := by decide +kernel
theorem dX4_openSquare_51 : decode cX4_openSquare 51 = .ok (.return_, 1) := by decide +kernel
theorem bX4_openSquare_0 {l : Launch} {D : va_G} {aI aL : ClassId} {ad : Nat → Nat} {P : sa_P} {I : sa_I} {J : sa_J} {x1 : Int64} {x3 : Int64} {v2 : Int32} {v25 : Int64} {v36 : Int64}  (f2 : (2 : Int32) = v2) (f25 : (0 : Int64) = v25) (f36 : (x1 * x1) - ((4 : Int64) * x3) = v36) (k : Sat (EC l D aI aL ad) M_X4_openSquare P 40 [(0, .ref (ad 4))] [.ref (ad 4)] (sa_uI I 4 0 v2) (sa_uJ (sa_uJ (sa_uJ (sa_uJ J 5 0 x3) 5 1 x1) 5 2 v25) 4 1 v36)) : Sat (EC l D aI aL ad) M_X4_openSquare P 0 [(0, .ref (ad 4)), (1, .long x1), (3, .long x3)] [] I J := by
  refine s_aload_n 0 dX4_openSquare_0 rfl ?_
  refine s_iconst (v := 2) dX4_openSquare_1 rfl ?_
  refine s_eqi f2 ?_
  refine p_X4_36 dX4_openSquare_2 rfl ?_
  refine s_aload_n 0 dX4_openSquare_5 rfl ?_
  refine g_X4_9 dX4_openSquare_6 rfl ?_
  refine s_iconst (v := 0) dX4_openSquare_9 rfl ?_
  refine s_eqi (y := nI 0) rfl ?_
  refine s_lload_n 2 dX4_openSquare_10 rfl ?_
  refine s_lastoreN aJ_C5 (by decide) (by decide) dX4_openSquare_11 ?_
  refine s_aload_n 0 dX4_openSquare_12 rfl ?_
  refine g_X4_9 dX4_openSquare_13 rfl ?_
  refine s_iconst (v := 1) dX4_openSquare_16 rfl ?_
  refine s_eqi (y := nI 1) rfl ?_
  refine s_lload_n 1 dX4_openSquare_17 rfl ?_
  refine s_lastoreN aJ_C5 (by decide) (by decide) dX4_openSquare_18 ?_
  refine s_aload_n 0 dX4_openSquare_19 rfl ?_
  refine g_X4_9 dX4_openSquare_20 rfl ?_
  refine s_iconst (v := 2) dX4_openSquare_23 rfl ?_
  refine s_eqi (y := nI 2) rfl ?_
  refine s_lconst (v := 0) dX4_openSquare_24 rfl ?_
  refine s_eql f25 ?_
  refine s_lastoreN aJ_C5 (by decide) (by decide) dX4_openSquare_25 ?_
  refine s_aload_n 0 dX4_openSquare_26 rfl ?_
  refine s_lload_n 1 dX4_openSquare_27 rfl ?_
  refine s_lload_n 1 dX4_openSquare_28 rfl ?_
  refine s_lmul dX4_openSquare_29 ?_
  refine s_ldc2 wk_X4_40 dX4_openSquare_30 ?_
  refine s_lload_n 2 dX4_openSquare_33 rfl ?_
  refine s_lmul dX4_openSquare_34 ?_
  refine s_lsub dX4_openSquare_35 ?_
  refine s_eql f36 ?_
  refine p_X4_42 dX4_openSquare_36 rfl ?_
  refine s_aload_n 0 dX4_openSquare_39 rfl ?_
  refine s_pick [0] [(0, .ref (ad 4))] rfl ?_; exact k
theorem bX4_openSquare_43 {l : Launch} {D : va_G} {aI aL : ClassId} {ad : Nat → Nat} {P : sa_P} {I : sa_I} {J : sa_J}    (k : Sat (EC l D aI aL ad) M_X4_openSquare P 44 [(0, .ref (ad 4))] [.ref (ad 4)] I J) : Sat (EC l D aI aL ad) M_X4_openSquare P 43 [(0, .ref (ad 4))] [] I J := by
  refine s_aload_n 0 dX4_openSquare_43 rfl ?_
  exact k
theorem bX4_openSquare_47 {l : Launch} {D : va_G} {aI aL : ClassId} {ad : Nat → Nat} {P : sa_P} {I : sa_I} {J : sa_J}    (k : Sat (EC l D aI aL ad) M_X4_openSquare P 48 [] [.ref (ad 4)] I J) : Sat (EC l D aI aL ad) M_X4_openSquare P 47 [(0, .ref (ad 4))] [] I J := by
  refine s_aload_n 0 dX4_openSquare_47 rfl ?_
  refine s_pick [] [] rfl ?_; exact k
theorem bX4_openSquare_51 {l : Launch} {D : va_G} {aI aL : ClassId} {ad : Nat → Nat} {P : sa_P} {I : sa_I} {J : sa_J}    (k : P (none) I J) : Sat (EC l D aI aL ad) M_X4_openSquare P 51 [] [] I J := by
  exact s_vret rfl dX4_openSquare_51 k
/-! X4_openCube -/
theorem dX4_openCube_0 : decode cX4_openCube 0 = .ok (.aload_n 0, 1) := by decide +kernel
theorem dX4_openCube_1 : decode cX4_openCube 1 = .ok (.iconst 3, 1) := by decide +kernel
theorem dX4_openCube_2 : decode cX4_openCube 2 = .ok (.putfield 36, 3) := by decide +kernel
theorem dX4_openCube_5 : decode cX4_openCube 5 = .ok (.aload_n 0, 1) := by decide +kernel
theorem dX4_openCube_6 : decode cX4_openCube 6 = .ok (.getfield 9, 3) := by decide +kernel
theorem dX4_openCube_9 : decode cX4_openCube 9 = .ok (.iconst 0, 1) := by decide +kernel
theorem dX4_openCube_10 : decode cX4_openCube 10 = .ok (.lload 5, 2) := by decide +kernel
theorem dX4_openCube_12 : decode cX4_openCube 12 = .ok (.lastore, 1) := by decide +kernel
theorem dX4_openCube_13 : decode cX4_openCube 13 = .ok (.aload_n 0, 1) := by decide +kernel
theorem dX4_openCube_14 : decode cX4_openCube 14 = .ok (.getfield 9, 3) := by decide +kernel
theorem dX4_openCube_17 : decode cX4_openCube 17 = .ok (.iconst 1, 1) := by decide +kernel
theorem dX4_openCube_18 : decode cX4_openCube 18 = .ok (.lload_n 3, 1) := by decide +kernel
theorem dX4_openCube_19 : decode cX4_openCube 19 = .ok (.lastore, 1) := by decide +kernel
theorem dX4_openCube_20 : decode cX4_openCube 20 = .ok (.aload_n 0, 1) := by decide +kernel
theorem dX4_openCube_21 : decode cX4_openCube 21 = .ok (.getfield 9, 3) := by decide +kernel
theorem dX4_openCube_24 : decode cX4_openCube 24 = .ok (.iconst 2, 1) := by decide +kernel
theorem dX4_openCube_25 : decode cX4_openCube 25 = .ok (.lload_n 1, 1) := by decide +kernel
theorem dX4_openCube_26 : decode cX4_openCube 26 = .ok (.lastore, 1) := by decide +kernel
theorem dX4_openCube_27 : decode cX4_openCube 27 = .ok (.aload_n 0, 1) := by decide +kernel
theorem dX4_openCube_28 : decode cX4_openCube 28 = .ok (.lload_n 1, 1) := by decide +kernel
theorem dX4_openCube_29 : decode cX4_openCube 29 = .ok (.lload_n 1, 1) := by decide +kernel
theorem dX4_openCube_30 : decode cX4_openCube 30 = .ok (.lmul, 1) := by decide +kernel
theorem dX4_openCube_31 : decode cX4_openCube 31 = .ok (.lload_n 3, 1) := by decide +kernel
theorem dX4_openCube_32 : decode cX4_openCube 32 = .ok (.lmul, 1) := by decide +kernel
theorem dX4_openCube_33 : decode cX4_openCube 33 = .ok (.lload_n 3, 1) := by decide +kernel
theorem dX4_openCube_34 : decode cX4_openCube 34 = .ok (.lmul, 1) := by decide +kernel
theorem dX4_openCube_35 : decode cX4_openCube 35 = .ok (.ldc2_w 40, 3) := by decide +kernel
theorem dX4_openCube_38 : decode cX4_openCube 38 = .ok (.lload_n 3, 1) := by decide +kernel
theorem dX4_openCube_39 : decode cX4_openCube 39 = .ok (.lmul, 1) := by decide +kernel
theorem dX4_openCube_40 : decode cX4_openCube 40 = .ok (.lload_n 3, 1) := by decide +kernel
theorem dX4_openCube_41 : decode cX4_openCube 41 = .ok (.lmul, 1) := by decide +kernel
theorem dX4_openCube_42 : decode cX4_openCube 42 = .ok (.lload_n 3, 1) := by decide +kernel
theorem dX4_openCube_43 : decode cX4_openCube 43 = .ok (.lmul, 1) := by decide +kernel
theorem dX4_openCube_44 : decode cX4_openCube 44 = .ok (.lsub, 1) := by decide +kernel
theorem dX4_openCube_45 : decode cX4_openCube 45 = .ok (.ldc2_w 40, 3) := by decide +kernel
theorem dX4_openCube_48 : decode cX4_openCube 48 = .ok (.lload_n 1, 1) := by decide +kernel
theorem dX4_openCube_49 : decode cX4_openCube 49 = .ok (.lmul, 1) := by decide +kernel
theorem dX4_openCube_50 : decode cX4_openCube 50 = .ok (.lload_n 1, 1) := by decide +kernel
theorem dX4_openCube_51 : decode cX4_openCube 51 = .ok (.lmul, 1) := by decide +kernel
theorem dX4_openCube_52 : decode cX4_openCube 52 = .ok (.lload_n 1, 1) := by decide +kernel
theorem dX4_openCube_53 : decode cX4_openCube 53 = .ok (.lmul, 1) := by decide +kernel
theorem dX4_openCube_54 : decode cX4_openCube 54 = .ok (.lload 5, 2) := by decide +kernel
theorem dX4_openCube_56 : decode cX4_openCube 56 = .ok (.lmul, 1) := by decide +kernel
theorem dX4_openCube_57 : decode cX4_openCube 57 = .ok (.lsub, 1) := by decide +kernel
theorem dX4_openCube_58 : decode cX4_openCube 58 = .ok (.ldc2_w 55, 3) := by decide +kernel
theorem dX4_openCube_61 : decode cX4_openCube 61 = .ok (.lload 5, 2) := by decide +kernel
theorem dX4_openCube_63 : decode cX4_openCube 63 = .ok (.lmul, 1) := by decide +kernel
theorem dX4_openCube_64 : decode cX4_openCube 64 = .ok (.lload 5, 2) := by decide +kernel
theorem dX4_openCube_66 : decode cX4_openCube 66 = .ok (.lmul, 1) := by decide +kernel
theorem dX4_openCube_67 : decode cX4_openCube 67 = .ok (.lsub, 1) := by decide +kernel
theorem dX4_openCube_68 : decode cX4_openCube 68 = .ok (.ldc2_w 57, 3) := by decide +kernel
theorem dX4_openCube_71 : decode cX4_openCube 71 = .ok (.lload_n 1, 1) := by decide +kernel
theorem dX4_openCube_72 : decode cX4_openCube 72 = .ok (.lmul, 1) := by decide +kernel
theorem dX4_openCube_73 : decode cX4_openCube 73 = .ok (.lload_n 3, 1) := by decide +kernel
theorem dX4_openCube_74 : decode cX4_openCube 74 = .ok (.lmul, 1) := by decide +kernel
theorem dX4_openCube_75 : decode cX4_openCube 75 = .ok (.lload 5, 2) := by decide +kernel
theorem dX4_openCube_77 : decode cX4_openCube 77 = .ok (.lmul, 1) := by decide +kernel
theorem dX4_openCube_78 : decode cX4_openCube 78 = .ok (.ladd, 1) := by decide +kernel
theorem dX4_openCube_79 : decode cX4_openCube 79 = .ok (.putfield 42, 3) := by decide +kernel
theorem dX4_openCube_82 : decode cX4_openCube 82 = .ok (.aload_n 0, 1) := by decide +kernel
theorem dX4_openCube_83 : decode cX4_openCube 83 = .ok (.invokevirtual 46, 3) := by decide +kernel
theorem dX4_openCube_86 : decode cX4_openCube 86 = .ok (.aload_n 0, 1) := by decide +kernel
theorem dX4_openCube_87 : decode cX4_openCube 87 = .ok (.invokevirtual 49, 3) := by decide +kernel
theorem dX4_openCube_90 : decode cX4_openCube 90 = .ok (.aload_n 0, 1) := by decide +kernel
theorem dX4_openCube_91 : decode cX4_openCube 91 = .ok (.invokevirtual 59, 3) := by decide +kernel
theorem dX4_openCube_94 : decode cX4_openCube 94 = .ok (.aload_n 0, 1) := by decide +kernel
theorem dX4_openCube_95 : decode cX4_openCube 95 = .ok (.invokevirtual 52, 3) := by decide +kernel
theorem dX4_openCube_98 : decode cX4_openCube 98 = .ok (.return_, 1) := by decide +kernel
theorem bX4_openCube_0 {l : Launch} {D : va_G} {aI aL : ClassId} {ad : Nat → Nat} {P : sa_P} {I : sa_I} {J : sa_J} {x1 : Int64} {x3 : Int64} {x5 : Int64} {v2 : Int32} {v79 : Int64}  (f2 : (3 : Int32) = v2) (f79 : ((((((x1 * x1) * x3) * x3) - ((((4 : Int64) * x3) * x3) * x3)) - (((((4 : Int64) * x1) * x1) * x1) * x5)) - (((27 : Int64) * x5) * x5)) + ((((18 : Int64) * x1) * x3) * x5) = v79) (k : Sat (EC l D aI aL ad) M_X4_openCube P 83 [(0, .ref (ad 4))] [.ref (ad 4)] (sa_uI I 4 0 v2) (sa_uJ (sa_uJ (sa_uJ (sa_uJ J 5 0 x5) 5 1 x3) 5 2 x1) 4 1 v79)) : Sat (EC l D aI aL ad) M_X4_openCube P 0 [(0, .ref (ad 4)), (1, .long x1), (3, .long x3), (5, .long x5)] [] I J := by
  refine s_aload_n 0 dX4_openCube_0 rfl ?_
  refine s_iconst (v := 3) dX4_openCube_1 rfl ?_
  refine s_eqi f2 ?_
  refine p_X4_36 dX4_openCube_2 rfl ?_
  refine s_aload_n 0 dX4_openCube_5 rfl ?_
  refine g_X4_9 dX4_openCube_6 rfl ?_
  refine s_iconst (v := 0) dX4_openCube_9 rfl ?_
  refine s_eqi (y := nI 0) rfl ?_
  refine s_lload 3 dX4_openCube_10 rfl ?_
  refine s_lastoreN aJ_C5 (by decide) (by decide) dX4_openCube_12 ?_
  refine s_aload_n 0 dX4_openCube_13 rfl ?_
  refine g_X4_9 dX4_openCube_14 rfl ?_
  refine s_iconst (v := 1) dX4_openCube_17 rfl ?_
  refine s_eqi (y := nI 1) rfl ?_
  refine s_lload_n 2 dX4_openCube_18 rfl ?_
  refine s_lastoreN aJ_C5 (by decide) (by decide) dX4_openCube_19 ?_
  refine s_aload_n 0 dX4_openCube_20 rfl ?_
  refine g_X4_9 dX4_openCube_21 rfl ?_
  refine s_iconst (v := 2) dX4_openCube_24 rfl ?_
  refine s_eqi (y := nI 2) rfl ?_
  refine s_lload_n 1 dX4_openCube_25 rfl ?_
  refine s_lastoreN aJ_C5 (by decide) (by decide) dX4_openCube_26 ?_
  refine s_aload_n 0 dX4_openCube_27 rfl ?_
  refine s_lload_n 1 dX4_openCube_28 rfl ?_
  refine s_lload_n 1 dX4_openCube_29 rfl ?_
  refine s_lmul dX4_openCube_30 ?_
  refine s_lload_n 2 dX4_openCube_31 rfl ?_
  refine s_lmul dX4_openCube_32 ?_
  refine s_lload_n 2 dX4_openCube_33 rfl ?_
  refine s_lmul dX4_openCube_34 ?_
  refine s_ldc2 wk_X4_40 dX4_openCube_35 ?_
  refine s_lload_n 2 dX4_openCube_38 rfl ?_
  refine s_lmul dX4_openCube_39 ?_
  refine s_lload_n 2 dX4_openCube_40 rfl ?_
  refine s_lmul dX4_openCube_41 ?_
  refine s_lload_n 2 dX4_openCube_42 rfl ?_
  refine s_lmul dX4_openCube_43 ?_
  refine s_lsub dX4_openCube_44 ?_
  refine s_ldc2 wk_X4_40 dX4_openCube_45 ?_
  refine s_lload_n 1 dX4_openCube_48 rfl ?_
  refine s_lmul dX4_openCube_49 ?_
  refine s_lload_n 1 dX4_openCube_50 rfl ?_
  refine s_lmul dX4_openCube_51 ?_
  refine s_lload_n 1 dX4_openCube_52 rfl ?_
  refine s_lmul dX4_openCube_53 ?_
  refine s_lload 3 dX4_openCube_54 rfl ?_
  refine s_lmul dX4_openCube_56 ?_
  refine s_lsub dX4_openCube_57 ?_
  refine s_ldc2 wk_X4_55 dX4_openCube_58 ?_
  refine s_lload 3 dX4_openCube_61 rfl ?_
  refine s_lmul dX4_openCube_63 ?_
  refine s_lload 3 dX4_openCube_64 rfl ?_
  refine s_lmul dX4_openCube_66 ?_
  refine s_lsub dX4_openCube_67 ?_
  refine s_ldc2 wk_X4_57 dX4_openCube_68 ?_
  refine s_lload_n 1 dX4_openCube_71 rfl ?_
  refine s_lmul dX4_openCube_72 ?_
  refine s_lload_n 2 dX4_openCube_73 rfl ?_
  refine s_lmul dX4_openCube_74 ?_
  refine s_lload 3 dX4_openCube_75 rfl ?_
  refine s_lmul dX4_openCube_77 ?_
  refine s_ladd dX4_openCube_78 ?_
  refine s_eql f79 ?_
  refine p_X4_42 dX4_openCube_79 rfl ?_
  refine s_aload_n 0 dX4_openCube_82 rfl ?_
  refine s_pick [0] [(0, .ref (ad 4))] rfl ?_; exact k
theorem bX4_openCube_86 {l : Launch} {D : va_G} {aI aL : ClassId} {ad : Nat → Nat} {P : sa_P} {I : sa_I} {J : sa_J}    (k : Sat (EC l D aI aL ad) M_X4_openCube P 87 [(0, .ref (ad 4))] [.ref (ad 4)] I J) : Sat (EC l D aI aL ad) M_X4_openCube P 86 [(0, .ref (ad 4))] [] I J := by
  refine s_aload_n 0 dX4_openCube_86 rfl ?_
  exact k
theorem bX4_openCube_90 {l : Launch} {D : va_G} {aI aL : ClassId} {ad : Nat → Nat} {P : sa_P} {I : sa_I} {J : sa_J}    (k : Sat (EC l D aI aL ad) M_X4_openCube P 91 [(0, .ref (ad 4))] [.ref (ad 4)] I J) : Sat (EC l D aI aL ad) M_X4_openCube P 90 [(0, .ref (ad 4))] [] I J := by
  refine s_aload_n 0 dX4_openCube_90 rfl ?_
  exact k
theorem bX4_openCube_94 {l : Launch} {D : va_G} {aI aL : ClassId} {ad : Nat → Nat} {P : sa_P} {I : sa_I} {J : sa_J}    (k : Sat (EC l D aI aL ad) M_X4_openCube P 95 [] [.ref (ad 4)] I J) : Sat (EC l D aI aL ad) M_X4_openCube P 94 [(0, .ref (ad 4))] [] I J := by
  refine s_aload_n 0 dX4_openCube_94 rfl ?_
  refine s_pick [] [] rfl ?_; exact k
theorem bX4_openCube_98 {l : Launch} {D : va_G} {aI aL : ClassId} {ad : Nat → Nat} {P : sa_P} {I : sa_I} {J : sa_J}    (k : P (none) I J) : Sat (EC l D aI aL ad) M_X4_openCube P 98 [] [] I J := by
  exact s_vret rfl dX4_openCube_98 k
/-! X4_realRoots -/
theorem dX4_realRoots_0 : decode cX4_realRoots 0 = .ok (.aload_n 0, 1) := by decide +kernel
theorem dX4_realRoots_1 : decode cX4_realRoots 1 = .ok (.getfield 36, 3) := by decide +kernel
theorem dX4_realRoots_4 : decode cX4_realRoots 4 = .ok (.iconst 2, 1) := by decide +kernel
theorem dX4_realRoots_5 : decode cX4_realRoots 5 = .ok (.if_icmp .ne 18, 3) := by decide +kernel
theorem dX4_realRoots_8 : decode cX4_realRoots 8 = .ok (.aload_n 0, 1) := by decide +kernel
theorem dX4_realRoots_9 : decode cX4_realRoots 9 = .ok (.getfield 42, 3) := by decide +kernel
theorem dX4_realRoots_12 : decode cX4_realRoots 12 = .ok (.lconst 0, 1) := by decide +kernel
theorem dX4_realRoots_13 : decode cX4_realRoots 13 = .ok (.lcmp, 1) := by decide +kernel
theorem dX4_realRoots_14 : decode cX4_realRoots 14 = .ok (.ifCond .le 7, 3) := by decide +kernel
theorem dX4_realRoots_17 : decode cX4_realRoots 17 = .ok (.iconst 2, 1) := by decide +kernel
theorem dX4_realRoots_18 : decode cX4_realRoots 18 = .ok (.goto 4, 3) := by decide +kernel
theorem dX4_realRoots_21 : decode cX4_realRoots 21 = .ok (.iconst 0, 1) := by decide +kernel
theorem dX4_realRoots_22 : decode cX4_realRoots 22 = .ok (.ireturn, 1) := by decide +kernel
theorem dX4_realRoots_23 : decode cX4_realRoots 23 = .ok (.aload_n 0, 1) := by decide +kernel
theorem dX4_realRoots_24 : decode cX4_realRoots 24 = .ok (.getfield 42, 3) := by decide +kernel
theorem dX4_realRoots_27 : decode cX4_realRoots 27 = .ok (.lconst 0, 1) := by decide +kernel
theorem dX4_realRoots_28 : decode cX4_realRoots 28 = .ok (.lcmp, 1) := by decide +kernel
theorem dX4_realRoots_29 : decode cX4_realRoots 29 = .ok (.ifCond .le 7, 3) := by decide +kernel
theorem dX4_realRoots_32 : decode cX4_realRoots 32 = .ok (.iconst 3, 1) := by decide +kernel
theorem dX4_realRoots_33 : decode cX4_realRoots 33 = .ok (.goto 4, 3) := by decide +kernel
theorem dX4_realRoots_36 : decode cX4_realRoots 36 = .ok (.iconst 1, 1) := by decide +kernel
theorem dX4_realRoots_37 : decode cX4_realRoots 37 = .ok (.ireturn, 1) := by decide +kernel
theorem bX4_realRoots_0 {l : Launch} {D : va_G} {aI aL : ClassId} {ad : Nat → Nat} {P : sa_P} {I : sa_I} {J : sa_J}    (kt : ¬ I 4 0 = (2 : Int32) → Sat (EC l D aI aL ad) M_X4_realRoots P 23 [(0, .ref (ad 4))] [] I J) (kf : I 4 0 = (2 : Int32) → Sat (EC l D aI aL ad) M_X4_realRoots P 8 [(0, .ref (ad 4))] [] I J) : Sat (EC l D aI aL ad) M_X4_realRoots P 0 [(0, .ref (ad 4))] [] I J := by
  refine s_aload_n 0 dX4_realRoots_0 rfl ?_
  refine g_X4_36 dX4_realRoots_1 rfl ?_
  refine s_iconst (v := 2) dX4_realRoots_4 rfl ?_
  refine s_icmp_ne (tgt := 23) dX4_realRoots_5 (by decide) (fun c => ?_) (fun c => ?_)
  · exact kt c
  · exact kf (by first | exact c | exact Classical.not_not.mp c)
theorem bX4_realRoots_8 {l : Launch} {D : va_G} {aI aL : ClassId} {ad : Nat → Nat} {P : sa_P} {I : sa_I} {J : sa_J}    (kt : J 4 1 ≤ (0 : Int64) → Sat (EC l D aI aL ad) M_X4_realRoots P 21 [] [] I J) (kf : ¬ J 4 1 ≤ (0 : Int64) → Sat (EC l D aI aL ad) M_X4_realRoots P 17 [] [] I J) : Sat (EC l D aI aL ad) M_X4_realRoots P 8 [(0, .ref (ad 4))] [] I J := by
  refine s_aload_n 0 dX4_realRoots_8 rfl ?_
  refine g_X4_42 dX4_realRoots_9 rfl ?_
  refine s_lconst (v := 0) dX4_realRoots_12 rfl ?_
  refine s_lif_le (tgt := 21) dX4_realRoots_13 dX4_realRoots_14 (by decide) (fun c => ?_) (fun c => ?_)
  · refine s_pick [] [] rfl ?_; exact kt c
  · refine s_pick [] [] rfl ?_; exact kf c
theorem bX4_realRoots_17 {l : Launch} {D : va_G} {aI aL : ClassId} {ad : Nat → Nat} {P : sa_P} {I : sa_I} {J : sa_J}    (k : Sat (EC l D aI aL ad) M_X4_realRoots P 22 [] [.int (2 : Int32)] I J) : Sat (EC l D aI aL ad) M_X4_realRoots P 17 [] [] I J := by
  refine s_iconst (v := 2) dX4_realRoots_17 rfl ?_
  refine s_goto (tgt := 22) dX4_realRoots_18 (by decide) ?_
  exact k
theorem bX4_realRoots_21 {l : Launch} {D : va_G} {aI aL : ClassId} {ad : Nat → Nat} {P : sa_P} {I : sa_I} {J : sa_J}    (k : Sat (EC l D aI aL ad) M_X4_realRoots P 22 [] [.int (0 : Int32)] I J) : Sat (EC l D aI aL ad) M_X4_realRoots P 21 [] [] I J := by
  refine s_iconst (v := 0) dX4_realRoots_21 rfl ?_
  exact k
theorem bX4_realRoots_22 {l : Launch} {D : va_G} {aI aL : ClassId} {ad : Nat → Nat} {P : sa_P} {I : sa_I} {J : sa_J} {s0 : Int32}   (k : P (some (.int s0)) I J) : Sat (EC l D aI aL ad) M_X4_realRoots P 22 [] [.int s0] I J := by
  exact s_iret rfl dX4_realRoots_22 k
theorem bX4_realRoots_23 {l : Launch} {D : va_G} {aI aL : ClassId} {ad : Nat → Nat} {P : sa_P} {I : sa_I} {J : sa_J}    (kt : J 4 1 ≤ (0 : Int64) → Sat (EC l D aI aL ad) M_X4_realRoots P 36 [] [] I J) (kf : ¬ J 4 1 ≤ (0 : Int64) → Sat (EC l D aI aL ad) M_X4_realRoots P 32 [] [] I J) : Sat (EC l D aI aL ad) M_X4_realRoots P 23 [(0, .ref (ad 4))] [] I J := by
  refine s_aload_n 0 dX4_realRoots_23 rfl ?_
  refine g_X4_42 dX4_realRoots_24 rfl ?_
  refine s_lconst (v := 0) dX4_realRoots_27 rfl ?_
  refine s_lif_le (tgt := 36) dX4_realRoots_28 dX4_realRoots_29 (by decide) (fun c => ?_) (fun c => ?_)
  · refine s_pick [] [] rfl ?_; exact kt c
  · refine s_pick [] [] rfl ?_; exact kf c
theorem bX4_realRoots_32 {l : Launch} {D : va_G} {aI aL : ClassId} {ad : Nat → Nat} {P : sa_P} {I : sa_I} {J : sa_J}    (k : Sat (EC l D aI aL ad) M_X4_realRoots P 37 [] [.int (3 : Int32)] I J) : Sat (EC l D aI aL ad) M_X4_realRoots P 32 [] [] I J := by
  refine s_iconst (v := 3) dX4_realRoots_32 rfl ?_
  refine s_goto (tgt := 37) dX4_realRoots_33 (by decide) ?_
  exact k
theorem bX4_realRoots_36 {l : Launch} {D : va_G} {aI aL : ClassId} {ad : Nat → Nat} {P : sa_P} {I : sa_I} {J : sa_J}    (k : Sat (EC l D aI aL ad) M_X4_realRoots P 37 [] [.int (1 : Int32)] I J) : Sat (EC l D aI aL ad) M_X4_realRoots P 36 [] [] I J := by
  refine s_iconst (v := 1) dX4_realRoots_36 rfl ?_
  exact k
theorem bX4_realRoots_37 {l : Launch} {D : va_G} {aI aL : ClassId} {ad : Nat → Nat} {P : sa_P} {I : sa_I} {J : sa_J} {s0 : Int32}   (k : P (some (.int s0)) I J) : Sat (EC l D aI aL ad) M_X4_realRoots P 37 [] [.int s0] I J := by
  exact s_iret rfl dX4_realRoots_37 k
/-! X4_traceOfSecond -/
theorem dX4_traceOfSecond_0 : decode cX4_traceOfSecond 0 = .ok (.aload_n 0, 1) := by decide +kernel
theorem dX4_traceOfSecond_1 : decode cX4_traceOfSecond 1 = .ok (.getfield 21, 3) := by decide +kernel
theorem dX4_traceOfSecond_4 : decode cX4_traceOfSecond 4 = .ok (.bipush 13, 2) := by decide +kernel
theorem dX4_traceOfSecond_6 : decode cX4_traceOfSecond 6 = .ok (.laload, 1) := by decide +kernel
theorem dX4_traceOfSecond_7 : decode cX4_traceOfSecond 7 = .ok (.lreturn, 1) := by decide +kernel
theorem bX4_traceOfSecond_0 {l : Launch} {D : va_G} {aI aL : ClassId} {ad : Nat → Nat} {P : sa_P} {I : sa_I} {J : sa_J}    (k : P (some (.long (J 8 13))) I J) : Sat (EC l D aI aL ad) M_X4_traceOfSecond P 0 [(0, .ref (ad 4))] [] I J := by
  refine s_aload_n 0 dX4_traceOfSecond_0 rfl ?_
  refine g_X4_21 dX4_traceOfSecond_1 rfl ?_
  refine s_bipush (v := 13) dX4_traceOfSecond_4 rfl ?_
  refine s_eqi (y := nI 13) rfl ?_
  refine s_laloadN aJ_C8 (by decide) (by decide) dX4_traceOfSecond_6 ?_
  exact s_lret rfl dX4_traceOfSecond_7 k
/-! X4_normOfSecond -/
theorem dX4_normOfSecond_0 : decode cX4_normOfSecond 0 = .ok (.aload_n 0, 1) := by decide +kernel
theorem dX4_normOfSecond_1 : decode cX4_normOfSecond 1 = .ok (.getfield 21, 3) := by decide +kernel
theorem dX4_normOfSecond_4 : decode cX4_normOfSecond 4 = .ok (.bipush 12, 2) := by decide +kernel
theorem dX4_normOfSecond_6 : decode cX4_normOfSecond 6 = .ok (.laload, 1) := by decide +kernel
theorem dX4_normOfSecond_7 : decode cX4_normOfSecond 7 = .ok (.lneg, 1) := by decide +kernel
theorem dX4_normOfSecond_8 : decode cX4_normOfSecond 8 = .ok (.lreturn, 1) := by decide +kernel
theorem bX4_normOfSecond_0 {l : Launch} {D : va_G} {aI aL : ClassId} {ad : Nat → Nat} {P : sa_P} {I : sa_I} {J : sa_J}    (k : P (some (.long (-(J 8 12)))) I J) : Sat (EC l D aI aL ad) M_X4_normOfSecond P 0 [(0, .ref (ad 4))] [] I J := by
  refine s_aload_n 0 dX4_normOfSecond_0 rfl ?_
  refine g_X4_21 dX4_normOfSecond_1 rfl ?_
  refine s_bipush (v := 12) dX4_normOfSecond_4 rfl ?_
  refine s_eqi (y := nI 12) rfl ?_
  refine s_laloadN aJ_C8 (by decide) (by decide) dX4_normOfSecond_6 ?_
  refine s_lneg dX4_normOfSecond_7 ?_
  exact s_lret rfl dX4_normOfSecond_8 k
/-! X4_startBasis -/
theorem dX4_startBasis_0 : decode cX4_startBasis 0 = .ok (.iconst 0, 1) := by decide +kernel
theorem dX4_startBasis_1 : decode cX4_startBasis 1 = .ok (.istore_n 1, 1) := by decide +kernel
theorem dX4_startBasis_2 : decode cX4_startBasis 2 = .ok (.iload_n 1, 1) := by decide +kernel
theorem dX4_startBasis_3 : decode cX4_startBasis 3 = .ok (.bipush 9, 2) := by decide +kernel
theorem dX4_startBasis_5 : decode cX4_startBasis 5 = .ok (.if_icmp .ge 26, 3) := by decide +kernel
theorem dX4_startBasis_8 : decode cX4_startBasis 8 = .ok (.aload_n 0, 1) := by decide +kernel
theorem dX4_startBasis_9 : decode cX4_startBasis 9 = .ok (.getfield 15, 3) := by decide +kernel
theorem dX4_startBasis_12 : decode cX4_startBasis 12 = .ok (.iload_n 1, 1) := by decide +kernel
theorem dX4_startBasis_13 : decode cX4_startBasis 13 = .ok (.iload_n 1, 1) := by decide +kernel
theorem dX4_startBasis_14 : decode cX4_startBasis 14 = .ok (.iconst 4, 1) := by decide +kernel
theorem dX4_startBasis_15 : decode cX4_startBasis 15 = .ok (.irem, 1) := by decide +kernel
theorem dX4_startBasis_16 : decode cX4_startBasis 16 = .ok (.ifCond .ne 7, 3) := by decide +kernel
theorem dX4_startBasis_19 : decode cX4_startBasis 19 = .ok (.lconst 1, 1) := by decide +kernel
theorem dX4_startBasis_20 : decode cX4_startBasis 20 = .ok (.goto 4, 3) := by decide +kernel
theorem dX4_startBasis_23 : decode cX4_startBasis 23 = .ok (.lconst 0, 1) := by decide +kernel
theorem dX4_startBasis_24 : decode cX4_startBasis 24 = .ok (.lastore, 1) := by decide +kernel
theorem dX4_startBasis_25 : decode cX4_startBasis 25 = .ok (.iinc 1 1, 3) := by decide +kernel
theorem dX4_startBasis_28 : decode cX4_startBasis 28 = .ok (.goto (-26), 3) := by decide +kernel
theorem dX4_startBasis_31 : decode cX4_startBasis 31 = .ok (.iconst 0, 1) := by decide +kernel
theorem dX4_startBasis_32 : decode cX4_startBasis 32 = .ok (.istore_n 1, 1) := by decide +kernel
theorem dX4_startBasis_33 : decode cX4_startBasis 33 = .ok (.iload_n 1, 1) := by decide +kernel
theorem dX4_startBasis_34 : decode cX4_startBasis 34 = .ok (.iconst 3, 1) := by decide +kernel
theorem dX4_startBasis_35 : decode cX4_startBasis 35 = .ok (.if_icmp .ge 16, 3) := by decide +kernel
theorem dX4_startBasis_38 : decode cX4_startBasis 38 = .ok (.aload_n 0, 1) := by decide +kernel
theorem dX4_startBasis_39 : decode cX4_startBasis 39 = .ok (.getfield 18, 3) := by decide +kernel
theorem dX4_startBasis_42 : decode cX4_startBasis 42 = .ok (.iload_n 1, 1) := by decide +kernel
theorem dX4_startBasis_43 : decode cX4_startBasis 43 = .ok (.lconst 1, 1) := by decide +kernel
theorem dX4_startBasis_44 : decode cX4_startBasis 44 = .ok (.lastore, 1) := by decide +kernel
theorem dX4_startBasis_45 : decode cX4_startBasis 45 = .ok (.iinc 1 1, 3) := by decide +kernel
theorem dX4_startBasis_48 : decode cX4_startBasis 48 = .ok (.goto (-15), 3) := by decide +kernel
theorem dX4_startBasis_51 : decode cX4_startBasis 51 = .ok (.return_, 1) := by decide +kernel
theorem bX4_startBasis_0 {l : Launch} {D : va_G} {aI aL : ClassId} {ad : Nat → Nat} {P : sa_P} {I : sa_I} {J : sa_J} {v1 : Int32}  (f1 : (0 : Int32) = v1) (k : Sat (EC l D aI aL ad) M_X4_startBasis P 2 [(0, .ref (ad 4)), (1, .int v1)] [] I J) : Sat (EC l D aI aL ad) M_X4_startBasis P 0 [(0, .ref (ad 4))] [] I J := by
  refine s_iconst (v := 0) dX4_startBasis_0 rfl ?_
  refine s_eqi f1 ?_
  refine s_istore_n [(1, .int v1), (0, .ref (ad 4))] dX4_startBasis_1 (Nat.lt_of_lt_of_le (Nat.lt_succ_self _) (Nat.le_of_ble_eq_true rfl)) rfl ?_
  refine s_pick [1, 0] [(0, .ref (ad 4)), (1, .int v1)] rfl ?_; exact k
theorem bX4_startBasis_2 {l : Launch} {D : va_G} {aI aL : ClassId} {ad : Nat → Nat} {P : sa_P} {I : sa_I} {J : sa_J} {x1 : Int32}   (kt : (9 : Int32) ≤ x1 → Sat (EC l D aI aL ad) M_X4_startBasis P 31 [(0, .ref (ad 4))] [] I J) (kf : ¬ (9 : Int32) ≤ x1 → Sat (EC l D aI aL ad) M_X4_startBasis P 8 [(0, .ref (ad 4)), (1, .int x1)] [] I J) : Sat (EC l D aI aL ad) M_X4_startBasis P 2 [(0, .ref (ad 4)), (1, .int x1)] [] I J := by
  refine s_iload_n 1 dX4_startBasis_2 rfl ?_
  refine s_bipush (v := 9) dX4_startBasis_3 rfl ?_
  refine s_icmp_ge (tgt := 31) dX4_startBasis_5 (by decide) (fun c => ?_) (fun c => ?_)
  · refine s_pick [0] [(0, .ref (ad 4))] rfl ?_; exact kt c
  · exact kf c
theorem bX4_startBasis_8 {l : Launch} {D : va_G} {aI aL : ClassId} {ad : Nat → Nat} {P : sa_P} {I : sa_I} {J : sa_J} {x1 : Int32}   (kt : ¬ x1 - x1 / (4 : Int32) * (4 : Int32) = 0 → Sat (EC l D aI aL ad) M_X4_startBasis P 23 [(0, .ref (ad 4)), (1, .int x1)] [.int x1, .ref (ad 6)] I J) (kf : x1 - x1 / (4 : Int32) * (4 : Int32) = 0 → Sat (EC l D aI aL ad) M_X4_startBasis P 19 [(0, .ref (ad 4)), (1, .int x1)] [.int x1, .ref (ad 6)] I J) : Sat (EC l D aI aL ad) M_X4_startBasis P 8 [(0, .ref (ad 4)), (1, .int x1)] [] I J := by
  refine s_aload_n 0 dX4_startBasis_8 rfl ?_
  refine g_X4_15 dX4_startBasis_9 rfl ?_
  refine s_iload_n 1 dX4_startBasis_12 rfl ?_
  refine s_iload_n 1 dX4_startBasis_13 rfl ?_
  refine s_iconst (v := 4) dX4_startBasis_14 rfl ?_
  refine s_irem dX4_startBasis_15 (by decide) ?_
  refine s_if_ne (tgt := 23) dX4_startBasis_16 (by decide) (fun c => ?_) (fun c => ?_)
  · exact kt c
  · exact kf (by first | exact c | exact Classical.not_not.mp c)
theorem bX4_startBasis_19 {l : Launch} {D : va_G} {aI aL : ClassId} {ad : Nat → Nat} {P : sa_P} {I : sa_I} {J : sa_J} {x1 : Int32} {s1 : Int32}   (k : Sat (EC l D aI aL ad) M_X4_startBasis P 24 [(0, .ref (ad 4)), (1, .int x1)] [.long (1 : Int64), .int s1, .ref (ad 6)] I J) : Sat (EC l D aI aL ad) M_X4_startBasis P 19 [(0, .ref (ad 4)), (1, .int x1)] [.int s1, .ref (ad 6)] I J := by
  refine s_lconst (v := 1) dX4_startBasis_19 rfl ?_
  refine s_goto (tgt := 24) dX4_startBasis_20 (by decide) ?_
  exact k
theorem bX4_startBasis_23 {l : Launch} {D : va_G} {aI aL : ClassId} {ad : Nat → Nat} {P : sa_P} {I : sa_I} {J : sa_J} {x1 : Int32} {s1 : Int32}   (k : Sat (EC l D aI aL ad) M_X4_startBasis P 24 [(0, .ref (ad 4)), (1, .int x1)] [.long (0 : Int64), .int s1, .ref (ad 6)] I J) : Sat (EC l D aI aL ad) M_X4_startBasis P 23 [(0, .ref (ad 4)), (1, .int x1)] [.int s1, .ref (ad 6)] I J := by
  refine s_lconst (v := 0) dX4_startBasis_23 rfl ?_
  exact k
theorem bX4_startBasis_24 {l : Launch} {D : va_G} {aI aL : ClassId} {ad : Nat → Nat} {P : sa_P} {I : sa_I} {J : sa_J} {x1 : Int32} {s1 : Nat} {s2 : Int64} {v25 : Int32} (h24 : s1 < 9) (f25 : x1 + 1 = v25) (k : Sat (EC l D aI aL ad) M_X4_startBasis P 2 [(0, .ref (ad 4)), (1, .int v25)] [] I (sa_uJ J 6 s1 s2)) : Sat (EC l D aI aL ad) M_X4_startBasis P 24 [(0, .ref (ad 4)), (1, .int x1)] [.long s2, .int (nI s1), .ref (ad 6)] I J := by
  refine s_lastoreN aJ_C6 h24 (by decide) dX4_startBasis_24 ?_
  refine s_iinc 1 v25 [(1, .int v25), (0, .ref (ad 4))] dX4_startBasis_25 rfl f25 (Nat.lt_of_lt_of_le (Nat.lt_succ_self _) (Nat.le_of_ble_eq_true rfl)) rfl ?_
  refine s_goto (tgt := 2) dX4_startBasis_28 (by decide) ?_
  refine s_pick [1, 0] [(0, .ref (ad 4)), (1, .int v25)] rfl ?_; exact k
theorem bX4_startBasis_31 {l : Launch} {D : va_G} {aI aL : ClassId} {ad : Nat → Nat} {P : sa_P} {I : sa_I} {J : sa_J} {v32 : Int32}  (f32 : (0 : Int32) = v32) (k : Sat (EC l D aI aL ad) M_X4_startBasis P 33 [(0, .ref (ad 4)), (1, .int v32)] [] I J) : Sat (EC l D aI aL ad) M_X4_startBasis P 31 [(0, .ref (ad 4))] [] I J := by
  refine s_iconst (v := 0) dX4_startBasis_31 rfl ?_
  refine s_eqi f32 ?_
  refine s_istore_n [(1, .int v32), (0, .ref (ad 4))] dX4_startBasis_32 (Nat.lt_of_lt_of_le (Nat.lt_succ_self _) (Nat.le_of_ble_eq_true rfl)) rfl ?_
  refine s_pick [1, 0] [(0, .ref (ad 4)), (1, .int v32)] rfl ?_; exact k
theorem bX4_startBasis_33 {l : Launch} {D : va_G} {aI aL : ClassId} {ad : Nat → Nat} {P : sa_P} {I : sa_I} {J : sa_J} {x1 : Int32}   (kt : (3 : Int32) ≤ x1 → Sat (EC l D aI aL ad) M_X4_startBasis P 51 [] [] I J) (kf : ¬ (3 : Int32) ≤ x1 → Sat (EC l D aI aL ad) M_X4_startBasis P 38 [(0, .ref (ad 4)), (1, .int x1)] [] I J) : Sat (EC l D aI aL ad) M_X4_startBasis P 33 [(0, .ref (ad 4)), (1, .int x1)] [] I J := by
  refine s_iload_n 1 dX4_startBasis_33 rfl ?_
  refine s_iconst (v := 3) dX4_startBasis_34 rfl ?_
  refine s_icmp_ge (tgt := 51) dX4_startBasis_35 (by decide) (fun c => ?_) (fun c => ?_)
  · refine s_pick [] [] rfl ?_; exact kt c
  · exact kf c
theorem bX4_startBasis_38 {l : Launch} {D : va_G} {aI aL : ClassId} {ad : Nat → Nat} {P : sa_P} {I : sa_I} {J : sa_J} {x1 : Int32} {j42 : Nat} {v44 : Int64} {v45 : Int32} (e42 : x1 = nI j42) (h44 : j42 < 3) (f44 : (1 : Int64) = v44) (f45 : x1 + 1 = v45) (k : Sat (EC l D aI aL ad) M_X4_startBasis P 33 [(0, .ref (ad 4)), (1, .int v45)] [] I (sa_uJ J 7 j42 v44)) : Sat (EC l D aI aL ad) M_X4_startBasis P 38 [(0, .ref (ad 4)), (1, .int x1)] [] I J := by
  refine s_aload_n 0 dX4_startBasis_38 rfl ?_
  refine g_X4_18 dX4_startBasis_39 rfl ?_
  refine s_iload_n 1 dX4_startBasis_42 rfl ?_
  refine s_eqi e42 ?_
  refine s_lconst (v := 1) dX4_startBasis_43 rfl ?_
  refine s_eql f44 ?_
  refine s_lastoreN aJ_C7 h44 (by decide) dX4_startBasis_44 ?_
  refine s_iinc 1 v45 [(1, .int v45), (0, .ref (ad 4))] dX4_startBasis_45 rfl f45 (Nat.lt_of_lt_of_le (Nat.lt_succ_self _) (Nat.le_of_ble_eq_true rfl)) rfl ?_
  refine s_goto (tgt := 33) dX4_startBasis_48 (by decide) ?_
  refine s_pick [1, 0] [(0, .ref (ad 4)), (1, .int v45)] rfl ?_; exact k
theorem bX4_startBasis_51 {l : Launch} {D : va_G} {aI aL : ClassId} {ad : Nat → Nat} {P : sa_P} {I : sa_I} {J : sa_J}    (k : P (none) I J) : Sat (EC l D aI aL ad) M_X4_startBasis P 51 [] [] I J := by
  exact s_vret rfl dX4_startBasis_51 k
/-! X4_findSecond -/
theorem dX4_findSecond_0 : decode cX4_findSecond 0 = .ok (.ldc2_w 62, 3) := by decide +kernel
theorem dX4_findSecond_3 : decode cX4_findSecond 3 = .ok (.lstore_n 1, 1) := by decide +kernel
theorem dX4_findSecond_4 : decode cX4_findSecond 4 = .ok (.lload_n 1, 1) := by decide +kernel
theorem dX4_findSecond_5 : decode cX4_findSecond 5 = .ok (.lconst 1, 1) := by decide +kernel
theorem dX4_findSecond_6 : decode cX4_findSecond 6 = .ok (.lcmp, 1) := by decide +kernel
theorem dX4_findSecond_7 : decode cX4_findSecond 7 = .ok (.ifCond .lt 64, 3) := by decide +kernel
theorem dX4_findSecond_10 : decode cX4_findSecond 10 = .ok (.aload_n 0, 1) := by decide +kernel
theorem dX4_findSecond_11 : decode cX4_findSecond 11 = .ok (.getfield 42, 3) := by decide +kernel
theorem dX4_findSecond_14 : decode cX4_findSecond 14 = .ok (.lload_n 1, 1) := by decide +kernel
theorem dX4_findSecond_15 : decode cX4_findSecond 15 = .ok (.lload_n 1, 1) := by decide +kernel
theorem dX4_findSecond_16 : decode cX4_findSecond 16 = .ok (.lmul, 1) := by decide +kernel
theorem dX4_findSecond_17 : decode cX4_findSecond 17 = .ok (.lrem, 1) := by decide +kernel
theorem dX4_findSecond_18 : decode cX4_findSecond 18 = .ok (.lconst 0, 1) := by decide +kernel
theorem dX4_findSecond_19 : decode cX4_findSecond 19 = .ok (.lcmp, 1) := by decide +kernel
theorem dX4_findSecond_20 : decode cX4_findSecond 20 = .ok (.ifCond .ne 44, 3) := by decide +kernel
theorem dX4_findSecond_23 : decode cX4_findSecond 23 = .ok (.lconst 0, 1) := by decide +kernel
theorem dX4_findSecond_24 : decode cX4_findSecond 24 = .ok (.lstore_n 3, 1) := by decide +kernel
theorem dX4_findSecond_25 : decode cX4_findSecond 25 = .ok (.lload_n 3, 1) := by decide +kernel
theorem dX4_findSecond_26 : decode cX4_findSecond 26 = .ok (.lload_n 1, 1) := by decide +kernel
theorem dX4_findSecond_27 : decode cX4_findSecond 27 = .ok (.lcmp, 1) := by decide +kernel
theorem dX4_findSecond_28 : decode cX4_findSecond 28 = .ok (.ifCond .ge 36, 3) := by decide +kernel
theorem dX4_findSecond_31 : decode cX4_findSecond 31 = .ok (.aload_n 0, 1) := by decide +kernel
theorem dX4_findSecond_32 : decode cX4_findSecond 32 = .ok (.lload_n 3, 1) := by decide +kernel
theorem dX4_findSecond_33 : decode cX4_findSecond 33 = .ok (.lconst 1, 1) := by decide +kernel
theorem dX4_findSecond_34 : decode cX4_findSecond 34 = .ok (.lconst 0, 1) := by decide +kernel
theorem dX4_findSecond_35 : decode cX4_findSecond 35 = .ok (.lload_n 1, 1) := by decide +kernel
theorem dX4_findSecond_36 : decode cX4_findSecond 36 = .ok (.invokevirtual 64, 3) := by decide +kernel
theorem dX4_findSecond_39 : decode cX4_findSecond 39 = .ok (.ifCond .eq 18, 3) := by decide +kernel
theorem dX4_findSecond_42 : decode cX4_findSecond 42 = .ok (.aload_n 0, 1) := by decide +kernel
theorem dX4_findSecond_43 : decode cX4_findSecond 43 = .ok (.getfield 15, 3) := by decide +kernel
theorem dX4_findSecond_46 : decode cX4_findSecond 46 = .ok (.iconst 3, 1) := by decide +kernel
theorem dX4_findSecond_47 : decode cX4_findSecond 47 = .ok (.lload_n 3, 1) := by decide +kernel
theorem dX4_findSecond_48 : decode cX4_findSecond 48 = .ok (.lastore, 1) := by decide +kernel
theorem dX4_findSecond_49 : decode cX4_findSecond 49 = .ok (.aload_n 0, 1) := by decide +kernel
theorem dX4_findSecond_50 : decode cX4_findSecond 50 = .ok (.getfield 18, 3) := by decide +kernel
theorem dX4_findSecond_53 : decode cX4_findSecond 53 = .ok (.iconst 1, 1) := by decide +kernel
theorem dX4_findSecond_54 : decode cX4_findSecond 54 = .ok (.lload_n 1, 1) := by decide +kernel
theorem dX4_findSecond_55 : decode cX4_findSecond 55 = .ok (.lastore, 1) := by decide +kernel
theorem dX4_findSecond_56 : decode cX4_findSecond 56 = .ok (.return_, 1) := by decide +kernel
theorem dX4_findSecond_57 : decode cX4_findSecond 57 = .ok (.lload_n 3, 1) := by decide +kernel
theorem dX4_findSecond_58 : decode cX4_findSecond 58 = .ok (.lconst 1, 1) := by decide +kernel
theorem dX4_findSecond_59 : decode cX4_findSecond 59 = .ok (.ladd, 1) := by decide +kernel
theorem dX4_findSecond_60 : decode cX4_findSecond 60 = .ok (.lstore_n 3, 1) := by decide +kernel
theorem dX4_findSecond_61 : decode cX4_findSecond 61 = .ok (.goto (-36), 3) := by decide +kernel
theorem dX4_findSecond_64 : decode cX4_findSecond 64 = .ok (.lload_n 1, 1) := by decide +kernel
theorem dX4_findSecond_65 : decode cX4_findSecond 65 = .ok (.lconst 1, 1) := by decide +kernel
theorem dX4_findSecond_66 : decode cX4_findSecond 66 = .ok (.lsub, 1) := by decide +kernel
theorem dX4_findSecond_67 : decode cX4_findSecond 67 = .ok (.lstore_n 1, 1) := by decide +kernel
theorem dX4_findSecond_68 : decode cX4_findSecond 68 = .ok (.goto (-64), 3) := by decide +kernel
theorem dX4_findSecond_71 : decode cX4_findSecond 71 = .ok (.return_, 1) := by decide +kernel
theorem bX4_findSecond_0 {l : Launch} {D : va_G} {aI aL : ClassId} {ad : Nat → Nat} {P : sa_P} {I : sa_I} {J : sa_J} {v3 : Int64}  (f3 : (90 : Int64) = v3) (k : Sat (EC l D aI aL ad) M_X4_findSecond P 4 [(0, .ref (ad 4)), (1, .long v3)] [] I J) : Sat (EC l D aI aL ad) M_X4_findSecond P 0 [(0, .ref (ad 4))] [] I J := by
  refine s_ldc2 wk_X4_62 dX4_findSecond_0 ?_
  refine s_eql f3 ?_
  refine s_lstore_n [(1, .long v3), (0, .ref (ad 4))] dX4_findSecond_3 (Nat.lt_of_lt_of_le (Nat.lt_succ_self _) (Nat.le_of_ble_eq_true rfl)) rfl ?_
  refine s_pick [1, 0] [(0, .ref (ad 4)), (1, .long v3)] rfl ?_; exact k
theorem bX4_findSecond_4 {l : Launch} {D : va_G} {aI aL : ClassId} {ad : Nat → Nat} {P : sa_P} {I : sa_I} {J : sa_J} {x1 : Int64}   (kt : x1 < (1 : Int64) → Sat (EC l D aI aL ad) M_X4_findSecond P 71 [] [] I J) (kf : ¬ x1 < (1 : Int64) → Sat (EC l D aI aL ad) M_X4_findSecond P 10 [(0, .ref (ad 4)), (1, .long x1)] [] I J) : Sat (EC l D aI aL ad) M_X4_findSecond P 4 [(0, .ref (ad 4)), (1, .long x1)] [] I J := by
  refine s_lload_n 1 dX4_findSecond_4 rfl ?_
  refine s_lconst (v := 1) dX4_findSecond_5 rfl ?_
  refine s_lif_lt (tgt := 71) dX4_findSecond_6 dX4_findSecond_7 (by decide) (fun c => ?_) (fun c => ?_)
  · refine s_pick [] [] rfl ?_; exact kt c
  · exact kf c
theorem bX4_findSecond_10 {l : Launch} {D : va_G} {aI aL : ClassId} {ad : Nat → Nat} {P : sa_P} {I : sa_I} {J : sa_J} {x1 : Int64} (z17 : ¬ x1 * x1 = 0)  (kt : ¬ (J 4 1) - (J 4 1) / (x1 * x1) * (x1 * x1) = (0 : Int64) → Sat (EC l D aI aL ad) M_X4_findSecond P 64 [(0, .ref (ad 4)), (1, .long x1)] [] I J) (kf : (J 4 1) - (J 4 1) / (x1 * x1) * (x1 * x1) = (0 : Int64) → Sat (EC l D aI aL ad) M_X4_findSecond P 23 [(0, .ref (ad 4)), (1, .long x1)] [] I J) : Sat (EC l D aI aL ad) M_X4_findSecond P 10 [(0, .ref (ad 4)), (1, .long x1)] [] I J := by
  refine s_aload_n 0 dX4_findSecond_10 rfl ?_
  refine g_X4_42 dX4_findSecond_11 rfl ?_
  refine s_lload_n 1 dX4_findSecond_14 rfl ?_
  refine s_lload_n 1 dX4_findSecond_15 rfl ?_
  refine s_lmul dX4_findSecond_16 ?_
  refine s_lrem dX4_findSecond_17 z17 ?_
  refine s_lconst (v := 0) dX4_findSecond_18 rfl ?_
  refine s_lif_ne (tgt := 64) dX4_findSecond_19 dX4_findSecond_20 (by decide) (fun c => ?_) (fun c => ?_)
  · exact kt c
  · exact kf (by first | exact c | exact Classical.not_not.mp c)
theorem bX4_findSecond_23 {l : Launch} {D : va_G} {aI aL : ClassId} {ad : Nat → Nat} {P : sa_P} {I : sa_I} {J : sa_J} {x1 : Int64} {v24 : Int64}  (f24 : (0 : Int64) = v24) (k : Sat (EC l D aI aL ad) M_X4_findSecond P 25 [(0, .ref (ad 4)), (1, .long x1), (3, .long v24)] [] I J) : Sat (EC l D aI aL ad) M_X4_findSecond P 23 [(0, .ref (ad 4)), (1, .long x1)] [] I J := by
  refine s_lconst (v := 0) dX4_findSecond_23 rfl ?_
  refine s_eql f24 ?_
  refine s_lstore_n [(3, .long v24), (0, .ref (ad 4)), (1, .long x1)] dX4_findSecond_24 (Nat.lt_of_lt_of_le (Nat.lt_succ_self _) (Nat.le_of_ble_eq_true rfl)) rfl ?_
  refine s_pick [1, 2, 0] [(0, .ref (ad 4)), (1, .long x1), (3, .long v24)] rfl ?_; exact k
theorem bX4_findSecond_25 {l : Launch} {D : va_G} {aI aL : ClassId} {ad : Nat → Nat} {P : sa_P} {I : sa_I} {J : sa_J} {x1 : Int64} {x3 : Int64}   (kt : x1 ≤ x3 → Sat (EC l D aI aL ad) M_X4_findSecond P 64 [(0, .ref (ad 4)), (1, .long x1)] [] I J) (kf : ¬ x1 ≤ x3 → Sat (EC l D aI aL ad) M_X4_findSecond P 31 [(0, .ref (ad 4)), (1, .long x1), (3, .long x3)] [] I J) : Sat (EC l D aI aL ad) M_X4_findSecond P 25 [(0, .ref (ad 4)), (1, .long x1), (3, .long x3)] [] I J := by
  refine s_lload_n 2 dX4_findSecond_25 rfl ?_
  refine s_lload_n 1 dX4_findSecond_26 rfl ?_
  refine s_lif_ge (tgt := 64) dX4_findSecond_27 dX4_findSecond_28 (by decide) (fun c => ?_) (fun c => ?_)
  · refine s_pick [0, 1] [(0, .ref (ad 4)), (1, .long x1)] rfl ?_; exact kt c
  · exact kf c
theorem bX4_findSecond_31 {l : Launch} {D : va_G} {aI aL : ClassId} {ad : Nat → Nat} {P : sa_P} {I : sa_I} {J : sa_J} {x1 : Int64} {x3 : Int64}   (k : Sat (EC l D aI aL ad) M_X4_findSecond P 36 [(0, .ref (ad 4)), (1, .long x1), (3, .long x3)] [.long x1, .long (0 : Int64), .long (1 : Int64), .long x3, .ref (ad 4)] I J) : Sat (EC l D aI aL ad) M_X4_findSecond P 31 [(0, .ref (ad 4)), (1, .long x1), (3, .long x3)] [] I J := by
  refine s_aload_n 0 dX4_findSecond_31 rfl ?_
  refine s_lload_n 2 dX4_findSecond_32 rfl ?_
  refine s_lconst (v := 1) dX4_findSecond_33 rfl ?_
  refine s_lconst (v := 0) dX4_findSecond_34 rfl ?_
  refine s_lload_n 1 dX4_findSecond_35 rfl ?_
  exact k
theorem bX4_findSecond_39 {l : Launch} {D : va_G} {aI aL : ClassId} {ad : Nat → Nat} {P : sa_P} {I : sa_I} {J : sa_J} {x1 : Int64} {x3 : Int64} {s0 : Int32}   (kt : s0 = 0 → Sat (EC l D aI aL ad) M_X4_findSecond P 57 [(0, .ref (ad 4)), (1, .long x1), (3, .long x3)] [] I J) (kf : ¬ s0 = 0 → Sat (EC l D aI aL ad) M_X4_findSecond P 42 [(0, .ref (ad 4)), (1, .long x1), (3, .long x3)] [] I J) : Sat (EC l D aI aL ad) M_X4_findSecond P 39 [(0, .ref (ad 4)), (1, .long x1), (3, .long x3)] [.int s0] I J := by
  refine s_if_eq (tgt := 57) dX4_findSecond_39 (by decide) (fun c => ?_) (fun c => ?_)
  · exact kt c
  · exact kf c
theorem bX4_findSecond_42 {l : Launch} {D : va_G} {aI aL : ClassId} {ad : Nat → Nat} {P : sa_P} {I : sa_I} {J : sa_J} {x1 : Int64} {x3 : Int64}   (k : P (none) I (sa_uJ (sa_uJ J 6 3 x3) 7 1 x1)) : Sat (EC l D aI aL ad) M_X4_findSecond P 42 [(0, .ref (ad 4)), (1, .long x1), (3, .long x3)] [] I J := by
  refine s_aload_n 0 dX4_findSecond_42 rfl ?_
  refine g_X4_15 dX4_findSecond_43 rfl ?_
  refine s_iconst (v := 3) dX4_findSecond_46 rfl ?_
  refine s_eqi (y := nI 3) rfl ?_
  refine s_lload_n 2 dX4_findSecond_47 rfl ?_
  refine s_lastoreN aJ_C6 (by decide) (by decide) dX4_findSecond_48 ?_
  refine s_aload_n 0 dX4_findSecond_49 rfl ?_
  refine g_X4_18 dX4_findSecond_50 rfl ?_
  refine s_iconst (v := 1) dX4_findSecond_53 rfl ?_
  refine s_eqi (y := nI 1) rfl ?_
  refine s_lload_n 1 dX4_findSecond_54 rfl ?_
  refine s_lastoreN aJ_C7 (by decide) (by decide) dX4_findSecond_55 ?_
  exact s_vret rfl dX4_findSecond_56 k
theorem bX4_findSecond_57 {l : Launch} {D : va_G} {aI aL : ClassId} {ad : Nat → Nat} {P : sa_P} {I : sa_I} {J : sa_J} {x1 : Int64} {x3 : Int64} {v60 : Int64}  (f60 : x3 + (1 : Int64) = v60) (k : Sat (EC l D aI aL ad) M_X4_findSecond P 25 [(0, .ref (ad 4)), (1, .long x1), (3, .long v60)] [] I J) : Sat (EC l D aI aL ad) M_X4_findSecond P 57 [(0, .ref (ad 4)), (1, .long x1), (3, .long x3)] [] I J := by
  refine s_lload_n 2 dX4_findSecond_57 rfl ?_
  refine s_lconst (v := 1) dX4_findSecond_58 rfl ?_
  refine s_ladd dX4_findSecond_59 ?_
  refine s_eql f60 ?_
  refine s_lstore_n [(3, .long v60), (0, .ref (ad 4)), (1, .long x1)] dX4_findSecond_60 (Nat.lt_of_lt_of_le (Nat.lt_succ_self _) (Nat.le_of_ble_eq_true rfl)) rfl ?_
  refine s_goto (tgt := 25) dX4_findSecond_61 (by decide) ?_
  refine s_pick [1, 2, 0] [(0, .ref (ad 4)), (1, .long x1), (3, .long v60)] rfl ?_; exact k
theorem bX4_findSecond_64 {l : Launch} {D : va_G} {aI aL : ClassId} {ad : Nat → Nat} {P : sa_P} {I : sa_I} {J : sa_J} {x1 : Int64} {v67 : Int64}  (f67 : x1 - (1 : Int64) = v67) (k : Sat (EC l D aI aL ad) M_X4_findSecond P 4 [(0, .ref (ad 4)), (1, .long v67)] [] I J) : Sat (EC l D aI aL ad) M_X4_findSecond P 64 [(0, .ref (ad 4)), (1, .long x1)] [] I J := by
  refine s_lload_n 1 dX4_findSecond_64 rfl ?_
  refine s_lconst (v := 1) dX4_findSecond_65 rfl ?_
  refine s_lsub dX4_findSecond_66 ?_
  refine s_eql f67 ?_
  refine s_lstore_n [(1, .long v67), (0, .ref (ad 4))] dX4_findSecond_67 (Nat.lt_of_lt_of_le (Nat.lt_succ_self _) (Nat.le_of_ble_eq_true rfl)) rfl ?_
  refine s_goto (tgt := 4) dX4_findSecond_68 (by decide) ?_
  refine s_pick [1, 0] [(0, .ref (ad 4)), (1, .long v67)] rfl ?_; exact k
theorem bX4_findSecond_71 {l : Launch} {D : va_G} {aI aL : ClassId} {ad : Nat → Nat} {P : sa_P} {I : sa_I} {J : sa_J}    (k : P (none) I J) : Sat (EC l D aI aL ad) M_X4_findSecond P 71 [] [] I J := by
  exact s_vret rfl dX4_findSecond_71 k
/-! X4_findThird -/
theorem dX4_findThird_0 : decode cX4_findThird 0 = .ok (.aload_n 0, 1) := by decide +kernel
theorem dX4_findThird_1 : decode cX4_findThird 1 = .ok (.getfield 18, 3) := by decide +kernel
theorem dX4_findThird_4 : decode cX4_findThird 4 = .ok (.iconst 1, 1) := by decide +kernel
theorem dX4_findThird_5 : decode cX4_findThird 5 = .ok (.laload, 1) := by decide +kernel
theorem dX4_findThird_6 : decode cX4_findThird 6 = .ok (.lstore_n 1, 1) := by decide +kernel
theorem dX4_findThird_7 : decode cX4_findThird 7 = .ok (.ldc2_w 62, 3) := by decide +kernel
theorem dX4_findThird_10 : decode cX4_findThird 10 = .ok (.lstore_n 3, 1) := by decide +kernel
theorem dX4_findThird_11 : decode cX4_findThird 11 = .ok (.lload_n 3, 1) := by decide +kernel
theorem dX4_findThird_12 : decode cX4_findThird 12 = .ok (.lconst 1, 1) := by decide +kernel
theorem dX4_findThird_13 : decode cX4_findThird 13 = .ok (.lcmp, 1) := by decide +kernel
theorem dX4_findThird_14 : decode cX4_findThird 14 = .ok (.ifCond .lt 53, 3) := by decide +kernel
theorem dX4_findThird_17 : decode cX4_findThird 17 = .ok (.lload_n 1, 1) := by decide +kernel
theorem dX4_findThird_18 : decode cX4_findThird 18 = .ok (.lconst 1, 1) := by decide +kernel
theorem dX4_findThird_19 : decode cX4_findThird 19 = .ok (.lcmp, 1) := by decide +kernel
theorem dX4_findThird_20 : decode cX4_findThird 20 = .ok (.ifCond .lt 40, 3) := by decide +kernel
theorem dX4_findThird_23 : decode cX4_findThird 23 = .ok (.lload_n 3, 1) := by decide +kernel
theorem dX4_findThird_24 : decode cX4_findThird 24 = .ok (.lload_n 1, 1) := by decide +kernel
theorem dX4_findThird_25 : decode cX4_findThird 25 = .ok (.lload_n 1, 1) := by decide +kernel
theorem dX4_findThird_26 : decode cX4_findThird 26 = .ok (.lmul, 1) := by decide +kernel
theorem dX4_findThird_27 : decode cX4_findThird 27 = .ok (.lrem, 1) := by decide +kernel
theorem dX4_findThird_28 : decode cX4_findThird 28 = .ok (.lconst 0, 1) := by decide +kernel
theorem dX4_findThird_29 : decode cX4_findThird 29 = .ok (.lcmp, 1) := by decide +kernel
theorem dX4_findThird_30 : decode cX4_findThird 30 = .ok (.ifCond .ne 30, 3) := by decide +kernel
theorem dX4_findThird_33 : decode cX4_findThird 33 = .ok (.aload_n 0, 1) := by decide +kernel
theorem dX4_findThird_34 : decode cX4_findThird 34 = .ok (.getfield 42, 3) := by decide +kernel
theorem dX4_findThird_37 : decode cX4_findThird 37 = .ok (.lload_n 1, 1) := by decide +kernel
theorem dX4_findThird_38 : decode cX4_findThird 38 = .ok (.lload_n 1, 1) := by decide +kernel
theorem dX4_findThird_39 : decode cX4_findThird 39 = .ok (.lmul, 1) := by decide +kernel
theorem dX4_findThird_40 : decode cX4_findThird 40 = .ok (.lload_n 3, 1) := by decide +kernel
theorem dX4_findThird_41 : decode cX4_findThird 41 = .ok (.lmul, 1) := by decide +kernel
theorem dX4_findThird_42 : decode cX4_findThird 42 = .ok (.lload_n 3, 1) := by decide +kernel
theorem dX4_findThird_43 : decode cX4_findThird 43 = .ok (.lmul, 1) := by decide +kernel
theorem dX4_findThird_44 : decode cX4_findThird 44 = .ok (.lrem, 1) := by decide +kernel
theorem dX4_findThird_45 : decode cX4_findThird 45 = .ok (.lconst 0, 1) := by decide +kernel
theorem dX4_findThird_46 : decode cX4_findThird 46 = .ok (.lcmp, 1) := by decide +kernel
theorem dX4_findThird_47 : decode cX4_findThird 47 = .ok (.ifCond .ne 13, 3) := by decide +kernel
theorem dX4_findThird_50 : decode cX4_findThird 50 = .ok (.aload_n 0, 1) := by decide +kernel
theorem dX4_findThird_51 : decode cX4_findThird 51 = .ok (.lload_n 1, 1) := by decide +kernel
theorem dX4_findThird_52 : decode cX4_findThird 52 = .ok (.lload_n 3, 1) := by decide +kernel
theorem dX4_findThird_53 : decode cX4_findThird 53 = .ok (.invokevirtual 68, 3) := by decide +kernel
theorem dX4_findThird_56 : decode cX4_findThird 56 = .ok (.ifCond .eq 4, 3) := by decide +kernel
theorem dX4_findThird_59 : decode cX4_findThird 59 = .ok (.return_, 1) := by decide +kernel
theorem dX4_findThird_60 : decode cX4_findThird 60 = .ok (.lload_n 3, 1) := by decide +kernel
theorem dX4_findThird_61 : decode cX4_findThird 61 = .ok (.lconst 1, 1) := by decide +kernel
theorem dX4_findThird_62 : decode cX4_findThird 62 = .ok (.lsub, 1) := by decide +kernel
theorem dX4_findThird_63 : decode cX4_findThird 63 = .ok (.lstore_n 3, 1) := by decide +kernel
theorem dX4_findThird_64 : decode cX4_findThird 64 = .ok (.goto (-53), 3) := by decide +kernel
theorem dX4_findThird_67 : decode cX4_findThird 67 = .ok (.return_, 1) := by decide +kernel
theorem bX4_findThird_0 {l : Launch} {D : va_G} {aI aL : ClassId} {ad : Nat → Nat} {P : sa_P} {I : sa_I} {J : sa_J} {v6 : Int64} {v10 : Int64}  (f6 : J 7 1 = v6) (f10 : (90 : Int64) = v10) (k : Sat (EC l D aI aL ad) M_X4_findThird P 11 [(0, .ref (ad 4)), (1, .long v6), (3, .long v10)] [] I J) : Sat (EC l D aI aL ad) M_X4_findThird P 0 [(0, .ref (ad 4))] [] I J := by
  refine s_aload_n 0 dX4_findThird_0 rfl ?_
  refine g_X4_18 dX4_findThird_1 rfl ?_
  refine s_iconst (v := 1) dX4_findThird_4 rfl ?_
  refine s_eqi (y := nI 1) rfl ?_
  refine s_laloadN aJ_C7 (by decide) (by decide) dX4_findThird_5 ?_
  refine s_eql f6 ?_
  refine s_lstore_n [(1, .long v6), (0, .ref (ad 4))] dX4_findThird_6 (Nat.lt_of_lt_of_le (Nat.lt_succ_self _) (Nat.le_of_ble_eq_true rfl)) rfl ?_
  refine s_ldc2 wk_X4_62 dX4_findThird_7 ?_
  refine s_eql f10 ?_
  refine s_lstore_n [(3, .long v10), (1, .long v6), (0, .ref (ad 4))] dX4_findThird_10 (Nat.lt_of_lt_of_le (Nat.lt_succ_self _) (Nat.le_of_ble_eq_true rfl)) rfl ?_
  refine s_pick [2, 1, 0] [(0, .ref (ad 4)), (1, .long v6), (3, .long v10)] rfl ?_; exact k
theorem bX4_findThird_11 {l : Launch} {D : va_G} {aI aL : ClassId} {ad : Nat → Nat} {P : sa_P} {I : sa_I} {J : sa_J} {x1 : Int64} {x3 : Int64}   (kt : x3 < (1 : Int64) → Sat (EC l D aI aL ad) M_X4_findThird P 67 [] [] I J) (kf : ¬ x3 < (1 : Int64) → Sat (EC l D aI aL ad) M_X4_findThird P 17 [(0, .ref (ad 4)), (1, .long x1), (3, .long x3)] [] I J) : Sat (EC l D aI aL ad) M_X4_findThird P 11 [(0, .ref (ad 4)), (1, .long x1), (3, .long x3)] [] I J := by
  refine s_lload_n 2 dX4_findThird_11 rfl ?_
  refine s_lconst (v := 1) dX4_findThird_12 rfl ?_
  refine s_lif_lt (tgt := 67) dX4_findThird_13 dX4_findThird_14 (by decide) (fun c => ?_) (fun c => ?_)
  · refine s_pick [] [] rfl ?_; exact kt c
  · exact kf c
theorem bX4_findThird_17 {l : Launch} {D : va_G} {aI aL : ClassId} {ad : Nat → Nat} {P : sa_P} {I : sa_I} {J : sa_J} {x1 : Int64} {x3 : Int64}   (kt : x1 < (1 : Int64) → Sat (EC l D aI aL ad) M_X4_findThird P 60 [(0, .ref (ad 4)), (1, .long x1), (3, .long x3)] [] I J) (kf : ¬ x1 < (1 : Int64) → Sat (EC l D aI aL ad) M_X4_findThird P 23 [(0, .ref (ad 4)), (1, .long x1), (3, .long x3)] [] I J) : Sat (EC l D aI aL ad) M_X4_findThird P 17 [(0, .ref (ad 4)), (1, .long x1), (3, .long x3)] [] I J := by
  refine s_lload_n 1 dX4_findThird_17 rfl ?_
  refine s_lconst (v := 1) dX4_findThird_18 rfl ?_
  refine s_lif_lt (tgt := 60) dX4_findThird_19 dX4_findThird_20 (by decide) (fun c => ?_) (fun c => ?_)
  · exact kt c
  · exact kf c
theorem bX4_findThird_23 {l : Launch} {D : va_G} {aI aL : ClassId} {ad : Nat → Nat} {P : sa_P} {I : sa_I} {J : sa_J} {x1 : Int64} {x3 : Int64} (z27 : ¬ x1 * x1 = 0)  (kt : ¬ x3 - x3 / (x1 * x1) * (x1 * x1) = (0 : Int64) → Sat (EC l D aI aL ad) M_X4_findThird P 60 [(0, .ref (ad 4)), (1, .long x1), (3, .long x3)] [] I J) (kf : x3 - x3 / (x1 * x1) * (x1 * x1) = (0 : Int64) → Sat (EC l D aI aL ad) M_X4_findThird P 33 [(0, .ref (ad 4)), (1, .long x1), (3, .long x3)] [] I J) : Sat (EC l D aI aL ad) M_X4_findThird P 23 [(0, .ref (ad 4)), (1, .long x1), (3, .long x3)] [] I J := by
  refine s_lload_n 2 dX4_findThird_23 rfl ?_
  refine s_lload_n 1 dX4_findThird_24 rfl ?_
  refine s_lload_n 1 dX4_findThird_25 rfl ?_
  refine s_lmul dX4_findThird_26 ?_
  refine s_lrem dX4_findThird_27 z27 ?_
  refine s_lconst (v := 0) dX4_findThird_28 rfl ?_
  refine s_lif_ne (tgt := 60) dX4_findThird_29 dX4_findThird_30 (by decide) (fun c => ?_) (fun c => ?_)
  · exact kt c
  · exact kf (by first | exact c | exact Classical.not_not.mp c)
theorem bX4_findThird_33 {l : Launch} {D : va_G} {aI aL : ClassId} {ad : Nat → Nat} {P : sa_P} {I : sa_I} {J : sa_J} {x1 : Int64} {x3 : Int64} (z44 : ¬ ((x1 * x1) * x3) * x3 = 0)  (kt : ¬ (J 4 1) - (J 4 1) / (((x1 * x1) * x3) * x3) * (((x1 * x1) * x3) * x3) = (0 : Int64) → Sat (EC l D aI aL ad) M_X4_findThird P 60 [(0, .ref (ad 4)), (1, .long x1), (3, .long x3)] [] I J) (kf : (J 4 1) - (J 4 1) / (((x1 * x1) * x3) * x3) * (((x1 * x1) * x3) * x3) = (0 : Int64) → Sat (EC l D aI aL ad) M_X4_findThird P 50 [(0, .ref (ad 4)), (1, .long x1), (3, .long x3)] [] I J) : Sat (EC l D aI aL ad) M_X4_findThird P 33 [(0, .ref (ad 4)), (1, .long x1), (3, .long x3)] [] I J := by
  refine s_aload_n 0 dX4_findThird_33 rfl ?_
  refine g_X4_42 dX4_findThird_34 rfl ?_
  refine s_lload_n 1 dX4_findThird_37 rfl ?_
  refine s_lload_n 1 dX4_findThird_38 rfl ?_
  refine s_lmul dX4_findThird_39 ?_
  refine s_lload_n 2 dX4_findThird_40 rfl ?_
  refine s_lmul dX4_findThird_41 ?_
  refine s_lload_n 2 dX4_findThird_42 rfl ?_
  refine s_lmul dX4_findThird_43 ?_
  refine s_lrem dX4_findThird_44 z44 ?_
  refine s_lconst (v := 0) dX4_findThird_45 rfl ?_
  refine s_lif_ne (tgt := 60) dX4_findThird_46 dX4_findThird_47 (by decide) (fun c => ?_) (fun c => ?_)
  · exact kt c
  · exact kf (by first | exact c | exact Classical.not_not.mp c)
theorem bX4_findThird_50 {l : Launch} {D : va_G} {aI aL : ClassId} {ad : Nat → Nat} {P : sa_P} {I : sa_I} {J : sa_J} {x1 : Int64} {x3 : Int64}   (k : Sat (EC l D aI aL ad) M_X4_findThird P 53 [(0, .ref (ad 4)), (1, .long x1), (3, .long x3)] [.long x3, .long x1, .ref (ad 4)] I J) : Sat (EC l D aI aL ad) M_X4_findThird P 50 [(0, .ref (ad 4)), (1, .long x1), (3, .long x3)] [] I J := by
  refine s_aload_n 0 dX4_findThird_50 rfl ?_
  refine s_lload_n 1 dX4_findThird_51 rfl ?_
  refine s_lload_n 2 dX4_findThird_52 rfl ?_
  exact k
theorem bX4_findThird_56 {l : Launch} {D : va_G} {aI aL : ClassId} {ad : Nat → Nat} {P : sa_P} {I : sa_I} {J : sa_J} {x1 : Int64} {x3 : Int64} {s0 : Int32}   (kt : s0 = 0 → Sat (EC l D aI aL ad) M_X4_findThird P 60 [(0, .ref (ad 4)), (1, .long x1), (3, .long x3)] [] I J) (kf : ¬ s0 = 0 → Sat (EC l D aI aL ad) M_X4_findThird P 59 [] [] I J) : Sat (EC l D aI aL ad) M_X4_findThird P 56 [(0, .ref (ad 4)), (1, .long x1), (3, .long x3)] [.int s0] I J := by
  refine s_if_eq (tgt := 60) dX4_findThird_56 (by decide) (fun c => ?_) (fun c => ?_)
  · exact kt c
  · refine s_pick [] [] rfl ?_; exact kf c
theorem bX4_findThird_59 {l : Launch} {D : va_G} {aI aL : ClassId} {ad : Nat → Nat} {P : sa_P} {I : sa_I} {J : sa_J}    (k : P (none) I J) : Sat (EC l D aI aL ad) M_X4_findThird P 59 [] [] I J := by
  exact s_vret rfl dX4_findThird_59 k
theorem bX4_findThird_60 {l : Launch} {D : va_G} {aI aL : ClassId} {ad : Nat → Nat} {P : sa_P} {I : sa_I} {J : sa_J} {x1 : Int64} {x3 : Int64} {v63 : Int64}  (f63 : x3 - (1 : Int64) = v63) (k : Sat (EC l D aI aL ad) M_X4_findThird P 11 [(0, .ref (ad 4)), (1, .long x1), (3, .long v63)] [] I J) : Sat (EC l D aI aL ad) M_X4_findThird P 60 [(0, .ref (ad 4)), (1, .long x1), (3, .long x3)] [] I J := by
  refine s_lload_n 2 dX4_findThird_60 rfl ?_
  refine s_lconst (v := 1) dX4_findThird_61 rfl ?_
  refine s_lsub dX4_findThird_62 ?_
  refine s_eql f63 ?_
  refine s_lstore_n [(3, .long v63), (0, .ref (ad 4)), (1, .long x1)] dX4_findThird_63 (Nat.lt_of_lt_of_le (Nat.lt_succ_self _) (Nat.le_of_ble_eq_true rfl)) rfl ?_
  refine s_goto (tgt := 11) dX4_findThird_64 (by decide) ?_
  refine s_pick [1, 2, 0] [(0, .ref (ad 4)), (1, .long x1), (3, .long v63)] rfl ?_; exact k
theorem bX4_findThird_67 {l : Launch} {D : va_G} {aI aL : ClassId} {ad : Nat → Nat} {P : sa_P} {I : sa_I} {J : sa_J}    (k : P (none) I J) : Sat (EC l D aI aL ad) M_X4_findThird P 67 [] [] I J := by
  exact s_vret rfl dX4_findThird_67 k
/-! X4_findThirdBy -/
theorem dX4_findThirdBy_0 : decode cX4_findThirdBy 0 = .ok (.lconst 0, 1) := by decide +kernel
theorem dX4_findThirdBy_1 : decode cX4_findThirdBy 1 = .ok (.lstore 5, 2) := by decide +kernel
theorem dX4_findThirdBy_3 : decode cX4_findThirdBy 3 = .ok (.lload 5, 2) := by decide +kernel
theorem dX4_findThirdBy_5 : decode cX4_findThirdBy 5 = .ok (.lload_n 3, 1) := by decide +kernel
theorem dX4_findThirdBy_6 : decode cX4_findThirdBy 6 = .ok (.lcmp, 1) := by decide +kernel
theorem dX4_findThirdBy_7 : decode cX4_findThirdBy 7 = .ok (.ifCond .ge 80, 3) := by decide +kernel
theorem dX4_findThirdBy_10 : decode cX4_findThirdBy 10 = .ok (.lload 5, 2) := by decide +kernel
theorem dX4_findThirdBy_12 : decode cX4_findThirdBy 12 = .ok (.lload_n 1, 1) := by decide +kernel
theorem dX4_findThirdBy_13 : decode cX4_findThirdBy 13 = .ok (.lmul, 1) := by decide +kernel
theorem dX4_findThirdBy_14 : decode cX4_findThirdBy 14 = .ok (.lload_n 3, 1) := by decide +kernel
theorem dX4_findThirdBy_15 : decode cX4_findThirdBy 15 = .ok (.lcmp, 1) := by decide +kernel
theorem dX4_findThirdBy_16 : decode cX4_findThirdBy 16 = .ok (.ifCond .ge 71, 3) := by decide +kernel
theorem dX4_findThirdBy_19 : decode cX4_findThirdBy 19 = .ok (.lconst 0, 1) := by decide +kernel
theorem dX4_findThirdBy_20 : decode cX4_findThirdBy 20 = .ok (.lstore 7, 2) := by decide +kernel
theorem dX4_findThirdBy_22 : decode cX4_findThirdBy 22 = .ok (.lload 7, 2) := by decide +kernel
theorem dX4_findThirdBy_24 : decode cX4_findThirdBy 24 = .ok (.lload_n 3, 1) := by decide +kernel
theorem dX4_findThirdBy_25 : decode cX4_findThirdBy 25 = .ok (.lcmp, 1) := by decide +kernel
theorem dX4_findThirdBy_26 : decode cX4_findThirdBy 26 = .ok (.ifCond .ge 52, 3) := by decide +kernel
theorem dX4_findThirdBy_29 : decode cX4_findThirdBy 29 = .ok (.aload_n 0, 1) := by decide +kernel
theorem dX4_findThirdBy_30 : decode cX4_findThirdBy 30 = .ok (.lload 7, 2) := by decide +kernel
theorem dX4_findThirdBy_32 : decode cX4_findThirdBy 32 = .ok (.lload 5, 2) := by decide +kernel
theorem dX4_findThirdBy_34 : decode cX4_findThirdBy 34 = .ok (.lconst 1, 1) := by decide +kernel
theorem dX4_findThirdBy_35 : decode cX4_findThirdBy 35 = .ok (.lload_n 3, 1) := by decide +kernel
theorem dX4_findThirdBy_36 : decode cX4_findThirdBy 36 = .ok (.invokevirtual 64, 3) := by decide +kernel
theorem dX4_findThirdBy_39 : decode cX4_findThirdBy 39 = .ok (.ifCond .eq 30, 3) := by decide +kernel
theorem dX4_findThirdBy_42 : decode cX4_findThirdBy 42 = .ok (.aload_n 0, 1) := by decide +kernel
theorem dX4_findThirdBy_43 : decode cX4_findThirdBy 43 = .ok (.getfield 15, 3) := by decide +kernel
theorem dX4_findThirdBy_46 : decode cX4_findThirdBy 46 = .ok (.bipush 6, 2) := by decide +kernel
theorem dX4_findThirdBy_48 : decode cX4_findThirdBy 48 = .ok (.lload 7, 2) := by decide +kernel
theorem dX4_findThirdBy_50 : decode cX4_findThirdBy 50 = .ok (.lastore, 1) := by decide +kernel
theorem dX4_findThirdBy_51 : decode cX4_findThirdBy 51 = .ok (.aload_n 0, 1) := by decide +kernel
theorem dX4_findThirdBy_52 : decode cX4_findThirdBy 52 = .ok (.getfield 15, 3) := by decide +kernel
theorem dX4_findThirdBy_55 : decode cX4_findThirdBy 55 = .ok (.bipush 7, 2) := by decide +kernel
theorem dX4_findThirdBy_57 : decode cX4_findThirdBy 57 = .ok (.lload 5, 2) := by decide +kernel
theorem dX4_findThirdBy_59 : decode cX4_findThirdBy 59 = .ok (.lastore, 1) := by decide +kernel
theorem dX4_findThirdBy_60 : decode cX4_findThirdBy 60 = .ok (.aload_n 0, 1) := by decide +kernel
theorem dX4_findThirdBy_61 : decode cX4_findThirdBy 61 = .ok (.getfield 18, 3) := by decide +kernel
theorem dX4_findThirdBy_64 : decode cX4_findThirdBy 64 = .ok (.iconst 2, 1) := by decide +kernel
theorem dX4_findThirdBy_65 : decode cX4_findThirdBy 65 = .ok (.lload_n 3, 1) := by decide +kernel
theorem dX4_findThirdBy_66 : decode cX4_findThirdBy 66 = .ok (.lastore, 1) := by decide +kernel
theorem dX4_findThirdBy_67 : decode cX4_findThirdBy 67 = .ok (.iconst 1, 1) := by decide +kernel
theorem dX4_findThirdBy_68 : decode cX4_findThirdBy 68 = .ok (.ireturn, 1) := by decide +kernel
theorem dX4_findThirdBy_69 : decode cX4_findThirdBy 69 = .ok (.lload 7, 2) := by decide +kernel
theorem dX4_findThirdBy_71 : decode cX4_findThirdBy 71 = .ok (.lconst 1, 1) := by decide +kernel
theorem dX4_findThirdBy_72 : decode cX4_findThirdBy 72 = .ok (.ladd, 1) := by decide +kernel
theorem dX4_findThirdBy_73 : decode cX4_findThirdBy 73 = .ok (.lstore 7, 2) := by decide +kernel
theorem dX4_findThirdBy_75 : decode cX4_findThirdBy 75 = .ok (.goto (-53), 3) := by decide +kernel
theorem dX4_findThirdBy_78 : decode cX4_findThirdBy 78 = .ok (.lload 5, 2) := by decide +kernel
theorem dX4_findThirdBy_80 : decode cX4_findThirdBy 80 = .ok (.lconst 1, 1) := by decide +kernel
theorem dX4_findThirdBy_81 : decode cX4_findThirdBy 81 = .ok (.ladd, 1) := by decide +kernel
theorem dX4_findThirdBy_82 : decode cX4_findThirdBy 82 = .ok (.lstore 5, 2) := by decide +kernel
theorem dX4_findThirdBy_84 : decode cX4_findThirdBy 84 = .ok (.goto (-81), 3) := by decide +kernel
theorem dX4_findThirdBy_87 : decode cX4_findThirdBy 87 = .ok (.iconst 0, 1) := by decide +kernel
theorem dX4_findThirdBy_88 : decode cX4_findThirdBy 88 = .ok (.ireturn, 1) := by decide +kernel
theorem bX4_findThirdBy_0 {l : Launch} {D : va_G} {aI aL : ClassId} {ad : Nat → Nat} {P : sa_P} {I : sa_I} {J : sa_J} {x1 : Int64} {x3 : Int64} {v1 : Int64}  (f1 : (0 : Int64) = v1) (k : Sat (EC l D aI aL ad) M_X4_findThirdBy P 3 [(0, .ref (ad 4)), (1, .long x1), (3, .long x3), (5, .long v1)] [] I J) : Sat (EC l D aI aL ad) M_X4_findThirdBy P 0 [(0, .ref (ad 4)), (1, .long x1), (3, .long x3)] [] I J := by
  refine s_lconst (v := 0) dX4_findThirdBy_0 rfl ?_
  refine s_eql f1 ?_
  refine s_lstore [(5, .long v1), (0, .ref (ad 4)), (1, .long x1), (3, .long x3)] dX4_findThirdBy_1 (Nat.lt_of_lt_of_le (Nat.lt_succ_self _) (Nat.le_of_ble_eq_true rfl)) rfl ?_
  refine s_pick [1, 2, 3, 0] [(0, .ref (ad 4)), (1, .long x1), (3, .long x3), (5, .long v1)] rfl ?_; exact k
theorem bX4_findThirdBy_3 {l : Launch} {D : va_G} {aI aL : ClassId} {ad : Nat → Nat} {P : sa_P} {I : sa_I} {J : sa_J} {x1 : Int64} {x3 : Int64} {x5 : Int64}   (kt : x3 ≤ x5 → Sat (EC l D aI aL ad) M_X4_findThirdBy P 87 [] [] I J) (kf : ¬ x3 ≤ x5 → Sat (EC l D aI aL ad) M_X4_findThirdBy P 10 [(0, .ref (ad 4)), (1, .long x1), (3, .long x3), (5, .long x5)] [] I J) : Sat (EC l D aI aL ad) M_X4_findThirdBy P 3 [(0, .ref (ad 4)), (1, .long x1), (3, .long x3), (5, .long x5)] [] I J := by
  refine s_lload 3 dX4_findThirdBy_3 rfl ?_
  refine s_lload_n 2 dX4_findThirdBy_5 rfl ?_
  refine s_lif_ge (tgt := 87) dX4_findThirdBy_6 dX4_findThirdBy_7 (by decide) (fun c => ?_) (fun c => ?_)
  · refine s_pick [] [] rfl ?_; exact kt c
  · exact kf c
theorem bX4_findThirdBy_10 {l : Launch} {D : va_G} {aI aL : ClassId} {ad : Nat → Nat} {P : sa_P} {I : sa_I} {J : sa_J} {x1 : Int64} {x3 : Int64} {x5 : Int64}   (kt : x3 ≤ x5 * x1 → Sat (EC l D aI aL ad) M_X4_findThirdBy P 87 [] [] I J) (kf : ¬ x3 ≤ x5 * x1 → Sat (EC l D aI aL ad) M_X4_findThirdBy P 19 [(0, .ref (ad 4)), (1, .long x1), (3, .long x3), (5, .long x5)] [] I J) : Sat (EC l D aI aL ad) M_X4_findThirdBy P 10 [(0, .ref (ad 4)), (1, .long x1), (3, .long x3), (5, .long x5)] [] I J := by
  refine s_lload 3 dX4_findThirdBy_10 rfl ?_
  refine s_lload_n 1 dX4_findThirdBy_12 rfl ?_
  refine s_lmul dX4_findThirdBy_13 ?_
  refine s_lload_n 2 dX4_findThirdBy_14 rfl ?_
  refine s_lif_ge (tgt := 87) dX4_findThirdBy_15 dX4_findThirdBy_16 (by decide) (fun c => ?_) (fun c => ?_)
  · refine s_pick [] [] rfl ?_; exact kt c
  · exact kf c
theorem bX4_findThirdBy_19 {l : Launch} {D : va_G} {aI aL : ClassId} {ad : Nat → Nat} {P : sa_P} {I : sa_I} {J : sa_J} {x1 : Int64} {x3 : Int64} {x5 : Int64} {v20 : Int64}  (f20 : (0 : Int64) = v20) (k : Sat (EC l D aI aL ad) M_X4_findThirdBy P 22 [(0, .ref (ad 4)), (1, .long x1), (3, .long x3), (5, .long x5), (7, .long v20)] [] I J) : Sat (EC l D aI aL ad) M_X4_findThirdBy P 19 [(0, .ref (ad 4)), (1, .long x1), (3, .long x3), (5, .long x5)] [] I J := by
  refine s_lconst (v := 0) dX4_findThirdBy_19 rfl ?_
  refine s_eql f20 ?_
  refine s_lstore [(7, .long v20), (0, .ref (ad 4)), (1, .long x1), (3, .long x3), (5, .long x5)] dX4_findThirdBy_20 (Nat.lt_of_lt_of_le (Nat.lt_succ_self _) (Nat.le_of_ble_eq_true rfl)) rfl ?_
  refine s_pick [1, 2, 3, 4, 0] [(0, .ref (ad 4)), (1, .long x1), (3, .long x3), (5, .long x5), (7, .long v20)] rfl ?_; exact k
theorem bX4_findThirdBy_22 {l : Launch} {D : va_G} {aI aL : ClassId} {ad : Nat → Nat} {P : sa_P} {I : sa_I} {J : sa_J} {x1 : Int64} {x3 : Int64} {x5 : Int64} {x7 : Int64}   (kt : x3 ≤ x7 → Sat (EC l D aI aL ad) M_X4_findThirdBy P 78 [(0, .ref (ad 4)), (1, .long x1), (3, .long x3), (5, .long x5)] [] I J) (kf : ¬ x3 ≤ x7 → Sat (EC l D aI aL ad) M_X4_findThirdBy P 29 [(0, .ref (ad 4)), (1, .long x1), (3, .long x3), (5, .long x5), (7, .long x7)] [] I J) : Sat (EC l D aI aL ad) M_X4_findThirdBy P 22 [(0, .ref (ad 4)), (1, .long x1), (3, .long x3), (5, .long x5), (7, .long x7)] [] I J := by
  refine s_lload 4 dX4_findThirdBy_22 rfl ?_
  refine s_lload_n 2 dX4_findThirdBy_24 rfl ?_
  refine s_lif_ge (tgt := 78) dX4_findThirdBy_25 dX4_findThirdBy_26 (by decide) (fun c => ?_) (fun c => ?_)
  · refine s_pick [0, 1, 2, 3] [(0, .ref (ad 4)), (1, .long x1), (3, .long x3), (5, .long x5)] rfl ?_; exact kt c
  · exact kf c
theorem bX4_findThirdBy_29 {l : Launch} {D : va_G} {aI aL : ClassId} {ad : Nat → Nat} {P : sa_P} {I : sa_I} {J : sa_J} {x1 : Int64} {x3 : Int64} {x5 : Int64} {x7 : Int64}   (k : Sat (EC l D aI aL ad) M_X4_findThirdBy P 36 [(0, .ref (ad 4)), (1, .long x1), (3, .long x3), (5, .long x5), (7, .long x7)] [.long x3, .long (1 : Int64), .long x5, .long x7, .ref (ad 4)] I J) : Sat (EC l D aI aL ad) M_X4_findThirdBy P 29 [(0, .ref (ad 4)), (1, .long x1), (3, .long x3), (5, .long x5), (7, .long x7)] [] I J := by
  refine s_aload_n 0 dX4_findThirdBy_29 rfl ?_
  refine s_lload 4 dX4_findThirdBy_30 rfl ?_
  refine s_lload 3 dX4_findThirdBy_32 rfl ?_
  refine s_lconst (v := 1) dX4_findThirdBy_34 rfl ?_
  refine s_lload_n 2 dX4_findThirdBy_35 rfl ?_
  exact k
theorem bX4_findThirdBy_39 {l : Launch} {D : va_G} {aI aL : ClassId} {ad : Nat → Nat} {P : sa_P} {I : sa_I} {J : sa_J} {x1 : Int64} {x3 : Int64} {x5 : Int64} {x7 : Int64} {s0 : Int32}   (kt : s0 = 0 → Sat (EC l D aI aL ad) M_X4_findThirdBy P 69 [(0, .ref (ad 4)), (1, .long x1), (3, .long x3), (5, .long x5), (7, .long x7)] [] I J) (kf : ¬ s0 = 0 → Sat (EC l D aI aL ad) M_X4_findThirdBy P 42 [(0, .ref (ad 4)), (3, .long x3), (5, .long x5), (7, .long x7)] [] I J) : Sat (EC l D aI aL ad) M_X4_findThirdBy P 39 [(0, .ref (ad 4)), (1, .long x1), (3, .long x3), (5, .long x5), (7, .long x7)] [.int s0] I J := by
  refine s_if_eq (tgt := 69) dX4_findThirdBy_39 (by decide) (fun c => ?_) (fun c => ?_)
  · exact kt c
  · refine s_pick [0, 2, 3, 4] [(0, .ref (ad 4)), (3, .long x3), (5, .long x5), (7, .long x7)] rfl ?_; exact kf c
theorem bX4_findThirdBy_42 {l : Launch} {D : va_G} {aI aL : ClassId} {ad : Nat → Nat} {P : sa_P} {I : sa_I} {J : sa_J} {x3 : Int64} {x5 : Int64} {x7 : Int64}   (k : P (some (.int (1 : Int32))) I (sa_uJ (sa_uJ (sa_uJ J 6 6 x7) 6 7 x5) 7 2 x3)) : Sat (EC l D aI aL ad) M_X4_findThirdBy P 42 [(0, .ref (ad 4)), (3, .long x3), (5, .long x5), (7, .long x7)] [] I J := by
  refine s_aload_n 0 dX4_findThirdBy_42 rfl ?_
  refine g_X4_15 dX4_findThirdBy_43 rfl ?_
  refine s_bipush (v := 6) dX4_findThirdBy_46 rfl ?_
  refine s_eqi (y := nI 6) rfl ?_
  refine s_lload 3 dX4_findThirdBy_48 rfl ?_
  refine s_lastoreN aJ_C6 (by decide) (by decide) dX4_findThirdBy_50 ?_
  refine s_aload_n 0 dX4_findThirdBy_51 rfl ?_
  refine g_X4_15 dX4_findThirdBy_52 rfl ?_
  refine s_bipush (v := 7) dX4_findThirdBy_55 rfl ?_
  refine s_eqi (y := nI 7) rfl ?_
  refine s_lload 2 dX4_findThirdBy_57 rfl ?_
  refine s_lastoreN aJ_C6 (by decide) (by decide) dX4_findThirdBy_59 ?_
  refine s_aload_n 0 dX4_findThirdBy_60 rfl ?_
  refine g_X4_18 dX4_findThirdBy_61 rfl ?_
  refine s_iconst (v := 2) dX4_findThirdBy_64 rfl ?_
  refine s_eqi (y := nI 2) rfl ?_
  refine s_lload_n 1 dX4_findThirdBy_65 rfl ?_
  refine s_lastoreN aJ_C7 (by decide) (by decide) dX4_findThirdBy_66 ?_
  refine s_iconst (v := 1) dX4_findThirdBy_67 rfl ?_
  exact s_zret rfl rfl dX4_findThirdBy_68 k
theorem bX4_findThirdBy_69 {l : Launch} {D : va_G} {aI aL : ClassId} {ad : Nat → Nat} {P : sa_P} {I : sa_I} {J : sa_J} {x1 : Int64} {x3 : Int64} {x5 : Int64} {x7 : Int64} {v73 : Int64}  (f73 : x7 + (1 : Int64) = v73) (k : Sat (EC l D aI aL ad) M_X4_findThirdBy P 22 [(0, .ref (ad 4)), (1, .long x1), (3, .long x3), (5, .long x5), (7, .long v73)] [] I J) : Sat (EC l D aI aL ad) M_X4_findThirdBy P 69 [(0, .ref (ad 4)), (1, .long x1), (3, .long x3), (5, .long x5), (7, .long x7)] [] I J := by
  refine s_lload 4 dX4_findThirdBy_69 rfl ?_
  refine s_lconst (v := 1) dX4_findThirdBy_71 rfl ?_
  refine s_ladd dX4_findThirdBy_72 ?_
  refine s_eql f73 ?_
  refine s_lstore [(7, .long v73), (0, .ref (ad 4)), (1, .long x1), (3, .long x3), (5, .long x5)] dX4_findThirdBy_73 (Nat.lt_of_lt_of_le (Nat.lt_succ_self _) (Nat.le_of_ble_eq_true rfl)) rfl ?_
  refine s_goto (tgt := 22) dX4_findThirdBy_75 (by decide) ?_
  refine s_pick [1, 2, 3, 4, 0] [(0, .ref (ad 4)), (1, .long x1), (3, .long x3), (5, .long x5), (7, .long v73)] rfl ?_; exact k
theorem bX4_findThirdBy_78 {l : Launch} {D : va_G} {aI aL : ClassId} {ad : Nat → Nat} {P : sa_P} {I : sa_I} {J : sa_J} {x1 : Int64} {x3 : Int64} {x5 : Int64} {v82 : Int64}  (f82 : x5 + (1 : Int64) = v82) (k : Sat (EC l D aI aL ad) M_X4_findThirdBy P 3 [(0, .ref (ad 4)), (1, .long x1), (3, .long x3), (5, .long v82)] [] I J) : Sat (EC l D aI aL ad) M_X4_findThirdBy P 78 [(0, .ref (ad 4)), (1, .long x1), (3, .long x3), (5, .long x5)] [] I J := by
  refine s_lload 3 dX4_findThirdBy_78 rfl ?_
  refine s_lconst (v := 1) dX4_findThirdBy_80 rfl ?_
  refine s_ladd dX4_findThirdBy_81 ?_
  refine s_eql f82 ?_
  refine s_lstore [(5, .long v82), (0, .ref (ad 4)), (1, .long x1), (3, .long x3)] dX4_findThirdBy_82 (Nat.lt_of_lt_of_le (Nat.lt_succ_self _) (Nat.le_of_ble_eq_true rfl)) rfl ?_
  refine s_goto (tgt := 3) dX4_findThirdBy_84 (by decide) ?_
  refine s_pick [1, 2, 3, 0] [(0, .ref (ad 4)), (1, .long x1), (3, .long x3), (5, .long v82)] rfl ?_; exact k
theorem bX4_findThirdBy_87 {l : Launch} {D : va_G} {aI aL : ClassId} {ad : Nat → Nat} {P : sa_P} {I : sa_I} {J : sa_J}    (k : P (some (.int (0 : Int32))) I J) : Sat (EC l D aI aL ad) M_X4_findThirdBy P 87 [] [] I J := by
  refine s_iconst (v := 0) dX4_findThirdBy_87 rfl ?_
  exact s_zret rfl rfl dX4_findThirdBy_88 k
/-! X4_isWhole -/
theorem dX4_isWhole_0 : decode cX4_isWhole 0 = .ok (.aload_n 0, 1) := by decide +kernel
theorem dX4_isWhole_1 : decode cX4_isWhole 1 = .ok (.getfield 9, 3) := by decide +kernel
theorem dX4_isWhole_4 : decode cX4_isWhole 4 = .ok (.aload_n 0, 1) := by decide +kernel
theorem dX4_isWhole_5 : decode cX4_isWhole 5 = .ok (.getfield 36, 3) := by decide +kernel
theorem dX4_isWhole_8 : decode cX4_isWhole 8 = .ok (.iconst 1, 1) := by decide +kernel
theorem dX4_isWhole_9 : decode cX4_isWhole 9 = .ok (.isub, 1) := by decide +kernel
theorem dX4_isWhole_10 : decode cX4_isWhole 10 = .ok (.laload, 1) := by decide +kernel
theorem dX4_isWhole_11 : decode cX4_isWhole 11 = .ok (.lneg, 1) := by decide +kernel
theorem dX4_isWhole_12 : decode cX4_isWhole 12 = .ok (.lstore 9, 2) := by decide +kernel
theorem dX4_isWhole_14 : decode cX4_isWhole 14 = .ok (.lload 9, 2) := by decide +kernel
theorem dX4_isWhole_16 : decode cX4_isWhole 16 = .ok (.lload 9, 2) := by decide +kernel
theorem dX4_isWhole_18 : decode cX4_isWhole 18 = .ok (.lmul, 1) := by decide +kernel
theorem dX4_isWhole_19 : decode cX4_isWhole 19 = .ok (.ldc2_w 72, 3) := by decide +kernel
theorem dX4_isWhole_22 : decode cX4_isWhole 22 = .ok (.aload_n 0, 1) := by decide +kernel
theorem dX4_isWhole_23 : decode cX4_isWhole 23 = .ok (.getfield 9, 3) := by decide +kernel
theorem dX4_isWhole_26 : decode cX4_isWhole 26 = .ok (.aload_n 0, 1) := by decide +kernel
theorem dX4_isWhole_27 : decode cX4_isWhole 27 = .ok (.getfield 36, 3) := by decide +kernel
theorem dX4_isWhole_30 : decode cX4_isWhole 30 = .ok (.iconst 2, 1) := by decide +kernel
theorem dX4_isWhole_31 : decode cX4_isWhole 31 = .ok (.isub, 1) := by decide +kernel
theorem dX4_isWhole_32 : decode cX4_isWhole 32 = .ok (.laload, 1) := by decide +kernel
theorem dX4_isWhole_33 : decode cX4_isWhole 33 = .ok (.lmul, 1) := by decide +kernel
theorem dX4_isWhole_34 : decode cX4_isWhole 34 = .ok (.lsub, 1) := by decide +kernel
theorem dX4_isWhole_35 : decode cX4_isWhole 35 = .ok (.lstore 11, 2) := by decide +kernel
theorem dX4_isWhole_37 : decode cX4_isWhole 37 = .ok (.lload 7, 2) := by decide +kernel
theorem dX4_isWhole_39 : decode cX4_isWhole 39 = .ok (.lconst 0, 1) := by decide +kernel
theorem dX4_isWhole_40 : decode cX4_isWhole 40 = .ok (.lcmp, 1) := by decide +kernel
theorem dX4_isWhole_41 : decode cX4_isWhole 41 = .ok (.ifCond .le 29, 3) := by decide +kernel
theorem dX4_isWhole_44 : decode cX4_isWhole 44 = .ok (.aload_n 0, 1) := by decide +kernel
theorem dX4_isWhole_45 : decode cX4_isWhole 45 = .ok (.getfield 36, 3) := by decide +kernel
theorem dX4_isWhole_48 : decode cX4_isWhole 48 = .ok (.i2l, 1) := by decide +kernel
theorem dX4_isWhole_49 : decode cX4_isWhole 49 = .ok (.lload_n 1, 1) := by decide +kernel
theorem dX4_isWhole_50 : decode cX4_isWhole 50 = .ok (.lmul, 1) := by decide +kernel
theorem dX4_isWhole_51 : decode cX4_isWhole 51 = .ok (.lload_n 3, 1) := by decide +kernel
theorem dX4_isWhole_52 : decode cX4_isWhole 52 = .ok (.lload 9, 2) := by decide +kernel
theorem dX4_isWhole_54 : decode cX4_isWhole 54 = .ok (.lmul, 1) := by decide +kernel
theorem dX4_isWhole_55 : decode cX4_isWhole 55 = .ok (.ladd, 1) := by decide +kernel
theorem dX4_isWhole_56 : decode cX4_isWhole 56 = .ok (.lload 5, 2) := by decide +kernel
theorem dX4_isWhole_58 : decode cX4_isWhole 58 = .ok (.lload 11, 2) := by decide +kernel
theorem dX4_isWhole_60 : decode cX4_isWhole 60 = .ok (.lmul, 1) := by decide +kernel
theorem dX4_isWhole_61 : decode cX4_isWhole 61 = .ok (.ladd, 1) := by decide +kernel
theorem dX4_isWhole_62 : decode cX4_isWhole 62 = .ok (.lload 7, 2) := by decide +kernel
theorem dX4_isWhole_64 : decode cX4_isWhole 64 = .ok (.lrem, 1) := by decide +kernel
theorem dX4_isWhole_65 : decode cX4_isWhole 65 = .ok (.lconst 0, 1) := by decide +kernel
theorem dX4_isWhole_66 : decode cX4_isWhole 66 = .ok (.lcmp, 1) := by decide +kernel
theorem dX4_isWhole_67 : decode cX4_isWhole 67 = .ok (.ifCond .eq 5, 3) := by decide +kernel
theorem dX4_isWhole_70 : decode cX4_isWhole 70 = .ok (.iconst 0, 1) := by decide +kernel
theorem dX4_isWhole_71 : decode cX4_isWhole 71 = .ok (.ireturn, 1) := by decide +kernel
theorem dX4_isWhole_72 : decode cX4_isWhole 72 = .ok (.aload_n 0, 1) := by decide +kernel
theorem dX4_isWhole_73 : decode cX4_isWhole 73 = .ok (.lload_n 1, 1) := by decide +kernel
theorem dX4_isWhole_74 : decode cX4_isWhole 74 = .ok (.lload_n 3, 1) := by decide +kernel
theorem dX4_isWhole_75 : decode cX4_isWhole 75 = .ok (.lload 5, 2) := by decide +kernel
theorem dX4_isWhole_77 : decode cX4_isWhole 77 = .ok (.invokevirtual 74, 3) := by decide +kernel
theorem dX4_isWhole_80 : decode cX4_isWhole 80 = .ok (.aload_n 0, 1) := by decide +kernel
theorem dX4_isWhole_81 : decode cX4_isWhole 81 = .ok (.getfield 36, 3) := by decide +kernel
theorem dX4_isWhole_84 : decode cX4_isWhole 84 = .ok (.iconst 2, 1) := by decide +kernel
theorem dX4_isWhole_85 : decode cX4_isWhole 85 = .ok (.if_icmp .ne 24, 3) := by decide +kernel
theorem dX4_isWhole_88 : decode cX4_isWhole 88 = .ok (.aload_n 0, 1) := by decide +kernel
theorem dX4_isWhole_89 : decode cX4_isWhole 89 = .ok (.invokevirtual 78, 3) := by decide +kernel
theorem dX4_isWhole_92 : decode cX4_isWhole 92 = .ok (.lload 7, 2) := by decide +kernel
theorem dX4_isWhole_94 : decode cX4_isWhole 94 = .ok (.lload 7, 2) := by decide +kernel
theorem dX4_isWhole_96 : decode cX4_isWhole 96 = .ok (.lmul, 1) := by decide +kernel
theorem dX4_isWhole_97 : decode cX4_isWhole 97 = .ok (.lrem, 1) := by decide +kernel
theorem dX4_isWhole_98 : decode cX4_isWhole 98 = .ok (.lconst 0, 1) := by decide +kernel
theorem dX4_isWhole_99 : decode cX4_isWhole 99 = .ok (.lcmp, 1) := by decide +kernel
theorem dX4_isWhole_100 : decode cX4_isWhole 100 = .ok (.ifCond .ne 7, 3) := by decide +kernel
theorem dX4_isWhole_103 : decode cX4_isWhole 103 = .ok (.iconst 1, 1) := by decide +kernel
theorem dX4_isWhole_104 : decode cX4_isWhole 104 = .ok (.goto 4, 3) := by decide +kernel
theorem dX4_isWhole_107 : decode cX4_isWhole 107 = .ok (.iconst 0, 1) := by decide +kernel
theorem dX4_isWhole_108 : decode cX4_isWhole 108 = .ok (.ireturn, 1) := by decide +kernel
theorem dX4_isWhole_109 : decode cX4_isWhole 109 = .ok (.aload_n 0, 1) := by decide +kernel
theorem dX4_isWhole_110 : decode cX4_isWhole 110 = .ok (.invokevirtual 82, 3) := by decide +kernel
theorem dX4_isWhole_113 : decode cX4_isWhole 113 = .ok (.lload 7, 2) := by decide +kernel
theorem dX4_isWhole_115 : decode cX4_isWhole 115 = .ok (.lload 7, 2) := by decide +kernel
theorem dX4_isWhole_117 : decode cX4_isWhole 117 = .ok (.lmul, 1) := by decide +kernel
theorem dX4_isWhole_118 : decode cX4_isWhole 118 = .ok (.lrem, 1) := by decide +kernel
theorem dX4_isWhole_119 : decode cX4_isWhole 119 = .ok (.lconst 0, 1) := by decide +kernel
theorem dX4_isWhole_120 : decode cX4_isWhole 120 = .ok (.lcmp, 1) := by decide +kernel
theorem dX4_isWhole_121 : decode cX4_isWhole 121 = .ok (.ifCond .ne 25, 3) := by decide +kernel
theorem dX4_isWhole_124 : decode cX4_isWhole 124 = .ok (.aload_n 0, 1) := by decide +kernel
theorem dX4_isWhole_125 : decode cX4_isWhole 125 = .ok (.invokevirtual 78, 3) := by decide +kernel
theorem dX4_isWhole_128 : decode cX4_isWhole 128 = .ok (.lload 7, 2) := by decide +kernel
theorem dX4_isWhole_130 : decode cX4_isWhole 130 = .ok (.lload 7, 2) := by decide +kernel
theorem dX4_isWhole_132 : decode cX4_isWhole 132 = .ok (.lmul, 1) := by decide +kernel
theorem dX4_isWhole_133 : decode cX4_isWhole 133 = .ok (.lload 7, 2) := by decide +kernel
theorem dX4_isWhole_135 : decode cX4_isWhole 135 = .ok (.lmul, 1) := by decide +kernel
theorem dX4_isWhole_136 : decode cX4_isWhole 136 = .ok (.lrem, 1) := by decide +kernel
theorem dX4_isWhole_137 : decode cX4_isWhole 137 = .ok (.lconst 0, 1) := by decide +kernel
theorem dX4_isWhole_138 : decode cX4_isWhole 138 = .ok (.lcmp, 1) := by decide +kernel
theorem dX4_isWhole_139 : decode cX4_isWhole 139 = .ok (.ifCond .ne 7, 3) := by decide +kernel
theorem dX4_isWhole_142 : decode cX4_isWhole 142 = .ok (.iconst 1, 1) := by decide +kernel
theorem dX4_isWhole_143 : decode cX4_isWhole 143 = .ok (.goto 4, 3) := by decide +kernel
theorem dX4_isWhole_146 : decode cX4_isWhole 146 = .ok (.iconst 0, 1) := by decide +kernel
theorem dX4_isWhole_147 : decode cX4_isWhole 147 = .ok (.ireturn, 1) := by decide +kernel
theorem bX4_isWhole_0 {l : Launch} {D : va_G} {aI aL : ClassId} {ad : Nat → Nat} {P : sa_P} {I : sa_I} {J : sa_J} {x1 : Int64} {x3 : Int64} {x5 : Int64} {x7 : Int64} {j9 : Nat} {v12 : Int64} {j31 : Nat} {v35 : Int64} (e9 : (I 4 0) - (1 : Int32) = nI j9) (h10 : j9 < 3) (e31 : (I 4 0) - (2 : Int32) = nI j31) (h32 : j31 < 3) (f12 : -(J 5 j9) = v12) (f35 : (v12 * v12) - ((2 : Int64) * (J 5 j31)) = v35) (kt : x7 ≤ (0 : Int64) → Sat (EC l D aI aL ad) M_X4_isWhole P 70 [] [] I J) (kf : ¬ x7 ≤ (0 : Int64) → Sat (EC l D aI aL ad) M_X4_isWhole P 44 [(0, .ref (ad 4)), (1, .long x1), (3, .long x3), (5, .long x5), (7, .long x7), (9, .long v12), (11, .long v35)] [] I J) : Sat (EC l D aI aL ad) M_X4_isWhole P 0 [(0, .ref (ad 4)), (1, .long x1), (3, .long x3), (5, .long x5), (7, .long x7)] [] I J := by
  refine s_aload_n 0 dX4_isWhole_0 rfl ?_
  refine g_X4_9 dX4_isWhole_1 rfl ?_
  refine s_aload_n 0 dX4_isWhole_4 rfl ?_
  refine g_X4_36 dX4_isWhole_5 rfl ?_
  refine s_iconst (v := 1) dX4_isWhole_8 rfl ?_
  refine s_isub dX4_isWhole_9 ?_
  refine s_eqi e9 ?_
  refine s_laloadN aJ_C5 h10 (by decide) dX4_isWhole_10 ?_
  refine s_lneg dX4_isWhole_11 ?_
  refine s_eql f12 ?_
  refine s_lstore [(9, .long v12), (0, .ref (ad 4)), (1, .long x1), (3, .long x3), (5, .long x5), (7, .long x7)] dX4_isWhole_12 (Nat.lt_of_lt_of_le (Nat.lt_succ_self _) (Nat.le_of_ble_eq_true rfl)) rfl ?_
  refine s_lload 0 dX4_isWhole_14 rfl ?_
  refine s_lload 0 dX4_isWhole_16 rfl ?_
  refine s_lmul dX4_isWhole_18 ?_
  refine s_ldc2 wk_X4_72 dX4_isWhole_19 ?_
  refine s_aload_n 1 dX4_isWhole_22 rfl ?_
  refine g_X4_9 dX4_isWhole_23 rfl ?_
  refine s_aload_n 1 dX4_isWhole_26 rfl ?_
  refine g_X4_36 dX4_isWhole_27 rfl ?_
  refine s_iconst (v := 2) dX4_isWhole_30 rfl ?_
  refine s_isub dX4_isWhole_31 ?_
  refine s_eqi e31 ?_
  refine s_laloadN aJ_C5 h32 (by decide) dX4_isWhole_32 ?_
  refine s_lmul dX4_isWhole_33 ?_
  refine s_lsub dX4_isWhole_34 ?_
  refine s_eql f35 ?_
  refine s_lstore [(11, .long v35), (9, .long v12), (0, .ref (ad 4)), (1, .long x1), (3, .long x3), (5, .long x5), (7, .long x7)] dX4_isWhole_35 (Nat.lt_of_lt_of_le (Nat.lt_succ_self _) (Nat.le_of_ble_eq_true rfl)) rfl ?_
  refine s_lload 6 dX4_isWhole_37 rfl ?_
  refine s_lconst (v := 0) dX4_isWhole_39 rfl ?_
  refine s_lif_le (tgt := 70) dX4_isWhole_40 dX4_isWhole_41 (by decide) (fun c => ?_) (fun c => ?_)
  · refine s_pick [] [] rfl ?_; exact kt c
  · refine s_pick [2, 3, 4, 5, 6, 1, 0] [(0, .ref (ad 4)), (1, .long x1), (3, .long x3), (5, .long x5), (7, .long x7), (9, .long v12), (11, .long v35)] rfl ?_; exact kf c
theorem bX4_isWhole_44 {l : Launch} {D : va_G} {aI aL : ClassId} {ad : Nat → Nat} {P : sa_P} {I : sa_I} {J : sa_J} {x1 : Int64} {x3 : Int64} {x5 : Int64} {x7 : Int64} {x9 : Int64} {x11 : Int64} (z64 : ¬ x7 = 0)  (kt : (((((I 4 0).toInt64) * x1) + (x3 * x9)) + (x5 * x11)) - (((((I 4 0).toInt64) * x1) + (x3 * x9)) + (x5 * x11)) / x7 * x7 = (0 : Int64) → Sat (EC l D aI aL ad) M_X4_isWhole P 72 [(0, .ref (ad 4)), (1, .long x1), (3, .long x3), (5, .long x5), (7, .long x7)] [] I J) (kf : ¬ (((((I 4 0).toInt64) * x1) + (x3 * x9)) + (x5 * x11)) - (((((I 4 0).toInt64) * x1) + (x3 * x9)) + (x5 * x11)) / x7 * x7 = (0 : Int64) → Sat (EC l D aI aL ad) M_X4_isWhole P 70 [] [] I J) : Sat (EC l D aI aL ad) M_X4_isWhole P 44 [(0, .ref (ad 4)), (1, .long x1), (3, .long x3), (5, .long x5), (7, .long x7), (9, .long x9), (11, .long x11)] [] I J := by
  refine s_aload_n 0 dX4_isWhole_44 rfl ?_
  refine g_X4_36 dX4_isWhole_45 rfl ?_
  refine s_i2l dX4_isWhole_48 ?_
  refine s_lload_n 1 dX4_isWhole_49 rfl ?_
  refine s_lmul dX4_isWhole_50 ?_
  refine s_lload_n 2 dX4_isWhole_51 rfl ?_
  refine s_lload 5 dX4_isWhole_52 rfl ?_
  refine s_lmul dX4_isWhole_54 ?_
  refine s_ladd dX4_isWhole_55 ?_
  refine s_lload 3 dX4_isWhole_56 rfl ?_
  refine s_lload 6 dX4_isWhole_58 rfl ?_
  refine s_lmul dX4_isWhole_60 ?_
  refine s_ladd dX4_isWhole_61 ?_
  refine s_lload 4 dX4_isWhole_62 rfl ?_
  refine s_lrem dX4_isWhole_64 z64 ?_
  refine s_lconst (v := 0) dX4_isWhole_65 rfl ?_
  refine s_lif_eq (tgt := 72) dX4_isWhole_66 dX4_isWhole_67 (by decide) (fun c => ?_) (fun c => ?_)
  · refine s_pick [0, 1, 2, 3, 4] [(0, .ref (ad 4)), (1, .long x1), (3, .long x3), (5, .long x5), (7, .long x7)] rfl ?_; exact kt c
  · refine s_pick [] [] rfl ?_; exact kf c
theorem bX4_isWhole_70 {l : Launch} {D : va_G} {aI aL : ClassId} {ad : Nat → Nat} {P : sa_P} {I : sa_I} {J : sa_J}    (k : P (some (.int (0 : Int32))) I J) : Sat (EC l D aI aL ad) M_X4_isWhole P 70 [] [] I J := by
  refine s_iconst (v := 0) dX4_isWhole_70 rfl ?_
  exact s_zret rfl rfl dX4_isWhole_71 k
theorem bX4_isWhole_72 {l : Launch} {D : va_G} {aI aL : ClassId} {ad : Nat → Nat} {P : sa_P} {I : sa_I} {J : sa_J} {x1 : Int64} {x3 : Int64} {x5 : Int64} {x7 : Int64}   (k : Sat (EC l D aI aL ad) M_X4_isWhole P 77 [(0, .ref (ad 4)), (7, .long x7)] [.long x5, .long x3, .long x1, .ref (ad 4)] I J) : Sat (EC l D aI aL ad) M_X4_isWhole P 72 [(0, .ref (ad 4)), (1, .long x1), (3, .long x3), (5, .long x5), (7, .long x7)] [] I J := by
  refine s_aload_n 0 dX4_isWhole_72 rfl ?_
  refine s_lload_n 1 dX4_isWhole_73 rfl ?_
  refine s_lload_n 2 dX4_isWhole_74 rfl ?_
  refine s_lload 3 dX4_isWhole_75 rfl ?_
  refine s_pick [0, 4] [(0, .ref (ad 4)), (7, .long x7)] rfl ?_; exact k
theorem bX4_isWhole_80 {l : Launch} {D : va_G} {aI aL : ClassId} {ad : Nat → Nat} {P : sa_P} {I : sa_I} {J : sa_J} {x7 : Int64}   (kt : ¬ I 4 0 = (2 : Int32) → Sat (EC l D aI aL ad) M_X4_isWhole P 109 [(0, .ref (ad 4)), (7, .long x7)] [] I J) (kf : I 4 0 = (2 : Int32) → Sat (EC l D aI aL ad) M_X4_isWhole P 88 [(0, .ref (ad 4)), (7, .long x7)] [] I J) : Sat (EC l D aI aL ad) M_X4_isWhole P 80 [(0, .ref (ad 4)), (7, .long x7)] [] I J := by
  refine s_aload_n 0 dX4_isWhole_80 rfl ?_
  refine g_X4_36 dX4_isWhole_81 rfl ?_
  refine s_iconst (v := 2) dX4_isWhole_84 rfl ?_
  refine s_icmp_ne (tgt := 109) dX4_isWhole_85 (by decide) (fun c => ?_) (fun c => ?_)
  · exact kt c
  · exact kf (by first | exact c | exact Classical.not_not.mp c)
theorem bX4_isWhole_88 {l : Launch} {D : va_G} {aI aL : ClassId} {ad : Nat → Nat} {P : sa_P} {I : sa_I} {J : sa_J} {x7 : Int64}   (k : Sat (EC l D aI aL ad) M_X4_isWhole P 89 [(7, .long x7)] [.ref (ad 4)] I J) : Sat (EC l D aI aL ad) M_X4_isWhole P 88 [(0, .ref (ad 4)), (7, .long x7)] [] I J := by
  refine s_aload_n 0 dX4_isWhole_88 rfl ?_
  refine s_pick [1] [(7, .long x7)] rfl ?_; exact k
theorem bX4_isWhole_92 {l : Launch} {D : va_G} {aI aL : ClassId} {ad : Nat → Nat} {P : sa_P} {I : sa_I} {J : sa_J} {x7 : Int64} {s0 : Int64} (z97 : ¬ x7 * x7 = 0)  (kt : ¬ s0 - s0 / (x7 * x7) * (x7 * x7) = (0 : Int64) → Sat (EC l D aI aL ad) M_X4_isWhole P 107 [] [] I J) (kf : s0 - s0 / (x7 * x7) * (x7 * x7) = (0 : Int64) → Sat (EC l D aI aL ad) M_X4_isWhole P 103 [] [] I J) : Sat (EC l D aI aL ad) M_X4_isWhole P 92 [(7, .long x7)] [.long s0] I J := by
  refine s_lload 0 dX4_isWhole_92 rfl ?_
  refine s_lload 0 dX4_isWhole_94 rfl ?_
  refine s_lmul dX4_isWhole_96 ?_
  refine s_lrem dX4_isWhole_97 z97 ?_
  refine s_lconst (v := 0) dX4_isWhole_98 rfl ?_
  refine s_lif_ne (tgt := 107) dX4_isWhole_99 dX4_isWhole_100 (by decide) (fun c => ?_) (fun c => ?_)
  · refine s_pick [] [] rfl ?_; exact kt c
  · refine s_pick [] [] rfl ?_; exact kf (by first | exact c | exact Classical.not_not.mp c)
theorem bX4_isWhole_103 {l : Launch} {D : va_G} {aI aL : ClassId} {ad : Nat → Nat} {P : sa_P} {I : sa_I} {J : sa_J}    (k : Sat (EC l D aI aL ad) M_X4_isWhole P 108 [] [.int (1 : Int32)] I J) : Sat (EC l D aI aL ad) M_X4_isWhole P 103 [] [] I J := by
  refine s_iconst (v := 1) dX4_isWhole_103 rfl ?_
  refine s_goto (tgt := 108) dX4_isWhole_104 (by decide) ?_
  exact k
theorem bX4_isWhole_107 {l : Launch} {D : va_G} {aI aL : ClassId} {ad : Nat → Nat} {P : sa_P} {I : sa_I} {J : sa_J}    (k : Sat (EC l D aI aL ad) M_X4_isWhole P 108 [] [.int (0 : Int32)] I J) : Sat (EC l D aI aL ad) M_X4_isWhole P 107 [] [] I J := by
  refine s_iconst (v := 0) dX4_isWhole_107 rfl ?_
  exact k
theorem bX4_isWhole_108 {l : Launch} {D : va_G} {aI aL : ClassId} {ad : Nat → Nat} {P : sa_P} {I : sa_I} {J : sa_J} {s0 : Int32} (hz : narrow .boolean (.int s0) = .int s0)  (k : P (some (.int s0)) I J) : Sat (EC l D aI aL ad) M_X4_isWhole P 108 [] [.int s0] I J := by
  exact s_zret hz rfl dX4_isWhole_108 k
theorem bX4_isWhole_109 {l : Launch} {D : va_G} {aI aL : ClassId} {ad : Nat → Nat} {P : sa_P} {I : sa_I} {J : sa_J} {x7 : Int64}   (k : Sat (EC l D aI aL ad) M_X4_isWhole P 110 [(0, .ref (ad 4)), (7, .long x7)] [.ref (ad 4)] I J) : Sat (EC l D aI aL ad) M_X4_isWhole P 109 [(0, .ref (ad 4)), (7, .long x7)] [] I J := by
  refine s_aload_n 0 dX4_isWhole_109 rfl ?_
  exact k
theorem bX4_isWhole_113 {l : Launch} {D : va_G} {aI aL : ClassId} {ad : Nat → Nat} {P : sa_P} {I : sa_I} {J : sa_J} {x7 : Int64} {s0 : Int64} (z118 : ¬ x7 * x7 = 0)  (kt : ¬ s0 - s0 / (x7 * x7) * (x7 * x7) = (0 : Int64) → Sat (EC l D aI aL ad) M_X4_isWhole P 146 [] [] I J) (kf : s0 - s0 / (x7 * x7) * (x7 * x7) = (0 : Int64) → Sat (EC l D aI aL ad) M_X4_isWhole P 124 [(0, .ref (ad 4)), (7, .long x7)] [] I J) : Sat (EC l D aI aL ad) M_X4_isWhole P 113 [(0, .ref (ad 4)), (7, .long x7)] [.long s0] I J := by
  refine s_lload 1 dX4_isWhole_113 rfl ?_
  refine s_lload 1 dX4_isWhole_115 rfl ?_
  refine s_lmul dX4_isWhole_117 ?_
  refine s_lrem dX4_isWhole_118 z118 ?_
  refine s_lconst (v := 0) dX4_isWhole_119 rfl ?_
  refine s_lif_ne (tgt := 146) dX4_isWhole_120 dX4_isWhole_121 (by decide) (fun c => ?_) (fun c => ?_)
  · refine s_pick [] [] rfl ?_; exact kt c
  · exact kf (by first | exact c | exact Classical.not_not.mp c)
theorem bX4_isWhole_124 {l : Launch} {D : va_G} {aI aL : ClassId} {ad : Nat → Nat} {P : sa_P} {I : sa_I} {J : sa_J} {x7 : Int64}   (k : Sat (EC l D aI aL ad) M_X4_isWhole P 125 [(7, .long x7)] [.ref (ad 4)] I J) : Sat (EC l D aI aL ad) M_X4_isWhole P 124 [(0, .ref (ad 4)), (7, .long x7)] [] I J := by
  refine s_aload_n 0 dX4_isWhole_124 rfl ?_
  refine s_pick [1] [(7, .long x7)] rfl ?_; exact k
theorem bX4_isWhole_128 {l : Launch} {D : va_G} {aI aL : ClassId} {ad : Nat → Nat} {P : sa_P} {I : sa_I} {J : sa_J} {x7 : Int64} {s0 : Int64} (z136 : ¬ (x7 * x7) * x7 = 0)  (kt : ¬ s0 - s0 / ((x7 * x7) * x7) * ((x7 * x7) * x7) = (0 : Int64) → Sat (EC l D aI aL ad) M_X4_isWhole P 146 [] [] I J) (kf : s0 - s0 / ((x7 * x7) * x7) * ((x7 * x7) * x7) = (0 : Int64) → Sat (EC l D aI aL ad) M_X4_isWhole P 142 [] [] I J) : Sat (EC l D aI aL ad) M_X4_isWhole P 128 [(7, .long x7)] [.long s0] I J := by
  refine s_lload 0 dX4_isWhole_128 rfl ?_
  refine s_lload 0 dX4_isWhole_130 rfl ?_
  refine s_lmul dX4_isWhole_132 ?_
  refine s_lload 0 dX4_isWhole_133 rfl ?_
  refine s_lmul dX4_isWhole_135 ?_
  refine s_lrem dX4_isWhole_136 z136 ?_
  refine s_lconst (v := 0) dX4_isWhole_137 rfl ?_
  refine s_lif_ne (tgt := 146) dX4_isWhole_138 dX4_isWhole_139 (by decide) (fun c => ?_) (fun c => ?_)
  · refine s_pick [] [] rfl ?_; exact kt c
  · refine s_pick [] [] rfl ?_; exact kf (by first | exact c | exact Classical.not_not.mp c)
theorem bX4_isWhole_142 {l : Launch} {D : va_G} {aI aL : ClassId} {ad : Nat → Nat} {P : sa_P} {I : sa_I} {J : sa_J}    (k : Sat (EC l D aI aL ad) M_X4_isWhole P 147 [] [.int (1 : Int32)] I J) : Sat (EC l D aI aL ad) M_X4_isWhole P 142 [] [] I J := by
  refine s_iconst (v := 1) dX4_isWhole_142 rfl ?_
  refine s_goto (tgt := 147) dX4_isWhole_143 (by decide) ?_
  exact k
theorem bX4_isWhole_146 {l : Launch} {D : va_G} {aI aL : ClassId} {ad : Nat → Nat} {P : sa_P} {I : sa_I} {J : sa_J}    (k : Sat (EC l D aI aL ad) M_X4_isWhole P 147 [] [.int (0 : Int32)] I J) : Sat (EC l D aI aL ad) M_X4_isWhole P 146 [] [] I J := by
  refine s_iconst (v := 0) dX4_isWhole_146 rfl ?_
  exact k
theorem bX4_isWhole_147 {l : Launch} {D : va_G} {aI aL : ClassId} {ad : Nat → Nat} {P : sa_P} {I : sa_I} {J : sa_J} {s0 : Int32} (hz : narrow .boolean (.int s0) = .int s0)  (k : P (some (.int s0)) I J) : Sat (EC l D aI aL ad) M_X4_isWhole P 147 [] [.int s0] I J := by
  exact s_zret hz rfl dX4_isWhole_147 k
/-! X4_matrixByPowers -/
theorem dX4_matrixByPowers_0 : decode cX4_matrixByPowers 0 = .ok (.aload_n 0, 1) := by decide +kernel
theorem dX4_matrixByPowers_1 : decode cX4_matrixByPowers 1 = .ok (.getfield 27, 3) := by decide +kernel
theorem dX4_matrixByPowers_4 : decode cX4_matrixByPowers 4 = .ok (.iconst 0, 1) := by decide +kernel
theorem dX4_matrixByPowers_5 : decode cX4_matrixByPowers 5 = .ok (.lload_n 1, 1) := by decide +kernel
theorem dX4_matrixByPowers_6 : decode cX4_matrixByPowers 6 = .ok (.lastore, 1) := by decide +kernel
theorem dX4_matrixByPowers_7 : decode cX4_matrixByPowers 7 = .ok (.aload_n 0, 1) := by decide +kernel
theorem dX4_matrixByPowers_8 : decode cX4_matrixByPowers 8 = .ok (.getfield 27, 3) := by decide +kernel
theorem dX4_matrixByPowers_11 : decode cX4_matrixByPowers 11 = .ok (.iconst 1, 1) := by decide +kernel
theorem dX4_matrixByPowers_12 : decode cX4_matrixByPowers 12 = .ok (.lload_n 3, 1) := by decide +kernel
theorem dX4_matrixByPowers_13 : decode cX4_matrixByPowers 13 = .ok (.lastore, 1) := by decide +kernel
theorem dX4_matrixByPowers_14 : decode cX4_matrixByPowers 14 = .ok (.aload_n 0, 1) := by decide +kernel
theorem dX4_matrixByPowers_15 : decode cX4_matrixByPowers 15 = .ok (.getfield 27, 3) := by decide +kernel
theorem dX4_matrixByPowers_18 : decode cX4_matrixByPowers 18 = .ok (.iconst 2, 1) := by decide +kernel
theorem dX4_matrixByPowers_19 : decode cX4_matrixByPowers 19 = .ok (.lload 5, 2) := by decide +kernel
theorem dX4_matrixByPowers_21 : decode cX4_matrixByPowers 21 = .ok (.lastore, 1) := by decide +kernel
theorem dX4_matrixByPowers_22 : decode cX4_matrixByPowers 22 = .ok (.iconst 1, 1) := by decide +kernel
theorem dX4_matrixByPowers_23 : decode cX4_matrixByPowers 23 = .ok (.istore 7, 2) := by decide +kernel
theorem dX4_matrixByPowers_25 : decode cX4_matrixByPowers 25 = .ok (.iload 7, 2) := by decide +kernel
theorem dX4_matrixByPowers_27 : decode cX4_matrixByPowers 27 = .ok (.aload_n 0, 1) := by decide +kernel
theorem dX4_matrixByPowers_28 : decode cX4_matrixByPowers 28 = .ok (.getfield 36, 3) := by decide +kernel
theorem dX4_matrixByPowers_31 : decode cX4_matrixByPowers 31 = .ok (.if_icmp .ge 95, 3) := by decide +kernel
theorem dX4_matrixByPowers_34 : decode cX4_matrixByPowers 34 = .ok (.aload_n 0, 1) := by decide +kernel
theorem dX4_matrixByPowers_35 : decode cX4_matrixByPowers 35 = .ok (.getfield 27, 3) := by decide +kernel
theorem dX4_matrixByPowers_38 : decode cX4_matrixByPowers 38 = .ok (.iconst 3, 1) := by decide +kernel
theorem dX4_matrixByPowers_39 : decode cX4_matrixByPowers 39 = .ok (.iload 7, 2) := by decide +kernel
theorem dX4_matrixByPowers_41 : decode cX4_matrixByPowers 41 = .ok (.imul, 1) := by decide +kernel
theorem dX4_matrixByPowers_42 : decode cX4_matrixByPowers 42 = .ok (.iconst 4, 1) := by decide +kernel
theorem dX4_matrixByPowers_43 : decode cX4_matrixByPowers 43 = .ok (.isub, 1) := by decide +kernel
theorem dX4_matrixByPowers_44 : decode cX4_matrixByPowers 44 = .ok (.aload_n 0, 1) := by decide +kernel
theorem dX4_matrixByPowers_45 : decode cX4_matrixByPowers 45 = .ok (.getfield 36, 3) := by decide +kernel
theorem dX4_matrixByPowers_48 : decode cX4_matrixByPowers 48 = .ok (.iadd, 1) := by decide +kernel
theorem dX4_matrixByPowers_49 : decode cX4_matrixByPowers 49 = .ok (.laload, 1) := by decide +kernel
theorem dX4_matrixByPowers_50 : decode cX4_matrixByPowers 50 = .ok (.lstore 8, 2) := by decide +kernel
theorem dX4_matrixByPowers_52 : decode cX4_matrixByPowers 52 = .ok (.iconst 0, 1) := by decide +kernel
theorem dX4_matrixByPowers_53 : decode cX4_matrixByPowers 53 = .ok (.istore 10, 2) := by decide +kernel
theorem dX4_matrixByPowers_55 : decode cX4_matrixByPowers 55 = .ok (.iload 10, 2) := by decide +kernel
theorem dX4_matrixByPowers_57 : decode cX4_matrixByPowers 57 = .ok (.aload_n 0, 1) := by decide +kernel
theorem dX4_matrixByPowers_58 : decode cX4_matrixByPowers 58 = .ok (.getfield 36, 3) := by decide +kernel
theorem dX4_matrixByPowers_61 : decode cX4_matrixByPowers 61 = .ok (.if_icmp .ge 59, 3) := by decide +kernel
theorem dX4_matrixByPowers_64 : decode cX4_matrixByPowers 64 = .ok (.iload 10, 2) := by decide +kernel
theorem dX4_matrixByPowers_66 : decode cX4_matrixByPowers 66 = .ok (.ifCond .ne 7, 3) := by decide +kernel
theorem dX4_matrixByPowers_69 : decode cX4_matrixByPowers 69 = .ok (.lconst 0, 1) := by decide +kernel
theorem dX4_matrixByPowers_70 : decode cX4_matrixByPowers 70 = .ok (.goto 17, 3) := by decide +kernel
theorem dX4_matrixByPowers_73 : decode cX4_matrixByPowers 73 = .ok (.aload_n 0, 1) := by decide +kernel
theorem dX4_matrixByPowers_74 : decode cX4_matrixByPowers 74 = .ok (.getfield 27, 3) := by decide +kernel
theorem dX4_matrixByPowers_77 : decode cX4_matrixByPowers 77 = .ok (.iconst 3, 1) := by decide +kernel
theorem dX4_matrixByPowers_78 : decode cX4_matrixByPowers 78 = .ok (.iload 7, 2) := by decide +kernel
theorem dX4_matrixByPowers_80 : decode cX4_matrixByPowers 80 = .ok (.imul, 1) := by decide +kernel
theorem dX4_matrixByPowers_81 : decode cX4_matrixByPowers 81 = .ok (.iconst 4, 1) := by decide +kernel
theorem dX4_matrixByPowers_82 : decode cX4_matrixByPowers 82 = .ok (.isub, 1) := by decide +kernel
theorem dX4_matrixByPowers_83 : decode cX4_matrixByPowers 83 = .ok (.iload 10, 2) := by decide +kernel
theorem dX4_matrixByPowers_85 : decode cX4_matrixByPowers 85 = .ok (.iadd, 1) := by decide +kernel
theorem dX4_matrixByPowers_86 : decode cX4_matrixByPowers 86 = .ok (.laload, 1) := by decide +kernel
theorem dX4_matrixByPowers_87 : decode cX4_matrixByPowers 87 = .ok (.lstore 11, 2) := by decide +kernel
theorem dX4_matrixByPowers_89 : decode cX4_matrixByPowers 89 = .ok (.aload_n 0, 1) := by decide +kernel
theorem dX4_matrixByPowers_90 : decode cX4_matrixByPowers 90 = .ok (.getfield 27, 3) := by decide +kernel
theorem dX4_matrixByPowers_93 : decode cX4_matrixByPowers 93 = .ok (.iconst 3, 1) := by decide +kernel
theorem dX4_matrixByPowers_94 : decode cX4_matrixByPowers 94 = .ok (.iload 7, 2) := by decide +kernel
theorem dX4_matrixByPowers_96 : decode cX4_matrixByPowers 96 = .ok (.imul, 1) := by decide +kernel
theorem dX4_matrixByPowers_97 : decode cX4_matrixByPowers 97 = .ok (.iload 10, 2) := by decide +kernel
theorem dX4_matrixByPowers_99 : decode cX4_matrixByPowers 99 = .ok (.iadd, 1) := by decide +kernel
theorem dX4_matrixByPowers_100 : decode cX4_matrixByPowers 100 = .ok (.lload 11, 2) := by decide +kernel
theorem dX4_matrixByPowers_102 : decode cX4_matrixByPowers 102 = .ok (.lload 8, 2) := by decide +kernel
theorem dX4_matrixByPowers_104 : decode cX4_matrixByPowers 104 = .ok (.aload_n 0, 1) := by decide +kernel
theorem dX4_matrixByPowers_105 : decode cX4_matrixByPowers 105 = .ok (.getfield 9, 3) := by decide +kernel
theorem dX4_matrixByPowers_108 : decode cX4_matrixByPowers 108 = .ok (.iload 10, 2) := by decide +kernel
theorem dX4_matrixByPowers_110 : decode cX4_matrixByPowers 110 = .ok (.laload, 1) := by decide +kernel
theorem dX4_matrixByPowers_111 : decode cX4_matrixByPowers 111 = .ok (.lmul, 1) := by decide +kernel
theorem dX4_matrixByPowers_112 : decode cX4_matrixByPowers 112 = .ok (.lsub, 1) := by decide +kernel
theorem dX4_matrixByPowers_113 : decode cX4_matrixByPowers 113 = .ok (.lastore, 1) := by decide +kernel
theorem dX4_matrixByPowers_114 : decode cX4_matrixByPowers 114 = .ok (.iinc 10 1, 3) := by decide +kernel
theorem dX4_matrixByPowers_117 : decode cX4_matrixByPowers 117 = .ok (.goto (-62), 3) := by decide +kernel
theorem dX4_matrixByPowers_120 : decode cX4_matrixByPowers 120 = .ok (.iinc 7 1, 3) := by decide +kernel
theorem dX4_matrixByPowers_123 : decode cX4_matrixByPowers 123 = .ok (.goto (-98), 3) := by decide +kernel
theorem dX4_matrixByPowers_126 : decode cX4_matrixByPowers 126 = .ok (.return_, 1) := by decide +kernel
theorem bX4_matrixByPowers_0 {l : Launch} {D : va_G} {aI aL : ClassId} {ad : Nat → Nat} {P : sa_P} {I : sa_I} {J : sa_J} {x1 : Int64} {x3 : Int64} {x5 : Int64} {v23 : Int32}  (f23 : (1 : Int32) = v23) (k : Sat (EC l D aI aL ad) M_X4_matrixByPowers P 25 [(0, .ref (ad 4)), (7, .int v23)] [] I (sa_uJ (sa_uJ (sa_uJ J 10 0 x1) 10 1 x3) 10 2 x5)) : Sat (EC l D aI aL ad) M_X4_matrixByPowers P 0 [(0, .ref (ad 4)), (1, .long x1), (3, .long x3), (5, .long x5)] [] I J := by
  refine s_aload_n 0 dX4_matrixByPowers_0 rfl ?_
  refine g_X4_27 dX4_matrixByPowers_1 rfl ?_
  refine s_iconst (v := 0) dX4_matrixByPowers_4 rfl ?_
  refine s_eqi (y := nI 0) rfl ?_
  refine s_lload_n 1 dX4_matrixByPowers_5 rfl ?_
  refine s_lastoreN aJ_C10 (by decide) (by decide) dX4_matrixByPowers_6 ?_
  refine s_aload_n 0 dX4_matrixByPowers_7 rfl ?_
  refine g_X4_27 dX4_matrixByPowers_8 rfl ?_
  refine s_iconst (v := 1) dX4_matrixByPowers_11 rfl ?_
  refine s_eqi (y := nI 1) rfl ?_
  refine s_lload_n 2 dX4_matrixByPowers_12 rfl ?_
  refine s_lastoreN aJ_C10 (by decide) (by decide) dX4_matrixByPowers_13 ?_
  refine s_aload_n 0 dX4_matrixByPowers_14 rfl ?_
  refine g_X4_27 dX4_matrixByPowers_15 rfl ?_
  refine s_iconst (v := 2) dX4_matrixByPowers_18 rfl ?_
  refine s_eqi (y := nI 2) rfl ?_
  refine s_lload 3 dX4_matrixByPowers_19 rfl ?_
  refine s_lastoreN aJ_C10 (by decide) (by decide) dX4_matrixByPowers_21 ?_
  refine s_iconst (v := 1) dX4_matrixByPowers_22 rfl ?_
  refine s_eqi f23 ?_
  refine s_istore [(7, .int v23), (0, .ref (ad 4)), (1, .long x1), (3, .long x3), (5, .long x5)] dX4_matrixByPowers_23 (Nat.lt_of_lt_of_le (Nat.lt_succ_self _) (Nat.le_of_ble_eq_true rfl)) rfl ?_
  refine s_pick [1, 0] [(0, .ref (ad 4)), (7, .int v23)] rfl ?_; exact k
theorem bX4_matrixByPowers_25 {l : Launch} {D : va_G} {aI aL : ClassId} {ad : Nat → Nat} {P : sa_P} {I : sa_I} {J : sa_J} {x7 : Int32}   (kt : I 4 0 ≤ x7 → Sat (EC l D aI aL ad) M_X4_matrixByPowers P 126 [] [] I J) (kf : ¬ I 4 0 ≤ x7 → Sat (EC l D aI aL ad) M_X4_matrixByPowers P 34 [(0, .ref (ad 4)), (7, .int x7)] [] I J) : Sat (EC l D aI aL ad) M_X4_matrixByPowers P 25 [(0, .ref (ad 4)), (7, .int x7)] [] I J := by
  refine s_iload 1 dX4_matrixByPowers_25 rfl ?_
  refine s_aload_n 0 dX4_matrixByPowers_27 rfl ?_
  refine g_X4_36 dX4_matrixByPowers_28 rfl ?_
  refine s_icmp_ge (tgt := 126) dX4_matrixByPowers_31 (by decide) (fun c => ?_) (fun c => ?_)
  · refine s_pick [] [] rfl ?_; exact kt c
  · exact kf c
theorem bX4_matrixByPowers_34 {l : Launch} {D : va_G} {aI aL : ClassId} {ad : Nat → Nat} {P : sa_P} {I : sa_I} {J : sa_J} {x7 : Int32} {j48 : Nat} {v50 : Int64} {v53 : Int32} (e48 : (((3 : Int32) * x7) - (4 : Int32)) + (I 4 0) = nI j48) (h49 : j48 < 9) (f50 : J 10 j48 = v50) (f53 : (0 : Int32) = v53) (k : Sat (EC l D aI aL ad) M_X4_matrixByPowers P 55 [(0, .ref (ad 4)), (7, .int x7), (8, .long v50), (10, .int v53)] [] I J) : Sat (EC l D aI aL ad) M_X4_matrixByPowers P 34 [(0, .ref (ad 4)), (7, .int x7)] [] I J := by
  refine s_aload_n 0 dX4_matrixByPowers_34 rfl ?_
  refine g_X4_27 dX4_matrixByPowers_35 rfl ?_
  refine s_iconst (v := 3) dX4_matrixByPowers_38 rfl ?_
  refine s_iload 1 dX4_matrixByPowers_39 rfl ?_
  refine s_imul dX4_matrixByPowers_41 ?_
  refine s_iconst (v := 4) dX4_matrixByPowers_42 rfl ?_
  refine s_isub dX4_matrixByPowers_43 ?_
  refine s_aload_n 0 dX4_matrixByPowers_44 rfl ?_
  refine g_X4_36 dX4_matrixByPowers_45 rfl ?_
  refine s_iadd dX4_matrixByPowers_48 ?_
  refine s_eqi e48 ?_
  refine s_laloadN aJ_C10 h49 (by decide) dX4_matrixByPowers_49 ?_
  refine s_eql f50 ?_
  refine s_lstore [(8, .long v50), (0, .ref (ad 4)), (7, .int x7)] dX4_matrixByPowers_50 (Nat.lt_of_lt_of_le (Nat.lt_succ_self _) (Nat.le_of_ble_eq_true rfl)) rfl ?_
  refine s_iconst (v := 0) dX4_matrixByPowers_52 rfl ?_
  refine s_eqi f53 ?_
  refine s_istore [(10, .int v53), (8, .long v50), (0, .ref (ad 4)), (7, .int x7)] dX4_matrixByPowers_53 (Nat.lt_of_lt_of_le (Nat.lt_succ_self _) (Nat.le_of_ble_eq_true rfl)) rfl ?_
  refine s_pick [2, 3, 1, 0] [(0, .ref (ad 4)), (7, .int x7), (8, .long v50), (10, .int v53)] rfl ?_; exact k
theorem bX4_matrixByPowers_55 {l : Launch} {D : va_G} {aI aL : ClassId} {ad : Nat → Nat} {P : sa_P} {I : sa_I} {J : sa_J} {x7 : Int32} {x8 : Int64} {x10 : Int32}   (kt : I 4 0 ≤ x10 → Sat (EC l D aI aL ad) M_X4_matrixByPowers P 120 [(0, .ref (ad 4)), (7, .int x7)] [] I J) (kf : ¬ I 4 0 ≤ x10 → Sat (EC l D aI aL ad) M_X4_matrixByPowers P 64 [(0, .ref (ad 4)), (7, .int x7), (8, .long x8), (10, .int x10)] [] I J) : Sat (EC l D aI aL ad) M_X4_matrixByPowers P 55 [(0, .ref (ad 4)), (7, .int x7), (8, .long x8), (10, .int x10)] [] I J := by
  refine s_iload 3 dX4_matrixByPowers_55 rfl ?_
  refine s_aload_n 0 dX4_matrixByPowers_57 rfl ?_
  refine g_X4_36 dX4_matrixByPowers_58 rfl ?_
  refine s_icmp_ge (tgt := 120) dX4_matrixByPowers_61 (by decide) (fun c => ?_) (fun c => ?_)
  · refine s_pick [0, 1] [(0, .ref (ad 4)), (7, .int x7)] rfl ?_; exact kt c
  · exact kf c
theorem bX4_matrixByPowers_64 {l : Launch} {D : va_G} {aI aL : ClassId} {ad : Nat → Nat} {P : sa_P} {I : sa_I} {J : sa_J} {x7 : Int32} {x8 : Int64} {x10 : Int32}   (kt : ¬ x10 = 0 → Sat (EC l D aI aL ad) M_X4_matrixByPowers P 73 [(0, .ref (ad 4)), (7, .int x7), (8, .long x8), (10, .int x10)] [] I J) (kf : x10 = 0 → Sat (EC l D aI aL ad) M_X4_matrixByPowers P 69 [(0, .ref (ad 4)), (7, .int x7), (8, .long x8), (10, .int x10)] [] I J) : Sat (EC l D aI aL ad) M_X4_matrixByPowers P 64 [(0, .ref (ad 4)), (7, .int x7), (8, .long x8), (10, .int x10)] [] I J := by
  refine s_iload 3 dX4_matrixByPowers_64 rfl ?_
  refine s_if_ne (tgt := 73) dX4_matrixByPowers_66 (by decide) (fun c => ?_) (fun c => ?_)
  · exact kt c
  · exact kf (by first | exact c | exact Classical.not_not.mp c)
theorem bX4_matrixByPowers_69 {l : Launch} {D : va_G} {aI aL : ClassId} {ad : Nat → Nat} {P : sa_P} {I : sa_I} {J : sa_J} {x7 : Int32} {x8 : Int64} {x10 : Int32}   (k : Sat (EC l D aI aL ad) M_X4_matrixByPowers P 87 [(0, .ref (ad 4)), (7, .int x7), (8, .long x8), (10, .int x10)] [.long (0 : Int64)] I J) : Sat (EC l D aI aL ad) M_X4_matrixByPowers P 69 [(0, .ref (ad 4)), (7, .int x7), (8, .long x8), (10, .int x10)] [] I J := by
  refine s_lconst (v := 0) dX4_matrixByPowers_69 rfl ?_
  refine s_goto (tgt := 87) dX4_matrixByPowers_70 (by decide) ?_
  exact k
theorem bX4_matrixByPowers_73 {l : Launch} {D : va_G} {aI aL : ClassId} {ad : Nat → Nat} {P : sa_P} {I : sa_I} {J : sa_J} {x7 : Int32} {x8 : Int64} {x10 : Int32} {j85 : Nat} (e85 : (((3 : Int32) * x7) - (4 : Int32)) + x10 = nI j85) (h86 : j85 < 9)  (k : Sat (EC l D aI aL ad) M_X4_matrixByPowers P 87 [(0, .ref (ad 4)), (7, .int x7), (8, .long x8), (10, .int x10)] [.long (J 10 j85)] I J) : Sat (EC l D aI aL ad) M_X4_matrixByPowers P 73 [(0, .ref (ad 4)), (7, .int x7), (8, .long x8), (10, .int x10)] [] I J := by
  refine s_aload_n 0 dX4_matrixByPowers_73 rfl ?_
  refine g_X4_27 dX4_matrixByPowers_74 rfl ?_
  refine s_iconst (v := 3) dX4_matrixByPowers_77 rfl ?_
  refine s_iload 1 dX4_matrixByPowers_78 rfl ?_
  refine s_imul dX4_matrixByPowers_80 ?_
  refine s_iconst (v := 4) dX4_matrixByPowers_81 rfl ?_
  refine s_isub dX4_matrixByPowers_82 ?_
  refine s_iload 3 dX4_matrixByPowers_83 rfl ?_
  refine s_iadd dX4_matrixByPowers_85 ?_
  refine s_eqi e85 ?_
  refine s_laloadN aJ_C10 h86 (by decide) dX4_matrixByPowers_86 ?_
  exact k
theorem bX4_matrixByPowers_87 {l : Launch} {D : va_G} {aI aL : ClassId} {ad : Nat → Nat} {P : sa_P} {I : sa_I} {J : sa_J} {x7 : Int32} {x8 : Int64} {x10 : Int32} {s0 : Int64} {j99 : Nat} {j108 : Nat} {v113 : Int64} {v114 : Int32} (e99 : ((3 : Int32) * x7) + x10 = nI j99) (e108 : x10 = nI j108) (h110 : j108 < 3) (h113 : j99 < 9) (f113 : s0 - (x8 * (J 5 j108)) = v113) (f114 : x10 + 1 = v114) (k : Sat (EC l D aI aL ad) M_X4_matrixByPowers P 55 [(0, .ref (ad 4)), (7, .int x7), (8, .long x8), (10, .int v114)] [] I (sa_uJ J 10 j99 v113)) : Sat (EC l D aI aL ad) M_X4_matrixByPowers P 87 [(0, .ref (ad 4)), (7, .int x7), (8, .long x8), (10, .int x10)] [.long s0] I J := by
  refine s_lstore [(11, .long s0), (0, .ref (ad 4)), (7, .int x7), (8, .long x8), (10, .int x10)] dX4_matrixByPowers_87 (Nat.lt_of_lt_of_le (Nat.lt_succ_self _) (Nat.le_of_ble_eq_true rfl)) rfl ?_
  refine s_aload_n 1 dX4_matrixByPowers_89 rfl ?_
  refine g_X4_27 dX4_matrixByPowers_90 rfl ?_
  refine s_iconst (v := 3) dX4_matrixByPowers_93 rfl ?_
  refine s_iload 2 dX4_matrixByPowers_94 rfl ?_
  refine s_imul dX4_matrixByPowers_96 ?_
  refine s_iload 4 dX4_matrixByPowers_97 rfl ?_
  refine s_iadd dX4_matrixByPowers_99 ?_
  refine s_eqi e99 ?_
  refine s_lload 0 dX4_matrixByPowers_100 rfl ?_
  refine s_lload 3 dX4_matrixByPowers_102 rfl ?_
  refine s_aload_n 1 dX4_matrixByPowers_104 rfl ?_
  refine g_X4_9 dX4_matrixByPowers_105 rfl ?_
  refine s_iload 4 dX4_matrixByPowers_108 rfl ?_
  refine s_eqi e108 ?_
  refine s_laloadN aJ_C5 h110 (by decide) dX4_matrixByPowers_110 ?_
  refine s_lmul dX4_matrixByPowers_111 ?_
  refine s_lsub dX4_matrixByPowers_112 ?_
  refine s_eql f113 ?_
  refine s_lastoreN aJ_C10 h113 (by decide) dX4_matrixByPowers_113 ?_
  refine s_iinc 4 v114 [(10, .int v114), (11, .long s0), (0, .ref (ad 4)), (7, .int x7), (8, .long x8)] dX4_matrixByPowers_114 rfl f114 (Nat.lt_of_lt_of_le (Nat.lt_succ_self _) (Nat.le_of_ble_eq_true rfl)) rfl ?_
  refine s_goto (tgt := 55) dX4_matrixByPowers_117 (by decide) ?_
  refine s_pick [2, 3, 4, 0] [(0, .ref (ad 4)), (7, .int x7), (8, .long x8), (10, .int v114)] rfl ?_; exact k
theorem bX4_matrixByPowers_120 {l : Launch} {D : va_G} {aI aL : ClassId} {ad : Nat → Nat} {P : sa_P} {I : sa_I} {J : sa_J} {x7 : Int32} {v120 : Int32}  (f120 : x7 + 1 = v120) (k : Sat (EC l D aI aL ad) M_X4_matrixByPowers P 25 [(0, .ref (ad 4)), (7, .int v120)] [] I J) : Sat (EC l D aI aL ad) M_X4_matrixByPowers P 120 [(0, .ref (ad 4)), (7, .int x7)] [] I J := by
  refine s_iinc 1 v120 [(7, .int v120), (0, .ref (ad 4))] dX4_matrixByPowers_120 rfl f120 (Nat.lt_of_lt_of_le (Nat.lt_succ_self _) (Nat.le_of_ble_eq_true rfl)) rfl ?_
  refine s_goto (tgt := 25) dX4_matrixByPowers_123 (by decide) ?_
  refine s_pick [1, 0] [(0, .ref (ad 4)), (7, .int v120)] rfl ?_; exact k
theorem bX4_matrixByPowers_126 {l : Launch} {D : va_G} {aI aL : ClassId} {ad : Nat → Nat} {P : sa_P} {I : sa_I} {J : sa_J}    (k : P (none) I J) : Sat (EC l D aI aL ad) M_X4_matrixByPowers P 126 [] [] I J := by
  exact s_vret rfl dX4_matrixByPowers_126 k
/-! X4_finishRing -/
theorem dX4_finishRing_0 : decode cX4_finishRing 0 = .ok (.aload_n 0, 1) := by decide +kernel
theorem dX4_finishRing_1 : decode cX4_finishRing 1 = .ok (.aload_n 0, 1) := by decide +kernel
theorem dX4_finishRing_2 : decode cX4_finishRing 2 = .ok (.getfield 18, 3) := by decide +kernel
theorem dX4_finishRing_5 : decode cX4_finishRing 5 = .ok (.iconst 1, 1) := by decide +kernel
theorem dX4_finishRing_6 : decode cX4_finishRing 6 = .ok (.laload, 1) := by decide +kernel
theorem dX4_finishRing_7 : decode cX4_finishRing 7 = .ok (.aload_n 0, 1) := by decide +kernel
theorem dX4_finishRing_8 : decode cX4_finishRing 8 = .ok (.getfield 18, 3) := by decide +kernel
theorem dX4_finishRing_11 : decode cX4_finishRing 11 = .ok (.iconst 2, 1) := by decide +kernel
theorem dX4_finishRing_12 : decode cX4_finishRing 12 = .ok (.laload, 1) := by decide +kernel
theorem dX4_finishRing_13 : decode cX4_finishRing 13 = .ok (.lmul, 1) := by decide +kernel
theorem dX4_finishRing_14 : decode cX4_finishRing 14 = .ok (.putfield 85, 3) := by decide +kernel
theorem dX4_finishRing_17 : decode cX4_finishRing 17 = .ok (.aload_n 0, 1) := by decide +kernel
theorem dX4_finishRing_18 : decode cX4_finishRing 18 = .ok (.aload_n 0, 1) := by decide +kernel
theorem dX4_finishRing_19 : decode cX4_finishRing 19 = .ok (.getfield 42, 3) := by decide +kernel
theorem dX4_finishRing_22 : decode cX4_finishRing 22 = .ok (.aload_n 0, 1) := by decide +kernel
theorem dX4_finishRing_23 : decode cX4_finishRing 23 = .ok (.getfield 85, 3) := by decide +kernel
theorem dX4_finishRing_26 : decode cX4_finishRing 26 = .ok (.aload_n 0, 1) := by decide +kernel
theorem dX4_finishRing_27 : decode cX4_finishRing 27 = .ok (.getfield 85, 3) := by decide +kernel
theorem dX4_finishRing_30 : decode cX4_finishRing 30 = .ok (.lmul, 1) := by decide +kernel
theorem dX4_finishRing_31 : decode cX4_finishRing 31 = .ok (.invokestatic 88, 3) := by decide +kernel
theorem dX4_finishRing_34 : decode cX4_finishRing 34 = .ok (.putfield 92, 3) := by decide +kernel
theorem dX4_finishRing_37 : decode cX4_finishRing 37 = .ok (.iconst 0, 1) := by decide +kernel
theorem dX4_finishRing_38 : decode cX4_finishRing 38 = .ok (.istore_n 1, 1) := by decide +kernel
theorem dX4_finishRing_39 : decode cX4_finishRing 39 = .ok (.iload_n 1, 1) := by decide +kernel
theorem dX4_finishRing_40 : decode cX4_finishRing 40 = .ok (.bipush 27, 2) := by decide +kernel
theorem dX4_finishRing_42 : decode cX4_finishRing 42 = .ok (.if_icmp .ge 16, 3) := by decide +kernel
theorem dX4_finishRing_45 : decode cX4_finishRing 45 = .ok (.aload_n 0, 1) := by decide +kernel
theorem dX4_finishRing_46 : decode cX4_finishRing 46 = .ok (.getfield 21, 3) := by decide +kernel
theorem dX4_finishRing_49 : decode cX4_finishRing 49 = .ok (.iload_n 1, 1) := by decide +kernel
theorem dX4_finishRing_50 : decode cX4_finishRing 50 = .ok (.lconst 0, 1) := by decide +kernel
theorem dX4_finishRing_51 : decode cX4_finishRing 51 = .ok (.lastore, 1) := by decide +kernel
theorem dX4_finishRing_52 : decode cX4_finishRing 52 = .ok (.iinc 1 1, 3) := by decide +kernel
theorem dX4_finishRing_55 : decode cX4_finishRing 55 = .ok (.goto (-16), 3) := by decide +kernel
theorem dX4_finishRing_58 : decode cX4_finishRing 58 = .ok (.iconst 0, 1) := by decide +kernel
theorem dX4_finishRing_59 : decode cX4_finishRing 59 = .ok (.istore_n 1, 1) := by decide +kernel
theorem dX4_finishRing_60 : decode cX4_finishRing 60 = .ok (.iload_n 1, 1) := by decide +kernel
theorem dX4_finishRing_61 : decode cX4_finishRing 61 = .ok (.aload_n 0, 1) := by decide +kernel
theorem dX4_finishRing_62 : decode cX4_finishRing 62 = .ok (.getfield 36, 3) := by decide +kernel
theorem dX4_finishRing_65 : decode cX4_finishRing 65 = .ok (.if_icmp .ge 56, 3) := by decide +kernel
theorem dX4_finishRing_68 : decode cX4_finishRing 68 = .ok (.iconst 0, 1) := by decide +kernel
theorem dX4_finishRing_69 : decode cX4_finishRing 69 = .ok (.istore_n 2, 1) := by decide +kernel
theorem dX4_finishRing_70 : decode cX4_finishRing 70 = .ok (.iload_n 2, 1) := by decide +kernel
theorem dX4_finishRing_71 : decode cX4_finishRing 71 = .ok (.aload_n 0, 1) := by decide +kernel
theorem dX4_finishRing_72 : decode cX4_finishRing 72 = .ok (.getfield 36, 3) := by decide +kernel
theorem dX4_finishRing_75 : decode cX4_finishRing 75 = .ok (.if_icmp .ge 40, 3) := by decide +kernel
theorem dX4_finishRing_78 : decode cX4_finishRing 78 = .ok (.aload_n 0, 1) := by decide +kernel
theorem dX4_finishRing_79 : decode cX4_finishRing 79 = .ok (.iload_n 1, 1) := by decide +kernel
theorem dX4_finishRing_80 : decode cX4_finishRing 80 = .ok (.iload_n 2, 1) := by decide +kernel
theorem dX4_finishRing_81 : decode cX4_finishRing 81 = .ok (.invokevirtual 95, 3) := by decide +kernel
theorem dX4_finishRing_84 : decode cX4_finishRing 84 = .ok (.aload_n 0, 1) := by decide +kernel
theorem dX4_finishRing_85 : decode cX4_finishRing 85 = .ok (.aload_n 0, 1) := by decide +kernel
theorem dX4_finishRing_86 : decode cX4_finishRing 86 = .ok (.getfield 18, 3) := by decide +kernel
theorem dX4_finishRing_89 : decode cX4_finishRing 89 = .ok (.iload_n 1, 1) := by decide +kernel
theorem dX4_finishRing_90 : decode cX4_finishRing 90 = .ok (.laload, 1) := by decide +kernel
theorem dX4_finishRing_91 : decode cX4_finishRing 91 = .ok (.aload_n 0, 1) := by decide +kernel
theorem dX4_finishRing_92 : decode cX4_finishRing 92 = .ok (.getfield 18, 3) := by decide +kernel
theorem dX4_finishRing_95 : decode cX4_finishRing 95 = .ok (.iload_n 2, 1) := by decide +kernel
theorem dX4_finishRing_96 : decode cX4_finishRing 96 = .ok (.laload, 1) := by decide +kernel
theorem dX4_finishRing_97 : decode cX4_finishRing 97 = .ok (.lmul, 1) := by decide +kernel
theorem dX4_finishRing_98 : decode cX4_finishRing 98 = .ok (.bipush 9, 2) := by decide +kernel
theorem dX4_finishRing_100 : decode cX4_finishRing 100 = .ok (.iload_n 1, 1) := by decide +kernel
theorem dX4_finishRing_101 : decode cX4_finishRing 101 = .ok (.imul, 1) := by decide +kernel
theorem dX4_finishRing_102 : decode cX4_finishRing 102 = .ok (.iconst 3, 1) := by decide +kernel
theorem dX4_finishRing_103 : decode cX4_finishRing 103 = .ok (.iload_n 2, 1) := by decide +kernel
theorem dX4_finishRing_104 : decode cX4_finishRing 104 = .ok (.imul, 1) := by decide +kernel
theorem dX4_finishRing_105 : decode cX4_finishRing 105 = .ok (.iadd, 1) := by decide +kernel
theorem dX4_finishRing_106 : decode cX4_finishRing 106 = .ok (.invokevirtual 99, 3) := by decide +kernel
theorem dX4_finishRing_109 : decode cX4_finishRing 109 = .ok (.iinc 2 1, 3) := by decide +kernel
theorem dX4_finishRing_112 : decode cX4_finishRing 112 = .ok (.goto (-42), 3) := by decide +kernel
theorem dX4_finishRing_115 : decode cX4_finishRing 115 = .ok (.iinc 1 1, 3) := by decide +kernel
theorem dX4_finishRing_118 : decode cX4_finishRing 118 = .ok (.goto (-58), 3) := by decide +kernel
theorem dX4_finishRing_121 : decode cX4_finishRing 121 = .ok (.return_, 1) := by decide +kernel
theorem bX4_finishRing_0 {l : Launch} {D : va_G} {aI aL : ClassId} {ad : Nat → Nat} {P : sa_P} {I : sa_I} {J : sa_J} {v14 : Int64}  (f14 : (J 7 1) * (J 7 2) = v14) (k : Sat (EC l D aI aL ad) M_X4_finishRing P 31 [(0, .ref (ad 4))] [.long (((sa_uJ J 4 3 v14) 4 3) * ((sa_uJ J 4 3 v14) 4 3)), .long ((sa_uJ J 4 3 v14) 4 1), .ref (ad 4)] I (sa_uJ J 4 3 v14)) : Sat (EC l D aI aL ad) M_X4_finishRing P 0 [(0, .ref (ad 4))] [] I J := by
  refine s_aload_n 0 dX4_finishRing_0 rfl ?_
  refine s_aload_n 0 dX4_finishRing_1 rfl ?_
  refine g_X4_18 dX4_finishRing_2 rfl ?_
  refine s_iconst (v := 1) dX4_finishRing_5 rfl ?_
  refine s_eqi (y := nI 1) rfl ?_
  refine s_laloadN aJ_C7 (by decide) (by decide) dX4_finishRing_6 ?_
  refine s_aload_n 0 dX4_finishRing_7 rfl ?_
  refine g_X4_18 dX4_finishRing_8 rfl ?_
  refine s_iconst (v := 2) dX4_finishRing_11 rfl ?_
  refine s_eqi (y := nI 2) rfl ?_
  refine s_laloadN aJ_C7 (by decide) (by decide) dX4_finishRing_12 ?_
  refine s_lmul dX4_finishRing_13 ?_
  refine s_eql f14 ?_
  refine p_X4_85 dX4_finishRing_14 rfl ?_
  refine s_aload_n 0 dX4_finishRing_17 rfl ?_
  refine s_aload_n 0 dX4_finishRing_18 rfl ?_
  refine g_X4_42 dX4_finishRing_19 rfl ?_
  refine s_aload_n 0 dX4_finishRing_22 rfl ?_
  refine g_X4_85 dX4_finishRing_23 rfl ?_
  refine s_aload_n 0 dX4_finishRing_26 rfl ?_
  refine g_X4_85 dX4_finishRing_27 rfl ?_
  refine s_lmul dX4_finishRing_30 ?_
  exact k
theorem bX4_finishRing_34 {l : Launch} {D : va_G} {aI aL : ClassId} {ad : Nat → Nat} {P : sa_P} {I : sa_I} {J : sa_J} {s1 : Int64} {v38 : Int32}  (f38 : (0 : Int32) = v38) (k : Sat (EC l D aI aL ad) M_X4_finishRing P 39 [(0, .ref (ad 4)), (1, .int v38)] [] I (sa_uJ J 4 2 s1)) : Sat (EC l D aI aL ad) M_X4_finishRing P 34 [(0, .ref (ad 4))] [.long s1, .ref (ad 4)] I J := by
  refine p_X4_92 dX4_finishRing_34 rfl ?_
  refine s_iconst (v := 0) dX4_finishRing_37 rfl ?_
  refine s_eqi f38 ?_
  refine s_istore_n [(1, .int v38), (0, .ref (ad 4))] dX4_finishRing_38 (Nat.lt_of_lt_of_le (Nat.lt_succ_self _) (Nat.le_of_ble_eq_true rfl)) rfl ?_
  refine s_pick [1, 0] [(0, .ref (ad 4)), (1, .int v38)] rfl ?_; exact k
theorem bX4_finishRing_39 {l : Launch} {D : va_G} {aI aL : ClassId} {ad : Nat → Nat} {P : sa_P} {I : sa_I} {J : sa_J} {x1 : Int32}   (kt : (27 : Int32) ≤ x1 → Sat (EC l D aI aL ad) M_X4_finishRing P 58 [(0, .ref (ad 4))] [] I J) (kf : ¬ (27 : Int32) ≤ x1 → Sat (EC l D aI aL ad) M_X4_finishRing P 45 [(0, .ref (ad 4)), (1, .int x1)] [] I J) : Sat (EC l D aI aL ad) M_X4_finishRing P 39 [(0, .ref (ad 4)), (1, .int x1)] [] I J := by
  refine s_iload_n 1 dX4_finishRing_39 rfl ?_
  refine s_bipush (v := 27) dX4_finishRing_40 rfl ?_
  refine s_icmp_ge (tgt := 58) dX4_finishRing_42 (by decide) (fun c => ?_) (fun c => ?_)
  · refine s_pick [0] [(0, .ref (ad 4))] rfl ?_; exact kt c
  · exact kf c
theorem bX4_finishRing_45 {l : Launch} {D : va_G} {aI aL : ClassId} {ad : Nat → Nat} {P : sa_P} {I : sa_I} {J : sa_J} {x1 : Int32} {j49 : Nat} {v51 : Int64} {v52 : Int32} (e49 : x1 = nI j49) (h51 : j49 < 27) (f51 : (0 : Int64) = v51) (f52 : x1 + 1 = v52) (k : Sat (EC l D aI aL ad) M_X4_finishRing P 39 [(0, .ref (ad 4)), (1, .int v52)] [] I (sa_uJ J 8 j49 v51)) : Sat (EC l D aI aL ad) M_X4_finishRing P 45 [(0, .ref (ad 4)), (1, .int x1)] [] I J := by
  refine s_aload_n 0 dX4_finishRing_45 rfl ?_
  refine g_X4_21 dX4_finishRing_46 rfl ?_
  refine s_iload_n 1 dX4_finishRing_49 rfl ?_
  refine s_eqi e49 ?_
  refine s_lconst (v := 0) dX4_finishRing_50 rfl ?_
  refine s_eql f51 ?_
  refine s_lastoreN aJ_C8 h51 (by decide) dX4_finishRing_51 ?_
  refine s_iinc 1 v52 [(1, .int v52), (0, .ref (ad 4))] dX4_finishRing_52 rfl f52 (Nat.lt_of_lt_of_le (Nat.lt_succ_self _) (Nat.le_of_ble_eq_true rfl)) rfl ?_
  refine s_goto (tgt := 39) dX4_finishRing_55 (by decide) ?_
  refine s_pick [1, 0] [(0, .ref (ad 4)), (1, .int v52)] rfl ?_; exact k
theorem bX4_finishRing_58 {l : Launch} {D : va_G} {aI aL : ClassId} {ad : Nat → Nat} {P : sa_P} {I : sa_I} {J : sa_J} {v59 : Int32}  (f59 : (0 : Int32) = v59) (k : Sat (EC l D aI aL ad) M_X4_finishRing P 60 [(0, .ref (ad 4)), (1, .int v59)] [] I J) : Sat (EC l D aI aL ad) M_X4_finishRing P 58 [(0, .ref (ad 4))] [] I J := by
  refine s_iconst (v := 0) dX4_finishRing_58 rfl ?_
  refine s_eqi f59 ?_
  refine s_istore_n [(1, .int v59), (0, .ref (ad 4))] dX4_finishRing_59 (Nat.lt_of_lt_of_le (Nat.lt_succ_self _) (Nat.le_of_ble_eq_true rfl)) rfl ?_
  refine s_pick [1, 0] [(0, .ref (ad 4)), (1, .int v59)] rfl ?_; exact k
theorem bX4_finishRing_60 {l : Launch} {D : va_G} {aI aL : ClassId} {ad : Nat → Nat} {P : sa_P} {I : sa_I} {J : sa_J} {x1 : Int32}   (kt : I 4 0 ≤ x1 → Sat (EC l D aI aL ad) M_X4_finishRing P 121 [] [] I J) (kf : ¬ I 4 0 ≤ x1 → Sat (EC l D aI aL ad) M_X4_finishRing P 68 [(0, .ref (ad 4)), (1, .int x1)] [] I J) : Sat (EC l D aI aL ad) M_X4_finishRing P 60 [(0, .ref (ad 4)), (1, .int x1)] [] I J := by
  refine s_iload_n 1 dX4_finishRing_60 rfl ?_
  refine s_aload_n 0 dX4_finishRing_61 rfl ?_
  refine g_X4_36 dX4_finishRing_62 rfl ?_
  refine s_icmp_ge (tgt := 121) dX4_finishRing_65 (by decide) (fun c => ?_) (fun c => ?_)
  · refine s_pick [] [] rfl ?_; exact kt c
  · exact kf c
theorem bX4_finishRing_68 {l : Launch} {D : va_G} {aI aL : ClassId} {ad : Nat → Nat} {P : sa_P} {I : sa_I} {J : sa_J} {x1 : Int32} {v69 : Int32}  (f69 : (0 : Int32) = v69) (k : Sat (EC l D aI aL ad) M_X4_finishRing P 70 [(0, .ref (ad 4)), (1, .int x1), (2, .int v69)] [] I J) : Sat (EC l D aI aL ad) M_X4_finishRing P 68 [(0, .ref (ad 4)), (1, .int x1)] [] I J := by
  refine s_iconst (v := 0) dX4_finishRing_68 rfl ?_
  refine s_eqi f69 ?_
  refine s_istore_n [(2, .int v69), (0, .ref (ad 4)), (1, .int x1)] dX4_finishRing_69 (Nat.lt_of_lt_of_le (Nat.lt_succ_self _) (Nat.le_of_ble_eq_true rfl)) rfl ?_
  refine s_pick [1, 2, 0] [(0, .ref (ad 4)), (1, .int x1), (2, .int v69)] rfl ?_; exact k
theorem bX4_finishRing_70 {l : Launch} {D : va_G} {aI aL : ClassId} {ad : Nat → Nat} {P : sa_P} {I : sa_I} {J : sa_J} {x1 : Int32} {x2 : Int32}   (kt : I 4 0 ≤ x2 → Sat (EC l D aI aL ad) M_X4_finishRing P 115 [(0, .ref (ad 4)), (1, .int x1)] [] I J) (kf : ¬ I 4 0 ≤ x2 → Sat (EC l D aI aL ad) M_X4_finishRing P 78 [(0, .ref (ad 4)), (1, .int x1), (2, .int x2)] [] I J) : Sat (EC l D aI aL ad) M_X4_finishRing P 70 [(0, .ref (ad 4)), (1, .int x1), (2, .int x2)] [] I J := by
  refine s_iload_n 2 dX4_finishRing_70 rfl ?_
  refine s_aload_n 0 dX4_finishRing_71 rfl ?_
  refine g_X4_36 dX4_finishRing_72 rfl ?_
  refine s_icmp_ge (tgt := 115) dX4_finishRing_75 (by decide) (fun c => ?_) (fun c => ?_)
  · refine s_pick [0, 1] [(0, .ref (ad 4)), (1, .int x1)] rfl ?_; exact kt c
  · exact kf c
theorem bX4_finishRing_78 {l : Launch} {D : va_G} {aI aL : ClassId} {ad : Nat → Nat} {P : sa_P} {I : sa_I} {J : sa_J} {x1 : Int32} {x2 : Int32}   (k : Sat (EC l D aI aL ad) M_X4_finishRing P 81 [(0, .ref (ad 4)), (1, .int x1), (2, .int x2)] [.int x2, .int x1, .ref (ad 4)] I J) : Sat (EC l D aI aL ad) M_X4_finishRing P 78 [(0, .ref (ad 4)), (1, .int x1), (2, .int x2)] [] I J := by
  refine s_aload_n 0 dX4_finishRing_78 rfl ?_
  refine s_iload_n 1 dX4_finishRing_79 rfl ?_
  refine s_iload_n 2 dX4_finishRing_80 rfl ?_
  exact k
theorem bX4_finishRing_84 {l : Launch} {D : va_G} {aI aL : ClassId} {ad : Nat → Nat} {P : sa_P} {I : sa_I} {J : sa_J} {x1 : Int32} {x2 : Int32} {j89 : Nat} {j95 : Nat} (e89 : x1 = nI j89) (h90 : j89 < 3) (e95 : x2 = nI j95) (h96 : j95 < 3)  (k : Sat (EC l D aI aL ad) M_X4_finishRing P 106 [(0, .ref (ad 4)), (1, .int x1), (2, .int x2)] [.int (((9 : Int32) * x1) + ((3 : Int32) * x2)), .long ((J 7 j89) * (J 7 j95)), .ref (ad 4)] I J) : Sat (EC l D aI aL ad) M_X4_finishRing P 84 [(0, .ref (ad 4)), (1, .int x1), (2, .int x2)] [] I J := by
  refine s_aload_n 0 dX4_finishRing_84 rfl ?_
  refine s_aload_n 0 dX4_finishRing_85 rfl ?_
  refine g_X4_18 dX4_finishRing_86 rfl ?_
  refine s_iload_n 1 dX4_finishRing_89 rfl ?_
  refine s_eqi e89 ?_
  refine s_laloadN aJ_C7 h90 (by decide) dX4_finishRing_90 ?_
  refine s_aload_n 0 dX4_finishRing_91 rfl ?_
  refine g_X4_18 dX4_finishRing_92 rfl ?_
  refine s_iload_n 2 dX4_finishRing_95 rfl ?_
  refine s_eqi e95 ?_
  refine s_laloadN aJ_C7 h96 (by decide) dX4_finishRing_96 ?_
  refine s_lmul dX4_finishRing_97 ?_
  refine s_bipush (v := 9) dX4_finishRing_98 rfl ?_
  refine s_iload_n 1 dX4_finishRing_100 rfl ?_
  refine s_imul dX4_finishRing_101 ?_
  refine s_iconst (v := 3) dX4_finishRing_102 rfl ?_
  refine s_iload_n 2 dX4_finishRing_103 rfl ?_
  refine s_imul dX4_finishRing_104 ?_
  refine s_iadd dX4_finishRing_105 ?_
  exact k
theorem bX4_finishRing_109 {l : Launch} {D : va_G} {aI aL : ClassId} {ad : Nat → Nat} {P : sa_P} {I : sa_I} {J : sa_J} {x1 : Int32} {x2 : Int32} {v109 : Int32}  (f109 : x2 + 1 = v109) (k : Sat (EC l D aI aL ad) M_X4_finishRing P 70 [(0, .ref (ad 4)), (1, .int x1), (2, .int v109)] [] I J) : Sat (EC l D aI aL ad) M_X4_finishRing P 109 [(0, .ref (ad 4)), (1, .int x1), (2, .int x2)] [] I J := by
  refine s_iinc 2 v109 [(2, .int v109), (0, .ref (ad 4)), (1, .int x1)] dX4_finishRing_109 rfl f109 (Nat.lt_of_lt_of_le (Nat.lt_succ_self _) (Nat.le_of_ble_eq_true rfl)) rfl ?_
  refine s_goto (tgt := 70) dX4_finishRing_112 (by decide) ?_
  refine s_pick [1, 2, 0] [(0, .ref (ad 4)), (1, .int x1), (2, .int v109)] rfl ?_; exact k
theorem bX4_finishRing_115 {l : Launch} {D : va_G} {aI aL : ClassId} {ad : Nat → Nat} {P : sa_P} {I : sa_I} {J : sa_J} {x1 : Int32} {v115 : Int32}  (f115 : x1 + 1 = v115) (k : Sat (EC l D aI aL ad) M_X4_finishRing P 60 [(0, .ref (ad 4)), (1, .int v115)] [] I J) : Sat (EC l D aI aL ad) M_X4_finishRing P 115 [(0, .ref (ad 4)), (1, .int x1)] [] I J := by
  refine s_iinc 1 v115 [(1, .int v115), (0, .ref (ad 4))] dX4_finishRing_115 rfl f115 (Nat.lt_of_lt_of_le (Nat.lt_succ_self _) (Nat.le_of_ble_eq_true rfl)) rfl ?_
  refine s_goto (tgt := 60) dX4_finishRing_118 (by decide) ?_
  refine s_pick [1, 0] [(0, .ref (ad 4)), (1, .int v115)] rfl ?_; exact k
theorem bX4_finishRing_121 {l : Launch} {D : va_G} {aI aL : ClassId} {ad : Nat → Nat} {P : sa_P} {I : sa_I} {J : sa_J}    (k : P (none) I J) : Sat (EC l D aI aL ad) M_X4_finishRing P 121 [] [] I J := by
  exact s_vret rfl dX4_finishRing_121 k
/-! X4_multiplyMembers -/
theorem dX4_multiplyMembers_0 : decode cX4_multiplyMembers 0 = .ok (.iconst 0, 1) := by decide +kernel
theorem dX4_multiplyMembers_1 : decode cX4_multiplyMembers 1 = .ok (.istore_n 3, 1) := by decide +kernel
theorem dX4_multiplyMembers_2 : decode cX4_multiplyMembers 2 = .ok (.iload_n 3, 1) := by decide +kernel
theorem dX4_multiplyMembers_3 : decode cX4_multiplyMembers 3 = .ok (.iconst 5, 1) := by decide +kernel
theorem dX4_multiplyMembers_4 : decode cX4_multiplyMembers 4 = .ok (.if_icmp .ge 16, 3) := by decide +kernel
theorem dX4_multiplyMembers_7 : decode cX4_multiplyMembers 7 = .ok (.aload_n 0, 1) := by decide +kernel
theorem dX4_multiplyMembers_8 : decode cX4_multiplyMembers 8 = .ok (.getfield 30, 3) := by decide +kernel
theorem dX4_multiplyMembers_11 : decode cX4_multiplyMembers 11 = .ok (.iload_n 3, 1) := by decide +kernel
theorem dX4_multiplyMembers_12 : decode cX4_multiplyMembers 12 = .ok (.lconst 0, 1) := by decide +kernel
theorem dX4_multiplyMembers_13 : decode cX4_multiplyMembers 13 = .ok (.lastore, 1) := by decide +kernel
theorem dX4_multiplyMembers_14 : decode cX4_multiplyMembers 14 = .ok (.iinc 3 1, 3) := by decide +kernel
theorem dX4_multiplyMembers_17 : decode cX4_multiplyMembers 17 = .ok (.goto (-15), 3) := by decide +kernel
theorem dX4_multiplyMembers_20 : decode cX4_multiplyMembers 20 = .ok (.iconst 0, 1) := by decide +kernel
theorem dX4_multiplyMembers_21 : decode cX4_multiplyMembers 21 = .ok (.istore_n 3, 1) := by decide +kernel
theorem dX4_multiplyMembers_22 : decode cX4_multiplyMembers 22 = .ok (.iload_n 3, 1) := by decide +kernel
theorem dX4_multiplyMembers_23 : decode cX4_multiplyMembers 23 = .ok (.aload_n 0, 1) := by decide +kernel
theorem dX4_multiplyMembers_24 : decode cX4_multiplyMembers 24 = .ok (.getfield 36, 3) := by decide +kernel
theorem dX4_multiplyMembers_27 : decode cX4_multiplyMembers 27 = .ok (.if_icmp .ge 61, 3) := by decide +kernel
theorem dX4_multiplyMembers_30 : decode cX4_multiplyMembers 30 = .ok (.iconst 0, 1) := by decide +kernel
theorem dX4_multiplyMembers_31 : decode cX4_multiplyMembers 31 = .ok (.istore 4, 2) := by decide +kernel
theorem dX4_multiplyMembers_33 : decode cX4_multiplyMembers 33 = .ok (.iload 4, 2) := by decide +kernel
theorem dX4_multiplyMembers_35 : decode cX4_multiplyMembers 35 = .ok (.aload_n 0, 1) := by decide +kernel
theorem dX4_multiplyMembers_36 : decode cX4_multiplyMembers 36 = .ok (.getfield 36, 3) := by decide +kernel
theorem dX4_multiplyMembers_39 : decode cX4_multiplyMembers 39 = .ok (.if_icmp .ge 43, 3) := by decide +kernel
theorem dX4_multiplyMembers_42 : decode cX4_multiplyMembers 42 = .ok (.aload_n 0, 1) := by decide +kernel
theorem dX4_multiplyMembers_43 : decode cX4_multiplyMembers 43 = .ok (.getfield 30, 3) := by decide +kernel
theorem dX4_multiplyMembers_46 : decode cX4_multiplyMembers 46 = .ok (.iload_n 3, 1) := by decide +kernel
theorem dX4_multiplyMembers_47 : decode cX4_multiplyMembers 47 = .ok (.iload 4, 2) := by decide +kernel
theorem dX4_multiplyMembers_49 : decode cX4_multiplyMembers 49 = .ok (.iadd, 1) := by decide +kernel
theorem dX4_multiplyMembers_50 : decode cX4_multiplyMembers 50 = .ok (.dup2, 1) := by decide +kernel
theorem dX4_multiplyMembers_51 : decode cX4_multiplyMembers 51 = .ok (.laload, 1) := by decide +kernel
theorem dX4_multiplyMembers_52 : decode cX4_multiplyMembers 52 = .ok (.aload_n 0, 1) := by decide +kernel
theorem dX4_multiplyMembers_53 : decode cX4_multiplyMembers 53 = .ok (.getfield 15, 3) := by decide +kernel
theorem dX4_multiplyMembers_56 : decode cX4_multiplyMembers 56 = .ok (.iconst 3, 1) := by decide +kernel
theorem dX4_multiplyMembers_57 : decode cX4_multiplyMembers 57 = .ok (.iload_n 1, 1) := by decide +kernel
theorem dX4_multiplyMembers_58 : decode cX4_multiplyMembers 58 = .ok (.imul, 1) := by decide +kernel
theorem dX4_multiplyMembers_59 : decode cX4_multiplyMembers 59 = .ok (.iload_n 3, 1) := by decide +kernel
theorem dX4_multiplyMembers_60 : decode cX4_multiplyMembers 60 = .ok (.iadd, 1) := by decide +kernel
theorem dX4_multiplyMembers_61 : decode cX4_multiplyMembers 61 = .ok (.laload, 1) := by decide +kernel
theorem dX4_multiplyMembers_62 : decode cX4_multiplyMembers 62 = .ok (.aload_n 0, 1) := by decide +kernel
theorem dX4_multiplyMembers_63 : decode cX4_multiplyMembers 63 = .ok (.getfield 15, 3) := by decide +kernel
theorem dX4_multiplyMembers_66 : decode cX4_multiplyMembers 66 = .ok (.iconst 3, 1) := by decide +kernel
theorem dX4_multiplyMembers_67 : decode cX4_multiplyMembers 67 = .ok (.iload_n 2, 1) := by decide +kernel
theorem dX4_multiplyMembers_68 : decode cX4_multiplyMembers 68 = .ok (.imul, 1) := by decide +kernel
theorem dX4_multiplyMembers_69 : decode cX4_multiplyMembers 69 = .ok (.iload 4, 2) := by decide +kernel
theorem dX4_multiplyMembers_71 : decode cX4_multiplyMembers 71 = .ok (.iadd, 1) := by decide +kernel
theorem dX4_multiplyMembers_72 : decode cX4_multiplyMembers 72 = .ok (.laload, 1) := by decide +kernel
theorem dX4_multiplyMembers_73 : decode cX4_multiplyMembers 73 = .ok (.lmul, 1) := by decide +kernel
theorem dX4_multiplyMembers_74 : decode cX4_multiplyMembers 74 = .ok (.ladd, 1) := by decide +kernel
theorem dX4_multiplyMembers_75 : decode cX4_multiplyMembers 75 = .ok (.lastore, 1) := by decide +kernel
theorem dX4_multiplyMembers_76 : decode cX4_multiplyMembers 76 = .ok (.iinc 4 1, 3) := by decide +kernel
theorem dX4_multiplyMembers_79 : decode cX4_multiplyMembers 79 = .ok (.goto (-46), 3) := by decide +kernel
theorem dX4_multiplyMembers_82 : decode cX4_multiplyMembers 82 = .ok (.iinc 3 1, 3) := by decide +kernel
theorem dX4_multiplyMembers_85 : decode cX4_multiplyMembers 85 = .ok (.goto (-63), 3) := by decide +kernel
theorem dX4_multiplyMembers_88 : decode cX4_multiplyMembers 88 = .ok (.iconst 2, 1) := by decide +kernel
theorem dX4_multiplyMembers_89 : decode cX4_multiplyMembers 89 = .ok (.aload_n 0, 1) := by decide +kernel
theorem dX4_multiplyMembers_90 : decode cX4_multiplyMembers 90 = .ok (.getfield 36, 3) := by decide +kernel
theorem dX4_multiplyMembers_93 : decode cX4_multiplyMembers 93 = .ok (.imul, 1) := by decide +kernel
theorem dX4_multiplyMembers_94 : decode cX4_multiplyMembers 94 = .ok (.iconst 2, 1) := by decide +kernel
theorem dX4_multiplyMembers_95 : decode cX4_multiplyMembers 95 = .ok (.isub, 1) := by decide +kernel
theorem dX4_multiplyMembers_96 : decode cX4_multiplyMembers 96 = .ok (.istore_n 3, 1) := by decide +kernel
theorem dX4_multiplyMembers_97 : decode cX4_multiplyMembers 97 = .ok (.iload_n 3, 1) := by decide +kernel
theorem dX4_multiplyMembers_98 : decode cX4_multiplyMembers 98 = .ok (.aload_n 0, 1) := by decide +kernel
theorem dX4_multiplyMembers_99 : decode cX4_multiplyMembers 99 = .ok (.getfield 36, 3) := by decide +kernel
theorem dX4_multiplyMembers_102 : decode cX4_multiplyMembers 102 = .ok (.if_icmp .lt 58, 3) := by decide +kernel
theorem dX4_multiplyMembers_105 : decode cX4_multiplyMembers 105 = .ok (.iconst 0, 1) := by decide +kernel
theorem dX4_multiplyMembers_106 : decode cX4_multiplyMembers 106 = .ok (.istore 4, 2) := by decide +kernel
theorem dX4_multiplyMembers_108 : decode cX4_multiplyMembers 108 = .ok (.iload 4, 2) := by decide +kernel
theorem dX4_multiplyMembers_110 : decode cX4_multiplyMembers 110 = .ok (.aload_n 0, 1) := by decide +kernel
theorem dX4_multiplyMembers_111 : decode cX4_multiplyMembers 111 = .ok (.getfield 36, 3) := by decide +kernel
theorem dX4_multiplyMembers_114 : decode cX4_multiplyMembers 114 = .ok (.if_icmp .ge 40, 3) := by decide +kernel
theorem dX4_multiplyMembers_117 : decode cX4_multiplyMembers 117 = .ok (.aload_n 0, 1) := by decide +kernel
theorem dX4_multiplyMembers_118 : decode cX4_multiplyMembers 118 = .ok (.getfield 30, 3) := by decide +kernel
theorem dX4_multiplyMembers_121 : decode cX4_multiplyMembers 121 = .ok (.iload_n 3, 1) := by decide +kernel
theorem dX4_multiplyMembers_122 : decode cX4_multiplyMembers 122 = .ok (.aload_n 0, 1) := by decide +kernel
theorem dX4_multiplyMembers_123 : decode cX4_multiplyMembers 123 = .ok (.getfield 36, 3) := by decide +kernel
theorem dX4_multiplyMembers_126 : decode cX4_multiplyMembers 126 = .ok (.isub, 1) := by decide +kernel
theorem dX4_multiplyMembers_127 : decode cX4_multiplyMembers 127 = .ok (.iload 4, 2) := by decide +kernel
theorem dX4_multiplyMembers_129 : decode cX4_multiplyMembers 129 = .ok (.iadd, 1) := by decide +kernel
theorem dX4_multiplyMembers_130 : decode cX4_multiplyMembers 130 = .ok (.dup2, 1) := by decide +kernel
theorem dX4_multiplyMembers_131 : decode cX4_multiplyMembers 131 = .ok (.laload, 1) := by decide +kernel
theorem dX4_multiplyMembers_132 : decode cX4_multiplyMembers 132 = .ok (.aload_n 0, 1) := by decide +kernel
theorem dX4_multiplyMembers_133 : decode cX4_multiplyMembers 133 = .ok (.getfield 30, 3) := by decide +kernel
theorem dX4_multiplyMembers_136 : decode cX4_multiplyMembers 136 = .ok (.iload_n 3, 1) := by decide +kernel
theorem dX4_multiplyMembers_137 : decode cX4_multiplyMembers 137 = .ok (.laload, 1) := by decide +kernel
theorem dX4_multiplyMembers_138 : decode cX4_multiplyMembers 138 = .ok (.aload_n 0, 1) := by decide +kernel
theorem dX4_multiplyMembers_139 : decode cX4_multiplyMembers 139 = .ok (.getfield 9, 3) := by decide +kernel
theorem dX4_multiplyMembers_142 : decode cX4_multiplyMembers 142 = .ok (.iload 4, 2) := by decide +kernel
theorem dX4_multiplyMembers_144 : decode cX4_multiplyMembers 144 = .ok (.laload, 1) := by decide +kernel
theorem dX4_multiplyMembers_145 : decode cX4_multiplyMembers 145 = .ok (.lmul, 1) := by decide +kernel
theorem dX4_multiplyMembers_146 : decode cX4_multiplyMembers 146 = .ok (.lsub, 1) := by decide +kernel
theorem dX4_multiplyMembers_147 : decode cX4_multiplyMembers 147 = .ok (.lastore, 1) := by decide +kernel
theorem dX4_multiplyMembers_148 : decode cX4_multiplyMembers 148 = .ok (.iinc 4 1, 3) := by decide +kernel
theorem dX4_multiplyMembers_151 : decode cX4_multiplyMembers 151 = .ok (.goto (-43), 3) := by decide +kernel
theorem dX4_multiplyMembers_154 : decode cX4_multiplyMembers 154 = .ok (.iinc 3 (-1), 3) := by decide +kernel
theorem dX4_multiplyMembers_157 : decode cX4_multiplyMembers 157 = .ok (.goto (-60), 3) := by decide +kernel
theorem dX4_multiplyMembers_160 : decode cX4_multiplyMembers 160 = .ok (.return_, 1) := by decide +kernel
theorem bX4_multiplyMembers_0 {l : Launch} {D : va_G} {aI aL : ClassId} {ad : Nat → Nat} {P : sa_P} {I : sa_I} {J : sa_J} {x1 : Int32} {x2 : Int32} {v1 : Int32}  (f1 : (0 : Int32) = v1) (k : Sat (EC l D aI aL ad) M_X4_multiplyMembers P 2 [(0, .ref (ad 4)), (1, .int x1), (2, .int x2), (3, .int v1)] [] I J) : Sat (EC l D aI aL ad) M_X4_multiplyMembers P 0 [(0, .ref (ad 4)), (1, .int x1), (2, .int x2)] [] I J := by
  refine s_iconst (v := 0) dX4_multiplyMembers_0 rfl ?_
  refine s_eqi f1 ?_
  refine s_istore_n [(3, .int v1), (0, .ref (ad 4)), (1, .int x1), (2, .int x2)] dX4_multiplyMembers_1 (Nat.lt_of_lt_of_le (Nat.lt_succ_self _) (Nat.le_of_ble_eq_true rfl)) rfl ?_
  refine s_pick [1, 2, 3, 0] [(0, .ref (ad 4)), (1, .int x1), (2, .int x2), (3, .int v1)] rfl ?_; exact k
theorem bX4_multiplyMembers_2 {l : Launch} {D : va_G} {aI aL : ClassId} {ad : Nat → Nat} {P : sa_P} {I : sa_I} {J : sa_J} {x1 : Int32} {x2 : Int32} {x3 : Int32}   (kt : (5 : Int32) ≤ x3 → Sat (EC l D aI aL ad) M_X4_multiplyMembers P 20 [(0, .ref (ad 4)), (1, .int x1), (2, .int x2)] [] I J) (kf : ¬ (5 : Int32) ≤ x3 → Sat (EC l D aI aL ad) M_X4_multiplyMembers P 7 [(0, .ref (ad 4)), (1, .int x1), (2, .int x2), (3, .int x3)] [] I J) : Sat (EC l D aI aL ad) M_X4_multiplyMembers P 2 [(0, .ref (ad 4)), (1, .int x1), (2, .int x2), (3, .int x3)] [] I J := by
  refine s_iload_n 3 dX4_multiplyMembers_2 rfl ?_
  refine s_iconst (v := 5) dX4_multiplyMembers_3 rfl ?_
  refine s_icmp_ge (tgt := 20) dX4_multiplyMembers_4 (by decide) (fun c => ?_) (fun c => ?_)
  · refine s_pick [0, 1, 2] [(0, .ref (ad 4)), (1, .int x1), (2, .int x2)] rfl ?_; exact kt c
  · exact kf c
theorem bX4_multiplyMembers_7 {l : Launch} {D : va_G} {aI aL : ClassId} {ad : Nat → Nat} {P : sa_P} {I : sa_I} {J : sa_J} {x1 : Int32} {x2 : Int32} {x3 : Int32} {j11 : Nat} {v13 : Int64} {v14 : Int32} (e11 : x3 = nI j11) (h13 : j11 < 5) (f13 : (0 : Int64) = v13) (f14 : x3 + 1 = v14) (k : Sat (EC l D aI aL ad) M_X4_multiplyMembers P 2 [(0, .ref (ad 4)), (1, .int x1), (2, .int x2), (3, .int v14)] [] I (sa_uJ J 11 j11 v13)) : Sat (EC l D aI aL ad) M_X4_multiplyMembers P 7 [(0, .ref (ad 4)), (1, .int x1), (2, .int x2), (3, .int x3)] [] I J := by
  refine s_aload_n 0 dX4_multiplyMembers_7 rfl ?_
  refine g_X4_30 dX4_multiplyMembers_8 rfl ?_
  refine s_iload_n 3 dX4_multiplyMembers_11 rfl ?_
  refine s_eqi e11 ?_
  refine s_lconst (v := 0) dX4_multiplyMembers_12 rfl ?_
  refine s_eql f13 ?_
  refine s_lastoreN aJ_C11 h13 (by decide) dX4_multiplyMembers_13 ?_
  refine s_iinc 3 v14 [(3, .int v14), (0, .ref (ad 4)), (1, .int x1), (2, .int x2)] dX4_multiplyMembers_14 rfl f14 (Nat.lt_of_lt_of_le (Nat.lt_succ_self _) (Nat.le_of_ble_eq_true rfl)) rfl ?_
  refine s_goto (tgt := 2) dX4_multiplyMembers_17 (by decide) ?_
  refine s_pick [1, 2, 3, 0] [(0, .ref (ad 4)), (1, .int x1), (2, .int x2), (3, .int v14)] rfl ?_; exact k
theorem bX4_multiplyMembers_20 {l : Launch} {D : va_G} {aI aL : ClassId} {ad : Nat → Nat} {P : sa_P} {I : sa_I} {J : sa_J} {x1 : Int32} {x2 : Int32} {v21 : Int32}  (f21 : (0 : Int32) = v21) (k : Sat (EC l D aI aL ad) M_X4_multiplyMembers P 22 [(0, .ref (ad 4)), (1, .int x1), (2, .int x2), (3, .int v21)] [] I J) : Sat (EC l D aI aL ad) M_X4_multiplyMembers P 20 [(0, .ref (ad 4)), (1, .int x1), (2, .int x2)] [] I J := by
  refine s_iconst (v := 0) dX4_multiplyMembers_20 rfl ?_
  refine s_eqi f21 ?_
  refine s_istore_n [(3, .int v21), (0, .ref (ad 4)), (1, .int x1), (2, .int x2)] dX4_multiplyMembers_21 (Nat.lt_of_lt_of_le (Nat.lt_succ_self _) (Nat.le_of_ble_eq_true rfl)) rfl ?_
  refine s_pick [1, 2, 3, 0] [(0, .ref (ad 4)), (1, .int x1), (2, .int x2), (3, .int v21)] rfl ?_; exact k
theorem bX4_multiplyMembers_22 {l : Launch} {D : va_G} {aI aL : ClassId} {ad : Nat → Nat} {P : sa_P} {I : sa_I} {J : sa_J} {x1 : Int32} {x2 : Int32} {x3 : Int32}   (kt : I 4 0 ≤ x3 → Sat (EC l D aI aL ad) M_X4_multiplyMembers P 88 [(0, .ref (ad 4))] [] I J) (kf : ¬ I 4 0 ≤ x3 → Sat (EC l D aI aL ad) M_X4_multiplyMembers P 30 [(0, .ref (ad 4)), (1, .int x1), (2, .int x2), (3, .int x3)] [] I J) : Sat (EC l D aI aL ad) M_X4_multiplyMembers P 22 [(0, .ref (ad 4)), (1, .int x1), (2, .int x2), (3, .int x3)] [] I J := by
  refine s_iload_n 3 dX4_multiplyMembers_22 rfl ?_
  refine s_aload_n 0 dX4_multiplyMembers_23 rfl ?_
  refine g_X4_36 dX4_multiplyMembers_24 rfl ?_
  refine s_icmp_ge (tgt := 88) dX4_multiplyMembers_27 (by decide) (fun c => ?_) (fun c => ?_)
  · refine s_pick [0] [(0, .ref (ad 4))] rfl ?_; exact kt c
  · exact kf c
theorem bX4_multiplyMembers_30 {l : Launch} {D : va_G} {aI aL : ClassId} {ad : Nat → Nat} {P : sa_P} {I : sa_I} {J : sa_J} {x1 : Int32} {x2 : Int32} {x3 : Int32} {v31 : Int32}  (f31 : (0 : Int32) = v31) (k : Sat (EC l D aI aL ad) M_X4_multiplyMembers P 33 [(0, .ref (ad 4)), (1, .int x1), (2, .int x2), (3, .int x3), (4, .int v31)] [] I J) : Sat (EC l D aI aL ad) M_X4_multiplyMembers P 30 [(0, .ref (ad 4)), (1, .int x1), (2, .int x2), (3, .int x3)] [] I J := by
  refine s_iconst (v := 0) dX4_multiplyMembers_30 rfl ?_
  refine s_eqi f31 ?_
  refine s_istore [(4, .int v31), (0, .ref (ad 4)), (1, .int x1), (2, .int x2), (3, .int x3)] dX4_multiplyMembers_31 (Nat.lt_of_lt_of_le (Nat.lt_succ_self _) (Nat.le_of_ble_eq_true rfl)) rfl ?_
  refine s_pick [1, 2, 3, 4, 0] [(0, .ref (ad 4)), (1, .int x1), (2, .int x2), (3, .int x3), (4, .int v31)] rfl ?_; exact k
theorem bX4_multiplyMembers_33 {l : Launch} {D : va_G} {aI aL : ClassId} {ad : Nat → Nat} {P : sa_P} {I : sa_I} {J : sa_J} {x1 : Int32} {x2 : Int32} {x3 : Int32} {x4 : Int32}   (kt : I 4 0 ≤ x4 → Sat (EC l D aI aL ad) M_X4_multiplyMembers P 82 [(0, .ref (ad 4)), (1, .int x1), (2, .int x2), (3, .int x3)] [] I J) (kf : ¬ I 4 0 ≤ x4 → Sat (EC l D aI aL ad) M_X4_multiplyMembers P 42 [(0, .ref (ad 4)), (1, .int x1), (2, .int x2), (3, .int x3), (4, .int x4)] [] I J) : Sat (EC l D aI aL ad) M_X4_multiplyMembers P 33 [(0, .ref (ad 4)), (1, .int x1), (2, .int x2), (3, .int x3), (4, .int x4)] [] I J := by
  refine s_iload 4 dX4_multiplyMembers_33 rfl ?_
  refine s_aload_n 0 dX4_multiplyMembers_35 rfl ?_
  refine g_X4_36 dX4_multiplyMembers_36 rfl ?_
  refine s_icmp_ge (tgt := 82) dX4_multiplyMembers_39 (by decide) (fun c => ?_) (fun c => ?_)
  · refine s_pick [0, 1, 2, 3] [(0, .ref (ad 4)), (1, .int x1), (2, .int x2), (3, .int x3)] rfl ?_; exact kt c
  · exact kf c
theorem bX4_multiplyMembers_42 {l : Launch} {D : va_G} {aI aL : ClassId} {ad : Nat → Nat} {P : sa_P} {I : sa_I} {J : sa_J} {x1 : Int32} {x2 : Int32} {x3 : Int32} {x4 : Int32} {j49 : Nat} {j60 : Nat} {j71 : Nat} {v75 : Int64} {v76 : Int32} (e49 : x3 + x4 = nI j49) (h51 : j49 < 5) (e60 : ((3 : Int32) * x1) + x3 = nI j60) (h61 : j60 < 9) (e71 : ((3 : Int32) * x2) + x4 = nI j71) (h72 : j71 < 9) (h75 : j49 < 5) (f75 : (J 11 j49) + ((J 6 j60) * (J 6 j71)) = v75) (f76 : x4 + 1 = v76) (k : Sat (EC l D aI aL ad) M_X4_multiplyMembers P 33 [(0, .ref (ad 4)), (1, .int x1), (2, .int x2), (3, .int x3), (4, .int v76)] [] I (sa_uJ J 11 j49 v75)) : Sat (EC l D aI aL ad) M_X4_multiplyMembers P 42 [(0, .ref (ad 4)), (1, .int x1), (2, .int x2), (3, .int x3), (4, .int x4)] [] I J := by
  refine s_aload_n 0 dX4_multiplyMembers_42 rfl ?_
  refine g_X4_30 dX4_multiplyMembers_43 rfl ?_
  refine s_iload_n 3 dX4_multiplyMembers_46 rfl ?_
  refine s_iload 4 dX4_multiplyMembers_47 rfl ?_
  refine s_iadd dX4_multiplyMembers_49 ?_
  refine s_eqi e49 ?_
  refine s_dup2_11 dX4_multiplyMembers_50 rfl rfl ?_
  refine s_laloadN aJ_C11 h51 (by decide) dX4_multiplyMembers_51 ?_
  refine s_aload_n 0 dX4_multiplyMembers_52 rfl ?_
  refine g_X4_15 dX4_multiplyMembers_53 rfl ?_
  refine s_iconst (v := 3) dX4_multiplyMembers_56 rfl ?_
  refine s_iload_n 1 dX4_multiplyMembers_57 rfl ?_
  refine s_imul dX4_multiplyMembers_58 ?_
  refine s_iload_n 3 dX4_multiplyMembers_59 rfl ?_
  refine s_iadd dX4_multiplyMembers_60 ?_
  refine s_eqi e60 ?_
  refine s_laloadN aJ_C6 h61 (by decide) dX4_multiplyMembers_61 ?_
  refine s_aload_n 0 dX4_multiplyMembers_62 rfl ?_
  refine g_X4_15 dX4_multiplyMembers_63 rfl ?_
  refine s_iconst (v := 3) dX4_multiplyMembers_66 rfl ?_
  refine s_iload_n 2 dX4_multiplyMembers_67 rfl ?_
  refine s_imul dX4_multiplyMembers_68 ?_
  refine s_iload 4 dX4_multiplyMembers_69 rfl ?_
  refine s_iadd dX4_multiplyMembers_71 ?_
  refine s_eqi e71 ?_
  refine s_laloadN aJ_C6 h72 (by decide) dX4_multiplyMembers_72 ?_
  refine s_lmul dX4_multiplyMembers_73 ?_
  refine s_ladd dX4_multiplyMembers_74 ?_
  refine s_eql f75 ?_
  refine s_lastoreN aJ_C11 h75 (by decide) dX4_multiplyMembers_75 ?_
  refine s_iinc 4 v76 [(4, .int v76), (0, .ref (ad 4)), (1, .int x1), (2, .int x2), (3, .int x3)] dX4_multiplyMembers_76 rfl f76 (Nat.lt_of_lt_of_le (Nat.lt_succ_self _) (Nat.le_of_ble_eq_true rfl)) rfl ?_
  refine s_goto (tgt := 33) dX4_multiplyMembers_79 (by decide) ?_
  refine s_pick [1, 2, 3, 4, 0] [(0, .ref (ad 4)), (1, .int x1), (2, .int x2), (3, .int x3), (4, .int v76)] rfl ?_; exact k
theorem bX4_multiplyMembers_82 {l : Launch} {D : va_G} {aI aL : ClassId} {ad : Nat → Nat} {P : sa_P} {I : sa_I} {J : sa_J} {x1 : Int32} {x2 : Int32} {x3 : Int32} {v82 : Int32}  (f82 : x3 + 1 = v82) (k : Sat (EC l D aI aL ad) M_X4_multiplyMembers P 22 [(0, .ref (ad 4)), (1, .int x1), (2, .int x2), (3, .int v82)] [] I J) : Sat (EC l D aI aL ad) M_X4_multiplyMembers P 82 [(0, .ref (ad 4)), (1, .int x1), (2, .int x2), (3, .int x3)] [] I J := by
  refine s_iinc 3 v82 [(3, .int v82), (0, .ref (ad 4)), (1, .int x1), (2, .int x2)] dX4_multiplyMembers_82 rfl f82 (Nat.lt_of_lt_of_le (Nat.lt_succ_self _) (Nat.le_of_ble_eq_true rfl)) rfl ?_
  refine s_goto (tgt := 22) dX4_multiplyMembers_85 (by decide) ?_
  refine s_pick [1, 2, 3, 0] [(0, .ref (ad 4)), (1, .int x1), (2, .int x2), (3, .int v82)] rfl ?_; exact k
theorem bX4_multiplyMembers_88 {l : Launch} {D : va_G} {aI aL : ClassId} {ad : Nat → Nat} {P : sa_P} {I : sa_I} {J : sa_J} {v96 : Int32}  (f96 : ((2 : Int32) * (I 4 0)) - (2 : Int32) = v96) (k : Sat (EC l D aI aL ad) M_X4_multiplyMembers P 97 [(0, .ref (ad 4)), (3, .int v96)] [] I J) : Sat (EC l D aI aL ad) M_X4_multiplyMembers P 88 [(0, .ref (ad 4))] [] I J := by
  refine s_iconst (v := 2) dX4_multiplyMembers_88 rfl ?_
  refine s_aload_n 0 dX4_multiplyMembers_89 rfl ?_
  refine g_X4_36 dX4_multiplyMembers_90 rfl ?_
  refine s_imul dX4_multiplyMembers_93 ?_
  refine s_iconst (v := 2) dX4_multiplyMembers_94 rfl ?_
  refine s_isub dX4_multiplyMembers_95 ?_
  refine s_eqi f96 ?_
  refine s_istore_n [(3, .int v96), (0, .ref (ad 4))] dX4_multiplyMembers_96 (Nat.lt_of_lt_of_le (Nat.lt_succ_self _) (Nat.le_of_ble_eq_true rfl)) rfl ?_
  refine s_pick [1, 0] [(0, .ref (ad 4)), (3, .int v96)] rfl ?_; exact k
theorem bX4_multiplyMembers_97 {l : Launch} {D : va_G} {aI aL : ClassId} {ad : Nat → Nat} {P : sa_P} {I : sa_I} {J : sa_J} {x3 : Int32}   (kt : x3 < I 4 0 → Sat (EC l D aI aL ad) M_X4_multiplyMembers P 160 [] [] I J) (kf : ¬ x3 < I 4 0 → Sat (EC l D aI aL ad) M_X4_multiplyMembers P 105 [(0, .ref (ad 4)), (3, .int x3)] [] I J) : Sat (EC l D aI aL ad) M_X4_multiplyMembers P 97 [(0, .ref (ad 4)), (3, .int x3)] [] I J := by
  refine s_iload_n 1 dX4_multiplyMembers_97 rfl ?_
  refine s_aload_n 0 dX4_multiplyMembers_98 rfl ?_
  refine g_X4_36 dX4_multiplyMembers_99 rfl ?_
  refine s_icmp_lt (tgt := 160) dX4_multiplyMembers_102 (by decide) (fun c => ?_) (fun c => ?_)
  · refine s_pick [] [] rfl ?_; exact kt c
  · exact kf c
theorem bX4_multiplyMembers_105 {l : Launch} {D : va_G} {aI aL : ClassId} {ad : Nat → Nat} {P : sa_P} {I : sa_I} {J : sa_J} {x3 : Int32} {v106 : Int32}  (f106 : (0 : Int32) = v106) (k : Sat (EC l D aI aL ad) M_X4_multiplyMembers P 108 [(0, .ref (ad 4)), (3, .int x3), (4, .int v106)] [] I J) : Sat (EC l D aI aL ad) M_X4_multiplyMembers P 105 [(0, .ref (ad 4)), (3, .int x3)] [] I J := by
  refine s_iconst (v := 0) dX4_multiplyMembers_105 rfl ?_
  refine s_eqi f106 ?_
  refine s_istore [(4, .int v106), (0, .ref (ad 4)), (3, .int x3)] dX4_multiplyMembers_106 (Nat.lt_of_lt_of_le (Nat.lt_succ_self _) (Nat.le_of_ble_eq_true rfl)) rfl ?_
  refine s_pick [1, 2, 0] [(0, .ref (ad 4)), (3, .int x3), (4, .int v106)] rfl ?_; exact k
theorem bX4_multiplyMembers_108 {l : Launch} {D : va_G} {aI aL : ClassId} {ad : Nat → Nat} {P : sa_P} {I : sa_I} {J : sa_J} {x3 : Int32} {x4 : Int32}   (kt : I 4 0 ≤ x4 → Sat (EC l D aI aL ad) M_X4_multiplyMembers P 154 [(0, .ref (ad 4)), (3, .int x3)] [] I J) (kf : ¬ I 4 0 ≤ x4 → Sat (EC l D aI aL ad) M_X4_multiplyMembers P 117 [(0, .ref (ad 4)), (3, .int x3), (4, .int x4)] [] I J) : Sat (EC l D aI aL ad) M_X4_multiplyMembers P 108 [(0, .ref (ad 4)), (3, .int x3), (4, .int x4)] [] I J := by
  refine s_iload 2 dX4_multiplyMembers_108 rfl ?_
  refine s_aload_n 0 dX4_multiplyMembers_110 rfl ?_
  refine g_X4_36 dX4_multiplyMembers_111 rfl ?_
  refine s_icmp_ge (tgt := 154) dX4_multiplyMembers_114 (by decide) (fun c => ?_) (fun c => ?_)
  · refine s_pick [0, 1] [(0, .ref (ad 4)), (3, .int x3)] rfl ?_; exact kt c
  · exact kf c
theorem bX4_multiplyMembers_117 {l : Launch} {D : va_G} {aI aL : ClassId} {ad : Nat → Nat} {P : sa_P} {I : sa_I} {J : sa_J} {x3 : Int32} {x4 : Int32} {j129 : Nat} {j136 : Nat} {j142 : Nat} {v147 : Int64} {v148 : Int32} (e129 : (x3 - (I 4 0)) + x4 = nI j129) (h131 : j129 < 5) (e136 : x3 = nI j136) (h137 : j136 < 5) (e142 : x4 = nI j142) (h144 : j142 < 3) (h147 : j129 < 5) (f147 : (J 11 j129) - ((J 11 j136) * (J 5 j142)) = v147) (f148 : x4 + 1 = v148) (k : Sat (EC l D aI aL ad) M_X4_multiplyMembers P 108 [(0, .ref (ad 4)), (3, .int x3), (4, .int v148)] [] I (sa_uJ J 11 j129 v147)) : Sat (EC l D aI aL ad) M_X4_multiplyMembers P 117 [(0, .ref (ad 4)), (3, .int x3), (4, .int x4)] [] I J := by
  refine s_aload_n 0 dX4_multiplyMembers_117 rfl ?_
  refine g_X4_30 dX4_multiplyMembers_118 rfl ?_
  refine s_iload_n 1 dX4_multiplyMembers_121 rfl ?_
  refine s_aload_n 0 dX4_multiplyMembers_122 rfl ?_
  refine g_X4_36 dX4_multiplyMembers_123 rfl ?_
  refine s_isub dX4_multiplyMembers_126 ?_
  refine s_iload 2 dX4_multiplyMembers_127 rfl ?_
  refine s_iadd dX4_multiplyMembers_129 ?_
  refine s_eqi e129 ?_
  refine s_dup2_11 dX4_multiplyMembers_130 rfl rfl ?_
  refine s_laloadN aJ_C11 h131 (by decide) dX4_multiplyMembers_131 ?_
  refine s_aload_n 0 dX4_multiplyMembers_132 rfl ?_
  refine g_X4_30 dX4_multiplyMembers_133 rfl ?_
  refine s_iload_n 1 dX4_multiplyMembers_136 rfl ?_
  refine s_eqi e136 ?_
  refine s_laloadN aJ_C11 h137 (by decide) dX4_multiplyMembers_137 ?_
  refine s_aload_n 0 dX4_multiplyMembers_138 rfl ?_
  refine g_X4_9 dX4_multiplyMembers_139 rfl ?_
  refine s_iload 2 dX4_multiplyMembers_142 rfl ?_
  refine s_eqi e142 ?_
  refine s_laloadN aJ_C5 h144 (by decide) dX4_multiplyMembers_144 ?_
  refine s_lmul dX4_multiplyMembers_145 ?_
  refine s_lsub dX4_multiplyMembers_146 ?_
  refine s_eql f147 ?_
  refine s_lastoreN aJ_C11 h147 (by decide) dX4_multiplyMembers_147 ?_
  refine s_iinc 2 v148 [(4, .int v148), (0, .ref (ad 4)), (3, .int x3)] dX4_multiplyMembers_148 rfl f148 (Nat.lt_of_lt_of_le (Nat.lt_succ_self _) (Nat.le_of_ble_eq_true rfl)) rfl ?_
  refine s_goto (tgt := 108) dX4_multiplyMembers_151 (by decide) ?_
  refine s_pick [1, 2, 0] [(0, .ref (ad 4)), (3, .int x3), (4, .int v148)] rfl ?_; exact k
theorem bX4_multiplyMembers_154 {l : Launch} {D : va_G} {aI aL : ClassId} {ad : Nat → Nat} {P : sa_P} {I : sa_I} {J : sa_J} {x3 : Int32} {v154 : Int32}  (f154 : x3 + (-1) = v154) (k : Sat (EC l D aI aL ad) M_X4_multiplyMembers P 97 [(0, .ref (ad 4)), (3, .int v154)] [] I J) : Sat (EC l D aI aL ad) M_X4_multiplyMembers P 154 [(0, .ref (ad 4)), (3, .int x3)] [] I J := by
  refine s_iinc 1 v154 [(3, .int v154), (0, .ref (ad 4))] dX4_multiplyMembers_154 rfl f154 (Nat.lt_of_lt_of_le (Nat.lt_succ_self _) (Nat.le_of_ble_eq_true rfl)) rfl ?_
  refine s_goto (tgt := 97) dX4_multiplyMembers_157 (by decide) ?_
  refine s_pick [1, 0] [(0, .ref (ad 4)), (3, .int v154)] rfl ?_; exact k
theorem bX4_multiplyMembers_160 {l : Launch} {D : va_G} {aI aL : ClassId} {ad : Nat → Nat} {P : sa_P} {I : sa_I} {J : sa_J}    (k : P (none) I J) : Sat (EC l D aI aL ad) M_X4_multiplyMembers P 160 [] [] I J := by
  exact s_vret rfl dX4_multiplyMembers_160 k
/-! X4_tellByBasis -/
theorem dX4_tellByBasis_0 : decode cX4_tellByBasis 0 = .ok (.iconst 0, 1) := by decide +kernel
theorem dX4_tellByBasis_1 : decode cX4_tellByBasis 1 = .ok (.istore 4, 2) := by decide +kernel
theorem dX4_tellByBasis_3 : decode cX4_tellByBasis 3 = .ok (.iload 4, 2) := by decide +kernel
theorem dX4_tellByBasis_5 : decode cX4_tellByBasis 5 = .ok (.aload_n 0, 1) := by decide +kernel
theorem dX4_tellByBasis_6 : decode cX4_tellByBasis 6 = .ok (.getfield 36, 3) := by decide +kernel
theorem dX4_tellByBasis_9 : decode cX4_tellByBasis 9 = .ok (.if_icmp .ge 23, 3) := by decide +kernel
theorem dX4_tellByBasis_12 : decode cX4_tellByBasis 12 = .ok (.aload_n 0, 1) := by decide +kernel
theorem dX4_tellByBasis_13 : decode cX4_tellByBasis 13 = .ok (.getfield 30, 3) := by decide +kernel
theorem dX4_tellByBasis_16 : decode cX4_tellByBasis 16 = .ok (.iload 4, 2) := by decide +kernel
theorem dX4_tellByBasis_18 : decode cX4_tellByBasis 18 = .ok (.dup2, 1) := by decide +kernel
theorem dX4_tellByBasis_19 : decode cX4_tellByBasis 19 = .ok (.laload, 1) := by decide +kernel
theorem dX4_tellByBasis_20 : decode cX4_tellByBasis 20 = .ok (.aload_n 0, 1) := by decide +kernel
theorem dX4_tellByBasis_21 : decode cX4_tellByBasis 21 = .ok (.getfield 85, 3) := by decide +kernel
theorem dX4_tellByBasis_24 : decode cX4_tellByBasis 24 = .ok (.lmul, 1) := by decide +kernel
theorem dX4_tellByBasis_25 : decode cX4_tellByBasis 25 = .ok (.lastore, 1) := by decide +kernel
theorem dX4_tellByBasis_26 : decode cX4_tellByBasis 26 = .ok (.iinc 4 1, 3) := by decide +kernel
theorem dX4_tellByBasis_29 : decode cX4_tellByBasis 29 = .ok (.goto (-26), 3) := by decide +kernel
theorem dX4_tellByBasis_32 : decode cX4_tellByBasis 32 = .ok (.lload_n 1, 1) := by decide +kernel
theorem dX4_tellByBasis_33 : decode cX4_tellByBasis 33 = .ok (.aload_n 0, 1) := by decide +kernel
theorem dX4_tellByBasis_34 : decode cX4_tellByBasis 34 = .ok (.getfield 85, 3) := by decide +kernel
theorem dX4_tellByBasis_37 : decode cX4_tellByBasis 37 = .ok (.lmul, 1) := by decide +kernel
theorem dX4_tellByBasis_38 : decode cX4_tellByBasis 38 = .ok (.lstore 4, 2) := by decide +kernel
theorem dX4_tellByBasis_40 : decode cX4_tellByBasis 40 = .ok (.aload_n 0, 1) := by decide +kernel
theorem dX4_tellByBasis_41 : decode cX4_tellByBasis 41 = .ok (.getfield 36, 3) := by decide +kernel
theorem dX4_tellByBasis_44 : decode cX4_tellByBasis 44 = .ok (.iconst 1, 1) := by decide +kernel
theorem dX4_tellByBasis_45 : decode cX4_tellByBasis 45 = .ok (.isub, 1) := by decide +kernel
theorem dX4_tellByBasis_46 : decode cX4_tellByBasis 46 = .ok (.istore 6, 2) := by decide +kernel
theorem dX4_tellByBasis_48 : decode cX4_tellByBasis 48 = .ok (.iload 6, 2) := by decide +kernel
theorem dX4_tellByBasis_50 : decode cX4_tellByBasis 50 = .ok (.ifCond .lt 96, 3) := by decide +kernel
theorem dX4_tellByBasis_53 : decode cX4_tellByBasis 53 = .ok (.aload_n 0, 1) := by decide +kernel
theorem dX4_tellByBasis_54 : decode cX4_tellByBasis 54 = .ok (.getfield 30, 3) := by decide +kernel
theorem dX4_tellByBasis_57 : decode cX4_tellByBasis 57 = .ok (.iload 6, 2) := by decide +kernel
theorem dX4_tellByBasis_59 : decode cX4_tellByBasis 59 = .ok (.laload, 1) := by decide +kernel
theorem dX4_tellByBasis_60 : decode cX4_tellByBasis 60 = .ok (.aload_n 0, 1) := by decide +kernel
theorem dX4_tellByBasis_61 : decode cX4_tellByBasis 61 = .ok (.getfield 18, 3) := by decide +kernel
theorem dX4_tellByBasis_64 : decode cX4_tellByBasis 64 = .ok (.iload 6, 2) := by decide +kernel
theorem dX4_tellByBasis_66 : decode cX4_tellByBasis 66 = .ok (.laload, 1) := by decide +kernel
theorem dX4_tellByBasis_67 : decode cX4_tellByBasis 67 = .ok (.lmul, 1) := by decide +kernel
theorem dX4_tellByBasis_68 : decode cX4_tellByBasis 68 = .ok (.lload 4, 2) := by decide +kernel
theorem dX4_tellByBasis_70 : decode cX4_tellByBasis 70 = .ok (.invokestatic 88, 3) := by decide +kernel
theorem dX4_tellByBasis_73 : decode cX4_tellByBasis 73 = .ok (.lstore 7, 2) := by decide +kernel
theorem dX4_tellByBasis_75 : decode cX4_tellByBasis 75 = .ok (.aload_n 0, 1) := by decide +kernel
theorem dX4_tellByBasis_76 : decode cX4_tellByBasis 76 = .ok (.getfield 21, 3) := by decide +kernel
theorem dX4_tellByBasis_79 : decode cX4_tellByBasis 79 = .ok (.iload_n 3, 1) := by decide +kernel
theorem dX4_tellByBasis_80 : decode cX4_tellByBasis 80 = .ok (.iload 6, 2) := by decide +kernel
theorem dX4_tellByBasis_82 : decode cX4_tellByBasis 82 = .ok (.iadd, 1) := by decide +kernel
theorem dX4_tellByBasis_83 : decode cX4_tellByBasis 83 = .ok (.lload 7, 2) := by decide +kernel
theorem dX4_tellByBasis_85 : decode cX4_tellByBasis 85 = .ok (.lastore, 1) := by decide +kernel
theorem dX4_tellByBasis_86 : decode cX4_tellByBasis 86 = .ok (.iconst 0, 1) := by decide +kernel
theorem dX4_tellByBasis_87 : decode cX4_tellByBasis 87 = .ok (.istore 9, 2) := by decide +kernel
theorem dX4_tellByBasis_89 : decode cX4_tellByBasis 89 = .ok (.iload 9, 2) := by decide +kernel
theorem dX4_tellByBasis_91 : decode cX4_tellByBasis 91 = .ok (.iload 6, 2) := by decide +kernel
theorem dX4_tellByBasis_93 : decode cX4_tellByBasis 93 = .ok (.if_icmp .gt 47, 3) := by decide +kernel
theorem dX4_tellByBasis_96 : decode cX4_tellByBasis 96 = .ok (.aload_n 0, 1) := by decide +kernel
theorem dX4_tellByBasis_97 : decode cX4_tellByBasis 97 = .ok (.getfield 30, 3) := by decide +kernel
theorem dX4_tellByBasis_100 : decode cX4_tellByBasis 100 = .ok (.iload 9, 2) := by decide +kernel
theorem dX4_tellByBasis_102 : decode cX4_tellByBasis 102 = .ok (.dup2, 1) := by decide +kernel
theorem dX4_tellByBasis_103 : decode cX4_tellByBasis 103 = .ok (.laload, 1) := by decide +kernel
theorem dX4_tellByBasis_104 : decode cX4_tellByBasis 104 = .ok (.lload 7, 2) := by decide +kernel
theorem dX4_tellByBasis_106 : decode cX4_tellByBasis 106 = .ok (.aload_n 0, 1) := by decide +kernel
theorem dX4_tellByBasis_107 : decode cX4_tellByBasis 107 = .ok (.getfield 15, 3) := by decide +kernel
theorem dX4_tellByBasis_110 : decode cX4_tellByBasis 110 = .ok (.iconst 3, 1) := by decide +kernel
theorem dX4_tellByBasis_111 : decode cX4_tellByBasis 111 = .ok (.iload 6, 2) := by decide +kernel
theorem dX4_tellByBasis_113 : decode cX4_tellByBasis 113 = .ok (.imul, 1) := by decide +kernel
theorem dX4_tellByBasis_114 : decode cX4_tellByBasis 114 = .ok (.iload 9, 2) := by decide +kernel
theorem dX4_tellByBasis_116 : decode cX4_tellByBasis 116 = .ok (.iadd, 1) := by decide +kernel
theorem dX4_tellByBasis_117 : decode cX4_tellByBasis 117 = .ok (.laload, 1) := by decide +kernel
theorem dX4_tellByBasis_118 : decode cX4_tellByBasis 118 = .ok (.lmul, 1) := by decide +kernel
theorem dX4_tellByBasis_119 : decode cX4_tellByBasis 119 = .ok (.lload 4, 2) := by decide +kernel
theorem dX4_tellByBasis_121 : decode cX4_tellByBasis 121 = .ok (.aload_n 0, 1) := by decide +kernel
theorem dX4_tellByBasis_122 : decode cX4_tellByBasis 122 = .ok (.getfield 18, 3) := by decide +kernel
theorem dX4_tellByBasis_125 : decode cX4_tellByBasis 125 = .ok (.iload 6, 2) := by decide +kernel
theorem dX4_tellByBasis_127 : decode cX4_tellByBasis 127 = .ok (.laload, 1) := by decide +kernel
theorem dX4_tellByBasis_128 : decode cX4_tellByBasis 128 = .ok (.invokestatic 88, 3) := by decide +kernel
theorem dX4_tellByBasis_131 : decode cX4_tellByBasis 131 = .ok (.lmul, 1) := by decide +kernel
theorem dX4_tellByBasis_132 : decode cX4_tellByBasis 132 = .ok (.lsub, 1) := by decide +kernel
theorem dX4_tellByBasis_133 : decode cX4_tellByBasis 133 = .ok (.lastore, 1) := by decide +kernel
theorem dX4_tellByBasis_134 : decode cX4_tellByBasis 134 = .ok (.iinc 9 1, 3) := by decide +kernel
theorem dX4_tellByBasis_137 : decode cX4_tellByBasis 137 = .ok (.goto (-48), 3) := by decide +kernel
theorem dX4_tellByBasis_140 : decode cX4_tellByBasis 140 = .ok (.iinc 6 (-1), 3) := by decide +kernel
theorem dX4_tellByBasis_143 : decode cX4_tellByBasis 143 = .ok (.goto (-95), 3) := by decide +kernel
theorem dX4_tellByBasis_146 : decode cX4_tellByBasis 146 = .ok (.return_, 1) := by decide +kernel
theorem bX4_tellByBasis_0 {l : Launch} {D : va_G} {aI aL : ClassId} {ad : Nat → Nat} {P : sa_P} {I : sa_I} {J : sa_J} {x1 : Int64} {x3 : Int32} {v1 : Int32}  (f1 : (0 : Int32) = v1) (k : Sat (EC l D aI aL ad) M_X4_tellByBasis P 3 [(0, .ref (ad 4)), (1, .long x1), (3, .int x3), (4, .int v1)] [] I J) : Sat (EC l D aI aL ad) M_X4_tellByBasis P 0 [(0, .ref (ad 4)), (1, .long x1), (3, .int x3)] [] I J := by
  refine s_iconst (v := 0) dX4_tellByBasis_0 rfl ?_
  refine s_eqi f1 ?_
  refine s_istore [(4, .int v1), (0, .ref (ad 4)), (1, .long x1), (3, .int x3)] dX4_tellByBasis_1 (Nat.lt_of_lt_of_le (Nat.lt_succ_self _) (Nat.le_of_ble_eq_true rfl)) rfl ?_
  refine s_pick [1, 2, 3, 0] [(0, .ref (ad 4)), (1, .long x1), (3, .int x3), (4, .int v1)] rfl ?_; exact k
theorem bX4_tellByBasis_3 {l : Launch} {D : va_G} {aI aL : ClassId} {ad : Nat → Nat} {P : sa_P} {I : sa_I} {J : sa_J} {x1 : Int64} {x3 : Int32} {x4 : Int32}   (kt : I 4 0 ≤ x4 → Sat (EC l D aI aL ad) M_X4_tellByBasis P 32 [(0, .ref (ad 4)), (1, .long x1), (3, .int x3)] [] I J) (kf : ¬ I 4 0 ≤ x4 → Sat (EC l D aI aL ad) M_X4_tellByBasis P 12 [(0, .ref (ad 4)), (1, .long x1), (3, .int x3), (4, .int x4)] [] I J) : Sat (EC l D aI aL ad) M_X4_tellByBasis P 3 [(0, .ref (ad 4)), (1, .long x1), (3, .int x3), (4, .int x4)] [] I J := by
  refine s_iload 3 dX4_tellByBasis_3 rfl ?_
  refine s_aload_n 0 dX4_tellByBasis_5 rfl ?_
  refine g_X4_36 dX4_tellByBasis_6 rfl ?_
  refine s_icmp_ge (tgt := 32) dX4_tellByBasis_9 (by decide) (fun c => ?_) (fun c => ?_)
  · refine s_pick [0, 1, 2] [(0, .ref (ad 4)), (1, .long x1), (3, .int x3)] rfl ?_; exact kt c
  · exact kf c
theorem bX4_tellByBasis_12 {l : Launch} {D : va_G} {aI aL : ClassId} {ad : Nat → Nat} {P : sa_P} {I : sa_I} {J : sa_J} {x1 : Int64} {x3 : Int32} {x4 : Int32} {j16 : Nat} {v25 : Int64} {v26 : Int32} (e16 : x4 = nI j16) (h19 : j16 < 5) (h25 : j16 < 5) (f25 : (J 11 j16) * (J 4 3) = v25) (f26 : x4 + 1 = v26) (k : Sat (EC l D aI aL ad) M_X4_tellByBasis P 3 [(0, .ref (ad 4)), (1, .long x1), (3, .int x3), (4, .int v26)] [] I (sa_uJ J 11 j16 v25)) : Sat (EC l D aI aL ad) M_X4_tellByBasis P 12 [(0, .ref (ad 4)), (1, .long x1), (3, .int x3), (4, .int x4)] [] I J := by
  refine s_aload_n 0 dX4_tellByBasis_12 rfl ?_
  refine g_X4_30 dX4_tellByBasis_13 rfl ?_
  refine s_iload 3 dX4_tellByBasis_16 rfl ?_
  refine s_eqi e16 ?_
  refine s_dup2_11 dX4_tellByBasis_18 rfl rfl ?_
  refine s_laloadN aJ_C11 h19 (by decide) dX4_tellByBasis_19 ?_
  refine s_aload_n 0 dX4_tellByBasis_20 rfl ?_
  refine g_X4_85 dX4_tellByBasis_21 rfl ?_
  refine s_lmul dX4_tellByBasis_24 ?_
  refine s_eql f25 ?_
  refine s_lastoreN aJ_C11 h25 (by decide) dX4_tellByBasis_25 ?_
  refine s_iinc 3 v26 [(4, .int v26), (0, .ref (ad 4)), (1, .long x1), (3, .int x3)] dX4_tellByBasis_26 rfl f26 (Nat.lt_of_lt_of_le (Nat.lt_succ_self _) (Nat.le_of_ble_eq_true rfl)) rfl ?_
  refine s_goto (tgt := 3) dX4_tellByBasis_29 (by decide) ?_
  refine s_pick [1, 2, 3, 0] [(0, .ref (ad 4)), (1, .long x1), (3, .int x3), (4, .int v26)] rfl ?_; exact k
theorem bX4_tellByBasis_32 {l : Launch} {D : va_G} {aI aL : ClassId} {ad : Nat → Nat} {P : sa_P} {I : sa_I} {J : sa_J} {x1 : Int64} {x3 : Int32} {v38 : Int64} {v46 : Int32}  (f38 : x1 * (J 4 3) = v38) (f46 : (I 4 0) - (1 : Int32) = v46) (k : Sat (EC l D aI aL ad) M_X4_tellByBasis P 48 [(0, .ref (ad 4)), (3, .int x3), (4, .long v38), (6, .int v46)] [] I J) : Sat (EC l D aI aL ad) M_X4_tellByBasis P 32 [(0, .ref (ad 4)), (1, .long x1), (3, .int x3)] [] I J := by
  refine s_lload_n 1 dX4_tellByBasis_32 rfl ?_
  refine s_aload_n 0 dX4_tellByBasis_33 rfl ?_
  refine g_X4_85 dX4_tellByBasis_34 rfl ?_
  refine s_lmul dX4_tellByBasis_37 ?_
  refine s_eql f38 ?_
  refine s_lstore [(4, .long v38), (0, .ref (ad 4)), (1, .long x1), (3, .int x3)] dX4_tellByBasis_38 (Nat.lt_of_lt_of_le (Nat.lt_succ_self _) (Nat.le_of_ble_eq_true rfl)) rfl ?_
  refine s_aload_n 1 dX4_tellByBasis_40 rfl ?_
  refine g_X4_36 dX4_tellByBasis_41 rfl ?_
  refine s_iconst (v := 1) dX4_tellByBasis_44 rfl ?_
  refine s_isub dX4_tellByBasis_45 ?_
  refine s_eqi f46 ?_
  refine s_istore [(6, .int v46), (4, .long v38), (0, .ref (ad 4)), (1, .long x1), (3, .int x3)] dX4_tellByBasis_46 (Nat.lt_of_lt_of_le (Nat.lt_succ_self _) (Nat.le_of_ble_eq_true rfl)) rfl ?_
  refine s_pick [2, 4, 1, 0] [(0, .ref (ad 4)), (3, .int x3), (4, .long v38), (6, .int v46)] rfl ?_; exact k
theorem bX4_tellByBasis_48 {l : Launch} {D : va_G} {aI aL : ClassId} {ad : Nat → Nat} {P : sa_P} {I : sa_I} {J : sa_J} {x3 : Int32} {x4 : Int64} {x6 : Int32}   (kt : x6 < 0 → Sat (EC l D aI aL ad) M_X4_tellByBasis P 146 [] [] I J) (kf : ¬ x6 < 0 → Sat (EC l D aI aL ad) M_X4_tellByBasis P 53 [(0, .ref (ad 4)), (3, .int x3), (4, .long x4), (6, .int x6)] [] I J) : Sat (EC l D aI aL ad) M_X4_tellByBasis P 48 [(0, .ref (ad 4)), (3, .int x3), (4, .long x4), (6, .int x6)] [] I J := by
  refine s_iload 3 dX4_tellByBasis_48 rfl ?_
  refine s_if_lt (tgt := 146) dX4_tellByBasis_50 (by decide) (fun c => ?_) (fun c => ?_)
  · refine s_pick [] [] rfl ?_; exact kt c
  · exact kf c
theorem bX4_tellByBasis_53 {l : Launch} {D : va_G} {aI aL : ClassId} {ad : Nat → Nat} {P : sa_P} {I : sa_I} {J : sa_J} {x3 : Int32} {x4 : Int64} {x6 : Int32} {j57 : Nat} {j64 : Nat} (e57 : x6 = nI j57) (h59 : j57 < 5) (e64 : x6 = nI j64) (h66 : j64 < 3)  (k : Sat (EC l D aI aL ad) M_X4_tellByBasis P 70 [(0, .ref (ad 4)), (3, .int x3), (4, .long x4), (6, .int x6)] [.long x4, .long ((J 11 j57) * (J 7 j64))] I J) : Sat (EC l D aI aL ad) M_X4_tellByBasis P 53 [(0, .ref (ad 4)), (3, .int x3), (4, .long x4), (6, .int x6)] [] I J := by
  refine s_aload_n 0 dX4_tellByBasis_53 rfl ?_
  refine g_X4_30 dX4_tellByBasis_54 rfl ?_
  refine s_iload 3 dX4_tellByBasis_57 rfl ?_
  refine s_eqi e57 ?_
  refine s_laloadN aJ_C11 h59 (by decide) dX4_tellByBasis_59 ?_
  refine s_aload_n 0 dX4_tellByBasis_60 rfl ?_
  refine g_X4_18 dX4_tellByBasis_61 rfl ?_
  refine s_iload 3 dX4_tellByBasis_64 rfl ?_
  refine s_eqi e64 ?_
  refine s_laloadN aJ_C7 h66 (by decide) dX4_tellByBasis_66 ?_
  refine s_lmul dX4_tellByBasis_67 ?_
  refine s_lload 2 dX4_tellByBasis_68 rfl ?_
  exact k
theorem bX4_tellByBasis_73 {l : Launch} {D : va_G} {aI aL : ClassId} {ad : Nat → Nat} {P : sa_P} {I : sa_I} {J : sa_J} {x3 : Int32} {x4 : Int64} {x6 : Int32} {s0 : Int64} {j82 : Nat} {v87 : Int32} (e82 : x3 + x6 = nI j82) (h85 : j82 < 27) (f87 : (0 : Int32) = v87) (k : Sat (EC l D aI aL ad) M_X4_tellByBasis P 89 [(0, .ref (ad 4)), (3, .int x3), (4, .long x4), (6, .int x6), (7, .long s0), (9, .int v87)] [] I (sa_uJ J 8 j82 s0)) : Sat (EC l D aI aL ad) M_X4_tellByBasis P 73 [(0, .ref (ad 4)), (3, .int x3), (4, .long x4), (6, .int x6)] [.long s0] I J := by
  refine s_lstore [(7, .long s0), (0, .ref (ad 4)), (3, .int x3), (4, .long x4), (6, .int x6)] dX4_tellByBasis_73 (Nat.lt_of_lt_of_le (Nat.lt_succ_self _) (Nat.le_of_ble_eq_true rfl)) rfl ?_
  refine s_aload_n 1 dX4_tellByBasis_75 rfl ?_
  refine g_X4_21 dX4_tellByBasis_76 rfl ?_
  refine s_iload_n 2 dX4_tellByBasis_79 rfl ?_
  refine s_iload 4 dX4_tellByBasis_80 rfl ?_
  refine s_iadd dX4_tellByBasis_82 ?_
  refine s_eqi e82 ?_
  refine s_lload 0 dX4_tellByBasis_83 rfl ?_
  refine s_lastoreN aJ_C8 h85 (by decide) dX4_tellByBasis_85 ?_
  refine s_iconst (v := 0) dX4_tellByBasis_86 rfl ?_
  refine s_eqi f87 ?_
  refine s_istore [(9, .int v87), (7, .long s0), (0, .ref (ad 4)), (3, .int x3), (4, .long x4), (6, .int x6)] dX4_tellByBasis_87 (Nat.lt_of_lt_of_le (Nat.lt_succ_self _) (Nat.le_of_ble_eq_true rfl)) rfl ?_
  refine s_pick [2, 3, 4, 5, 1, 0] [(0, .ref (ad 4)), (3, .int x3), (4, .long x4), (6, .int x6), (7, .long s0), (9, .int v87)] rfl ?_; exact k
theorem bX4_tellByBasis_89 {l : Launch} {D : va_G} {aI aL : ClassId} {ad : Nat → Nat} {P : sa_P} {I : sa_I} {J : sa_J} {x3 : Int32} {x4 : Int64} {x6 : Int32} {x7 : Int64} {x9 : Int32}   (kt : x6 < x9 → Sat (EC l D aI aL ad) M_X4_tellByBasis P 140 [(0, .ref (ad 4)), (3, .int x3), (4, .long x4), (6, .int x6)] [] I J) (kf : ¬ x6 < x9 → Sat (EC l D aI aL ad) M_X4_tellByBasis P 96 [(0, .ref (ad 4)), (3, .int x3), (4, .long x4), (6, .int x6), (7, .long x7), (9, .int x9)] [] I J) : Sat (EC l D aI aL ad) M_X4_tellByBasis P 89 [(0, .ref (ad 4)), (3, .int x3), (4, .long x4), (6, .int x6), (7, .long x7), (9, .int x9)] [] I J := by
  refine s_iload 5 dX4_tellByBasis_89 rfl ?_
  refine s_iload 3 dX4_tellByBasis_91 rfl ?_
  refine s_icmp_gt (tgt := 140) dX4_tellByBasis_93 (by decide) (fun c => ?_) (fun c => ?_)
  · refine s_pick [0, 1, 2, 3] [(0, .ref (ad 4)), (3, .int x3), (4, .long x4), (6, .int x6)] rfl ?_; exact kt c
  · exact kf c
theorem bX4_tellByBasis_96 {l : Launch} {D : va_G} {aI aL : ClassId} {ad : Nat → Nat} {P : sa_P} {I : sa_I} {J : sa_J} {x3 : Int32} {x4 : Int64} {x6 : Int32} {x7 : Int64} {x9 : Int32} {j100 : Nat} {j116 : Nat} {j125 : Nat} (e100 : x9 = nI j100) (h103 : j100 < 5) (e116 : ((3 : Int32) * x6) + x9 = nI j116) (h117 : j116 < 9) (e125 : x6 = nI j125) (h127 : j125 < 3)  (k : Sat (EC l D aI aL ad) M_X4_tellByBasis P 128 [(0, .ref (ad 4)), (3, .int x3), (4, .long x4), (6, .int x6), (7, .long x7), (9, .int x9)] [.long (J 7 j125), .long x4, .long (x7 * (J 6 j116)), .long (J 11 j100), .int (nI j100), .ref (ad 11)] I J) : Sat (EC l D aI aL ad) M_X4_tellByBasis P 96 [(0, .ref (ad 4)), (3, .int x3), (4, .long x4), (6, .int x6), (7, .long x7), (9, .int x9)] [] I J := by
  refine s_aload_n 0 dX4_tellByBasis_96 rfl ?_
  refine g_X4_30 dX4_tellByBasis_97 rfl ?_
  refine s_iload 5 dX4_tellByBasis_100 rfl ?_
  refine s_eqi e100 ?_
  refine s_dup2_11 dX4_tellByBasis_102 rfl rfl ?_
  refine s_laloadN aJ_C11 h103 (by decide) dX4_tellByBasis_103 ?_
  refine s_lload 4 dX4_tellByBasis_104 rfl ?_
  refine s_aload_n 0 dX4_tellByBasis_106 rfl ?_
  refine g_X4_15 dX4_tellByBasis_107 rfl ?_
  refine s_iconst (v := 3) dX4_tellByBasis_110 rfl ?_
  refine s_iload 3 dX4_tellByBasis_111 rfl ?_
  refine s_imul dX4_tellByBasis_113 ?_
  refine s_iload 5 dX4_tellByBasis_114 rfl ?_
  refine s_iadd dX4_tellByBasis_116 ?_
  refine s_eqi e116 ?_
  refine s_laloadN aJ_C6 h117 (by decide) dX4_tellByBasis_117 ?_
  refine s_lmul dX4_tellByBasis_118 ?_
  refine s_lload 2 dX4_tellByBasis_119 rfl ?_
  refine s_aload_n 0 dX4_tellByBasis_121 rfl ?_
  refine g_X4_18 dX4_tellByBasis_122 rfl ?_
  refine s_iload 3 dX4_tellByBasis_125 rfl ?_
  refine s_eqi e125 ?_
  refine s_laloadN aJ_C7 h127 (by decide) dX4_tellByBasis_127 ?_
  exact k
theorem bX4_tellByBasis_131 {l : Launch} {D : va_G} {aI aL : ClassId} {ad : Nat → Nat} {P : sa_P} {I : sa_I} {J : sa_J} {x3 : Int32} {x4 : Int64} {x6 : Int32} {x7 : Int64} {x9 : Int32} {s1 : Nat} {s2 : Int64} {s3 : Int64} {s4 : Int64} {v133 : Int64} {v134 : Int32} (h133 : s1 < 5) (f133 : s2 - (s3 * s4) = v133) (f134 : x9 + 1 = v134) (k : Sat (EC l D aI aL ad) M_X4_tellByBasis P 89 [(0, .ref (ad 4)), (3, .int x3), (4, .long x4), (6, .int x6), (7, .long x7), (9, .int v134)] [] I (sa_uJ J 11 s1 v133)) : Sat (EC l D aI aL ad) M_X4_tellByBasis P 131 [(0, .ref (ad 4)), (3, .int x3), (4, .long x4), (6, .int x6), (7, .long x7), (9, .int x9)] [.long s4, .long s3, .long s2, .int (nI s1), .ref (ad 11)] I J := by
  refine s_lmul dX4_tellByBasis_131 ?_
  refine s_lsub dX4_tellByBasis_132 ?_
  refine s_eql f133 ?_
  refine s_lastoreN aJ_C11 h133 (by decide) dX4_tellByBasis_133 ?_
  refine s_iinc 5 v134 [(9, .int v134), (0, .ref (ad 4)), (3, .int x3), (4, .long x4), (6, .int x6), (7, .long x7)] dX4_tellByBasis_134 rfl f134 (Nat.lt_of_lt_of_le (Nat.lt_succ_self _) (Nat.le_of_ble_eq_true rfl)) rfl ?_
  refine s_goto (tgt := 89) dX4_tellByBasis_137 (by decide) ?_
  refine s_pick [1, 2, 3, 4, 5, 0] [(0, .ref (ad 4)), (3, .int x3), (4, .long x4), (6, .int x6), (7, .long x7), (9, .int v134)] rfl ?_; exact k
theorem bX4_tellByBasis_140 {l : Launch} {D : va_G} {aI aL : ClassId} {ad : Nat → Nat} {P : sa_P} {I : sa_I} {J : sa_J} {x3 : Int32} {x4 : Int64} {x6 : Int32} {v140 : Int32}  (f140 : x6 + (-1) = v140) (k : Sat (EC l D aI aL ad) M_X4_tellByBasis P 48 [(0, .ref (ad 4)), (3, .int x3), (4, .long x4), (6, .int v140)] [] I J) : Sat (EC l D aI aL ad) M_X4_tellByBasis P 140 [(0, .ref (ad 4)), (3, .int x3), (4, .long x4), (6, .int x6)] [] I J := by
  refine s_iinc 3 v140 [(6, .int v140), (0, .ref (ad 4)), (3, .int x3), (4, .long x4)] dX4_tellByBasis_140 rfl f140 (Nat.lt_of_lt_of_le (Nat.lt_succ_self _) (Nat.le_of_ble_eq_true rfl)) rfl ?_
  refine s_goto (tgt := 48) dX4_tellByBasis_143 (by decide) ?_
  refine s_pick [1, 2, 3, 0] [(0, .ref (ad 4)), (3, .int x3), (4, .long x4), (6, .int v140)] rfl ?_; exact k
theorem bX4_tellByBasis_146 {l : Launch} {D : va_G} {aI aL : ClassId} {ad : Nat → Nat} {P : sa_P} {I : sa_I} {J : sa_J}    (k : P (none) I J) : Sat (EC l D aI aL ad) M_X4_tellByBasis P 146 [] [] I J := by
  exact s_vret rfl dX4_tellByBasis_146 k
/-! X4_multiply -/
theorem dX4_multiply_0 : decode cX4_multiply 0 = .ok (.iconst 0, 1) := by decide +kernel
theorem dX4_multiply_1 : decode cX4_multiply 1 = .ok (.istore 5, 2) := by decide +kernel
theorem dX4_multiply_3 : decode cX4_multiply 3 = .ok (.iload 5, 2) := by decide +kernel
theorem dX4_multiply_5 : decode cX4_multiply 5 = .ok (.iconst 3, 1) := by decide +kernel
theorem dX4_multiply_6 : decode cX4_multiply 6 = .ok (.if_icmp .ge 17, 3) := by decide +kernel
theorem dX4_multiply_9 : decode cX4_multiply 9 = .ok (.aload_n 0, 1) := by decide +kernel
theorem dX4_multiply_10 : decode cX4_multiply 10 = .ok (.getfield 24, 3) := by decide +kernel
theorem dX4_multiply_13 : decode cX4_multiply 13 = .ok (.iload 5, 2) := by decide +kernel
theorem dX4_multiply_15 : decode cX4_multiply 15 = .ok (.lconst 0, 1) := by decide +kernel
theorem dX4_multiply_16 : decode cX4_multiply 16 = .ok (.lastore, 1) := by decide +kernel
theorem dX4_multiply_17 : decode cX4_multiply 17 = .ok (.iinc 5 1, 3) := by decide +kernel
theorem dX4_multiply_20 : decode cX4_multiply 20 = .ok (.goto (-17), 3) := by decide +kernel
theorem dX4_multiply_23 : decode cX4_multiply 23 = .ok (.iconst 0, 1) := by decide +kernel
theorem dX4_multiply_24 : decode cX4_multiply 24 = .ok (.istore 5, 2) := by decide +kernel
theorem dX4_multiply_26 : decode cX4_multiply 26 = .ok (.iload 5, 2) := by decide +kernel
theorem dX4_multiply_28 : decode cX4_multiply 28 = .ok (.aload_n 0, 1) := by decide +kernel
theorem dX4_multiply_29 : decode cX4_multiply 29 = .ok (.getfield 36, 3) := by decide +kernel
theorem dX4_multiply_32 : decode cX4_multiply 32 = .ok (.if_icmp .ge 92, 3) := by decide +kernel
theorem dX4_multiply_35 : decode cX4_multiply 35 = .ok (.iconst 0, 1) := by decide +kernel
theorem dX4_multiply_36 : decode cX4_multiply 36 = .ok (.istore 6, 2) := by decide +kernel
theorem dX4_multiply_38 : decode cX4_multiply 38 = .ok (.iload 6, 2) := by decide +kernel
theorem dX4_multiply_40 : decode cX4_multiply 40 = .ok (.aload_n 0, 1) := by decide +kernel
theorem dX4_multiply_41 : decode cX4_multiply 41 = .ok (.getfield 36, 3) := by decide +kernel
theorem dX4_multiply_44 : decode cX4_multiply 44 = .ok (.if_icmp .ge 74, 3) := by decide +kernel
theorem dX4_multiply_47 : decode cX4_multiply 47 = .ok (.aload_n 1, 1) := by decide +kernel
theorem dX4_multiply_48 : decode cX4_multiply 48 = .ok (.iload_n 2, 1) := by decide +kernel
theorem dX4_multiply_49 : decode cX4_multiply 49 = .ok (.iload 5, 2) := by decide +kernel
theorem dX4_multiply_51 : decode cX4_multiply 51 = .ok (.iadd, 1) := by decide +kernel
theorem dX4_multiply_52 : decode cX4_multiply 52 = .ok (.laload, 1) := by decide +kernel
theorem dX4_multiply_53 : decode cX4_multiply 53 = .ok (.aload_n 3, 1) := by decide +kernel
theorem dX4_multiply_54 : decode cX4_multiply 54 = .ok (.iload 4, 2) := by decide +kernel
theorem dX4_multiply_56 : decode cX4_multiply 56 = .ok (.iload 6, 2) := by decide +kernel
theorem dX4_multiply_58 : decode cX4_multiply 58 = .ok (.iadd, 1) := by decide +kernel
theorem dX4_multiply_59 : decode cX4_multiply 59 = .ok (.laload, 1) := by decide +kernel
theorem dX4_multiply_60 : decode cX4_multiply 60 = .ok (.lmul, 1) := by decide +kernel
theorem dX4_multiply_61 : decode cX4_multiply 61 = .ok (.lstore 7, 2) := by decide +kernel
theorem dX4_multiply_63 : decode cX4_multiply 63 = .ok (.iconst 0, 1) := by decide +kernel
theorem dX4_multiply_64 : decode cX4_multiply 64 = .ok (.istore 9, 2) := by decide +kernel
theorem dX4_multiply_66 : decode cX4_multiply 66 = .ok (.iload 9, 2) := by decide +kernel
theorem dX4_multiply_68 : decode cX4_multiply 68 = .ok (.aload_n 0, 1) := by decide +kernel
theorem dX4_multiply_69 : decode cX4_multiply 69 = .ok (.getfield 36, 3) := by decide +kernel
theorem dX4_multiply_72 : decode cX4_multiply 72 = .ok (.if_icmp .ge 40, 3) := by decide +kernel
theorem dX4_multiply_75 : decode cX4_multiply 75 = .ok (.aload_n 0, 1) := by decide +kernel
theorem dX4_multiply_76 : decode cX4_multiply 76 = .ok (.getfield 24, 3) := by decide +kernel
theorem dX4_multiply_79 : decode cX4_multiply 79 = .ok (.iload 9, 2) := by decide +kernel
theorem dX4_multiply_81 : decode cX4_multiply 81 = .ok (.dup2, 1) := by decide +kernel
theorem dX4_multiply_82 : decode cX4_multiply 82 = .ok (.laload, 1) := by decide +kernel
theorem dX4_multiply_83 : decode cX4_multiply 83 = .ok (.lload 7, 2) := by decide +kernel
theorem dX4_multiply_85 : decode cX4_multiply 85 = .ok (.aload_n 0, 1) := by decide +kernel
theorem dX4_multiply_86 : decode cX4_multiply 86 = .ok (.getfield 21, 3) := by decide +kernel
theorem dX4_multiply_89 : decode cX4_multiply 89 = .ok (.bipush 9, 2) := by decide +kernel
theorem dX4_multiply_91 : decode cX4_multiply 91 = .ok (.iload 5, 2) := by decide +kernel
theorem dX4_multiply_93 : decode cX4_multiply 93 = .ok (.imul, 1) := by decide +kernel
theorem dX4_multiply_94 : decode cX4_multiply 94 = .ok (.iconst 3, 1) := by decide +kernel
theorem dX4_multiply_95 : decode cX4_multiply 95 = .ok (.iload 6, 2) := by decide +kernel
theorem dX4_multiply_97 : decode cX4_multiply 97 = .ok (.imul, 1) := by decide +kernel
theorem dX4_multiply_98 : decode cX4_multiply 98 = .ok (.iadd, 1) := by decide +kernel
theorem dX4_multiply_99 : decode cX4_multiply 99 = .ok (.iload 9, 2) := by decide +kernel
theorem dX4_multiply_101 : decode cX4_multiply 101 = .ok (.iadd, 1) := by decide +kernel
theorem dX4_multiply_102 : decode cX4_multiply 102 = .ok (.laload, 1) := by decide +kernel
theorem dX4_multiply_103 : decode cX4_multiply 103 = .ok (.lmul, 1) := by decide +kernel
theorem dX4_multiply_104 : decode cX4_multiply 104 = .ok (.ladd, 1) := by decide +kernel
theorem dX4_multiply_105 : decode cX4_multiply 105 = .ok (.lastore, 1) := by decide +kernel
theorem dX4_multiply_106 : decode cX4_multiply 106 = .ok (.iinc 9 1, 3) := by decide +kernel
theorem dX4_multiply_109 : decode cX4_multiply 109 = .ok (.goto (-43), 3) := by decide +kernel
theorem dX4_multiply_112 : decode cX4_multiply 112 = .ok (.iinc 6 1, 3) := by decide +kernel
theorem dX4_multiply_115 : decode cX4_multiply 115 = .ok (.goto (-77), 3) := by decide +kernel
theorem dX4_multiply_118 : decode cX4_multiply 118 = .ok (.iinc 5 1, 3) := by decide +kernel
theorem dX4_multiply_121 : decode cX4_multiply 121 = .ok (.goto (-95), 3) := by decide +kernel
theorem dX4_multiply_124 : decode cX4_multiply 124 = .ok (.return_, 1) := by decide +kernel
theorem bX4_multiply_0 {l : Launch} {D : va_G} {aI aL : ClassId} {ad : Nat → Nat} {P : sa_P} {I : sa_I} {J : sa_J} {a1 q1 n1 : Nat} {x2 : Int32} {a3 q3 n3 : Nat} {x4 : Int32} {v1 : Int32} (hq1 : sa_iJ (EC l D aI aL ad) a1 q1 n1) (hn1 : n1 < 2 ^ 31) (hq3 : sa_iJ (EC l D aI aL ad) a3 q3 n3) (hn3 : n3 < 2 ^ 31) (f1 : (0 : Int32) = v1) (k : Sat (EC l D aI aL ad) M_X4_multiply P 3 [(0, .ref (ad 4)), (1, .ref a1), (2, .int x2), (3, .ref a3), (4, .int x4), (5, .int v1)] [] I J) : Sat (EC l D aI aL ad) M_X4_multiply P 0 [(0, .ref (ad 4)), (1, .ref a1), (2, .int x2), (3, .ref a3), (4, .int x4)] [] I J := by
  refine s_iconst (v := 0) dX4_multiply_0 rfl ?_
  refine s_eqi f1 ?_
  refine s_istore [(5, .int v1), (0, .ref (ad 4)), (1, .ref a1), (2, .int x2), (3, .ref a3), (4, .int x4)] dX4_multiply_1 (Nat.lt_of_lt_of_le (Nat.lt_succ_self _) (Nat.le_of_ble_eq_true rfl)) rfl ?_
  refine s_pick [1, 2, 3, 4, 5, 0] [(0, .ref (ad 4)), (1, .ref a1), (2, .int x2), (3, .ref a3), (4, .int x4), (5, .int v1)] rfl ?_; exact k
theorem bX4_multiply_3 {l : Launch} {D : va_G} {aI aL : ClassId} {ad : Nat → Nat} {P : sa_P} {I : sa_I} {J : sa_J} {a1 q1 n1 : Nat} {x2 : Int32} {a3 q3 n3 : Nat} {x4 : Int32} {x5 : Int32} (hq1 : sa_iJ (EC l D aI aL ad) a1 q1 n1) (hn1 : n1 < 2 ^ 31) (hq3 : sa_iJ (EC l D aI aL ad) a3 q3 n3) (hn3 : n3 < 2 ^ 31)  (kt : (3 : Int32) ≤ x5 → Sat (EC l D aI aL ad) M_X4_multiply P 23 [(0, .ref (ad 4)), (1, .ref a1), (2, .int x2), (3, .ref a3), (4, .int x4)] [] I J) (kf : ¬ (3 : Int32) ≤ x5 → Sat (EC l D aI aL ad) M_X4_multiply P 9 [(0, .ref (ad 4)), (1, .ref a1), (2, .int x2), (3, .ref a3), (4, .int x4), (5, .int x5)] [] I J) : Sat (EC l D aI aL ad) M_X4_multiply P 3 [(0, .ref (ad 4)), (1, .ref a1), (2, .int x2), (3, .ref a3), (4, .int x4), (5, .int x5)] [] I J := by
  refine s_iload 5 dX4_multiply_3 rfl ?_
  refine s_iconst (v := 3) dX4_multiply_5 rfl ?_
  refine s_icmp_ge (tgt := 23) dX4_multiply_6 (by decide) (fun c => ?_) (fun c => ?_)
  · refine s_pick [0, 1, 2, 3, 4] [(0, .ref (ad 4)), (1, .ref a1), (2, .int x2), (3, .ref a3), (4, .int x4)] rfl ?_; exact kt c
  · exact kf c
theorem bX4_multiply_9 {l : Launch} {D : va_G} {aI aL : ClassId} {ad : Nat → Nat} {P : sa_P} {I : sa_I} {J : sa_J} {a1 q1 n1 : Nat} {x2 : Int32} {a3 q3 n3 : Nat} {x4 : Int32} {x5 : Int32} {j13 : Nat} {v16 : Int64} {v17 : Int32} (hq1 : sa_iJ (EC l D aI aL ad) a1 q1 n1) (hn1 : n1 < 2 ^ 31) (hq3 : sa_iJ (EC l D aI aL ad) a3 q3 n3) (hn3 : n3 < 2 ^ 31) (e13 : x5 = nI j13) (h16 : j13 < 3) (f16 : (0 : Int64) = v16) (f17 : x5 + 1 = v17) (k : Sat (EC l D aI aL ad) M_X4_multiply P 3 [(0, .ref (ad 4)), (1, .ref a1), (2, .int x2), (3, .ref a3), (4, .int x4), (5, .int v17)] [] I (sa_uJ J 9 j13 v16)) : Sat (EC l D aI aL ad) M_X4_multiply P 9 [(0, .ref (ad 4)), (1, .ref a1), (2, .int x2), (3, .ref a3), (4, .int x4), (5, .int x5)] [] I J := by
  refine s_aload_n 0 dX4_multiply_9 rfl ?_
  refine g_X4_24 dX4_multiply_10 rfl ?_
  refine s_iload 5 dX4_multiply_13 rfl ?_
  refine s_eqi e13 ?_
  refine s_lconst (v := 0) dX4_multiply_15 rfl ?_
  refine s_eql f16 ?_
  refine s_lastoreN aJ_C9 h16 (by decide) dX4_multiply_16 ?_
  refine s_iinc 5 v17 [(5, .int v17), (0, .ref (ad 4)), (1, .ref a1), (2, .int x2), (3, .ref a3), (4, .int x4)] dX4_multiply_17 rfl f17 (Nat.lt_of_lt_of_le (Nat.lt_succ_self _) (Nat.le_of_ble_eq_true rfl)) rfl ?_
  refine s_goto (tgt := 3) dX4_multiply_20 (by decide) ?_
  refine s_pick [1, 2, 3, 4, 5, 0] [(0, .ref (ad 4)), (1, .ref a1), (2, .int x2), (3, .ref a3), (4, .int x4), (5, .int v17)] rfl ?_; exact k
theorem bX4_multiply_23 {l : Launch} {D : va_G} {aI aL : ClassId} {ad : Nat → Nat} {P : sa_P} {I : sa_I} {J : sa_J} {a1 q1 n1 : Nat} {x2 : Int32} {a3 q3 n3 : Nat} {x4 : Int32} {v24 : Int32} (hq1 : sa_iJ (EC l D aI aL ad) a1 q1 n1) (hn1 : n1 < 2 ^ 31) (hq3 : sa_iJ (EC l D aI aL ad) a3 q3 n3) (hn3 : n3 < 2 ^ 31) (f24 : (0 : Int32) = v24) (k : Sat (EC l D aI aL ad) M_X4_multiply P 26 [(0, .ref (ad 4)), (1, .ref a1), (2, .int x2), (3, .ref a3), (4, .int x4), (5, .int v24)] [] I J) : Sat (EC l D aI aL ad) M_X4_multiply P 23 [(0, .ref (ad 4)), (1, .ref a1), (2, .int x2), (3, .ref a3), (4, .int x4)] [] I J := by
  refine s_iconst (v := 0) dX4_multiply_23 rfl ?_
  refine s_eqi f24 ?_
  refine s_istore [(5, .int v24), (0, .ref (ad 4)), (1, .ref a1), (2, .int x2), (3, .ref a3), (4, .int x4)] dX4_multiply_24 (Nat.lt_of_lt_of_le (Nat.lt_succ_self _) (Nat.le_of_ble_eq_true rfl)) rfl ?_
  refine s_pick [1, 2, 3, 4, 5, 0] [(0, .ref (ad 4)), (1, .ref a1), (2, .int x2), (3, .ref a3), (4, .int x4), (5, .int v24)] rfl ?_; exact k
theorem bX4_multiply_26 {l : Launch} {D : va_G} {aI aL : ClassId} {ad : Nat → Nat} {P : sa_P} {I : sa_I} {J : sa_J} {a1 q1 n1 : Nat} {x2 : Int32} {a3 q3 n3 : Nat} {x4 : Int32} {x5 : Int32} (hq1 : sa_iJ (EC l D aI aL ad) a1 q1 n1) (hn1 : n1 < 2 ^ 31) (hq3 : sa_iJ (EC l D aI aL ad) a3 q3 n3) (hn3 : n3 < 2 ^ 31)  (kt : I 4 0 ≤ x5 → Sat (EC l D aI aL ad) M_X4_multiply P 124 [] [] I J) (kf : ¬ I 4 0 ≤ x5 → Sat (EC l D aI aL ad) M_X4_multiply P 35 [(0, .ref (ad 4)), (1, .ref a1), (2, .int x2), (3, .ref a3), (4, .int x4), (5, .int x5)] [] I J) : Sat (EC l D aI aL ad) M_X4_multiply P 26 [(0, .ref (ad 4)), (1, .ref a1), (2, .int x2), (3, .ref a3), (4, .int x4), (5, .int x5)] [] I J := by
  refine s_iload 5 dX4_multiply_26 rfl ?_
  refine s_aload_n 0 dX4_multiply_28 rfl ?_
  refine g_X4_36 dX4_multiply_29 rfl ?_
  refine s_icmp_ge (tgt := 124) dX4_multiply_32 (by decide) (fun c => ?_) (fun c => ?_)
  · refine s_pick [] [] rfl ?_; exact kt c
  · exact kf c
theorem bX4_multiply_35 {l : Launch} {D : va_G} {aI aL : ClassId} {ad : Nat → Nat} {P : sa_P} {I : sa_I} {J : sa_J} {a1 q1 n1 : Nat} {x2 : Int32} {a3 q3 n3 : Nat} {x4 : Int32} {x5 : Int32} {v36 : Int32} (hq1 : sa_iJ (EC l D aI aL ad) a1 q1 n1) (hn1 : n1 < 2 ^ 31) (hq3 : sa_iJ (EC l D aI aL ad) a3 q3 n3) (hn3 : n3 < 2 ^ 31) (f36 : (0 : Int32) = v36) (k : Sat (EC l D aI aL ad) M_X4_multiply P 38 [(0, .ref (ad 4)), (1, .ref a1), (2, .int x2), (3, .ref a3), (4, .int x4), (5, .int x5), (6, .int v36)] [] I J) : Sat (EC l D aI aL ad) M_X4_multiply P 35 [(0, .ref (ad 4)), (1, .ref a1), (2, .int x2), (3, .ref a3), (4, .int x4), (5, .int x5)] [] I J := by
  refine s_iconst (v := 0) dX4_multiply_35 rfl ?_
  refine s_eqi f36 ?_
  refine s_istore [(6, .int v36), (0, .ref (ad 4)), (1, .ref a1), (2, .int x2), (3, .ref a3), (4, .int x4), (5, .int x5)] dX4_multiply_36 (Nat.lt_of_lt_of_le (Nat.lt_succ_self _) (Nat.le_of_ble_eq_true rfl)) rfl ?_
  refine s_pick [1, 2, 3, 4, 5, 6, 0] [(0, .ref (ad 4)), (1, .ref a1), (2, .int x2), (3, .ref a3), (4, .int x4), (5, .int x5), (6, .int v36)] rfl ?_; exact k
theorem bX4_multiply_38 {l : Launch} {D : va_G} {aI aL : ClassId} {ad : Nat → Nat} {P : sa_P} {I : sa_I} {J : sa_J} {a1 q1 n1 : Nat} {x2 : Int32} {a3 q3 n3 : Nat} {x4 : Int32} {x5 : Int32} {x6 : Int32} (hq1 : sa_iJ (EC l D aI aL ad) a1 q1 n1) (hn1 : n1 < 2 ^ 31) (hq3 : sa_iJ (EC l D aI aL ad) a3 q3 n3) (hn3 : n3 < 2 ^ 31)  (kt : I 4 0 ≤ x6 → Sat (EC l D aI aL ad) M_X4_multiply P 118 [(0, .ref (ad 4)), (1, .ref a1), (2, .int x2), (3, .ref a3), (4, .int x4), (5, .int x5)] [] I J) (kf : ¬ I 4 0 ≤ x6 → Sat (EC l D aI aL ad) M_X4_multiply P 47 [(0, .ref (ad 4)), (1, .ref a1), (2, .int x2), (3, .ref a3), (4, .int x4), (5, .int x5), (6, .int x6)] [] I J) : Sat (EC l D aI aL ad) M_X4_multiply P 38 [(0, .ref (ad 4)), (1, .ref a1), (2, .int x2), (3, .ref a3), (4, .int x4), (5, .int x5), (6, .int x6)] [] I J := by
  refine s_iload 6 dX4_multiply_38 rfl ?_
  refine s_aload_n 0 dX4_multiply_40 rfl ?_
  refine g_X4_36 dX4_multiply_41 rfl ?_
  refine s_icmp_ge (tgt := 118) dX4_multiply_44 (by decide) (fun c => ?_) (fun c => ?_)
  · refine s_pick [0, 1, 2, 3, 4, 5] [(0, .ref (ad 4)), (1, .ref a1), (2, .int x2), (3, .ref a3), (4, .int x4), (5, .int x5)] rfl ?_; exact kt c
  · exact kf c
theorem bX4_multiply_47 {l : Launch} {D : va_G} {aI aL : ClassId} {ad : Nat → Nat} {P : sa_P} {I : sa_I} {J : sa_J} {a1 q1 n1 : Nat} {x2 : Int32} {a3 q3 n3 : Nat} {x4 : Int32} {x5 : Int32} {x6 : Int32} {j51 : Nat} {j58 : Nat} {v61 : Int64} {v64 : Int32} (hq1 : sa_iJ (EC l D aI aL ad) a1 q1 n1) (hn1 : n1 < 2 ^ 31) (hq3 : sa_iJ (EC l D aI aL ad) a3 q3 n3) (hn3 : n3 < 2 ^ 31) (e51 : x2 + x5 = nI j51) (h52 : j51 < n1) (e58 : x4 + x6 = nI j58) (h59 : j58 < n3) (f61 : (J q1 j51) * (J q3 j58) = v61) (f64 : (0 : Int32) = v64) (k : Sat (EC l D aI aL ad) M_X4_multiply P 66 [(0, .ref (ad 4)), (1, .ref a1), (2, .int x2), (3, .ref a3), (4, .int x4), (5, .int x5), (6, .int x6), (7, .long v61), (9, .int v64)] [] I J) : Sat (EC l D aI aL ad) M_X4_multiply P 47 [(0, .ref (ad 4)), (1, .ref a1), (2, .int x2), (3, .ref a3), (4, .int x4), (5, .int x5), (6, .int x6)] [] I J := by
  refine s_aload_n 1 dX4_multiply_47 rfl ?_
  refine s_iload_n 2 dX4_multiply_48 rfl ?_
  refine s_iload 5 dX4_multiply_49 rfl ?_
  refine s_iadd dX4_multiply_51 ?_
  refine s_eqi e51 ?_
  refine s_laloadN hq1 h52 hn1 dX4_multiply_52 ?_
  refine s_aload_n 3 dX4_multiply_53 rfl ?_
  refine s_iload 4 dX4_multiply_54 rfl ?_
  refine s_iload 6 dX4_multiply_56 rfl ?_
  refine s_iadd dX4_multiply_58 ?_
  refine s_eqi e58 ?_
  refine s_laloadN hq3 h59 hn3 dX4_multiply_59 ?_
  refine s_lmul dX4_multiply_60 ?_
  refine s_eql f61 ?_
  refine s_lstore [(7, .long v61), (0, .ref (ad 4)), (1, .ref a1), (2, .int x2), (3, .ref a3), (4, .int x4), (5, .int x5), (6, .int x6)] dX4_multiply_61 (Nat.lt_of_lt_of_le (Nat.lt_succ_self _) (Nat.le_of_ble_eq_true rfl)) rfl ?_
  refine s_iconst (v := 0) dX4_multiply_63 rfl ?_
  refine s_eqi f64 ?_
  refine s_istore [(9, .int v64), (7, .long v61), (0, .ref (ad 4)), (1, .ref a1), (2, .int x2), (3, .ref a3), (4, .int x4), (5, .int x5), (6, .int x6)] dX4_multiply_64 (Nat.lt_of_lt_of_le (Nat.lt_succ_self _) (Nat.le_of_ble_eq_true rfl)) rfl ?_
  refine s_pick [2, 3, 4, 5, 6, 7, 8, 1, 0] [(0, .ref (ad 4)), (1, .ref a1), (2, .int x2), (3, .ref a3), (4, .int x4), (5, .int x5), (6, .int x6), (7, .long v61), (9, .int v64)] rfl ?_; exact k
theorem bX4_multiply_66 {l : Launch} {D : va_G} {aI aL : ClassId} {ad : Nat → Nat} {P : sa_P} {I : sa_I} {J : sa_J} {a1 q1 n1 : Nat} {x2 : Int32} {a3 q3 n3 : Nat} {x4 : Int32} {x5 : Int32} {x6 : Int32} {x7 : Int64} {x9 : Int32} (hq1 : sa_iJ (EC l D aI aL ad) a1 q1 n1) (hn1 : n1 < 2 ^ 31) (hq3 : sa_iJ (EC l D aI aL ad) a3 q3 n3) (hn3 : n3 < 2 ^ 31)  (kt : I 4 0 ≤ x9 → Sat (EC l D aI aL ad) M_X4_multiply P 112 [(0, .ref (ad 4)), (1, .ref a1), (2, .int x2), (3, .ref a3), (4, .int x4), (5, .int x5), (6, .int x6)] [] I J) (kf : ¬ I 4 0 ≤ x9 → Sat (EC l D aI aL ad) M_X4_multiply P 75 [(0, .ref (ad 4)), (1, .ref a1), (2, .int x2), (3, .ref a3), (4, .int x4), (5, .int x5), (6, .int x6), (7, .long x7), (9, .int x9)] [] I J) : Sat (EC l D aI aL ad) M_X4_multiply P 66 [(0, .ref (ad 4)), (1, .ref a1), (2, .int x2), (3, .ref a3), (4, .int x4), (5, .int x5), (6, .int x6), (7, .long x7), (9, .int x9)] [] I J := by
  refine s_iload 8 dX4_multiply_66 rfl ?_
  refine s_aload_n 0 dX4_multiply_68 rfl ?_
  refine g_X4_36 dX4_multiply_69 rfl ?_
  refine s_icmp_ge (tgt := 112) dX4_multiply_72 (by decide) (fun c => ?_) (fun c => ?_)
  · refine s_pick [0, 1, 2, 3, 4, 5, 6] [(0, .ref (ad 4)), (1, .ref a1), (2, .int x2), (3, .ref a3), (4, .int x4), (5, .int x5), (6, .int x6)] rfl ?_; exact kt c
  · exact kf c
theorem bX4_multiply_75 {l : Launch} {D : va_G} {aI aL : ClassId} {ad : Nat → Nat} {P : sa_P} {I : sa_I} {J : sa_J} {a1 q1 n1 : Nat} {x2 : Int32} {a3 q3 n3 : Nat} {x4 : Int32} {x5 : Int32} {x6 : Int32} {x7 : Int64} {x9 : Int32} {j79 : Nat} {j101 : Nat} {v105 : Int64} {v106 : Int32} (hq1 : sa_iJ (EC l D aI aL ad) a1 q1 n1) (hn1 : n1 < 2 ^ 31) (hq3 : sa_iJ (EC l D aI aL ad) a3 q3 n3) (hn3 : n3 < 2 ^ 31) (e79 : x9 = nI j79) (h82 : j79 < 3) (e101 : (((9 : Int32) * x5) + ((3 : Int32) * x6)) + x9 = nI j101) (h102 : j101 < 27) (h105 : j79 < 3) (f105 : (J 9 j79) + (x7 * (J 8 j101)) = v105) (f106 : x9 + 1 = v106) (k : Sat (EC l D aI aL ad) M_X4_multiply P 66 [(0, .ref (ad 4)), (1, .ref a1), (2, .int x2), (3, .ref a3), (4, .int x4), (5, .int x5), (6, .int x6), (7, .long x7), (9, .int v106)] [] I (sa_uJ J 9 j79 v105)) : Sat (EC l D aI aL ad) M_X4_multiply P 75 [(0, .ref (ad 4)), (1, .ref a1), (2, .int x2), (3, .ref a3), (4, .int x4), (5, .int x5), (6, .int x6), (7, .long x7), (9, .int x9)] [] I J := by
  refine s_aload_n 0 dX4_multiply_75 rfl ?_
  refine g_X4_24 dX4_multiply_76 rfl ?_
  refine s_iload 8 dX4_multiply_79 rfl ?_
  refine s_eqi e79 ?_
  refine s_dup2_11 dX4_multiply_81 rfl rfl ?_
  refine s_laloadN aJ_C9 h82 (by decide) dX4_multiply_82 ?_
  refine s_lload 7 dX4_multiply_83 rfl ?_
  refine s_aload_n 0 dX4_multiply_85 rfl ?_
  refine g_X4_21 dX4_multiply_86 rfl ?_
  refine s_bipush (v := 9) dX4_multiply_89 rfl ?_
  refine s_iload 5 dX4_multiply_91 rfl ?_
  refine s_imul dX4_multiply_93 ?_
  refine s_iconst (v := 3) dX4_multiply_94 rfl ?_
  refine s_iload 6 dX4_multiply_95 rfl ?_
  refine s_imul dX4_multiply_97 ?_
  refine s_iadd dX4_multiply_98 ?_
  refine s_iload 8 dX4_multiply_99 rfl ?_
  refine s_iadd dX4_multiply_101 ?_
  refine s_eqi e101 ?_
  refine s_laloadN aJ_C8 h102 (by decide) dX4_multiply_102 ?_
  refine s_lmul dX4_multiply_103 ?_
  refine s_ladd dX4_multiply_104 ?_
  refine s_eql f105 ?_
  refine s_lastoreN aJ_C9 h105 (by decide) dX4_multiply_105 ?_
  refine s_iinc 8 v106 [(9, .int v106), (0, .ref (ad 4)), (1, .ref a1), (2, .int x2), (3, .ref a3), (4, .int x4), (5, .int x5), (6, .int x6), (7, .long x7)] dX4_multiply_106 rfl f106 (Nat.lt_of_lt_of_le (Nat.lt_succ_self _) (Nat.le_of_ble_eq_true rfl)) rfl ?_
  refine s_goto (tgt := 66) dX4_multiply_109 (by decide) ?_
  refine s_pick [1, 2, 3, 4, 5, 6, 7, 8, 0] [(0, .ref (ad 4)), (1, .ref a1), (2, .int x2), (3, .ref a3), (4, .int x4), (5, .int x5), (6, .int x6), (7, .long x7), (9, .int v106)] rfl ?_; exact k
theorem bX4_multiply_112 {l : Launch} {D : va_G} {aI aL : ClassId} {ad : Nat → Nat} {P : sa_P} {I : sa_I} {J : sa_J} {a1 q1 n1 : Nat} {x2 : Int32} {a3 q3 n3 : Nat} {x4 : Int32} {x5 : Int32} {x6 : Int32} {v112 : Int32} (hq1 : sa_iJ (EC l D aI aL ad) a1 q1 n1) (hn1 : n1 < 2 ^ 31) (hq3 : sa_iJ (EC l D aI aL ad) a3 q3 n3) (hn3 : n3 < 2 ^ 31) (f112 : x6 + 1 = v112) (k : Sat (EC l D aI aL ad) M_X4_multiply P 38 [(0, .ref (ad 4)), (1, .ref a1), (2, .int x2), (3, .ref a3), (4, .int x4), (5, .int x5), (6, .int v112)] [] I J) : Sat (EC l D aI aL ad) M_X4_multiply P 112 [(0, .ref (ad 4)), (1, .ref a1), (2, .int x2), (3, .ref a3), (4, .int x4), (5, .int x5), (6, .int x6)] [] I J := by
  refine s_iinc 6 v112 [(6, .int v112), (0, .ref (ad 4)), (1, .ref a1), (2, .int x2), (3, .ref a3), (4, .int x4), (5, .int x5)] dX4_multiply_112 rfl f112 (Nat.lt_of_lt_of_le (Nat.lt_succ_self _) (Nat.le_of_ble_eq_true rfl)) rfl ?_
  refine s_goto (tgt := 38) dX4_multiply_115 (by decide) ?_
  refine s_pick [1, 2, 3, 4, 5, 6, 0] [(0, .ref (ad 4)), (1, .ref a1), (2, .int x2), (3, .ref a3), (4, .int x4), (5, .int x5), (6, .int v112)] rfl ?_; exact k
theorem bX4_multiply_118 {l : Launch} {D : va_G} {aI aL : ClassId} {ad : Nat → Nat} {P : sa_P} {I : sa_I} {J : sa_J} {a1 q1 n1 : Nat} {x2 : Int32} {a3 q3 n3 : Nat} {x4 : Int32} {x5 : Int32} {v118 : Int32} (hq1 : sa_iJ (EC l D aI aL ad) a1 q1 n1) (hn1 : n1 < 2 ^ 31) (hq3 : sa_iJ (EC l D aI aL ad) a3 q3 n3) (hn3 : n3 < 2 ^ 31) (f118 : x5 + 1 = v118) (k : Sat (EC l D aI aL ad) M_X4_multiply P 26 [(0, .ref (ad 4)), (1, .ref a1), (2, .int x2), (3, .ref a3), (4, .int x4), (5, .int v118)] [] I J) : Sat (EC l D aI aL ad) M_X4_multiply P 118 [(0, .ref (ad 4)), (1, .ref a1), (2, .int x2), (3, .ref a3), (4, .int x4), (5, .int x5)] [] I J := by
  refine s_iinc 5 v118 [(5, .int v118), (0, .ref (ad 4)), (1, .ref a1), (2, .int x2), (3, .ref a3), (4, .int x4)] dX4_multiply_118 rfl f118 (Nat.lt_of_lt_of_le (Nat.lt_succ_self _) (Nat.le_of_ble_eq_true rfl)) rfl ?_
  refine s_goto (tgt := 26) dX4_multiply_121 (by decide) ?_
  refine s_pick [1, 2, 3, 4, 5, 0] [(0, .ref (ad 4)), (1, .ref a1), (2, .int x2), (3, .ref a3), (4, .int x4), (5, .int v118)] rfl ?_; exact k
theorem bX4_multiply_124 {l : Launch} {D : va_G} {aI aL : ClassId} {ad : Nat → Nat} {P : sa_P} {I : sa_I} {J : sa_J}    (k : P (none) I J) : Sat (EC l D aI aL ad) M_X4_multiply P 124 [] [] I J := by
  exact s_vret rfl dX4_multiply_124 k
/-! X4_addTimes -/
theorem dX4_addTimes_0 : decode cX4_addTimes 0 = .ok (.iconst 0, 1) := by decide +kernel
theorem dX4_addTimes_1 : decode cX4_addTimes 1 = .ok (.istore 6, 2) := by decide +kernel
theorem dX4_addTimes_3 : decode cX4_addTimes 3 = .ok (.iload 6, 2) := by decide +kernel
theorem dX4_addTimes_5 : decode cX4_addTimes 5 = .ok (.iconst 3, 1) := by decide +kernel
theorem dX4_addTimes_6 : decode cX4_addTimes 6 = .ok (.if_icmp .ge 32, 3) := by decide +kernel
theorem dX4_addTimes_9 : decode cX4_addTimes 9 = .ok (.aload_n 0, 1) := by decide +kernel
theorem dX4_addTimes_10 : decode cX4_addTimes 10 = .ok (.getfield 24, 3) := by decide +kernel
theorem dX4_addTimes_13 : decode cX4_addTimes 13 = .ok (.iload 6, 2) := by decide +kernel
theorem dX4_addTimes_15 : decode cX4_addTimes 15 = .ok (.aload_n 1, 1) := by decide +kernel
theorem dX4_addTimes_16 : decode cX4_addTimes 16 = .ok (.iload_n 2, 1) := by decide +kernel
theorem dX4_addTimes_17 : decode cX4_addTimes 17 = .ok (.iload 6, 2) := by decide +kernel
theorem dX4_addTimes_19 : decode cX4_addTimes 19 = .ok (.iadd, 1) := by decide +kernel
theorem dX4_addTimes_20 : decode cX4_addTimes 20 = .ok (.laload, 1) := by decide +kernel
theorem dX4_addTimes_21 : decode cX4_addTimes 21 = .ok (.lload 4, 2) := by decide +kernel
theorem dX4_addTimes_23 : decode cX4_addTimes 23 = .ok (.aload_n 1, 1) := by decide +kernel
theorem dX4_addTimes_24 : decode cX4_addTimes 24 = .ok (.iload_n 3, 1) := by decide +kernel
theorem dX4_addTimes_25 : decode cX4_addTimes 25 = .ok (.iload 6, 2) := by decide +kernel
theorem dX4_addTimes_27 : decode cX4_addTimes 27 = .ok (.iadd, 1) := by decide +kernel
theorem dX4_addTimes_28 : decode cX4_addTimes 28 = .ok (.laload, 1) := by decide +kernel
theorem dX4_addTimes_29 : decode cX4_addTimes 29 = .ok (.lmul, 1) := by decide +kernel
theorem dX4_addTimes_30 : decode cX4_addTimes 30 = .ok (.ladd, 1) := by decide +kernel
theorem dX4_addTimes_31 : decode cX4_addTimes 31 = .ok (.lastore, 1) := by decide +kernel
theorem dX4_addTimes_32 : decode cX4_addTimes 32 = .ok (.iinc 6 1, 3) := by decide +kernel
theorem dX4_addTimes_35 : decode cX4_addTimes 35 = .ok (.goto (-32), 3) := by decide +kernel
theorem dX4_addTimes_38 : decode cX4_addTimes 38 = .ok (.return_, 1) := by decide +kernel
theorem bX4_addTimes_0 {l : Launch} {D : va_G} {aI aL : ClassId} {ad : Nat → Nat} {P : sa_P} {I : sa_I} {J : sa_J} {a1 q1 n1 : Nat} {x2 : Int32} {x3 : Int32} {x4 : Int64} {v1 : Int32} (hq1 : sa_iJ (EC l D aI aL ad) a1 q1 n1) (hn1 : n1 < 2 ^ 31) (f1 : (0 : Int32) = v1) (k : Sat (EC l D aI aL ad) M_X4_addTimes P 3 [(0, .ref (ad 4)), (1, .ref a1), (2, .int x2), (3, .int x3), (4, .long x4), (6, .int v1)] [] I J) : Sat (EC l D aI aL ad) M_X4_addTimes P 0 [(0, .ref (ad 4)), (1, .ref a1), (2, .int x2), (3, .int x3), (4, .long x4)] [] I J := by
  refine s_iconst (v := 0) dX4_addTimes_0 rfl ?_
  refine s_eqi f1 ?_
  refine s_istore [(6, .int v1), (0, .ref (ad 4)), (1, .ref a1), (2, .int x2), (3, .int x3), (4, .long x4)] dX4_addTimes_1 (Nat.lt_of_lt_of_le (Nat.lt_succ_self _) (Nat.le_of_ble_eq_true rfl)) rfl ?_
  refine s_pick [1, 2, 3, 4, 5, 0] [(0, .ref (ad 4)), (1, .ref a1), (2, .int x2), (3, .int x3), (4, .long x4), (6, .int v1)] rfl ?_; exact k
theorem bX4_addTimes_3 {l : Launch} {D : va_G} {aI aL : ClassId} {ad : Nat → Nat} {P : sa_P} {I : sa_I} {J : sa_J} {a1 q1 n1 : Nat} {x2 : Int32} {x3 : Int32} {x4 : Int64} {x6 : Int32} (hq1 : sa_iJ (EC l D aI aL ad) a1 q1 n1) (hn1 : n1 < 2 ^ 31)  (kt : (3 : Int32) ≤ x6 → Sat (EC l D aI aL ad) M_X4_addTimes P 38 [] [] I J) (kf : ¬ (3 : Int32) ≤ x6 → Sat (EC l D aI aL ad) M_X4_addTimes P 9 [(0, .ref (ad 4)), (1, .ref a1), (2, .int x2), (3, .int x3), (4, .long x4), (6, .int x6)] [] I J) : Sat (EC l D aI aL ad) M_X4_addTimes P 3 [(0, .ref (ad 4)), (1, .ref a1), (2, .int x2), (3, .int x3), (4, .long x4), (6, .int x6)] [] I J := by
  refine s_iload 5 dX4_addTimes_3 rfl ?_
  refine s_iconst (v := 3) dX4_addTimes_5 rfl ?_
  refine s_icmp_ge (tgt := 38) dX4_addTimes_6 (by decide) (fun c => ?_) (fun c => ?_)
  · refine s_pick [] [] rfl ?_; exact kt c
  · exact kf c
theorem bX4_addTimes_9 {l : Launch} {D : va_G} {aI aL : ClassId} {ad : Nat → Nat} {P : sa_P} {I : sa_I} {J : sa_J} {a1 q1 n1 : Nat} {x2 : Int32} {x3 : Int32} {x4 : Int64} {x6 : Int32} {j13 : Nat} {j19 : Nat} {j27 : Nat} {v31 : Int64} {v32 : Int32} (hq1 : sa_iJ (EC l D aI aL ad) a1 q1 n1) (hn1 : n1 < 2 ^ 31) (e13 : x6 = nI j13) (e19 : x2 + x6 = nI j19) (h20 : j19 < n1) (e27 : x3 + x6 = nI j27) (h28 : j27 < n1) (h31 : j13 < 3) (f31 : (J q1 j19) + (x4 * (J q1 j27)) = v31) (f32 : x6 + 1 = v32) (k : Sat (EC l D aI aL ad) M_X4_addTimes P 3 [(0, .ref (ad 4)), (1, .ref a1), (2, .int x2), (3, .int x3), (4, .long x4), (6, .int v32)] [] I (sa_uJ J 9 j13 v31)) : Sat (EC l D aI aL ad) M_X4_addTimes P 9 [(0, .ref (ad 4)), (1, .ref a1), (2, .int x2), (3, .int x3), (4, .long x4), (6, .int x6)] [] I J := by
  refine s_aload_n 0 dX4_addTimes_9 rfl ?_
  refine g_X4_24 dX4_addTimes_10 rfl ?_
  refine s_iload 5 dX4_addTimes_13 rfl ?_
  refine s_eqi e13 ?_
  refine s_aload_n 1 dX4_addTimes_15 rfl ?_
  refine s_iload_n 2 dX4_addTimes_16 rfl ?_
  refine s_iload 5 dX4_addTimes_17 rfl ?_
  refine s_iadd dX4_addTimes_19 ?_
  refine s_eqi e19 ?_
  refine s_laloadN hq1 h20 hn1 dX4_addTimes_20 ?_
  refine s_lload 4 dX4_addTimes_21 rfl ?_
  refine s_aload_n 1 dX4_addTimes_23 rfl ?_
  refine s_iload_n 3 dX4_addTimes_24 rfl ?_
  refine s_iload 5 dX4_addTimes_25 rfl ?_
  refine s_iadd dX4_addTimes_27 ?_
  refine s_eqi e27 ?_
  refine s_laloadN hq1 h28 hn1 dX4_addTimes_28 ?_
  refine s_lmul dX4_addTimes_29 ?_
  refine s_ladd dX4_addTimes_30 ?_
  refine s_eql f31 ?_
  refine s_lastoreN aJ_C9 h31 (by decide) dX4_addTimes_31 ?_
  refine s_iinc 5 v32 [(6, .int v32), (0, .ref (ad 4)), (1, .ref a1), (2, .int x2), (3, .int x3), (4, .long x4)] dX4_addTimes_32 rfl f32 (Nat.lt_of_lt_of_le (Nat.lt_succ_self _) (Nat.le_of_ble_eq_true rfl)) rfl ?_
  refine s_goto (tgt := 3) dX4_addTimes_35 (by decide) ?_
  refine s_pick [1, 2, 3, 4, 5, 0] [(0, .ref (ad 4)), (1, .ref a1), (2, .int x2), (3, .int x3), (4, .long x4), (6, .int v32)] rfl ?_; exact k
theorem bX4_addTimes_38 {l : Launch} {D : va_G} {aI aL : ClassId} {ad : Nat → Nat} {P : sa_P} {I : sa_I} {J : sa_J}    (k : P (none) I J) : Sat (EC l D aI aL ad) M_X4_addTimes P 38 [] [] I J := by
  exact s_vret rfl dX4_addTimes_38 k
/-! X4_divide -/
theorem dX4_divide_0 : decode cX4_divide 0 = .ok (.aload_n 0, 1) := by decide +kernel
theorem dX4_divide_1 : decode cX4_divide 1 = .ok (.aload_n 1, 1) := by decide +kernel
theorem dX4_divide_2 : decode cX4_divide 2 = .ok (.iload_n 3, 1) := by decide +kernel
theorem dX4_divide_3 : decode cX4_divide 3 = .ok (.invokevirtual 103, 3) := by decide +kernel
theorem dX4_divide_6 : decode cX4_divide 6 = .ok (.aload_n 0, 1) := by decide +kernel
theorem dX4_divide_7 : decode cX4_divide 7 = .ok (.invokevirtual 78, 3) := by decide +kernel
theorem dX4_divide_10 : decode cX4_divide 10 = .ok (.lstore 4, 2) := by decide +kernel
theorem dX4_divide_12 : decode cX4_divide 12 = .ok (.lload 4, 2) := by decide +kernel
theorem dX4_divide_14 : decode cX4_divide 14 = .ok (.lconst 0, 1) := by decide +kernel
theorem dX4_divide_15 : decode cX4_divide 15 = .ok (.lcmp, 1) := by decide +kernel
theorem dX4_divide_16 : decode cX4_divide 16 = .ok (.ifCond .ne 5, 3) := by decide +kernel
theorem dX4_divide_19 : decode cX4_divide 19 = .ok (.iconst 0, 1) := by decide +kernel
theorem dX4_divide_20 : decode cX4_divide 20 = .ok (.ireturn, 1) := by decide +kernel
theorem dX4_divide_21 : decode cX4_divide 21 = .ok (.aload_n 0, 1) := by decide +kernel
theorem dX4_divide_22 : decode cX4_divide 22 = .ok (.getfield 24, 3) := by decide +kernel
theorem dX4_divide_25 : decode cX4_divide 25 = .ok (.iconst 2, 1) := by decide +kernel
theorem dX4_divide_26 : decode cX4_divide 26 = .ok (.lconst 0, 1) := by decide +kernel
theorem dX4_divide_27 : decode cX4_divide 27 = .ok (.lastore, 1) := by decide +kernel
theorem dX4_divide_28 : decode cX4_divide 28 = .ok (.iconst 0, 1) := by decide +kernel
theorem dX4_divide_29 : decode cX4_divide 29 = .ok (.istore 6, 2) := by decide +kernel
theorem dX4_divide_31 : decode cX4_divide 31 = .ok (.iload 6, 2) := by decide +kernel
theorem dX4_divide_33 : decode cX4_divide 33 = .ok (.aload_n 0, 1) := by decide +kernel
theorem dX4_divide_34 : decode cX4_divide 34 = .ok (.getfield 36, 3) := by decide +kernel
theorem dX4_divide_37 : decode cX4_divide 37 = .ok (.if_icmp .ge 81, 3) := by decide +kernel
theorem dX4_divide_40 : decode cX4_divide 40 = .ok (.aload_n 0, 1) := by decide +kernel
theorem dX4_divide_41 : decode cX4_divide 41 = .ok (.aload_n 1, 1) := by decide +kernel
theorem dX4_divide_42 : decode cX4_divide 42 = .ok (.iload_n 3, 1) := by decide +kernel
theorem dX4_divide_43 : decode cX4_divide 43 = .ok (.invokevirtual 103, 3) := by decide +kernel
theorem dX4_divide_46 : decode cX4_divide 46 = .ok (.iconst 0, 1) := by decide +kernel
theorem dX4_divide_47 : decode cX4_divide 47 = .ok (.istore 7, 2) := by decide +kernel
theorem dX4_divide_49 : decode cX4_divide 49 = .ok (.iload 7, 2) := by decide +kernel
theorem dX4_divide_51 : decode cX4_divide 51 = .ok (.aload_n 0, 1) := by decide +kernel
theorem dX4_divide_52 : decode cX4_divide 52 = .ok (.getfield 36, 3) := by decide +kernel
theorem dX4_divide_55 : decode cX4_divide 55 = .ok (.if_icmp .ge 27, 3) := by decide +kernel
theorem dX4_divide_58 : decode cX4_divide 58 = .ok (.aload_n 0, 1) := by decide +kernel
theorem dX4_divide_59 : decode cX4_divide 59 = .ok (.getfield 27, 3) := by decide +kernel
theorem dX4_divide_62 : decode cX4_divide 62 = .ok (.iconst 3, 1) := by decide +kernel
theorem dX4_divide_63 : decode cX4_divide 63 = .ok (.iload 6, 2) := by decide +kernel
theorem dX4_divide_65 : decode cX4_divide 65 = .ok (.imul, 1) := by decide +kernel
theorem dX4_divide_66 : decode cX4_divide 66 = .ok (.iload 7, 2) := by decide +kernel
theorem dX4_divide_68 : decode cX4_divide 68 = .ok (.iadd, 1) := by decide +kernel
theorem dX4_divide_69 : decode cX4_divide 69 = .ok (.aload_n 1, 1) := by decide +kernel
theorem dX4_divide_70 : decode cX4_divide 70 = .ok (.iload_n 2, 1) := by decide +kernel
theorem dX4_divide_71 : decode cX4_divide 71 = .ok (.iload 7, 2) := by decide +kernel
theorem dX4_divide_73 : decode cX4_divide 73 = .ok (.iadd, 1) := by decide +kernel
theorem dX4_divide_74 : decode cX4_divide 74 = .ok (.laload, 1) := by decide +kernel
theorem dX4_divide_75 : decode cX4_divide 75 = .ok (.lastore, 1) := by decide +kernel
theorem dX4_divide_76 : decode cX4_divide 76 = .ok (.iinc 7 1, 3) := by decide +kernel
theorem dX4_divide_79 : decode cX4_divide 79 = .ok (.goto (-30), 3) := by decide +kernel
theorem dX4_divide_82 : decode cX4_divide 82 = .ok (.aload_n 0, 1) := by decide +kernel
theorem dX4_divide_83 : decode cX4_divide 83 = .ok (.invokevirtual 78, 3) := by decide +kernel
theorem dX4_divide_86 : decode cX4_divide 86 = .ok (.lstore 7, 2) := by decide +kernel
theorem dX4_divide_88 : decode cX4_divide 88 = .ok (.lload 7, 2) := by decide +kernel
theorem dX4_divide_90 : decode cX4_divide 90 = .ok (.lload 4, 2) := by decide +kernel
theorem dX4_divide_92 : decode cX4_divide 92 = .ok (.lrem, 1) := by decide +kernel
theorem dX4_divide_93 : decode cX4_divide 93 = .ok (.lconst 0, 1) := by decide +kernel
theorem dX4_divide_94 : decode cX4_divide 94 = .ok (.lcmp, 1) := by decide +kernel
theorem dX4_divide_95 : decode cX4_divide 95 = .ok (.ifCond .eq 5, 3) := by decide +kernel
theorem dX4_divide_98 : decode cX4_divide 98 = .ok (.iconst 0, 1) := by decide +kernel
theorem dX4_divide_99 : decode cX4_divide 99 = .ok (.ireturn, 1) := by decide +kernel
theorem dX4_divide_100 : decode cX4_divide 100 = .ok (.aload_n 0, 1) := by decide +kernel
theorem dX4_divide_101 : decode cX4_divide 101 = .ok (.getfield 24, 3) := by decide +kernel
theorem dX4_divide_104 : decode cX4_divide 104 = .ok (.iload 6, 2) := by decide +kernel
theorem dX4_divide_106 : decode cX4_divide 106 = .ok (.lload 7, 2) := by decide +kernel
theorem dX4_divide_108 : decode cX4_divide 108 = .ok (.lload 4, 2) := by decide +kernel
theorem dX4_divide_110 : decode cX4_divide 110 = .ok (.ldiv, 1) := by decide +kernel
theorem dX4_divide_111 : decode cX4_divide 111 = .ok (.lastore, 1) := by decide +kernel
theorem dX4_divide_112 : decode cX4_divide 112 = .ok (.iinc 6 1, 3) := by decide +kernel
theorem dX4_divide_115 : decode cX4_divide 115 = .ok (.goto (-84), 3) := by decide +kernel
theorem dX4_divide_118 : decode cX4_divide 118 = .ok (.iconst 1, 1) := by decide +kernel
theorem dX4_divide_119 : decode cX4_divide 119 = .ok (.ireturn, 1) := by decide +kernel
theorem bX4_divide_0 {l : Launch} {D : va_G} {aI aL : ClassId} {ad : Nat → Nat} {P : sa_P} {I : sa_I} {J : sa_J} {a1 q1 n1 : Nat} {x2 : Int32} {x3 : Int32} (hq1 : sa_iJ (EC l D aI aL ad) a1 q1 n1) (hn1 : n1 < 2 ^ 31)  (k : Sat (EC l D aI aL ad) M_X4_divide P 3 [(0, .ref (ad 4)), (1, .ref a1), (2, .int x2), (3, .int x3)] [.int x3, .ref a1, .ref (ad 4)] I J) : Sat (EC l D aI aL ad) M_X4_divide P 0 [(0, .ref (ad 4)), (1, .ref a1), (2, .int x2), (3, .int x3)] [] I J := by
  refine s_aload_n 0 dX4_divide_0 rfl ?_
  refine s_aload_n 1 dX4_divide_1 rfl ?_
  refine s_iload_n 3 dX4_divide_2 rfl ?_
  exact k
theorem bX4_divide_6 {l : Launch} {D : va_G} {aI aL : ClassId} {ad : Nat → Nat} {P : sa_P} {I : sa_I} {J : sa_J} {a1 q1 n1 : Nat} {x2 : Int32} {x3 : Int32} (hq1 : sa_iJ (EC l D aI aL ad) a1 q1 n1) (hn1 : n1 < 2 ^ 31)  (k : Sat (EC l D aI aL ad) M_X4_divide P 7 [(0, .ref (ad 4)), (1, .ref a1), (2, .int x2), (3, .int x3)] [.ref (ad 4)] I J) : Sat (EC l D aI aL ad) M_X4_divide P 6 [(0, .ref (ad 4)), (1, .ref a1), (2, .int x2), (3, .int x3)] [] I J := by
  refine s_aload_n 0 dX4_divide_6 rfl ?_
  exact k
theorem bX4_divide_10 {l : Launch} {D : va_G} {aI aL : ClassId} {ad : Nat → Nat} {P : sa_P} {I : sa_I} {J : sa_J} {a1 q1 n1 : Nat} {x2 : Int32} {x3 : Int32} {s0 : Int64} (hq1 : sa_iJ (EC l D aI aL ad) a1 q1 n1) (hn1 : n1 < 2 ^ 31)  (kt : ¬ s0 = (0 : Int64) → Sat (EC l D aI aL ad) M_X4_divide P 21 [(0, .ref (ad 4)), (1, .ref a1), (2, .int x2), (3, .int x3), (4, .long s0)] [] I J) (kf : s0 = (0 : Int64) → Sat (EC l D aI aL ad) M_X4_divide P 19 [] [] I J) : Sat (EC l D aI aL ad) M_X4_divide P 10 [(0, .ref (ad 4)), (1, .ref a1), (2, .int x2), (3, .int x3)] [.long s0] I J := by
  refine s_lstore [(4, .long s0), (0, .ref (ad 4)), (1, .ref a1), (2, .int x2), (3, .int x3)] dX4_divide_10 (Nat.lt_of_lt_of_le (Nat.lt_succ_self _) (Nat.le_of_ble_eq_true rfl)) rfl ?_
  refine s_lload 0 dX4_divide_12 rfl ?_
  refine s_lconst (v := 0) dX4_divide_14 rfl ?_
  refine s_lif_ne (tgt := 21) dX4_divide_15 dX4_divide_16 (by decide) (fun c => ?_) (fun c => ?_)
  · refine s_pick [1, 2, 3, 4, 0] [(0, .ref (ad 4)), (1, .ref a1), (2, .int x2), (3, .int x3), (4, .long s0)] rfl ?_; exact kt c
  · refine s_pick [] [] rfl ?_; exact kf (by first | exact c | exact Classical.not_not.mp c)
theorem bX4_divide_19 {l : Launch} {D : va_G} {aI aL : ClassId} {ad : Nat → Nat} {P : sa_P} {I : sa_I} {J : sa_J}    (k : P (some (.int (0 : Int32))) I J) : Sat (EC l D aI aL ad) M_X4_divide P 19 [] [] I J := by
  refine s_iconst (v := 0) dX4_divide_19 rfl ?_
  exact s_zret rfl rfl dX4_divide_20 k
theorem bX4_divide_21 {l : Launch} {D : va_G} {aI aL : ClassId} {ad : Nat → Nat} {P : sa_P} {I : sa_I} {J : sa_J} {a1 q1 n1 : Nat} {x2 : Int32} {x3 : Int32} {x4 : Int64} {v27 : Int64} {v29 : Int32} (hq1 : sa_iJ (EC l D aI aL ad) a1 q1 n1) (hn1 : n1 < 2 ^ 31) (f27 : (0 : Int64) = v27) (f29 : (0 : Int32) = v29) (k : Sat (EC l D aI aL ad) M_X4_divide P 31 [(0, .ref (ad 4)), (1, .ref a1), (2, .int x2), (3, .int x3), (4, .long x4), (6, .int v29)] [] I (sa_uJ J 9 2 v27)) : Sat (EC l D aI aL ad) M_X4_divide P 21 [(0, .ref (ad 4)), (1, .ref a1), (2, .int x2), (3, .int x3), (4, .long x4)] [] I J := by
  refine s_aload_n 0 dX4_divide_21 rfl ?_
  refine g_X4_24 dX4_divide_22 rfl ?_
  refine s_iconst (v := 2) dX4_divide_25 rfl ?_
  refine s_eqi (y := nI 2) rfl ?_
  refine s_lconst (v := 0) dX4_divide_26 rfl ?_
  refine s_eql f27 ?_
  refine s_lastoreN aJ_C9 (by decide) (by decide) dX4_divide_27 ?_
  refine s_iconst (v := 0) dX4_divide_28 rfl ?_
  refine s_eqi f29 ?_
  refine s_istore [(6, .int v29), (0, .ref (ad 4)), (1, .ref a1), (2, .int x2), (3, .int x3), (4, .long x4)] dX4_divide_29 (Nat.lt_of_lt_of_le (Nat.lt_succ_self _) (Nat.le_of_ble_eq_true rfl)) rfl ?_
  refine s_pick [1, 2, 3, 4, 5, 0] [(0, .ref (ad 4)), (1, .ref a1), (2, .int x2), (3, .int x3), (4, .long x4), (6, .int v29)] rfl ?_; exact k
theorem bX4_divide_31 {l : Launch} {D : va_G} {aI aL : ClassId} {ad : Nat → Nat} {P : sa_P} {I : sa_I} {J : sa_J} {a1 q1 n1 : Nat} {x2 : Int32} {x3 : Int32} {x4 : Int64} {x6 : Int32} (hq1 : sa_iJ (EC l D aI aL ad) a1 q1 n1) (hn1 : n1 < 2 ^ 31)  (kt : I 4 0 ≤ x6 → Sat (EC l D aI aL ad) M_X4_divide P 118 [] [] I J) (kf : ¬ I 4 0 ≤ x6 → Sat (EC l D aI aL ad) M_X4_divide P 40 [(0, .ref (ad 4)), (1, .ref a1), (2, .int x2), (3, .int x3), (4, .long x4), (6, .int x6)] [] I J) : Sat (EC l D aI aL ad) M_X4_divide P 31 [(0, .ref (ad 4)), (1, .ref a1), (2, .int x2), (3, .int x3), (4, .long x4), (6, .int x6)] [] I J := by
  refine s_iload 5 dX4_divide_31 rfl ?_
  refine s_aload_n 0 dX4_divide_33 rfl ?_
  refine g_X4_36 dX4_divide_34 rfl ?_
  refine s_icmp_ge (tgt := 118) dX4_divide_37 (by decide) (fun c => ?_) (fun c => ?_)
  · refine s_pick [] [] rfl ?_; exact kt c
  · exact kf c
theorem bX4_divide_40 {l : Launch} {D : va_G} {aI aL : ClassId} {ad : Nat → Nat} {P : sa_P} {I : sa_I} {J : sa_J} {a1 q1 n1 : Nat} {x2 : Int32} {x3 : Int32} {x4 : Int64} {x6 : Int32} (hq1 : sa_iJ (EC l D aI aL ad) a1 q1 n1) (hn1 : n1 < 2 ^ 31)  (k : Sat (EC l D aI aL ad) M_X4_divide P 43 [(0, .ref (ad 4)), (1, .ref a1), (2, .int x2), (3, .int x3), (4, .long x4), (6, .int x6)] [.int x3, .ref a1, .ref (ad 4)] I J) : Sat (EC l D aI aL ad) M_X4_divide P 40 [(0, .ref (ad 4)), (1, .ref a1), (2, .int x2), (3, .int x3), (4, .long x4), (6, .int x6)] [] I J := by
  refine s_aload_n 0 dX4_divide_40 rfl ?_
  refine s_aload_n 1 dX4_divide_41 rfl ?_
  refine s_iload_n 3 dX4_divide_42 rfl ?_
  exact k
theorem bX4_divide_46 {l : Launch} {D : va_G} {aI aL : ClassId} {ad : Nat → Nat} {P : sa_P} {I : sa_I} {J : sa_J} {a1 q1 n1 : Nat} {x2 : Int32} {x3 : Int32} {x4 : Int64} {x6 : Int32} {v47 : Int32} (hq1 : sa_iJ (EC l D aI aL ad) a1 q1 n1) (hn1 : n1 < 2 ^ 31) (f47 : (0 : Int32) = v47) (k : Sat (EC l D aI aL ad) M_X4_divide P 49 [(0, .ref (ad 4)), (1, .ref a1), (2, .int x2), (3, .int x3), (4, .long x4), (6, .int x6), (7, .int v47)] [] I J) : Sat (EC l D aI aL ad) M_X4_divide P 46 [(0, .ref (ad 4)), (1, .ref a1), (2, .int x2), (3, .int x3), (4, .long x4), (6, .int x6)] [] I J := by
  refine s_iconst (v := 0) dX4_divide_46 rfl ?_
  refine s_eqi f47 ?_
  refine s_istore [(7, .int v47), (0, .ref (ad 4)), (1, .ref a1), (2, .int x2), (3, .int x3), (4, .long x4), (6, .int x6)] dX4_divide_47 (Nat.lt_of_lt_of_le (Nat.lt_succ_self _) (Nat.le_of_ble_eq_true rfl)) rfl ?_
  refine s_pick [1, 2, 3, 4, 5, 6, 0] [(0, .ref (ad 4)), (1, .ref a1), (2, .int x2), (3, .int x3), (4, .long x4), (6, .int x6), (7, .int v47)] rfl ?_; exact k
theorem bX4_divide_49 {l : Launch} {D : va_G} {aI aL : ClassId} {ad : Nat → Nat} {P : sa_P} {I : sa_I} {J : sa_J} {a1 q1 n1 : Nat} {x2 : Int32} {x3 : Int32} {x4 : Int64} {x6 : Int32} {x7 : Int32} (hq1 : sa_iJ (EC l D aI aL ad) a1 q1 n1) (hn1 : n1 < 2 ^ 31)  (kt : I 4 0 ≤ x7 → Sat (EC l D aI aL ad) M_X4_divide P 82 [(0, .ref (ad 4)), (1, .ref a1), (2, .int x2), (3, .int x3), (4, .long x4), (6, .int x6)] [] I J) (kf : ¬ I 4 0 ≤ x7 → Sat (EC l D aI aL ad) M_X4_divide P 58 [(0, .ref (ad 4)), (1, .ref a1), (2, .int x2), (3, .int x3), (4, .long x4), (6, .int x6), (7, .int x7)] [] I J) : Sat (EC l D aI aL ad) M_X4_divide P 49 [(0, .ref (ad 4)), (1, .ref a1), (2, .int x2), (3, .int x3), (4, .long x4), (6, .int x6), (7, .int x7)] [] I J := by
  refine s_iload 6 dX4_divide_49 rfl ?_
  refine s_aload_n 0 dX4_divide_51 rfl ?_
  refine g_X4_36 dX4_divide_52 rfl ?_
  refine s_icmp_ge (tgt := 82) dX4_divide_55 (by decide) (fun c => ?_) (fun c => ?_)
  · refine s_pick [0, 1, 2, 3, 4, 5] [(0, .ref (ad 4)), (1, .ref a1), (2, .int x2), (3, .int x3), (4, .long x4), (6, .int x6)] rfl ?_; exact kt c
  · exact kf c
theorem bX4_divide_58 {l : Launch} {D : va_G} {aI aL : ClassId} {ad : Nat → Nat} {P : sa_P} {I : sa_I} {J : sa_J} {a1 q1 n1 : Nat} {x2 : Int32} {x3 : Int32} {x4 : Int64} {x6 : Int32} {x7 : Int32} {j68 : Nat} {j73 : Nat} {v75 : Int64} {v76 : Int32} (hq1 : sa_iJ (EC l D aI aL ad) a1 q1 n1) (hn1 : n1 < 2 ^ 31) (e68 : ((3 : Int32) * x6) + x7 = nI j68) (e73 : x2 + x7 = nI j73) (h74 : j73 < n1) (h75 : j68 < 9) (f75 : J q1 j73 = v75) (f76 : x7 + 1 = v76) (k : Sat (EC l D aI aL ad) M_X4_divide P 49 [(0, .ref (ad 4)), (1, .ref a1), (2, .int x2), (3, .int x3), (4, .long x4), (6, .int x6), (7, .int v76)] [] I (sa_uJ J 10 j68 v75)) : Sat (EC l D aI aL ad) M_X4_divide P 58 [(0, .ref (ad 4)), (1, .ref a1), (2, .int x2), (3, .int x3), (4, .long x4), (6, .int x6), (7, .int x7)] [] I J := by
  refine s_aload_n 0 dX4_divide_58 rfl ?_
  refine g_X4_27 dX4_divide_59 rfl ?_
  refine s_iconst (v := 3) dX4_divide_62 rfl ?_
  refine s_iload 5 dX4_divide_63 rfl ?_
  refine s_imul dX4_divide_65 ?_
  refine s_iload 6 dX4_divide_66 rfl ?_
  refine s_iadd dX4_divide_68 ?_
  refine s_eqi e68 ?_
  refine s_aload_n 1 dX4_divide_69 rfl ?_
  refine s_iload_n 2 dX4_divide_70 rfl ?_
  refine s_iload 6 dX4_divide_71 rfl ?_
  refine s_iadd dX4_divide_73 ?_
  refine s_eqi e73 ?_
  refine s_laloadN hq1 h74 hn1 dX4_divide_74 ?_
  refine s_eql f75 ?_
  refine s_lastoreN aJ_C10 h75 (by decide) dX4_divide_75 ?_
  refine s_iinc 6 v76 [(7, .int v76), (0, .ref (ad 4)), (1, .ref a1), (2, .int x2), (3, .int x3), (4, .long x4), (6, .int x6)] dX4_divide_76 rfl f76 (Nat.lt_of_lt_of_le (Nat.lt_succ_self _) (Nat.le_of_ble_eq_true rfl)) rfl ?_
  refine s_goto (tgt := 49) dX4_divide_79 (by decide) ?_
  refine s_pick [1, 2, 3, 4, 5, 6, 0] [(0, .ref (ad 4)), (1, .ref a1), (2, .int x2), (3, .int x3), (4, .long x4), (6, .int x6), (7, .int v76)] rfl ?_; exact k
theorem bX4_divide_82 {l : Launch} {D : va_G} {aI aL : ClassId} {ad : Nat → Nat} {P : sa_P} {I : sa_I} {J : sa_J} {a1 q1 n1 : Nat} {x2 : Int32} {x3 : Int32} {x4 : Int64} {x6 : Int32} (hq1 : sa_iJ (EC l D aI aL ad) a1 q1 n1) (hn1 : n1 < 2 ^ 31)  (k : Sat (EC l D aI aL ad) M_X4_divide P 83 [(0, .ref (ad 4)), (1, .ref a1), (2, .int x2), (3, .int x3), (4, .long x4), (6, .int x6)] [.ref (ad 4)] I J) : Sat (EC l D aI aL ad) M_X4_divide P 82 [(0, .ref (ad 4)), (1, .ref a1), (2, .int x2), (3, .int x3), (4, .long x4), (6, .int x6)] [] I J := by
  refine s_aload_n 0 dX4_divide_82 rfl ?_
  exact k
theorem bX4_divide_86 {l : Launch} {D : va_G} {aI aL : ClassId} {ad : Nat → Nat} {P : sa_P} {I : sa_I} {J : sa_J} {a1 q1 n1 : Nat} {x2 : Int32} {x3 : Int32} {x4 : Int64} {x6 : Int32} {s0 : Int64} (hq1 : sa_iJ (EC l D aI aL ad) a1 q1 n1) (hn1 : n1 < 2 ^ 31) (z92 : ¬ x4 = 0)  (kt : s0 - s0 / x4 * x4 = (0 : Int64) → Sat (EC l D aI aL ad) M_X4_divide P 100 [(0, .ref (ad 4)), (1, .ref a1), (2, .int x2), (3, .int x3), (4, .long x4), (6, .int x6), (7, .long s0)] [] I J) (kf : ¬ s0 - s0 / x4 * x4 = (0 : Int64) → Sat (EC l D aI aL ad) M_X4_divide P 98 [] [] I J) : Sat (EC l D aI aL ad) M_X4_divide P 86 [(0, .ref (ad 4)), (1, .ref a1), (2, .int x2), (3, .int x3), (4, .long x4), (6, .int x6)] [.long s0] I J := by
  refine s_lstore [(7, .long s0), (0, .ref (ad 4)), (1, .ref a1), (2, .int x2), (3, .int x3), (4, .long x4), (6, .int x6)] dX4_divide_86 (Nat.lt_of_lt_of_le (Nat.lt_succ_self _) (Nat.le_of_ble_eq_true rfl)) rfl ?_
  refine s_lload 0 dX4_divide_88 rfl ?_
  refine s_lload 5 dX4_divide_90 rfl ?_
  refine s_lrem dX4_divide_92 z92 ?_
  refine s_lconst (v := 0) dX4_divide_93 rfl ?_
  refine s_lif_eq (tgt := 100) dX4_divide_94 dX4_divide_95 (by decide) (fun c => ?_) (fun c => ?_)
  · refine s_pick [1, 2, 3, 4, 5, 6, 0] [(0, .ref (ad 4)), (1, .ref a1), (2, .int x2), (3, .int x3), (4, .long x4), (6, .int x6), (7, .long s0)] rfl ?_; exact kt c
  · refine s_pick [] [] rfl ?_; exact kf c
theorem bX4_divide_98 {l : Launch} {D : va_G} {aI aL : ClassId} {ad : Nat → Nat} {P : sa_P} {I : sa_I} {J : sa_J}    (k : P (some (.int (0 : Int32))) I J) : Sat (EC l D aI aL ad) M_X4_divide P 98 [] [] I J := by
  refine s_iconst (v := 0) dX4_divide_98 rfl ?_
  exact s_zret rfl rfl dX4_divide_99 k
theorem bX4_divide_100 {l : Launch} {D : va_G} {aI aL : ClassId} {ad : Nat → Nat} {P : sa_P} {I : sa_I} {J : sa_J} {a1 q1 n1 : Nat} {x2 : Int32} {x3 : Int32} {x4 : Int64} {x6 : Int32} {x7 : Int64} {j104 : Nat} {v111 : Int64} {v112 : Int32} (hq1 : sa_iJ (EC l D aI aL ad) a1 q1 n1) (hn1 : n1 < 2 ^ 31) (e104 : x6 = nI j104) (z110 : ¬ x4 = 0) (h111 : j104 < 3) (f111 : x7 / x4 = v111) (f112 : x6 + 1 = v112) (k : Sat (EC l D aI aL ad) M_X4_divide P 31 [(0, .ref (ad 4)), (1, .ref a1), (2, .int x2), (3, .int x3), (4, .long x4), (6, .int v112)] [] I (sa_uJ J 9 j104 v111)) : Sat (EC l D aI aL ad) M_X4_divide P 100 [(0, .ref (ad 4)), (1, .ref a1), (2, .int x2), (3, .int x3), (4, .long x4), (6, .int x6), (7, .long x7)] [] I J := by
  refine s_aload_n 0 dX4_divide_100 rfl ?_
  refine g_X4_24 dX4_divide_101 rfl ?_
  refine s_iload 5 dX4_divide_104 rfl ?_
  refine s_eqi e104 ?_
  refine s_lload 6 dX4_divide_106 rfl ?_
  refine s_lload 4 dX4_divide_108 rfl ?_
  refine s_ldiv dX4_divide_110 z110 ?_
  refine s_eql f111 ?_
  refine s_lastoreN aJ_C9 h111 (by decide) dX4_divide_111 ?_
  refine s_iinc 5 v112 [(6, .int v112), (0, .ref (ad 4)), (1, .ref a1), (2, .int x2), (3, .int x3), (4, .long x4), (7, .long x7)] dX4_divide_112 rfl f112 (Nat.lt_of_lt_of_le (Nat.lt_succ_self _) (Nat.le_of_ble_eq_true rfl)) rfl ?_
  refine s_goto (tgt := 31) dX4_divide_115 (by decide) ?_
  refine s_pick [1, 2, 3, 4, 5, 0] [(0, .ref (ad 4)), (1, .ref a1), (2, .int x2), (3, .int x3), (4, .long x4), (6, .int v112)] rfl ?_; exact k
theorem bX4_divide_118 {l : Launch} {D : va_G} {aI aL : ClassId} {ad : Nat → Nat} {P : sa_P} {I : sa_I} {J : sa_J}    (k : P (some (.int (1 : Int32))) I J) : Sat (EC l D aI aL ad) M_X4_divide P 118 [] [] I J := by
  refine s_iconst (v := 1) dX4_divide_118 rfl ?_
  exact s_zret rfl rfl dX4_divide_119 k
/-! X4_matrixOf -/
theorem dX4_matrixOf_0 : decode cX4_matrixOf 0 = .ok (.iconst 0, 1) := by decide +kernel
theorem dX4_matrixOf_1 : decode cX4_matrixOf 1 = .ok (.istore_n 3, 1) := by decide +kernel
theorem dX4_matrixOf_2 : decode cX4_matrixOf 2 = .ok (.iload_n 3, 1) := by decide +kernel
theorem dX4_matrixOf_3 : decode cX4_matrixOf 3 = .ok (.aload_n 0, 1) := by decide +kernel
theorem dX4_matrixOf_4 : decode cX4_matrixOf 4 = .ok (.getfield 36, 3) := by decide +kernel
theorem dX4_matrixOf_7 : decode cX4_matrixOf 7 = .ok (.if_icmp .ge 90, 3) := by decide +kernel
theorem dX4_matrixOf_10 : decode cX4_matrixOf 10 = .ok (.iconst 0, 1) := by decide +kernel
theorem dX4_matrixOf_11 : decode cX4_matrixOf 11 = .ok (.istore 4, 2) := by decide +kernel
theorem dX4_matrixOf_13 : decode cX4_matrixOf 13 = .ok (.iload 4, 2) := by decide +kernel
theorem dX4_matrixOf_15 : decode cX4_matrixOf 15 = .ok (.aload_n 0, 1) := by decide +kernel
theorem dX4_matrixOf_16 : decode cX4_matrixOf 16 = .ok (.getfield 36, 3) := by decide +kernel
theorem dX4_matrixOf_19 : decode cX4_matrixOf 19 = .ok (.if_icmp .ge 72, 3) := by decide +kernel
theorem dX4_matrixOf_22 : decode cX4_matrixOf 22 = .ok (.lconst 0, 1) := by decide +kernel
theorem dX4_matrixOf_23 : decode cX4_matrixOf 23 = .ok (.lstore 5, 2) := by decide +kernel
theorem dX4_matrixOf_25 : decode cX4_matrixOf 25 = .ok (.iconst 0, 1) := by decide +kernel
theorem dX4_matrixOf_26 : decode cX4_matrixOf 26 = .ok (.istore 7, 2) := by decide +kernel
theorem dX4_matrixOf_28 : decode cX4_matrixOf 28 = .ok (.iload 7, 2) := by decide +kernel
theorem dX4_matrixOf_30 : decode cX4_matrixOf 30 = .ok (.aload_n 0, 1) := by decide +kernel
theorem dX4_matrixOf_31 : decode cX4_matrixOf 31 = .ok (.getfield 36, 3) := by decide +kernel
theorem dX4_matrixOf_34 : decode cX4_matrixOf 34 = .ok (.if_icmp .ge 38, 3) := by decide +kernel
theorem dX4_matrixOf_37 : decode cX4_matrixOf 37 = .ok (.lload 5, 2) := by decide +kernel
theorem dX4_matrixOf_39 : decode cX4_matrixOf 39 = .ok (.aload_n 1, 1) := by decide +kernel
theorem dX4_matrixOf_40 : decode cX4_matrixOf 40 = .ok (.iload_n 2, 1) := by decide +kernel
theorem dX4_matrixOf_41 : decode cX4_matrixOf 41 = .ok (.iload 7, 2) := by decide +kernel
theorem dX4_matrixOf_43 : decode cX4_matrixOf 43 = .ok (.iadd, 1) := by decide +kernel
theorem dX4_matrixOf_44 : decode cX4_matrixOf 44 = .ok (.laload, 1) := by decide +kernel
theorem dX4_matrixOf_45 : decode cX4_matrixOf 45 = .ok (.aload_n 0, 1) := by decide +kernel
theorem dX4_matrixOf_46 : decode cX4_matrixOf 46 = .ok (.getfield 21, 3) := by decide +kernel
theorem dX4_matrixOf_49 : decode cX4_matrixOf 49 = .ok (.bipush 9, 2) := by decide +kernel
theorem dX4_matrixOf_51 : decode cX4_matrixOf 51 = .ok (.iload 7, 2) := by decide +kernel
theorem dX4_matrixOf_53 : decode cX4_matrixOf 53 = .ok (.imul, 1) := by decide +kernel
theorem dX4_matrixOf_54 : decode cX4_matrixOf 54 = .ok (.iconst 3, 1) := by decide +kernel
theorem dX4_matrixOf_55 : decode cX4_matrixOf 55 = .ok (.iload_n 3, 1) := by decide +kernel
theorem dX4_matrixOf_56 : decode cX4_matrixOf 56 = .ok (.imul, 1) := by decide +kernel
theorem dX4_matrixOf_57 : decode cX4_matrixOf 57 = .ok (.iadd, 1) := by decide +kernel
theorem dX4_matrixOf_58 : decode cX4_matrixOf 58 = .ok (.iload 4, 2) := by decide +kernel
theorem dX4_matrixOf_60 : decode cX4_matrixOf 60 = .ok (.iadd, 1) := by decide +kernel
theorem dX4_matrixOf_61 : decode cX4_matrixOf 61 = .ok (.laload, 1) := by decide +kernel
theorem dX4_matrixOf_62 : decode cX4_matrixOf 62 = .ok (.lmul, 1) := by decide +kernel
theorem dX4_matrixOf_63 : decode cX4_matrixOf 63 = .ok (.ladd, 1) := by decide +kernel
theorem dX4_matrixOf_64 : decode cX4_matrixOf 64 = .ok (.lstore 5, 2) := by decide +kernel
theorem dX4_matrixOf_66 : decode cX4_matrixOf 66 = .ok (.iinc 7 1, 3) := by decide +kernel
theorem dX4_matrixOf_69 : decode cX4_matrixOf 69 = .ok (.goto (-41), 3) := by decide +kernel
theorem dX4_matrixOf_72 : decode cX4_matrixOf 72 = .ok (.aload_n 0, 1) := by decide +kernel
theorem dX4_matrixOf_73 : decode cX4_matrixOf 73 = .ok (.getfield 27, 3) := by decide +kernel
theorem dX4_matrixOf_76 : decode cX4_matrixOf 76 = .ok (.iconst 3, 1) := by decide +kernel
theorem dX4_matrixOf_77 : decode cX4_matrixOf 77 = .ok (.iload_n 3, 1) := by decide +kernel
theorem dX4_matrixOf_78 : decode cX4_matrixOf 78 = .ok (.imul, 1) := by decide +kernel
theorem dX4_matrixOf_79 : decode cX4_matrixOf 79 = .ok (.iload 4, 2) := by decide +kernel
theorem dX4_matrixOf_81 : decode cX4_matrixOf 81 = .ok (.iadd, 1) := by decide +kernel
theorem dX4_matrixOf_82 : decode cX4_matrixOf 82 = .ok (.lload 5, 2) := by decide +kernel
theorem dX4_matrixOf_84 : decode cX4_matrixOf 84 = .ok (.lastore, 1) := by decide +kernel
theorem dX4_matrixOf_85 : decode cX4_matrixOf 85 = .ok (.iinc 4 1, 3) := by decide +kernel
theorem dX4_matrixOf_88 : decode cX4_matrixOf 88 = .ok (.goto (-75), 3) := by decide +kernel
theorem dX4_matrixOf_91 : decode cX4_matrixOf 91 = .ok (.iinc 3 1, 3) := by decide +kernel
theorem dX4_matrixOf_94 : decode cX4_matrixOf 94 = .ok (.goto (-92), 3) := by decide +kernel
theorem dX4_matrixOf_97 : decode cX4_matrixOf 97 = .ok (.return_, 1) := by decide +kernel
theorem bX4_matrixOf_0 {l : Launch} {D : va_G} {aI aL : ClassId} {ad : Nat → Nat} {P : sa_P} {I : sa_I} {J : sa_J} {a1 q1 n1 : Nat} {x2 : Int32} {v1 : Int32} (hq1 : sa_iJ (EC l D aI aL ad) a1 q1 n1) (hn1 : n1 < 2 ^ 31) (f1 : (0 : Int32) = v1) (k : Sat (EC l D aI aL ad) M_X4_matrixOf P 2 [(0, .ref (ad 4)), (1, .ref a1), (2, .int x2), (3, .int v1)] [] I J) : Sat (EC l D aI aL ad) M_X4_matrixOf P 0 [(0, .ref (ad 4)), (1, .ref a1), (2, .int x2)] [] I J := by
  refine s_iconst (v := 0) dX4_matrixOf_0 rfl ?_
  refine s_eqi f1 ?_
  refine s_istore_n [(3, .int v1), (0, .ref (ad 4)), (1, .ref a1), (2, .int x2)] dX4_matrixOf_1 (Nat.lt_of_lt_of_le (Nat.lt_succ_self _) (Nat.le_of_ble_eq_true rfl)) rfl ?_
  refine s_pick [1, 2, 3, 0] [(0, .ref (ad 4)), (1, .ref a1), (2, .int x2), (3, .int v1)] rfl ?_; exact k
theorem bX4_matrixOf_2 {l : Launch} {D : va_G} {aI aL : ClassId} {ad : Nat → Nat} {P : sa_P} {I : sa_I} {J : sa_J} {a1 q1 n1 : Nat} {x2 : Int32} {x3 : Int32} (hq1 : sa_iJ (EC l D aI aL ad) a1 q1 n1) (hn1 : n1 < 2 ^ 31)  (kt : I 4 0 ≤ x3 → Sat (EC l D aI aL ad) M_X4_matrixOf P 97 [] [] I J) (kf : ¬ I 4 0 ≤ x3 → Sat (EC l D aI aL ad) M_X4_matrixOf P 10 [(0, .ref (ad 4)), (1, .ref a1), (2, .int x2), (3, .int x3)] [] I J) : Sat (EC l D aI aL ad) M_X4_matrixOf P 2 [(0, .ref (ad 4)), (1, .ref a1), (2, .int x2), (3, .int x3)] [] I J := by
  refine s_iload_n 3 dX4_matrixOf_2 rfl ?_
  refine s_aload_n 0 dX4_matrixOf_3 rfl ?_
  refine g_X4_36 dX4_matrixOf_4 rfl ?_
  refine s_icmp_ge (tgt := 97) dX4_matrixOf_7 (by decide) (fun c => ?_) (fun c => ?_)
  · refine s_pick [] [] rfl ?_; exact kt c
  · exact kf c
theorem bX4_matrixOf_10 {l : Launch} {D : va_G} {aI aL : ClassId} {ad : Nat → Nat} {P : sa_P} {I : sa_I} {J : sa_J} {a1 q1 n1 : Nat} {x2 : Int32} {x3 : Int32} {v11 : Int32} (hq1 : sa_iJ (EC l D aI aL ad) a1 q1 n1) (hn1 : n1 < 2 ^ 31) (f11 : (0 : Int32) = v11) (k : Sat (EC l D aI aL ad) M_X4_matrixOf P 13 [(0, .ref (ad 4)), (1, .ref a1), (2, .int x2), (3, .int x3), (4, .int v11)] [] I J) : Sat (EC l D aI aL ad) M_X4_matrixOf P 10 [(0, .ref (ad 4)), (1, .ref a1), (2, .int x2), (3, .int x3)] [] I J := by
  refine s_iconst (v := 0) dX4_matrixOf_10 rfl ?_
  refine s_eqi f11 ?_
  refine s_istore [(4, .int v11), (0, .ref (ad 4)), (1, .ref a1), (2, .int x2), (3, .int x3)] dX4_matrixOf_11 (Nat.lt_of_lt_of_le (Nat.lt_succ_self _) (Nat.le_of_ble_eq_true rfl)) rfl ?_
  refine s_pick [1, 2, 3, 4, 0] [(0, .ref (ad 4)), (1, .ref a1), (2, .int x2), (3, .int x3), (4, .int v11)] rfl ?_; exact k
theorem bX4_matrixOf_13 {l : Launch} {D : va_G} {aI aL : ClassId} {ad : Nat → Nat} {P : sa_P} {I : sa_I} {J : sa_J} {a1 q1 n1 : Nat} {x2 : Int32} {x3 : Int32} {x4 : Int32} (hq1 : sa_iJ (EC l D aI aL ad) a1 q1 n1) (hn1 : n1 < 2 ^ 31)  (kt : I 4 0 ≤ x4 → Sat (EC l D aI aL ad) M_X4_matrixOf P 91 [(0, .ref (ad 4)), (1, .ref a1), (2, .int x2), (3, .int x3)] [] I J) (kf : ¬ I 4 0 ≤ x4 → Sat (EC l D aI aL ad) M_X4_matrixOf P 22 [(0, .ref (ad 4)), (1, .ref a1), (2, .int x2), (3, .int x3), (4, .int x4)] [] I J) : Sat (EC l D aI aL ad) M_X4_matrixOf P 13 [(0, .ref (ad 4)), (1, .ref a1), (2, .int x2), (3, .int x3), (4, .int x4)] [] I J := by
  refine s_iload 4 dX4_matrixOf_13 rfl ?_
  refine s_aload_n 0 dX4_matrixOf_15 rfl ?_
  refine g_X4_36 dX4_matrixOf_16 rfl ?_
  refine s_icmp_ge (tgt := 91) dX4_matrixOf_19 (by decide) (fun c => ?_) (fun c => ?_)
  · refine s_pick [0, 1, 2, 3] [(0, .ref (ad 4)), (1, .ref a1), (2, .int x2), (3, .int x3)] rfl ?_; exact kt c
  · exact kf c
theorem bX4_matrixOf_22 {l : Launch} {D : va_G} {aI aL : ClassId} {ad : Nat → Nat} {P : sa_P} {I : sa_I} {J : sa_J} {a1 q1 n1 : Nat} {x2 : Int32} {x3 : Int32} {x4 : Int32} {v23 : Int64} {v26 : Int32} (hq1 : sa_iJ (EC l D aI aL ad) a1 q1 n1) (hn1 : n1 < 2 ^ 31) (f23 : (0 : Int64) = v23) (f26 : (0 : Int32) = v26) (k : Sat (EC l D aI aL ad) M_X4_matrixOf P 28 [(0, .ref (ad 4)), (1, .ref a1), (2, .int x2), (3, .int x3), (4, .int x4), (5, .long v23), (7, .int v26)] [] I J) : Sat (EC l D aI aL ad) M_X4_matrixOf P 22 [(0, .ref (ad 4)), (1, .ref a1), (2, .int x2), (3, .int x3), (4, .int x4)] [] I J := by
  refine s_lconst (v := 0) dX4_matrixOf_22 rfl ?_
  refine s_eql f23 ?_
  refine s_lstore [(5, .long v23), (0, .ref (ad 4)), (1, .ref a1), (2, .int x2), (3, .int x3), (4, .int x4)] dX4_matrixOf_23 (Nat.lt_of_lt_of_le (Nat.lt_succ_self _) (Nat.le_of_ble_eq_true rfl)) rfl ?_
  refine s_iconst (v := 0) dX4_matrixOf_25 rfl ?_
  refine s_eqi f26 ?_
  refine s_istore [(7, .int v26), (5, .long v23), (0, .ref (ad 4)), (1, .ref a1), (2, .int x2), (3, .int x3), (4, .int x4)] dX4_matrixOf_26 (Nat.lt_of_lt_of_le (Nat.lt_succ_self _) (Nat.le_of_ble_eq_true rfl)) rfl ?_
  refine s_pick [2, 3, 4, 5, 6, 1, 0] [(0, .ref (ad 4)), (1, .ref a1), (2, .int x2), (3, .int x3), (4, .int x4), (5, .long v23), (7, .int v26)] rfl ?_; exact k
theorem bX4_matrixOf_28 {l : Launch} {D : va_G} {aI aL : ClassId} {ad : Nat → Nat} {P : sa_P} {I : sa_I} {J : sa_J} {a1 q1 n1 : Nat} {x2 : Int32} {x3 : Int32} {x4 : Int32} {x5 : Int64} {x7 : Int32} (hq1 : sa_iJ (EC l D aI aL ad) a1 q1 n1) (hn1 : n1 < 2 ^ 31)  (kt : I 4 0 ≤ x7 → Sat (EC l D aI aL ad) M_X4_matrixOf P 72 [(0, .ref (ad 4)), (1, .ref a1), (2, .int x2), (3, .int x3), (4, .int x4), (5, .long x5)] [] I J) (kf : ¬ I 4 0 ≤ x7 → Sat (EC l D aI aL ad) M_X4_matrixOf P 37 [(0, .ref (ad 4)), (1, .ref a1), (2, .int x2), (3, .int x3), (4, .int x4), (5, .long x5), (7, .int x7)] [] I J) : Sat (EC l D aI aL ad) M_X4_matrixOf P 28 [(0, .ref (ad 4)), (1, .ref a1), (2, .int x2), (3, .int x3), (4, .int x4), (5, .long x5), (7, .int x7)] [] I J := by
  refine s_iload 6 dX4_matrixOf_28 rfl ?_
  refine s_aload_n 0 dX4_matrixOf_30 rfl ?_
  refine g_X4_36 dX4_matrixOf_31 rfl ?_
  refine s_icmp_ge (tgt := 72) dX4_matrixOf_34 (by decide) (fun c => ?_) (fun c => ?_)
  · refine s_pick [0, 1, 2, 3, 4, 5] [(0, .ref (ad 4)), (1, .ref a1), (2, .int x2), (3, .int x3), (4, .int x4), (5, .long x5)] rfl ?_; exact kt c
  · exact kf c
theorem bX4_matrixOf_37 {l : Launch} {D : va_G} {aI aL : ClassId} {ad : Nat → Nat} {P : sa_P} {I : sa_I} {J : sa_J} {a1 q1 n1 : Nat} {x2 : Int32} {x3 : Int32} {x4 : Int32} {x5 : Int64} {x7 : Int32} {j43 : Nat} {j60 : Nat} {v64 : Int64} {v66 : Int32} (hq1 : sa_iJ (EC l D aI aL ad) a1 q1 n1) (hn1 : n1 < 2 ^ 31) (e43 : x2 + x7 = nI j43) (h44 : j43 < n1) (e60 : (((9 : Int32) * x7) + ((3 : Int32) * x3)) + x4 = nI j60) (h61 : j60 < 27) (f64 : x5 + ((J q1 j43) * (J 8 j60)) = v64) (f66 : x7 + 1 = v66) (k : Sat (EC l D aI aL ad) M_X4_matrixOf P 28 [(0, .ref (ad 4)), (1, .ref a1), (2, .int x2), (3, .int x3), (4, .int x4), (5, .long v64), (7, .int v66)] [] I J) : Sat (EC l D aI aL ad) M_X4_matrixOf P 37 [(0, .ref (ad 4)), (1, .ref a1), (2, .int x2), (3, .int x3), (4, .int x4), (5, .long x5), (7, .int x7)] [] I J := by
  refine s_lload 5 dX4_matrixOf_37 rfl ?_
  refine s_aload_n 1 dX4_matrixOf_39 rfl ?_
  refine s_iload_n 2 dX4_matrixOf_40 rfl ?_
  refine s_iload 6 dX4_matrixOf_41 rfl ?_
  refine s_iadd dX4_matrixOf_43 ?_
  refine s_eqi e43 ?_
  refine s_laloadN hq1 h44 hn1 dX4_matrixOf_44 ?_
  refine s_aload_n 0 dX4_matrixOf_45 rfl ?_
  refine g_X4_21 dX4_matrixOf_46 rfl ?_
  refine s_bipush (v := 9) dX4_matrixOf_49 rfl ?_
  refine s_iload 6 dX4_matrixOf_51 rfl ?_
  refine s_imul dX4_matrixOf_53 ?_
  refine s_iconst (v := 3) dX4_matrixOf_54 rfl ?_
  refine s_iload_n 3 dX4_matrixOf_55 rfl ?_
  refine s_imul dX4_matrixOf_56 ?_
  refine s_iadd dX4_matrixOf_57 ?_
  refine s_iload 4 dX4_matrixOf_58 rfl ?_
  refine s_iadd dX4_matrixOf_60 ?_
  refine s_eqi e60 ?_
  refine s_laloadN aJ_C8 h61 (by decide) dX4_matrixOf_61 ?_
  refine s_lmul dX4_matrixOf_62 ?_
  refine s_ladd dX4_matrixOf_63 ?_
  refine s_eql f64 ?_
  refine s_lstore [(5, .long v64), (0, .ref (ad 4)), (1, .ref a1), (2, .int x2), (3, .int x3), (4, .int x4), (7, .int x7)] dX4_matrixOf_64 (Nat.lt_of_lt_of_le (Nat.lt_succ_self _) (Nat.le_of_ble_eq_true rfl)) rfl ?_
  refine s_iinc 6 v66 [(7, .int v66), (5, .long v64), (0, .ref (ad 4)), (1, .ref a1), (2, .int x2), (3, .int x3), (4, .int x4)] dX4_matrixOf_66 rfl f66 (Nat.lt_of_lt_of_le (Nat.lt_succ_self _) (Nat.le_of_ble_eq_true rfl)) rfl ?_
  refine s_goto (tgt := 28) dX4_matrixOf_69 (by decide) ?_
  refine s_pick [2, 3, 4, 5, 6, 1, 0] [(0, .ref (ad 4)), (1, .ref a1), (2, .int x2), (3, .int x3), (4, .int x4), (5, .long v64), (7, .int v66)] rfl ?_; exact k
theorem bX4_matrixOf_72 {l : Launch} {D : va_G} {aI aL : ClassId} {ad : Nat → Nat} {P : sa_P} {I : sa_I} {J : sa_J} {a1 q1 n1 : Nat} {x2 : Int32} {x3 : Int32} {x4 : Int32} {x5 : Int64} {j81 : Nat} {v85 : Int32} (hq1 : sa_iJ (EC l D aI aL ad) a1 q1 n1) (hn1 : n1 < 2 ^ 31) (e81 : ((3 : Int32) * x3) + x4 = nI j81) (h84 : j81 < 9) (f85 : x4 + 1 = v85) (k : Sat (EC l D aI aL ad) M_X4_matrixOf P 13 [(0, .ref (ad 4)), (1, .ref a1), (2, .int x2), (3, .int x3), (4, .int v85)] [] I (sa_uJ J 10 j81 x5)) : Sat (EC l D aI aL ad) M_X4_matrixOf P 72 [(0, .ref (ad 4)), (1, .ref a1), (2, .int x2), (3, .int x3), (4, .int x4), (5, .long x5)] [] I J := by
  refine s_aload_n 0 dX4_matrixOf_72 rfl ?_
  refine g_X4_27 dX4_matrixOf_73 rfl ?_
  refine s_iconst (v := 3) dX4_matrixOf_76 rfl ?_
  refine s_iload_n 3 dX4_matrixOf_77 rfl ?_
  refine s_imul dX4_matrixOf_78 ?_
  refine s_iload 4 dX4_matrixOf_79 rfl ?_
  refine s_iadd dX4_matrixOf_81 ?_
  refine s_eqi e81 ?_
  refine s_lload 5 dX4_matrixOf_82 rfl ?_
  refine s_lastoreN aJ_C10 h84 (by decide) dX4_matrixOf_84 ?_
  refine s_iinc 4 v85 [(4, .int v85), (0, .ref (ad 4)), (1, .ref a1), (2, .int x2), (3, .int x3), (5, .long x5)] dX4_matrixOf_85 rfl f85 (Nat.lt_of_lt_of_le (Nat.lt_succ_self _) (Nat.le_of_ble_eq_true rfl)) rfl ?_
  refine s_goto (tgt := 13) dX4_matrixOf_88 (by decide) ?_
  refine s_pick [1, 2, 3, 4, 0] [(0, .ref (ad 4)), (1, .ref a1), (2, .int x2), (3, .int x3), (4, .int v85)] rfl ?_; exact k
theorem bX4_matrixOf_91 {l : Launch} {D : va_G} {aI aL : ClassId} {ad : Nat → Nat} {P : sa_P} {I : sa_I} {J : sa_J} {a1 q1 n1 : Nat} {x2 : Int32} {x3 : Int32} {v91 : Int32} (hq1 : sa_iJ (EC l D aI aL ad) a1 q1 n1) (hn1 : n1 < 2 ^ 31) (f91 : x3 + 1 = v91) (k : Sat (EC l D aI aL ad) M_X4_matrixOf P 2 [(0, .ref (ad 4)), (1, .ref a1), (2, .int x2), (3, .int v91)] [] I J) : Sat (EC l D aI aL ad) M_X4_matrixOf P 91 [(0, .ref (ad 4)), (1, .ref a1), (2, .int x2), (3, .int x3)] [] I J := by
  refine s_iinc 3 v91 [(3, .int v91), (0, .ref (ad 4)), (1, .ref a1), (2, .int x2)] dX4_matrixOf_91 rfl f91 (Nat.lt_of_lt_of_le (Nat.lt_succ_self _) (Nat.le_of_ble_eq_true rfl)) rfl ?_
  refine s_goto (tgt := 2) dX4_matrixOf_94 (by decide) ?_
  refine s_pick [1, 2, 3, 0] [(0, .ref (ad 4)), (1, .ref a1), (2, .int x2), (3, .int v91)] rfl ?_; exact k
theorem bX4_matrixOf_97 {l : Launch} {D : va_G} {aI aL : ClassId} {ad : Nat → Nat} {P : sa_P} {I : sa_I} {J : sa_J}    (k : P (none) I J) : Sat (EC l D aI aL ad) M_X4_matrixOf P 97 [] [] I J := by
  exact s_vret rfl dX4_matrixOf_97 k
/-! X4_minor -/
theorem dX4_minor_0 : decode cX4_minor 0 = .ok (.aload_n 0, 1) := by decide +kernel
theorem dX4_minor_1 : decode cX4_minor 1 = .ok (.getfield 27, 3) := by decide +kernel
theorem dX4_minor_4 : decode cX4_minor 4 = .ok (.iload_n 1, 1) := by decide +kernel
theorem dX4_minor_5 : decode cX4_minor 5 = .ok (.laload, 1) := by decide +kernel
theorem dX4_minor_6 : decode cX4_minor 6 = .ok (.aload_n 0, 1) := by decide +kernel
theorem dX4_minor_7 : decode cX4_minor 7 = .ok (.getfield 27, 3) := by decide +kernel
theorem dX4_minor_10 : decode cX4_minor 10 = .ok (.iload 4, 2) := by decide +kernel
theorem dX4_minor_12 : decode cX4_minor 12 = .ok (.laload, 1) := by decide +kernel
theorem dX4_minor_13 : decode cX4_minor 13 = .ok (.lmul, 1) := by decide +kernel
theorem dX4_minor_14 : decode cX4_minor 14 = .ok (.aload_n 0, 1) := by decide +kernel
theorem dX4_minor_15 : decode cX4_minor 15 = .ok (.getfield 27, 3) := by decide +kernel
theorem dX4_minor_18 : decode cX4_minor 18 = .ok (.iload_n 2, 1) := by decide +kernel
theorem dX4_minor_19 : decode cX4_minor 19 = .ok (.laload, 1) := by decide +kernel
theorem dX4_minor_20 : decode cX4_minor 20 = .ok (.aload_n 0, 1) := by decide +kernel
theorem dX4_minor_21 : decode cX4_minor 21 = .ok (.getfield 27, 3) := by decide +kernel
theorem dX4_minor_24 : decode cX4_minor 24 = .ok (.iload_n 3, 1) := by decide +kernel
theorem dX4_minor_25 : decode cX4_minor 25 = .ok (.laload, 1) := by decide +kernel
theorem dX4_minor_26 : decode cX4_minor 26 = .ok (.lmul, 1) := by decide +kernel
theorem dX4_minor_27 : decode cX4_minor 27 = .ok (.lsub, 1) := by decide +kernel
theorem dX4_minor_28 : decode cX4_minor 28 = .ok (.lreturn, 1) := by decide +kernel
theorem bX4_minor_0 {l : Launch} {D : va_G} {aI aL : ClassId} {ad : Nat → Nat} {P : sa_P} {I : sa_I} {J : sa_J} {x1 : Int32} {x2 : Int32} {x3 : Int32} {x4 : Int32} {j4 : Nat} {j10 : Nat} {j18 : Nat} {j24 : Nat} (e4 : x1 = nI j4) (h5 : j4 < 9) (e10 : x4 = nI j10) (h12 : j10 < 9) (e18 : x2 = nI j18) (h19 : j18 < 9) (e24 : x3 = nI j24) (h25 : j24 < 9)  (k : P (some (.long (((J 10 j4) * (J 10 j10)) - ((J 10 j18) * (J 10 j24))))) I J) : Sat (EC l D aI aL ad) M_X4_minor P 0 [(0, .ref (ad 4)), (1, .int x1), (2, .int x2), (3, .int x3), (4, .int x4)] [] I J := by
  refine s_aload_n 0 dX4_minor_0 rfl ?_
  refine g_X4_27 dX4_minor_1 rfl ?_
  refine s_iload_n 1 dX4_minor_4 rfl ?_
  refine s_eqi e4 ?_
  refine s_laloadN aJ_C10 h5 (by decide) dX4_minor_5 ?_
  refine s_aload_n 0 dX4_minor_6 rfl ?_
  refine g_X4_27 dX4_minor_7 rfl ?_
  refine s_iload 4 dX4_minor_10 rfl ?_
  refine s_eqi e10 ?_
  refine s_laloadN aJ_C10 h12 (by decide) dX4_minor_12 ?_
  refine s_lmul dX4_minor_13 ?_
  refine s_aload_n 0 dX4_minor_14 rfl ?_
  refine g_X4_27 dX4_minor_15 rfl ?_
  refine s_iload_n 2 dX4_minor_18 rfl ?_
  refine s_eqi e18 ?_
  refine s_laloadN aJ_C10 h19 (by decide) dX4_minor_19 ?_
  refine s_aload_n 0 dX4_minor_20 rfl ?_
  refine g_X4_27 dX4_minor_21 rfl ?_
  refine s_iload_n 3 dX4_minor_24 rfl ?_
  refine s_eqi e24 ?_
  refine s_laloadN aJ_C10 h25 (by decide) dX4_minor_25 ?_
  refine s_lmul dX4_minor_26 ?_
  refine s_lsub dX4_minor_27 ?_
  exact s_lret rfl dX4_minor_28 k
/-! X4_matrixNorm -/
theorem dX4_matrixNorm_0 : decode cX4_matrixNorm 0 = .ok (.aload_n 0, 1) := by decide +kernel
theorem dX4_matrixNorm_1 : decode cX4_matrixNorm 1 = .ok (.getfield 36, 3) := by decide +kernel
theorem dX4_matrixNorm_4 : decode cX4_matrixNorm 4 = .ok (.iconst 2, 1) := by decide +kernel
theorem dX4_matrixNorm_5 : decode cX4_matrixNorm 5 = .ok (.if_icmp .ne 12, 3) := by decide +kernel
theorem dX4_matrixNorm_8 : decode cX4_matrixNorm 8 = .ok (.aload_n 0, 1) := by decide +kernel
theorem dX4_matrixNorm_9 : decode cX4_matrixNorm 9 = .ok (.iconst 0, 1) := by decide +kernel
theorem dX4_matrixNorm_10 : decode cX4_matrixNorm 10 = .ok (.iconst 1, 1) := by decide +kernel
theorem dX4_matrixNorm_11 : decode cX4_matrixNorm 11 = .ok (.iconst 3, 1) := by decide +kernel
theorem dX4_matrixNorm_12 : decode cX4_matrixNorm 12 = .ok (.iconst 4, 1) := by decide +kernel
theorem dX4_matrixNorm_13 : decode cX4_matrixNorm 13 = .ok (.invokevirtual 107, 3) := by decide +kernel
theorem dX4_matrixNorm_16 : decode cX4_matrixNorm 16 = .ok (.lreturn, 1) := by decide +kernel
theorem dX4_matrixNorm_17 : decode cX4_matrixNorm 17 = .ok (.aload_n 0, 1) := by decide +kernel
theorem dX4_matrixNorm_18 : decode cX4_matrixNorm 18 = .ok (.getfield 27, 3) := by decide +kernel
theorem dX4_matrixNorm_21 : decode cX4_matrixNorm 21 = .ok (.iconst 0, 1) := by decide +kernel
theorem dX4_matrixNorm_22 : decode cX4_matrixNorm 22 = .ok (.laload, 1) := by decide +kernel
theorem dX4_matrixNorm_23 : decode cX4_matrixNorm 23 = .ok (.aload_n 0, 1) := by decide +kernel
theorem dX4_matrixNorm_24 : decode cX4_matrixNorm 24 = .ok (.iconst 4, 1) := by decide +kernel
theorem dX4_matrixNorm_25 : decode cX4_matrixNorm 25 = .ok (.iconst 5, 1) := by decide +kernel
theorem dX4_matrixNorm_26 : decode cX4_matrixNorm 26 = .ok (.bipush 7, 2) := by decide +kernel
theorem dX4_matrixNorm_28 : decode cX4_matrixNorm 28 = .ok (.bipush 8, 2) := by decide +kernel
theorem dX4_matrixNorm_30 : decode cX4_matrixNorm 30 = .ok (.invokevirtual 107, 3) := by decide +kernel
theorem dX4_matrixNorm_33 : decode cX4_matrixNorm 33 = .ok (.lmul, 1) := by decide +kernel
theorem dX4_matrixNorm_34 : decode cX4_matrixNorm 34 = .ok (.aload_n 0, 1) := by decide +kernel
theorem dX4_matrixNorm_35 : decode cX4_matrixNorm 35 = .ok (.getfield 27, 3) := by decide +kernel
theorem dX4_matrixNorm_38 : decode cX4_matrixNorm 38 = .ok (.iconst 1, 1) := by decide +kernel
theorem dX4_matrixNorm_39 : decode cX4_matrixNorm 39 = .ok (.laload, 1) := by decide +kernel
theorem dX4_matrixNorm_40 : decode cX4_matrixNorm 40 = .ok (.aload_n 0, 1) := by decide +kernel
theorem dX4_matrixNorm_41 : decode cX4_matrixNorm 41 = .ok (.iconst 3, 1) := by decide +kernel
theorem dX4_matrixNorm_42 : decode cX4_matrixNorm 42 = .ok (.iconst 5, 1) := by decide +kernel
theorem dX4_matrixNorm_43 : decode cX4_matrixNorm 43 = .ok (.bipush 6, 2) := by decide +kernel
theorem dX4_matrixNorm_45 : decode cX4_matrixNorm 45 = .ok (.bipush 8, 2) := by decide +kernel
theorem dX4_matrixNorm_47 : decode cX4_matrixNorm 47 = .ok (.invokevirtual 107, 3) := by decide +kernel
theorem dX4_matrixNorm_50 : decode cX4_matrixNorm 50 = .ok (.lmul, 1) := by decide +kernel
theorem dX4_matrixNorm_51 : decode cX4_matrixNorm 51 = .ok (.lsub, 1) := by decide +kernel
theorem dX4_matrixNorm_52 : decode cX4_matrixNorm 52 = .ok (.aload_n 0, 1) := by decide +kernel
theorem dX4_matrixNorm_53 : decode cX4_matrixNorm 53 = .ok (.getfield 27, 3) := by decide +kernel
theorem dX4_matrixNorm_56 : decode cX4_matrixNorm 56 = .ok (.iconst 2, 1) := by decide +kernel
theorem dX4_matrixNorm_57 : decode cX4_matrixNorm 57 = .ok (.laload, 1) := by decide +kernel
theorem dX4_matrixNorm_58 : decode cX4_matrixNorm 58 = .ok (.aload_n 0, 1) := by decide +kernel
theorem dX4_matrixNorm_59 : decode cX4_matrixNorm 59 = .ok (.iconst 3, 1) := by decide +kernel
theorem dX4_matrixNorm_60 : decode cX4_matrixNorm 60 = .ok (.iconst 4, 1) := by decide +kernel
theorem dX4_matrixNorm_61 : decode cX4_matrixNorm 61 = .ok (.bipush 6, 2) := by decide +kernel
theorem dX4_matrixNorm_63 : decode cX4_matrixNorm 63 = .ok (.bipush 7, 2) := by decide +kernel
theorem dX4_matrixNorm_65 : decode cX4_matrixNorm 65 = .ok (.invokevirtual 107, 3) := by decide +kernel
theorem dX4_matrixNorm_68 : decode cX4_matrixNorm 68 = .ok (.lmul, 1) := by decide +kernel
theorem dX4_matrixNorm_69 : decode cX4_matrixNorm 69 = .ok (.ladd, 1) := by decide +kernel
theorem dX4_matrixNorm_70 : decode cX4_matrixNorm 70 = .ok (.lreturn, 1) := by decide +kernel
theorem bX4_matrixNorm_0 {l : Launch} {D : va_G} {aI aL : ClassId} {ad : Nat → Nat} {P : sa_P} {I : sa_I} {J : sa_J}    (kt : ¬ I 4 0 = (2 : Int32) → Sat (EC l D aI aL ad) M_X4_matrixNorm P 17 [(0, .ref (ad 4))] [] I J) (kf : I 4 0 = (2 : Int32) → Sat (EC l D aI aL ad) M_X4_matrixNorm P 8 [(0, .ref (ad 4))] [] I J) : Sat (EC l D aI aL ad) M_X4_matrixNorm P 0 [(0, .ref (ad 4))] [] I J := by
  refine s_aload_n 0 dX4_matrixNorm_0 rfl ?_
  refine g_X4_36 dX4_matrixNorm_1 rfl ?_
  refine s_iconst (v := 2) dX4_matrixNorm_4 rfl ?_
  refine s_icmp_ne (tgt := 17) dX4_matrixNorm_5 (by decide) (fun c => ?_) (fun c => ?_)
  · exact kt c
  · exact kf (by first | exact c | exact Classical.not_not.mp c)
theorem bX4_matrixNorm_8 {l : Launch} {D : va_G} {aI aL : ClassId} {ad : Nat → Nat} {P : sa_P} {I : sa_I} {J : sa_J}    (k : Sat (EC l D aI aL ad) M_X4_matrixNorm P 13 [] [.int (4 : Int32), .int (3 : Int32), .int (1 : Int32), .int (0 : Int32), .ref (ad 4)] I J) : Sat (EC l D aI aL ad) M_X4_matrixNorm P 8 [(0, .ref (ad 4))] [] I J := by
  refine s_aload_n 0 dX4_matrixNorm_8 rfl ?_
  refine s_iconst (v := 0) dX4_matrixNorm_9 rfl ?_
  refine s_iconst (v := 1) dX4_matrixNorm_10 rfl ?_
  refine s_iconst (v := 3) dX4_matrixNorm_11 rfl ?_
  refine s_iconst (v := 4) dX4_matrixNorm_12 rfl ?_
  refine s_pick [] [] rfl ?_; exact k
theorem bX4_matrixNorm_16 {l : Launch} {D : va_G} {aI aL : ClassId} {ad : Nat → Nat} {P : sa_P} {I : sa_I} {J : sa_J} {s0 : Int64}   (k : P (some (.long s0)) I J) : Sat (EC l D aI aL ad) M_X4_matrixNorm P 16 [] [.long s0] I J := by
  exact s_lret rfl dX4_matrixNorm_16 k
theorem bX4_matrixNorm_17 {l : Launch} {D : va_G} {aI aL : ClassId} {ad : Nat → Nat} {P : sa_P} {I : sa_I} {J : sa_J}    (k : Sat (EC l D aI aL ad) M_X4_matrixNorm P 30 [(0, .ref (ad 4))] [.int (8 : Int32), .int (7 : Int32), .int (5 : Int32), .int (4 : Int32), .ref (ad 4), .long (J 10 0)] I J) : Sat (EC l D aI aL ad) M_X4_matrixNorm P 17 [(0, .ref (ad 4))] [] I J := by
  refine s_aload_n 0 dX4_matrixNorm_17 rfl ?_
  refine g_X4_27 dX4_matrixNorm_18 rfl ?_
  refine s_iconst (v := 0) dX4_matrixNorm_21 rfl ?_
  refine s_eqi (y := nI 0) rfl ?_
  refine s_laloadN aJ_C10 (by decide) (by decide) dX4_matrixNorm_22 ?_
  refine s_aload_n 0 dX4_matrixNorm_23 rfl ?_
  refine s_iconst (v := 4) dX4_matrixNorm_24 rfl ?_
  refine s_iconst (v := 5) dX4_matrixNorm_25 rfl ?_
  refine s_bipush (v := 7) dX4_matrixNorm_26 rfl ?_
  refine s_bipush (v := 8) dX4_matrixNorm_28 rfl ?_
  exact k
theorem bX4_matrixNorm_33 {l : Launch} {D : va_G} {aI aL : ClassId} {ad : Nat → Nat} {P : sa_P} {I : sa_I} {J : sa_J} {s0 : Int64} {s1 : Int64}   (k : Sat (EC l D aI aL ad) M_X4_matrixNorm P 47 [(0, .ref (ad 4))] [.int (8 : Int32), .int (6 : Int32), .int (5 : Int32), .int (3 : Int32), .ref (ad 4), .long (J 10 1), .long (s0 * s1)] I J) : Sat (EC l D aI aL ad) M_X4_matrixNorm P 33 [(0, .ref (ad 4))] [.long s1, .long s0] I J := by
  refine s_lmul dX4_matrixNorm_33 ?_
  refine s_aload_n 0 dX4_matrixNorm_34 rfl ?_
  refine g_X4_27 dX4_matrixNorm_35 rfl ?_
  refine s_iconst (v := 1) dX4_matrixNorm_38 rfl ?_
  refine s_eqi (y := nI 1) rfl ?_
  refine s_laloadN aJ_C10 (by decide) (by decide) dX4_matrixNorm_39 ?_
  refine s_aload_n 0 dX4_matrixNorm_40 rfl ?_
  refine s_iconst (v := 3) dX4_matrixNorm_41 rfl ?_
  refine s_iconst (v := 5) dX4_matrixNorm_42 rfl ?_
  refine s_bipush (v := 6) dX4_matrixNorm_43 rfl ?_
  refine s_bipush (v := 8) dX4_matrixNorm_45 rfl ?_
  exact k
theorem bX4_matrixNorm_50 {l : Launch} {D : va_G} {aI aL : ClassId} {ad : Nat → Nat} {P : sa_P} {I : sa_I} {J : sa_J} {s0 : Int64} {s1 : Int64} {s2 : Int64}   (k : Sat (EC l D aI aL ad) M_X4_matrixNorm P 65 [] [.int (7 : Int32), .int (6 : Int32), .int (4 : Int32), .int (3 : Int32), .ref (ad 4), .long (J 10 2), .long (s0 - (s1 * s2))] I J) : Sat (EC l D aI aL ad) M_X4_matrixNorm P 50 [(0, .ref (ad 4))] [.long s2, .long s1, .long s0] I J := by
  refine s_lmul dX4_matrixNorm_50 ?_
  refine s_lsub dX4_matrixNorm_51 ?_
  refine s_aload_n 0 dX4_matrixNorm_52 rfl ?_
  refine g_X4_27 dX4_matrixNorm_53 rfl ?_
  refine s_iconst (v := 2) dX4_matrixNorm_56 rfl ?_
  refine s_eqi (y := nI 2) rfl ?_
  refine s_laloadN aJ_C10 (by decide) (by decide) dX4_matrixNorm_57 ?_
  refine s_aload_n 0 dX4_matrixNorm_58 rfl ?_
  refine s_iconst (v := 3) dX4_matrixNorm_59 rfl ?_
  refine s_iconst (v := 4) dX4_matrixNorm_60 rfl ?_
  refine s_bipush (v := 6) dX4_matrixNorm_61 rfl ?_
  refine s_bipush (v := 7) dX4_matrixNorm_63 rfl ?_
  refine s_pick [] [] rfl ?_; exact k
theorem bX4_matrixNorm_68 {l : Launch} {D : va_G} {aI aL : ClassId} {ad : Nat → Nat} {P : sa_P} {I : sa_I} {J : sa_J} {s0 : Int64} {s1 : Int64} {s2 : Int64}   (k : P (some (.long (s0 + (s1 * s2)))) I J) : Sat (EC l D aI aL ad) M_X4_matrixNorm P 68 [] [.long s2, .long s1, .long s0] I J := by
  refine s_lmul dX4_matrixNorm_68 ?_
  refine s_ladd dX4_matrixNorm_69 ?_
  exact s_lret rfl dX4_matrixNorm_70 k
/-! X4_matrixTrace -/
theorem dX4_matrixTrace_0 : decode cX4_matrixTrace 0 = .ok (.aload_n 0, 1) := by decide +kernel
theorem dX4_matrixTrace_1 : decode cX4_matrixTrace 1 = .ok (.getfield 36, 3) := by decide +kernel
theorem dX4_matrixTrace_4 : decode cX4_matrixTrace 4 = .ok (.iconst 2, 1) := by decide +kernel
theorem dX4_matrixTrace_5 : decode cX4_matrixTrace 5 = .ok (.if_icmp .ne 19, 3) := by decide +kernel
theorem dX4_matrixTrace_8 : decode cX4_matrixTrace 8 = .ok (.aload_n 0, 1) := by decide +kernel
theorem dX4_matrixTrace_9 : decode cX4_matrixTrace 9 = .ok (.getfield 27, 3) := by decide +kernel
theorem dX4_matrixTrace_12 : decode cX4_matrixTrace 12 = .ok (.iconst 0, 1) := by decide +kernel
theorem dX4_matrixTrace_13 : decode cX4_matrixTrace 13 = .ok (.laload, 1) := by decide +kernel
theorem dX4_matrixTrace_14 : decode cX4_matrixTrace 14 = .ok (.aload_n 0, 1) := by decide +kernel
theorem dX4_matrixTrace_15 : decode cX4_matrixTrace 15 = .ok (.getfield 27, 3) := by decide +kernel
theorem dX4_matrixTrace_18 : decode cX4_matrixTrace 18 = .ok (.iconst 4, 1) := by decide +kernel
theorem dX4_matrixTrace_19 : decode cX4_matrixTrace 19 = .ok (.laload, 1) := by decide +kernel
theorem dX4_matrixTrace_20 : decode cX4_matrixTrace 20 = .ok (.ladd, 1) := by decide +kernel
theorem dX4_matrixTrace_21 : decode cX4_matrixTrace 21 = .ok (.goto 24, 3) := by decide +kernel
theorem dX4_matrixTrace_24 : decode cX4_matrixTrace 24 = .ok (.aload_n 0, 1) := by decide +kernel
theorem dX4_matrixTrace_25 : decode cX4_matrixTrace 25 = .ok (.getfield 27, 3) := by decide +kernel
theorem dX4_matrixTrace_28 : decode cX4_matrixTrace 28 = .ok (.iconst 0, 1) := by decide +kernel
theorem dX4_matrixTrace_29 : decode cX4_matrixTrace 29 = .ok (.laload, 1) := by decide +kernel
theorem dX4_matrixTrace_30 : decode cX4_matrixTrace 30 = .ok (.aload_n 0, 1) := by decide +kernel
theorem dX4_matrixTrace_31 : decode cX4_matrixTrace 31 = .ok (.getfield 27, 3) := by decide +kernel
theorem dX4_matrixTrace_34 : decode cX4_matrixTrace 34 = .ok (.iconst 4, 1) := by decide +kernel
theorem dX4_matrixTrace_35 : decode cX4_matrixTrace 35 = .ok (.laload, 1) := by decide +kernel
theorem dX4_matrixTrace_36 : decode cX4_matrixTrace 36 = .ok (.ladd, 1) := by decide +kernel
theorem dX4_matrixTrace_37 : decode cX4_matrixTrace 37 = .ok (.aload_n 0, 1) := by decide +kernel
theorem dX4_matrixTrace_38 : decode cX4_matrixTrace 38 = .ok (.getfield 27, 3) := by decide +kernel
theorem dX4_matrixTrace_41 : decode cX4_matrixTrace 41 = .ok (.bipush 8, 2) := by decide +kernel
theorem dX4_matrixTrace_43 : decode cX4_matrixTrace 43 = .ok (.laload, 1) := by decide +kernel
theorem dX4_matrixTrace_44 : decode cX4_matrixTrace 44 = .ok (.ladd, 1) := by decide +kernel
theorem dX4_matrixTrace_45 : decode cX4_matrixTrace 45 = .ok (.lreturn, 1) := by decide +kernel
theorem bX4_matrixTrace_0 {l : Launch} {D : va_G} {aI aL : ClassId} {ad : Nat → Nat} {P : sa_P} {I : sa_I} {J : sa_J}    (kt : ¬ I 4 0 = (2 : Int32) → Sat (EC l D aI aL ad) M_X4_matrixTrace P 24 [(0, .ref (ad 4))] [] I J) (kf : I 4 0 = (2 : Int32) → Sat (EC l D aI aL ad) M_X4_matrixTrace P 8 [(0, .ref (ad 4))] [] I J) : Sat (EC l D aI aL ad) M_X4_matrixTrace P 0 [(0, .ref (ad 4))] [] I J := by
  refine s_aload_n 0 dX4_matrixTrace_0 rfl ?_
  refine g_X4_36 dX4_matrixTrace_1 rfl ?_
  refine s_iconst (v := 2) dX4_matrixTrace_4 rfl ?_
  refine s_icmp_ne (tgt := 24) dX4_matrixTrace_5 (by decide) (fun c => ?_) (fun c => ?_)
  · exact kt c
  · exact kf (by first | exact c | exact Classical.not_not.mp c)
theorem bX4_matrixTrace_8 {l : Launch} {D : va_G} {aI aL : ClassId} {ad : Nat → Nat} {P : sa_P} {I : sa_I} {J : sa_J}    (k : Sat (EC l D aI aL ad) M_X4_matrixTrace P 45 [] [.long ((J 10 0) + (J 10 4))] I J) : Sat (EC l D aI aL ad) M_X4_matrixTrace P 8 [(0, .ref (ad 4))] [] I J := by
  refine s_aload_n 0 dX4_matrixTrace_8 rfl ?_
  refine g_X4_27 dX4_matrixTrace_9 rfl ?_
  refine s_iconst (v := 0) dX4_matrixTrace_12 rfl ?_
  refine s_eqi (y := nI 0) rfl ?_
  refine s_laloadN aJ_C10 (by decide) (by decide) dX4_matrixTrace_13 ?_
  refine s_aload_n 0 dX4_matrixTrace_14 rfl ?_
  refine g_X4_27 dX4_matrixTrace_15 rfl ?_
  refine s_iconst (v := 4) dX4_matrixTrace_18 rfl ?_
  refine s_eqi (y := nI 4) rfl ?_
  refine s_laloadN aJ_C10 (by decide) (by decide) dX4_matrixTrace_19 ?_
  refine s_ladd dX4_matrixTrace_20 ?_
  refine s_goto (tgt := 45) dX4_matrixTrace_21 (by decide) ?_
  refine s_pick [] [] rfl ?_; exact k
theorem bX4_matrixTrace_24 {l : Launch} {D : va_G} {aI aL : ClassId} {ad : Nat → Nat} {P : sa_P} {I : sa_I} {J : sa_J}    (k : Sat (EC l D aI aL ad) M_X4_matrixTrace P 45 [] [.long (((J 10 0) + (J 10 4)) + (J 10 8))] I J) : Sat (EC l D aI aL ad) M_X4_matrixTrace P 24 [(0, .ref (ad 4))] [] I J := by
  refine s_aload_n 0 dX4_matrixTrace_24 rfl ?_
  refine g_X4_27 dX4_matrixTrace_25 rfl ?_
  refine s_iconst (v := 0) dX4_matrixTrace_28 rfl ?_
  refine s_eqi (y := nI 0) rfl ?_
  refine s_laloadN aJ_C10 (by decide) (by decide) dX4_matrixTrace_29 ?_
  refine s_aload_n 0 dX4_matrixTrace_30 rfl ?_
  refine g_X4_27 dX4_matrixTrace_31 rfl ?_
  refine s_iconst (v := 4) dX4_matrixTrace_34 rfl ?_
  refine s_eqi (y := nI 4) rfl ?_
  refine s_laloadN aJ_C10 (by decide) (by decide) dX4_matrixTrace_35 ?_
  refine s_ladd dX4_matrixTrace_36 ?_
  refine s_aload_n 0 dX4_matrixTrace_37 rfl ?_
  refine g_X4_27 dX4_matrixTrace_38 rfl ?_
  refine s_bipush (v := 8) dX4_matrixTrace_41 rfl ?_
  refine s_eqi (y := nI 8) rfl ?_
  refine s_laloadN aJ_C10 (by decide) (by decide) dX4_matrixTrace_43 ?_
  refine s_ladd dX4_matrixTrace_44 ?_
  refine s_pick [] [] rfl ?_; exact k
theorem bX4_matrixTrace_45 {l : Launch} {D : va_G} {aI aL : ClassId} {ad : Nat → Nat} {P : sa_P} {I : sa_I} {J : sa_J} {s0 : Int64}   (k : P (some (.long s0)) I J) : Sat (EC l D aI aL ad) M_X4_matrixTrace P 45 [] [.long s0] I J := by
  exact s_lret rfl dX4_matrixTrace_45 k
/-! X4_matrixMiddle -/
theorem dX4_matrixMiddle_0 : decode cX4_matrixMiddle 0 = .ok (.aload_n 0, 1) := by decide +kernel
theorem dX4_matrixMiddle_1 : decode cX4_matrixMiddle 1 = .ok (.getfield 36, 3) := by decide +kernel
theorem dX4_matrixMiddle_4 : decode cX4_matrixMiddle 4 = .ok (.iconst 2, 1) := by decide +kernel
theorem dX4_matrixMiddle_5 : decode cX4_matrixMiddle 5 = .ok (.if_icmp .ne 9, 3) := by decide +kernel
theorem dX4_matrixMiddle_8 : decode cX4_matrixMiddle 8 = .ok (.aload_n 0, 1) := by decide +kernel
theorem dX4_matrixMiddle_9 : decode cX4_matrixMiddle 9 = .ok (.invokevirtual 111, 3) := by decide +kernel
theorem dX4_matrixMiddle_12 : decode cX4_matrixMiddle 12 = .ok (.lneg, 1) := by decide +kernel
theorem dX4_matrixMiddle_13 : decode cX4_matrixMiddle 13 = .ok (.lreturn, 1) := by decide +kernel
theorem dX4_matrixMiddle_14 : decode cX4_matrixMiddle 14 = .ok (.aload_n 0, 1) := by decide +kernel
theorem dX4_matrixMiddle_15 : decode cX4_matrixMiddle 15 = .ok (.iconst 0, 1) := by decide +kernel
theorem dX4_matrixMiddle_16 : decode cX4_matrixMiddle 16 = .ok (.iconst 1, 1) := by decide +kernel
theorem dX4_matrixMiddle_17 : decode cX4_matrixMiddle 17 = .ok (.iconst 3, 1) := by decide +kernel
theorem dX4_matrixMiddle_18 : decode cX4_matrixMiddle 18 = .ok (.iconst 4, 1) := by decide +kernel
theorem dX4_matrixMiddle_19 : decode cX4_matrixMiddle 19 = .ok (.invokevirtual 107, 3) := by decide +kernel
theorem dX4_matrixMiddle_22 : decode cX4_matrixMiddle 22 = .ok (.aload_n 0, 1) := by decide +kernel
theorem dX4_matrixMiddle_23 : decode cX4_matrixMiddle 23 = .ok (.iconst 0, 1) := by decide +kernel
theorem dX4_matrixMiddle_24 : decode cX4_matrixMiddle 24 = .ok (.iconst 2, 1) := by decide +kernel
theorem dX4_matrixMiddle_25 : decode cX4_matrixMiddle 25 = .ok (.bipush 6, 2) := by decide +kernel
theorem dX4_matrixMiddle_27 : decode cX4_matrixMiddle 27 = .ok (.bipush 8, 2) := by decide +kernel
theorem dX4_matrixMiddle_29 : decode cX4_matrixMiddle 29 = .ok (.invokevirtual 107, 3) := by decide +kernel
theorem dX4_matrixMiddle_32 : decode cX4_matrixMiddle 32 = .ok (.ladd, 1) := by decide +kernel
theorem dX4_matrixMiddle_33 : decode cX4_matrixMiddle 33 = .ok (.aload_n 0, 1) := by decide +kernel
theorem dX4_matrixMiddle_34 : decode cX4_matrixMiddle 34 = .ok (.iconst 4, 1) := by decide +kernel
theorem dX4_matrixMiddle_35 : decode cX4_matrixMiddle 35 = .ok (.iconst 5, 1) := by decide +kernel
theorem dX4_matrixMiddle_36 : decode cX4_matrixMiddle 36 = .ok (.bipush 7, 2) := by decide +kernel
theorem dX4_matrixMiddle_38 : decode cX4_matrixMiddle 38 = .ok (.bipush 8, 2) := by decide +kernel
theorem dX4_matrixMiddle_40 : decode cX4_matrixMiddle 40 = .ok (.invokevirtual 107, 3) := by decide +kernel
theorem dX4_matrixMiddle_43 : decode cX4_matrixMiddle 43 = .ok (.ladd, 1) := by decide +kernel
theorem dX4_matrixMiddle_44 : decode cX4_matrixMiddle 44 = .ok (.lreturn, 1) := by decide +kernel
theorem bX4_matrixMiddle_0 {l : Launch} {D : va_G} {aI aL : ClassId} {ad : Nat → Nat} {P : sa_P} {I : sa_I} {J : sa_J}    (kt : ¬ I 4 0 = (2 : Int32) → Sat (EC l D aI aL ad) M_X4_matrixMiddle P 14 [(0, .ref (ad 4))] [] I J) (kf : I 4 0 = (2 : Int32) → Sat (EC l D aI aL ad) M_X4_matrixMiddle P 8 [(0, .ref (ad 4))] [] I J) : Sat (EC l D aI aL ad) M_X4_matrixMiddle P 0 [(0, .ref (ad 4))] [] I J := by
  refine s_aload_n 0 dX4_matrixMiddle_0 rfl ?_
  refine g_X4_36 dX4_matrixMiddle_1 rfl ?_
  refine s_iconst (v := 2) dX4_matrixMiddle_4 rfl ?_
  refine s_icmp_ne (tgt := 14) dX4_matrixMiddle_5 (by decide) (fun c => ?_) (fun c => ?_)
  · exact kt c
  · exact kf (by first | exact c | exact Classical.not_not.mp c)
theorem bX4_matrixMiddle_8 {l : Launch} {D : va_G} {aI aL : ClassId} {ad : Nat → Nat} {P : sa_P} {I : sa_I} {J : sa_J}    (k : Sat (EC l D aI aL ad) M_X4_matrixMiddle P 9 [] [.ref (ad 4)] I J) : Sat (EC l D aI aL ad) M_X4_matrixMiddle P 8 [(0, .ref (ad 4))] [] I J := by
  refine s_aload_n 0 dX4_matrixMiddle_8 rfl ?_
  refine s_pick [] [] rfl ?_; exact k
theorem bX4_matrixMiddle_12 {l : Launch} {D : va_G} {aI aL : ClassId} {ad : Nat → Nat} {P : sa_P} {I : sa_I} {J : sa_J} {s0 : Int64}   (k : P (some (.long (-s0))) I J) : Sat (EC l D aI aL ad) M_X4_matrixMiddle P 12 [] [.long s0] I J := by
  refine s_lneg dX4_matrixMiddle_12 ?_
  exact s_lret rfl dX4_matrixMiddle_13 k
theorem bX4_matrixMiddle_14 {l : Launch} {D : va_G} {aI aL : ClassId} {ad : Nat → Nat} {P : sa_P} {I : sa_I} {J : sa_J}    (k : Sat (EC l D aI aL ad) M_X4_matrixMiddle P 19 [(0, .ref (ad 4))] [.int (4 : Int32), .int (3 : Int32), .int (1 : Int32), .int (0 : Int32), .ref (ad 4)] I J) : Sat (EC l D aI aL ad) M_X4_matrixMiddle P 14 [(0, .ref (ad 4))] [] I J := by
  refine s_aload_n 0 dX4_matrixMiddle_14 rfl ?_
  refine s_iconst (v := 0) dX4_matrixMiddle_15 rfl ?_
  refine s_iconst (v := 1) dX4_matrixMiddle_16 rfl ?_
  refine s_iconst (v := 3) dX4_matrixMiddle_17 rfl ?_
  refine s_iconst (v := 4) dX4_matrixMiddle_18 rfl ?_
  exact k
theorem bX4_matrixMiddle_22 {l : Launch} {D : va_G} {aI aL : ClassId} {ad : Nat → Nat} {P : sa_P} {I : sa_I} {J : sa_J} {s0 : Int64}   (k : Sat (EC l D aI aL ad) M_X4_matrixMiddle P 29 [(0, .ref (ad 4))] [.int (8 : Int32), .int (6 : Int32), .int (2 : Int32), .int (0 : Int32), .ref (ad 4), .long s0] I J) : Sat (EC l D aI aL ad) M_X4_matrixMiddle P 22 [(0, .ref (ad 4))] [.long s0] I J := by
  refine s_aload_n 0 dX4_matrixMiddle_22 rfl ?_
  refine s_iconst (v := 0) dX4_matrixMiddle_23 rfl ?_
  refine s_iconst (v := 2) dX4_matrixMiddle_24 rfl ?_
  refine s_bipush (v := 6) dX4_matrixMiddle_25 rfl ?_
  refine s_bipush (v := 8) dX4_matrixMiddle_27 rfl ?_
  exact k
theorem bX4_matrixMiddle_32 {l : Launch} {D : va_G} {aI aL : ClassId} {ad : Nat → Nat} {P : sa_P} {I : sa_I} {J : sa_J} {s0 : Int64} {s1 : Int64}   (k : Sat (EC l D aI aL ad) M_X4_matrixMiddle P 40 [] [.int (8 : Int32), .int (7 : Int32), .int (5 : Int32), .int (4 : Int32), .ref (ad 4), .long (s0 + s1)] I J) : Sat (EC l D aI aL ad) M_X4_matrixMiddle P 32 [(0, .ref (ad 4))] [.long s1, .long s0] I J := by
  refine s_ladd dX4_matrixMiddle_32 ?_
  refine s_aload_n 0 dX4_matrixMiddle_33 rfl ?_
  refine s_iconst (v := 4) dX4_matrixMiddle_34 rfl ?_
  refine s_iconst (v := 5) dX4_matrixMiddle_35 rfl ?_
  refine s_bipush (v := 7) dX4_matrixMiddle_36 rfl ?_
  refine s_bipush (v := 8) dX4_matrixMiddle_38 rfl ?_
  refine s_pick [] [] rfl ?_; exact k
theorem bX4_matrixMiddle_43 {l : Launch} {D : va_G} {aI aL : ClassId} {ad : Nat → Nat} {P : sa_P} {I : sa_I} {J : sa_J} {s0 : Int64} {s1 : Int64}   (k : P (some (.long (s0 + s1))) I J) : Sat (EC l D aI aL ad) M_X4_matrixMiddle P 43 [] [.long s1, .long s0] I J := by
  refine s_ladd dX4_matrixMiddle_43 ?_
  exact s_lret rfl dX4_matrixMiddle_44 k
/-! X4_hasPowerOne -/
theorem dX4_hasPowerOne_0 : decode cX4_hasPowerOne 0 = .ok (.aload_n 0, 1) := by decide +kernel
theorem dX4_hasPowerOne_1 : decode cX4_hasPowerOne 1 = .ok (.getfield 33, 3) := by decide +kernel
theorem dX4_hasPowerOne_4 : decode cX4_hasPowerOne 4 = .ok (.iconst 0, 1) := by decide +kernel
theorem dX4_hasPowerOne_5 : decode cX4_hasPowerOne 5 = .ok (.lconst 1, 1) := by decide +kernel
theorem dX4_hasPowerOne_6 : decode cX4_hasPowerOne 6 = .ok (.lastore, 1) := by decide +kernel
theorem dX4_hasPowerOne_7 : decode cX4_hasPowerOne 7 = .ok (.aload_n 0, 1) := by decide +kernel
theorem dX4_hasPowerOne_8 : decode cX4_hasPowerOne 8 = .ok (.getfield 33, 3) := by decide +kernel
theorem dX4_hasPowerOne_11 : decode cX4_hasPowerOne 11 = .ok (.iconst 1, 1) := by decide +kernel
theorem dX4_hasPowerOne_12 : decode cX4_hasPowerOne 12 = .ok (.lconst 0, 1) := by decide +kernel
theorem dX4_hasPowerOne_13 : decode cX4_hasPowerOne 13 = .ok (.lastore, 1) := by decide +kernel
theorem dX4_hasPowerOne_14 : decode cX4_hasPowerOne 14 = .ok (.aload_n 0, 1) := by decide +kernel
theorem dX4_hasPowerOne_15 : decode cX4_hasPowerOne 15 = .ok (.getfield 33, 3) := by decide +kernel
theorem dX4_hasPowerOne_18 : decode cX4_hasPowerOne 18 = .ok (.iconst 2, 1) := by decide +kernel
theorem dX4_hasPowerOne_19 : decode cX4_hasPowerOne 19 = .ok (.lconst 0, 1) := by decide +kernel
theorem dX4_hasPowerOne_20 : decode cX4_hasPowerOne 20 = .ok (.lastore, 1) := by decide +kernel
theorem dX4_hasPowerOne_21 : decode cX4_hasPowerOne 21 = .ok (.iconst 1, 1) := by decide +kernel
theorem dX4_hasPowerOne_22 : decode cX4_hasPowerOne 22 = .ok (.istore_n 3, 1) := by decide +kernel
theorem dX4_hasPowerOne_23 : decode cX4_hasPowerOne 23 = .ok (.iload_n 3, 1) := by decide +kernel
theorem dX4_hasPowerOne_24 : decode cX4_hasPowerOne 24 = .ok (.bipush 12, 2) := by decide +kernel
theorem dX4_hasPowerOne_26 : decode cX4_hasPowerOne 26 = .ok (.if_icmp .gt 103, 3) := by decide +kernel
theorem dX4_hasPowerOne_29 : decode cX4_hasPowerOne 29 = .ok (.aload_n 0, 1) := by decide +kernel
theorem dX4_hasPowerOne_30 : decode cX4_hasPowerOne 30 = .ok (.aload_n 0, 1) := by decide +kernel
theorem dX4_hasPowerOne_31 : decode cX4_hasPowerOne 31 = .ok (.getfield 33, 3) := by decide +kernel
theorem dX4_hasPowerOne_34 : decode cX4_hasPowerOne 34 = .ok (.iconst 0, 1) := by decide +kernel
theorem dX4_hasPowerOne_35 : decode cX4_hasPowerOne 35 = .ok (.aload_n 1, 1) := by decide +kernel
theorem dX4_hasPowerOne_36 : decode cX4_hasPowerOne 36 = .ok (.iload_n 2, 1) := by decide +kernel
theorem dX4_hasPowerOne_37 : decode cX4_hasPowerOne 37 = .ok (.invokevirtual 114, 3) := by decide +kernel
theorem dX4_hasPowerOne_40 : decode cX4_hasPowerOne 40 = .ok (.iconst 0, 1) := by decide +kernel
theorem dX4_hasPowerOne_41 : decode cX4_hasPowerOne 41 = .ok (.istore 4, 2) := by decide +kernel
theorem dX4_hasPowerOne_43 : decode cX4_hasPowerOne 43 = .ok (.iload 4, 2) := by decide +kernel
theorem dX4_hasPowerOne_45 : decode cX4_hasPowerOne 45 = .ok (.iconst 3, 1) := by decide +kernel
theorem dX4_hasPowerOne_46 : decode cX4_hasPowerOne 46 = .ok (.if_icmp .ge 42, 3) := by decide +kernel
theorem dX4_hasPowerOne_49 : decode cX4_hasPowerOne 49 = .ok (.aload_n 0, 1) := by decide +kernel
theorem dX4_hasPowerOne_50 : decode cX4_hasPowerOne 50 = .ok (.getfield 33, 3) := by decide +kernel
theorem dX4_hasPowerOne_53 : decode cX4_hasPowerOne 53 = .ok (.iload 4, 2) := by decide +kernel
theorem dX4_hasPowerOne_55 : decode cX4_hasPowerOne 55 = .ok (.aload_n 0, 1) := by decide +kernel
theorem dX4_hasPowerOne_56 : decode cX4_hasPowerOne 56 = .ok (.getfield 24, 3) := by decide +kernel
theorem dX4_hasPowerOne_59 : decode cX4_hasPowerOne 59 = .ok (.iload 4, 2) := by decide +kernel
theorem dX4_hasPowerOne_61 : decode cX4_hasPowerOne 61 = .ok (.laload, 1) := by decide +kernel
theorem dX4_hasPowerOne_62 : decode cX4_hasPowerOne 62 = .ok (.lastore, 1) := by decide +kernel
theorem dX4_hasPowerOne_63 : decode cX4_hasPowerOne 63 = .ok (.aload_n 0, 1) := by decide +kernel
theorem dX4_hasPowerOne_64 : decode cX4_hasPowerOne 64 = .ok (.getfield 33, 3) := by decide +kernel
theorem dX4_hasPowerOne_67 : decode cX4_hasPowerOne 67 = .ok (.iload 4, 2) := by decide +kernel
theorem dX4_hasPowerOne_69 : decode cX4_hasPowerOne 69 = .ok (.laload, 1) := by decide +kernel
theorem dX4_hasPowerOne_70 : decode cX4_hasPowerOne 70 = .ok (.invokestatic 118, 3) := by decide +kernel
theorem dX4_hasPowerOne_73 : decode cX4_hasPowerOne 73 = .ok (.ldc2_w 124, 3) := by decide +kernel
theorem dX4_hasPowerOne_76 : decode cX4_hasPowerOne 76 = .ok (.lcmp, 1) := by decide +kernel
theorem dX4_hasPowerOne_77 : decode cX4_hasPowerOne 77 = .ok (.ifCond .le 5, 3) := by decide +kernel
theorem dX4_hasPowerOne_80 : decode cX4_hasPowerOne 80 = .ok (.iconst 0, 1) := by decide +kernel
theorem dX4_hasPowerOne_81 : decode cX4_hasPowerOne 81 = .ok (.ireturn, 1) := by decide +kernel
theorem dX4_hasPowerOne_82 : decode cX4_hasPowerOne 82 = .ok (.iinc 4 1, 3) := by decide +kernel
theorem dX4_hasPowerOne_85 : decode cX4_hasPowerOne 85 = .ok (.goto (-42), 3) := by decide +kernel
theorem dX4_hasPowerOne_88 : decode cX4_hasPowerOne 88 = .ok (.aload_n 0, 1) := by decide +kernel
theorem dX4_hasPowerOne_89 : decode cX4_hasPowerOne 89 = .ok (.getfield 33, 3) := by decide +kernel
theorem dX4_hasPowerOne_92 : decode cX4_hasPowerOne 92 = .ok (.iconst 0, 1) := by decide +kernel
theorem dX4_hasPowerOne_93 : decode cX4_hasPowerOne 93 = .ok (.laload, 1) := by decide +kernel
theorem dX4_hasPowerOne_94 : decode cX4_hasPowerOne 94 = .ok (.lconst 1, 1) := by decide +kernel
theorem dX4_hasPowerOne_95 : decode cX4_hasPowerOne 95 = .ok (.lcmp, 1) := by decide +kernel
theorem dX4_hasPowerOne_96 : decode cX4_hasPowerOne 96 = .ok (.ifCond .ne 27, 3) := by decide +kernel
theorem dX4_hasPowerOne_99 : decode cX4_hasPowerOne 99 = .ok (.aload_n 0, 1) := by decide +kernel
theorem dX4_hasPowerOne_100 : decode cX4_hasPowerOne 100 = .ok (.getfield 33, 3) := by decide +kernel
theorem dX4_hasPowerOne_103 : decode cX4_hasPowerOne 103 = .ok (.iconst 1, 1) := by decide +kernel
theorem dX4_hasPowerOne_104 : decode cX4_hasPowerOne 104 = .ok (.laload, 1) := by decide +kernel
theorem dX4_hasPowerOne_105 : decode cX4_hasPowerOne 105 = .ok (.lconst 0, 1) := by decide +kernel
theorem dX4_hasPowerOne_106 : decode cX4_hasPowerOne 106 = .ok (.lcmp, 1) := by decide +kernel
theorem dX4_hasPowerOne_107 : decode cX4_hasPowerOne 107 = .ok (.ifCond .ne 16, 3) := by decide +kernel
theorem dX4_hasPowerOne_110 : decode cX4_hasPowerOne 110 = .ok (.aload_n 0, 1) := by decide +kernel
theorem dX4_hasPowerOne_111 : decode cX4_hasPowerOne 111 = .ok (.getfield 33, 3) := by decide +kernel
theorem dX4_hasPowerOne_114 : decode cX4_hasPowerOne 114 = .ok (.iconst 2, 1) := by decide +kernel
theorem dX4_hasPowerOne_115 : decode cX4_hasPowerOne 115 = .ok (.laload, 1) := by decide +kernel
theorem dX4_hasPowerOne_116 : decode cX4_hasPowerOne 116 = .ok (.lconst 0, 1) := by decide +kernel
theorem dX4_hasPowerOne_117 : decode cX4_hasPowerOne 117 = .ok (.lcmp, 1) := by decide +kernel
theorem dX4_hasPowerOne_118 : decode cX4_hasPowerOne 118 = .ok (.ifCond .ne 5, 3) := by decide +kernel
theorem dX4_hasPowerOne_121 : decode cX4_hasPowerOne 121 = .ok (.iconst 1, 1) := by decide +kernel
theorem dX4_hasPowerOne_122 : decode cX4_hasPowerOne 122 = .ok (.ireturn, 1) := by decide +kernel
theorem dX4_hasPowerOne_123 : decode cX4_hasPowerOne 123 = .ok (.iinc 3 1, 3) := by decide +kernel
theorem dX4_hasPowerOne_126 : decode cX4_hasPowerOne 126 = .ok (.goto (-103), 3) := by decide +kernel
theorem dX4_hasPowerOne_129 : decode cX4_hasPowerOne 129 = .ok (.iconst 0, 1) := by decide +kernel
theorem dX4_hasPowerOne_130 : decode cX4_hasPowerOne 130 = .ok (.ireturn, 1) := by decide +kernel
theorem bX4_hasPowerOne_0 {l : Launch} {D : va_G} {aI aL : ClassId} {ad : Nat → Nat} {P : sa_P} {I : sa_I} {J : sa_J} {a1 q1 n1 : Nat} {x2 : Int32} {v6 : Int64} {v13 : Int64} {v20 : Int64} {v22 : Int32} (hq1 : sa_iJ (EC l D aI aL ad) a1 q1 n1) (hn1 : n1 < 2 ^ 31) (f6 : (1 : Int64) = v6) (f13 : (0 : Int64) = v13) (f20 : (0 : Int64) = v20) (f22 : (1 : Int32) = v22) (k : Sat (EC l D aI aL ad) M_X4_hasPowerOne P 23 [(0, .ref (ad 4)), (1, .ref a1), (2, .int x2), (3, .int v22)] [] I (sa_uJ (sa_uJ (sa_uJ J 12 0 v6) 12 1 v13) 12 2 v20)) : Sat (EC l D aI aL ad) M_X4_hasPowerOne P 0 [(0, .ref (ad 4)), (1, .ref a1), (2, .int x2)] [] I J := by
  refine s_aload_n 0 dX4_hasPowerOne_0 rfl ?_
  refine g_X4_33 dX4_hasPowerOne_1 rfl ?_
  refine s_iconst (v := 0) dX4_hasPowerOne_4 rfl ?_
  refine s_eqi (y := nI 0) rfl ?_
  refine s_lconst (v := 1) dX4_hasPowerOne_5 rfl ?_
  refine s_eql f6 ?_
  refine s_lastoreN aJ_C12 (by decide) (by decide) dX4_hasPowerOne_6 ?_
  refine s_aload_n 0 dX4_hasPowerOne_7 rfl ?_
  refine g_X4_33 dX4_hasPowerOne_8 rfl ?_
  refine s_iconst (v := 1) dX4_hasPowerOne_11 rfl ?_
  refine s_eqi (y := nI 1) rfl ?_
  refine s_lconst (v := 0) dX4_hasPowerOne_12 rfl ?_
  refine s_eql f13 ?_
  refine s_lastoreN aJ_C12 (by decide) (by decide) dX4_hasPowerOne_13 ?_
  refine s_aload_n 0 dX4_hasPowerOne_14 rfl ?_
  refine g_X4_33 dX4_hasPowerOne_15 rfl ?_
  refine s_iconst (v := 2) dX4_hasPowerOne_18 rfl ?_
  refine s_eqi (y := nI 2) rfl ?_
  refine s_lconst (v := 0) dX4_hasPowerOne_19 rfl ?_
  refine s_eql f20 ?_
  refine s_lastoreN aJ_C12 (by decide) (by decide) dX4_hasPowerOne_20 ?_
  refine s_iconst (v := 1) dX4_hasPowerOne_21 rfl ?_
  refine s_eqi f22 ?_
  refine s_istore_n [(3, .int v22), (0, .ref (ad 4)), (1, .ref a1), (2, .int x2)] dX4_hasPowerOne_22 (Nat.lt_of_lt_of_le (Nat.lt_succ_self _) (Nat.le_of_ble_eq_true rfl)) rfl ?_
  refine s_pick [1, 2, 3, 0] [(0, .ref (ad 4)), (1, .ref a1), (2, .int x2), (3, .int v22)] rfl ?_; exact k
theorem bX4_hasPowerOne_23 {l : Launch} {D : va_G} {aI aL : ClassId} {ad : Nat → Nat} {P : sa_P} {I : sa_I} {J : sa_J} {a1 q1 n1 : Nat} {x2 : Int32} {x3 : Int32} (hq1 : sa_iJ (EC l D aI aL ad) a1 q1 n1) (hn1 : n1 < 2 ^ 31)  (kt : (12 : Int32) < x3 → Sat (EC l D aI aL ad) M_X4_hasPowerOne P 129 [] [] I J) (kf : ¬ (12 : Int32) < x3 → Sat (EC l D aI aL ad) M_X4_hasPowerOne P 29 [(0, .ref (ad 4)), (1, .ref a1), (2, .int x2), (3, .int x3)] [] I J) : Sat (EC l D aI aL ad) M_X4_hasPowerOne P 23 [(0, .ref (ad 4)), (1, .ref a1), (2, .int x2), (3, .int x3)] [] I J := by
  refine s_iload_n 3 dX4_hasPowerOne_23 rfl ?_
  refine s_bipush (v := 12) dX4_hasPowerOne_24 rfl ?_
  refine s_icmp_gt (tgt := 129) dX4_hasPowerOne_26 (by decide) (fun c => ?_) (fun c => ?_)
  · refine s_pick [] [] rfl ?_; exact kt c
  · exact kf c
theorem bX4_hasPowerOne_29 {l : Launch} {D : va_G} {aI aL : ClassId} {ad : Nat → Nat} {P : sa_P} {I : sa_I} {J : sa_J} {a1 q1 n1 : Nat} {x2 : Int32} {x3 : Int32} (hq1 : sa_iJ (EC l D aI aL ad) a1 q1 n1) (hn1 : n1 < 2 ^ 31)  (k : Sat (EC l D aI aL ad) M_X4_hasPowerOne P 37 [(0, .ref (ad 4)), (1, .ref a1), (2, .int x2), (3, .int x3)] [.int x2, .ref a1, .int (0 : Int32), .ref (ad 12), .ref (ad 4)] I J) : Sat (EC l D aI aL ad) M_X4_hasPowerOne P 29 [(0, .ref (ad 4)), (1, .ref a1), (2, .int x2), (3, .int x3)] [] I J := by
  refine s_aload_n 0 dX4_hasPowerOne_29 rfl ?_
  refine s_aload_n 0 dX4_hasPowerOne_30 rfl ?_
  refine g_X4_33 dX4_hasPowerOne_31 rfl ?_
  refine s_iconst (v := 0) dX4_hasPowerOne_34 rfl ?_
  refine s_aload_n 1 dX4_hasPowerOne_35 rfl ?_
  refine s_iload_n 2 dX4_hasPowerOne_36 rfl ?_
  exact k
theorem bX4_hasPowerOne_40 {l : Launch} {D : va_G} {aI aL : ClassId} {ad : Nat → Nat} {P : sa_P} {I : sa_I} {J : sa_J} {a1 q1 n1 : Nat} {x2 : Int32} {x3 : Int32} {v41 : Int32} (hq1 : sa_iJ (EC l D aI aL ad) a1 q1 n1) (hn1 : n1 < 2 ^ 31) (f41 : (0 : Int32) = v41) (k : Sat (EC l D aI aL ad) M_X4_hasPowerOne P 43 [(0, .ref (ad 4)), (1, .ref a1), (2, .int x2), (3, .int x3), (4, .int v41)] [] I J) : Sat (EC l D aI aL ad) M_X4_hasPowerOne P 40 [(0, .ref (ad 4)), (1, .ref a1), (2, .int x2), (3, .int x3)] [] I J := by
  refine s_iconst (v := 0) dX4_hasPowerOne_40 rfl ?_
  refine s_eqi f41 ?_
  refine s_istore [(4, .int v41), (0, .ref (ad 4)), (1, .ref a1), (2, .int x2), (3, .int x3)] dX4_hasPowerOne_41 (Nat.lt_of_lt_of_le (Nat.lt_succ_self _) (Nat.le_of_ble_eq_true rfl)) rfl ?_
  refine s_pick [1, 2, 3, 4, 0] [(0, .ref (ad 4)), (1, .ref a1), (2, .int x2), (3, .int x3), (4, .int v41)] rfl ?_; exact k
theorem bX4_hasPowerOne_43 {l : Launch} {D : va_G} {aI aL : ClassId} {ad : Nat → Nat} {P : sa_P} {I : sa_I} {J : sa_J} {a1 q1 n1 : Nat} {x2 : Int32} {x3 : Int32} {x4 : Int32} (hq1 : sa_iJ (EC l D aI aL ad) a1 q1 n1) (hn1 : n1 < 2 ^ 31)  (kt : (3 : Int32) ≤ x4 → Sat (EC l D aI aL ad) M_X4_hasPowerOne P 88 [(0, .ref (ad 4)), (1, .ref a1), (2, .int x2), (3, .int x3)] [] I J) (kf : ¬ (3 : Int32) ≤ x4 → Sat (EC l D aI aL ad) M_X4_hasPowerOne P 49 [(0, .ref (ad 4)), (1, .ref a1), (2, .int x2), (3, .int x3), (4, .int x4)] [] I J) : Sat (EC l D aI aL ad) M_X4_hasPowerOne P 43 [(0, .ref (ad 4)), (1, .ref a1), (2, .int x2), (3, .int x3), (4, .int x4)] [] I J := by
  refine s_iload 4 dX4_hasPowerOne_43 rfl ?_
  refine s_iconst (v := 3) dX4_hasPowerOne_45 rfl ?_
  refine s_icmp_ge (tgt := 88) dX4_hasPowerOne_46 (by decide) (fun c => ?_) (fun c => ?_)
  · refine s_pick [0, 1, 2, 3] [(0, .ref (ad 4)), (1, .ref a1), (2, .int x2), (3, .int x3)] rfl ?_; exact kt c
  · exact kf c
theorem bX4_hasPowerOne_49 {l : Launch} {D : va_G} {aI aL : ClassId} {ad : Nat → Nat} {P : sa_P} {I : sa_I} {J : sa_J} {a1 q1 n1 : Nat} {x2 : Int32} {x3 : Int32} {x4 : Int32} {j53 : Nat} {j59 : Nat} {v62 : Int64} {j67 : Nat} (hq1 : sa_iJ (EC l D aI aL ad) a1 q1 n1) (hn1 : n1 < 2 ^ 31) (e53 : x4 = nI j53) (e59 : x4 = nI j59) (h61 : j59 < 3) (h62 : j53 < 3) (e67 : x4 = nI j67) (h69 : j67 < 3) (f62 : J 9 j59 = v62) (k : Sat (EC l D aI aL ad) M_X4_hasPowerOne P 70 [(0, .ref (ad 4)), (1, .ref a1), (2, .int x2), (3, .int x3), (4, .int x4)] [.long ((sa_uJ J 12 j53 v62) 12 j67)] I (sa_uJ J 12 j53 v62)) : Sat (EC l D aI aL ad) M_X4_hasPowerOne P 49 [(0, .ref (ad 4)), (1, .ref a1), (2, .int x2), (3, .int x3), (4, .int x4)] [] I J := by
  refine s_aload_n 0 dX4_hasPowerOne_49 rfl ?_
  refine g_X4_33 dX4_hasPowerOne_50 rfl ?_
  refine s_iload 4 dX4_hasPowerOne_53 rfl ?_
  refine s_eqi e53 ?_
  refine s_aload_n 0 dX4_hasPowerOne_55 rfl ?_
  refine g_X4_24 dX4_hasPowerOne_56 rfl ?_
  refine s_iload 4 dX4_hasPowerOne_59 rfl ?_
  refine s_eqi e59 ?_
  refine s_laloadN aJ_C9 h61 (by decide) dX4_hasPowerOne_61 ?_
  refine s_eql f62 ?_
  refine s_lastoreN aJ_C12 h62 (by decide) dX4_hasPowerOne_62 ?_
  refine s_aload_n 0 dX4_hasPowerOne_63 rfl ?_
  refine g_X4_33 dX4_hasPowerOne_64 rfl ?_
  refine s_iload 4 dX4_hasPowerOne_67 rfl ?_
  refine s_eqi e67 ?_
  refine s_laloadN aJ_C12 h69 (by decide) dX4_hasPowerOne_69 ?_
  exact k
theorem bX4_hasPowerOne_73 {l : Launch} {D : va_G} {aI aL : ClassId} {ad : Nat → Nat} {P : sa_P} {I : sa_I} {J : sa_J} {a1 q1 n1 : Nat} {x2 : Int32} {x3 : Int32} {x4 : Int32} {s0 : Int64} (hq1 : sa_iJ (EC l D aI aL ad) a1 q1 n1) (hn1 : n1 < 2 ^ 31)  (kt : s0 ≤ (1000000 : Int64) → Sat (EC l D aI aL ad) M_X4_hasPowerOne P 82 [(0, .ref (ad 4)), (1, .ref a1), (2, .int x2), (3, .int x3), (4, .int x4)] [] I J) (kf : ¬ s0 ≤ (1000000 : Int64) → Sat (EC l D aI aL ad) M_X4_hasPowerOne P 80 [] [] I J) : Sat (EC l D aI aL ad) M_X4_hasPowerOne P 73 [(0, .ref (ad 4)), (1, .ref a1), (2, .int x2), (3, .int x3), (4, .int x4)] [.long s0] I J := by
  refine s_ldc2 wk_X4_124 dX4_hasPowerOne_73 ?_
  refine s_lif_le (tgt := 82) dX4_hasPowerOne_76 dX4_hasPowerOne_77 (by decide) (fun c => ?_) (fun c => ?_)
  · exact kt c
  · refine s_pick [] [] rfl ?_; exact kf c
theorem bX4_hasPowerOne_80 {l : Launch} {D : va_G} {aI aL : ClassId} {ad : Nat → Nat} {P : sa_P} {I : sa_I} {J : sa_J}    (k : P (some (.int (0 : Int32))) I J) : Sat (EC l D aI aL ad) M_X4_hasPowerOne P 80 [] [] I J := by
  refine s_iconst (v := 0) dX4_hasPowerOne_80 rfl ?_
  exact s_zret rfl rfl dX4_hasPowerOne_81 k
theorem bX4_hasPowerOne_82 {l : Launch} {D : va_G} {aI aL : ClassId} {ad : Nat → Nat} {P : sa_P} {I : sa_I} {J : sa_J} {a1 q1 n1 : Nat} {x2 : Int32} {x3 : Int32} {x4 : Int32} {v82 : Int32} (hq1 : sa_iJ (EC l D aI aL ad) a1 q1 n1) (hn1 : n1 < 2 ^ 31) (f82 : x4 + 1 = v82) (k : Sat (EC l D aI aL ad) M_X4_hasPowerOne P 43 [(0, .ref (ad 4)), (1, .ref a1), (2, .int x2), (3, .int x3), (4, .int v82)] [] I J) : Sat (EC l D aI aL ad) M_X4_hasPowerOne P 82 [(0, .ref (ad 4)), (1, .ref a1), (2, .int x2), (3, .int x3), (4, .int x4)] [] I J := by
  refine s_iinc 4 v82 [(4, .int v82), (0, .ref (ad 4)), (1, .ref a1), (2, .int x2), (3, .int x3)] dX4_hasPowerOne_82 rfl f82 (Nat.lt_of_lt_of_le (Nat.lt_succ_self _) (Nat.le_of_ble_eq_true rfl)) rfl ?_
  refine s_goto (tgt := 43) dX4_hasPowerOne_85 (by decide) ?_
  refine s_pick [1, 2, 3, 4, 0] [(0, .ref (ad 4)), (1, .ref a1), (2, .int x2), (3, .int x3), (4, .int v82)] rfl ?_; exact k
theorem bX4_hasPowerOne_88 {l : Launch} {D : va_G} {aI aL : ClassId} {ad : Nat → Nat} {P : sa_P} {I : sa_I} {J : sa_J} {a1 q1 n1 : Nat} {x2 : Int32} {x3 : Int32} (hq1 : sa_iJ (EC l D aI aL ad) a1 q1 n1) (hn1 : n1 < 2 ^ 31)  (kt : ¬ J 12 0 = (1 : Int64) → Sat (EC l D aI aL ad) M_X4_hasPowerOne P 123 [(0, .ref (ad 4)), (1, .ref a1), (2, .int x2), (3, .int x3)] [] I J) (kf : J 12 0 = (1 : Int64) → Sat (EC l D aI aL ad) M_X4_hasPowerOne P 99 [(0, .ref (ad 4)), (1, .ref a1), (2, .int x2), (3, .int x3)] [] I J) : Sat (EC l D aI aL ad) M_X4_hasPowerOne P 88 [(0, .ref (ad 4)), (1, .ref a1), (2, .int x2), (3, .int x3)] [] I J := by
  refine s_aload_n 0 dX4_hasPowerOne_88 rfl ?_
  refine g_X4_33 dX4_hasPowerOne_89 rfl ?_
  refine s_iconst (v := 0) dX4_hasPowerOne_92 rfl ?_
  refine s_eqi (y := nI 0) rfl ?_
  refine s_laloadN aJ_C12 (by decide) (by decide) dX4_hasPowerOne_93 ?_
  refine s_lconst (v := 1) dX4_hasPowerOne_94 rfl ?_
  refine s_lif_ne (tgt := 123) dX4_hasPowerOne_95 dX4_hasPowerOne_96 (by decide) (fun c => ?_) (fun c => ?_)
  · exact kt c
  · exact kf (by first | exact c | exact Classical.not_not.mp c)
theorem bX4_hasPowerOne_99 {l : Launch} {D : va_G} {aI aL : ClassId} {ad : Nat → Nat} {P : sa_P} {I : sa_I} {J : sa_J} {a1 q1 n1 : Nat} {x2 : Int32} {x3 : Int32} (hq1 : sa_iJ (EC l D aI aL ad) a1 q1 n1) (hn1 : n1 < 2 ^ 31)  (kt : ¬ J 12 1 = (0 : Int64) → Sat (EC l D aI aL ad) M_X4_hasPowerOne P 123 [(0, .ref (ad 4)), (1, .ref a1), (2, .int x2), (3, .int x3)] [] I J) (kf : J 12 1 = (0 : Int64) → Sat (EC l D aI aL ad) M_X4_hasPowerOne P 110 [(0, .ref (ad 4)), (1, .ref a1), (2, .int x2), (3, .int x3)] [] I J) : Sat (EC l D aI aL ad) M_X4_hasPowerOne P 99 [(0, .ref (ad 4)), (1, .ref a1), (2, .int x2), (3, .int x3)] [] I J := by
  refine s_aload_n 0 dX4_hasPowerOne_99 rfl ?_
  refine g_X4_33 dX4_hasPowerOne_100 rfl ?_
  refine s_iconst (v := 1) dX4_hasPowerOne_103 rfl ?_
  refine s_eqi (y := nI 1) rfl ?_
  refine s_laloadN aJ_C12 (by decide) (by decide) dX4_hasPowerOne_104 ?_
  refine s_lconst (v := 0) dX4_hasPowerOne_105 rfl ?_
  refine s_lif_ne (tgt := 123) dX4_hasPowerOne_106 dX4_hasPowerOne_107 (by decide) (fun c => ?_) (fun c => ?_)
  · exact kt c
  · exact kf (by first | exact c | exact Classical.not_not.mp c)
theorem bX4_hasPowerOne_110 {l : Launch} {D : va_G} {aI aL : ClassId} {ad : Nat → Nat} {P : sa_P} {I : sa_I} {J : sa_J} {a1 q1 n1 : Nat} {x2 : Int32} {x3 : Int32} (hq1 : sa_iJ (EC l D aI aL ad) a1 q1 n1) (hn1 : n1 < 2 ^ 31)  (kt : ¬ J 12 2 = (0 : Int64) → Sat (EC l D aI aL ad) M_X4_hasPowerOne P 123 [(0, .ref (ad 4)), (1, .ref a1), (2, .int x2), (3, .int x3)] [] I J) (kf : J 12 2 = (0 : Int64) → Sat (EC l D aI aL ad) M_X4_hasPowerOne P 121 [] [] I J) : Sat (EC l D aI aL ad) M_X4_hasPowerOne P 110 [(0, .ref (ad 4)), (1, .ref a1), (2, .int x2), (3, .int x3)] [] I J := by
  refine s_aload_n 0 dX4_hasPowerOne_110 rfl ?_
  refine g_X4_33 dX4_hasPowerOne_111 rfl ?_
  refine s_iconst (v := 2) dX4_hasPowerOne_114 rfl ?_
  refine s_eqi (y := nI 2) rfl ?_
  refine s_laloadN aJ_C12 (by decide) (by decide) dX4_hasPowerOne_115 ?_
  refine s_lconst (v := 0) dX4_hasPowerOne_116 rfl ?_
  refine s_lif_ne (tgt := 123) dX4_hasPowerOne_117 dX4_hasPowerOne_118 (by decide) (fun c => ?_) (fun c => ?_)
  · exact kt c
  · refine s_pick [] [] rfl ?_; exact kf (by first | exact c | exact Classical.not_not.mp c)
theorem bX4_hasPowerOne_121 {l : Launch} {D : va_G} {aI aL : ClassId} {ad : Nat → Nat} {P : sa_P} {I : sa_I} {J : sa_J}    (k : P (some (.int (1 : Int32))) I J) : Sat (EC l D aI aL ad) M_X4_hasPowerOne P 121 [] [] I J := by
  refine s_iconst (v := 1) dX4_hasPowerOne_121 rfl ?_
  exact s_zret rfl rfl dX4_hasPowerOne_122 k
theorem bX4_hasPowerOne_123 {l : Launch} {D : va_G} {aI aL : ClassId} {ad : Nat → Nat} {P : sa_P} {I : sa_I} {J : sa_J} {a1 q1 n1 : Nat} {x2 : Int32} {x3 : Int32} {v123 : Int32} (hq1 : sa_iJ (EC l D aI aL ad) a1 q1 n1) (hn1 : n1 < 2 ^ 31) (f123 : x3 + 1 = v123) (k : Sat (EC l D aI aL ad) M_X4_hasPowerOne P 23 [(0, .ref (ad 4)), (1, .ref a1), (2, .int x2), (3, .int v123)] [] I J) : Sat (EC l D aI aL ad) M_X4_hasPowerOne P 123 [(0, .ref (ad 4)), (1, .ref a1), (2, .int x2), (3, .int x3)] [] I J := by
  refine s_iinc 3 v123 [(3, .int v123), (0, .ref (ad 4)), (1, .ref a1), (2, .int x2)] dX4_hasPowerOne_123 rfl f123 (Nat.lt_of_lt_of_le (Nat.lt_succ_self _) (Nat.le_of_ble_eq_true rfl)) rfl ?_
  refine s_goto (tgt := 23) dX4_hasPowerOne_126 (by decide) ?_
  refine s_pick [1, 2, 3, 0] [(0, .ref (ad 4)), (1, .ref a1), (2, .int x2), (3, .int v123)] rfl ?_; exact k
theorem bX4_hasPowerOne_129 {l : Launch} {D : va_G} {aI aL : ClassId} {ad : Nat → Nat} {P : sa_P} {I : sa_I} {J : sa_J}    (k : P (some (.int (0 : Int32))) I J) : Sat (EC l D aI aL ad) M_X4_hasPowerOne P 129 [] [] I J := by
  refine s_iconst (v := 0) dX4_hasPowerOne_129 rfl ?_
  exact s_zret rfl rfl dX4_hasPowerOne_130 k
