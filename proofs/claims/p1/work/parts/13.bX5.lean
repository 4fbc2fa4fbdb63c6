/-! X5_forget -/
theorem dX5_forget_0 : decode cX5_forget 0 = .ok (.aload_n 0, 1) := by decide +kernel
theorem dX5_forget_1 : decode cX5_forget 1 = .ok (.iconst 0, 1) := by decide +kernel
theorem dX5_forget_2 : decode cX5_forget 2 = .ok (.putfield 34, 3) := by decide +kernel
theorem dX5_forget_5 : decode cX5_forget 5 = .ok (.return_, 1) := by decide +kernel
theorem bX5_forget_0 {l : Launch} {D : va_G} {aI aL : ClassId} {ad : Nat → Nat} {P : sa_P} {I : sa_I} {J : sa_J} {v2 : Int32}  (f2 : (0 : Int32) = v2) (k : P (none) (sa_uI I 21 8 v2) J) : Sat (EC l D aI aL ad) M_X5_forget P 0 [(0, .ref (ad 21))] [] I J := by
  refine s_aload_n 0 dX5_forget_0 rfl ?_
  refine s_iconst (v := 0) dX5_forget_1 rfl ?_
  refine s_eqi f2 ?_
  refine p_X5_34 dX5_forget_2 rfl ?_
  exact s_vret rfl dX5_forget_5 k
/-! X5_split -/
theorem dX5_split_0 : decode cX5_split 0 = .ok (.iload_n 1, 1) := by decide +kernel
theorem dX5_split_1 : decode cX5_split 1 = .ok (.aload_n 0, 1) := by decide +kernel
theorem dX5_split_2 : decode cX5_split 2 = .ok (.getfield 34, 3) := by decide +kernel
theorem dX5_split_5 : decode cX5_split 5 = .ok (.if_icmp .ne 4, 3) := by decide +kernel
theorem dX5_split_8 : decode cX5_split 8 = .ok (.return_, 1) := by decide +kernel
theorem dX5_split_9 : decode cX5_split 9 = .ok (.aload_n 0, 1) := by decide +kernel
theorem dX5_split_10 : decode cX5_split 10 = .ok (.iload_n 1, 1) := by decide +kernel
theorem dX5_split_11 : decode cX5_split 11 = .ok (.putfield 34, 3) := by decide +kernel
theorem dX5_split_14 : decode cX5_split 14 = .ok (.aload_n 0, 1) := by decide +kernel
theorem dX5_split_15 : decode cX5_split 15 = .ok (.iconst 0, 1) := by decide +kernel
theorem dX5_split_16 : decode cX5_split 16 = .ok (.putfield 38, 3) := by decide +kernel
theorem dX5_split_19 : decode cX5_split 19 = .ok (.aload_n 0, 1) := by decide +kernel
theorem dX5_split_20 : decode cX5_split 20 = .ok (.iload_n 1, 1) := by decide +kernel
theorem dX5_split_21 : decode cX5_split 21 = .ok (.invokevirtual 41, 3) := by decide +kernel
theorem dX5_split_24 : decode cX5_split 24 = .ok (.aload_n 0, 1) := by decide +kernel
theorem dX5_split_25 : decode cX5_split 25 = .ok (.getfield 38, 3) := by decide +kernel
theorem dX5_split_28 : decode cX5_split 28 = .ok (.ifCond .ne 37, 3) := by decide +kernel
theorem dX5_split_31 : decode cX5_split 31 = .ok (.aload_n 0, 1) := by decide +kernel
theorem dX5_split_32 : decode cX5_split 32 = .ok (.getfield 30, 3) := by decide +kernel
theorem dX5_split_35 : decode cX5_split 35 = .ok (.getfield 45, 3) := by decide +kernel
theorem dX5_split_38 : decode cX5_split 38 = .ok (.aload_n 0, 1) := by decide +kernel
theorem dX5_split_39 : decode cX5_split 39 = .ok (.getfield 26, 3) := by decide +kernel
theorem dX5_split_42 : decode cX5_split 42 = .ok (.getfield 51, 3) := by decide +kernel
theorem dX5_split_45 : decode cX5_split 45 = .ok (.iload_n 1, 1) := by decide +kernel
theorem dX5_split_46 : decode cX5_split 46 = .ok (.i2l, 1) := by decide +kernel
theorem dX5_split_47 : decode cX5_split 47 = .ok (.invokevirtual 56, 3) := by decide +kernel
theorem dX5_split_50 : decode cX5_split 50 = .ok (.aload_n 0, 1) := by decide +kernel
theorem dX5_split_51 : decode cX5_split 51 = .ok (.iconst 1, 1) := by decide +kernel
theorem dX5_split_52 : decode cX5_split 52 = .ok (.aload_n 0, 1) := by decide +kernel
theorem dX5_split_53 : decode cX5_split 53 = .ok (.getfield 26, 3) := by decide +kernel
theorem dX5_split_56 : decode cX5_split 56 = .ok (.getfield 51, 3) := by decide +kernel
theorem dX5_split_59 : decode cX5_split 59 = .ok (.invokevirtual 62, 3) := by decide +kernel
theorem dX5_split_62 : decode cX5_split 62 = .ok (.goto 41, 3) := by decide +kernel
theorem dX5_split_65 : decode cX5_split 65 = .ok (.aload_n 0, 1) := by decide +kernel
theorem dX5_split_66 : decode cX5_split 66 = .ok (.getfield 26, 3) := by decide +kernel
theorem dX5_split_69 : decode cX5_split 69 = .ok (.getfield 51, 3) := by decide +kernel
theorem dX5_split_72 : decode cX5_split 72 = .ok (.iconst 2, 1) := by decide +kernel
theorem dX5_split_73 : decode cX5_split 73 = .ok (.if_icmp .ne 25, 3) := by decide +kernel
theorem dX5_split_76 : decode cX5_split 76 = .ok (.aload_n 0, 1) := by decide +kernel
theorem dX5_split_77 : decode cX5_split 77 = .ok (.getfield 7, 3) := by decide +kernel
theorem dX5_split_80 : decode cX5_split 80 = .ok (.iconst 0, 1) := by decide +kernel
theorem dX5_split_81 : decode cX5_split 81 = .ok (.aload_n 0, 1) := by decide +kernel
theorem dX5_split_82 : decode cX5_split 82 = .ok (.getfield 38, 3) := by decide +kernel
theorem dX5_split_85 : decode cX5_split 85 = .ok (.iconst 1, 1) := by decide +kernel
theorem dX5_split_86 : decode cX5_split 86 = .ok (.if_icmp .ne 7, 3) := by decide +kernel
theorem dX5_split_89 : decode cX5_split 89 = .ok (.iconst 2, 1) := by decide +kernel
theorem dX5_split_90 : decode cX5_split 90 = .ok (.goto 4, 3) := by decide +kernel
theorem dX5_split_93 : decode cX5_split 93 = .ok (.iconst 1, 1) := by decide +kernel
theorem dX5_split_94 : decode cX5_split 94 = .ok (.iastore, 1) := by decide +kernel
theorem dX5_split_95 : decode cX5_split 95 = .ok (.goto 8, 3) := by decide +kernel
theorem dX5_split_98 : decode cX5_split 98 = .ok (.aload_n 0, 1) := by decide +kernel
theorem dX5_split_99 : decode cX5_split 99 = .ok (.iload_n 1, 1) := by decide +kernel
theorem dX5_split_100 : decode cX5_split 100 = .ok (.invokevirtual 66, 3) := by decide +kernel
theorem dX5_split_103 : decode cX5_split 103 = .ok (.return_, 1) := by decide +kernel
theorem bX5_split_0 {l : Launch} {D : va_G} {aI aL : ClassId} {ad : Nat → Nat} {P : sa_P} {I : sa_I} {J : sa_J} {x1 : Int32}   (kt : ¬ x1 = I 21 8 → Sat (EC l D aI aL ad) M_X5_split P 9 [(0, .ref (ad 21)), (1, .int x1)] [] I J) (kf : x1 = I 21 8 → Sat (EC l D aI aL ad) M_X5_split P 8 [] [] I J) : Sat (EC l D aI aL ad) M_X5_split P 0 [(0, .ref (ad 21)), (1, .int x1)] [] I J := by
  refine s_iload_n 1 dX5_split_0 rfl ?_
  refine s_aload_n 0 dX5_split_1 rfl ?_
  refine g_X5_34 dX5_split_2 rfl ?_
  refine s_icmp_ne (tgt := 9) dX5_split_5 (by decide) (fun c => ?_) (fun c => ?_)
  · exact kt c
  · refine s_pick [] [] rfl ?_; exact kf (by first | exact c | exact Classical.not_not.mp c)
theorem bX5_split_8 {l : Launch} {D : va_G} {aI aL : ClassId} {ad : Nat → Nat} {P : sa_P} {I : sa_I} {J : sa_J}    (k : P (none) I J) : Sat (EC l D aI aL ad) M_X5_split P 8 [] [] I J := by
  exact s_vret rfl dX5_split_8 k
theorem bX5_split_9 {l : Launch} {D : va_G} {aI aL : ClassId} {ad : Nat → Nat} {P : sa_P} {I : sa_I} {J : sa_J} {x1 : Int32} {v16 : Int32}  (f16 : (0 : Int32) = v16) (k : Sat (EC l D aI aL ad) M_X5_split P 21 [(0, .ref (ad 21)), (1, .int x1)] [.int x1, .ref (ad 21)] (sa_uI (sa_uI I 21 8 x1) 21 0 v16) J) : Sat (EC l D aI aL ad) M_X5_split P 9 [(0, .ref (ad 21)), (1, .int x1)] [] I J := by
  refine s_aload_n 0 dX5_split_9 rfl ?_
  refine s_iload_n 1 dX5_split_10 rfl ?_
  refine p_X5_34 dX5_split_11 rfl ?_
  refine s_aload_n 0 dX5_split_14 rfl ?_
  refine s_iconst (v := 0) dX5_split_15 rfl ?_
  refine s_eqi f16 ?_
  refine p_X5_38 dX5_split_16 rfl ?_
  refine s_aload_n 0 dX5_split_19 rfl ?_
  refine s_iload_n 1 dX5_split_20 rfl ?_
  exact k
theorem bX5_split_24 {l : Launch} {D : va_G} {aI aL : ClassId} {ad : Nat → Nat} {P : sa_P} {I : sa_I} {J : sa_J} {x1 : Int32}   (kt : ¬ I 21 0 = 0 → Sat (EC l D aI aL ad) M_X5_split P 65 [(0, .ref (ad 21)), (1, .int x1)] [] I J) (kf : I 21 0 = 0 → Sat (EC l D aI aL ad) M_X5_split P 31 [(0, .ref (ad 21)), (1, .int x1)] [] I J) : Sat (EC l D aI aL ad) M_X5_split P 24 [(0, .ref (ad 21)), (1, .int x1)] [] I J := by
  refine s_aload_n 0 dX5_split_24 rfl ?_
  refine g_X5_38 dX5_split_25 rfl ?_
  refine s_if_ne (tgt := 65) dX5_split_28 (by decide) (fun c => ?_) (fun c => ?_)
  · exact kt c
  · exact kf (by first | exact c | exact Classical.not_not.mp c)
theorem bX5_split_31 {l : Launch} {D : va_G} {aI aL : ClassId} {ad : Nat → Nat} {P : sa_P} {I : sa_I} {J : sa_J} {x1 : Int32}   (k : Sat (EC l D aI aL ad) M_X5_split P 47 [(0, .ref (ad 21))] [.long x1.toInt64, .int (I 4 0), .ref (ad 14)] I J) : Sat (EC l D aI aL ad) M_X5_split P 31 [(0, .ref (ad 21)), (1, .int x1)] [] I J := by
  refine s_aload_n 0 dX5_split_31 rfl ?_
  refine g_X5_30 dX5_split_32 rfl ?_
  refine g_X5_45 dX5_split_35 rfl ?_
  refine s_aload_n 0 dX5_split_38 rfl ?_
  refine g_X5_26 dX5_split_39 rfl ?_
  refine g_X5_51 dX5_split_42 rfl ?_
  refine s_iload_n 1 dX5_split_45 rfl ?_
  refine s_i2l dX5_split_46 ?_
  refine s_pick [0] [(0, .ref (ad 21))] rfl ?_; exact k
theorem bX5_split_50 {l : Launch} {D : va_G} {aI aL : ClassId} {ad : Nat → Nat} {P : sa_P} {I : sa_I} {J : sa_J}    (k : Sat (EC l D aI aL ad) M_X5_split P 59 [] [.int (I 4 0), .int (1 : Int32), .ref (ad 21)] I J) : Sat (EC l D aI aL ad) M_X5_split P 50 [(0, .ref (ad 21))] [] I J := by
  refine s_aload_n 0 dX5_split_50 rfl ?_
  refine s_iconst (v := 1) dX5_split_51 rfl ?_
  refine s_aload_n 0 dX5_split_52 rfl ?_
  refine g_X5_26 dX5_split_53 rfl ?_
  refine g_X5_51 dX5_split_56 rfl ?_
  refine s_pick [] [] rfl ?_; exact k
theorem bX5_split_62 {l : Launch} {D : va_G} {aI aL : ClassId} {ad : Nat → Nat} {P : sa_P} {I : sa_I} {J : sa_J}    (k : Sat (EC l D aI aL ad) M_X5_split P 103 [] [] I J) : Sat (EC l D aI aL ad) M_X5_split P 62 [] [] I J := by
  refine s_goto (tgt := 103) dX5_split_62 (by decide) ?_
  exact k
theorem bX5_split_65 {l : Launch} {D : va_G} {aI aL : ClassId} {ad : Nat → Nat} {P : sa_P} {I : sa_I} {J : sa_J} {x1 : Int32}   (kt : ¬ I 4 0 = (2 : Int32) → Sat (EC l D aI aL ad) M_X5_split P 98 [(0, .ref (ad 21)), (1, .int x1)] [] I J) (kf : I 4 0 = (2 : Int32) → Sat (EC l D aI aL ad) M_X5_split P 76 [(0, .ref (ad 21))] [] I J) : Sat (EC l D aI aL ad) M_X5_split P 65 [(0, .ref (ad 21)), (1, .int x1)] [] I J := by
  refine s_aload_n 0 dX5_split_65 rfl ?_
  refine g_X5_26 dX5_split_66 rfl ?_
  refine g_X5_51 dX5_split_69 rfl ?_
  refine s_iconst (v := 2) dX5_split_72 rfl ?_
  refine s_icmp_ne (tgt := 98) dX5_split_73 (by decide) (fun c => ?_) (fun c => ?_)
  · exact kt c
  · refine s_pick [0] [(0, .ref (ad 21))] rfl ?_; exact kf (by first | exact c | exact Classical.not_not.mp c)
theorem bX5_split_76 {l : Launch} {D : va_G} {aI aL : ClassId} {ad : Nat → Nat} {P : sa_P} {I : sa_I} {J : sa_J}    (kt : ¬ I 21 0 = (1 : Int32) → Sat (EC l D aI aL ad) M_X5_split P 93 [] [.int (0 : Int32), .ref (ad 22)] I J) (kf : I 21 0 = (1 : Int32) → Sat (EC l D aI aL ad) M_X5_split P 89 [] [.int (0 : Int32), .ref (ad 22)] I J) : Sat (EC l D aI aL ad) M_X5_split P 76 [(0, .ref (ad 21))] [] I J := by
  refine s_aload_n 0 dX5_split_76 rfl ?_
  refine g_X5_7 dX5_split_77 rfl ?_
  refine s_iconst (v := 0) dX5_split_80 rfl ?_
  refine s_aload_n 0 dX5_split_81 rfl ?_
  refine g_X5_38 dX5_split_82 rfl ?_
  refine s_iconst (v := 1) dX5_split_85 rfl ?_
  refine s_icmp_ne (tgt := 93) dX5_split_86 (by decide) (fun c => ?_) (fun c => ?_)
  · refine s_pick [] [] rfl ?_; exact kt c
  · refine s_pick [] [] rfl ?_; exact kf (by first | exact c | exact Classical.not_not.mp c)
theorem bX5_split_89 {l : Launch} {D : va_G} {aI aL : ClassId} {ad : Nat → Nat} {P : sa_P} {I : sa_I} {J : sa_J} {s1 : Int32}   (k : Sat (EC l D aI aL ad) M_X5_split P 94 [] [.int (2 : Int32), .int s1, .ref (ad 22)] I J) : Sat (EC l D aI aL ad) M_X5_split P 89 [] [.int s1, .ref (ad 22)] I J := by
  refine s_iconst (v := 2) dX5_split_89 rfl ?_
  refine s_goto (tgt := 94) dX5_split_90 (by decide) ?_
  exact k
theorem bX5_split_93 {l : Launch} {D : va_G} {aI aL : ClassId} {ad : Nat → Nat} {P : sa_P} {I : sa_I} {J : sa_J} {s1 : Int32}   (k : Sat (EC l D aI aL ad) M_X5_split P 94 [] [.int (1 : Int32), .int s1, .ref (ad 22)] I J) : Sat (EC l D aI aL ad) M_X5_split P 93 [] [.int s1, .ref (ad 22)] I J := by
  refine s_iconst (v := 1) dX5_split_93 rfl ?_
  exact k
theorem bX5_split_94 {l : Launch} {D : va_G} {aI aL : ClassId} {ad : Nat → Nat} {P : sa_P} {I : sa_I} {J : sa_J} {s1 : Nat} {s2 : Int32} (h94 : s1 < 3)  (k : Sat (EC l D aI aL ad) M_X5_split P 103 [] [] (sa_uI I 22 s1 s2) J) : Sat (EC l D aI aL ad) M_X5_split P 94 [] [.int s2, .int (nI s1), .ref (ad 22)] I J := by
  refine s_iastoreN aI_C22 h94 (by decide) dX5_split_94 ?_
  refine s_goto (tgt := 103) dX5_split_95 (by decide) ?_
  exact k
theorem bX5_split_98 {l : Launch} {D : va_G} {aI aL : ClassId} {ad : Nat → Nat} {P : sa_P} {I : sa_I} {J : sa_J} {x1 : Int32}   (k : Sat (EC l D aI aL ad) M_X5_split P 100 [] [.int x1, .ref (ad 21)] I J) : Sat (EC l D aI aL ad) M_X5_split P 98 [(0, .ref (ad 21)), (1, .int x1)] [] I J := by
  refine s_aload_n 0 dX5_split_98 rfl ?_
  refine s_iload_n 1 dX5_split_99 rfl ?_
  refine s_pick [] [] rfl ?_; exact k
theorem bX5_split_103 {l : Launch} {D : va_G} {aI aL : ClassId} {ad : Nat → Nat} {P : sa_P} {I : sa_I} {J : sa_J}    (k : P (none) I J) : Sat (EC l D aI aL ad) M_X5_split P 103 [] [] I J := by
  exact s_vret rfl dX5_split_103 k
/-! X5_findFirstDegree -/
theorem dX5_findFirstDegree_0 : decode cX5_findFirstDegree 0 = .ok (.aload_n 0, 1) := by decide +kernel
theorem dX5_findFirstDegree_1 : decode cX5_findFirstDegree 1 = .ok (.getfield 23, 3) := by decide +kernel
theorem dX5_findFirstDegree_4 : decode cX5_findFirstDegree 4 = .ok (.iconst 1, 1) := by decide +kernel
theorem dX5_findFirstDegree_5 : decode cX5_findFirstDegree 5 = .ok (.lconst 1, 1) := by decide +kernel
theorem dX5_findFirstDegree_6 : decode cX5_findFirstDegree 6 = .ok (.lastore, 1) := by decide +kernel
theorem dX5_findFirstDegree_7 : decode cX5_findFirstDegree 7 = .ok (.aload_n 0, 1) := by decide +kernel
theorem dX5_findFirstDegree_8 : decode cX5_findFirstDegree 8 = .ok (.getfield 26, 3) := by decide +kernel
theorem dX5_findFirstDegree_11 : decode cX5_findFirstDegree 11 = .ok (.aload_n 0, 1) := by decide +kernel
theorem dX5_findFirstDegree_12 : decode cX5_findFirstDegree 12 = .ok (.getfield 23, 3) := by decide +kernel
theorem dX5_findFirstDegree_15 : decode cX5_findFirstDegree 15 = .ok (.iconst 0, 1) := by decide +kernel
theorem dX5_findFirstDegree_16 : decode cX5_findFirstDegree 16 = .ok (.invokevirtual 69, 3) := by decide +kernel
theorem dX5_findFirstDegree_19 : decode cX5_findFirstDegree 19 = .ok (.aload_n 0, 1) := by decide +kernel
theorem dX5_findFirstDegree_20 : decode cX5_findFirstDegree 20 = .ok (.getfield 26, 3) := by decide +kernel
theorem dX5_findFirstDegree_23 : decode cX5_findFirstDegree 23 = .ok (.invokevirtual 73, 3) := by decide +kernel
theorem dX5_findFirstDegree_26 : decode cX5_findFirstDegree 26 = .ok (.lstore_n 2, 1) := by decide +kernel
theorem dX5_findFirstDegree_27 : decode cX5_findFirstDegree 27 = .ok (.aload_n 0, 1) := by decide +kernel
theorem dX5_findFirstDegree_28 : decode cX5_findFirstDegree 28 = .ok (.getfield 26, 3) := by decide +kernel
theorem dX5_findFirstDegree_31 : decode cX5_findFirstDegree 31 = .ok (.invokevirtual 77, 3) := by decide +kernel
theorem dX5_findFirstDegree_34 : decode cX5_findFirstDegree 34 = .ok (.lstore 4, 2) := by decide +kernel
theorem dX5_findFirstDegree_36 : decode cX5_findFirstDegree 36 = .ok (.aload_n 0, 1) := by decide +kernel
theorem dX5_findFirstDegree_37 : decode cX5_findFirstDegree 37 = .ok (.getfield 26, 3) := by decide +kernel
theorem dX5_findFirstDegree_40 : decode cX5_findFirstDegree 40 = .ok (.invokevirtual 80, 3) := by decide +kernel
theorem dX5_findFirstDegree_43 : decode cX5_findFirstDegree 43 = .ok (.lstore 6, 2) := by decide +kernel
theorem dX5_findFirstDegree_45 : decode cX5_findFirstDegree 45 = .ok (.aload_n 0, 1) := by decide +kernel
theorem dX5_findFirstDegree_46 : decode cX5_findFirstDegree 46 = .ok (.getfield 20, 3) := by decide +kernel
theorem dX5_findFirstDegree_49 : decode cX5_findFirstDegree 49 = .ok (.iconst 0, 1) := by decide +kernel
theorem dX5_findFirstDegree_50 : decode cX5_findFirstDegree 50 = .ok (.lconst 1, 1) := by decide +kernel
theorem dX5_findFirstDegree_51 : decode cX5_findFirstDegree 51 = .ok (.lastore, 1) := by decide +kernel
theorem dX5_findFirstDegree_52 : decode cX5_findFirstDegree 52 = .ok (.iconst 0, 1) := by decide +kernel
theorem dX5_findFirstDegree_53 : decode cX5_findFirstDegree 53 = .ok (.istore 8, 2) := by decide +kernel
theorem dX5_findFirstDegree_55 : decode cX5_findFirstDegree 55 = .ok (.iload 8, 2) := by decide +kernel
theorem dX5_findFirstDegree_57 : decode cX5_findFirstDegree 57 = .ok (.iload_n 1, 1) := by decide +kernel
theorem dX5_findFirstDegree_58 : decode cX5_findFirstDegree 58 = .ok (.if_icmp .ge 123, 3) := by decide +kernel
theorem dX5_findFirstDegree_61 : decode cX5_findFirstDegree 61 = .ok (.aload_n 0, 1) := by decide +kernel
theorem dX5_findFirstDegree_62 : decode cX5_findFirstDegree 62 = .ok (.getfield 20, 3) := by decide +kernel
theorem dX5_findFirstDegree_65 : decode cX5_findFirstDegree 65 = .ok (.iconst 1, 1) := by decide +kernel
theorem dX5_findFirstDegree_66 : decode cX5_findFirstDegree 66 = .ok (.iload 8, 2) := by decide +kernel
theorem dX5_findFirstDegree_68 : decode cX5_findFirstDegree 68 = .ok (.ineg, 1) := by decide +kernel
theorem dX5_findFirstDegree_69 : decode cX5_findFirstDegree 69 = .ok (.i2l, 1) := by decide +kernel
theorem dX5_findFirstDegree_70 : decode cX5_findFirstDegree 70 = .ok (.iload_n 1, 1) := by decide +kernel
theorem dX5_findFirstDegree_71 : decode cX5_findFirstDegree 71 = .ok (.i2l, 1) := by decide +kernel
theorem dX5_findFirstDegree_72 : decode cX5_findFirstDegree 72 = .ok (.invokestatic 83, 3) := by decide +kernel
theorem dX5_findFirstDegree_75 : decode cX5_findFirstDegree 75 = .ok (.lastore, 1) := by decide +kernel
theorem dX5_findFirstDegree_76 : decode cX5_findFirstDegree 76 = .ok (.aload_n 0, 1) := by decide +kernel
theorem dX5_findFirstDegree_77 : decode cX5_findFirstDegree 77 = .ok (.getfield 26, 3) := by decide +kernel
theorem dX5_findFirstDegree_80 : decode cX5_findFirstDegree 80 = .ok (.getfield 51, 3) := by decide +kernel
theorem dX5_findFirstDegree_83 : decode cX5_findFirstDegree 83 = .ok (.iconst 2, 1) := by decide +kernel
theorem dX5_findFirstDegree_84 : decode cX5_findFirstDegree 84 = .ok (.if_icmp .ne 14, 3) := by decide +kernel
theorem dX5_findFirstDegree_87 : decode cX5_findFirstDegree 87 = .ok (.aload_n 0, 1) := by decide +kernel
theorem dX5_findFirstDegree_88 : decode cX5_findFirstDegree 88 = .ok (.iload_n 1, 1) := by decide +kernel
theorem dX5_findFirstDegree_89 : decode cX5_findFirstDegree 89 = .ok (.iload 8, 2) := by decide +kernel
theorem dX5_findFirstDegree_91 : decode cX5_findFirstDegree 91 = .ok (.iconst 0, 1) := by decide +kernel
theorem dX5_findFirstDegree_92 : decode cX5_findFirstDegree 92 = .ok (.invokevirtual 89, 3) := by decide +kernel
theorem dX5_findFirstDegree_95 : decode cX5_findFirstDegree 95 = .ok (.goto 80, 3) := by decide +kernel
theorem dX5_findFirstDegree_98 : decode cX5_findFirstDegree 98 = .ok (.aload_n 0, 1) := by decide +kernel
theorem dX5_findFirstDegree_99 : decode cX5_findFirstDegree 99 = .ok (.getfield 20, 3) := by decide +kernel
theorem dX5_findFirstDegree_102 : decode cX5_findFirstDegree 102 = .ok (.iconst 1, 1) := by decide +kernel
theorem dX5_findFirstDegree_103 : decode cX5_findFirstDegree 103 = .ok (.laload, 1) := by decide +kernel
theorem dX5_findFirstDegree_104 : decode cX5_findFirstDegree 104 = .ok (.lload_n 2, 1) := by decide +kernel
theorem dX5_findFirstDegree_105 : decode cX5_findFirstDegree 105 = .ok (.lsub, 1) := by decide +kernel
theorem dX5_findFirstDegree_106 : decode cX5_findFirstDegree 106 = .ok (.aload_n 0, 1) := by decide +kernel
theorem dX5_findFirstDegree_107 : decode cX5_findFirstDegree 107 = .ok (.getfield 20, 3) := by decide +kernel
theorem dX5_findFirstDegree_110 : decode cX5_findFirstDegree 110 = .ok (.iconst 1, 1) := by decide +kernel
theorem dX5_findFirstDegree_111 : decode cX5_findFirstDegree 111 = .ok (.laload, 1) := by decide +kernel
theorem dX5_findFirstDegree_112 : decode cX5_findFirstDegree 112 = .ok (.lmul, 1) := by decide +kernel
theorem dX5_findFirstDegree_113 : decode cX5_findFirstDegree 113 = .ok (.lload 4, 2) := by decide +kernel
theorem dX5_findFirstDegree_115 : decode cX5_findFirstDegree 115 = .ok (.ladd, 1) := by decide +kernel
theorem dX5_findFirstDegree_116 : decode cX5_findFirstDegree 116 = .ok (.aload_n 0, 1) := by decide +kernel
theorem dX5_findFirstDegree_117 : decode cX5_findFirstDegree 117 = .ok (.getfield 20, 3) := by decide +kernel
theorem dX5_findFirstDegree_120 : decode cX5_findFirstDegree 120 = .ok (.iconst 1, 1) := by decide +kernel
theorem dX5_findFirstDegree_121 : decode cX5_findFirstDegree 121 = .ok (.laload, 1) := by decide +kernel
theorem dX5_findFirstDegree_122 : decode cX5_findFirstDegree 122 = .ok (.lmul, 1) := by decide +kernel
theorem dX5_findFirstDegree_123 : decode cX5_findFirstDegree 123 = .ok (.lload 6, 2) := by decide +kernel
theorem dX5_findFirstDegree_125 : decode cX5_findFirstDegree 125 = .ok (.lsub, 1) := by decide +kernel
theorem dX5_findFirstDegree_126 : decode cX5_findFirstDegree 126 = .ok (.iload_n 1, 1) := by decide +kernel
theorem dX5_findFirstDegree_127 : decode cX5_findFirstDegree 127 = .ok (.i2l, 1) := by decide +kernel
theorem dX5_findFirstDegree_128 : decode cX5_findFirstDegree 128 = .ok (.invokestatic 83, 3) := by decide +kernel
theorem dX5_findFirstDegree_131 : decode cX5_findFirstDegree 131 = .ok (.lconst 0, 1) := by decide +kernel
theorem dX5_findFirstDegree_132 : decode cX5_findFirstDegree 132 = .ok (.lcmp, 1) := by decide +kernel
theorem dX5_findFirstDegree_133 : decode cX5_findFirstDegree 133 = .ok (.ifCond .ne 42, 3) := by decide +kernel
theorem dX5_findFirstDegree_136 : decode cX5_findFirstDegree 136 = .ok (.iconst 0, 1) := by decide +kernel
theorem dX5_findFirstDegree_137 : decode cX5_findFirstDegree 137 = .ok (.istore 9, 2) := by decide +kernel
theorem dX5_findFirstDegree_139 : decode cX5_findFirstDegree 139 = .ok (.iload 9, 2) := by decide +kernel
theorem dX5_findFirstDegree_141 : decode cX5_findFirstDegree 141 = .ok (.iload_n 1, 1) := by decide +kernel
theorem dX5_findFirstDegree_142 : decode cX5_findFirstDegree 142 = .ok (.if_icmp .ge 33, 3) := by decide +kernel
theorem dX5_findFirstDegree_145 : decode cX5_findFirstDegree 145 = .ok (.aload_n 0, 1) := by decide +kernel
theorem dX5_findFirstDegree_146 : decode cX5_findFirstDegree 146 = .ok (.getfield 20, 3) := by decide +kernel
theorem dX5_findFirstDegree_149 : decode cX5_findFirstDegree 149 = .ok (.iconst 2, 1) := by decide +kernel
theorem dX5_findFirstDegree_150 : decode cX5_findFirstDegree 150 = .ok (.iload 9, 2) := by decide +kernel
theorem dX5_findFirstDegree_152 : decode cX5_findFirstDegree 152 = .ok (.ineg, 1) := by decide +kernel
theorem dX5_findFirstDegree_153 : decode cX5_findFirstDegree 153 = .ok (.i2l, 1) := by decide +kernel
theorem dX5_findFirstDegree_154 : decode cX5_findFirstDegree 154 = .ok (.iload_n 1, 1) := by decide +kernel
theorem dX5_findFirstDegree_155 : decode cX5_findFirstDegree 155 = .ok (.i2l, 1) := by decide +kernel
theorem dX5_findFirstDegree_156 : decode cX5_findFirstDegree 156 = .ok (.invokestatic 83, 3) := by decide +kernel
theorem dX5_findFirstDegree_159 : decode cX5_findFirstDegree 159 = .ok (.lastore, 1) := by decide +kernel
theorem dX5_findFirstDegree_160 : decode cX5_findFirstDegree 160 = .ok (.aload_n 0, 1) := by decide +kernel
theorem dX5_findFirstDegree_161 : decode cX5_findFirstDegree 161 = .ok (.iload_n 1, 1) := by decide +kernel
theorem dX5_findFirstDegree_162 : decode cX5_findFirstDegree 162 = .ok (.iload 8, 2) := by decide +kernel
theorem dX5_findFirstDegree_164 : decode cX5_findFirstDegree 164 = .ok (.iload 9, 2) := by decide +kernel
theorem dX5_findFirstDegree_166 : decode cX5_findFirstDegree 166 = .ok (.invokevirtual 89, 3) := by decide +kernel
theorem dX5_findFirstDegree_169 : decode cX5_findFirstDegree 169 = .ok (.iinc 9 1, 3) := by decide +kernel
theorem dX5_findFirstDegree_172 : decode cX5_findFirstDegree 172 = .ok (.goto (-33), 3) := by decide +kernel
theorem dX5_findFirstDegree_175 : decode cX5_findFirstDegree 175 = .ok (.iinc 8 1, 3) := by decide +kernel
theorem dX5_findFirstDegree_178 : decode cX5_findFirstDegree 178 = .ok (.goto (-123), 3) := by decide +kernel
theorem dX5_findFirstDegree_181 : decode cX5_findFirstDegree 181 = .ok (.return_, 1) := by decide +kernel
theorem bX5_findFirstDegree_0 {l : Launch} {D : va_G} {aI aL : ClassId} {ad : Nat → Nat} {P : sa_P} {I : sa_I} {J : sa_J} {x1 : Int32} {v6 : Int64}  (f6 : (1 : Int64) = v6) (k : Sat (EC l D aI aL ad) M_X5_findFirstDegree P 16 [(0, .ref (ad 21)), (1, .int x1)] [.int (0 : Int32), .ref (ad 26), .ref (ad 4)] I (sa_uJ J 26 1 v6)) : Sat (EC l D aI aL ad) M_X5_findFirstDegree P 0 [(0, .ref (ad 21)), (1, .int x1)] [] I J := by
  refine s_aload_n 0 dX5_findFirstDegree_0 rfl ?_
  refine g_X5_23 dX5_findFirstDegree_1 rfl ?_
  refine s_iconst (v := 1) dX5_findFirstDegree_4 rfl ?_
  refine s_eqi (y := nI 1) rfl ?_
  refine s_lconst (v := 1) dX5_findFirstDegree_5 rfl ?_
  refine s_eql f6 ?_
  refine s_lastoreN aJ_C26 (by decide) (by decide) dX5_findFirstDegree_6 ?_
  refine s_aload_n 0 dX5_findFirstDegree_7 rfl ?_
  refine g_X5_26 dX5_findFirstDegree_8 rfl ?_
  refine s_aload_n 0 dX5_findFirstDegree_11 rfl ?_
  refine g_X5_23 dX5_findFirstDegree_12 rfl ?_
  refine s_iconst (v := 0) dX5_findFirstDegree_15 rfl ?_
  exact k
theorem bX5_findFirstDegree_19 {l : Launch} {D : va_G} {aI aL : ClassId} {ad : Nat → Nat} {P : sa_P} {I : sa_I} {J : sa_J} {x1 : Int32}   (k : Sat (EC l D aI aL ad) M_X5_findFirstDegree P 23 [(0, .ref (ad 21)), (1, .int x1)] [.ref (ad 4)] I J) : Sat (EC l D aI aL ad) M_X5_findFirstDegree P 19 [(0, .ref (ad 21)), (1, .int x1)] [] I J := by
  refine s_aload_n 0 dX5_findFirstDegree_19 rfl ?_
  refine g_X5_26 dX5_findFirstDegree_20 rfl ?_
  exact k
theorem bX5_findFirstDegree_26 {l : Launch} {D : va_G} {aI aL : ClassId} {ad : Nat → Nat} {P : sa_P} {I : sa_I} {J : sa_J} {x1 : Int32} {s0 : Int64}   (k : Sat (EC l D aI aL ad) M_X5_findFirstDegree P 31 [(0, .ref (ad 21)), (1, .int x1), (2, .long s0)] [.ref (ad 4)] I J) : Sat (EC l D aI aL ad) M_X5_findFirstDegree P 26 [(0, .ref (ad 21)), (1, .int x1)] [.long s0] I J := by
  refine s_lstore_n [(2, .long s0), (0, .ref (ad 21)), (1, .int x1)] dX5_findFirstDegree_26 (Nat.lt_of_lt_of_le (Nat.lt_succ_self _) (Nat.le_of_ble_eq_true rfl)) rfl ?_
  refine s_aload_n 1 dX5_findFirstDegree_27 rfl ?_
  refine g_X5_26 dX5_findFirstDegree_28 rfl ?_
  refine s_pick [1, 2, 0] [(0, .ref (ad 21)), (1, .int x1), (2, .long s0)] rfl ?_; exact k
theorem bX5_findFirstDegree_34 {l : Launch} {D : va_G} {aI aL : ClassId} {ad : Nat → Nat} {P : sa_P} {I : sa_I} {J : sa_J} {x1 : Int32} {x2 : Int64} {s0 : Int64}   (k : Sat (EC l D aI aL ad) M_X5_findFirstDegree P 40 [(0, .ref (ad 21)), (1, .int x1), (2, .long x2), (4, .long s0)] [.ref (ad 4)] I J) : Sat (EC l D aI aL ad) M_X5_findFirstDegree P 34 [(0, .ref (ad 21)), (1, .int x1), (2, .long x2)] [.long s0] I J := by
  refine s_lstore [(4, .long s0), (0, .ref (ad 21)), (1, .int x1), (2, .long x2)] dX5_findFirstDegree_34 (Nat.lt_of_lt_of_le (Nat.lt_succ_self _) (Nat.le_of_ble_eq_true rfl)) rfl ?_
  refine s_aload_n 1 dX5_findFirstDegree_36 rfl ?_
  refine g_X5_26 dX5_findFirstDegree_37 rfl ?_
  refine s_pick [1, 2, 3, 0] [(0, .ref (ad 21)), (1, .int x1), (2, .long x2), (4, .long s0)] rfl ?_; exact k
theorem bX5_findFirstDegree_43 {l : Launch} {D : va_G} {aI aL : ClassId} {ad : Nat → Nat} {P : sa_P} {I : sa_I} {J : sa_J} {x1 : Int32} {x2 : Int64} {x4 : Int64} {s0 : Int64} {v51 : Int64} {v53 : Int32}  (f51 : (1 : Int64) = v51) (f53 : (0 : Int32) = v53) (k : Sat (EC l D aI aL ad) M_X5_findFirstDegree P 55 [(0, .ref (ad 21)), (1, .int x1), (2, .long x2), (4, .long x4), (6, .long s0), (8, .int v53)] [] I (sa_uJ J 25 0 v51)) : Sat (EC l D aI aL ad) M_X5_findFirstDegree P 43 [(0, .ref (ad 21)), (1, .int x1), (2, .long x2), (4, .long x4)] [.long s0] I J := by
  refine s_lstore [(6, .long s0), (0, .ref (ad 21)), (1, .int x1), (2, .long x2), (4, .long x4)] dX5_findFirstDegree_43 (Nat.lt_of_lt_of_le (Nat.lt_succ_self _) (Nat.le_of_ble_eq_true rfl)) rfl ?_
  refine s_aload_n 1 dX5_findFirstDegree_45 rfl ?_
  refine g_X5_20 dX5_findFirstDegree_46 rfl ?_
  refine s_iconst (v := 0) dX5_findFirstDegree_49 rfl ?_
  refine s_eqi (y := nI 0) rfl ?_
  refine s_lconst (v := 1) dX5_findFirstDegree_50 rfl ?_
  refine s_eql f51 ?_
  refine s_lastoreN aJ_C25 (by decide) (by decide) dX5_findFirstDegree_51 ?_
  refine s_iconst (v := 0) dX5_findFirstDegree_52 rfl ?_
  refine s_eqi f53 ?_
  refine s_istore [(8, .int v53), (6, .long s0), (0, .ref (ad 21)), (1, .int x1), (2, .long x2), (4, .long x4)] dX5_findFirstDegree_53 (Nat.lt_of_lt_of_le (Nat.lt_succ_self _) (Nat.le_of_ble_eq_true rfl)) rfl ?_
  refine s_pick [2, 3, 4, 5, 1, 0] [(0, .ref (ad 21)), (1, .int x1), (2, .long x2), (4, .long x4), (6, .long s0), (8, .int v53)] rfl ?_; exact k
theorem bX5_findFirstDegree_55 {l : Launch} {D : va_G} {aI aL : ClassId} {ad : Nat → Nat} {P : sa_P} {I : sa_I} {J : sa_J} {x1 : Int32} {x2 : Int64} {x4 : Int64} {x6 : Int64} {x8 : Int32}   (kt : x1 ≤ x8 → Sat (EC l D aI aL ad) M_X5_findFirstDegree P 181 [] [] I J) (kf : ¬ x1 ≤ x8 → Sat (EC l D aI aL ad) M_X5_findFirstDegree P 61 [(0, .ref (ad 21)), (1, .int x1), (2, .long x2), (4, .long x4), (6, .long x6), (8, .int x8)] [] I J) : Sat (EC l D aI aL ad) M_X5_findFirstDegree P 55 [(0, .ref (ad 21)), (1, .int x1), (2, .long x2), (4, .long x4), (6, .long x6), (8, .int x8)] [] I J := by
  refine s_iload 5 dX5_findFirstDegree_55 rfl ?_
  refine s_iload_n 1 dX5_findFirstDegree_57 rfl ?_
  refine s_icmp_ge (tgt := 181) dX5_findFirstDegree_58 (by decide) (fun c => ?_) (fun c => ?_)
  · refine s_pick [] [] rfl ?_; exact kt c
  · exact kf c
theorem bX5_findFirstDegree_61 {l : Launch} {D : va_G} {aI aL : ClassId} {ad : Nat → Nat} {P : sa_P} {I : sa_I} {J : sa_J} {x1 : Int32} {x2 : Int64} {x4 : Int64} {x6 : Int64} {x8 : Int32}   (k : Sat (EC l D aI aL ad) M_X5_findFirstDegree P 72 [(0, .ref (ad 21)), (1, .int x1), (2, .long x2), (4, .long x4), (6, .long x6), (8, .int x8)] [.long x1.toInt64, .long ((-x8).toInt64), .int (1 : Int32), .ref (ad 25)] I J) : Sat (EC l D aI aL ad) M_X5_findFirstDegree P 61 [(0, .ref (ad 21)), (1, .int x1), (2, .long x2), (4, .long x4), (6, .long x6), (8, .int x8)] [] I J := by
  refine s_aload_n 0 dX5_findFirstDegree_61 rfl ?_
  refine g_X5_20 dX5_findFirstDegree_62 rfl ?_
  refine s_iconst (v := 1) dX5_findFirstDegree_65 rfl ?_
  refine s_iload 5 dX5_findFirstDegree_66 rfl ?_
  refine s_ineg dX5_findFirstDegree_68 ?_
  refine s_i2l dX5_findFirstDegree_69 ?_
  refine s_iload_n 1 dX5_findFirstDegree_70 rfl ?_
  refine s_i2l dX5_findFirstDegree_71 ?_
  exact k
theorem bX5_findFirstDegree_75 {l : Launch} {D : va_G} {aI aL : ClassId} {ad : Nat → Nat} {P : sa_P} {I : sa_I} {J : sa_J} {x1 : Int32} {x2 : Int64} {x4 : Int64} {x6 : Int64} {x8 : Int32} {s1 : Nat} {s2 : Int64} (h75 : s1 < 3)  (kt : ¬ I 4 0 = (2 : Int32) → Sat (EC l D aI aL ad) M_X5_findFirstDegree P 98 [(0, .ref (ad 21)), (1, .int x1), (2, .long x2), (4, .long x4), (6, .long x6), (8, .int x8)] [] I (sa_uJ J 25 s1 s2)) (kf : I 4 0 = (2 : Int32) → Sat (EC l D aI aL ad) M_X5_findFirstDegree P 87 [(0, .ref (ad 21)), (1, .int x1), (2, .long x2), (4, .long x4), (6, .long x6), (8, .int x8)] [] I (sa_uJ J 25 s1 s2)) : Sat (EC l D aI aL ad) M_X5_findFirstDegree P 75 [(0, .ref (ad 21)), (1, .int x1), (2, .long x2), (4, .long x4), (6, .long x6), (8, .int x8)] [.long s2, .int (nI s1), .ref (ad 25)] I J := by
  refine s_lastoreN aJ_C25 h75 (by decide) dX5_findFirstDegree_75 ?_
  refine s_aload_n 0 dX5_findFirstDegree_76 rfl ?_
  refine g_X5_26 dX5_findFirstDegree_77 rfl ?_
  refine g_X5_51 dX5_findFirstDegree_80 rfl ?_
  refine s_iconst (v := 2) dX5_findFirstDegree_83 rfl ?_
  refine s_icmp_ne (tgt := 98) dX5_findFirstDegree_84 (by decide) (fun c => ?_) (fun c => ?_)
  · exact kt c
  · exact kf (by first | exact c | exact Classical.not_not.mp c)
theorem bX5_findFirstDegree_87 {l : Launch} {D : va_G} {aI aL : ClassId} {ad : Nat → Nat} {P : sa_P} {I : sa_I} {J : sa_J} {x1 : Int32} {x2 : Int64} {x4 : Int64} {x6 : Int64} {x8 : Int32}   (k : Sat (EC l D aI aL ad) M_X5_findFirstDegree P 92 [(0, .ref (ad 21)), (1, .int x1), (2, .long x2), (4, .long x4), (6, .long x6), (8, .int x8)] [.int (0 : Int32), .int x8, .int x1, .ref (ad 21)] I J) : Sat (EC l D aI aL ad) M_X5_findFirstDegree P 87 [(0, .ref (ad 21)), (1, .int x1), (2, .long x2), (4, .long x4), (6, .long x6), (8, .int x8)] [] I J := by
  refine s_aload_n 0 dX5_findFirstDegree_87 rfl ?_
  refine s_iload_n 1 dX5_findFirstDegree_88 rfl ?_
  refine s_iload 5 dX5_findFirstDegree_89 rfl ?_
  refine s_iconst (v := 0) dX5_findFirstDegree_91 rfl ?_
  exact k
theorem bX5_findFirstDegree_95 {l : Launch} {D : va_G} {aI aL : ClassId} {ad : Nat → Nat} {P : sa_P} {I : sa_I} {J : sa_J} {x1 : Int32} {x2 : Int64} {x4 : Int64} {x6 : Int64} {x8 : Int32}   (k : Sat (EC l D aI aL ad) M_X5_findFirstDegree P 175 [(0, .ref (ad 21)), (1, .int x1), (2, .long x2), (4, .long x4), (6, .long x6), (8, .int x8)] [] I J) : Sat (EC l D aI aL ad) M_X5_findFirstDegree P 95 [(0, .ref (ad 21)), (1, .int x1), (2, .long x2), (4, .long x4), (6, .long x6), (8, .int x8)] [] I J := by
  refine s_goto (tgt := 175) dX5_findFirstDegree_95 (by decide) ?_
  exact k
theorem bX5_findFirstDegree_98 {l : Launch} {D : va_G} {aI aL : ClassId} {ad : Nat → Nat} {P : sa_P} {I : sa_I} {J : sa_J} {x1 : Int32} {x2 : Int64} {x4 : Int64} {x6 : Int64} {x8 : Int32}   (k : Sat (EC l D aI aL ad) M_X5_findFirstDegree P 128 [(0, .ref (ad 21)), (1, .int x1), (2, .long x2), (4, .long x4), (6, .long x6), (8, .int x8)] [.long x1.toInt64, .long ((((((J 25 1) - x2) * (J 25 1)) + x4) * (J 25 1)) - x6)] I J) : Sat (EC l D aI aL ad) M_X5_findFirstDegree P 98 [(0, .ref (ad 21)), (1, .int x1), (2, .long x2), (4, .long x4), (6, .long x6), (8, .int x8)] [] I J := by
  refine s_aload_n 0 dX5_findFirstDegree_98 rfl ?_
  refine g_X5_20 dX5_findFirstDegree_99 rfl ?_
  refine s_iconst (v := 1) dX5_findFirstDegree_102 rfl ?_
  refine s_eqi (y := nI 1) rfl ?_
  refine s_laloadN aJ_C25 (by decide) (by decide) dX5_findFirstDegree_103 ?_
  refine s_lload_n 2 dX5_findFirstDegree_104 rfl ?_
  refine s_lsub dX5_findFirstDegree_105 ?_
  refine s_aload_n 0 dX5_findFirstDegree_106 rfl ?_
  refine g_X5_20 dX5_findFirstDegree_107 rfl ?_
  refine s_iconst (v := 1) dX5_findFirstDegree_110 rfl ?_
  refine s_eqi (y := nI 1) rfl ?_
  refine s_laloadN aJ_C25 (by decide) (by decide) dX5_findFirstDegree_111 ?_
  refine s_lmul dX5_findFirstDegree_112 ?_
  refine s_lload 3 dX5_findFirstDegree_113 rfl ?_
  refine s_ladd dX5_findFirstDegree_115 ?_
  refine s_aload_n 0 dX5_findFirstDegree_116 rfl ?_
  refine g_X5_20 dX5_findFirstDegree_117 rfl ?_
  refine s_iconst (v := 1) dX5_findFirstDegree_120 rfl ?_
  refine s_eqi (y := nI 1) rfl ?_
  refine s_laloadN aJ_C25 (by decide) (by decide) dX5_findFirstDegree_121 ?_
  refine s_lmul dX5_findFirstDegree_122 ?_
  refine s_lload 4 dX5_findFirstDegree_123 rfl ?_
  refine s_lsub dX5_findFirstDegree_125 ?_
  refine s_iload_n 1 dX5_findFirstDegree_126 rfl ?_
  refine s_i2l dX5_findFirstDegree_127 ?_
  exact k
theorem bX5_findFirstDegree_131 {l : Launch} {D : va_G} {aI aL : ClassId} {ad : Nat → Nat} {P : sa_P} {I : sa_I} {J : sa_J} {x1 : Int32} {x2 : Int64} {x4 : Int64} {x6 : Int64} {x8 : Int32} {s0 : Int64}   (kt : ¬ s0 = (0 : Int64) → Sat (EC l D aI aL ad) M_X5_findFirstDegree P 175 [(0, .ref (ad 21)), (1, .int x1), (2, .long x2), (4, .long x4), (6, .long x6), (8, .int x8)] [] I J) (kf : s0 = (0 : Int64) → Sat (EC l D aI aL ad) M_X5_findFirstDegree P 136 [(0, .ref (ad 21)), (1, .int x1), (2, .long x2), (4, .long x4), (6, .long x6), (8, .int x8)] [] I J) : Sat (EC l D aI aL ad) M_X5_findFirstDegree P 131 [(0, .ref (ad 21)), (1, .int x1), (2, .long x2), (4, .long x4), (6, .long x6), (8, .int x8)] [.long s0] I J := by
  refine s_lconst (v := 0) dX5_findFirstDegree_131 rfl ?_
  refine s_lif_ne (tgt := 175) dX5_findFirstDegree_132 dX5_findFirstDegree_133 (by decide) (fun c => ?_) (fun c => ?_)
  · exact kt c
  · exact kf (by first | exact c | exact Classical.not_not.mp c)
theorem bX5_findFirstDegree_136 {l : Launch} {D : va_G} {aI aL : ClassId} {ad : Nat → Nat} {P : sa_P} {I : sa_I} {J : sa_J} {x1 : Int32} {x2 : Int64} {x4 : Int64} {x6 : Int64} {x8 : Int32} {v137 : Int32}  (f137 : (0 : Int32) = v137) (k : Sat (EC l D aI aL ad) M_X5_findFirstDegree P 139 [(0, .ref (ad 21)), (1, .int x1), (2, .long x2), (4, .long x4), (6, .long x6), (8, .int x8), (9, .int v137)] [] I J) : Sat (EC l D aI aL ad) M_X5_findFirstDegree P 136 [(0, .ref (ad 21)), (1, .int x1), (2, .long x2), (4, .long x4), (6, .long x6), (8, .int x8)] [] I J := by
  refine s_iconst (v := 0) dX5_findFirstDegree_136 rfl ?_
  refine s_eqi f137 ?_
  refine s_istore [(9, .int v137), (0, .ref (ad 21)), (1, .int x1), (2, .long x2), (4, .long x4), (6, .long x6), (8, .int x8)] dX5_findFirstDegree_137 (Nat.lt_of_lt_of_le (Nat.lt_succ_self _) (Nat.le_of_ble_eq_true rfl)) rfl ?_
  refine s_pick [1, 2, 3, 4, 5, 6, 0] [(0, .ref (ad 21)), (1, .int x1), (2, .long x2), (4, .long x4), (6, .long x6), (8, .int x8), (9, .int v137)] rfl ?_; exact k
theorem bX5_findFirstDegree_139 {l : Launch} {D : va_G} {aI aL : ClassId} {ad : Nat → Nat} {P : sa_P} {I : sa_I} {J : sa_J} {x1 : Int32} {x2 : Int64} {x4 : Int64} {x6 : Int64} {x8 : Int32} {x9 : Int32}   (kt : x1 ≤ x9 → Sat (EC l D aI aL ad) M_X5_findFirstDegree P 175 [(0, .ref (ad 21)), (1, .int x1), (2, .long x2), (4, .long x4), (6, .long x6), (8, .int x8)] [] I J) (kf : ¬ x1 ≤ x9 → Sat (EC l D aI aL ad) M_X5_findFirstDegree P 145 [(0, .ref (ad 21)), (1, .int x1), (2, .long x2), (4, .long x4), (6, .long x6), (8, .int x8), (9, .int x9)] [] I J) : Sat (EC l D aI aL ad) M_X5_findFirstDegree P 139 [(0, .ref (ad 21)), (1, .int x1), (2, .long x2), (4, .long x4), (6, .long x6), (8, .int x8), (9, .int x9)] [] I J := by
  refine s_iload 6 dX5_findFirstDegree_139 rfl ?_
  refine s_iload_n 1 dX5_findFirstDegree_141 rfl ?_
  refine s_icmp_ge (tgt := 175) dX5_findFirstDegree_142 (by decide) (fun c => ?_) (fun c => ?_)
  · refine s_pick [0, 1, 2, 3, 4, 5] [(0, .ref (ad 21)), (1, .int x1), (2, .long x2), (4, .long x4), (6, .long x6), (8, .int x8)] rfl ?_; exact kt c
  · exact kf c
theorem bX5_findFirstDegree_145 {l : Launch} {D : va_G} {aI aL : ClassId} {ad : Nat → Nat} {P : sa_P} {I : sa_I} {J : sa_J} {x1 : Int32} {x2 : Int64} {x4 : Int64} {x6 : Int64} {x8 : Int32} {x9 : Int32}   (k : Sat (EC l D aI aL ad) M_X5_findFirstDegree P 156 [(0, .ref (ad 21)), (1, .int x1), (2, .long x2), (4, .long x4), (6, .long x6), (8, .int x8), (9, .int x9)] [.long x1.toInt64, .long ((-x9).toInt64), .int (2 : Int32), .ref (ad 25)] I J) : Sat (EC l D aI aL ad) M_X5_findFirstDegree P 145 [(0, .ref (ad 21)), (1, .int x1), (2, .long x2), (4, .long x4), (6, .long x6), (8, .int x8), (9, .int x9)] [] I J := by
  refine s_aload_n 0 dX5_findFirstDegree_145 rfl ?_
  refine g_X5_20 dX5_findFirstDegree_146 rfl ?_
  refine s_iconst (v := 2) dX5_findFirstDegree_149 rfl ?_
  refine s_iload 6 dX5_findFirstDegree_150 rfl ?_
  refine s_ineg dX5_findFirstDegree_152 ?_
  refine s_i2l dX5_findFirstDegree_153 ?_
  refine s_iload_n 1 dX5_findFirstDegree_154 rfl ?_
  refine s_i2l dX5_findFirstDegree_155 ?_
  exact k
theorem bX5_findFirstDegree_159 {l : Launch} {D : va_G} {aI aL : ClassId} {ad : Nat → Nat} {P : sa_P} {I : sa_I} {J : sa_J} {x1 : Int32} {x2 : Int64} {x4 : Int64} {x6 : Int64} {x8 : Int32} {x9 : Int32} {s1 : Nat} {s2 : Int64} (h159 : s1 < 3)  (k : Sat (EC l D aI aL ad) M_X5_findFirstDegree P 166 [(0, .ref (ad 21)), (1, .int x1), (2, .long x2), (4, .long x4), (6, .long x6), (8, .int x8), (9, .int x9)] [.int x9, .int x8, .int x1, .ref (ad 21)] I (sa_uJ J 25 s1 s2)) : Sat (EC l D aI aL ad) M_X5_findFirstDegree P 159 [(0, .ref (ad 21)), (1, .int x1), (2, .long x2), (4, .long x4), (6, .long x6), (8, .int x8), (9, .int x9)] [.long s2, .int (nI s1), .ref (ad 25)] I J := by
  refine s_lastoreN aJ_C25 h159 (by decide) dX5_findFirstDegree_159 ?_
  refine s_aload_n 0 dX5_findFirstDegree_160 rfl ?_
  refine s_iload_n 1 dX5_findFirstDegree_161 rfl ?_
  refine s_iload 5 dX5_findFirstDegree_162 rfl ?_
  refine s_iload 6 dX5_findFirstDegree_164 rfl ?_
  exact k
theorem bX5_findFirstDegree_169 {l : Launch} {D : va_G} {aI aL : ClassId} {ad : Nat → Nat} {P : sa_P} {I : sa_I} {J : sa_J} {x1 : Int32} {x2 : Int64} {x4 : Int64} {x6 : Int64} {x8 : Int32} {x9 : Int32} {v169 : Int32}  (f169 : x9 + 1 = v169) (k : Sat (EC l D aI aL ad) M_X5_findFirstDegree P 139 [(0, .ref (ad 21)), (1, .int x1), (2, .long x2), (4, .long x4), (6, .long x6), (8, .int x8), (9, .int v169)] [] I J) : Sat (EC l D aI aL ad) M_X5_findFirstDegree P 169 [(0, .ref (ad 21)), (1, .int x1), (2, .long x2), (4, .long x4), (6, .long x6), (8, .int x8), (9, .int x9)] [] I J := by
  refine s_iinc 6 v169 [(9, .int v169), (0, .ref (ad 21)), (1, .int x1), (2, .long x2), (4, .long x4), (6, .long x6), (8, .int x8)] dX5_findFirstDegree_169 rfl f169 (Nat.lt_of_lt_of_le (Nat.lt_succ_self _) (Nat.le_of_ble_eq_true rfl)) rfl ?_
  refine s_goto (tgt := 139) dX5_findFirstDegree_172 (by decide) ?_
  refine s_pick [1, 2, 3, 4, 5, 6, 0] [(0, .ref (ad 21)), (1, .int x1), (2, .long x2), (4, .long x4), (6, .long x6), (8, .int x8), (9, .int v169)] rfl ?_; exact k
theorem bX5_findFirstDegree_175 {l : Launch} {D : va_G} {aI aL : ClassId} {ad : Nat → Nat} {P : sa_P} {I : sa_I} {J : sa_J} {x1 : Int32} {x2 : Int64} {x4 : Int64} {x6 : Int64} {x8 : Int32} {v175 : Int32}  (f175 : x8 + 1 = v175) (k : Sat (EC l D aI aL ad) M_X5_findFirstDegree P 55 [(0, .ref (ad 21)), (1, .int x1), (2, .long x2), (4, .long x4), (6, .long x6), (8, .int v175)] [] I J) : Sat (EC l D aI aL ad) M_X5_findFirstDegree P 175 [(0, .ref (ad 21)), (1, .int x1), (2, .long x2), (4, .long x4), (6, .long x6), (8, .int x8)] [] I J := by
  refine s_iinc 5 v175 [(8, .int v175), (0, .ref (ad 21)), (1, .int x1), (2, .long x2), (4, .long x4), (6, .long x6)] dX5_findFirstDegree_175 rfl f175 (Nat.lt_of_lt_of_le (Nat.lt_succ_self _) (Nat.le_of_ble_eq_true rfl)) rfl ?_
  refine s_goto (tgt := 55) dX5_findFirstDegree_178 (by decide) ?_
  refine s_pick [1, 2, 3, 4, 5, 0] [(0, .ref (ad 21)), (1, .int x1), (2, .long x2), (4, .long x4), (6, .long x6), (8, .int v175)] rfl ?_; exact k
theorem bX5_findFirstDegree_181 {l : Launch} {D : va_G} {aI aL : ClassId} {ad : Nat → Nat} {P : sa_P} {I : sa_I} {J : sa_J}    (k : P (none) I J) : Sat (EC l D aI aL ad) M_X5_findFirstDegree P 181 [] [] I J := by
  exact s_vret rfl dX5_findFirstDegree_181 k
/-! X5_keepIfTrue -/
theorem dX5_keepIfTrue_0 : decode cX5_keepIfTrue 0 = .ok (.aload_n 0, 1) := by decide +kernel
theorem dX5_keepIfTrue_1 : decode cX5_keepIfTrue 1 = .ok (.getfield 38, 3) := by decide +kernel
theorem dX5_keepIfTrue_4 : decode cX5_keepIfTrue 4 = .ok (.iconst 2, 1) := by decide +kernel
theorem dX5_keepIfTrue_5 : decode cX5_keepIfTrue 5 = .ok (.if_icmp .gt 11, 3) := by decide +kernel
theorem dX5_keepIfTrue_8 : decode cX5_keepIfTrue 8 = .ok (.aload_n 0, 1) := by decide +kernel
theorem dX5_keepIfTrue_9 : decode cX5_keepIfTrue 9 = .ok (.iload_n 1, 1) := by decide +kernel
theorem dX5_keepIfTrue_10 : decode cX5_keepIfTrue 10 = .ok (.invokevirtual 93, 3) := by decide +kernel
theorem dX5_keepIfTrue_13 : decode cX5_keepIfTrue 13 = .ok (.ifCond .ne 4, 3) := by decide +kernel
theorem dX5_keepIfTrue_16 : decode cX5_keepIfTrue 16 = .ok (.return_, 1) := by decide +kernel
theorem dX5_keepIfTrue_17 : decode cX5_keepIfTrue 17 = .ok (.aload_n 0, 1) := by decide +kernel
theorem dX5_keepIfTrue_18 : decode cX5_keepIfTrue 18 = .ok (.getfield 30, 3) := by decide +kernel
theorem dX5_keepIfTrue_21 : decode cX5_keepIfTrue 21 = .ok (.getfield 45, 3) := by decide +kernel
theorem dX5_keepIfTrue_24 : decode cX5_keepIfTrue 24 = .ok (.aload_n 0, 1) := by decide +kernel
theorem dX5_keepIfTrue_25 : decode cX5_keepIfTrue 25 = .ok (.getfield 26, 3) := by decide +kernel
theorem dX5_keepIfTrue_28 : decode cX5_keepIfTrue 28 = .ok (.getfield 51, 3) := by decide +kernel
theorem dX5_keepIfTrue_31 : decode cX5_keepIfTrue 31 = .ok (.lconst 1, 1) := by decide +kernel
theorem dX5_keepIfTrue_32 : decode cX5_keepIfTrue 32 = .ok (.invokevirtual 56, 3) := by decide +kernel
theorem dX5_keepIfTrue_35 : decode cX5_keepIfTrue 35 = .ok (.aload_n 0, 1) := by decide +kernel
theorem dX5_keepIfTrue_36 : decode cX5_keepIfTrue 36 = .ok (.getfield 30, 3) := by decide +kernel
theorem dX5_keepIfTrue_39 : decode cX5_keepIfTrue 39 = .ok (.getfield 45, 3) := by decide +kernel
theorem dX5_keepIfTrue_42 : decode cX5_keepIfTrue 42 = .ok (.getfield 97, 3) := by decide +kernel
theorem dX5_keepIfTrue_45 : decode cX5_keepIfTrue 45 = .ok (.iconst 0, 1) := by decide +kernel
theorem dX5_keepIfTrue_46 : decode cX5_keepIfTrue 46 = .ok (.iload_n 1, 1) := by decide +kernel
theorem dX5_keepIfTrue_47 : decode cX5_keepIfTrue 47 = .ok (.i2l, 1) := by decide +kernel
theorem dX5_keepIfTrue_48 : decode cX5_keepIfTrue 48 = .ok (.lastore, 1) := by decide +kernel
theorem dX5_keepIfTrue_49 : decode cX5_keepIfTrue 49 = .ok (.aload_n 0, 1) := by decide +kernel
theorem dX5_keepIfTrue_50 : decode cX5_keepIfTrue 50 = .ok (.getfield 30, 3) := by decide +kernel
theorem dX5_keepIfTrue_53 : decode cX5_keepIfTrue 53 = .ok (.getfield 45, 3) := by decide +kernel
theorem dX5_keepIfTrue_56 : decode cX5_keepIfTrue 56 = .ok (.getfield 97, 3) := by decide +kernel
theorem dX5_keepIfTrue_59 : decode cX5_keepIfTrue 59 = .ok (.iconst 3, 1) := by decide +kernel
theorem dX5_keepIfTrue_60 : decode cX5_keepIfTrue 60 = .ok (.iload_n 2, 1) := by decide +kernel
theorem dX5_keepIfTrue_61 : decode cX5_keepIfTrue 61 = .ok (.i2l, 1) := by decide +kernel
theorem dX5_keepIfTrue_62 : decode cX5_keepIfTrue 62 = .ok (.lastore, 1) := by decide +kernel
theorem dX5_keepIfTrue_63 : decode cX5_keepIfTrue 63 = .ok (.aload_n 0, 1) := by decide +kernel
theorem dX5_keepIfTrue_64 : decode cX5_keepIfTrue 64 = .ok (.getfield 30, 3) := by decide +kernel
theorem dX5_keepIfTrue_67 : decode cX5_keepIfTrue 67 = .ok (.getfield 45, 3) := by decide +kernel
theorem dX5_keepIfTrue_70 : decode cX5_keepIfTrue 70 = .ok (.getfield 97, 3) := by decide +kernel
theorem dX5_keepIfTrue_73 : decode cX5_keepIfTrue 73 = .ok (.bipush 6, 2) := by decide +kernel
theorem dX5_keepIfTrue_75 : decode cX5_keepIfTrue 75 = .ok (.iload_n 3, 1) := by decide +kernel
theorem dX5_keepIfTrue_76 : decode cX5_keepIfTrue 76 = .ok (.i2l, 1) := by decide +kernel
theorem dX5_keepIfTrue_77 : decode cX5_keepIfTrue 77 = .ok (.lastore, 1) := by decide +kernel
theorem dX5_keepIfTrue_78 : decode cX5_keepIfTrue 78 = .ok (.aload_n 0, 1) := by decide +kernel
theorem dX5_keepIfTrue_79 : decode cX5_keepIfTrue 79 = .ok (.iconst 1, 1) := by decide +kernel
theorem dX5_keepIfTrue_80 : decode cX5_keepIfTrue 80 = .ok (.iconst 1, 1) := by decide +kernel
theorem dX5_keepIfTrue_81 : decode cX5_keepIfTrue 81 = .ok (.invokevirtual 62, 3) := by decide +kernel
theorem dX5_keepIfTrue_84 : decode cX5_keepIfTrue 84 = .ok (.return_, 1) := by decide +kernel
theorem bX5_keepIfTrue_0 {l : Launch} {D : va_G} {aI aL : ClassId} {ad : Nat → Nat} {P : sa_P} {I : sa_I} {J : sa_J} {x1 : Int32} {x2 : Int32} {x3 : Int32}   (kt : (2 : Int32) < I 21 0 → Sat (EC l D aI aL ad) M_X5_keepIfTrue P 16 [] [] I J) (kf : ¬ (2 : Int32) < I 21 0 → Sat (EC l D aI aL ad) M_X5_keepIfTrue P 8 [(0, .ref (ad 21)), (1, .int x1), (2, .int x2), (3, .int x3)] [] I J) : Sat (EC l D aI aL ad) M_X5_keepIfTrue P 0 [(0, .ref (ad 21)), (1, .int x1), (2, .int x2), (3, .int x3)] [] I J := by
  refine s_aload_n 0 dX5_keepIfTrue_0 rfl ?_
  refine g_X5_38 dX5_keepIfTrue_1 rfl ?_
  refine s_iconst (v := 2) dX5_keepIfTrue_4 rfl ?_
  refine s_icmp_gt (tgt := 16) dX5_keepIfTrue_5 (by decide) (fun c => ?_) (fun c => ?_)
  · refine s_pick [] [] rfl ?_; exact kt c
  · exact kf c
theorem bX5_keepIfTrue_8 {l : Launch} {D : va_G} {aI aL : ClassId} {ad : Nat → Nat} {P : sa_P} {I : sa_I} {J : sa_J} {x1 : Int32} {x2 : Int32} {x3 : Int32}   (k : Sat (EC l D aI aL ad) M_X5_keepIfTrue P 10 [(0, .ref (ad 21)), (1, .int x1), (2, .int x2), (3, .int x3)] [.int x1, .ref (ad 21)] I J) : Sat (EC l D aI aL ad) M_X5_keepIfTrue P 8 [(0, .ref (ad 21)), (1, .int x1), (2, .int x2), (3, .int x3)] [] I J := by
  refine s_aload_n 0 dX5_keepIfTrue_8 rfl ?_
  refine s_iload_n 1 dX5_keepIfTrue_9 rfl ?_
  exact k
theorem bX5_keepIfTrue_13 {l : Launch} {D : va_G} {aI aL : ClassId} {ad : Nat → Nat} {P : sa_P} {I : sa_I} {J : sa_J} {x1 : Int32} {x2 : Int32} {x3 : Int32} {s0 : Int32}   (kt : ¬ s0 = 0 → Sat (EC l D aI aL ad) M_X5_keepIfTrue P 17 [(0, .ref (ad 21)), (1, .int x1), (2, .int x2), (3, .int x3)] [] I J) (kf : s0 = 0 → Sat (EC l D aI aL ad) M_X5_keepIfTrue P 16 [] [] I J) : Sat (EC l D aI aL ad) M_X5_keepIfTrue P 13 [(0, .ref (ad 21)), (1, .int x1), (2, .int x2), (3, .int x3)] [.int s0] I J := by
  refine s_if_ne (tgt := 17) dX5_keepIfTrue_13 (by decide) (fun c => ?_) (fun c => ?_)
  · exact kt c
  · refine s_pick [] [] rfl ?_; exact kf (by first | exact c | exact Classical.not_not.mp c)
theorem bX5_keepIfTrue_16 {l : Launch} {D : va_G} {aI aL : ClassId} {ad : Nat → Nat} {P : sa_P} {I : sa_I} {J : sa_J}    (k : P (none) I J) : Sat (EC l D aI aL ad) M_X5_keepIfTrue P 16 [] [] I J := by
  exact s_vret rfl dX5_keepIfTrue_16 k
theorem bX5_keepIfTrue_17 {l : Launch} {D : va_G} {aI aL : ClassId} {ad : Nat → Nat} {P : sa_P} {I : sa_I} {J : sa_J} {x1 : Int32} {x2 : Int32} {x3 : Int32}   (k : Sat (EC l D aI aL ad) M_X5_keepIfTrue P 32 [(0, .ref (ad 21)), (1, .int x1), (2, .int x2), (3, .int x3)] [.long (1 : Int64), .int (I 4 0), .ref (ad 14)] I J) : Sat (EC l D aI aL ad) M_X5_keepIfTrue P 17 [(0, .ref (ad 21)), (1, .int x1), (2, .int x2), (3, .int x3)] [] I J := by
  refine s_aload_n 0 dX5_keepIfTrue_17 rfl ?_
  refine g_X5_30 dX5_keepIfTrue_18 rfl ?_
  refine g_X5_45 dX5_keepIfTrue_21 rfl ?_
  refine s_aload_n 0 dX5_keepIfTrue_24 rfl ?_
  refine g_X5_26 dX5_keepIfTrue_25 rfl ?_
  refine g_X5_51 dX5_keepIfTrue_28 rfl ?_
  refine s_lconst (v := 1) dX5_keepIfTrue_31 rfl ?_
  exact k
theorem bX5_keepIfTrue_35 {l : Launch} {D : va_G} {aI aL : ClassId} {ad : Nat → Nat} {P : sa_P} {I : sa_I} {J : sa_J} {x1 : Int32} {x2 : Int32} {x3 : Int32} {v48 : Int64} {v62 : Int64} {v77 : Int64}  (f48 : x1.toInt64 = v48) (f62 : x2.toInt64 = v62) (f77 : x3.toInt64 = v77) (k : Sat (EC l D aI aL ad) M_X5_keepIfTrue P 81 [] [.int (1 : Int32), .int (1 : Int32), .ref (ad 21)] I (sa_uJ (sa_uJ (sa_uJ J 15 0 v48) 15 3 v62) 15 6 v77)) : Sat (EC l D aI aL ad) M_X5_keepIfTrue P 35 [(0, .ref (ad 21)), (1, .int x1), (2, .int x2), (3, .int x3)] [] I J := by
  refine s_aload_n 0 dX5_keepIfTrue_35 rfl ?_
  refine g_X5_30 dX5_keepIfTrue_36 rfl ?_
  refine g_X5_45 dX5_keepIfTrue_39 rfl ?_
  refine g_X5_97 dX5_keepIfTrue_42 rfl ?_
  refine s_iconst (v := 0) dX5_keepIfTrue_45 rfl ?_
  refine s_eqi (y := nI 0) rfl ?_
  refine s_iload_n 1 dX5_keepIfTrue_46 rfl ?_
  refine s_i2l dX5_keepIfTrue_47 ?_
  refine s_eql f48 ?_
  refine s_lastoreN aJ_C15 (by decide) (by decide) dX5_keepIfTrue_48 ?_
  refine s_aload_n 0 dX5_keepIfTrue_49 rfl ?_
  refine g_X5_30 dX5_keepIfTrue_50 rfl ?_
  refine g_X5_45 dX5_keepIfTrue_53 rfl ?_
  refine g_X5_97 dX5_keepIfTrue_56 rfl ?_
  refine s_iconst (v := 3) dX5_keepIfTrue_59 rfl ?_
  refine s_eqi (y := nI 3) rfl ?_
  refine s_iload_n 2 dX5_keepIfTrue_60 rfl ?_
  refine s_i2l dX5_keepIfTrue_61 ?_
  refine s_eql f62 ?_
  refine s_lastoreN aJ_C15 (by decide) (by decide) dX5_keepIfTrue_62 ?_
  refine s_aload_n 0 dX5_keepIfTrue_63 rfl ?_
  refine g_X5_30 dX5_keepIfTrue_64 rfl ?_
  refine g_X5_45 dX5_keepIfTrue_67 rfl ?_
  refine g_X5_97 dX5_keepIfTrue_70 rfl ?_
  refine s_bipush (v := 6) dX5_keepIfTrue_73 rfl ?_
  refine s_eqi (y := nI 6) rfl ?_
  refine s_iload_n 3 dX5_keepIfTrue_75 rfl ?_
  refine s_i2l dX5_keepIfTrue_76 ?_
  refine s_eql f77 ?_
  refine s_lastoreN aJ_C15 (by decide) (by decide) dX5_keepIfTrue_77 ?_
  refine s_aload_n 0 dX5_keepIfTrue_78 rfl ?_
  refine s_iconst (v := 1) dX5_keepIfTrue_79 rfl ?_
  refine s_iconst (v := 1) dX5_keepIfTrue_80 rfl ?_
  refine s_pick [] [] rfl ?_; exact k
theorem bX5_keepIfTrue_84 {l : Launch} {D : va_G} {aI aL : ClassId} {ad : Nat → Nat} {P : sa_P} {I : sa_I} {J : sa_J}    (k : P (none) I J) : Sat (EC l D aI aL ad) M_X5_keepIfTrue P 84 [] [] I J := by
  exact s_vret rfl dX5_keepIfTrue_84 k
/-! X5_valuesMultiply -/
theorem dX5_valuesMultiply_0 : decode cX5_valuesMultiply 0 = .ok (.iconst 1, 1) := by decide +kernel
theorem dX5_valuesMultiply_1 : decode cX5_valuesMultiply 1 = .ok (.istore_n 2, 1) := by decide +kernel
theorem dX5_valuesMultiply_2 : decode cX5_valuesMultiply 2 = .ok (.iload_n 2, 1) := by decide +kernel
theorem dX5_valuesMultiply_3 : decode cX5_valuesMultiply 3 = .ok (.aload_n 0, 1) := by decide +kernel
theorem dX5_valuesMultiply_4 : decode cX5_valuesMultiply 4 = .ok (.getfield 26, 3) := by decide +kernel
theorem dX5_valuesMultiply_7 : decode cX5_valuesMultiply 7 = .ok (.getfield 51, 3) := by decide +kernel
theorem dX5_valuesMultiply_10 : decode cX5_valuesMultiply 10 = .ok (.if_icmp .ge 111, 3) := by decide +kernel
theorem dX5_valuesMultiply_13 : decode cX5_valuesMultiply 13 = .ok (.iload_n 2, 1) := by decide +kernel
theorem dX5_valuesMultiply_14 : decode cX5_valuesMultiply 14 = .ok (.istore_n 3, 1) := by decide +kernel
theorem dX5_valuesMultiply_15 : decode cX5_valuesMultiply 15 = .ok (.iload_n 3, 1) := by decide +kernel
theorem dX5_valuesMultiply_16 : decode cX5_valuesMultiply 16 = .ok (.aload_n 0, 1) := by decide +kernel
theorem dX5_valuesMultiply_17 : decode cX5_valuesMultiply 17 = .ok (.getfield 26, 3) := by decide +kernel
theorem dX5_valuesMultiply_20 : decode cX5_valuesMultiply 20 = .ok (.getfield 51, 3) := by decide +kernel
theorem dX5_valuesMultiply_23 : decode cX5_valuesMultiply 23 = .ok (.if_icmp .ge 92, 3) := by decide +kernel
theorem dX5_valuesMultiply_26 : decode cX5_valuesMultiply 26 = .ok (.aload_n 0, 1) := by decide +kernel
theorem dX5_valuesMultiply_27 : decode cX5_valuesMultiply 27 = .ok (.getfield 20, 3) := by decide +kernel
theorem dX5_valuesMultiply_30 : decode cX5_valuesMultiply 30 = .ok (.iload_n 2, 1) := by decide +kernel
theorem dX5_valuesMultiply_31 : decode cX5_valuesMultiply 31 = .ok (.laload, 1) := by decide +kernel
theorem dX5_valuesMultiply_32 : decode cX5_valuesMultiply 32 = .ok (.lneg, 1) := by decide +kernel
theorem dX5_valuesMultiply_33 : decode cX5_valuesMultiply 33 = .ok (.aload_n 0, 1) := by decide +kernel
theorem dX5_valuesMultiply_34 : decode cX5_valuesMultiply 34 = .ok (.getfield 20, 3) := by decide +kernel
theorem dX5_valuesMultiply_37 : decode cX5_valuesMultiply 37 = .ok (.iload_n 3, 1) := by decide +kernel
theorem dX5_valuesMultiply_38 : decode cX5_valuesMultiply 38 = .ok (.laload, 1) := by decide +kernel
theorem dX5_valuesMultiply_39 : decode cX5_valuesMultiply 39 = .ok (.lmul, 1) := by decide +kernel
theorem dX5_valuesMultiply_40 : decode cX5_valuesMultiply 40 = .ok (.lstore 4, 2) := by decide +kernel
theorem dX5_valuesMultiply_42 : decode cX5_valuesMultiply 42 = .ok (.iconst 0, 1) := by decide +kernel
theorem dX5_valuesMultiply_43 : decode cX5_valuesMultiply 43 = .ok (.istore 6, 2) := by decide +kernel
theorem dX5_valuesMultiply_45 : decode cX5_valuesMultiply 45 = .ok (.iload 6, 2) := by decide +kernel
theorem dX5_valuesMultiply_47 : decode cX5_valuesMultiply 47 = .ok (.aload_n 0, 1) := by decide +kernel
theorem dX5_valuesMultiply_48 : decode cX5_valuesMultiply 48 = .ok (.getfield 26, 3) := by decide +kernel
theorem dX5_valuesMultiply_51 : decode cX5_valuesMultiply 51 = .ok (.getfield 51, 3) := by decide +kernel
theorem dX5_valuesMultiply_54 : decode cX5_valuesMultiply 54 = .ok (.if_icmp .ge 41, 3) := by decide +kernel
theorem dX5_valuesMultiply_57 : decode cX5_valuesMultiply 57 = .ok (.lload 4, 2) := by decide +kernel
theorem dX5_valuesMultiply_59 : decode cX5_valuesMultiply 59 = .ok (.aload_n 0, 1) := by decide +kernel
theorem dX5_valuesMultiply_60 : decode cX5_valuesMultiply 60 = .ok (.getfield 26, 3) := by decide +kernel
theorem dX5_valuesMultiply_63 : decode cX5_valuesMultiply 63 = .ok (.getfield 98, 3) := by decide +kernel
theorem dX5_valuesMultiply_66 : decode cX5_valuesMultiply 66 = .ok (.bipush 9, 2) := by decide +kernel
theorem dX5_valuesMultiply_68 : decode cX5_valuesMultiply 68 = .ok (.iload_n 2, 1) := by decide +kernel
theorem dX5_valuesMultiply_69 : decode cX5_valuesMultiply 69 = .ok (.imul, 1) := by decide +kernel
theorem dX5_valuesMultiply_70 : decode cX5_valuesMultiply 70 = .ok (.iconst 3, 1) := by decide +kernel
theorem dX5_valuesMultiply_71 : decode cX5_valuesMultiply 71 = .ok (.iload_n 3, 1) := by decide +kernel
theorem dX5_valuesMultiply_72 : decode cX5_valuesMultiply 72 = .ok (.imul, 1) := by decide +kernel
theorem dX5_valuesMultiply_73 : decode cX5_valuesMultiply 73 = .ok (.iadd, 1) := by decide +kernel
theorem dX5_valuesMultiply_74 : decode cX5_valuesMultiply 74 = .ok (.iload 6, 2) := by decide +kernel
theorem dX5_valuesMultiply_76 : decode cX5_valuesMultiply 76 = .ok (.iadd, 1) := by decide +kernel
theorem dX5_valuesMultiply_77 : decode cX5_valuesMultiply 77 = .ok (.laload, 1) := by decide +kernel
theorem dX5_valuesMultiply_78 : decode cX5_valuesMultiply 78 = .ok (.aload_n 0, 1) := by decide +kernel
theorem dX5_valuesMultiply_79 : decode cX5_valuesMultiply 79 = .ok (.getfield 20, 3) := by decide +kernel
theorem dX5_valuesMultiply_82 : decode cX5_valuesMultiply 82 = .ok (.iload 6, 2) := by decide +kernel
theorem dX5_valuesMultiply_84 : decode cX5_valuesMultiply 84 = .ok (.laload, 1) := by decide +kernel
theorem dX5_valuesMultiply_85 : decode cX5_valuesMultiply 85 = .ok (.lmul, 1) := by decide +kernel
theorem dX5_valuesMultiply_86 : decode cX5_valuesMultiply 86 = .ok (.ladd, 1) := by decide +kernel
theorem dX5_valuesMultiply_87 : decode cX5_valuesMultiply 87 = .ok (.lstore 4, 2) := by decide +kernel
theorem dX5_valuesMultiply_89 : decode cX5_valuesMultiply 89 = .ok (.iinc 6 1, 3) := by decide +kernel
theorem dX5_valuesMultiply_92 : decode cX5_valuesMultiply 92 = .ok (.goto (-47), 3) := by decide +kernel
theorem dX5_valuesMultiply_95 : decode cX5_valuesMultiply 95 = .ok (.lload 4, 2) := by decide +kernel
theorem dX5_valuesMultiply_97 : decode cX5_valuesMultiply 97 = .ok (.iload_n 1, 1) := by decide +kernel
theorem dX5_valuesMultiply_98 : decode cX5_valuesMultiply 98 = .ok (.i2l, 1) := by decide +kernel
theorem dX5_valuesMultiply_99 : decode cX5_valuesMultiply 99 = .ok (.invokestatic 83, 3) := by decide +kernel
theorem dX5_valuesMultiply_102 : decode cX5_valuesMultiply 102 = .ok (.lconst 0, 1) := by decide +kernel
theorem dX5_valuesMultiply_103 : decode cX5_valuesMultiply 103 = .ok (.lcmp, 1) := by decide +kernel
theorem dX5_valuesMultiply_104 : decode cX5_valuesMultiply 104 = .ok (.ifCond .eq 5, 3) := by decide +kernel
theorem dX5_valuesMultiply_107 : decode cX5_valuesMultiply 107 = .ok (.iconst 0, 1) := by decide +kernel
theorem dX5_valuesMultiply_108 : decode cX5_valuesMultiply 108 = .ok (.ireturn, 1) := by decide +kernel
theorem dX5_valuesMultiply_109 : decode cX5_valuesMultiply 109 = .ok (.iinc 3 1, 3) := by decide +kernel
theorem dX5_valuesMultiply_112 : decode cX5_valuesMultiply 112 = .ok (.goto (-97), 3) := by decide +kernel
theorem dX5_valuesMultiply_115 : decode cX5_valuesMultiply 115 = .ok (.iinc 2 1, 3) := by decide +kernel
theorem dX5_valuesMultiply_118 : decode cX5_valuesMultiply 118 = .ok (.goto (-116), 3) := by decide +kernel
theorem dX5_valuesMultiply_121 : decode cX5_valuesMultiply 121 = .ok (.iconst 1, 1) := by decide +kernel
theorem dX5_valuesMultiply_122 : decode cX5_valuesMultiply 122 = .ok (.ireturn, 1) := by decide +kernel
theorem bX5_valuesMultiply_0 {l : Launch} {D : va_G} {aI aL : ClassId} {ad : Nat → Nat} {P : sa_P} {I : sa_I} {J : sa_J} {x1 : Int32} {v1 : Int32}  (f1 : (1 : Int32) = v1) (k : Sat (EC l D aI aL ad) M_X5_valuesMultiply P 2 [(0, .ref (ad 21)), (1, .int x1), (2, .int v1)] [] I J) : Sat (EC l D aI aL ad) M_X5_valuesMultiply P 0 [(0, .ref (ad 21)), (1, .int x1)] [] I J := by
  refine s_iconst (v := 1) dX5_valuesMultiply_0 rfl ?_
  refine s_eqi f1 ?_
  refine s_istore_n [(2, .int v1), (0, .ref (ad 21)), (1, .int x1)] dX5_valuesMultiply_1 (Nat.lt_of_lt_of_le (Nat.lt_succ_self _) (Nat.le_of_ble_eq_true rfl)) rfl ?_
  refine s_pick [1, 2, 0] [(0, .ref (ad 21)), (1, .int x1), (2, .int v1)] rfl ?_; exact k
theorem bX5_valuesMultiply_2 {l : Launch} {D : va_G} {aI aL : ClassId} {ad : Nat → Nat} {P : sa_P} {I : sa_I} {J : sa_J} {x1 : Int32} {x2 : Int32}   (kt : I 4 0 ≤ x2 → Sat (EC l D aI aL ad) M_X5_valuesMultiply P 121 [] [] I J) (kf : ¬ I 4 0 ≤ x2 → Sat (EC l D aI aL ad) M_X5_valuesMultiply P 13 [(0, .ref (ad 21)), (1, .int x1), (2, .int x2)] [] I J) : Sat (EC l D aI aL ad) M_X5_valuesMultiply P 2 [(0, .ref (ad 21)), (1, .int x1), (2, .int x2)] [] I J := by
  refine s_iload_n 2 dX5_valuesMultiply_2 rfl ?_
  refine s_aload_n 0 dX5_valuesMultiply_3 rfl ?_
  refine g_X5_26 dX5_valuesMultiply_4 rfl ?_
  refine g_X5_51 dX5_valuesMultiply_7 rfl ?_
  refine s_icmp_ge (tgt := 121) dX5_valuesMultiply_10 (by decide) (fun c => ?_) (fun c => ?_)
  · refine s_pick [] [] rfl ?_; exact kt c
  · exact kf c
theorem bX5_valuesMultiply_13 {l : Launch} {D : va_G} {aI aL : ClassId} {ad : Nat → Nat} {P : sa_P} {I : sa_I} {J : sa_J} {x1 : Int32} {x2 : Int32}   (k : Sat (EC l D aI aL ad) M_X5_valuesMultiply P 15 [(0, .ref (ad 21)), (1, .int x1), (2, .int x2), (3, .int x2)] [] I J) : Sat (EC l D aI aL ad) M_X5_valuesMultiply P 13 [(0, .ref (ad 21)), (1, .int x1), (2, .int x2)] [] I J := by
  refine s_iload_n 2 dX5_valuesMultiply_13 rfl ?_
  refine s_istore_n [(3, .int x2), (0, .ref (ad 21)), (1, .int x1), (2, .int x2)] dX5_valuesMultiply_14 (Nat.lt_of_lt_of_le (Nat.lt_succ_self _) (Nat.le_of_ble_eq_true rfl)) rfl ?_
  refine s_pick [1, 2, 3, 0] [(0, .ref (ad 21)), (1, .int x1), (2, .int x2), (3, .int x2)] rfl ?_; exact k
theorem bX5_valuesMultiply_15 {l : Launch} {D : va_G} {aI aL : ClassId} {ad : Nat → Nat} {P : sa_P} {I : sa_I} {J : sa_J} {x1 : Int32} {x2 : Int32} {x3 : Int32}   (kt : I 4 0 ≤ x3 → Sat (EC l D aI aL ad) M_X5_valuesMultiply P 115 [(0, .ref (ad 21)), (1, .int x1), (2, .int x2)] [] I J) (kf : ¬ I 4 0 ≤ x3 → Sat (EC l D aI aL ad) M_X5_valuesMultiply P 26 [(0, .ref (ad 21)), (1, .int x1), (2, .int x2), (3, .int x3)] [] I J) : Sat (EC l D aI aL ad) M_X5_valuesMultiply P 15 [(0, .ref (ad 21)), (1, .int x1), (2, .int x2), (3, .int x3)] [] I J := by
  refine s_iload_n 3 dX5_valuesMultiply_15 rfl ?_
  refine s_aload_n 0 dX5_valuesMultiply_16 rfl ?_
  refine g_X5_26 dX5_valuesMultiply_17 rfl ?_
  refine g_X5_51 dX5_valuesMultiply_20 rfl ?_
  refine s_icmp_ge (tgt := 115) dX5_valuesMultiply_23 (by decide) (fun c => ?_) (fun c => ?_)
  · refine s_pick [0, 1, 2] [(0, .ref (ad 21)), (1, .int x1), (2, .int x2)] rfl ?_; exact kt c
  · exact kf c
theorem bX5_valuesMultiply_26 {l : Launch} {D : va_G} {aI aL : ClassId} {ad : Nat → Nat} {P : sa_P} {I : sa_I} {J : sa_J} {x1 : Int32} {x2 : Int32} {x3 : Int32} {j30 : Nat} {j37 : Nat} {v40 : Int64} {v43 : Int32} (e30 : x2 = nI j30) (h31 : j30 < 3) (e37 : x3 = nI j37) (h38 : j37 < 3) (f40 : (-(J 25 j30)) * (J 25 j37) = v40) (f43 : (0 : Int32) = v43) (k : Sat (EC l D aI aL ad) M_X5_valuesMultiply P 45 [(0, .ref (ad 21)), (1, .int x1), (2, .int x2), (3, .int x3), (4, .long v40), (6, .int v43)] [] I J) : Sat (EC l D aI aL ad) M_X5_valuesMultiply P 26 [(0, .ref (ad 21)), (1, .int x1), (2, .int x2), (3, .int x3)] [] I J := by
  refine s_aload_n 0 dX5_valuesMultiply_26 rfl ?_
  refine g_X5_20 dX5_valuesMultiply_27 rfl ?_
  refine s_iload_n 2 dX5_valuesMultiply_30 rfl ?_
  refine s_eqi e30 ?_
  refine s_laloadN aJ_C25 h31 (by decide) dX5_valuesMultiply_31 ?_
  refine s_lneg dX5_valuesMultiply_32 ?_
  refine s_aload_n 0 dX5_valuesMultiply_33 rfl ?_
  refine g_X5_20 dX5_valuesMultiply_34 rfl ?_
  refine s_iload_n 3 dX5_valuesMultiply_37 rfl ?_
  refine s_eqi e37 ?_
  refine s_laloadN aJ_C25 h38 (by decide) dX5_valuesMultiply_38 ?_
  refine s_lmul dX5_valuesMultiply_39 ?_
  refine s_eql f40 ?_
  refine s_lstore [(4, .long v40), (0, .ref (ad 21)), (1, .int x1), (2, .int x2), (3, .int x3)] dX5_valuesMultiply_40 (Nat.lt_of_lt_of_le (Nat.lt_succ_self _) (Nat.le_of_ble_eq_true rfl)) rfl ?_
  refine s_iconst (v := 0) dX5_valuesMultiply_42 rfl ?_
  refine s_eqi f43 ?_
  refine s_istore [(6, .int v43), (4, .long v40), (0, .ref (ad 21)), (1, .int x1), (2, .int x2), (3, .int x3)] dX5_valuesMultiply_43 (Nat.lt_of_lt_of_le (Nat.lt_succ_self _) (Nat.le_of_ble_eq_true rfl)) rfl ?_
  refine s_pick [2, 3, 4, 5, 1, 0] [(0, .ref (ad 21)), (1, .int x1), (2, .int x2), (3, .int x3), (4, .long v40), (6, .int v43)] rfl ?_; exact k
theorem bX5_valuesMultiply_45 {l : Launch} {D : va_G} {aI aL : ClassId} {ad : Nat → Nat} {P : sa_P} {I : sa_I} {J : sa_J} {x1 : Int32} {x2 : Int32} {x3 : Int32} {x4 : Int64} {x6 : Int32}   (kt : I 4 0 ≤ x6 → Sat (EC l D aI aL ad) M_X5_valuesMultiply P 95 [(0, .ref (ad 21)), (1, .int x1), (2, .int x2), (3, .int x3), (4, .long x4)] [] I J) (kf : ¬ I 4 0 ≤ x6 → Sat (EC l D aI aL ad) M_X5_valuesMultiply P 57 [(0, .ref (ad 21)), (1, .int x1), (2, .int x2), (3, .int x3), (4, .long x4), (6, .int x6)] [] I J) : Sat (EC l D aI aL ad) M_X5_valuesMultiply P 45 [(0, .ref (ad 21)), (1, .int x1), (2, .int x2), (3, .int x3), (4, .long x4), (6, .int x6)] [] I J := by
  refine s_iload 5 dX5_valuesMultiply_45 rfl ?_
  refine s_aload_n 0 dX5_valuesMultiply_47 rfl ?_
  refine g_X5_26 dX5_valuesMultiply_48 rfl ?_
  refine g_X5_51 dX5_valuesMultiply_51 rfl ?_
  refine s_icmp_ge (tgt := 95) dX5_valuesMultiply_54 (by decide) (fun c => ?_) (fun c => ?_)
  · refine s_pick [0, 1, 2, 3, 4] [(0, .ref (ad 21)), (1, .int x1), (2, .int x2), (3, .int x3), (4, .long x4)] rfl ?_; exact kt c
  · exact kf c
theorem bX5_valuesMultiply_57 {l : Launch} {D : va_G} {aI aL : ClassId} {ad : Nat → Nat} {P : sa_P} {I : sa_I} {J : sa_J} {x1 : Int32} {x2 : Int32} {x3 : Int32} {x4 : Int64} {x6 : Int32} {j76 : Nat} {j82 : Nat} {v87 : Int64} {v89 : Int32} (e76 : (((9 : Int32) * x2) + ((3 : Int32) * x3)) + x6 = nI j76) (h77 : j76 < 27) (e82 : x6 = nI j82) (h84 : j82 < 3) (f87 : x4 + ((J 8 j76) * (J 25 j82)) = v87) (f89 : x6 + 1 = v89) (k : Sat (EC l D aI aL ad) M_X5_valuesMultiply P 45 [(0, .ref (ad 21)), (1, .int x1), (2, .int x2), (3, .int x3), (4, .long v87), (6, .int v89)] [] I J) : Sat (EC l D aI aL ad) M_X5_valuesMultiply P 57 [(0, .ref (ad 21)), (1, .int x1), (2, .int x2), (3, .int x3), (4, .long x4), (6, .int x6)] [] I J := by
  refine s_lload 4 dX5_valuesMultiply_57 rfl ?_
  refine s_aload_n 0 dX5_valuesMultiply_59 rfl ?_
  refine g_X5_26 dX5_valuesMultiply_60 rfl ?_
  refine g_X5_98 dX5_valuesMultiply_63 rfl ?_
  refine s_bipush (v := 9) dX5_valuesMultiply_66 rfl ?_
  refine s_iload_n 2 dX5_valuesMultiply_68 rfl ?_
  refine s_imul dX5_valuesMultiply_69 ?_
  refine s_iconst (v := 3) dX5_valuesMultiply_70 rfl ?_
  refine s_iload_n 3 dX5_valuesMultiply_71 rfl ?_
  refine s_imul dX5_valuesMultiply_72 ?_
  refine s_iadd dX5_valuesMultiply_73 ?_
  refine s_iload 5 dX5_valuesMultiply_74 rfl ?_
  refine s_iadd dX5_valuesMultiply_76 ?_
  refine s_eqi e76 ?_
  refine s_laloadN aJ_C8 h77 (by decide) dX5_valuesMultiply_77 ?_
  refine s_aload_n 0 dX5_valuesMultiply_78 rfl ?_
  refine g_X5_20 dX5_valuesMultiply_79 rfl ?_
  refine s_iload 5 dX5_valuesMultiply_82 rfl ?_
  refine s_eqi e82 ?_
  refine s_laloadN aJ_C25 h84 (by decide) dX5_valuesMultiply_84 ?_
  refine s_lmul dX5_valuesMultiply_85 ?_
  refine s_ladd dX5_valuesMultiply_86 ?_
  refine s_eql f87 ?_
  refine s_lstore [(4, .long v87), (0, .ref (ad 21)), (1, .int x1), (2, .int x2), (3, .int x3), (6, .int x6)] dX5_valuesMultiply_87 (Nat.lt_of_lt_of_le (Nat.lt_succ_self _) (Nat.le_of_ble_eq_true rfl)) rfl ?_
  refine s_iinc 5 v89 [(6, .int v89), (4, .long v87), (0, .ref (ad 21)), (1, .int x1), (2, .int x2), (3, .int x3)] dX5_valuesMultiply_89 rfl f89 (Nat.lt_of_lt_of_le (Nat.lt_succ_self _) (Nat.le_of_ble_eq_true rfl)) rfl ?_
  refine s_goto (tgt := 45) dX5_valuesMultiply_92 (by decide) ?_
  refine s_pick [2, 3, 4, 5, 1, 0] [(0, .ref (ad 21)), (1, .int x1), (2, .int x2), (3, .int x3), (4, .long v87), (6, .int v89)] rfl ?_; exact k
theorem bX5_valuesMultiply_95 {l : Launch} {D : va_G} {aI aL : ClassId} {ad : Nat → Nat} {P : sa_P} {I : sa_I} {J : sa_J} {x1 : Int32} {x2 : Int32} {x3 : Int32} {x4 : Int64}   (k : Sat (EC l D aI aL ad) M_X5_valuesMultiply P 99 [(0, .ref (ad 21)), (1, .int x1), (2, .int x2), (3, .int x3)] [.long x1.toInt64, .long x4] I J) : Sat (EC l D aI aL ad) M_X5_valuesMultiply P 95 [(0, .ref (ad 21)), (1, .int x1), (2, .int x2), (3, .int x3), (4, .long x4)] [] I J := by
  refine s_lload 4 dX5_valuesMultiply_95 rfl ?_
  refine s_iload_n 1 dX5_valuesMultiply_97 rfl ?_
  refine s_i2l dX5_valuesMultiply_98 ?_
  refine s_pick [0, 1, 2, 3] [(0, .ref (ad 21)), (1, .int x1), (2, .int x2), (3, .int x3)] rfl ?_; exact k
theorem bX5_valuesMultiply_102 {l : Launch} {D : va_G} {aI aL : ClassId} {ad : Nat → Nat} {P : sa_P} {I : sa_I} {J : sa_J} {x1 : Int32} {x2 : Int32} {x3 : Int32} {s0 : Int64}   (kt : s0 = (0 : Int64) → Sat (EC l D aI aL ad) M_X5_valuesMultiply P 109 [(0, .ref (ad 21)), (1, .int x1), (2, .int x2), (3, .int x3)] [] I J) (kf : ¬ s0 = (0 : Int64) → Sat (EC l D aI aL ad) M_X5_valuesMultiply P 107 [] [] I J) : Sat (EC l D aI aL ad) M_X5_valuesMultiply P 102 [(0, .ref (ad 21)), (1, .int x1), (2, .int x2), (3, .int x3)] [.long s0] I J := by
  refine s_lconst (v := 0) dX5_valuesMultiply_102 rfl ?_
  refine s_lif_eq (tgt := 109) dX5_valuesMultiply_103 dX5_valuesMultiply_104 (by decide) (fun c => ?_) (fun c => ?_)
  · exact kt c
  · refine s_pick [] [] rfl ?_; exact kf c
theorem bX5_valuesMultiply_107 {l : Launch} {D : va_G} {aI aL : ClassId} {ad : Nat → Nat} {P : sa_P} {I : sa_I} {J : sa_J}    (k : P (some (.int (0 : Int32))) I J) : Sat (EC l D aI aL ad) M_X5_valuesMultiply P 107 [] [] I J := by
  refine s_iconst (v := 0) dX5_valuesMultiply_107 rfl ?_
  exact s_zret rfl rfl dX5_valuesMultiply_108 k
theorem bX5_valuesMultiply_109 {l : Launch} {D : va_G} {aI aL : ClassId} {ad : Nat → Nat} {P : sa_P} {I : sa_I} {J : sa_J} {x1 : Int32} {x2 : Int32} {x3 : Int32} {v109 : Int32}  (f109 : x3 + 1 = v109) (k : Sat (EC l D aI aL ad) M_X5_valuesMultiply P 15 [(0, .ref (ad 21)), (1, .int x1), (2, .int x2), (3, .int v109)] [] I J) : Sat (EC l D aI aL ad) M_X5_valuesMultiply P 109 [(0, .ref (ad 21)), (1, .int x1), (2, .int x2), (3, .int x3)] [] I J := by
  refine s_iinc 3 v109 [(3, .int v109), (0, .ref (ad 21)), (1, .int x1), (2, .int x2)] dX5_valuesMultiply_109 rfl f109 (Nat.lt_of_lt_of_le (Nat.lt_succ_self _) (Nat.le_of_ble_eq_true rfl)) rfl ?_
  refine s_goto (tgt := 15) dX5_valuesMultiply_112 (by decide) ?_
  refine s_pick [1, 2, 3, 0] [(0, .ref (ad 21)), (1, .int x1), (2, .int x2), (3, .int v109)] rfl ?_; exact k
theorem bX5_valuesMultiply_115 {l : Launch} {D : va_G} {aI aL : ClassId} {ad : Nat → Nat} {P : sa_P} {I : sa_I} {J : sa_J} {x1 : Int32} {x2 : Int32} {v115 : Int32}  (f115 : x2 + 1 = v115) (k : Sat (EC l D aI aL ad) M_X5_valuesMultiply P 2 [(0, .ref (ad 21)), (1, .int x1), (2, .int v115)] [] I J) : Sat (EC l D aI aL ad) M_X5_valuesMultiply P 115 [(0, .ref (ad 21)), (1, .int x1), (2, .int x2)] [] I J := by
  refine s_iinc 2 v115 [(2, .int v115), (0, .ref (ad 21)), (1, .int x1)] dX5_valuesMultiply_115 rfl f115 (Nat.lt_of_lt_of_le (Nat.lt_succ_self _) (Nat.le_of_ble_eq_true rfl)) rfl ?_
  refine s_goto (tgt := 2) dX5_valuesMultiply_118 (by decide) ?_
  refine s_pick [1, 2, 0] [(0, .ref (ad 21)), (1, .int x1), (2, .int v115)] rfl ?_; exact k
theorem bX5_valuesMultiply_121 {l : Launch} {D : va_G} {aI aL : ClassId} {ad : Nat → Nat} {P : sa_P} {I : sa_I} {J : sa_J}    (k : P (some (.int (1 : Int32))) I J) : Sat (EC l D aI aL ad) M_X5_valuesMultiply P 121 [] [] I J := by
  refine s_iconst (v := 1) dX5_valuesMultiply_121 rfl ?_
  exact s_zret rfl rfl dX5_valuesMultiply_122 k
/-! X5_keepMade -/
theorem dX5_keepMade_0 : decode cX5_keepMade 0 = .ok (.aload_n 0, 1) := by decide +kernel
theorem dX5_keepMade_1 : decode cX5_keepMade 1 = .ok (.getfield 38, 3) := by decide +kernel
theorem dX5_keepMade_4 : decode cX5_keepMade 4 = .ok (.iconst 2, 1) := by decide +kernel
theorem dX5_keepMade_5 : decode cX5_keepMade 5 = .ok (.if_icmp .le 4, 3) := by decide +kernel
theorem dX5_keepMade_8 : decode cX5_keepMade 8 = .ok (.return_, 1) := by decide +kernel
theorem dX5_keepMade_9 : decode cX5_keepMade 9 = .ok (.aload_n 0, 1) := by decide +kernel
theorem dX5_keepMade_10 : decode cX5_keepMade 10 = .ok (.getfield 7, 3) := by decide +kernel
theorem dX5_keepMade_13 : decode cX5_keepMade 13 = .ok (.aload_n 0, 1) := by decide +kernel
theorem dX5_keepMade_14 : decode cX5_keepMade 14 = .ok (.getfield 38, 3) := by decide +kernel
theorem dX5_keepMade_17 : decode cX5_keepMade 17 = .ok (.iload_n 1, 1) := by decide +kernel
theorem dX5_keepMade_18 : decode cX5_keepMade 18 = .ok (.iastore, 1) := by decide +kernel
theorem dX5_keepMade_19 : decode cX5_keepMade 19 = .ok (.aload_n 0, 1) := by decide +kernel
theorem dX5_keepMade_20 : decode cX5_keepMade 20 = .ok (.getfield 13, 3) := by decide +kernel
theorem dX5_keepMade_23 : decode cX5_keepMade 23 = .ok (.aload_n 0, 1) := by decide +kernel
theorem dX5_keepMade_24 : decode cX5_keepMade 24 = .ok (.getfield 38, 3) := by decide +kernel
theorem dX5_keepMade_27 : decode cX5_keepMade 27 = .ok (.iload_n 2, 1) := by decide +kernel
theorem dX5_keepMade_28 : decode cX5_keepMade 28 = .ok (.iastore, 1) := by decide +kernel
theorem dX5_keepMade_29 : decode cX5_keepMade 29 = .ok (.aload_n 0, 1) := by decide +kernel
theorem dX5_keepMade_30 : decode cX5_keepMade 30 = .ok (.getfield 30, 3) := by decide +kernel
theorem dX5_keepMade_33 : decode cX5_keepMade 33 = .ok (.getfield 45, 3) := by decide +kernel
theorem dX5_keepMade_36 : decode cX5_keepMade 36 = .ok (.getfield 97, 3) := by decide +kernel
theorem dX5_keepMade_39 : decode cX5_keepMade 39 = .ok (.iconst 0, 1) := by decide +kernel
theorem dX5_keepMade_40 : decode cX5_keepMade 40 = .ok (.aload_n 0, 1) := by decide +kernel
theorem dX5_keepMade_41 : decode cX5_keepMade 41 = .ok (.getfield 16, 3) := by decide +kernel
theorem dX5_keepMade_44 : decode cX5_keepMade 44 = .ok (.bipush 9, 2) := by decide +kernel
theorem dX5_keepMade_46 : decode cX5_keepMade 46 = .ok (.aload_n 0, 1) := by decide +kernel
theorem dX5_keepMade_47 : decode cX5_keepMade 47 = .ok (.getfield 38, 3) := by decide +kernel
theorem dX5_keepMade_50 : decode cX5_keepMade 50 = .ok (.imul, 1) := by decide +kernel
theorem dX5_keepMade_51 : decode cX5_keepMade 51 = .ok (.bipush 9, 2) := by decide +kernel
theorem dX5_keepMade_53 : decode cX5_keepMade 53 = .ok (.invokestatic 101, 3) := by decide +kernel
theorem dX5_keepMade_56 : decode cX5_keepMade 56 = .ok (.aload_n 0, 1) := by decide +kernel
theorem dX5_keepMade_57 : decode cX5_keepMade 57 = .ok (.dup, 1) := by decide +kernel
theorem dX5_keepMade_58 : decode cX5_keepMade 58 = .ok (.getfield 38, 3) := by decide +kernel
theorem dX5_keepMade_61 : decode cX5_keepMade 61 = .ok (.iconst 1, 1) := by decide +kernel
theorem dX5_keepMade_62 : decode cX5_keepMade 62 = .ok (.iadd, 1) := by decide +kernel
theorem dX5_keepMade_63 : decode cX5_keepMade 63 = .ok (.putfield 38, 3) := by decide +kernel
theorem dX5_keepMade_66 : decode cX5_keepMade 66 = .ok (.return_, 1) := by decide +kernel
theorem bX5_keepMade_0 {l : Launch} {D : va_G} {aI aL : ClassId} {ad : Nat → Nat} {P : sa_P} {I : sa_I} {J : sa_J} {x1 : Int32} {x2 : Int32}   (kt : I 21 0 ≤ (2 : Int32) → Sat (EC l D aI aL ad) M_X5_keepMade P 9 [(0, .ref (ad 21)), (1, .int x1), (2, .int x2)] [] I J) (kf : ¬ I 21 0 ≤ (2 : Int32) → Sat (EC l D aI aL ad) M_X5_keepMade P 8 [] [] I J) : Sat (EC l D aI aL ad) M_X5_keepMade P 0 [(0, .ref (ad 21)), (1, .int x1), (2, .int x2)] [] I J := by
  refine s_aload_n 0 dX5_keepMade_0 rfl ?_
  refine g_X5_38 dX5_keepMade_1 rfl ?_
  refine s_iconst (v := 2) dX5_keepMade_4 rfl ?_
  refine s_icmp_le (tgt := 9) dX5_keepMade_5 (by decide) (fun c => ?_) (fun c => ?_)
  · exact kt c
  · refine s_pick [] [] rfl ?_; exact kf c
theorem bX5_keepMade_8 {l : Launch} {D : va_G} {aI aL : ClassId} {ad : Nat → Nat} {P : sa_P} {I : sa_I} {J : sa_J}    (k : P (none) I J) : Sat (EC l D aI aL ad) M_X5_keepMade P 8 [] [] I J := by
  exact s_vret rfl dX5_keepMade_8 k
theorem bX5_keepMade_9 {l : Launch} {D : va_G} {aI aL : ClassId} {ad : Nat → Nat} {P : sa_P} {I : sa_I} {J : sa_J} {x1 : Int32} {x2 : Int32} {j14 : Nat} {j24 : Nat} (e14 : I 21 0 = nI j14) (h18 : j14 < 3) (e24 : (sa_uI I 22 j14 x1) 21 0 = nI j24) (h28 : j24 < 3)  (k : Sat (EC l D aI aL ad) M_X5_keepMade P 53 [(0, .ref (ad 21))] [.int (9 : Int32), .int ((9 : Int32) * ((sa_uI (sa_uI I 22 j14 x1) 23 j24 x2) 21 0)), .ref (ad 24), .int (0 : Int32), .ref (ad 15)] (sa_uI (sa_uI I 22 j14 x1) 23 j24 x2) J) : Sat (EC l D aI aL ad) M_X5_keepMade P 9 [(0, .ref (ad 21)), (1, .int x1), (2, .int x2)] [] I J := by
  refine s_aload_n 0 dX5_keepMade_9 rfl ?_
  refine g_X5_7 dX5_keepMade_10 rfl ?_
  refine s_aload_n 0 dX5_keepMade_13 rfl ?_
  refine g_X5_38 dX5_keepMade_14 rfl ?_
  refine s_eqi e14 ?_
  refine s_iload_n 1 dX5_keepMade_17 rfl ?_
  refine s_iastoreN aI_C22 h18 (by decide) dX5_keepMade_18 ?_
  refine s_aload_n 0 dX5_keepMade_19 rfl ?_
  refine g_X5_13 dX5_keepMade_20 rfl ?_
  refine s_aload_n 0 dX5_keepMade_23 rfl ?_
  refine g_X5_38 dX5_keepMade_24 rfl ?_
  refine s_eqi e24 ?_
  refine s_iload_n 2 dX5_keepMade_27 rfl ?_
  refine s_iastoreN aI_C23 h28 (by decide) dX5_keepMade_28 ?_
  refine s_aload_n 0 dX5_keepMade_29 rfl ?_
  refine g_X5_30 dX5_keepMade_30 rfl ?_
  refine g_X5_45 dX5_keepMade_33 rfl ?_
  refine g_X5_97 dX5_keepMade_36 rfl ?_
  refine s_iconst (v := 0) dX5_keepMade_39 rfl ?_
  refine s_aload_n 0 dX5_keepMade_40 rfl ?_
  refine g_X5_16 dX5_keepMade_41 rfl ?_
  refine s_bipush (v := 9) dX5_keepMade_44 rfl ?_
  refine s_aload_n 0 dX5_keepMade_46 rfl ?_
  refine g_X5_38 dX5_keepMade_47 rfl ?_
  refine s_imul dX5_keepMade_50 ?_
  refine s_bipush (v := 9) dX5_keepMade_51 rfl ?_
  refine s_pick [0] [(0, .ref (ad 21))] rfl ?_; exact k
theorem bX5_keepMade_56 {l : Launch} {D : va_G} {aI aL : ClassId} {ad : Nat → Nat} {P : sa_P} {I : sa_I} {J : sa_J} {v63 : Int32}  (f63 : (I 21 0) + (1 : Int32) = v63) (k : P (none) (sa_uI I 21 0 v63) J) : Sat (EC l D aI aL ad) M_X5_keepMade P 56 [(0, .ref (ad 21))] [] I J := by
  refine s_aload_n 0 dX5_keepMade_56 rfl ?_
  refine s_dup dX5_keepMade_57 rfl ?_
  refine g_X5_38 dX5_keepMade_58 rfl ?_
  refine s_iconst (v := 1) dX5_keepMade_61 rfl ?_
  refine s_iadd dX5_keepMade_62 ?_
  refine s_eqi f63 ?_
  refine p_X5_38 dX5_keepMade_63 rfl ?_
  exact s_vret rfl dX5_keepMade_66 k
/-! X5_finishCube -/
theorem dX5_finishCube_0 : decode cX5_finishCube 0 = .ok (.aload_n 0, 1) := by decide +kernel
theorem dX5_finishCube_1 : decode cX5_finishCube 1 = .ok (.getfield 38, 3) := by decide +kernel
theorem dX5_finishCube_4 : decode cX5_finishCube 4 = .ok (.iconst 2, 1) := by decide +kernel
theorem dX5_finishCube_5 : decode cX5_finishCube 5 = .ok (.if_icmp .le 4, 3) := by decide +kernel
theorem dX5_finishCube_8 : decode cX5_finishCube 8 = .ok (.return_, 1) := by decide +kernel
theorem dX5_finishCube_9 : decode cX5_finishCube 9 = .ok (.aload_n 0, 1) := by decide +kernel
theorem dX5_finishCube_10 : decode cX5_finishCube 10 = .ok (.getfield 30, 3) := by decide +kernel
theorem dX5_finishCube_13 : decode cX5_finishCube 13 = .ok (.aload_n 0, 1) := by decide +kernel
theorem dX5_finishCube_14 : decode cX5_finishCube 14 = .ok (.getfield 16, 3) := by decide +kernel
theorem dX5_finishCube_17 : decode cX5_finishCube 17 = .ok (.iconst 0, 1) := by decide +kernel
theorem dX5_finishCube_18 : decode cX5_finishCube 18 = .ok (.aload_n 0, 1) := by decide +kernel
theorem dX5_finishCube_19 : decode cX5_finishCube 19 = .ok (.getfield 16, 3) := by decide +kernel
theorem dX5_finishCube_22 : decode cX5_finishCube 22 = .ok (.iconst 0, 1) := by decide +kernel
theorem dX5_finishCube_23 : decode cX5_finishCube 23 = .ok (.invokevirtual 107, 3) := by decide +kernel
theorem dX5_finishCube_26 : decode cX5_finishCube 26 = .ok (.aload_n 0, 1) := by decide +kernel
theorem dX5_finishCube_27 : decode cX5_finishCube 27 = .ok (.getfield 30, 3) := by decide +kernel
theorem dX5_finishCube_30 : decode cX5_finishCube 30 = .ok (.getfield 45, 3) := by decide +kernel
theorem dX5_finishCube_33 : decode cX5_finishCube 33 = .ok (.getfield 97, 3) := by decide +kernel
theorem dX5_finishCube_36 : decode cX5_finishCube 36 = .ok (.iconst 0, 1) := by decide +kernel
theorem dX5_finishCube_37 : decode cX5_finishCube 37 = .ok (.laload, 1) := by decide +kernel
theorem dX5_finishCube_38 : decode cX5_finishCube 38 = .ok (.iload_n 1, 1) := by decide +kernel
theorem dX5_finishCube_39 : decode cX5_finishCube 39 = .ok (.i2l, 1) := by decide +kernel
theorem dX5_finishCube_40 : decode cX5_finishCube 40 = .ok (.lcmp, 1) := by decide +kernel
theorem dX5_finishCube_41 : decode cX5_finishCube 41 = .ok (.ifCond .ne 7, 3) := by decide +kernel
theorem dX5_finishCube_44 : decode cX5_finishCube 44 = .ok (.iconst 1, 1) := by decide +kernel
theorem dX5_finishCube_45 : decode cX5_finishCube 45 = .ok (.goto 4, 3) := by decide +kernel
theorem dX5_finishCube_48 : decode cX5_finishCube 48 = .ok (.iconst 0, 1) := by decide +kernel
theorem dX5_finishCube_49 : decode cX5_finishCube 49 = .ok (.istore_n 2, 1) := by decide +kernel
theorem dX5_finishCube_50 : decode cX5_finishCube 50 = .ok (.aload_n 0, 1) := by decide +kernel
theorem dX5_finishCube_51 : decode cX5_finishCube 51 = .ok (.getfield 38, 3) := by decide +kernel
theorem dX5_finishCube_54 : decode cX5_finishCube 54 = .ok (.iconst 2, 1) := by decide +kernel
theorem dX5_finishCube_55 : decode cX5_finishCube 55 = .ok (.if_icmp .ne 21, 3) := by decide +kernel
theorem dX5_finishCube_58 : decode cX5_finishCube 58 = .ok (.aload_n 0, 1) := by decide +kernel
theorem dX5_finishCube_59 : decode cX5_finishCube 59 = .ok (.getfield 7, 3) := by decide +kernel
theorem dX5_finishCube_62 : decode cX5_finishCube 62 = .ok (.iload_n 2, 1) := by decide +kernel
theorem dX5_finishCube_63 : decode cX5_finishCube 63 = .ok (.ifCond .eq 7, 3) := by decide +kernel
theorem dX5_finishCube_66 : decode cX5_finishCube 66 = .ok (.iconst 0, 1) := by decide +kernel
theorem dX5_finishCube_67 : decode cX5_finishCube 67 = .ok (.goto 4, 3) := by decide +kernel
theorem dX5_finishCube_70 : decode cX5_finishCube 70 = .ok (.iconst 1, 1) := by decide +kernel
theorem dX5_finishCube_71 : decode cX5_finishCube 71 = .ok (.iconst 2, 1) := by decide +kernel
theorem dX5_finishCube_72 : decode cX5_finishCube 72 = .ok (.iastore, 1) := by decide +kernel
theorem dX5_finishCube_73 : decode cX5_finishCube 73 = .ok (.goto 76, 3) := by decide +kernel
theorem dX5_finishCube_76 : decode cX5_finishCube 76 = .ok (.iload_n 2, 1) := by decide +kernel
theorem dX5_finishCube_77 : decode cX5_finishCube 77 = .ok (.ifCond .eq 13, 3) := by decide +kernel
theorem dX5_finishCube_80 : decode cX5_finishCube 80 = .ok (.aload_n 0, 1) := by decide +kernel
theorem dX5_finishCube_81 : decode cX5_finishCube 81 = .ok (.getfield 7, 3) := by decide +kernel
theorem dX5_finishCube_84 : decode cX5_finishCube 84 = .ok (.iconst 0, 1) := by decide +kernel
theorem dX5_finishCube_85 : decode cX5_finishCube 85 = .ok (.iconst 3, 1) := by decide +kernel
theorem dX5_finishCube_86 : decode cX5_finishCube 86 = .ok (.iastore, 1) := by decide +kernel
theorem dX5_finishCube_87 : decode cX5_finishCube 87 = .ok (.goto 62, 3) := by decide +kernel
theorem dX5_finishCube_90 : decode cX5_finishCube 90 = .ok (.aload_n 0, 1) := by decide +kernel
theorem dX5_finishCube_91 : decode cX5_finishCube 91 = .ok (.getfield 30, 3) := by decide +kernel
theorem dX5_finishCube_94 : decode cX5_finishCube 94 = .ok (.getfield 45, 3) := by decide +kernel
theorem dX5_finishCube_97 : decode cX5_finishCube 97 = .ok (.iconst 3, 1) := by decide +kernel
theorem dX5_finishCube_98 : decode cX5_finishCube 98 = .ok (.iload_n 1, 1) := by decide +kernel
theorem dX5_finishCube_99 : decode cX5_finishCube 99 = .ok (.i2l, 1) := by decide +kernel
theorem dX5_finishCube_100 : decode cX5_finishCube 100 = .ok (.invokevirtual 56, 3) := by decide +kernel
theorem dX5_finishCube_103 : decode cX5_finishCube 103 = .ok (.aload_n 0, 1) := by decide +kernel
theorem dX5_finishCube_104 : decode cX5_finishCube 104 = .ok (.getfield 30, 3) := by decide +kernel
theorem dX5_finishCube_107 : decode cX5_finishCube 107 = .ok (.getfield 45, 3) := by decide +kernel
theorem dX5_finishCube_110 : decode cX5_finishCube 110 = .ok (.getfield 97, 3) := by decide +kernel
theorem dX5_finishCube_113 : decode cX5_finishCube 113 = .ok (.iconst 0, 1) := by decide +kernel
theorem dX5_finishCube_114 : decode cX5_finishCube 114 = .ok (.aload_n 0, 1) := by decide +kernel
theorem dX5_finishCube_115 : decode cX5_finishCube 115 = .ok (.getfield 16, 3) := by decide +kernel
theorem dX5_finishCube_118 : decode cX5_finishCube 118 = .ok (.bipush 18, 2) := by decide +kernel
theorem dX5_finishCube_120 : decode cX5_finishCube 120 = .ok (.bipush 9, 2) := by decide +kernel
theorem dX5_finishCube_122 : decode cX5_finishCube 122 = .ok (.invokestatic 101, 3) := by decide +kernel
theorem dX5_finishCube_125 : decode cX5_finishCube 125 = .ok (.aload_n 0, 1) := by decide +kernel
theorem dX5_finishCube_126 : decode cX5_finishCube 126 = .ok (.getfield 30, 3) := by decide +kernel
theorem dX5_finishCube_129 : decode cX5_finishCube 129 = .ok (.aload_n 0, 1) := by decide +kernel
theorem dX5_finishCube_130 : decode cX5_finishCube 130 = .ok (.getfield 16, 3) := by decide +kernel
theorem dX5_finishCube_133 : decode cX5_finishCube 133 = .ok (.bipush 18, 2) := by decide +kernel
theorem dX5_finishCube_135 : decode cX5_finishCube 135 = .ok (.aload_n 0, 1) := by decide +kernel
theorem dX5_finishCube_136 : decode cX5_finishCube 136 = .ok (.getfield 16, 3) := by decide +kernel
theorem dX5_finishCube_139 : decode cX5_finishCube 139 = .ok (.iconst 0, 1) := by decide +kernel
theorem dX5_finishCube_140 : decode cX5_finishCube 140 = .ok (.invokevirtual 111, 3) := by decide +kernel
theorem dX5_finishCube_143 : decode cX5_finishCube 143 = .ok (.aload_n 0, 1) := by decide +kernel
theorem dX5_finishCube_144 : decode cX5_finishCube 144 = .ok (.iconst 1, 1) := by decide +kernel
theorem dX5_finishCube_145 : decode cX5_finishCube 145 = .ok (.iconst 2, 1) := by decide +kernel
theorem dX5_finishCube_146 : decode cX5_finishCube 146 = .ok (.invokevirtual 62, 3) := by decide +kernel
theorem dX5_finishCube_149 : decode cX5_finishCube 149 = .ok (.return_, 1) := by decide +kernel
theorem bX5_finishCube_0 {l : Launch} {D : va_G} {aI aL : ClassId} {ad : Nat → Nat} {P : sa_P} {I : sa_I} {J : sa_J} {x1 : Int32}   (kt : I 21 0 ≤ (2 : Int32) → Sat (EC l D aI aL ad) M_X5_finishCube P 9 [(0, .ref (ad 21)), (1, .int x1)] [] I J) (kf : ¬ I 21 0 ≤ (2 : Int32) → Sat (EC l D aI aL ad) M_X5_finishCube P 8 [] [] I J) : Sat (EC l D aI aL ad) M_X5_finishCube P 0 [(0, .ref (ad 21)), (1, .int x1)] [] I J := by
  refine s_aload_n 0 dX5_finishCube_0 rfl ?_
  refine g_X5_38 dX5_finishCube_1 rfl ?_
  refine s_iconst (v := 2) dX5_finishCube_4 rfl ?_
  refine s_icmp_le (tgt := 9) dX5_finishCube_5 (by decide) (fun c => ?_) (fun c => ?_)
  · exact kt c
  · refine s_pick [] [] rfl ?_; exact kf c
theorem bX5_finishCube_8 {l : Launch} {D : va_G} {aI aL : ClassId} {ad : Nat → Nat} {P : sa_P} {I : sa_I} {J : sa_J}    (k : P (none) I J) : Sat (EC l D aI aL ad) M_X5_finishCube P 8 [] [] I J := by
  exact s_vret rfl dX5_finishCube_8 k
theorem bX5_finishCube_9 {l : Launch} {D : va_G} {aI aL : ClassId} {ad : Nat → Nat} {P : sa_P} {I : sa_I} {J : sa_J} {x1 : Int32}   (k : Sat (EC l D aI aL ad) M_X5_finishCube P 23 [(0, .ref (ad 21)), (1, .int x1)] [.int (0 : Int32), .ref (ad 24), .int (0 : Int32), .ref (ad 24), .ref (ad 13)] I J) : Sat (EC l D aI aL ad) M_X5_finishCube P 9 [(0, .ref (ad 21)), (1, .int x1)] [] I J := by
  refine s_aload_n 0 dX5_finishCube_9 rfl ?_
  refine g_X5_30 dX5_finishCube_10 rfl ?_
  refine s_aload_n 0 dX5_finishCube_13 rfl ?_
  refine g_X5_16 dX5_finishCube_14 rfl ?_
  refine s_iconst (v := 0) dX5_finishCube_17 rfl ?_
  refine s_aload_n 0 dX5_finishCube_18 rfl ?_
  refine g_X5_16 dX5_finishCube_19 rfl ?_
  refine s_iconst (v := 0) dX5_finishCube_22 rfl ?_
  exact k
theorem bX5_finishCube_26 {l : Launch} {D : va_G} {aI aL : ClassId} {ad : Nat → Nat} {P : sa_P} {I : sa_I} {J : sa_J} {x1 : Int32}   (kt : ¬ J 15 0 = x1.toInt64 → Sat (EC l D aI aL ad) M_X5_finishCube P 48 [(0, .ref (ad 21)), (1, .int x1)] [] I J) (kf : J 15 0 = x1.toInt64 → Sat (EC l D aI aL ad) M_X5_finishCube P 44 [(0, .ref (ad 21)), (1, .int x1)] [] I J) : Sat (EC l D aI aL ad) M_X5_finishCube P 26 [(0, .ref (ad 21)), (1, .int x1)] [] I J := by
  refine s_aload_n 0 dX5_finishCube_26 rfl ?_
  refine g_X5_30 dX5_finishCube_27 rfl ?_
  refine g_X5_45 dX5_finishCube_30 rfl ?_
  refine g_X5_97 dX5_finishCube_33 rfl ?_
  refine s_iconst (v := 0) dX5_finishCube_36 rfl ?_
  refine s_eqi (y := nI 0) rfl ?_
  refine s_laloadN aJ_C15 (by decide) (by decide) dX5_finishCube_37 ?_
  refine s_iload_n 1 dX5_finishCube_38 rfl ?_
  refine s_i2l dX5_finishCube_39 ?_
  refine s_lif_ne (tgt := 48) dX5_finishCube_40 dX5_finishCube_41 (by decide) (fun c => ?_) (fun c => ?_)
  · exact kt c
  · exact kf (by first | exact c | exact Classical.not_not.mp c)
theorem bX5_finishCube_44 {l : Launch} {D : va_G} {aI aL : ClassId} {ad : Nat → Nat} {P : sa_P} {I : sa_I} {J : sa_J} {x1 : Int32}   (k : Sat (EC l D aI aL ad) M_X5_finishCube P 49 [(0, .ref (ad 21)), (1, .int x1)] [.int (1 : Int32)] I J) : Sat (EC l D aI aL ad) M_X5_finishCube P 44 [(0, .ref (ad 21)), (1, .int x1)] [] I J := by
  refine s_iconst (v := 1) dX5_finishCube_44 rfl ?_
  refine s_goto (tgt := 49) dX5_finishCube_45 (by decide) ?_
  exact k
theorem bX5_finishCube_48 {l : Launch} {D : va_G} {aI aL : ClassId} {ad : Nat → Nat} {P : sa_P} {I : sa_I} {J : sa_J} {x1 : Int32}   (k : Sat (EC l D aI aL ad) M_X5_finishCube P 49 [(0, .ref (ad 21)), (1, .int x1)] [.int (0 : Int32)] I J) : Sat (EC l D aI aL ad) M_X5_finishCube P 48 [(0, .ref (ad 21)), (1, .int x1)] [] I J := by
  refine s_iconst (v := 0) dX5_finishCube_48 rfl ?_
  exact k
theorem bX5_finishCube_49 {l : Launch} {D : va_G} {aI aL : ClassId} {ad : Nat → Nat} {P : sa_P} {I : sa_I} {J : sa_J} {x1 : Int32} {s0 : Int32}   (kt : ¬ I 21 0 = (2 : Int32) → Sat (EC l D aI aL ad) M_X5_finishCube P 76 [(0, .ref (ad 21)), (1, .int x1), (2, .int s0)] [] I J) (kf : I 21 0 = (2 : Int32) → Sat (EC l D aI aL ad) M_X5_finishCube P 58 [(0, .ref (ad 21)), (2, .int s0)] [] I J) : Sat (EC l D aI aL ad) M_X5_finishCube P 49 [(0, .ref (ad 21)), (1, .int x1)] [.int s0] I J := by
  refine s_istore_n [(2, .int s0), (0, .ref (ad 21)), (1, .int x1)] dX5_finishCube_49 (Nat.lt_of_lt_of_le (Nat.lt_succ_self _) (Nat.le_of_ble_eq_true rfl)) rfl ?_
  refine s_aload_n 1 dX5_finishCube_50 rfl ?_
  refine g_X5_38 dX5_finishCube_51 rfl ?_
  refine s_iconst (v := 2) dX5_finishCube_54 rfl ?_
  refine s_icmp_ne (tgt := 76) dX5_finishCube_55 (by decide) (fun c => ?_) (fun c => ?_)
  · refine s_pick [1, 2, 0] [(0, .ref (ad 21)), (1, .int x1), (2, .int s0)] rfl ?_; exact kt c
  · refine s_pick [1, 0] [(0, .ref (ad 21)), (2, .int s0)] rfl ?_; exact kf (by first | exact c | exact Classical.not_not.mp c)
theorem bX5_finishCube_58 {l : Launch} {D : va_G} {aI aL : ClassId} {ad : Nat → Nat} {P : sa_P} {I : sa_I} {J : sa_J} {x2 : Int32}   (kt : x2 = 0 → Sat (EC l D aI aL ad) M_X5_finishCube P 70 [] [.ref (ad 22)] I J) (kf : ¬ x2 = 0 → Sat (EC l D aI aL ad) M_X5_finishCube P 66 [] [.ref (ad 22)] I J) : Sat (EC l D aI aL ad) M_X5_finishCube P 58 [(0, .ref (ad 21)), (2, .int x2)] [] I J := by
  refine s_aload_n 0 dX5_finishCube_58 rfl ?_
  refine g_X5_7 dX5_finishCube_59 rfl ?_
  refine s_iload_n 1 dX5_finishCube_62 rfl ?_
  refine s_if_eq (tgt := 70) dX5_finishCube_63 (by decide) (fun c => ?_) (fun c => ?_)
  · refine s_pick [] [] rfl ?_; exact kt c
  · refine s_pick [] [] rfl ?_; exact kf c
theorem bX5_finishCube_66 {l : Launch} {D : va_G} {aI aL : ClassId} {ad : Nat → Nat} {P : sa_P} {I : sa_I} {J : sa_J}    (k : Sat (EC l D aI aL ad) M_X5_finishCube P 71 [] [.int (0 : Int32), .ref (ad 22)] I J) : Sat (EC l D aI aL ad) M_X5_finishCube P 66 [] [.ref (ad 22)] I J := by
  refine s_iconst (v := 0) dX5_finishCube_66 rfl ?_
  refine s_goto (tgt := 71) dX5_finishCube_67 (by decide) ?_
  exact k
theorem bX5_finishCube_70 {l : Launch} {D : va_G} {aI aL : ClassId} {ad : Nat → Nat} {P : sa_P} {I : sa_I} {J : sa_J}    (k : Sat (EC l D aI aL ad) M_X5_finishCube P 71 [] [.int (1 : Int32), .ref (ad 22)] I J) : Sat (EC l D aI aL ad) M_X5_finishCube P 70 [] [.ref (ad 22)] I J := by
  refine s_iconst (v := 1) dX5_finishCube_70 rfl ?_
  exact k
theorem bX5_finishCube_71 {l : Launch} {D : va_G} {aI aL : ClassId} {ad : Nat → Nat} {P : sa_P} {I : sa_I} {J : sa_J} {s1 : Nat} {v72 : Int32} (h72 : s1 < 3) (f72 : (2 : Int32) = v72) (k : Sat (EC l D aI aL ad) M_X5_finishCube P 149 [] [] (sa_uI I 22 s1 v72) J) : Sat (EC l D aI aL ad) M_X5_finishCube P 71 [] [.int (nI s1), .ref (ad 22)] I J := by
  refine s_iconst (v := 2) dX5_finishCube_71 rfl ?_
  refine s_eqi f72 ?_
  refine s_iastoreN aI_C22 h72 (by decide) dX5_finishCube_72 ?_
  refine s_goto (tgt := 149) dX5_finishCube_73 (by decide) ?_
  exact k
theorem bX5_finishCube_76 {l : Launch} {D : va_G} {aI aL : ClassId} {ad : Nat → Nat} {P : sa_P} {I : sa_I} {J : sa_J} {x1 : Int32} {x2 : Int32}   (kt : x2 = 0 → Sat (EC l D aI aL ad) M_X5_finishCube P 90 [(0, .ref (ad 21)), (1, .int x1)] [] I J) (kf : ¬ x2 = 0 → Sat (EC l D aI aL ad) M_X5_finishCube P 80 [(0, .ref (ad 21))] [] I J) : Sat (EC l D aI aL ad) M_X5_finishCube P 76 [(0, .ref (ad 21)), (1, .int x1), (2, .int x2)] [] I J := by
  refine s_iload_n 2 dX5_finishCube_76 rfl ?_
  refine s_if_eq (tgt := 90) dX5_finishCube_77 (by decide) (fun c => ?_) (fun c => ?_)
  · refine s_pick [0, 1] [(0, .ref (ad 21)), (1, .int x1)] rfl ?_; exact kt c
  · refine s_pick [0] [(0, .ref (ad 21))] rfl ?_; exact kf c
theorem bX5_finishCube_80 {l : Launch} {D : va_G} {aI aL : ClassId} {ad : Nat → Nat} {P : sa_P} {I : sa_I} {J : sa_J} {v86 : Int32}  (f86 : (3 : Int32) = v86) (k : Sat (EC l D aI aL ad) M_X5_finishCube P 149 [] [] (sa_uI I 22 0 v86) J) : Sat (EC l D aI aL ad) M_X5_finishCube P 80 [(0, .ref (ad 21))] [] I J := by
  refine s_aload_n 0 dX5_finishCube_80 rfl ?_
  refine g_X5_7 dX5_finishCube_81 rfl ?_
  refine s_iconst (v := 0) dX5_finishCube_84 rfl ?_
  refine s_eqi (y := nI 0) rfl ?_
  refine s_iconst (v := 3) dX5_finishCube_85 rfl ?_
  refine s_eqi f86 ?_
  refine s_iastoreN aI_C22 (by decide) (by decide) dX5_finishCube_86 ?_
  refine s_goto (tgt := 149) dX5_finishCube_87 (by decide) ?_
  refine s_pick [] [] rfl ?_; exact k
theorem bX5_finishCube_90 {l : Launch} {D : va_G} {aI aL : ClassId} {ad : Nat → Nat} {P : sa_P} {I : sa_I} {J : sa_J} {x1 : Int32}   (k : Sat (EC l D aI aL ad) M_X5_finishCube P 100 [(0, .ref (ad 21))] [.long x1.toInt64, .int (3 : Int32), .ref (ad 14)] I J) : Sat (EC l D aI aL ad) M_X5_finishCube P 90 [(0, .ref (ad 21)), (1, .int x1)] [] I J := by
  refine s_aload_n 0 dX5_finishCube_90 rfl ?_
  refine g_X5_30 dX5_finishCube_91 rfl ?_
  refine g_X5_45 dX5_finishCube_94 rfl ?_
  refine s_iconst (v := 3) dX5_finishCube_97 rfl ?_
  refine s_iload_n 1 dX5_finishCube_98 rfl ?_
  refine s_i2l dX5_finishCube_99 ?_
  refine s_pick [0] [(0, .ref (ad 21))] rfl ?_; exact k
theorem bX5_finishCube_103 {l : Launch} {D : va_G} {aI aL : ClassId} {ad : Nat → Nat} {P : sa_P} {I : sa_I} {J : sa_J}    (k : Sat (EC l D aI aL ad) M_X5_finishCube P 122 [(0, .ref (ad 21))] [.int (9 : Int32), .int (18 : Int32), .ref (ad 24), .int (0 : Int32), .ref (ad 15)] I J) : Sat (EC l D aI aL ad) M_X5_finishCube P 103 [(0, .ref (ad 21))] [] I J := by
  refine s_aload_n 0 dX5_finishCube_103 rfl ?_
  refine g_X5_30 dX5_finishCube_104 rfl ?_
  refine g_X5_45 dX5_finishCube_107 rfl ?_
  refine g_X5_97 dX5_finishCube_110 rfl ?_
  refine s_iconst (v := 0) dX5_finishCube_113 rfl ?_
  refine s_aload_n 0 dX5_finishCube_114 rfl ?_
  refine g_X5_16 dX5_finishCube_115 rfl ?_
  refine s_bipush (v := 18) dX5_finishCube_118 rfl ?_
  refine s_bipush (v := 9) dX5_finishCube_120 rfl ?_
  exact k
theorem bX5_finishCube_125 {l : Launch} {D : va_G} {aI aL : ClassId} {ad : Nat → Nat} {P : sa_P} {I : sa_I} {J : sa_J}    (k : Sat (EC l D aI aL ad) M_X5_finishCube P 140 [(0, .ref (ad 21))] [.int (0 : Int32), .ref (ad 24), .int (18 : Int32), .ref (ad 24), .ref (ad 13)] I J) : Sat (EC l D aI aL ad) M_X5_finishCube P 125 [(0, .ref (ad 21))] [] I J := by
  refine s_aload_n 0 dX5_finishCube_125 rfl ?_
  refine g_X5_30 dX5_finishCube_126 rfl ?_
  refine s_aload_n 0 dX5_finishCube_129 rfl ?_
  refine g_X5_16 dX5_finishCube_130 rfl ?_
  refine s_bipush (v := 18) dX5_finishCube_133 rfl ?_
  refine s_aload_n 0 dX5_finishCube_135 rfl ?_
  refine g_X5_16 dX5_finishCube_136 rfl ?_
  refine s_iconst (v := 0) dX5_finishCube_139 rfl ?_
  exact k
theorem bX5_finishCube_143 {l : Launch} {D : va_G} {aI aL : ClassId} {ad : Nat → Nat} {P : sa_P} {I : sa_I} {J : sa_J}    (k : Sat (EC l D aI aL ad) M_X5_finishCube P 146 [] [.int (2 : Int32), .int (1 : Int32), .ref (ad 21)] I J) : Sat (EC l D aI aL ad) M_X5_finishCube P 143 [(0, .ref (ad 21))] [] I J := by
  refine s_aload_n 0 dX5_finishCube_143 rfl ?_
  refine s_iconst (v := 1) dX5_finishCube_144 rfl ?_
  refine s_iconst (v := 2) dX5_finishCube_145 rfl ?_
  refine s_pick [] [] rfl ?_; exact k
theorem bX5_finishCube_149 {l : Launch} {D : va_G} {aI aL : ClassId} {ad : Nat → Nat} {P : sa_P} {I : sa_I} {J : sa_J}    (k : P (none) I J) : Sat (EC l D aI aL ad) M_X5_finishCube P 149 [] [] I J := by
  exact s_vret rfl dX5_finishCube_149 k
/-! X5_isPrimeIdeal -/
theorem dX5_isPrimeIdeal_0 : decode cX5_isPrimeIdeal 0 = .ok (.aload_n 1, 1) := by decide +kernel
theorem dX5_isPrimeIdeal_1 : decode cX5_isPrimeIdeal 1 = .ok (.iload_n 2, 1) := by decide +kernel
theorem dX5_isPrimeIdeal_2 : decode cX5_isPrimeIdeal 2 = .ok (.laload, 1) := by decide +kernel
theorem dX5_isPrimeIdeal_3 : decode cX5_isPrimeIdeal 3 = .ok (.lstore_n 3, 1) := by decide +kernel
theorem dX5_isPrimeIdeal_4 : decode cX5_isPrimeIdeal 4 = .ok (.lload_n 3, 1) := by decide +kernel
theorem dX5_isPrimeIdeal_5 : decode cX5_isPrimeIdeal 5 = .ok (.invokestatic 114, 3) := by decide +kernel
theorem dX5_isPrimeIdeal_8 : decode cX5_isPrimeIdeal 8 = .ok (.ifCond .ne 5, 3) := by decide +kernel
theorem dX5_isPrimeIdeal_11 : decode cX5_isPrimeIdeal 11 = .ok (.iconst 0, 1) := by decide +kernel
theorem dX5_isPrimeIdeal_12 : decode cX5_isPrimeIdeal 12 = .ok (.ireturn, 1) := by decide +kernel
theorem dX5_isPrimeIdeal_13 : decode cX5_isPrimeIdeal 13 = .ok (.aload_n 1, 1) := by decide +kernel
theorem dX5_isPrimeIdeal_14 : decode cX5_isPrimeIdeal 14 = .ok (.iload_n 2, 1) := by decide +kernel
theorem dX5_isPrimeIdeal_15 : decode cX5_isPrimeIdeal 15 = .ok (.invokestatic 118, 3) := by decide +kernel
theorem dX5_isPrimeIdeal_18 : decode cX5_isPrimeIdeal 18 = .ok (.lstore 5, 2) := by decide +kernel
theorem dX5_isPrimeIdeal_20 : decode cX5_isPrimeIdeal 20 = .ok (.lload 5, 2) := by decide +kernel
theorem dX5_isPrimeIdeal_22 : decode cX5_isPrimeIdeal 22 = .ok (.lload_n 3, 1) := by decide +kernel
theorem dX5_isPrimeIdeal_23 : decode cX5_isPrimeIdeal 23 = .ok (.lcmp, 1) := by decide +kernel
theorem dX5_isPrimeIdeal_24 : decode cX5_isPrimeIdeal 24 = .ok (.ifCond .ne 5, 3) := by decide +kernel
theorem dX5_isPrimeIdeal_27 : decode cX5_isPrimeIdeal 27 = .ok (.iconst 1, 1) := by decide +kernel
theorem dX5_isPrimeIdeal_28 : decode cX5_isPrimeIdeal 28 = .ok (.ireturn, 1) := by decide +kernel
theorem dX5_isPrimeIdeal_29 : decode cX5_isPrimeIdeal 29 = .ok (.lload 5, 2) := by decide +kernel
theorem dX5_isPrimeIdeal_31 : decode cX5_isPrimeIdeal 31 = .ok (.lload_n 3, 1) := by decide +kernel
theorem dX5_isPrimeIdeal_32 : decode cX5_isPrimeIdeal 32 = .ok (.lload_n 3, 1) := by decide +kernel
theorem dX5_isPrimeIdeal_33 : decode cX5_isPrimeIdeal 33 = .ok (.lmul, 1) := by decide +kernel
theorem dX5_isPrimeIdeal_34 : decode cX5_isPrimeIdeal 34 = .ok (.lcmp, 1) := by decide +kernel
theorem dX5_isPrimeIdeal_35 : decode cX5_isPrimeIdeal 35 = .ok (.ifCond .ne 11, 3) := by decide +kernel
theorem dX5_isPrimeIdeal_38 : decode cX5_isPrimeIdeal 38 = .ok (.aload_n 0, 1) := by decide +kernel
theorem dX5_isPrimeIdeal_39 : decode cX5_isPrimeIdeal 39 = .ok (.aload_n 1, 1) := by decide +kernel
theorem dX5_isPrimeIdeal_40 : decode cX5_isPrimeIdeal 40 = .ok (.iload_n 2, 1) := by decide +kernel
theorem dX5_isPrimeIdeal_41 : decode cX5_isPrimeIdeal 41 = .ok (.lload_n 3, 1) := by decide +kernel
theorem dX5_isPrimeIdeal_42 : decode cX5_isPrimeIdeal 42 = .ok (.invokevirtual 122, 3) := by decide +kernel
theorem dX5_isPrimeIdeal_45 : decode cX5_isPrimeIdeal 45 = .ok (.ireturn, 1) := by decide +kernel
theorem dX5_isPrimeIdeal_46 : decode cX5_isPrimeIdeal 46 = .ok (.aload_n 0, 1) := by decide +kernel
theorem dX5_isPrimeIdeal_47 : decode cX5_isPrimeIdeal 47 = .ok (.lload_n 3, 1) := by decide +kernel
theorem dX5_isPrimeIdeal_48 : decode cX5_isPrimeIdeal 48 = .ok (.l2i, 1) := by decide +kernel
theorem dX5_isPrimeIdeal_49 : decode cX5_isPrimeIdeal 49 = .ok (.invokevirtual 126, 3) := by decide +kernel
theorem dX5_isPrimeIdeal_52 : decode cX5_isPrimeIdeal 52 = .ok (.aload_n 0, 1) := by decide +kernel
theorem dX5_isPrimeIdeal_53 : decode cX5_isPrimeIdeal 53 = .ok (.getfield 13, 3) := by decide +kernel
theorem dX5_isPrimeIdeal_56 : decode cX5_isPrimeIdeal 56 = .ok (.iconst 0, 1) := by decide +kernel
theorem dX5_isPrimeIdeal_57 : decode cX5_isPrimeIdeal 57 = .ok (.iaload, 1) := by decide +kernel
theorem dX5_isPrimeIdeal_58 : decode cX5_isPrimeIdeal 58 = .ok (.iconst 3, 1) := by decide +kernel
theorem dX5_isPrimeIdeal_59 : decode cX5_isPrimeIdeal 59 = .ok (.if_icmp .ne 7, 3) := by decide +kernel
theorem dX5_isPrimeIdeal_62 : decode cX5_isPrimeIdeal 62 = .ok (.iconst 1, 1) := by decide +kernel
theorem dX5_isPrimeIdeal_63 : decode cX5_isPrimeIdeal 63 = .ok (.goto 4, 3) := by decide +kernel
theorem dX5_isPrimeIdeal_66 : decode cX5_isPrimeIdeal 66 = .ok (.iconst 0, 1) := by decide +kernel
theorem dX5_isPrimeIdeal_67 : decode cX5_isPrimeIdeal 67 = .ok (.ireturn, 1) := by decide +kernel
theorem bX5_isPrimeIdeal_0 {l : Launch} {D : va_G} {aI aL : ClassId} {ad : Nat → Nat} {P : sa_P} {I : sa_I} {J : sa_J} {a1 q1 n1 : Nat} {x2 : Int32} {j1 : Nat} {v3 : Int64} (hq1 : sa_iJ (EC l D aI aL ad) a1 q1 n1) (hn1 : n1 < 2 ^ 31) (e1 : x2 = nI j1) (h2 : j1 < n1) (f3 : J q1 j1 = v3) (k : Sat (EC l D aI aL ad) M_X5_isPrimeIdeal P 5 [(0, .ref (ad 21)), (1, .ref a1), (2, .int x2), (3, .long v3)] [.long v3] I J) : Sat (EC l D aI aL ad) M_X5_isPrimeIdeal P 0 [(0, .ref (ad 21)), (1, .ref a1), (2, .int x2)] [] I J := by
  refine s_aload_n 1 dX5_isPrimeIdeal_0 rfl ?_
  refine s_iload_n 2 dX5_isPrimeIdeal_1 rfl ?_
  refine s_eqi e1 ?_
  refine s_laloadN hq1 h2 hn1 dX5_isPrimeIdeal_2 ?_
  refine s_eql f3 ?_
  refine s_lstore_n [(3, .long v3), (0, .ref (ad 21)), (1, .ref a1), (2, .int x2)] dX5_isPrimeIdeal_3 (Nat.lt_of_lt_of_le (Nat.lt_succ_self _) (Nat.le_of_ble_eq_true rfl)) rfl ?_
  refine s_lload_n 0 dX5_isPrimeIdeal_4 rfl ?_
  refine s_pick [1, 2, 3, 0] [(0, .ref (ad 21)), (1, .ref a1), (2, .int x2), (3, .long v3)] rfl ?_; exact k
theorem bX5_isPrimeIdeal_8 {l : Launch} {D : va_G} {aI aL : ClassId} {ad : Nat → Nat} {P : sa_P} {I : sa_I} {J : sa_J} {a1 q1 n1 : Nat} {x2 : Int32} {x3 : Int64} {s0 : Int32} (hq1 : sa_iJ (EC l D aI aL ad) a1 q1 n1) (hn1 : n1 < 2 ^ 31)  (kt : ¬ s0 = 0 → Sat (EC l D aI aL ad) M_X5_isPrimeIdeal P 13 [(0, .ref (ad 21)), (1, .ref a1), (2, .int x2), (3, .long x3)] [] I J) (kf : s0 = 0 → Sat (EC l D aI aL ad) M_X5_isPrimeIdeal P 11 [] [] I J) : Sat (EC l D aI aL ad) M_X5_isPrimeIdeal P 8 [(0, .ref (ad 21)), (1, .ref a1), (2, .int x2), (3, .long x3)] [.int s0] I J := by
  refine s_if_ne (tgt := 13) dX5_isPrimeIdeal_8 (by decide) (fun c => ?_) (fun c => ?_)
  · exact kt c
  · refine s_pick [] [] rfl ?_; exact kf (by first | exact c | exact Classical.not_not.mp c)
theorem bX5_isPrimeIdeal_11 {l : Launch} {D : va_G} {aI aL : ClassId} {ad : Nat → Nat} {P : sa_P} {I : sa_I} {J : sa_J}    (k : P (some (.int (0 : Int32))) I J) : Sat (EC l D aI aL ad) M_X5_isPrimeIdeal P 11 [] [] I J := by
  refine s_iconst (v := 0) dX5_isPrimeIdeal_11 rfl ?_
  exact s_zret rfl rfl dX5_isPrimeIdeal_12 k
theorem bX5_isPrimeIdeal_13 {l : Launch} {D : va_G} {aI aL : ClassId} {ad : Nat → Nat} {P : sa_P} {I : sa_I} {J : sa_J} {a1 q1 n1 : Nat} {x2 : Int32} {x3 : Int64} (hq1 : sa_iJ (EC l D aI aL ad) a1 q1 n1) (hn1 : n1 < 2 ^ 31)  (k : Sat (EC l D aI aL ad) M_X5_isPrimeIdeal P 15 [(0, .ref (ad 21)), (1, .ref a1), (2, .int x2), (3, .long x3)] [.int x2, .ref a1] I J) : Sat (EC l D aI aL ad) M_X5_isPrimeIdeal P 13 [(0, .ref (ad 21)), (1, .ref a1), (2, .int x2), (3, .long x3)] [] I J := by
  refine s_aload_n 1 dX5_isPrimeIdeal_13 rfl ?_
  refine s_iload_n 2 dX5_isPrimeIdeal_14 rfl ?_
  exact k
theorem bX5_isPrimeIdeal_18 {l : Launch} {D : va_G} {aI aL : ClassId} {ad : Nat → Nat} {P : sa_P} {I : sa_I} {J : sa_J} {a1 q1 n1 : Nat} {x2 : Int32} {x3 : Int64} {s0 : Int64} (hq1 : sa_iJ (EC l D aI aL ad) a1 q1 n1) (hn1 : n1 < 2 ^ 31)  (kt : ¬ s0 = x3 → Sat (EC l D aI aL ad) M_X5_isPrimeIdeal P 29 [(0, .ref (ad 21)), (1, .ref a1), (2, .int x2), (3, .long x3), (5, .long s0)] [] I J) (kf : s0 = x3 → Sat (EC l D aI aL ad) M_X5_isPrimeIdeal P 27 [] [] I J) : Sat (EC l D aI aL ad) M_X5_isPrimeIdeal P 18 [(0, .ref (ad 21)), (1, .ref a1), (2, .int x2), (3, .long x3)] [.long s0] I J := by
  refine s_lstore [(5, .long s0), (0, .ref (ad 21)), (1, .ref a1), (2, .int x2), (3, .long x3)] dX5_isPrimeIdeal_18 (Nat.lt_of_lt_of_le (Nat.lt_succ_self _) (Nat.le_of_ble_eq_true rfl)) rfl ?_
  refine s_lload 0 dX5_isPrimeIdeal_20 rfl ?_
  refine s_lload_n 4 dX5_isPrimeIdeal_22 rfl ?_
  refine s_lif_ne (tgt := 29) dX5_isPrimeIdeal_23 dX5_isPrimeIdeal_24 (by decide) (fun c => ?_) (fun c => ?_)
  · refine s_pick [1, 2, 3, 4, 0] [(0, .ref (ad 21)), (1, .ref a1), (2, .int x2), (3, .long x3), (5, .long s0)] rfl ?_; exact kt c
  · refine s_pick [] [] rfl ?_; exact kf (by first | exact c | exact Classical.not_not.mp c)
theorem bX5_isPrimeIdeal_27 {l : Launch} {D : va_G} {aI aL : ClassId} {ad : Nat → Nat} {P : sa_P} {I : sa_I} {J : sa_J}    (k : P (some (.int (1 : Int32))) I J) : Sat (EC l D aI aL ad) M_X5_isPrimeIdeal P 27 [] [] I J := by
  refine s_iconst (v := 1) dX5_isPrimeIdeal_27 rfl ?_
  exact s_zret rfl rfl dX5_isPrimeIdeal_28 k
theorem bX5_isPrimeIdeal_29 {l : Launch} {D : va_G} {aI aL : ClassId} {ad : Nat → Nat} {P : sa_P} {I : sa_I} {J : sa_J} {a1 q1 n1 : Nat} {x2 : Int32} {x3 : Int64} {x5 : Int64} (hq1 : sa_iJ (EC l D aI aL ad) a1 q1 n1) (hn1 : n1 < 2 ^ 31)  (kt : ¬ x5 = x3 * x3 → Sat (EC l D aI aL ad) M_X5_isPrimeIdeal P 46 [(0, .ref (ad 21)), (3, .long x3)] [] I J) (kf : x5 = x3 * x3 → Sat (EC l D aI aL ad) M_X5_isPrimeIdeal P 38 [(0, .ref (ad 21)), (1, .ref a1), (2, .int x2), (3, .long x3)] [] I J) : Sat (EC l D aI aL ad) M_X5_isPrimeIdeal P 29 [(0, .ref (ad 21)), (1, .ref a1), (2, .int x2), (3, .long x3), (5, .long x5)] [] I J := by
  refine s_lload 4 dX5_isPrimeIdeal_29 rfl ?_
  refine s_lload_n 3 dX5_isPrimeIdeal_31 rfl ?_
  refine s_lload_n 3 dX5_isPrimeIdeal_32 rfl ?_
  refine s_lmul dX5_isPrimeIdeal_33 ?_
  refine s_lif_ne (tgt := 46) dX5_isPrimeIdeal_34 dX5_isPrimeIdeal_35 (by decide) (fun c => ?_) (fun c => ?_)
  · refine s_pick [0, 3] [(0, .ref (ad 21)), (3, .long x3)] rfl ?_; exact kt c
  · refine s_pick [0, 1, 2, 3] [(0, .ref (ad 21)), (1, .ref a1), (2, .int x2), (3, .long x3)] rfl ?_; exact kf (by first | exact c | exact Classical.not_not.mp c)
theorem bX5_isPrimeIdeal_38 {l : Launch} {D : va_G} {aI aL : ClassId} {ad : Nat → Nat} {P : sa_P} {I : sa_I} {J : sa_J} {a1 q1 n1 : Nat} {x2 : Int32} {x3 : Int64} (hq1 : sa_iJ (EC l D aI aL ad) a1 q1 n1) (hn1 : n1 < 2 ^ 31)  (k : Sat (EC l D aI aL ad) M_X5_isPrimeIdeal P 42 [] [.long x3, .int x2, .ref a1, .ref (ad 21)] I J) : Sat (EC l D aI aL ad) M_X5_isPrimeIdeal P 38 [(0, .ref (ad 21)), (1, .ref a1), (2, .int x2), (3, .long x3)] [] I J := by
  refine s_aload_n 0 dX5_isPrimeIdeal_38 rfl ?_
  refine s_aload_n 1 dX5_isPrimeIdeal_39 rfl ?_
  refine s_iload_n 2 dX5_isPrimeIdeal_40 rfl ?_
  refine s_lload_n 3 dX5_isPrimeIdeal_41 rfl ?_
  refine s_pick [] [] rfl ?_; exact k
theorem bX5_isPrimeIdeal_45 {l : Launch} {D : va_G} {aI aL : ClassId} {ad : Nat → Nat} {P : sa_P} {I : sa_I} {J : sa_J} {s0 : Int32} (hz : narrow .boolean (.int s0) = .int s0)  (k : P (some (.int s0)) I J) : Sat (EC l D aI aL ad) M_X5_isPrimeIdeal P 45 [] [.int s0] I J := by
  exact s_zret hz rfl dX5_isPrimeIdeal_45 k
theorem bX5_isPrimeIdeal_46 {l : Launch} {D : va_G} {aI aL : ClassId} {ad : Nat → Nat} {P : sa_P} {I : sa_I} {J : sa_J} {x3 : Int64}   (k : Sat (EC l D aI aL ad) M_X5_isPrimeIdeal P 49 [(0, .ref (ad 21))] [.int x3.toInt32, .ref (ad 21)] I J) : Sat (EC l D aI aL ad) M_X5_isPrimeIdeal P 46 [(0, .ref (ad 21)), (3, .long x3)] [] I J := by
  refine s_aload_n 0 dX5_isPrimeIdeal_46 rfl ?_
  refine s_lload_n 1 dX5_isPrimeIdeal_47 rfl ?_
  refine s_l2i dX5_isPrimeIdeal_48 ?_
  refine s_pick [0] [(0, .ref (ad 21))] rfl ?_; exact k
theorem bX5_isPrimeIdeal_52 {l : Launch} {D : va_G} {aI aL : ClassId} {ad : Nat → Nat} {P : sa_P} {I : sa_I} {J : sa_J}    (kt : ¬ I 23 0 = (3 : Int32) → Sat (EC l D aI aL ad) M_X5_isPrimeIdeal P 66 [] [] I J) (kf : I 23 0 = (3 : Int32) → Sat (EC l D aI aL ad) M_X5_isPrimeIdeal P 62 [] [] I J) : Sat (EC l D aI aL ad) M_X5_isPrimeIdeal P 52 [(0, .ref (ad 21))] [] I J := by
  refine s_aload_n 0 dX5_isPrimeIdeal_52 rfl ?_
  refine g_X5_13 dX5_isPrimeIdeal_53 rfl ?_
  refine s_iconst (v := 0) dX5_isPrimeIdeal_56 rfl ?_
  refine s_eqi (y := nI 0) rfl ?_
  refine s_ialoadN aI_C23 (by decide) (by decide) dX5_isPrimeIdeal_57 ?_
  refine s_iconst (v := 3) dX5_isPrimeIdeal_58 rfl ?_
  refine s_icmp_ne (tgt := 66) dX5_isPrimeIdeal_59 (by decide) (fun c => ?_) (fun c => ?_)
  · refine s_pick [] [] rfl ?_; exact kt c
  · refine s_pick [] [] rfl ?_; exact kf (by first | exact c | exact Classical.not_not.mp c)
theorem bX5_isPrimeIdeal_62 {l : Launch} {D : va_G} {aI aL : ClassId} {ad : Nat → Nat} {P : sa_P} {I : sa_I} {J : sa_J}    (k : Sat (EC l D aI aL ad) M_X5_isPrimeIdeal P 67 [] [.int (1 : Int32)] I J) : Sat (EC l D aI aL ad) M_X5_isPrimeIdeal P 62 [] [] I J := by
  refine s_iconst (v := 1) dX5_isPrimeIdeal_62 rfl ?_
  refine s_goto (tgt := 67) dX5_isPrimeIdeal_63 (by decide) ?_
  exact k
theorem bX5_isPrimeIdeal_66 {l : Launch} {D : va_G} {aI aL : ClassId} {ad : Nat → Nat} {P : sa_P} {I : sa_I} {J : sa_J}    (k : Sat (EC l D aI aL ad) M_X5_isPrimeIdeal P 67 [] [.int (0 : Int32)] I J) : Sat (EC l D aI aL ad) M_X5_isPrimeIdeal P 66 [] [] I J := by
  refine s_iconst (v := 0) dX5_isPrimeIdeal_66 rfl ?_
  exact k
theorem bX5_isPrimeIdeal_67 {l : Launch} {D : va_G} {aI aL : ClassId} {ad : Nat → Nat} {P : sa_P} {I : sa_I} {J : sa_J} {s0 : Int32} (hz : narrow .boolean (.int s0) = .int s0)  (k : P (some (.int s0)) I J) : Sat (EC l D aI aL ad) M_X5_isPrimeIdeal P 67 [] [.int s0] I J := by
  exact s_zret hz rfl dX5_isPrimeIdeal_67 k
/-! X5_leavesField -/
theorem dX5_leavesField_0 : decode cX5_leavesField 0 = .ok (.aload_n 1, 1) := by decide +kernel
theorem dX5_leavesField_1 : decode cX5_leavesField 1 = .ok (.iload_n 2, 1) := by decide +kernel
theorem dX5_leavesField_2 : decode cX5_leavesField 2 = .ok (.iconst 4, 1) := by decide +kernel
theorem dX5_leavesField_3 : decode cX5_leavesField 3 = .ok (.iadd, 1) := by decide +kernel
theorem dX5_leavesField_4 : decode cX5_leavesField 4 = .ok (.laload, 1) := by decide +kernel
theorem dX5_leavesField_5 : decode cX5_leavesField 5 = .ok (.lload_n 3, 1) := by decide +kernel
theorem dX5_leavesField_6 : decode cX5_leavesField 6 = .ok (.lcmp, 1) := by decide +kernel
theorem dX5_leavesField_7 : decode cX5_leavesField 7 = .ok (.ifCond .ne 7, 3) := by decide +kernel
theorem dX5_leavesField_10 : decode cX5_leavesField 10 = .ok (.iconst 1, 1) := by decide +kernel
theorem dX5_leavesField_11 : decode cX5_leavesField 11 = .ok (.goto 4, 3) := by decide +kernel
theorem dX5_leavesField_14 : decode cX5_leavesField 14 = .ok (.iconst 2, 1) := by decide +kernel
theorem dX5_leavesField_15 : decode cX5_leavesField 15 = .ok (.istore 5, 2) := by decide +kernel
theorem dX5_leavesField_17 : decode cX5_leavesField 17 = .ok (.aload_n 0, 1) := by decide +kernel
theorem dX5_leavesField_18 : decode cX5_leavesField 18 = .ok (.getfield 30, 3) := by decide +kernel
theorem dX5_leavesField_21 : decode cX5_leavesField 21 = .ok (.aload_n 1, 1) := by decide +kernel
theorem dX5_leavesField_22 : decode cX5_leavesField 22 = .ok (.iload_n 2, 1) := by decide +kernel
theorem dX5_leavesField_23 : decode cX5_leavesField 23 = .ok (.aload_n 0, 1) := by decide +kernel
theorem dX5_leavesField_24 : decode cX5_leavesField 24 = .ok (.getfield 26, 3) := by decide +kernel
theorem dX5_leavesField_27 : decode cX5_leavesField 27 = .ok (.getfield 98, 3) := by decide +kernel
theorem dX5_leavesField_30 : decode cX5_leavesField 30 = .ok (.bipush 12, 2) := by decide +kernel
theorem dX5_leavesField_32 : decode cX5_leavesField 32 = .ok (.iload 5, 2) := by decide +kernel
theorem dX5_leavesField_34 : decode cX5_leavesField 34 = .ok (.imul, 1) := by decide +kernel
theorem dX5_leavesField_35 : decode cX5_leavesField 35 = .ok (.invokevirtual 129, 3) := by decide +kernel
theorem dX5_leavesField_38 : decode cX5_leavesField 38 = .ok (.aload_n 0, 1) := by decide +kernel
theorem dX5_leavesField_39 : decode cX5_leavesField 39 = .ok (.getfield 30, 3) := by decide +kernel
theorem dX5_leavesField_42 : decode cX5_leavesField 42 = .ok (.getfield 132, 3) := by decide +kernel
theorem dX5_leavesField_45 : decode cX5_leavesField 45 = .ok (.iconst 0, 1) := by decide +kernel
theorem dX5_leavesField_46 : decode cX5_leavesField 46 = .ok (.laload, 1) := by decide +kernel
theorem dX5_leavesField_47 : decode cX5_leavesField 47 = .ok (.lstore 6, 2) := by decide +kernel
theorem dX5_leavesField_49 : decode cX5_leavesField 49 = .ok (.aload_n 0, 1) := by decide +kernel
theorem dX5_leavesField_50 : decode cX5_leavesField 50 = .ok (.getfield 30, 3) := by decide +kernel
theorem dX5_leavesField_53 : decode cX5_leavesField 53 = .ok (.getfield 132, 3) := by decide +kernel
theorem dX5_leavesField_56 : decode cX5_leavesField 56 = .ok (.iload 5, 2) := by decide +kernel
theorem dX5_leavesField_58 : decode cX5_leavesField 58 = .ok (.laload, 1) := by decide +kernel
theorem dX5_leavesField_59 : decode cX5_leavesField 59 = .ok (.lstore 8, 2) := by decide +kernel
theorem dX5_leavesField_61 : decode cX5_leavesField 61 = .ok (.lconst 0, 1) := by decide +kernel
theorem dX5_leavesField_62 : decode cX5_leavesField 62 = .ok (.lstore 10, 2) := by decide +kernel
theorem dX5_leavesField_64 : decode cX5_leavesField 64 = .ok (.lload 10, 2) := by decide +kernel
theorem dX5_leavesField_66 : decode cX5_leavesField 66 = .ok (.lload_n 3, 1) := by decide +kernel
theorem dX5_leavesField_67 : decode cX5_leavesField 67 = .ok (.lcmp, 1) := by decide +kernel
theorem dX5_leavesField_68 : decode cX5_leavesField 68 = .ok (.ifCond .ge 35, 3) := by decide +kernel
theorem dX5_leavesField_71 : decode cX5_leavesField 71 = .ok (.lload 10, 2) := by decide +kernel
theorem dX5_leavesField_73 : decode cX5_leavesField 73 = .ok (.lload 10, 2) := by decide +kernel
theorem dX5_leavesField_75 : decode cX5_leavesField 75 = .ok (.lmul, 1) := by decide +kernel
theorem dX5_leavesField_76 : decode cX5_leavesField 76 = .ok (.lload 8, 2) := by decide +kernel
theorem dX5_leavesField_78 : decode cX5_leavesField 78 = .ok (.lload 10, 2) := by decide +kernel
theorem dX5_leavesField_80 : decode cX5_leavesField 80 = .ok (.lmul, 1) := by decide +kernel
theorem dX5_leavesField_81 : decode cX5_leavesField 81 = .ok (.lsub, 1) := by decide +kernel
theorem dX5_leavesField_82 : decode cX5_leavesField 82 = .ok (.lload 6, 2) := by decide +kernel
theorem dX5_leavesField_84 : decode cX5_leavesField 84 = .ok (.lsub, 1) := by decide +kernel
theorem dX5_leavesField_85 : decode cX5_leavesField 85 = .ok (.lload_n 3, 1) := by decide +kernel
theorem dX5_leavesField_86 : decode cX5_leavesField 86 = .ok (.lrem, 1) := by decide +kernel
theorem dX5_leavesField_87 : decode cX5_leavesField 87 = .ok (.lconst 0, 1) := by decide +kernel
theorem dX5_leavesField_88 : decode cX5_leavesField 88 = .ok (.lcmp, 1) := by decide +kernel
theorem dX5_leavesField_89 : decode cX5_leavesField 89 = .ok (.ifCond .ne 5, 3) := by decide +kernel
theorem dX5_leavesField_92 : decode cX5_leavesField 92 = .ok (.iconst 0, 1) := by decide +kernel
theorem dX5_leavesField_93 : decode cX5_leavesField 93 = .ok (.ireturn, 1) := by decide +kernel
theorem dX5_leavesField_94 : decode cX5_leavesField 94 = .ok (.lload 10, 2) := by decide +kernel
theorem dX5_leavesField_96 : decode cX5_leavesField 96 = .ok (.lconst 1, 1) := by decide +kernel
theorem dX5_leavesField_97 : decode cX5_leavesField 97 = .ok (.ladd, 1) := by decide +kernel
theorem dX5_leavesField_98 : decode cX5_leavesField 98 = .ok (.lstore 10, 2) := by decide +kernel
theorem dX5_leavesField_100 : decode cX5_leavesField 100 = .ok (.goto (-36), 3) := by decide +kernel
theorem dX5_leavesField_103 : decode cX5_leavesField 103 = .ok (.iconst 1, 1) := by decide +kernel
theorem dX5_leavesField_104 : decode cX5_leavesField 104 = .ok (.ireturn, 1) := by decide +kernel
theorem bX5_leavesField_0 {l : Launch} {D : va_G} {aI aL : ClassId} {ad : Nat → Nat} {P : sa_P} {I : sa_I} {J : sa_J} {a1 q1 n1 : Nat} {x2 : Int32} {x3 : Int64} {j3 : Nat} (hq1 : sa_iJ (EC l D aI aL ad) a1 q1 n1) (hn1 : n1 < 2 ^ 31) (e3 : x2 + (4 : Int32) = nI j3) (h4 : j3 < n1)  (kt : ¬ J q1 j3 = x3 → Sat (EC l D aI aL ad) M_X5_leavesField P 14 [(0, .ref (ad 21)), (1, .ref a1), (2, .int x2), (3, .long x3)] [] I J) (kf : J q1 j3 = x3 → Sat (EC l D aI aL ad) M_X5_leavesField P 10 [(0, .ref (ad 21)), (1, .ref a1), (2, .int x2), (3, .long x3)] [] I J) : Sat (EC l D aI aL ad) M_X5_leavesField P 0 [(0, .ref (ad 21)), (1, .ref a1), (2, .int x2), (3, .long x3)] [] I J := by
  refine s_aload_n 1 dX5_leavesField_0 rfl ?_
  refine s_iload_n 2 dX5_leavesField_1 rfl ?_
  refine s_iconst (v := 4) dX5_leavesField_2 rfl ?_
  refine s_iadd dX5_leavesField_3 ?_
  refine s_eqi e3 ?_
  refine s_laloadN hq1 h4 hn1 dX5_leavesField_4 ?_
  refine s_lload_n 3 dX5_leavesField_5 rfl ?_
  refine s_lif_ne (tgt := 14) dX5_leavesField_6 dX5_leavesField_7 (by decide) (fun c => ?_) (fun c => ?_)
  · exact kt c
  · exact kf (by first | exact c | exact Classical.not_not.mp c)
theorem bX5_leavesField_10 {l : Launch} {D : va_G} {aI aL : ClassId} {ad : Nat → Nat} {P : sa_P} {I : sa_I} {J : sa_J} {a1 q1 n1 : Nat} {x2 : Int32} {x3 : Int64} (hq1 : sa_iJ (EC l D aI aL ad) a1 q1 n1) (hn1 : n1 < 2 ^ 31)  (k : Sat (EC l D aI aL ad) M_X5_leavesField P 15 [(0, .ref (ad 21)), (1, .ref a1), (2, .int x2), (3, .long x3)] [.int (1 : Int32)] I J) : Sat (EC l D aI aL ad) M_X5_leavesField P 10 [(0, .ref (ad 21)), (1, .ref a1), (2, .int x2), (3, .long x3)] [] I J := by
  refine s_iconst (v := 1) dX5_leavesField_10 rfl ?_
  refine s_goto (tgt := 15) dX5_leavesField_11 (by decide) ?_
  exact k
theorem bX5_leavesField_14 {l : Launch} {D : va_G} {aI aL : ClassId} {ad : Nat → Nat} {P : sa_P} {I : sa_I} {J : sa_J} {a1 q1 n1 : Nat} {x2 : Int32} {x3 : Int64} (hq1 : sa_iJ (EC l D aI aL ad) a1 q1 n1) (hn1 : n1 < 2 ^ 31)  (k : Sat (EC l D aI aL ad) M_X5_leavesField P 15 [(0, .ref (ad 21)), (1, .ref a1), (2, .int x2), (3, .long x3)] [.int (2 : Int32)] I J) : Sat (EC l D aI aL ad) M_X5_leavesField P 14 [(0, .ref (ad 21)), (1, .ref a1), (2, .int x2), (3, .long x3)] [] I J := by
  refine s_iconst (v := 2) dX5_leavesField_14 rfl ?_
  exact k
theorem bX5_leavesField_15 {l : Launch} {D : va_G} {aI aL : ClassId} {ad : Nat → Nat} {P : sa_P} {I : sa_I} {J : sa_J} {a1 q1 n1 : Nat} {x2 : Int32} {x3 : Int64} {s0 : Int32} (hq1 : sa_iJ (EC l D aI aL ad) a1 q1 n1) (hn1 : n1 < 2 ^ 31)  (k : Sat (EC l D aI aL ad) M_X5_leavesField P 35 [(0, .ref (ad 21)), (3, .long x3), (5, .int s0)] [.int ((12 : Int32) * s0), .ref (ad 8), .int x2, .ref a1, .ref (ad 13)] I J) : Sat (EC l D aI aL ad) M_X5_leavesField P 15 [(0, .ref (ad 21)), (1, .ref a1), (2, .int x2), (3, .long x3)] [.int s0] I J := by
  refine s_istore [(5, .int s0), (0, .ref (ad 21)), (1, .ref a1), (2, .int x2), (3, .long x3)] dX5_leavesField_15 (Nat.lt_of_lt_of_le (Nat.lt_succ_self _) (Nat.le_of_ble_eq_true rfl)) rfl ?_
  refine s_aload_n 1 dX5_leavesField_17 rfl ?_
  refine g_X5_30 dX5_leavesField_18 rfl ?_
  refine s_aload_n 2 dX5_leavesField_21 rfl ?_
  refine s_iload_n 3 dX5_leavesField_22 rfl ?_
  refine s_aload_n 1 dX5_leavesField_23 rfl ?_
  refine g_X5_26 dX5_leavesField_24 rfl ?_
  refine g_X5_98 dX5_leavesField_27 rfl ?_
  refine s_bipush (v := 12) dX5_leavesField_30 rfl ?_
  refine s_iload 0 dX5_leavesField_32 rfl ?_
  refine s_imul dX5_leavesField_34 ?_
  refine s_pick [1, 4, 0] [(0, .ref (ad 21)), (3, .long x3), (5, .int s0)] rfl ?_; exact k
theorem bX5_leavesField_38 {l : Launch} {D : va_G} {aI aL : ClassId} {ad : Nat → Nat} {P : sa_P} {I : sa_I} {J : sa_J} {x3 : Int64} {x5 : Int32} {v47 : Int64} {j56 : Nat} {v59 : Int64} {v62 : Int64} (e56 : x5 = nI j56) (h58 : j56 < 3) (f47 : J 17 0 = v47) (f59 : J 17 j56 = v59) (f62 : (0 : Int64) = v62) (k : Sat (EC l D aI aL ad) M_X5_leavesField P 64 [(3, .long x3), (6, .long v47), (8, .long v59), (10, .long v62)] [] I J) : Sat (EC l D aI aL ad) M_X5_leavesField P 38 [(0, .ref (ad 21)), (3, .long x3), (5, .int x5)] [] I J := by
  refine s_aload_n 0 dX5_leavesField_38 rfl ?_
  refine g_X5_30 dX5_leavesField_39 rfl ?_
  refine g_X5_132 dX5_leavesField_42 rfl ?_
  refine s_iconst (v := 0) dX5_leavesField_45 rfl ?_
  refine s_eqi (y := nI 0) rfl ?_
  refine s_laloadN aJ_C17 (by decide) (by decide) dX5_leavesField_46 ?_
  refine s_eql f47 ?_
  refine s_lstore [(6, .long v47), (0, .ref (ad 21)), (3, .long x3), (5, .int x5)] dX5_leavesField_47 (Nat.lt_of_lt_of_le (Nat.lt_succ_self _) (Nat.le_of_ble_eq_true rfl)) rfl ?_
  refine s_aload_n 1 dX5_leavesField_49 rfl ?_
  refine g_X5_30 dX5_leavesField_50 rfl ?_
  refine g_X5_132 dX5_leavesField_53 rfl ?_
  refine s_iload 3 dX5_leavesField_56 rfl ?_
  refine s_eqi e56 ?_
  refine s_laloadN aJ_C17 h58 (by decide) dX5_leavesField_58 ?_
  refine s_eql f59 ?_
  refine s_lstore [(8, .long v59), (6, .long v47), (0, .ref (ad 21)), (3, .long x3), (5, .int x5)] dX5_leavesField_59 (Nat.lt_of_lt_of_le (Nat.lt_succ_self _) (Nat.le_of_ble_eq_true rfl)) rfl ?_
  refine s_lconst (v := 0) dX5_leavesField_61 rfl ?_
  refine s_eql f62 ?_
  refine s_lstore [(10, .long v62), (8, .long v59), (6, .long v47), (0, .ref (ad 21)), (3, .long x3), (5, .int x5)] dX5_leavesField_62 (Nat.lt_of_lt_of_le (Nat.lt_succ_self _) (Nat.le_of_ble_eq_true rfl)) rfl ?_
  refine s_pick [4, 2, 1, 0] [(3, .long x3), (6, .long v47), (8, .long v59), (10, .long v62)] rfl ?_; exact k
theorem bX5_leavesField_64 {l : Launch} {D : va_G} {aI aL : ClassId} {ad : Nat → Nat} {P : sa_P} {I : sa_I} {J : sa_J} {x3 : Int64} {x6 : Int64} {x8 : Int64} {x10 : Int64}   (kt : x3 ≤ x10 → Sat (EC l D aI aL ad) M_X5_leavesField P 103 [] [] I J) (kf : ¬ x3 ≤ x10 → Sat (EC l D aI aL ad) M_X5_leavesField P 71 [(3, .long x3), (6, .long x6), (8, .long x8), (10, .long x10)] [] I J) : Sat (EC l D aI aL ad) M_X5_leavesField P 64 [(3, .long x3), (6, .long x6), (8, .long x8), (10, .long x10)] [] I J := by
  refine s_lload 3 dX5_leavesField_64 rfl ?_
  refine s_lload_n 0 dX5_leavesField_66 rfl ?_
  refine s_lif_ge (tgt := 103) dX5_leavesField_67 dX5_leavesField_68 (by decide) (fun c => ?_) (fun c => ?_)
  · refine s_pick [] [] rfl ?_; exact kt c
  · exact kf c
theorem bX5_leavesField_71 {l : Launch} {D : va_G} {aI aL : ClassId} {ad : Nat → Nat} {P : sa_P} {I : sa_I} {J : sa_J} {x3 : Int64} {x6 : Int64} {x8 : Int64} {x10 : Int64} (z86 : ¬ x3 = 0)  (kt : ¬ (((x10 * x10) - (x8 * x10)) - x6) - (((x10 * x10) - (x8 * x10)) - x6) / x3 * x3 = (0 : Int64) → Sat (EC l D aI aL ad) M_X5_leavesField P 94 [(3, .long x3), (6, .long x6), (8, .long x8), (10, .long x10)] [] I J) (kf : (((x10 * x10) - (x8 * x10)) - x6) - (((x10 * x10) - (x8 * x10)) - x6) / x3 * x3 = (0 : Int64) → Sat (EC l D aI aL ad) M_X5_leavesField P 92 [] [] I J) : Sat (EC l D aI aL ad) M_X5_leavesField P 71 [(3, .long x3), (6, .long x6), (8, .long x8), (10, .long x10)] [] I J := by
  refine s_lload 3 dX5_leavesField_71 rfl ?_
  refine s_lload 3 dX5_leavesField_73 rfl ?_
  refine s_lmul dX5_leavesField_75 ?_
  refine s_lload 2 dX5_leavesField_76 rfl ?_
  refine s_lload 3 dX5_leavesField_78 rfl ?_
  refine s_lmul dX5_leavesField_80 ?_
  refine s_lsub dX5_leavesField_81 ?_
  refine s_lload 1 dX5_leavesField_82 rfl ?_
  refine s_lsub dX5_leavesField_84 ?_
  refine s_lload_n 0 dX5_leavesField_85 rfl ?_
  refine s_lrem dX5_leavesField_86 z86 ?_
  refine s_lconst (v := 0) dX5_leavesField_87 rfl ?_
  refine s_lif_ne (tgt := 94) dX5_leavesField_88 dX5_leavesField_89 (by decide) (fun c => ?_) (fun c => ?_)
  · exact kt c
  · refine s_pick [] [] rfl ?_; exact kf (by first | exact c | exact Classical.not_not.mp c)
theorem bX5_leavesField_92 {l : Launch} {D : va_G} {aI aL : ClassId} {ad : Nat → Nat} {P : sa_P} {I : sa_I} {J : sa_J}    (k : P (some (.int (0 : Int32))) I J) : Sat (EC l D aI aL ad) M_X5_leavesField P 92 [] [] I J := by
  refine s_iconst (v := 0) dX5_leavesField_92 rfl ?_
  exact s_zret rfl rfl dX5_leavesField_93 k
theorem bX5_leavesField_94 {l : Launch} {D : va_G} {aI aL : ClassId} {ad : Nat → Nat} {P : sa_P} {I : sa_I} {J : sa_J} {x3 : Int64} {x6 : Int64} {x8 : Int64} {x10 : Int64} {v98 : Int64}  (f98 : x10 + (1 : Int64) = v98) (k : Sat (EC l D aI aL ad) M_X5_leavesField P 64 [(3, .long x3), (6, .long x6), (8, .long x8), (10, .long v98)] [] I J) : Sat (EC l D aI aL ad) M_X5_leavesField P 94 [(3, .long x3), (6, .long x6), (8, .long x8), (10, .long x10)] [] I J := by
  refine s_lload 3 dX5_leavesField_94 rfl ?_
  refine s_lconst (v := 1) dX5_leavesField_96 rfl ?_
  refine s_ladd dX5_leavesField_97 ?_
  refine s_eql f98 ?_
  refine s_lstore [(10, .long v98), (3, .long x3), (6, .long x6), (8, .long x8)] dX5_leavesField_98 (Nat.lt_of_lt_of_le (Nat.lt_succ_self _) (Nat.le_of_ble_eq_true rfl)) rfl ?_
  refine s_goto (tgt := 64) dX5_leavesField_100 (by decide) ?_
  refine s_pick [1, 2, 3, 0] [(3, .long x3), (6, .long x6), (8, .long x8), (10, .long v98)] rfl ?_; exact k
theorem bX5_leavesField_103 {l : Launch} {D : va_G} {aI aL : ClassId} {ad : Nat → Nat} {P : sa_P} {I : sa_I} {J : sa_J}    (k : P (some (.int (1 : Int32))) I J) : Sat (EC l D aI aL ad) M_X5_leavesField P 103 [] [] I J := by
  refine s_iconst (v := 1) dX5_leavesField_103 rfl ?_
  exact s_zret rfl rfl dX5_leavesField_104 k
