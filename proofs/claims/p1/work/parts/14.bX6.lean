/-! X6_square -/
theorem dX6_square_0 : decode cX6_square 0 = .ok (.iload_n 1, 1) := by decide +kernel
theorem dX6_square_1 : decode cX6_square 1 = .ok (.bipush (-20), 2) := by decide +kernel
theorem dX6_square_3 : decode cX6_square 3 = .ok (.if_icmp .lt 10, 3) := by decide +kernel
theorem dX6_square_6 : decode cX6_square 6 = .ok (.iload_n 2, 1) := by decide +kernel
theorem dX6_square_7 : decode cX6_square 7 = .ok (.sipush (-200), 3) := by decide +kernel
theorem dX6_square_10 : decode cX6_square 10 = .ok (.if_icmp .ge 10, 3) := by decide +kernel
theorem dX6_square_13 : decode cX6_square 13 = .ok (.aload_n 0, 1) := by decide +kernel
theorem dX6_square_14 : decode cX6_square 14 = .ok (.bipush (-4), 2) := by decide +kernel
theorem dX6_square_16 : decode cX6_square 16 = .ok (.invokevirtual 59, 3) := by decide +kernel
theorem dX6_square_19 : decode cX6_square 19 = .ok (.ireturn, 1) := by decide +kernel
theorem dX6_square_20 : decode cX6_square 20 = .ok (.iload_n 1, 1) := by decide +kernel
theorem dX6_square_21 : decode cX6_square 21 = .ok (.bipush 20, 2) := by decide +kernel
theorem dX6_square_23 : decode cX6_square 23 = .ok (.if_icmp .gt 10, 3) := by decide +kernel
theorem dX6_square_26 : decode cX6_square 26 = .ok (.iload_n 2, 1) := by decide +kernel
theorem dX6_square_27 : decode cX6_square 27 = .ok (.sipush 200, 3) := by decide +kernel
theorem dX6_square_30 : decode cX6_square 30 = .ok (.if_icmp .le 10, 3) := by decide +kernel
theorem dX6_square_33 : decode cX6_square 33 = .ok (.aload_n 0, 1) := by decide +kernel
theorem dX6_square_34 : decode cX6_square 34 = .ok (.bipush (-6), 2) := by decide +kernel
theorem dX6_square_36 : decode cX6_square 36 = .ok (.invokevirtual 59, 3) := by decide +kernel
theorem dX6_square_39 : decode cX6_square 39 = .ok (.ireturn, 1) := by decide +kernel
theorem dX6_square_40 : decode cX6_square 40 = .ok (.iload_n 1, 1) := by decide +kernel
theorem dX6_square_41 : decode cX6_square 41 = .ok (.i2l, 1) := by decide +kernel
theorem dX6_square_42 : decode cX6_square 42 = .ok (.iload_n 1, 1) := by decide +kernel
theorem dX6_square_43 : decode cX6_square 43 = .ok (.i2l, 1) := by decide +kernel
theorem dX6_square_44 : decode cX6_square 44 = .ok (.lmul, 1) := by decide +kernel
theorem dX6_square_45 : decode cX6_square 45 = .ok (.ldc2_w 63, 3) := by decide +kernel
theorem dX6_square_48 : decode cX6_square 48 = .ok (.iload_n 2, 1) := by decide +kernel
theorem dX6_square_49 : decode cX6_square 49 = .ok (.i2l, 1) := by decide +kernel
theorem dX6_square_50 : decode cX6_square 50 = .ok (.lmul, 1) := by decide +kernel
theorem dX6_square_51 : decode cX6_square 51 = .ok (.lsub, 1) := by decide +kernel
theorem dX6_square_52 : decode cX6_square 52 = .ok (.invokestatic 65, 3) := by decide +kernel
theorem dX6_square_55 : decode cX6_square 55 = .ok (.ifCond .eq 10, 3) := by decide +kernel
theorem dX6_square_58 : decode cX6_square 58 = .ok (.aload_n 0, 1) := by decide +kernel
theorem dX6_square_59 : decode cX6_square 59 = .ok (.bipush (-3), 2) := by decide +kernel
theorem dX6_square_61 : decode cX6_square 61 = .ok (.invokevirtual 59, 3) := by decide +kernel
theorem dX6_square_64 : decode cX6_square 64 = .ok (.ireturn, 1) := by decide +kernel
theorem dX6_square_65 : decode cX6_square 65 = .ok (.aload_n 0, 1) := by decide +kernel
theorem dX6_square_66 : decode cX6_square 66 = .ok (.getfield 23, 3) := by decide +kernel
theorem dX6_square_69 : decode cX6_square 69 = .ok (.iload_n 1, 1) := by decide +kernel
theorem dX6_square_70 : decode cX6_square 70 = .ok (.i2l, 1) := by decide +kernel
theorem dX6_square_71 : decode cX6_square 71 = .ok (.iload_n 2, 1) := by decide +kernel
theorem dX6_square_72 : decode cX6_square 72 = .ok (.i2l, 1) := by decide +kernel
theorem dX6_square_73 : decode cX6_square 73 = .ok (.invokevirtual 69, 3) := by decide +kernel
theorem dX6_square_76 : decode cX6_square 76 = .ok (.aload_n 0, 1) := by decide +kernel
theorem dX6_square_77 : decode cX6_square 77 = .ok (.invokevirtual 73, 3) := by decide +kernel
theorem dX6_square_80 : decode cX6_square 80 = .ok (.ireturn, 1) := by decide +kernel
theorem bX6_square_0 {l : Launch} {D : va_G} {aI aL : ClassId} {ad : Nat → Nat} {P : sa_P} {I : sa_I} {J : sa_J} {x1 : Int32} {x2 : Int32}   (kt : x1 < (-20 : Int32) → Sat (EC l D aI aL ad) M_X6_square P 13 [(0, .ref (ad 0))] [] I J) (kf : ¬ x1 < (-20 : Int32) → Sat (EC l D aI aL ad) M_X6_square P 6 [(0, .ref (ad 0)), (1, .int x1), (2, .int x2)] [] I J) : Sat (EC l D aI aL ad) M_X6_square P 0 [(0, .ref (ad 0)), (1, .int x1), (2, .int x2)] [] I J := by
  refine s_iload_n 1 dX6_square_0 rfl ?_
  refine s_bipush (v := -20) dX6_square_1 rfl ?_
  refine s_icmp_lt (tgt := 13) dX6_square_3 (by decide) (fun c => ?_) (fun c => ?_)
  · refine s_pick [0] [(0, .ref (ad 0))] rfl ?_; exact kt c
  · exact kf c
theorem bX6_square_6 {l : Launch} {D : va_G} {aI aL : ClassId} {ad : Nat → Nat} {P : sa_P} {I : sa_I} {J : sa_J} {x1 : Int32} {x2 : Int32}   (kt : (-200 : Int32) ≤ x2 → Sat (EC l D aI aL ad) M_X6_square P 20 [(0, .ref (ad 0)), (1, .int x1), (2, .int x2)] [] I J) (kf : ¬ (-200 : Int32) ≤ x2 → Sat (EC l D aI aL ad) M_X6_square P 13 [(0, .ref (ad 0))] [] I J) : Sat (EC l D aI aL ad) M_X6_square P 6 [(0, .ref (ad 0)), (1, .int x1), (2, .int x2)] [] I J := by
  refine s_iload_n 2 dX6_square_6 rfl ?_
  refine s_sipush (v := -200) dX6_square_7 rfl ?_
  refine s_icmp_ge (tgt := 20) dX6_square_10 (by decide) (fun c => ?_) (fun c => ?_)
  · exact kt c
  · refine s_pick [0] [(0, .ref (ad 0))] rfl ?_; exact kf c
theorem bX6_square_13 {l : Launch} {D : va_G} {aI aL : ClassId} {ad : Nat → Nat} {P : sa_P} {I : sa_I} {J : sa_J}    (k : Sat (EC l D aI aL ad) M_X6_square P 16 [] [.int (-4 : Int32), .ref (ad 0)] I J) : Sat (EC l D aI aL ad) M_X6_square P 13 [(0, .ref (ad 0))] [] I J := by
  refine s_aload_n 0 dX6_square_13 rfl ?_
  refine s_bipush (v := -4) dX6_square_14 rfl ?_
  refine s_pick [] [] rfl ?_; exact k
theorem bX6_square_19 {l : Launch} {D : va_G} {aI aL : ClassId} {ad : Nat → Nat} {P : sa_P} {I : sa_I} {J : sa_J} {s0 : Int32}   (k : P (some (.int s0)) I J) : Sat (EC l D aI aL ad) M_X6_square P 19 [] [.int s0] I J := by
  exact s_iret rfl dX6_square_19 k
theorem bX6_square_20 {l : Launch} {D : va_G} {aI aL : ClassId} {ad : Nat → Nat} {P : sa_P} {I : sa_I} {J : sa_J} {x1 : Int32} {x2 : Int32}   (kt : (20 : Int32) < x1 → Sat (EC l D aI aL ad) M_X6_square P 33 [(0, .ref (ad 0))] [] I J) (kf : ¬ (20 : Int32) < x1 → Sat (EC l D aI aL ad) M_X6_square P 26 [(0, .ref (ad 0)), (1, .int x1), (2, .int x2)] [] I J) : Sat (EC l D aI aL ad) M_X6_square P 20 [(0, .ref (ad 0)), (1, .int x1), (2, .int x2)] [] I J := by
  refine s_iload_n 1 dX6_square_20 rfl ?_
  refine s_bipush (v := 20) dX6_square_21 rfl ?_
  refine s_icmp_gt (tgt := 33) dX6_square_23 (by decide) (fun c => ?_) (fun c => ?_)
  · refine s_pick [0] [(0, .ref (ad 0))] rfl ?_; exact kt c
  · exact kf c
theorem bX6_square_26 {l : Launch} {D : va_G} {aI aL : ClassId} {ad : Nat → Nat} {P : sa_P} {I : sa_I} {J : sa_J} {x1 : Int32} {x2 : Int32}   (kt : x2 ≤ (200 : Int32) → Sat (EC l D aI aL ad) M_X6_square P 40 [(0, .ref (ad 0)), (1, .int x1), (2, .int x2)] [] I J) (kf : ¬ x2 ≤ (200 : Int32) → Sat (EC l D aI aL ad) M_X6_square P 33 [(0, .ref (ad 0))] [] I J) : Sat (EC l D aI aL ad) M_X6_square P 26 [(0, .ref (ad 0)), (1, .int x1), (2, .int x2)] [] I J := by
  refine s_iload_n 2 dX6_square_26 rfl ?_
  refine s_sipush (v := 200) dX6_square_27 rfl ?_
  refine s_icmp_le (tgt := 40) dX6_square_30 (by decide) (fun c => ?_) (fun c => ?_)
  · exact kt c
  · refine s_pick [0] [(0, .ref (ad 0))] rfl ?_; exact kf c
theorem bX6_square_33 {l : Launch} {D : va_G} {aI aL : ClassId} {ad : Nat → Nat} {P : sa_P} {I : sa_I} {J : sa_J}    (k : Sat (EC l D aI aL ad) M_X6_square P 36 [] [.int (-6 : Int32), .ref (ad 0)] I J) : Sat (EC l D aI aL ad) M_X6_square P 33 [(0, .ref (ad 0))] [] I J := by
  refine s_aload_n 0 dX6_square_33 rfl ?_
  refine s_bipush (v := -6) dX6_square_34 rfl ?_
  refine s_pick [] [] rfl ?_; exact k
theorem bX6_square_39 {l : Launch} {D : va_G} {aI aL : ClassId} {ad : Nat → Nat} {P : sa_P} {I : sa_I} {J : sa_J} {s0 : Int32}   (k : P (some (.int s0)) I J) : Sat (EC l D aI aL ad) M_X6_square P 39 [] [.int s0] I J := by
  exact s_iret rfl dX6_square_39 k
theorem bX6_square_40 {l : Launch} {D : va_G} {aI aL : ClassId} {ad : Nat → Nat} {P : sa_P} {I : sa_I} {J : sa_J} {x1 : Int32} {x2 : Int32}   (k : Sat (EC l D aI aL ad) M_X6_square P 52 [(0, .ref (ad 0)), (1, .int x1), (2, .int x2)] [.long ((x1.toInt64 * x1.toInt64) - ((4 : Int64) * x2.toInt64))] I J) : Sat (EC l D aI aL ad) M_X6_square P 40 [(0, .ref (ad 0)), (1, .int x1), (2, .int x2)] [] I J := by
  refine s_iload_n 1 dX6_square_40 rfl ?_
  refine s_i2l dX6_square_41 ?_
  refine s_iload_n 1 dX6_square_42 rfl ?_
  refine s_i2l dX6_square_43 ?_
  refine s_lmul dX6_square_44 ?_
  refine s_ldc2 wk_X6_63 dX6_square_45 ?_
  refine s_iload_n 2 dX6_square_48 rfl ?_
  refine s_i2l dX6_square_49 ?_
  refine s_lmul dX6_square_50 ?_
  refine s_lsub dX6_square_51 ?_
  exact k
theorem bX6_square_55 {l : Launch} {D : va_G} {aI aL : ClassId} {ad : Nat → Nat} {P : sa_P} {I : sa_I} {J : sa_J} {x1 : Int32} {x2 : Int32} {s0 : Int32}   (kt : s0 = 0 → Sat (EC l D aI aL ad) M_X6_square P 65 [(0, .ref (ad 0)), (1, .int x1), (2, .int x2)] [] I J) (kf : ¬ s0 = 0 → Sat (EC l D aI aL ad) M_X6_square P 58 [(0, .ref (ad 0))] [] I J) : Sat (EC l D aI aL ad) M_X6_square P 55 [(0, .ref (ad 0)), (1, .int x1), (2, .int x2)] [.int s0] I J := by
  refine s_if_eq (tgt := 65) dX6_square_55 (by decide) (fun c => ?_) (fun c => ?_)
  · exact kt c
  · refine s_pick [0] [(0, .ref (ad 0))] rfl ?_; exact kf c
theorem bX6_square_58 {l : Launch} {D : va_G} {aI aL : ClassId} {ad : Nat → Nat} {P : sa_P} {I : sa_I} {J : sa_J}    (k : Sat (EC l D aI aL ad) M_X6_square P 61 [] [.int (-3 : Int32), .ref (ad 0)] I J) : Sat (EC l D aI aL ad) M_X6_square P 58 [(0, .ref (ad 0))] [] I J := by
  refine s_aload_n 0 dX6_square_58 rfl ?_
  refine s_bipush (v := -3) dX6_square_59 rfl ?_
  refine s_pick [] [] rfl ?_; exact k
theorem bX6_square_64 {l : Launch} {D : va_G} {aI aL : ClassId} {ad : Nat → Nat} {P : sa_P} {I : sa_I} {J : sa_J} {s0 : Int32}   (k : P (some (.int s0)) I J) : Sat (EC l D aI aL ad) M_X6_square P 64 [] [.int s0] I J := by
  exact s_iret rfl dX6_square_64 k
theorem bX6_square_65 {l : Launch} {D : va_G} {aI aL : ClassId} {ad : Nat → Nat} {P : sa_P} {I : sa_I} {J : sa_J} {x1 : Int32} {x2 : Int32}   (k : Sat (EC l D aI aL ad) M_X6_square P 73 [(0, .ref (ad 0))] [.long x2.toInt64, .long x1.toInt64, .ref (ad 4)] I J) : Sat (EC l D aI aL ad) M_X6_square P 65 [(0, .ref (ad 0)), (1, .int x1), (2, .int x2)] [] I J := by
  refine s_aload_n 0 dX6_square_65 rfl ?_
  refine g_X6_23 dX6_square_66 rfl ?_
  refine s_iload_n 1 dX6_square_69 rfl ?_
  refine s_i2l dX6_square_70 ?_
  refine s_iload_n 2 dX6_square_71 rfl ?_
  refine s_i2l dX6_square_72 ?_
  refine s_pick [0] [(0, .ref (ad 0))] rfl ?_; exact k
theorem bX6_square_76 {l : Launch} {D : va_G} {aI aL : ClassId} {ad : Nat → Nat} {P : sa_P} {I : sa_I} {J : sa_J}    (k : Sat (EC l D aI aL ad) M_X6_square P 77 [] [.ref (ad 0)] I J) : Sat (EC l D aI aL ad) M_X6_square P 76 [(0, .ref (ad 0))] [] I J := by
  refine s_aload_n 0 dX6_square_76 rfl ?_
  refine s_pick [] [] rfl ?_; exact k
theorem bX6_square_80 {l : Launch} {D : va_G} {aI aL : ClassId} {ad : Nat → Nat} {P : sa_P} {I : sa_I} {J : sa_J} {s0 : Int32}   (k : P (some (.int s0)) I J) : Sat (EC l D aI aL ad) M_X6_square P 80 [] [.int s0] I J := by
  exact s_iret rfl dX6_square_80 k
/-! X6_cube -/
theorem dX6_cube_0 : decode cX6_cube 0 = .ok (.iload_n 1, 1) := by decide +kernel
theorem dX6_cube_1 : decode cX6_cube 1 = .ok (.bipush (-3), 2) := by decide +kernel
theorem dX6_cube_3 : decode cX6_cube 3 = .ok (.if_icmp .lt 15, 3) := by decide +kernel
theorem dX6_cube_6 : decode cX6_cube 6 = .ok (.iload_n 2, 1) := by decide +kernel
theorem dX6_cube_7 : decode cX6_cube 7 = .ok (.bipush (-9), 2) := by decide +kernel
theorem dX6_cube_9 : decode cX6_cube 9 = .ok (.if_icmp .lt 9, 3) := by decide +kernel
theorem dX6_cube_12 : decode cX6_cube 12 = .ok (.iload_n 3, 1) := by decide +kernel
theorem dX6_cube_13 : decode cX6_cube 13 = .ok (.bipush (-9), 2) := by decide +kernel
theorem dX6_cube_15 : decode cX6_cube 15 = .ok (.if_icmp .ge 10, 3) := by decide +kernel
theorem dX6_cube_18 : decode cX6_cube 18 = .ok (.aload_n 0, 1) := by decide +kernel
theorem dX6_cube_19 : decode cX6_cube 19 = .ok (.bipush (-4), 2) := by decide +kernel
theorem dX6_cube_21 : decode cX6_cube 21 = .ok (.invokevirtual 59, 3) := by decide +kernel
theorem dX6_cube_24 : decode cX6_cube 24 = .ok (.ireturn, 1) := by decide +kernel
theorem dX6_cube_25 : decode cX6_cube 25 = .ok (.iload_n 1, 1) := by decide +kernel
theorem dX6_cube_26 : decode cX6_cube 26 = .ok (.iconst 3, 1) := by decide +kernel
theorem dX6_cube_27 : decode cX6_cube 27 = .ok (.if_icmp .gt 15, 3) := by decide +kernel
theorem dX6_cube_30 : decode cX6_cube 30 = .ok (.iload_n 2, 1) := by decide +kernel
theorem dX6_cube_31 : decode cX6_cube 31 = .ok (.bipush 9, 2) := by decide +kernel
theorem dX6_cube_33 : decode cX6_cube 33 = .ok (.if_icmp .gt 9, 3) := by decide +kernel
theorem dX6_cube_36 : decode cX6_cube 36 = .ok (.iload_n 3, 1) := by decide +kernel
theorem dX6_cube_37 : decode cX6_cube 37 = .ok (.bipush 9, 2) := by decide +kernel
theorem dX6_cube_39 : decode cX6_cube 39 = .ok (.if_icmp .le 10, 3) := by decide +kernel
theorem dX6_cube_42 : decode cX6_cube 42 = .ok (.aload_n 0, 1) := by decide +kernel
theorem dX6_cube_43 : decode cX6_cube 43 = .ok (.bipush (-6), 2) := by decide +kernel
theorem dX6_cube_45 : decode cX6_cube 45 = .ok (.invokevirtual 59, 3) := by decide +kernel
theorem dX6_cube_48 : decode cX6_cube 48 = .ok (.ireturn, 1) := by decide +kernel
theorem dX6_cube_49 : decode cX6_cube 49 = .ok (.iload_n 1, 1) := by decide +kernel
theorem dX6_cube_50 : decode cX6_cube 50 = .ok (.iload_n 2, 1) := by decide +kernel
theorem dX6_cube_51 : decode cX6_cube 51 = .ok (.iload_n 3, 1) := by decide +kernel
theorem dX6_cube_52 : decode cX6_cube 52 = .ok (.invokestatic 77, 3) := by decide +kernel
theorem dX6_cube_55 : decode cX6_cube 55 = .ok (.ifCond .eq 10, 3) := by decide +kernel
theorem dX6_cube_58 : decode cX6_cube 58 = .ok (.aload_n 0, 1) := by decide +kernel
theorem dX6_cube_59 : decode cX6_cube 59 = .ok (.bipush (-3), 2) := by decide +kernel
theorem dX6_cube_61 : decode cX6_cube 61 = .ok (.invokevirtual 59, 3) := by decide +kernel
theorem dX6_cube_64 : decode cX6_cube 64 = .ok (.ireturn, 1) := by decide +kernel
theorem dX6_cube_65 : decode cX6_cube 65 = .ok (.aload_n 0, 1) := by decide +kernel
theorem dX6_cube_66 : decode cX6_cube 66 = .ok (.getfield 23, 3) := by decide +kernel
theorem dX6_cube_69 : decode cX6_cube 69 = .ok (.iload_n 1, 1) := by decide +kernel
theorem dX6_cube_70 : decode cX6_cube 70 = .ok (.i2l, 1) := by decide +kernel
theorem dX6_cube_71 : decode cX6_cube 71 = .ok (.iload_n 2, 1) := by decide +kernel
theorem dX6_cube_72 : decode cX6_cube 72 = .ok (.i2l, 1) := by decide +kernel
theorem dX6_cube_73 : decode cX6_cube 73 = .ok (.iload_n 3, 1) := by decide +kernel
theorem dX6_cube_74 : decode cX6_cube 74 = .ok (.i2l, 1) := by decide +kernel
theorem dX6_cube_75 : decode cX6_cube 75 = .ok (.invokevirtual 81, 3) := by decide +kernel
theorem dX6_cube_78 : decode cX6_cube 78 = .ok (.aload_n 0, 1) := by decide +kernel
theorem dX6_cube_79 : decode cX6_cube 79 = .ok (.invokevirtual 73, 3) := by decide +kernel
theorem dX6_cube_82 : decode cX6_cube 82 = .ok (.ireturn, 1) := by decide +kernel
theorem bX6_cube_0 {l : Launch} {D : va_G} {aI aL : ClassId} {ad : Nat → Nat} {P : sa_P} {I : sa_I} {J : sa_J} {x1 : Int32} {x2 : Int32} {x3 : Int32}   (kt : x1 < (-3 : Int32) → Sat (EC l D aI aL ad) M_X6_cube P 18 [(0, .ref (ad 0))] [] I J) (kf : ¬ x1 < (-3 : Int32) → Sat (EC l D aI aL ad) M_X6_cube P 6 [(0, .ref (ad 0)), (1, .int x1), (2, .int x2), (3, .int x3)] [] I J) : Sat (EC l D aI aL ad) M_X6_cube P 0 [(0, .ref (ad 0)), (1, .int x1), (2, .int x2), (3, .int x3)] [] I J := by
  refine s_iload_n 1 dX6_cube_0 rfl ?_
  refine s_bipush (v := -3) dX6_cube_1 rfl ?_
  refine s_icmp_lt (tgt := 18) dX6_cube_3 (by decide) (fun c => ?_) (fun c => ?_)
  · refine s_pick [0] [(0, .ref (ad 0))] rfl ?_; exact kt c
  · exact kf c
theorem bX6_cube_6 {l : Launch} {D : va_G} {aI aL : ClassId} {ad : Nat → Nat} {P : sa_P} {I : sa_I} {J : sa_J} {x1 : Int32} {x2 : Int32} {x3 : Int32}   (kt : x2 < (-9 : Int32) → Sat (EC l D aI aL ad) M_X6_cube P 18 [(0, .ref (ad 0))] [] I J) (kf : ¬ x2 < (-9 : Int32) → Sat (EC l D aI aL ad) M_X6_cube P 12 [(0, .ref (ad 0)), (1, .int x1), (2, .int x2), (3, .int x3)] [] I J) : Sat (EC l D aI aL ad) M_X6_cube P 6 [(0, .ref (ad 0)), (1, .int x1), (2, .int x2), (3, .int x3)] [] I J := by
  refine s_iload_n 2 dX6_cube_6 rfl ?_
  refine s_bipush (v := -9) dX6_cube_7 rfl ?_
  refine s_icmp_lt (tgt := 18) dX6_cube_9 (by decide) (fun c => ?_) (fun c => ?_)
  · refine s_pick [0] [(0, .ref (ad 0))] rfl ?_; exact kt c
  · exact kf c
theorem bX6_cube_12 {l : Launch} {D : va_G} {aI aL : ClassId} {ad : Nat → Nat} {P : sa_P} {I : sa_I} {J : sa_J} {x1 : Int32} {x2 : Int32} {x3 : Int32}   (kt : (-9 : Int32) ≤ x3 → Sat (EC l D aI aL ad) M_X6_cube P 25 [(0, .ref (ad 0)), (1, .int x1), (2, .int x2), (3, .int x3)] [] I J) (kf : ¬ (-9 : Int32) ≤ x3 → Sat (EC l D aI aL ad) M_X6_cube P 18 [(0, .ref (ad 0))] [] I J) : Sat (EC l D aI aL ad) M_X6_cube P 12 [(0, .ref (ad 0)), (1, .int x1), (2, .int x2), (3, .int x3)] [] I J := by
  refine s_iload_n 3 dX6_cube_12 rfl ?_
  refine s_bipush (v := -9) dX6_cube_13 rfl ?_
  refine s_icmp_ge (tgt := 25) dX6_cube_15 (by decide) (fun c => ?_) (fun c => ?_)
  · exact kt c
  · refine s_pick [0] [(0, .ref (ad 0))] rfl ?_; exact kf c
theorem bX6_cube_18 {l : Launch} {D : va_G} {aI aL : ClassId} {ad : Nat → Nat} {P : sa_P} {I : sa_I} {J : sa_J}    (k : Sat (EC l D aI aL ad) M_X6_cube P 21 [] [.int (-4 : Int32), .ref (ad 0)] I J) : Sat (EC l D aI aL ad) M_X6_cube P 18 [(0, .ref (ad 0))] [] I J := by
  refine s_aload_n 0 dX6_cube_18 rfl ?_
  refine s_bipush (v := -4) dX6_cube_19 rfl ?_
  refine s_pick [] [] rfl ?_; exact k
theorem bX6_cube_24 {l : Launch} {D : va_G} {aI aL : ClassId} {ad : Nat → Nat} {P : sa_P} {I : sa_I} {J : sa_J} {s0 : Int32}   (k : P (some (.int s0)) I J) : Sat (EC l D aI aL ad) M_X6_cube P 24 [] [.int s0] I J := by
  exact s_iret rfl dX6_cube_24 k
theorem bX6_cube_25 {l : Launch} {D : va_G} {aI aL : ClassId} {ad : Nat → Nat} {P : sa_P} {I : sa_I} {J : sa_J} {x1 : Int32} {x2 : Int32} {x3 : Int32}   (kt : (3 : Int32) < x1 → Sat (EC l D aI aL ad) M_X6_cube P 42 [(0, .ref (ad 0))] [] I J) (kf : ¬ (3 : Int32) < x1 → Sat (EC l D aI aL ad) M_X6_cube P 30 [(0, .ref (ad 0)), (1, .int x1), (2, .int x2), (3, .int x3)] [] I J) : Sat (EC l D aI aL ad) M_X6_cube P 25 [(0, .ref (ad 0)), (1, .int x1), (2, .int x2), (3, .int x3)] [] I J := by
  refine s_iload_n 1 dX6_cube_25 rfl ?_
  refine s_iconst (v := 3) dX6_cube_26 rfl ?_
  refine s_icmp_gt (tgt := 42) dX6_cube_27 (by decide) (fun c => ?_) (fun c => ?_)
  · refine s_pick [0] [(0, .ref (ad 0))] rfl ?_; exact kt c
  · exact kf c
theorem bX6_cube_30 {l : Launch} {D : va_G} {aI aL : ClassId} {ad : Nat → Nat} {P : sa_P} {I : sa_I} {J : sa_J} {x1 : Int32} {x2 : Int32} {x3 : Int32}   (kt : (9 : Int32) < x2 → Sat (EC l D aI aL ad) M_X6_cube P 42 [(0, .ref (ad 0))] [] I J) (kf : ¬ (9 : Int32) < x2 → Sat (EC l D aI aL ad) M_X6_cube P 36 [(0, .ref (ad 0)), (1, .int x1), (2, .int x2), (3, .int x3)] [] I J) : Sat (EC l D aI aL ad) M_X6_cube P 30 [(0, .ref (ad 0)), (1, .int x1), (2, .int x2), (3, .int x3)] [] I J := by
  refine s_iload_n 2 dX6_cube_30 rfl ?_
  refine s_bipush (v := 9) dX6_cube_31 rfl ?_
  refine s_icmp_gt (tgt := 42) dX6_cube_33 (by decide) (fun c => ?_) (fun c => ?_)
  · refine s_pick [0] [(0, .ref (ad 0))] rfl ?_; exact kt c
  · exact kf c
theorem bX6_cube_36 {l : Launch} {D : va_G} {aI aL : ClassId} {ad : Nat → Nat} {P : sa_P} {I : sa_I} {J : sa_J} {x1 : Int32} {x2 : Int32} {x3 : Int32}   (kt : x3 ≤ (9 : Int32) → Sat (EC l D aI aL ad) M_X6_cube P 49 [(0, .ref (ad 0)), (1, .int x1), (2, .int x2), (3, .int x3)] [] I J) (kf : ¬ x3 ≤ (9 : Int32) → Sat (EC l D aI aL ad) M_X6_cube P 42 [(0, .ref (ad 0))] [] I J) : Sat (EC l D aI aL ad) M_X6_cube P 36 [(0, .ref (ad 0)), (1, .int x1), (2, .int x2), (3, .int x3)] [] I J := by
  refine s_iload_n 3 dX6_cube_36 rfl ?_
  refine s_bipush (v := 9) dX6_cube_37 rfl ?_
  refine s_icmp_le (tgt := 49) dX6_cube_39 (by decide) (fun c => ?_) (fun c => ?_)
  · exact kt c
  · refine s_pick [0] [(0, .ref (ad 0))] rfl ?_; exact kf c
theorem bX6_cube_42 {l : Launch} {D : va_G} {aI aL : ClassId} {ad : Nat → Nat} {P : sa_P} {I : sa_I} {J : sa_J}    (k : Sat (EC l D aI aL ad) M_X6_cube P 45 [] [.int (-6 : Int32), .ref (ad 0)] I J) : Sat (EC l D aI aL ad) M_X6_cube P 42 [(0, .ref (ad 0))] [] I J := by
  refine s_aload_n 0 dX6_cube_42 rfl ?_
  refine s_bipush (v := -6) dX6_cube_43 rfl ?_
  refine s_pick [] [] rfl ?_; exact k
theorem bX6_cube_48 {l : Launch} {D : va_G} {aI aL : ClassId} {ad : Nat → Nat} {P : sa_P} {I : sa_I} {J : sa_J} {s0 : Int32}   (k : P (some (.int s0)) I J) : Sat (EC l D aI aL ad) M_X6_cube P 48 [] [.int s0] I J := by
  exact s_iret rfl dX6_cube_48 k
theorem bX6_cube_49 {l : Launch} {D : va_G} {aI aL : ClassId} {ad : Nat → Nat} {P : sa_P} {I : sa_I} {J : sa_J} {x1 : Int32} {x2 : Int32} {x3 : Int32}   (k : Sat (EC l D aI aL ad) M_X6_cube P 52 [(0, .ref (ad 0)), (1, .int x1), (2, .int x2), (3, .int x3)] [.int x3, .int x2, .int x1] I J) : Sat (EC l D aI aL ad) M_X6_cube P 49 [(0, .ref (ad 0)), (1, .int x1), (2, .int x2), (3, .int x3)] [] I J := by
  refine s_iload_n 1 dX6_cube_49 rfl ?_
  refine s_iload_n 2 dX6_cube_50 rfl ?_
  refine s_iload_n 3 dX6_cube_51 rfl ?_
  exact k
theorem bX6_cube_55 {l : Launch} {D : va_G} {aI aL : ClassId} {ad : Nat → Nat} {P : sa_P} {I : sa_I} {J : sa_J} {x1 : Int32} {x2 : Int32} {x3 : Int32} {s0 : Int32}   (kt : s0 = 0 → Sat (EC l D aI aL ad) M_X6_cube P 65 [(0, .ref (ad 0)), (1, .int x1), (2, .int x2), (3, .int x3)] [] I J) (kf : ¬ s0 = 0 → Sat (EC l D aI aL ad) M_X6_cube P 58 [(0, .ref (ad 0))] [] I J) : Sat (EC l D aI aL ad) M_X6_cube P 55 [(0, .ref (ad 0)), (1, .int x1), (2, .int x2), (3, .int x3)] [.int s0] I J := by
  refine s_if_eq (tgt := 65) dX6_cube_55 (by decide) (fun c => ?_) (fun c => ?_)
  · exact kt c
  · refine s_pick [0] [(0, .ref (ad 0))] rfl ?_; exact kf c
theorem bX6_cube_58 {l : Launch} {D : va_G} {aI aL : ClassId} {ad : Nat → Nat} {P : sa_P} {I : sa_I} {J : sa_J}    (k : Sat (EC l D aI aL ad) M_X6_cube P 61 [] [.int (-3 : Int32), .ref (ad 0)] I J) : Sat (EC l D aI aL ad) M_X6_cube P 58 [(0, .ref (ad 0))] [] I J := by
  refine s_aload_n 0 dX6_cube_58 rfl ?_
  refine s_bipush (v := -3) dX6_cube_59 rfl ?_
  refine s_pick [] [] rfl ?_; exact k
theorem bX6_cube_64 {l : Launch} {D : va_G} {aI aL : ClassId} {ad : Nat → Nat} {P : sa_P} {I : sa_I} {J : sa_J} {s0 : Int32}   (k : P (some (.int s0)) I J) : Sat (EC l D aI aL ad) M_X6_cube P 64 [] [.int s0] I J := by
  exact s_iret rfl dX6_cube_64 k
theorem bX6_cube_65 {l : Launch} {D : va_G} {aI aL : ClassId} {ad : Nat → Nat} {P : sa_P} {I : sa_I} {J : sa_J} {x1 : Int32} {x2 : Int32} {x3 : Int32}   (k : Sat (EC l D aI aL ad) M_X6_cube P 75 [(0, .ref (ad 0))] [.long x3.toInt64, .long x2.toInt64, .long x1.toInt64, .ref (ad 4)] I J) : Sat (EC l D aI aL ad) M_X6_cube P 65 [(0, .ref (ad 0)), (1, .int x1), (2, .int x2), (3, .int x3)] [] I J := by
  refine s_aload_n 0 dX6_cube_65 rfl ?_
  refine g_X6_23 dX6_cube_66 rfl ?_
  refine s_iload_n 1 dX6_cube_69 rfl ?_
  refine s_i2l dX6_cube_70 ?_
  refine s_iload_n 2 dX6_cube_71 rfl ?_
  refine s_i2l dX6_cube_72 ?_
  refine s_iload_n 3 dX6_cube_73 rfl ?_
  refine s_i2l dX6_cube_74 ?_
  refine s_pick [0] [(0, .ref (ad 0))] rfl ?_; exact k
theorem bX6_cube_78 {l : Launch} {D : va_G} {aI aL : ClassId} {ad : Nat → Nat} {P : sa_P} {I : sa_I} {J : sa_J}    (k : Sat (EC l D aI aL ad) M_X6_cube P 79 [] [.ref (ad 0)] I J) : Sat (EC l D aI aL ad) M_X6_cube P 78 [(0, .ref (ad 0))] [] I J := by
  refine s_aload_n 0 dX6_cube_78 rfl ?_
  refine s_pick [] [] rfl ?_; exact k
theorem bX6_cube_82 {l : Launch} {D : va_G} {aI aL : ClassId} {ad : Nat → Nat} {P : sa_P} {I : sa_I} {J : sa_J} {s0 : Int32}   (k : P (some (.int s0)) I J) : Sat (EC l D aI aL ad) M_X6_cube P 82 [] [.int s0] I J := by
  exact s_iret rfl dX6_cube_82 k
/-! X6_field -/
theorem dX6_field_0 : decode cX6_field 0 = .ok (.aload_n 0, 1) := by decide +kernel
theorem dX6_field_1 : decode cX6_field 1 = .ok (.getfield 23, 3) := by decide +kernel
theorem dX6_field_4 : decode cX6_field 4 = .ok (.getfield 85, 3) := by decide +kernel
theorem dX6_field_7 : decode cX6_field 7 = .ok (.ifCond .ne 10, 3) := by decide +kernel
theorem dX6_field_10 : decode cX6_field 10 = .ok (.aload_n 0, 1) := by decide +kernel
theorem dX6_field_11 : decode cX6_field 11 = .ok (.bipush (-3), 2) := by decide +kernel
theorem dX6_field_13 : decode cX6_field 13 = .ok (.invokevirtual 59, 3) := by decide +kernel
theorem dX6_field_16 : decode cX6_field 16 = .ok (.ireturn, 1) := by decide +kernel
theorem dX6_field_17 : decode cX6_field 17 = .ok (.iload_n 1, 1) := by decide +kernel
theorem dX6_field_18 : decode cX6_field 18 = .ok (.tableswitch 83 0 3 #[30, 38, 47, 55], 30) := by decide +kernel
theorem dX6_field_48 : decode cX6_field 48 = .ok (.aload_n 0, 1) := by decide +kernel
theorem dX6_field_49 : decode cX6_field 49 = .ok (.getfield 23, 3) := by decide +kernel
theorem dX6_field_52 : decode cX6_field 52 = .ok (.getfield 85, 3) := by decide +kernel
theorem dX6_field_55 : decode cX6_field 55 = .ok (.ireturn, 1) := by decide +kernel
theorem dX6_field_56 : decode cX6_field 56 = .ok (.aload_n 0, 1) := by decide +kernel
theorem dX6_field_57 : decode cX6_field 57 = .ok (.getfield 23, 3) := by decide +kernel
theorem dX6_field_60 : decode cX6_field 60 = .ok (.getfield 89, 3) := by decide +kernel
theorem dX6_field_63 : decode cX6_field 63 = .ok (.l2i, 1) := by decide +kernel
theorem dX6_field_64 : decode cX6_field 64 = .ok (.ireturn, 1) := by decide +kernel
theorem dX6_field_65 : decode cX6_field 65 = .ok (.aload_n 0, 1) := by decide +kernel
theorem dX6_field_66 : decode cX6_field 66 = .ok (.getfield 23, 3) := by decide +kernel
theorem dX6_field_69 : decode cX6_field 69 = .ok (.invokevirtual 93, 3) := by decide +kernel
theorem dX6_field_72 : decode cX6_field 72 = .ok (.ireturn, 1) := by decide +kernel
theorem dX6_field_73 : decode cX6_field 73 = .ok (.aload_n 0, 1) := by decide +kernel
theorem dX6_field_74 : decode cX6_field 74 = .ok (.getfield 23, 3) := by decide +kernel
theorem dX6_field_77 : decode cX6_field 77 = .ok (.invokevirtual 93, 3) := by decide +kernel
theorem dX6_field_80 : decode cX6_field 80 = .ok (.aload_n 0, 1) := by decide +kernel
theorem dX6_field_81 : decode cX6_field 81 = .ok (.getfield 23, 3) := by decide +kernel
theorem dX6_field_84 : decode cX6_field 84 = .ok (.getfield 85, 3) := by decide +kernel
theorem dX6_field_87 : decode cX6_field 87 = .ok (.aload_n 0, 1) := by decide +kernel
theorem dX6_field_88 : decode cX6_field 88 = .ok (.getfield 23, 3) := by decide +kernel
theorem dX6_field_91 : decode cX6_field 91 = .ok (.invokevirtual 93, 3) := by decide +kernel
theorem dX6_field_94 : decode cX6_field 94 = .ok (.isub, 1) := by decide +kernel
theorem dX6_field_95 : decode cX6_field 95 = .ok (.iconst 2, 1) := by decide +kernel
theorem dX6_field_96 : decode cX6_field 96 = .ok (.idiv, 1) := by decide +kernel
theorem dX6_field_97 : decode cX6_field 97 = .ok (.iadd, 1) := by decide +kernel
theorem dX6_field_98 : decode cX6_field 98 = .ok (.iconst 1, 1) := by decide +kernel
theorem dX6_field_99 : decode cX6_field 99 = .ok (.isub, 1) := by decide +kernel
theorem dX6_field_100 : decode cX6_field 100 = .ok (.ireturn, 1) := by decide +kernel
theorem dX6_field_101 : decode cX6_field 101 = .ok (.aload_n 0, 1) := by decide +kernel
theorem dX6_field_102 : decode cX6_field 102 = .ok (.bipush (-2), 2) := by decide +kernel
theorem dX6_field_104 : decode cX6_field 104 = .ok (.invokevirtual 59, 3) := by decide +kernel
theorem dX6_field_107 : decode cX6_field 107 = .ok (.ireturn, 1) := by decide +kernel
theorem bX6_field_0 {l : Launch} {D : va_G} {aI aL : ClassId} {ad : Nat → Nat} {P : sa_P} {I : sa_I} {J : sa_J} {x1 : Int32}   (kt : ¬ I 4 0 = 0 → Sat (EC l D aI aL ad) M_X6_field P 17 [(0, .ref (ad 0)), (1, .int x1)] [] I J) (kf : I 4 0 = 0 → Sat (EC l D aI aL ad) M_X6_field P 10 [(0, .ref (ad 0))] [] I J) : Sat (EC l D aI aL ad) M_X6_field P 0 [(0, .ref (ad 0)), (1, .int x1)] [] I J := by
  refine s_aload_n 0 dX6_field_0 rfl ?_
  refine g_X6_23 dX6_field_1 rfl ?_
  refine g_X6_85 dX6_field_4 rfl ?_
  refine s_if_ne (tgt := 17) dX6_field_7 (by decide) (fun c => ?_) (fun c => ?_)
  · exact kt c
  · refine s_pick [0] [(0, .ref (ad 0))] rfl ?_; exact kf (by first | exact c | exact Classical.not_not.mp c)
theorem bX6_field_10 {l : Launch} {D : va_G} {aI aL : ClassId} {ad : Nat → Nat} {P : sa_P} {I : sa_I} {J : sa_J}    (k : Sat (EC l D aI aL ad) M_X6_field P 13 [] [.int (-3 : Int32), .ref (ad 0)] I J) : Sat (EC l D aI aL ad) M_X6_field P 10 [(0, .ref (ad 0))] [] I J := by
  refine s_aload_n 0 dX6_field_10 rfl ?_
  refine s_bipush (v := -3) dX6_field_11 rfl ?_
  refine s_pick [] [] rfl ?_; exact k
theorem bX6_field_16 {l : Launch} {D : va_G} {aI aL : ClassId} {ad : Nat → Nat} {P : sa_P} {I : sa_I} {J : sa_J} {s0 : Int32}   (k : P (some (.int s0)) I J) : Sat (EC l D aI aL ad) M_X6_field P 16 [] [.int s0] I J := by
  exact s_iret rfl dX6_field_16 k
theorem bX6_field_17 {l : Launch} {D : va_G} {aI aL : ClassId} {ad : Nat → Nat} {P : sa_P} {I : sa_I} {J : sa_J} {x1 : Int32}   (k0 : x1 = 0 → Sat (EC l D aI aL ad) M_X6_field P 48 [(0, .ref (ad 0))] [] I J) (k1 : x1 = 1 → Sat (EC l D aI aL ad) M_X6_field P 56 [(0, .ref (ad 0))] [] I J) (k2 : x1 = 2 → Sat (EC l D aI aL ad) M_X6_field P 65 [(0, .ref (ad 0))] [] I J) (k3 : x1 = 3 → Sat (EC l D aI aL ad) M_X6_field P 73 [(0, .ref (ad 0))] [] I J) (kd : (x1.toInt < 0 ∨ 3 < x1.toInt) → Sat (EC l D aI aL ad) M_X6_field P 101 [(0, .ref (ad 0))] [] I J) : Sat (EC l D aI aL ad) M_X6_field P 17 [(0, .ref (ad 0)), (1, .int x1)] [] I J := by
  refine s_iload_n 1 dX6_field_17 rfl ?_
  by_cases hlo : (x1).toInt < 0
  · refine s_tableOut (tgt := 101) dX6_field_18 (Or.inl hlo) (by decide) ?_; refine s_pick [0] [(0, .ref (ad 0))] rfl ?_; exact kd (Or.inl hlo)
  by_cases hhi : 3 < (x1).toInt
  · refine s_tableOut (tgt := 101) dX6_field_18 (Or.inr hhi) (by decide) ?_; refine s_pick [0] [(0, .ref (ad 0))] rfl ?_; exact kd (Or.inr hhi)
  obtain hx | hx | hx | hx : x1 = 0 ∨ x1 = 1 ∨ x1 = 2 ∨ x1 = 3 := by
    have hh : (x1).toInt = 0 ∨ (x1).toInt = 1 ∨ (x1).toInt = 2 ∨ (x1).toInt = 3 := by omega
    simpa [← Int32.toInt_inj] using hh
  · have e1 : (x1).toInt = 0 := by rw [hx]; rfl
    refine s_tableIn (tgt := 48) dX6_field_18 hlo hhi (off := 30) (by rw [e1]; rfl) (by decide) ?_; refine s_pick [0] [(0, .ref (ad 0))] rfl ?_; exact k0 hx
  · have e1 : (x1).toInt = 1 := by rw [hx]; rfl
    refine s_tableIn (tgt := 56) dX6_field_18 hlo hhi (off := 38) (by rw [e1]; rfl) (by decide) ?_; refine s_pick [0] [(0, .ref (ad 0))] rfl ?_; exact k1 hx
  · have e1 : (x1).toInt = 2 := by rw [hx]; rfl
    refine s_tableIn (tgt := 65) dX6_field_18 hlo hhi (off := 47) (by rw [e1]; rfl) (by decide) ?_; refine s_pick [0] [(0, .ref (ad 0))] rfl ?_; exact k2 hx
  · have e1 : (x1).toInt = 3 := by rw [hx]; rfl
    refine s_tableIn (tgt := 73) dX6_field_18 hlo hhi (off := 55) (by rw [e1]; rfl) (by decide) ?_; refine s_pick [0] [(0, .ref (ad 0))] rfl ?_; exact k3 hx
theorem bX6_field_48 {l : Launch} {D : va_G} {aI aL : ClassId} {ad : Nat → Nat} {P : sa_P} {I : sa_I} {J : sa_J}    (k : P (some (.int (I 4 0))) I J) : Sat (EC l D aI aL ad) M_X6_field P 48 [(0, .ref (ad 0))] [] I J := by
  refine s_aload_n 0 dX6_field_48 rfl ?_
  refine g_X6_23 dX6_field_49 rfl ?_
  refine g_X6_85 dX6_field_52 rfl ?_
  exact s_iret rfl dX6_field_55 k
theorem bX6_field_56 {l : Launch} {D : va_G} {aI aL : ClassId} {ad : Nat → Nat} {P : sa_P} {I : sa_I} {J : sa_J}    (k : P (some (.int ((J 4 3).toInt32))) I J) : Sat (EC l D aI aL ad) M_X6_field P 56 [(0, .ref (ad 0))] [] I J := by
  refine s_aload_n 0 dX6_field_56 rfl ?_
  refine g_X6_23 dX6_field_57 rfl ?_
  refine g_X6_89 dX6_field_60 rfl ?_
  refine s_l2i dX6_field_63 ?_
  exact s_iret rfl dX6_field_64 k
theorem bX6_field_65 {l : Launch} {D : va_G} {aI aL : ClassId} {ad : Nat → Nat} {P : sa_P} {I : sa_I} {J : sa_J}    (k : Sat (EC l D aI aL ad) M_X6_field P 69 [] [.ref (ad 4)] I J) : Sat (EC l D aI aL ad) M_X6_field P 65 [(0, .ref (ad 0))] [] I J := by
  refine s_aload_n 0 dX6_field_65 rfl ?_
  refine g_X6_23 dX6_field_66 rfl ?_
  refine s_pick [] [] rfl ?_; exact k
theorem bX6_field_72 {l : Launch} {D : va_G} {aI aL : ClassId} {ad : Nat → Nat} {P : sa_P} {I : sa_I} {J : sa_J} {s0 : Int32}   (k : P (some (.int s0)) I J) : Sat (EC l D aI aL ad) M_X6_field P 72 [] [.int s0] I J := by
  exact s_iret rfl dX6_field_72 k
theorem bX6_field_73 {l : Launch} {D : va_G} {aI aL : ClassId} {ad : Nat → Nat} {P : sa_P} {I : sa_I} {J : sa_J}    (k : Sat (EC l D aI aL ad) M_X6_field P 77 [(0, .ref (ad 0))] [.ref (ad 4)] I J) : Sat (EC l D aI aL ad) M_X6_field P 73 [(0, .ref (ad 0))] [] I J := by
  refine s_aload_n 0 dX6_field_73 rfl ?_
  refine g_X6_23 dX6_field_74 rfl ?_
  exact k
theorem bX6_field_80 {l : Launch} {D : va_G} {aI aL : ClassId} {ad : Nat → Nat} {P : sa_P} {I : sa_I} {J : sa_J} {s0 : Int32}   (k : Sat (EC l D aI aL ad) M_X6_field P 91 [] [.ref (ad 4), .int (I 4 0), .int s0] I J) : Sat (EC l D aI aL ad) M_X6_field P 80 [(0, .ref (ad 0))] [.int s0] I J := by
  refine s_aload_n 0 dX6_field_80 rfl ?_
  refine g_X6_23 dX6_field_81 rfl ?_
  refine g_X6_85 dX6_field_84 rfl ?_
  refine s_aload_n 0 dX6_field_87 rfl ?_
  refine g_X6_23 dX6_field_88 rfl ?_
  refine s_pick [] [] rfl ?_; exact k
theorem bX6_field_94 {l : Launch} {D : va_G} {aI aL : ClassId} {ad : Nat → Nat} {P : sa_P} {I : sa_I} {J : sa_J} {s0 : Int32} {s1 : Int32} {s2 : Int32}   (k : P (some (.int ((s0 + ((s1 - s2) / (2 : Int32))) - (1 : Int32)))) I J) : Sat (EC l D aI aL ad) M_X6_field P 94 [] [.int s2, .int s1, .int s0] I J := by
  refine s_isub dX6_field_94 ?_
  refine s_iconst (v := 2) dX6_field_95 rfl ?_
  refine s_idiv dX6_field_96 (by decide) ?_
  refine s_iadd dX6_field_97 ?_
  refine s_iconst (v := 1) dX6_field_98 rfl ?_
  refine s_isub dX6_field_99 ?_
  exact s_iret rfl dX6_field_100 k
theorem bX6_field_101 {l : Launch} {D : va_G} {aI aL : ClassId} {ad : Nat → Nat} {P : sa_P} {I : sa_I} {J : sa_J}    (k : Sat (EC l D aI aL ad) M_X6_field P 104 [] [.int (-2 : Int32), .ref (ad 0)] I J) : Sat (EC l D aI aL ad) M_X6_field P 101 [(0, .ref (ad 0))] [] I J := by
  refine s_aload_n 0 dX6_field_101 rfl ?_
  refine s_bipush (v := -2) dX6_field_102 rfl ?_
  refine s_pick [] [] rfl ?_; exact k
theorem bX6_field_107 {l : Launch} {D : va_G} {aI aL : ClassId} {ad : Nat → Nat} {P : sa_P} {I : sa_I} {J : sa_J} {s0 : Int32}   (k : P (some (.int s0)) I J) : Sat (EC l D aI aL ad) M_X6_field P 107 [] [.int s0] I J := by
  exact s_iret rfl dX6_field_107 k
/-! X6_disc -/
theorem dX6_disc_0 : decode cX6_disc 0 = .ok (.aload_n 0, 1) := by decide +kernel
theorem dX6_disc_1 : decode cX6_disc 1 = .ok (.getfield 23, 3) := by decide +kernel
theorem dX6_disc_4 : decode cX6_disc 4 = .ok (.getfield 85, 3) := by decide +kernel
theorem dX6_disc_7 : decode cX6_disc 7 = .ok (.ifCond .ne 10, 3) := by decide +kernel
theorem dX6_disc_10 : decode cX6_disc 10 = .ok (.aload_n 0, 1) := by decide +kernel
theorem dX6_disc_11 : decode cX6_disc 11 = .ok (.bipush (-3), 2) := by decide +kernel
theorem dX6_disc_13 : decode cX6_disc 13 = .ok (.invokevirtual 96, 3) := by decide +kernel
theorem dX6_disc_16 : decode cX6_disc 16 = .ok (.lreturn, 1) := by decide +kernel
theorem dX6_disc_17 : decode cX6_disc 17 = .ok (.iload_n 1, 1) := by decide +kernel
theorem dX6_disc_18 : decode cX6_disc 18 = .ok (.ifCond .eq 15, 3) := by decide +kernel
theorem dX6_disc_21 : decode cX6_disc 21 = .ok (.iload_n 1, 1) := by decide +kernel
theorem dX6_disc_22 : decode cX6_disc 22 = .ok (.iconst 1, 1) := by decide +kernel
theorem dX6_disc_23 : decode cX6_disc 23 = .ok (.if_icmp .eq 10, 3) := by decide +kernel
theorem dX6_disc_26 : decode cX6_disc 26 = .ok (.aload_n 0, 1) := by decide +kernel
theorem dX6_disc_27 : decode cX6_disc 27 = .ok (.bipush (-2), 2) := by decide +kernel
theorem dX6_disc_29 : decode cX6_disc 29 = .ok (.invokevirtual 96, 3) := by decide +kernel
theorem dX6_disc_32 : decode cX6_disc 32 = .ok (.lreturn, 1) := by decide +kernel
theorem dX6_disc_33 : decode cX6_disc 33 = .ok (.iload_n 1, 1) := by decide +kernel
theorem dX6_disc_34 : decode cX6_disc 34 = .ok (.ifCond .ne 13, 3) := by decide +kernel
theorem dX6_disc_37 : decode cX6_disc 37 = .ok (.aload_n 0, 1) := by decide +kernel
theorem dX6_disc_38 : decode cX6_disc 38 = .ok (.getfield 23, 3) := by decide +kernel
theorem dX6_disc_41 : decode cX6_disc 41 = .ok (.getfield 100, 3) := by decide +kernel
theorem dX6_disc_44 : decode cX6_disc 44 = .ok (.goto 10, 3) := by decide +kernel
theorem dX6_disc_47 : decode cX6_disc 47 = .ok (.aload_n 0, 1) := by decide +kernel
theorem dX6_disc_48 : decode cX6_disc 48 = .ok (.getfield 23, 3) := by decide +kernel
theorem dX6_disc_51 : decode cX6_disc 51 = .ok (.getfield 103, 3) := by decide +kernel
theorem dX6_disc_54 : decode cX6_disc 54 = .ok (.lreturn, 1) := by decide +kernel
theorem bX6_disc_0 {l : Launch} {D : va_G} {aI aL : ClassId} {ad : Nat → Nat} {P : sa_P} {I : sa_I} {J : sa_J} {x1 : Int32}   (kt : ¬ I 4 0 = 0 → Sat (EC l D aI aL ad) M_X6_disc P 17 [(0, .ref (ad 0)), (1, .int x1)] [] I J) (kf : I 4 0 = 0 → Sat (EC l D aI aL ad) M_X6_disc P 10 [(0, .ref (ad 0))] [] I J) : Sat (EC l D aI aL ad) M_X6_disc P 0 [(0, .ref (ad 0)), (1, .int x1)] [] I J := by
  refine s_aload_n 0 dX6_disc_0 rfl ?_
  refine g_X6_23 dX6_disc_1 rfl ?_
  refine g_X6_85 dX6_disc_4 rfl ?_
  refine s_if_ne (tgt := 17) dX6_disc_7 (by decide) (fun c => ?_) (fun c => ?_)
  · exact kt c
  · refine s_pick [0] [(0, .ref (ad 0))] rfl ?_; exact kf (by first | exact c | exact Classical.not_not.mp c)
theorem bX6_disc_10 {l : Launch} {D : va_G} {aI aL : ClassId} {ad : Nat → Nat} {P : sa_P} {I : sa_I} {J : sa_J}    (k : Sat (EC l D aI aL ad) M_X6_disc P 13 [] [.int (-3 : Int32), .ref (ad 0)] I J) : Sat (EC l D aI aL ad) M_X6_disc P 10 [(0, .ref (ad 0))] [] I J := by
  refine s_aload_n 0 dX6_disc_10 rfl ?_
  refine s_bipush (v := -3) dX6_disc_11 rfl ?_
  refine s_pick [] [] rfl ?_; exact k
theorem bX6_disc_16 {l : Launch} {D : va_G} {aI aL : ClassId} {ad : Nat → Nat} {P : sa_P} {I : sa_I} {J : sa_J} {s0 : Int64}   (k : P (some (.long s0)) I J) : Sat (EC l D aI aL ad) M_X6_disc P 16 [] [.long s0] I J := by
  exact s_lret rfl dX6_disc_16 k
theorem bX6_disc_17 {l : Launch} {D : va_G} {aI aL : ClassId} {ad : Nat → Nat} {P : sa_P} {I : sa_I} {J : sa_J} {x1 : Int32}   (kt : x1 = 0 → Sat (EC l D aI aL ad) M_X6_disc P 33 [(0, .ref (ad 0)), (1, .int x1)] [] I J) (kf : ¬ x1 = 0 → Sat (EC l D aI aL ad) M_X6_disc P 21 [(0, .ref (ad 0)), (1, .int x1)] [] I J) : Sat (EC l D aI aL ad) M_X6_disc P 17 [(0, .ref (ad 0)), (1, .int x1)] [] I J := by
  refine s_iload_n 1 dX6_disc_17 rfl ?_
  refine s_if_eq (tgt := 33) dX6_disc_18 (by decide) (fun c => ?_) (fun c => ?_)
  · exact kt c
  · exact kf c
theorem bX6_disc_21 {l : Launch} {D : va_G} {aI aL : ClassId} {ad : Nat → Nat} {P : sa_P} {I : sa_I} {J : sa_J} {x1 : Int32}   (kt : x1 = (1 : Int32) → Sat (EC l D aI aL ad) M_X6_disc P 33 [(0, .ref (ad 0)), (1, .int x1)] [] I J) (kf : ¬ x1 = (1 : Int32) → Sat (EC l D aI aL ad) M_X6_disc P 26 [(0, .ref (ad 0))] [] I J) : Sat (EC l D aI aL ad) M_X6_disc P 21 [(0, .ref (ad 0)), (1, .int x1)] [] I J := by
  refine s_iload_n 1 dX6_disc_21 rfl ?_
  refine s_iconst (v := 1) dX6_disc_22 rfl ?_
  refine s_icmp_eq (tgt := 33) dX6_disc_23 (by decide) (fun c => ?_) (fun c => ?_)
  · exact kt c
  · refine s_pick [0] [(0, .ref (ad 0))] rfl ?_; exact kf c
theorem bX6_disc_26 {l : Launch} {D : va_G} {aI aL : ClassId} {ad : Nat → Nat} {P : sa_P} {I : sa_I} {J : sa_J}    (k : Sat (EC l D aI aL ad) M_X6_disc P 29 [] [.int (-2 : Int32), .ref (ad 0)] I J) : Sat (EC l D aI aL ad) M_X6_disc P 26 [(0, .ref (ad 0))] [] I J := by
  refine s_aload_n 0 dX6_disc_26 rfl ?_
  refine s_bipush (v := -2) dX6_disc_27 rfl ?_
  refine s_pick [] [] rfl ?_; exact k
theorem bX6_disc_32 {l : Launch} {D : va_G} {aI aL : ClassId} {ad : Nat → Nat} {P : sa_P} {I : sa_I} {J : sa_J} {s0 : Int64}   (k : P (some (.long s0)) I J) : Sat (EC l D aI aL ad) M_X6_disc P 32 [] [.long s0] I J := by
  exact s_lret rfl dX6_disc_32 k
theorem bX6_disc_33 {l : Launch} {D : va_G} {aI aL : ClassId} {ad : Nat → Nat} {P : sa_P} {I : sa_I} {J : sa_J} {x1 : Int32}   (kt : ¬ x1 = 0 → Sat (EC l D aI aL ad) M_X6_disc P 47 [(0, .ref (ad 0))] [] I J) (kf : x1 = 0 → Sat (EC l D aI aL ad) M_X6_disc P 37 [(0, .ref (ad 0))] [] I J) : Sat (EC l D aI aL ad) M_X6_disc P 33 [(0, .ref (ad 0)), (1, .int x1)] [] I J := by
  refine s_iload_n 1 dX6_disc_33 rfl ?_
  refine s_if_ne (tgt := 47) dX6_disc_34 (by decide) (fun c => ?_) (fun c => ?_)
  · refine s_pick [0] [(0, .ref (ad 0))] rfl ?_; exact kt c
  · refine s_pick [0] [(0, .ref (ad 0))] rfl ?_; exact kf (by first | exact c | exact Classical.not_not.mp c)
theorem bX6_disc_37 {l : Launch} {D : va_G} {aI aL : ClassId} {ad : Nat → Nat} {P : sa_P} {I : sa_I} {J : sa_J}    (k : Sat (EC l D aI aL ad) M_X6_disc P 54 [] [.long (J 4 2)] I J) : Sat (EC l D aI aL ad) M_X6_disc P 37 [(0, .ref (ad 0))] [] I J := by
  refine s_aload_n 0 dX6_disc_37 rfl ?_
  refine g_X6_23 dX6_disc_38 rfl ?_
  refine g_X6_100 dX6_disc_41 rfl ?_
  refine s_goto (tgt := 54) dX6_disc_44 (by decide) ?_
  refine s_pick [] [] rfl ?_; exact k
theorem bX6_disc_47 {l : Launch} {D : va_G} {aI aL : ClassId} {ad : Nat → Nat} {P : sa_P} {I : sa_I} {J : sa_J}    (k : Sat (EC l D aI aL ad) M_X6_disc P 54 [] [.long (J 4 1)] I J) : Sat (EC l D aI aL ad) M_X6_disc P 47 [(0, .ref (ad 0))] [] I J := by
  refine s_aload_n 0 dX6_disc_47 rfl ?_
  refine g_X6_23 dX6_disc_48 rfl ?_
  refine g_X6_103 dX6_disc_51 rfl ?_
  refine s_pick [] [] rfl ?_; exact k
theorem bX6_disc_54 {l : Launch} {D : va_G} {aI aL : ClassId} {ad : Nat → Nat} {P : sa_P} {I : sa_I} {J : sa_J} {s0 : Int64}   (k : P (some (.long s0)) I J) : Sat (EC l D aI aL ad) M_X6_disc P 54 [] [.long s0] I J := by
  exact s_lret rfl dX6_disc_54 k
/-! X6_basis -/
theorem dX6_basis_0 : decode cX6_basis 0 = .ok (.aload_n 0, 1) := by decide +kernel
theorem dX6_basis_1 : decode cX6_basis 1 = .ok (.getfield 23, 3) := by decide +kernel
theorem dX6_basis_4 : decode cX6_basis 4 = .ok (.getfield 85, 3) := by decide +kernel
theorem dX6_basis_7 : decode cX6_basis 7 = .ok (.ifCond .ne 10, 3) := by decide +kernel
theorem dX6_basis_10 : decode cX6_basis 10 = .ok (.aload_n 0, 1) := by decide +kernel
theorem dX6_basis_11 : decode cX6_basis 11 = .ok (.bipush (-3), 2) := by decide +kernel
theorem dX6_basis_13 : decode cX6_basis 13 = .ok (.invokevirtual 59, 3) := by decide +kernel
theorem dX6_basis_16 : decode cX6_basis 16 = .ok (.ireturn, 1) := by decide +kernel
theorem dX6_basis_17 : decode cX6_basis 17 = .ok (.aload_n 0, 1) := by decide +kernel
theorem dX6_basis_18 : decode cX6_basis 18 = .ok (.iload_n 1, 1) := by decide +kernel
theorem dX6_basis_19 : decode cX6_basis 19 = .ok (.invokevirtual 106, 3) := by decide +kernel
theorem dX6_basis_22 : decode cX6_basis 22 = .ok (.ifCond .eq 18, 3) := by decide +kernel
theorem dX6_basis_25 : decode cX6_basis 25 = .ok (.iload_n 2, 1) := by decide +kernel
theorem dX6_basis_26 : decode cX6_basis 26 = .ok (.ifCond .lt 14, 3) := by decide +kernel
theorem dX6_basis_29 : decode cX6_basis 29 = .ok (.iload_n 2, 1) := by decide +kernel
theorem dX6_basis_30 : decode cX6_basis 30 = .ok (.aload_n 0, 1) := by decide +kernel
theorem dX6_basis_31 : decode cX6_basis 31 = .ok (.getfield 23, 3) := by decide +kernel
theorem dX6_basis_34 : decode cX6_basis 34 = .ok (.getfield 85, 3) := by decide +kernel
theorem dX6_basis_37 : decode cX6_basis 37 = .ok (.if_icmp .le 9, 3) := by decide +kernel
theorem dX6_basis_40 : decode cX6_basis 40 = .ok (.aload_n 0, 1) := by decide +kernel
theorem dX6_basis_41 : decode cX6_basis 41 = .ok (.iconst (-1), 1) := by decide +kernel
theorem dX6_basis_42 : decode cX6_basis 42 = .ok (.invokevirtual 59, 3) := by decide +kernel
theorem dX6_basis_45 : decode cX6_basis 45 = .ok (.ireturn, 1) := by decide +kernel
theorem dX6_basis_46 : decode cX6_basis 46 = .ok (.iload_n 2, 1) := by decide +kernel
theorem dX6_basis_47 : decode cX6_basis 47 = .ok (.aload_n 0, 1) := by decide +kernel
theorem dX6_basis_48 : decode cX6_basis 48 = .ok (.getfield 23, 3) := by decide +kernel
theorem dX6_basis_51 : decode cX6_basis 51 = .ok (.getfield 85, 3) := by decide +kernel
theorem dX6_basis_54 : decode cX6_basis 54 = .ok (.if_icmp .ne 15, 3) := by decide +kernel
theorem dX6_basis_57 : decode cX6_basis 57 = .ok (.aload_n 0, 1) := by decide +kernel
theorem dX6_basis_58 : decode cX6_basis 58 = .ok (.getfield 23, 3) := by decide +kernel
theorem dX6_basis_61 : decode cX6_basis 61 = .ok (.getfield 110, 3) := by decide +kernel
theorem dX6_basis_64 : decode cX6_basis 64 = .ok (.iload_n 1, 1) := by decide +kernel
theorem dX6_basis_65 : decode cX6_basis 65 = .ok (.laload, 1) := by decide +kernel
theorem dX6_basis_66 : decode cX6_basis 66 = .ok (.goto 16, 3) := by decide +kernel
theorem dX6_basis_69 : decode cX6_basis 69 = .ok (.aload_n 0, 1) := by decide +kernel
theorem dX6_basis_70 : decode cX6_basis 70 = .ok (.getfield 23, 3) := by decide +kernel
theorem dX6_basis_73 : decode cX6_basis 73 = .ok (.getfield 113, 3) := by decide +kernel
theorem dX6_basis_76 : decode cX6_basis 76 = .ok (.iconst 3, 1) := by decide +kernel
theorem dX6_basis_77 : decode cX6_basis 77 = .ok (.iload_n 1, 1) := by decide +kernel
theorem dX6_basis_78 : decode cX6_basis 78 = .ok (.imul, 1) := by decide +kernel
theorem dX6_basis_79 : decode cX6_basis 79 = .ok (.iload_n 2, 1) := by decide +kernel
theorem dX6_basis_80 : decode cX6_basis 80 = .ok (.iadd, 1) := by decide +kernel
theorem dX6_basis_81 : decode cX6_basis 81 = .ok (.laload, 1) := by decide +kernel
theorem dX6_basis_82 : decode cX6_basis 82 = .ok (.l2i, 1) := by decide +kernel
theorem dX6_basis_83 : decode cX6_basis 83 = .ok (.ireturn, 1) := by decide +kernel
theorem bX6_basis_0 {l : Launch} {D : va_G} {aI aL : ClassId} {ad : Nat → Nat} {P : sa_P} {I : sa_I} {J : sa_J} {x1 : Int32} {x2 : Int32}   (kt : ¬ I 4 0 = 0 → Sat (EC l D aI aL ad) M_X6_basis P 17 [(0, .ref (ad 0)), (1, .int x1), (2, .int x2)] [] I J) (kf : I 4 0 = 0 → Sat (EC l D aI aL ad) M_X6_basis P 10 [(0, .ref (ad 0))] [] I J) : Sat (EC l D aI aL ad) M_X6_basis P 0 [(0, .ref (ad 0)), (1, .int x1), (2, .int x2)] [] I J := by
  refine s_aload_n 0 dX6_basis_0 rfl ?_
  refine g_X6_23 dX6_basis_1 rfl ?_
  refine g_X6_85 dX6_basis_4 rfl ?_
  refine s_if_ne (tgt := 17) dX6_basis_7 (by decide) (fun c => ?_) (fun c => ?_)
  · exact kt c
  · refine s_pick [0] [(0, .ref (ad 0))] rfl ?_; exact kf (by first | exact c | exact Classical.not_not.mp c)
theorem bX6_basis_10 {l : Launch} {D : va_G} {aI aL : ClassId} {ad : Nat → Nat} {P : sa_P} {I : sa_I} {J : sa_J}    (k : Sat (EC l D aI aL ad) M_X6_basis P 13 [] [.int (-3 : Int32), .ref (ad 0)] I J) : Sat (EC l D aI aL ad) M_X6_basis P 10 [(0, .ref (ad 0))] [] I J := by
  refine s_aload_n 0 dX6_basis_10 rfl ?_
  refine s_bipush (v := -3) dX6_basis_11 rfl ?_
  refine s_pick [] [] rfl ?_; exact k
theorem bX6_basis_16 {l : Launch} {D : va_G} {aI aL : ClassId} {ad : Nat → Nat} {P : sa_P} {I : sa_I} {J : sa_J} {s0 : Int32}   (k : P (some (.int s0)) I J) : Sat (EC l D aI aL ad) M_X6_basis P 16 [] [.int s0] I J := by
  exact s_iret rfl dX6_basis_16 k
theorem bX6_basis_17 {l : Launch} {D : va_G} {aI aL : ClassId} {ad : Nat → Nat} {P : sa_P} {I : sa_I} {J : sa_J} {x1 : Int32} {x2 : Int32}   (k : Sat (EC l D aI aL ad) M_X6_basis P 19 [(0, .ref (ad 0)), (1, .int x1), (2, .int x2)] [.int x1, .ref (ad 0)] I J) : Sat (EC l D aI aL ad) M_X6_basis P 17 [(0, .ref (ad 0)), (1, .int x1), (2, .int x2)] [] I J := by
  refine s_aload_n 0 dX6_basis_17 rfl ?_
  refine s_iload_n 1 dX6_basis_18 rfl ?_
  exact k
theorem bX6_basis_22 {l : Launch} {D : va_G} {aI aL : ClassId} {ad : Nat → Nat} {P : sa_P} {I : sa_I} {J : sa_J} {x1 : Int32} {x2 : Int32} {s0 : Int32}   (kt : s0 = 0 → Sat (EC l D aI aL ad) M_X6_basis P 40 [(0, .ref (ad 0))] [] I J) (kf : ¬ s0 = 0 → Sat (EC l D aI aL ad) M_X6_basis P 25 [(0, .ref (ad 0)), (1, .int x1), (2, .int x2)] [] I J) : Sat (EC l D aI aL ad) M_X6_basis P 22 [(0, .ref (ad 0)), (1, .int x1), (2, .int x2)] [.int s0] I J := by
  refine s_if_eq (tgt := 40) dX6_basis_22 (by decide) (fun c => ?_) (fun c => ?_)
  · refine s_pick [0] [(0, .ref (ad 0))] rfl ?_; exact kt c
  · exact kf c
theorem bX6_basis_25 {l : Launch} {D : va_G} {aI aL : ClassId} {ad : Nat → Nat} {P : sa_P} {I : sa_I} {J : sa_J} {x1 : Int32} {x2 : Int32}   (kt : x2 < 0 → Sat (EC l D aI aL ad) M_X6_basis P 40 [(0, .ref (ad 0))] [] I J) (kf : ¬ x2 < 0 → Sat (EC l D aI aL ad) M_X6_basis P 29 [(0, .ref (ad 0)), (1, .int x1), (2, .int x2)] [] I J) : Sat (EC l D aI aL ad) M_X6_basis P 25 [(0, .ref (ad 0)), (1, .int x1), (2, .int x2)] [] I J := by
  refine s_iload_n 2 dX6_basis_25 rfl ?_
  refine s_if_lt (tgt := 40) dX6_basis_26 (by decide) (fun c => ?_) (fun c => ?_)
  · refine s_pick [0] [(0, .ref (ad 0))] rfl ?_; exact kt c
  · exact kf c
theorem bX6_basis_29 {l : Launch} {D : va_G} {aI aL : ClassId} {ad : Nat → Nat} {P : sa_P} {I : sa_I} {J : sa_J} {x1 : Int32} {x2 : Int32}   (kt : x2 ≤ I 4 0 → Sat (EC l D aI aL ad) M_X6_basis P 46 [(0, .ref (ad 0)), (1, .int x1), (2, .int x2)] [] I J) (kf : ¬ x2 ≤ I 4 0 → Sat (EC l D aI aL ad) M_X6_basis P 40 [(0, .ref (ad 0))] [] I J) : Sat (EC l D aI aL ad) M_X6_basis P 29 [(0, .ref (ad 0)), (1, .int x1), (2, .int x2)] [] I J := by
  refine s_iload_n 2 dX6_basis_29 rfl ?_
  refine s_aload_n 0 dX6_basis_30 rfl ?_
  refine g_X6_23 dX6_basis_31 rfl ?_
  refine g_X6_85 dX6_basis_34 rfl ?_
  refine s_icmp_le (tgt := 46) dX6_basis_37 (by decide) (fun c => ?_) (fun c => ?_)
  · exact kt c
  · refine s_pick [0] [(0, .ref (ad 0))] rfl ?_; exact kf c
theorem bX6_basis_40 {l : Launch} {D : va_G} {aI aL : ClassId} {ad : Nat → Nat} {P : sa_P} {I : sa_I} {J : sa_J}    (k : Sat (EC l D aI aL ad) M_X6_basis P 42 [] [.int (-1 : Int32), .ref (ad 0)] I J) : Sat (EC l D aI aL ad) M_X6_basis P 40 [(0, .ref (ad 0))] [] I J := by
  refine s_aload_n 0 dX6_basis_40 rfl ?_
  refine s_iconst (v := -1) dX6_basis_41 rfl ?_
  refine s_pick [] [] rfl ?_; exact k
theorem bX6_basis_45 {l : Launch} {D : va_G} {aI aL : ClassId} {ad : Nat → Nat} {P : sa_P} {I : sa_I} {J : sa_J} {s0 : Int32}   (k : P (some (.int s0)) I J) : Sat (EC l D aI aL ad) M_X6_basis P 45 [] [.int s0] I J := by
  exact s_iret rfl dX6_basis_45 k
theorem bX6_basis_46 {l : Launch} {D : va_G} {aI aL : ClassId} {ad : Nat → Nat} {P : sa_P} {I : sa_I} {J : sa_J} {x1 : Int32} {x2 : Int32}   (kt : ¬ x2 = I 4 0 → Sat (EC l D aI aL ad) M_X6_basis P 69 [(0, .ref (ad 0)), (1, .int x1), (2, .int x2)] [] I J) (kf : x2 = I 4 0 → Sat (EC l D aI aL ad) M_X6_basis P 57 [(0, .ref (ad 0)), (1, .int x1)] [] I J) : Sat (EC l D aI aL ad) M_X6_basis P 46 [(0, .ref (ad 0)), (1, .int x1), (2, .int x2)] [] I J := by
  refine s_iload_n 2 dX6_basis_46 rfl ?_
  refine s_aload_n 0 dX6_basis_47 rfl ?_
  refine g_X6_23 dX6_basis_48 rfl ?_
  refine g_X6_85 dX6_basis_51 rfl ?_
  refine s_icmp_ne (tgt := 69) dX6_basis_54 (by decide) (fun c => ?_) (fun c => ?_)
  · exact kt c
  · refine s_pick [0, 1] [(0, .ref (ad 0)), (1, .int x1)] rfl ?_; exact kf (by first | exact c | exact Classical.not_not.mp c)
theorem bX6_basis_57 {l : Launch} {D : va_G} {aI aL : ClassId} {ad : Nat → Nat} {P : sa_P} {I : sa_I} {J : sa_J} {x1 : Int32} {j64 : Nat} (e64 : x1 = nI j64) (h65 : j64 < 3)  (k : Sat (EC l D aI aL ad) M_X6_basis P 82 [] [.long (J 7 j64)] I J) : Sat (EC l D aI aL ad) M_X6_basis P 57 [(0, .ref (ad 0)), (1, .int x1)] [] I J := by
  refine s_aload_n 0 dX6_basis_57 rfl ?_
  refine g_X6_23 dX6_basis_58 rfl ?_
  refine g_X6_110 dX6_basis_61 rfl ?_
  refine s_iload_n 1 dX6_basis_64 rfl ?_
  refine s_eqi e64 ?_
  refine s_laloadN aJ_C7 h65 (by decide) dX6_basis_65 ?_
  refine s_goto (tgt := 82) dX6_basis_66 (by decide) ?_
  refine s_pick [] [] rfl ?_; exact k
theorem bX6_basis_69 {l : Launch} {D : va_G} {aI aL : ClassId} {ad : Nat → Nat} {P : sa_P} {I : sa_I} {J : sa_J} {x1 : Int32} {x2 : Int32} {j80 : Nat} (e80 : ((3 : Int32) * x1) + x2 = nI j80) (h81 : j80 < 9)  (k : Sat (EC l D aI aL ad) M_X6_basis P 82 [] [.long (J 6 j80)] I J) : Sat (EC l D aI aL ad) M_X6_basis P 69 [(0, .ref (ad 0)), (1, .int x1), (2, .int x2)] [] I J := by
  refine s_aload_n 0 dX6_basis_69 rfl ?_
  refine g_X6_23 dX6_basis_70 rfl ?_
  refine g_X6_113 dX6_basis_73 rfl ?_
  refine s_iconst (v := 3) dX6_basis_76 rfl ?_
  refine s_iload_n 1 dX6_basis_77 rfl ?_
  refine s_imul dX6_basis_78 ?_
  refine s_iload_n 2 dX6_basis_79 rfl ?_
  refine s_iadd dX6_basis_80 ?_
  refine s_eqi e80 ?_
  refine s_laloadN aJ_C6 h81 (by decide) dX6_basis_81 ?_
  refine s_pick [] [] rfl ?_; exact k
theorem bX6_basis_82 {l : Launch} {D : va_G} {aI aL : ClassId} {ad : Nat → Nat} {P : sa_P} {I : sa_I} {J : sa_J} {s0 : Int64}   (k : P (some (.int s0.toInt32)) I J) : Sat (EC l D aI aL ad) M_X6_basis P 82 [] [.long s0] I J := by
  refine s_l2i dX6_basis_82 ?_
  exact s_iret rfl dX6_basis_83 k
/-! X6_table -/
theorem dX6_table_0 : decode cX6_table 0 = .ok (.aload_n 0, 1) := by decide +kernel
theorem dX6_table_1 : decode cX6_table 1 = .ok (.getfield 23, 3) := by decide +kernel
theorem dX6_table_4 : decode cX6_table 4 = .ok (.getfield 85, 3) := by decide +kernel
theorem dX6_table_7 : decode cX6_table 7 = .ok (.ifCond .ne 10, 3) := by decide +kernel
theorem dX6_table_10 : decode cX6_table 10 = .ok (.aload_n 0, 1) := by decide +kernel
theorem dX6_table_11 : decode cX6_table 11 = .ok (.bipush (-3), 2) := by decide +kernel
theorem dX6_table_13 : decode cX6_table 13 = .ok (.invokevirtual 116, 3) := by decide +kernel
theorem dX6_table_16 : decode cX6_table 16 = .ok (.ireturn, 1) := by decide +kernel
theorem dX6_table_17 : decode cX6_table 17 = .ok (.aload_n 0, 1) := by decide +kernel
theorem dX6_table_18 : decode cX6_table 18 = .ok (.iload_n 1, 1) := by decide +kernel
theorem dX6_table_19 : decode cX6_table 19 = .ok (.invokevirtual 106, 3) := by decide +kernel
theorem dX6_table_22 : decode cX6_table 22 = .ok (.ifCond .eq 19, 3) := by decide +kernel
theorem dX6_table_25 : decode cX6_table 25 = .ok (.aload_n 0, 1) := by decide +kernel
theorem dX6_table_26 : decode cX6_table 26 = .ok (.iload_n 2, 1) := by decide +kernel
theorem dX6_table_27 : decode cX6_table 27 = .ok (.invokevirtual 106, 3) := by decide +kernel
theorem dX6_table_30 : decode cX6_table 30 = .ok (.ifCond .eq 11, 3) := by decide +kernel
theorem dX6_table_33 : decode cX6_table 33 = .ok (.aload_n 0, 1) := by decide +kernel
theorem dX6_table_34 : decode cX6_table 34 = .ok (.iload_n 3, 1) := by decide +kernel
theorem dX6_table_35 : decode cX6_table 35 = .ok (.invokevirtual 106, 3) := by decide +kernel
theorem dX6_table_38 : decode cX6_table 38 = .ok (.ifCond .ne 9, 3) := by decide +kernel
theorem dX6_table_41 : decode cX6_table 41 = .ok (.aload_n 0, 1) := by decide +kernel
theorem dX6_table_42 : decode cX6_table 42 = .ok (.iconst (-1), 1) := by decide +kernel
theorem dX6_table_43 : decode cX6_table 43 = .ok (.invokevirtual 116, 3) := by decide +kernel
theorem dX6_table_46 : decode cX6_table 46 = .ok (.ireturn, 1) := by decide +kernel
theorem dX6_table_47 : decode cX6_table 47 = .ok (.aload_n 0, 1) := by decide +kernel
theorem dX6_table_48 : decode cX6_table 48 = .ok (.getfield 23, 3) := by decide +kernel
theorem dX6_table_51 : decode cX6_table 51 = .ok (.getfield 119, 3) := by decide +kernel
theorem dX6_table_54 : decode cX6_table 54 = .ok (.bipush 9, 2) := by decide +kernel
theorem dX6_table_56 : decode cX6_table 56 = .ok (.iload_n 1, 1) := by decide +kernel
theorem dX6_table_57 : decode cX6_table 57 = .ok (.imul, 1) := by decide +kernel
theorem dX6_table_58 : decode cX6_table 58 = .ok (.iconst 3, 1) := by decide +kernel
theorem dX6_table_59 : decode cX6_table 59 = .ok (.iload_n 2, 1) := by decide +kernel
theorem dX6_table_60 : decode cX6_table 60 = .ok (.imul, 1) := by decide +kernel
theorem dX6_table_61 : decode cX6_table 61 = .ok (.iadd, 1) := by decide +kernel
theorem dX6_table_62 : decode cX6_table 62 = .ok (.iload_n 3, 1) := by decide +kernel
theorem dX6_table_63 : decode cX6_table 63 = .ok (.iadd, 1) := by decide +kernel
theorem dX6_table_64 : decode cX6_table 64 = .ok (.laload, 1) := by decide +kernel
theorem dX6_table_65 : decode cX6_table 65 = .ok (.l2i, 1) := by decide +kernel
theorem dX6_table_66 : decode cX6_table 66 = .ok (.ireturn, 1) := by decide +kernel
theorem bX6_table_0 {l : Launch} {D : va_G} {aI aL : ClassId} {ad : Nat → Nat} {P : sa_P} {I : sa_I} {J : sa_J} {x1 : Int32} {x2 : Int32} {x3 : Int32}   (kt : ¬ I 4 0 = 0 → Sat (EC l D aI aL ad) M_X6_table P 17 [(0, .ref (ad 0)), (1, .int x1), (2, .int x2), (3, .int x3)] [] I J) (kf : I 4 0 = 0 → Sat (EC l D aI aL ad) M_X6_table P 10 [(0, .ref (ad 0))] [] I J) : Sat (EC l D aI aL ad) M_X6_table P 0 [(0, .ref (ad 0)), (1, .int x1), (2, .int x2), (3, .int x3)] [] I J := by
  refine s_aload_n 0 dX6_table_0 rfl ?_
  refine g_X6_23 dX6_table_1 rfl ?_
  refine g_X6_85 dX6_table_4 rfl ?_
  refine s_if_ne (tgt := 17) dX6_table_7 (by decide) (fun c => ?_) (fun c => ?_)
  · exact kt c
  · refine s_pick [0] [(0, .ref (ad 0))] rfl ?_; exact kf (by first | exact c | exact Classical.not_not.mp c)
theorem bX6_table_10 {l : Launch} {D : va_G} {aI aL : ClassId} {ad : Nat → Nat} {P : sa_P} {I : sa_I} {J : sa_J}    (k : Sat (EC l D aI aL ad) M_X6_table P 13 [] [.int (-3 : Int32), .ref (ad 0)] I J) : Sat (EC l D aI aL ad) M_X6_table P 10 [(0, .ref (ad 0))] [] I J := by
  refine s_aload_n 0 dX6_table_10 rfl ?_
  refine s_bipush (v := -3) dX6_table_11 rfl ?_
  refine s_pick [] [] rfl ?_; exact k
theorem bX6_table_16 {l : Launch} {D : va_G} {aI aL : ClassId} {ad : Nat → Nat} {P : sa_P} {I : sa_I} {J : sa_J} {s0 : Int32}   (k : P (some (.int s0)) I J) : Sat (EC l D aI aL ad) M_X6_table P 16 [] [.int s0] I J := by
  exact s_iret rfl dX6_table_16 k
theorem bX6_table_17 {l : Launch} {D : va_G} {aI aL : ClassId} {ad : Nat → Nat} {P : sa_P} {I : sa_I} {J : sa_J} {x1 : Int32} {x2 : Int32} {x3 : Int32}   (k : Sat (EC l D aI aL ad) M_X6_table P 19 [(0, .ref (ad 0)), (1, .int x1), (2, .int x2), (3, .int x3)] [.int x1, .ref (ad 0)] I J) : Sat (EC l D aI aL ad) M_X6_table P 17 [(0, .ref (ad 0)), (1, .int x1), (2, .int x2), (3, .int x3)] [] I J := by
  refine s_aload_n 0 dX6_table_17 rfl ?_
  refine s_iload_n 1 dX6_table_18 rfl ?_
  exact k
theorem bX6_table_22 {l : Launch} {D : va_G} {aI aL : ClassId} {ad : Nat → Nat} {P : sa_P} {I : sa_I} {J : sa_J} {x1 : Int32} {x2 : Int32} {x3 : Int32} {s0 : Int32}   (kt : s0 = 0 → Sat (EC l D aI aL ad) M_X6_table P 41 [(0, .ref (ad 0))] [] I J) (kf : ¬ s0 = 0 → Sat (EC l D aI aL ad) M_X6_table P 25 [(0, .ref (ad 0)), (1, .int x1), (2, .int x2), (3, .int x3)] [] I J) : Sat (EC l D aI aL ad) M_X6_table P 22 [(0, .ref (ad 0)), (1, .int x1), (2, .int x2), (3, .int x3)] [.int s0] I J := by
  refine s_if_eq (tgt := 41) dX6_table_22 (by decide) (fun c => ?_) (fun c => ?_)
  · refine s_pick [0] [(0, .ref (ad 0))] rfl ?_; exact kt c
  · exact kf c
theorem bX6_table_25 {l : Launch} {D : va_G} {aI aL : ClassId} {ad : Nat → Nat} {P : sa_P} {I : sa_I} {J : sa_J} {x1 : Int32} {x2 : Int32} {x3 : Int32}   (k : Sat (EC l D aI aL ad) M_X6_table P 27 [(0, .ref (ad 0)), (1, .int x1), (2, .int x2), (3, .int x3)] [.int x2, .ref (ad 0)] I J) : Sat (EC l D aI aL ad) M_X6_table P 25 [(0, .ref (ad 0)), (1, .int x1), (2, .int x2), (3, .int x3)] [] I J := by
  refine s_aload_n 0 dX6_table_25 rfl ?_
  refine s_iload_n 2 dX6_table_26 rfl ?_
  exact k
theorem bX6_table_30 {l : Launch} {D : va_G} {aI aL : ClassId} {ad : Nat → Nat} {P : sa_P} {I : sa_I} {J : sa_J} {x1 : Int32} {x2 : Int32} {x3 : Int32} {s0 : Int32}   (kt : s0 = 0 → Sat (EC l D aI aL ad) M_X6_table P 41 [(0, .ref (ad 0))] [] I J) (kf : ¬ s0 = 0 → Sat (EC l D aI aL ad) M_X6_table P 33 [(0, .ref (ad 0)), (1, .int x1), (2, .int x2), (3, .int x3)] [] I J) : Sat (EC l D aI aL ad) M_X6_table P 30 [(0, .ref (ad 0)), (1, .int x1), (2, .int x2), (3, .int x3)] [.int s0] I J := by
  refine s_if_eq (tgt := 41) dX6_table_30 (by decide) (fun c => ?_) (fun c => ?_)
  · refine s_pick [0] [(0, .ref (ad 0))] rfl ?_; exact kt c
  · exact kf c
theorem bX6_table_33 {l : Launch} {D : va_G} {aI aL : ClassId} {ad : Nat → Nat} {P : sa_P} {I : sa_I} {J : sa_J} {x1 : Int32} {x2 : Int32} {x3 : Int32}   (k : Sat (EC l D aI aL ad) M_X6_table P 35 [(0, .ref (ad 0)), (1, .int x1), (2, .int x2), (3, .int x3)] [.int x3, .ref (ad 0)] I J) : Sat (EC l D aI aL ad) M_X6_table P 33 [(0, .ref (ad 0)), (1, .int x1), (2, .int x2), (3, .int x3)] [] I J := by
  refine s_aload_n 0 dX6_table_33 rfl ?_
  refine s_iload_n 3 dX6_table_34 rfl ?_
  exact k
theorem bX6_table_38 {l : Launch} {D : va_G} {aI aL : ClassId} {ad : Nat → Nat} {P : sa_P} {I : sa_I} {J : sa_J} {x1 : Int32} {x2 : Int32} {x3 : Int32} {s0 : Int32}   (kt : ¬ s0 = 0 → Sat (EC l D aI aL ad) M_X6_table P 47 [(0, .ref (ad 0)), (1, .int x1), (2, .int x2), (3, .int x3)] [] I J) (kf : s0 = 0 → Sat (EC l D aI aL ad) M_X6_table P 41 [(0, .ref (ad 0))] [] I J) : Sat (EC l D aI aL ad) M_X6_table P 38 [(0, .ref (ad 0)), (1, .int x1), (2, .int x2), (3, .int x3)] [.int s0] I J := by
  refine s_if_ne (tgt := 47) dX6_table_38 (by decide) (fun c => ?_) (fun c => ?_)
  · exact kt c
  · refine s_pick [0] [(0, .ref (ad 0))] rfl ?_; exact kf (by first | exact c | exact Classical.not_not.mp c)
theorem bX6_table_41 {l : Launch} {D : va_G} {aI aL : ClassId} {ad : Nat → Nat} {P : sa_P} {I : sa_I} {J : sa_J}    (k : Sat (EC l D aI aL ad) M_X6_table P 43 [] [.int (-1 : Int32), .ref (ad 0)] I J) : Sat (EC l D aI aL ad) M_X6_table P 41 [(0, .ref (ad 0))] [] I J := by
  refine s_aload_n 0 dX6_table_41 rfl ?_
  refine s_iconst (v := -1) dX6_table_42 rfl ?_
  refine s_pick [] [] rfl ?_; exact k
theorem bX6_table_46 {l : Launch} {D : va_G} {aI aL : ClassId} {ad : Nat → Nat} {P : sa_P} {I : sa_I} {J : sa_J} {s0 : Int32}   (k : P (some (.int s0)) I J) : Sat (EC l D aI aL ad) M_X6_table P 46 [] [.int s0] I J := by
  exact s_iret rfl dX6_table_46 k
theorem bX6_table_47 {l : Launch} {D : va_G} {aI aL : ClassId} {ad : Nat → Nat} {P : sa_P} {I : sa_I} {J : sa_J} {x1 : Int32} {x2 : Int32} {x3 : Int32} {j63 : Nat} (e63 : (((9 : Int32) * x1) + ((3 : Int32) * x2)) + x3 = nI j63) (h64 : j63 < 27)  (k : P (some (.int ((J 8 j63).toInt32))) I J) : Sat (EC l D aI aL ad) M_X6_table P 47 [(0, .ref (ad 0)), (1, .int x1), (2, .int x2), (3, .int x3)] [] I J := by
  refine s_aload_n 0 dX6_table_47 rfl ?_
  refine g_X6_23 dX6_table_48 rfl ?_
  refine g_X6_119 dX6_table_51 rfl ?_
  refine s_bipush (v := 9) dX6_table_54 rfl ?_
  refine s_iload_n 1 dX6_table_56 rfl ?_
  refine s_imul dX6_table_57 ?_
  refine s_iconst (v := 3) dX6_table_58 rfl ?_
  refine s_iload_n 2 dX6_table_59 rfl ?_
  refine s_imul dX6_table_60 ?_
  refine s_iadd dX6_table_61 ?_
  refine s_iload_n 3 dX6_table_62 rfl ?_
  refine s_iadd dX6_table_63 ?_
  refine s_eqi e63 ?_
  refine s_laloadN aJ_C8 h64 (by decide) dX6_table_64 ?_
  refine s_l2i dX6_table_65 ?_
  exact s_iret rfl dX6_table_66 k
/-! X6_element -/
theorem dX6_element_0 : decode cX6_element 0 = .ok (.aload_n 0, 1) := by decide +kernel
theorem dX6_element_1 : decode cX6_element 1 = .ok (.getfield 23, 3) := by decide +kernel
theorem dX6_element_4 : decode cX6_element 4 = .ok (.getfield 85, 3) := by decide +kernel
theorem dX6_element_7 : decode cX6_element 7 = .ok (.ifCond .ne 10, 3) := by decide +kernel
theorem dX6_element_10 : decode cX6_element 10 = .ok (.aload_n 0, 1) := by decide +kernel
theorem dX6_element_11 : decode cX6_element 11 = .ok (.bipush (-3), 2) := by decide +kernel
theorem dX6_element_13 : decode cX6_element 13 = .ok (.invokevirtual 59, 3) := by decide +kernel
theorem dX6_element_16 : decode cX6_element 16 = .ok (.ireturn, 1) := by decide +kernel
theorem dX6_element_17 : decode cX6_element 17 = .ok (.aload_n 0, 1) := by decide +kernel
theorem dX6_element_18 : decode cX6_element 18 = .ok (.getfield 23, 3) := by decide +kernel
theorem dX6_element_21 : decode cX6_element 21 = .ok (.getfield 85, 3) := by decide +kernel
theorem dX6_element_24 : decode cX6_element 24 = .ok (.iconst 2, 1) := by decide +kernel
theorem dX6_element_25 : decode cX6_element 25 = .ok (.if_icmp .ne 13, 3) := by decide +kernel
theorem dX6_element_28 : decode cX6_element 28 = .ok (.iload_n 3, 1) := by decide +kernel
theorem dX6_element_29 : decode cX6_element 29 = .ok (.ifCond .eq 9, 3) := by decide +kernel
theorem dX6_element_32 : decode cX6_element 32 = .ok (.aload_n 0, 1) := by decide +kernel
theorem dX6_element_33 : decode cX6_element 33 = .ok (.iconst (-1), 1) := by decide +kernel
theorem dX6_element_34 : decode cX6_element 34 = .ok (.invokevirtual 59, 3) := by decide +kernel
theorem dX6_element_37 : decode cX6_element 37 = .ok (.ireturn, 1) := by decide +kernel
theorem dX6_element_38 : decode cX6_element 38 = .ok (.aload_n 0, 1) := by decide +kernel
theorem dX6_element_39 : decode cX6_element 39 = .ok (.getfield 23, 3) := by decide +kernel
theorem dX6_element_42 : decode cX6_element 42 = .ok (.getfield 122, 3) := by decide +kernel
theorem dX6_element_45 : decode cX6_element 45 = .ok (.iconst 0, 1) := by decide +kernel
theorem dX6_element_46 : decode cX6_element 46 = .ok (.iload_n 1, 1) := by decide +kernel
theorem dX6_element_47 : decode cX6_element 47 = .ok (.i2l, 1) := by decide +kernel
theorem dX6_element_48 : decode cX6_element 48 = .ok (.lastore, 1) := by decide +kernel
theorem dX6_element_49 : decode cX6_element 49 = .ok (.aload_n 0, 1) := by decide +kernel
theorem dX6_element_50 : decode cX6_element 50 = .ok (.getfield 23, 3) := by decide +kernel
theorem dX6_element_53 : decode cX6_element 53 = .ok (.getfield 122, 3) := by decide +kernel
theorem dX6_element_56 : decode cX6_element 56 = .ok (.iconst 1, 1) := by decide +kernel
theorem dX6_element_57 : decode cX6_element 57 = .ok (.iload_n 2, 1) := by decide +kernel
theorem dX6_element_58 : decode cX6_element 58 = .ok (.i2l, 1) := by decide +kernel
theorem dX6_element_59 : decode cX6_element 59 = .ok (.lastore, 1) := by decide +kernel
theorem dX6_element_60 : decode cX6_element 60 = .ok (.aload_n 0, 1) := by decide +kernel
theorem dX6_element_61 : decode cX6_element 61 = .ok (.getfield 23, 3) := by decide +kernel
theorem dX6_element_64 : decode cX6_element 64 = .ok (.getfield 122, 3) := by decide +kernel
theorem dX6_element_67 : decode cX6_element 67 = .ok (.iconst 2, 1) := by decide +kernel
theorem dX6_element_68 : decode cX6_element 68 = .ok (.iload_n 3, 1) := by decide +kernel
theorem dX6_element_69 : decode cX6_element 69 = .ok (.i2l, 1) := by decide +kernel
theorem dX6_element_70 : decode cX6_element 70 = .ok (.lastore, 1) := by decide +kernel
theorem dX6_element_71 : decode cX6_element 71 = .ok (.aload_n 0, 1) := by decide +kernel
theorem dX6_element_72 : decode cX6_element 72 = .ok (.invokevirtual 125, 3) := by decide +kernel
theorem dX6_element_75 : decode cX6_element 75 = .ok (.ireturn, 1) := by decide +kernel
theorem bX6_element_0 {l : Launch} {D : va_G} {aI aL : ClassId} {ad : Nat → Nat} {P : sa_P} {I : sa_I} {J : sa_J} {x1 : Int32} {x2 : Int32} {x3 : Int32}   (kt : ¬ I 4 0 = 0 → Sat (EC l D aI aL ad) M_X6_element P 17 [(0, .ref (ad 0)), (1, .int x1), (2, .int x2), (3, .int x3)] [] I J) (kf : I 4 0 = 0 → Sat (EC l D aI aL ad) M_X6_element P 10 [(0, .ref (ad 0))] [] I J) : Sat (EC l D aI aL ad) M_X6_element P 0 [(0, .ref (ad 0)), (1, .int x1), (2, .int x2), (3, .int x3)] [] I J := by
  refine s_aload_n 0 dX6_element_0 rfl ?_
  refine g_X6_23 dX6_element_1 rfl ?_
  refine g_X6_85 dX6_element_4 rfl ?_
  refine s_if_ne (tgt := 17) dX6_element_7 (by decide) (fun c => ?_) (fun c => ?_)
  · exact kt c
  · refine s_pick [0] [(0, .ref (ad 0))] rfl ?_; exact kf (by first | exact c | exact Classical.not_not.mp c)
theorem bX6_element_10 {l : Launch} {D : va_G} {aI aL : ClassId} {ad : Nat → Nat} {P : sa_P} {I : sa_I} {J : sa_J}    (k : Sat (EC l D aI aL ad) M_X6_element P 13 [] [.int (-3 : Int32), .ref (ad 0)] I J) : Sat (EC l D aI aL ad) M_X6_element P 10 [(0, .ref (ad 0))] [] I J := by
  refine s_aload_n 0 dX6_element_10 rfl ?_
  refine s_bipush (v := -3) dX6_element_11 rfl ?_
  refine s_pick [] [] rfl ?_; exact k
theorem bX6_element_16 {l : Launch} {D : va_G} {aI aL : ClassId} {ad : Nat → Nat} {P : sa_P} {I : sa_I} {J : sa_J} {s0 : Int32}   (k : P (some (.int s0)) I J) : Sat (EC l D aI aL ad) M_X6_element P 16 [] [.int s0] I J := by
  exact s_iret rfl dX6_element_16 k
theorem bX6_element_17 {l : Launch} {D : va_G} {aI aL : ClassId} {ad : Nat → Nat} {P : sa_P} {I : sa_I} {J : sa_J} {x1 : Int32} {x2 : Int32} {x3 : Int32}   (kt : ¬ I 4 0 = (2 : Int32) → Sat (EC l D aI aL ad) M_X6_element P 38 [(0, .ref (ad 0)), (1, .int x1), (2, .int x2), (3, .int x3)] [] I J) (kf : I 4 0 = (2 : Int32) → Sat (EC l D aI aL ad) M_X6_element P 28 [(0, .ref (ad 0)), (1, .int x1), (2, .int x2), (3, .int x3)] [] I J) : Sat (EC l D aI aL ad) M_X6_element P 17 [(0, .ref (ad 0)), (1, .int x1), (2, .int x2), (3, .int x3)] [] I J := by
  refine s_aload_n 0 dX6_element_17 rfl ?_
  refine g_X6_23 dX6_element_18 rfl ?_
  refine g_X6_85 dX6_element_21 rfl ?_
  refine s_iconst (v := 2) dX6_element_24 rfl ?_
  refine s_icmp_ne (tgt := 38) dX6_element_25 (by decide) (fun c => ?_) (fun c => ?_)
  · exact kt c
  · exact kf (by first | exact c | exact Classical.not_not.mp c)
theorem bX6_element_28 {l : Launch} {D : va_G} {aI aL : ClassId} {ad : Nat → Nat} {P : sa_P} {I : sa_I} {J : sa_J} {x1 : Int32} {x2 : Int32} {x3 : Int32}   (kt : x3 = 0 → Sat (EC l D aI aL ad) M_X6_element P 38 [(0, .ref (ad 0)), (1, .int x1), (2, .int x2), (3, .int x3)] [] I J) (kf : ¬ x3 = 0 → Sat (EC l D aI aL ad) M_X6_element P 32 [(0, .ref (ad 0))] [] I J) : Sat (EC l D aI aL ad) M_X6_element P 28 [(0, .ref (ad 0)), (1, .int x1), (2, .int x2), (3, .int x3)] [] I J := by
  refine s_iload_n 3 dX6_element_28 rfl ?_
  refine s_if_eq (tgt := 38) dX6_element_29 (by decide) (fun c => ?_) (fun c => ?_)
  · exact kt c
  · refine s_pick [0] [(0, .ref (ad 0))] rfl ?_; exact kf c
theorem bX6_element_32 {l : Launch} {D : va_G} {aI aL : ClassId} {ad : Nat → Nat} {P : sa_P} {I : sa_I} {J : sa_J}    (k : Sat (EC l D aI aL ad) M_X6_element P 34 [] [.int (-1 : Int32), .ref (ad 0)] I J) : Sat (EC l D aI aL ad) M_X6_element P 32 [(0, .ref (ad 0))] [] I J := by
  refine s_aload_n 0 dX6_element_32 rfl ?_
  refine s_iconst (v := -1) dX6_element_33 rfl ?_
  refine s_pick [] [] rfl ?_; exact k
theorem bX6_element_37 {l : Launch} {D : va_G} {aI aL : ClassId} {ad : Nat → Nat} {P : sa_P} {I : sa_I} {J : sa_J} {s0 : Int32}   (k : P (some (.int s0)) I J) : Sat (EC l D aI aL ad) M_X6_element P 37 [] [.int s0] I J := by
  exact s_iret rfl dX6_element_37 k
theorem bX6_element_38 {l : Launch} {D : va_G} {aI aL : ClassId} {ad : Nat → Nat} {P : sa_P} {I : sa_I} {J : sa_J} {x1 : Int32} {x2 : Int32} {x3 : Int32} {v48 : Int64} {v59 : Int64} {v70 : Int64}  (f48 : x1.toInt64 = v48) (f59 : x2.toInt64 = v59) (f70 : x3.toInt64 = v70) (k : Sat (EC l D aI aL ad) M_X6_element P 72 [] [.ref (ad 0)] I (sa_uJ (sa_uJ (sa_uJ J 9 0 v48) 9 1 v59) 9 2 v70)) : Sat (EC l D aI aL ad) M_X6_element P 38 [(0, .ref (ad 0)), (1, .int x1), (2, .int x2), (3, .int x3)] [] I J := by
  refine s_aload_n 0 dX6_element_38 rfl ?_
  refine g_X6_23 dX6_element_39 rfl ?_
  refine g_X6_122 dX6_element_42 rfl ?_
  refine s_iconst (v := 0) dX6_element_45 rfl ?_
  refine s_eqi (y := nI 0) rfl ?_
  refine s_iload_n 1 dX6_element_46 rfl ?_
  refine s_i2l dX6_element_47 ?_
  refine s_eql f48 ?_
  refine s_lastoreN aJ_C9 (by decide) (by decide) dX6_element_48 ?_
  refine s_aload_n 0 dX6_element_49 rfl ?_
  refine g_X6_23 dX6_element_50 rfl ?_
  refine g_X6_122 dX6_element_53 rfl ?_
  refine s_iconst (v := 1) dX6_element_56 rfl ?_
  refine s_eqi (y := nI 1) rfl ?_
  refine s_iload_n 2 dX6_element_57 rfl ?_
  refine s_i2l dX6_element_58 ?_
  refine s_eql f59 ?_
  refine s_lastoreN aJ_C9 (by decide) (by decide) dX6_element_59 ?_
  refine s_aload_n 0 dX6_element_60 rfl ?_
  refine g_X6_23 dX6_element_61 rfl ?_
  refine g_X6_122 dX6_element_64 rfl ?_
  refine s_iconst (v := 2) dX6_element_67 rfl ?_
  refine s_eqi (y := nI 2) rfl ?_
  refine s_iload_n 3 dX6_element_68 rfl ?_
  refine s_i2l dX6_element_69 ?_
  refine s_eql f70 ?_
  refine s_lastoreN aJ_C9 (by decide) (by decide) dX6_element_70 ?_
  refine s_aload_n 0 dX6_element_71 rfl ?_
  refine s_pick [] [] rfl ?_; exact k
theorem bX6_element_75 {l : Launch} {D : va_G} {aI aL : ClassId} {ad : Nat → Nat} {P : sa_P} {I : sa_I} {J : sa_J} {s0 : Int32}   (k : P (some (.int s0)) I J) : Sat (EC l D aI aL ad) M_X6_element P 75 [] [.int s0] I J := by
  exact s_iret rfl dX6_element_75 k
/-! X6_make -/
theorem dX6_make_0 : decode cX6_make 0 = .ok (.aload_n 0, 1) := by decide +kernel
theorem dX6_make_1 : decode cX6_make 1 = .ok (.getfield 23, 3) := by decide +kernel
theorem dX6_make_4 : decode cX6_make 4 = .ok (.getfield 85, 3) := by decide +kernel
theorem dX6_make_7 : decode cX6_make 7 = .ok (.ifCond .ne 10, 3) := by decide +kernel
theorem dX6_make_10 : decode cX6_make 10 = .ok (.aload_n 0, 1) := by decide +kernel
theorem dX6_make_11 : decode cX6_make 11 = .ok (.bipush (-3), 2) := by decide +kernel
theorem dX6_make_13 : decode cX6_make 13 = .ok (.invokevirtual 59, 3) := by decide +kernel
theorem dX6_make_16 : decode cX6_make 16 = .ok (.ireturn, 1) := by decide +kernel
theorem dX6_make_17 : decode cX6_make 17 = .ok (.aload_n 0, 1) := by decide +kernel
theorem dX6_make_18 : decode cX6_make 18 = .ok (.iload_n 2, 1) := by decide +kernel
theorem dX6_make_19 : decode cX6_make 19 = .ok (.invokevirtual 128, 3) := by decide +kernel
theorem dX6_make_22 : decode cX6_make 22 = .ok (.ifCond .eq 11, 3) := by decide +kernel
theorem dX6_make_25 : decode cX6_make 25 = .ok (.aload_n 0, 1) := by decide +kernel
theorem dX6_make_26 : decode cX6_make 26 = .ok (.iload_n 3, 1) := by decide +kernel
theorem dX6_make_27 : decode cX6_make 27 = .ok (.invokevirtual 128, 3) := by decide +kernel
theorem dX6_make_30 : decode cX6_make 30 = .ok (.ifCond .ne 9, 3) := by decide +kernel
theorem dX6_make_33 : decode cX6_make 33 = .ok (.aload_n 0, 1) := by decide +kernel
theorem dX6_make_34 : decode cX6_make 34 = .ok (.iconst (-1), 1) := by decide +kernel
theorem dX6_make_35 : decode cX6_make 35 = .ok (.invokevirtual 59, 3) := by decide +kernel
theorem dX6_make_38 : decode cX6_make 38 = .ok (.ireturn, 1) := by decide +kernel
theorem dX6_make_39 : decode cX6_make 39 = .ok (.iload_n 1, 1) := by decide +kernel
theorem dX6_make_40 : decode cX6_make 40 = .ok (.ifCond .lt 8, 3) := by decide +kernel
theorem dX6_make_43 : decode cX6_make 43 = .ok (.iload_n 1, 1) := by decide +kernel
theorem dX6_make_44 : decode cX6_make 44 = .ok (.iconst 3, 1) := by decide +kernel
theorem dX6_make_45 : decode cX6_make 45 = .ok (.if_icmp .le 10, 3) := by decide +kernel
theorem dX6_make_48 : decode cX6_make 48 = .ok (.aload_n 0, 1) := by decide +kernel
theorem dX6_make_49 : decode cX6_make 49 = .ok (.bipush (-2), 2) := by decide +kernel
theorem dX6_make_51 : decode cX6_make 51 = .ok (.invokevirtual 59, 3) := by decide +kernel
theorem dX6_make_54 : decode cX6_make 54 = .ok (.ireturn, 1) := by decide +kernel
theorem dX6_make_55 : decode cX6_make 55 = .ok (.iload_n 1, 1) := by decide +kernel
theorem dX6_make_56 : decode cX6_make 56 = .ok (.iconst 3, 1) := by decide +kernel
theorem dX6_make_57 : decode cX6_make 57 = .ok (.if_icmp .ne 30, 3) := by decide +kernel
theorem dX6_make_60 : decode cX6_make 60 = .ok (.aload_n 0, 1) := by decide +kernel
theorem dX6_make_61 : decode cX6_make 61 = .ok (.getfield 23, 3) := by decide +kernel
theorem dX6_make_64 : decode cX6_make 64 = .ok (.aload_n 0, 1) := by decide +kernel
theorem dX6_make_65 : decode cX6_make 65 = .ok (.getfield 13, 3) := by decide +kernel
theorem dX6_make_68 : decode cX6_make 68 = .ok (.iconst 3, 1) := by decide +kernel
theorem dX6_make_69 : decode cX6_make 69 = .ok (.iload_n 2, 1) := by decide +kernel
theorem dX6_make_70 : decode cX6_make 70 = .ok (.imul, 1) := by decide +kernel
theorem dX6_make_71 : decode cX6_make 71 = .ok (.iconst 3, 1) := by decide +kernel
theorem dX6_make_72 : decode cX6_make 72 = .ok (.iload_n 3, 1) := by decide +kernel
theorem dX6_make_73 : decode cX6_make 73 = .ok (.imul, 1) := by decide +kernel
theorem dX6_make_74 : decode cX6_make 74 = .ok (.invokevirtual 131, 3) := by decide +kernel
theorem dX6_make_77 : decode cX6_make 77 = .ok (.ifCond .ne 10, 3) := by decide +kernel
theorem dX6_make_80 : decode cX6_make 80 = .ok (.aload_n 0, 1) := by decide +kernel
theorem dX6_make_81 : decode cX6_make 81 = .ok (.bipush (-3), 2) := by decide +kernel
theorem dX6_make_83 : decode cX6_make 83 = .ok (.invokevirtual 59, 3) := by decide +kernel
theorem dX6_make_86 : decode cX6_make 86 = .ok (.ireturn, 1) := by decide +kernel
theorem dX6_make_87 : decode cX6_make 87 = .ok (.iload_n 1, 1) := by decide +kernel
theorem dX6_make_88 : decode cX6_make 88 = .ok (.iconst 2, 1) := by decide +kernel
theorem dX6_make_89 : decode cX6_make 89 = .ok (.if_icmp .ne 24, 3) := by decide +kernel
theorem dX6_make_92 : decode cX6_make 92 = .ok (.aload_n 0, 1) := by decide +kernel
theorem dX6_make_93 : decode cX6_make 93 = .ok (.getfield 23, 3) := by decide +kernel
theorem dX6_make_96 : decode cX6_make 96 = .ok (.aload_n 0, 1) := by decide +kernel
theorem dX6_make_97 : decode cX6_make 97 = .ok (.getfield 13, 3) := by decide +kernel
theorem dX6_make_100 : decode cX6_make 100 = .ok (.iconst 3, 1) := by decide +kernel
theorem dX6_make_101 : decode cX6_make 101 = .ok (.iload_n 2, 1) := by decide +kernel
theorem dX6_make_102 : decode cX6_make 102 = .ok (.imul, 1) := by decide +kernel
theorem dX6_make_103 : decode cX6_make 103 = .ok (.aload_n 0, 1) := by decide +kernel
theorem dX6_make_104 : decode cX6_make 104 = .ok (.getfield 13, 3) := by decide +kernel
theorem dX6_make_107 : decode cX6_make 107 = .ok (.iconst 3, 1) := by decide +kernel
theorem dX6_make_108 : decode cX6_make 108 = .ok (.iload_n 3, 1) := by decide +kernel
theorem dX6_make_109 : decode cX6_make 109 = .ok (.imul, 1) := by decide +kernel
theorem dX6_make_110 : decode cX6_make 110 = .ok (.invokevirtual 135, 3) := by decide +kernel
theorem dX6_make_113 : decode cX6_make 113 = .ok (.iload_n 1, 1) := by decide +kernel
theorem dX6_make_114 : decode cX6_make 114 = .ok (.iconst 2, 1) := by decide +kernel
theorem dX6_make_115 : decode cX6_make 115 = .ok (.if_icmp .ge 31, 3) := by decide +kernel
theorem dX6_make_118 : decode cX6_make 118 = .ok (.aload_n 0, 1) := by decide +kernel
theorem dX6_make_119 : decode cX6_make 119 = .ok (.getfield 23, 3) := by decide +kernel
theorem dX6_make_122 : decode cX6_make 122 = .ok (.aload_n 0, 1) := by decide +kernel
theorem dX6_make_123 : decode cX6_make 123 = .ok (.getfield 13, 3) := by decide +kernel
theorem dX6_make_126 : decode cX6_make 126 = .ok (.iconst 3, 1) := by decide +kernel
theorem dX6_make_127 : decode cX6_make 127 = .ok (.iload_n 2, 1) := by decide +kernel
theorem dX6_make_128 : decode cX6_make 128 = .ok (.imul, 1) := by decide +kernel
theorem dX6_make_129 : decode cX6_make 129 = .ok (.iconst 3, 1) := by decide +kernel
theorem dX6_make_130 : decode cX6_make 130 = .ok (.iload_n 3, 1) := by decide +kernel
theorem dX6_make_131 : decode cX6_make 131 = .ok (.imul, 1) := by decide +kernel
theorem dX6_make_132 : decode cX6_make 132 = .ok (.iload_n 1, 1) := by decide +kernel
theorem dX6_make_133 : decode cX6_make 133 = .ok (.ifCond .ne 7, 3) := by decide +kernel
theorem dX6_make_136 : decode cX6_make 136 = .ok (.lconst 1, 1) := by decide +kernel
theorem dX6_make_137 : decode cX6_make 137 = .ok (.goto 6, 3) := by decide +kernel
theorem dX6_make_140 : decode cX6_make 140 = .ok (.ldc2_w 139, 3) := by decide +kernel
theorem dX6_make_143 : decode cX6_make 143 = .ok (.invokevirtual 141, 3) := by decide +kernel
theorem dX6_make_146 : decode cX6_make 146 = .ok (.aload_n 0, 1) := by decide +kernel
theorem dX6_make_147 : decode cX6_make 147 = .ok (.invokevirtual 125, 3) := by decide +kernel
theorem dX6_make_150 : decode cX6_make 150 = .ok (.ireturn, 1) := by decide +kernel
theorem bX6_make_0 {l : Launch} {D : va_G} {aI aL : ClassId} {ad : Nat → Nat} {P : sa_P} {I : sa_I} {J : sa_J} {x1 : Int32} {x2 : Int32} {x3 : Int32}   (kt : ¬ I 4 0 = 0 → Sat (EC l D aI aL ad) M_X6_make P 17 [(0, .ref (ad 0)), (1, .int x1), (2, .int x2), (3, .int x3)] [] I J) (kf : I 4 0 = 0 → Sat (EC l D aI aL ad) M_X6_make P 10 [(0, .ref (ad 0))] [] I J) : Sat (EC l D aI aL ad) M_X6_make P 0 [(0, .ref (ad 0)), (1, .int x1), (2, .int x2), (3, .int x3)] [] I J := by
  refine s_aload_n 0 dX6_make_0 rfl ?_
  refine g_X6_23 dX6_make_1 rfl ?_
  refine g_X6_85 dX6_make_4 rfl ?_
  refine s_if_ne (tgt := 17) dX6_make_7 (by decide) (fun c => ?_) (fun c => ?_)
  · exact kt c
  · refine s_pick [0] [(0, .ref (ad 0))] rfl ?_; exact kf (by first | exact c | exact Classical.not_not.mp c)
theorem bX6_make_10 {l : Launch} {D : va_G} {aI aL : ClassId} {ad : Nat → Nat} {P : sa_P} {I : sa_I} {J : sa_J}    (k : Sat (EC l D aI aL ad) M_X6_make P 13 [] [.int (-3 : Int32), .ref (ad 0)] I J) : Sat (EC l D aI aL ad) M_X6_make P 10 [(0, .ref (ad 0))] [] I J := by
  refine s_aload_n 0 dX6_make_10 rfl ?_
  refine s_bipush (v := -3) dX6_make_11 rfl ?_
  refine s_pick [] [] rfl ?_; exact k
theorem bX6_make_16 {l : Launch} {D : va_G} {aI aL : ClassId} {ad : Nat → Nat} {P : sa_P} {I : sa_I} {J : sa_J} {s0 : Int32}   (k : P (some (.int s0)) I J) : Sat (EC l D aI aL ad) M_X6_make P 16 [] [.int s0] I J := by
  exact s_iret rfl dX6_make_16 k
theorem bX6_make_17 {l : Launch} {D : va_G} {aI aL : ClassId} {ad : Nat → Nat} {P : sa_P} {I : sa_I} {J : sa_J} {x1 : Int32} {x2 : Int32} {x3 : Int32}   (k : Sat (EC l D aI aL ad) M_X6_make P 19 [(0, .ref (ad 0)), (1, .int x1), (2, .int x2), (3, .int x3)] [.int x2, .ref (ad 0)] I J) : Sat (EC l D aI aL ad) M_X6_make P 17 [(0, .ref (ad 0)), (1, .int x1), (2, .int x2), (3, .int x3)] [] I J := by
  refine s_aload_n 0 dX6_make_17 rfl ?_
  refine s_iload_n 2 dX6_make_18 rfl ?_
  exact k
theorem bX6_make_22 {l : Launch} {D : va_G} {aI aL : ClassId} {ad : Nat → Nat} {P : sa_P} {I : sa_I} {J : sa_J} {x1 : Int32} {x2 : Int32} {x3 : Int32} {s0 : Int32}   (kt : s0 = 0 → Sat (EC l D aI aL ad) M_X6_make P 33 [(0, .ref (ad 0))] [] I J) (kf : ¬ s0 = 0 → Sat (EC l D aI aL ad) M_X6_make P 25 [(0, .ref (ad 0)), (1, .int x1), (2, .int x2), (3, .int x3)] [] I J) : Sat (EC l D aI aL ad) M_X6_make P 22 [(0, .ref (ad 0)), (1, .int x1), (2, .int x2), (3, .int x3)] [.int s0] I J := by
  refine s_if_eq (tgt := 33) dX6_make_22 (by decide) (fun c => ?_) (fun c => ?_)
  · refine s_pick [0] [(0, .ref (ad 0))] rfl ?_; exact kt c
  · exact kf c
theorem bX6_make_25 {l : Launch} {D : va_G} {aI aL : ClassId} {ad : Nat → Nat} {P : sa_P} {I : sa_I} {J : sa_J} {x1 : Int32} {x2 : Int32} {x3 : Int32}   (k : Sat (EC l D aI aL ad) M_X6_make P 27 [(0, .ref (ad 0)), (1, .int x1), (2, .int x2), (3, .int x3)] [.int x3, .ref (ad 0)] I J) : Sat (EC l D aI aL ad) M_X6_make P 25 [(0, .ref (ad 0)), (1, .int x1), (2, .int x2), (3, .int x3)] [] I J := by
  refine s_aload_n 0 dX6_make_25 rfl ?_
  refine s_iload_n 3 dX6_make_26 rfl ?_
  exact k
theorem bX6_make_30 {l : Launch} {D : va_G} {aI aL : ClassId} {ad : Nat → Nat} {P : sa_P} {I : sa_I} {J : sa_J} {x1 : Int32} {x2 : Int32} {x3 : Int32} {s0 : Int32}   (kt : ¬ s0 = 0 → Sat (EC l D aI aL ad) M_X6_make P 39 [(0, .ref (ad 0)), (1, .int x1), (2, .int x2), (3, .int x3)] [] I J) (kf : s0 = 0 → Sat (EC l D aI aL ad) M_X6_make P 33 [(0, .ref (ad 0))] [] I J) : Sat (EC l D aI aL ad) M_X6_make P 30 [(0, .ref (ad 0)), (1, .int x1), (2, .int x2), (3, .int x3)] [.int s0] I J := by
  refine s_if_ne (tgt := 39) dX6_make_30 (by decide) (fun c => ?_) (fun c => ?_)
  · exact kt c
  · refine s_pick [0] [(0, .ref (ad 0))] rfl ?_; exact kf (by first | exact c | exact Classical.not_not.mp c)
theorem bX6_make_33 {l : Launch} {D : va_G} {aI aL : ClassId} {ad : Nat → Nat} {P : sa_P} {I : sa_I} {J : sa_J}    (k : Sat (EC l D aI aL ad) M_X6_make P 35 [] [.int (-1 : Int32), .ref (ad 0)] I J) : Sat (EC l D aI aL ad) M_X6_make P 33 [(0, .ref (ad 0))] [] I J := by
  refine s_aload_n 0 dX6_make_33 rfl ?_
  refine s_iconst (v := -1) dX6_make_34 rfl ?_
  refine s_pick [] [] rfl ?_; exact k
theorem bX6_make_38 {l : Launch} {D : va_G} {aI aL : ClassId} {ad : Nat → Nat} {P : sa_P} {I : sa_I} {J : sa_J} {s0 : Int32}   (k : P (some (.int s0)) I J) : Sat (EC l D aI aL ad) M_X6_make P 38 [] [.int s0] I J := by
  exact s_iret rfl dX6_make_38 k
theorem bX6_make_39 {l : Launch} {D : va_G} {aI aL : ClassId} {ad : Nat → Nat} {P : sa_P} {I : sa_I} {J : sa_J} {x1 : Int32} {x2 : Int32} {x3 : Int32}   (kt : x1 < 0 → Sat (EC l D aI aL ad) M_X6_make P 48 [(0, .ref (ad 0))] [] I J) (kf : ¬ x1 < 0 → Sat (EC l D aI aL ad) M_X6_make P 43 [(0, .ref (ad 0)), (1, .int x1), (2, .int x2), (3, .int x3)] [] I J) : Sat (EC l D aI aL ad) M_X6_make P 39 [(0, .ref (ad 0)), (1, .int x1), (2, .int x2), (3, .int x3)] [] I J := by
  refine s_iload_n 1 dX6_make_39 rfl ?_
  refine s_if_lt (tgt := 48) dX6_make_40 (by decide) (fun c => ?_) (fun c => ?_)
  · refine s_pick [0] [(0, .ref (ad 0))] rfl ?_; exact kt c
  · exact kf c
theorem bX6_make_43 {l : Launch} {D : va_G} {aI aL : ClassId} {ad : Nat → Nat} {P : sa_P} {I : sa_I} {J : sa_J} {x1 : Int32} {x2 : Int32} {x3 : Int32}   (kt : x1 ≤ (3 : Int32) → Sat (EC l D aI aL ad) M_X6_make P 55 [(0, .ref (ad 0)), (1, .int x1), (2, .int x2), (3, .int x3)] [] I J) (kf : ¬ x1 ≤ (3 : Int32) → Sat (EC l D aI aL ad) M_X6_make P 48 [(0, .ref (ad 0))] [] I J) : Sat (EC l D aI aL ad) M_X6_make P 43 [(0, .ref (ad 0)), (1, .int x1), (2, .int x2), (3, .int x3)] [] I J := by
  refine s_iload_n 1 dX6_make_43 rfl ?_
  refine s_iconst (v := 3) dX6_make_44 rfl ?_
  refine s_icmp_le (tgt := 55) dX6_make_45 (by decide) (fun c => ?_) (fun c => ?_)
  · exact kt c
  · refine s_pick [0] [(0, .ref (ad 0))] rfl ?_; exact kf c
theorem bX6_make_48 {l : Launch} {D : va_G} {aI aL : ClassId} {ad : Nat → Nat} {P : sa_P} {I : sa_I} {J : sa_J}    (k : Sat (EC l D aI aL ad) M_X6_make P 51 [] [.int (-2 : Int32), .ref (ad 0)] I J) : Sat (EC l D aI aL ad) M_X6_make P 48 [(0, .ref (ad 0))] [] I J := by
  refine s_aload_n 0 dX6_make_48 rfl ?_
  refine s_bipush (v := -2) dX6_make_49 rfl ?_
  refine s_pick [] [] rfl ?_; exact k
theorem bX6_make_54 {l : Launch} {D : va_G} {aI aL : ClassId} {ad : Nat → Nat} {P : sa_P} {I : sa_I} {J : sa_J} {s0 : Int32}   (k : P (some (.int s0)) I J) : Sat (EC l D aI aL ad) M_X6_make P 54 [] [.int s0] I J := by
  exact s_iret rfl dX6_make_54 k
theorem bX6_make_55 {l : Launch} {D : va_G} {aI aL : ClassId} {ad : Nat → Nat} {P : sa_P} {I : sa_I} {J : sa_J} {x1 : Int32} {x2 : Int32} {x3 : Int32}   (kt : ¬ x1 = (3 : Int32) → Sat (EC l D aI aL ad) M_X6_make P 87 [(0, .ref (ad 0)), (1, .int x1), (2, .int x2), (3, .int x3)] [] I J) (kf : x1 = (3 : Int32) → Sat (EC l D aI aL ad) M_X6_make P 60 [(0, .ref (ad 0)), (1, .int x1), (2, .int x2), (3, .int x3)] [] I J) : Sat (EC l D aI aL ad) M_X6_make P 55 [(0, .ref (ad 0)), (1, .int x1), (2, .int x2), (3, .int x3)] [] I J := by
  refine s_iload_n 1 dX6_make_55 rfl ?_
  refine s_iconst (v := 3) dX6_make_56 rfl ?_
  refine s_icmp_ne (tgt := 87) dX6_make_57 (by decide) (fun c => ?_) (fun c => ?_)
  · exact kt c
  · exact kf (by first | exact c | exact Classical.not_not.mp c)
theorem bX6_make_60 {l : Launch} {D : va_G} {aI aL : ClassId} {ad : Nat → Nat} {P : sa_P} {I : sa_I} {J : sa_J} {x1 : Int32} {x2 : Int32} {x3 : Int32}   (k : Sat (EC l D aI aL ad) M_X6_make P 74 [(0, .ref (ad 0)), (1, .int x1), (2, .int x2), (3, .int x3)] [.int ((3 : Int32) * x3), .int ((3 : Int32) * x2), .ref (ad 2), .ref (ad 4)] I J) : Sat (EC l D aI aL ad) M_X6_make P 60 [(0, .ref (ad 0)), (1, .int x1), (2, .int x2), (3, .int x3)] [] I J := by
  refine s_aload_n 0 dX6_make_60 rfl ?_
  refine g_X6_23 dX6_make_61 rfl ?_
  refine s_aload_n 0 dX6_make_64 rfl ?_
  refine g_X6_13 dX6_make_65 rfl ?_
  refine s_iconst (v := 3) dX6_make_68 rfl ?_
  refine s_iload_n 2 dX6_make_69 rfl ?_
  refine s_imul dX6_make_70 ?_
  refine s_iconst (v := 3) dX6_make_71 rfl ?_
  refine s_iload_n 3 dX6_make_72 rfl ?_
  refine s_imul dX6_make_73 ?_
  exact k
theorem bX6_make_77 {l : Launch} {D : va_G} {aI aL : ClassId} {ad : Nat → Nat} {P : sa_P} {I : sa_I} {J : sa_J} {x1 : Int32} {x2 : Int32} {x3 : Int32} {s0 : Int32}   (kt : ¬ s0 = 0 → Sat (EC l D aI aL ad) M_X6_make P 87 [(0, .ref (ad 0)), (1, .int x1), (2, .int x2), (3, .int x3)] [] I J) (kf : s0 = 0 → Sat (EC l D aI aL ad) M_X6_make P 80 [(0, .ref (ad 0))] [] I J) : Sat (EC l D aI aL ad) M_X6_make P 77 [(0, .ref (ad 0)), (1, .int x1), (2, .int x2), (3, .int x3)] [.int s0] I J := by
  refine s_if_ne (tgt := 87) dX6_make_77 (by decide) (fun c => ?_) (fun c => ?_)
  · exact kt c
  · refine s_pick [0] [(0, .ref (ad 0))] rfl ?_; exact kf (by first | exact c | exact Classical.not_not.mp c)
theorem bX6_make_80 {l : Launch} {D : va_G} {aI aL : ClassId} {ad : Nat → Nat} {P : sa_P} {I : sa_I} {J : sa_J}    (k : Sat (EC l D aI aL ad) M_X6_make P 83 [] [.int (-3 : Int32), .ref (ad 0)] I J) : Sat (EC l D aI aL ad) M_X6_make P 80 [(0, .ref (ad 0))] [] I J := by
  refine s_aload_n 0 dX6_make_80 rfl ?_
  refine s_bipush (v := -3) dX6_make_81 rfl ?_
  refine s_pick [] [] rfl ?_; exact k
theorem bX6_make_86 {l : Launch} {D : va_G} {aI aL : ClassId} {ad : Nat → Nat} {P : sa_P} {I : sa_I} {J : sa_J} {s0 : Int32}   (k : P (some (.int s0)) I J) : Sat (EC l D aI aL ad) M_X6_make P 86 [] [.int s0] I J := by
  exact s_iret rfl dX6_make_86 k
theorem bX6_make_87 {l : Launch} {D : va_G} {aI aL : ClassId} {ad : Nat → Nat} {P : sa_P} {I : sa_I} {J : sa_J} {x1 : Int32} {x2 : Int32} {x3 : Int32}   (kt : ¬ x1 = (2 : Int32) → Sat (EC l D aI aL ad) M_X6_make P 113 [(0, .ref (ad 0)), (1, .int x1), (2, .int x2), (3, .int x3)] [] I J) (kf : x1 = (2 : Int32) → Sat (EC l D aI aL ad) M_X6_make P 92 [(0, .ref (ad 0)), (1, .int x1), (2, .int x2), (3, .int x3)] [] I J) : Sat (EC l D aI aL ad) M_X6_make P 87 [(0, .ref (ad 0)), (1, .int x1), (2, .int x2), (3, .int x3)] [] I J := by
  refine s_iload_n 1 dX6_make_87 rfl ?_
  refine s_iconst (v := 2) dX6_make_88 rfl ?_
  refine s_icmp_ne (tgt := 113) dX6_make_89 (by decide) (fun c => ?_) (fun c => ?_)
  · exact kt c
  · exact kf (by first | exact c | exact Classical.not_not.mp c)
theorem bX6_make_92 {l : Launch} {D : va_G} {aI aL : ClassId} {ad : Nat → Nat} {P : sa_P} {I : sa_I} {J : sa_J} {x1 : Int32} {x2 : Int32} {x3 : Int32}   (k : Sat (EC l D aI aL ad) M_X6_make P 110 [(0, .ref (ad 0)), (1, .int x1), (2, .int x2), (3, .int x3)] [.int ((3 : Int32) * x3), .ref (ad 2), .int ((3 : Int32) * x2), .ref (ad 2), .ref (ad 4)] I J) : Sat (EC l D aI aL ad) M_X6_make P 92 [(0, .ref (ad 0)), (1, .int x1), (2, .int x2), (3, .int x3)] [] I J := by
  refine s_aload_n 0 dX6_make_92 rfl ?_
  refine g_X6_23 dX6_make_93 rfl ?_
  refine s_aload_n 0 dX6_make_96 rfl ?_
  refine g_X6_13 dX6_make_97 rfl ?_
  refine s_iconst (v := 3) dX6_make_100 rfl ?_
  refine s_iload_n 2 dX6_make_101 rfl ?_
  refine s_imul dX6_make_102 ?_
  refine s_aload_n 0 dX6_make_103 rfl ?_
  refine g_X6_13 dX6_make_104 rfl ?_
  refine s_iconst (v := 3) dX6_make_107 rfl ?_
  refine s_iload_n 3 dX6_make_108 rfl ?_
  refine s_imul dX6_make_109 ?_
  exact k
theorem bX6_make_113 {l : Launch} {D : va_G} {aI aL : ClassId} {ad : Nat → Nat} {P : sa_P} {I : sa_I} {J : sa_J} {x1 : Int32} {x2 : Int32} {x3 : Int32}   (kt : (2 : Int32) ≤ x1 → Sat (EC l D aI aL ad) M_X6_make P 146 [(0, .ref (ad 0))] [] I J) (kf : ¬ (2 : Int32) ≤ x1 → Sat (EC l D aI aL ad) M_X6_make P 118 [(0, .ref (ad 0)), (1, .int x1), (2, .int x2), (3, .int x3)] [] I J) : Sat (EC l D aI aL ad) M_X6_make P 113 [(0, .ref (ad 0)), (1, .int x1), (2, .int x2), (3, .int x3)] [] I J := by
  refine s_iload_n 1 dX6_make_113 rfl ?_
  refine s_iconst (v := 2) dX6_make_114 rfl ?_
  refine s_icmp_ge (tgt := 146) dX6_make_115 (by decide) (fun c => ?_) (fun c => ?_)
  · refine s_pick [0] [(0, .ref (ad 0))] rfl ?_; exact kt c
  · exact kf c
theorem bX6_make_118 {l : Launch} {D : va_G} {aI aL : ClassId} {ad : Nat → Nat} {P : sa_P} {I : sa_I} {J : sa_J} {x1 : Int32} {x2 : Int32} {x3 : Int32}   (kt : ¬ x1 = 0 → Sat (EC l D aI aL ad) M_X6_make P 140 [(0, .ref (ad 0))] [.int ((3 : Int32) * x3), .int ((3 : Int32) * x2), .ref (ad 2), .ref (ad 4)] I J) (kf : x1 = 0 → Sat (EC l D aI aL ad) M_X6_make P 136 [(0, .ref (ad 0))] [.int ((3 : Int32) * x3), .int ((3 : Int32) * x2), .ref (ad 2), .ref (ad 4)] I J) : Sat (EC l D aI aL ad) M_X6_make P 118 [(0, .ref (ad 0)), (1, .int x1), (2, .int x2), (3, .int x3)] [] I J := by
  refine s_aload_n 0 dX6_make_118 rfl ?_
  refine g_X6_23 dX6_make_119 rfl ?_
  refine s_aload_n 0 dX6_make_122 rfl ?_
  refine g_X6_13 dX6_make_123 rfl ?_
  refine s_iconst (v := 3) dX6_make_126 rfl ?_
  refine s_iload_n 2 dX6_make_127 rfl ?_
  refine s_imul dX6_make_128 ?_
  refine s_iconst (v := 3) dX6_make_129 rfl ?_
  refine s_iload_n 3 dX6_make_130 rfl ?_
  refine s_imul dX6_make_131 ?_
  refine s_iload_n 1 dX6_make_132 rfl ?_
  refine s_if_ne (tgt := 140) dX6_make_133 (by decide) (fun c => ?_) (fun c => ?_)
  · refine s_pick [0] [(0, .ref (ad 0))] rfl ?_; exact kt c
  · refine s_pick [0] [(0, .ref (ad 0))] rfl ?_; exact kf (by first | exact c | exact Classical.not_not.mp c)
theorem bX6_make_136 {l : Launch} {D : va_G} {aI aL : ClassId} {ad : Nat → Nat} {P : sa_P} {I : sa_I} {J : sa_J} {s2 : Int32} {s3 : Int32}   (k : Sat (EC l D aI aL ad) M_X6_make P 143 [(0, .ref (ad 0))] [.long (1 : Int64), .int s3, .int s2, .ref (ad 2), .ref (ad 4)] I J) : Sat (EC l D aI aL ad) M_X6_make P 136 [(0, .ref (ad 0))] [.int s3, .int s2, .ref (ad 2), .ref (ad 4)] I J := by
  refine s_lconst (v := 1) dX6_make_136 rfl ?_
  refine s_goto (tgt := 143) dX6_make_137 (by decide) ?_
  exact k
theorem bX6_make_140 {l : Launch} {D : va_G} {aI aL : ClassId} {ad : Nat → Nat} {P : sa_P} {I : sa_I} {J : sa_J} {s2 : Int32} {s3 : Int32}   (k : Sat (EC l D aI aL ad) M_X6_make P 143 [(0, .ref (ad 0))] [.long (-1 : Int64), .int s3, .int s2, .ref (ad 2), .ref (ad 4)] I J) : Sat (EC l D aI aL ad) M_X6_make P 140 [(0, .ref (ad 0))] [.int s3, .int s2, .ref (ad 2), .ref (ad 4)] I J := by
  refine s_ldc2 wk_X6_139 dX6_make_140 ?_
  exact k
theorem bX6_make_146 {l : Launch} {D : va_G} {aI aL : ClassId} {ad : Nat → Nat} {P : sa_P} {I : sa_I} {J : sa_J}    (k : Sat (EC l D aI aL ad) M_X6_make P 147 [] [.ref (ad 0)] I J) : Sat (EC l D aI aL ad) M_X6_make P 146 [(0, .ref (ad 0))] [] I J := by
  refine s_aload_n 0 dX6_make_146 rfl ?_
  refine s_pick [] [] rfl ?_; exact k
theorem bX6_make_150 {l : Launch} {D : va_G} {aI aL : ClassId} {ad : Nat → Nat} {P : sa_P} {I : sa_I} {J : sa_J} {s0 : Int32}   (k : P (some (.int s0)) I J) : Sat (EC l D aI aL ad) M_X6_make P 150 [] [.int s0] I J := by
  exact s_iret rfl dX6_make_150 k
/-! X6_coordinate -/
theorem dX6_coordinate_0 : decode cX6_coordinate 0 = .ok (.aload_n 0, 1) := by decide +kernel
theorem dX6_coordinate_1 : decode cX6_coordinate 1 = .ok (.getfield 23, 3) := by decide +kernel
theorem dX6_coordinate_4 : decode cX6_coordinate 4 = .ok (.getfield 85, 3) := by decide +kernel
theorem dX6_coordinate_7 : decode cX6_coordinate 7 = .ok (.ifCond .ne 10, 3) := by decide +kernel
theorem dX6_coordinate_10 : decode cX6_coordinate 10 = .ok (.aload_n 0, 1) := by decide +kernel
theorem dX6_coordinate_11 : decode cX6_coordinate 11 = .ok (.bipush (-3), 2) := by decide +kernel
theorem dX6_coordinate_13 : decode cX6_coordinate 13 = .ok (.invokevirtual 116, 3) := by decide +kernel
theorem dX6_coordinate_16 : decode cX6_coordinate 16 = .ok (.ireturn, 1) := by decide +kernel
theorem dX6_coordinate_17 : decode cX6_coordinate 17 = .ok (.aload_n 0, 1) := by decide +kernel
theorem dX6_coordinate_18 : decode cX6_coordinate 18 = .ok (.iload_n 1, 1) := by decide +kernel
theorem dX6_coordinate_19 : decode cX6_coordinate 19 = .ok (.invokevirtual 128, 3) := by decide +kernel
theorem dX6_coordinate_22 : decode cX6_coordinate 22 = .ok (.ifCond .eq 11, 3) := by decide +kernel
theorem dX6_coordinate_25 : decode cX6_coordinate 25 = .ok (.aload_n 0, 1) := by decide +kernel
theorem dX6_coordinate_26 : decode cX6_coordinate 26 = .ok (.iload_n 2, 1) := by decide +kernel
theorem dX6_coordinate_27 : decode cX6_coordinate 27 = .ok (.invokevirtual 106, 3) := by decide +kernel
theorem dX6_coordinate_30 : decode cX6_coordinate 30 = .ok (.ifCond .ne 9, 3) := by decide +kernel
theorem dX6_coordinate_33 : decode cX6_coordinate 33 = .ok (.aload_n 0, 1) := by decide +kernel
theorem dX6_coordinate_34 : decode cX6_coordinate 34 = .ok (.iconst (-1), 1) := by decide +kernel
theorem dX6_coordinate_35 : decode cX6_coordinate 35 = .ok (.invokevirtual 116, 3) := by decide +kernel
theorem dX6_coordinate_38 : decode cX6_coordinate 38 = .ok (.ireturn, 1) := by decide +kernel
theorem dX6_coordinate_39 : decode cX6_coordinate 39 = .ok (.aload_n 0, 1) := by decide +kernel
theorem dX6_coordinate_40 : decode cX6_coordinate 40 = .ok (.getfield 13, 3) := by decide +kernel
theorem dX6_coordinate_43 : decode cX6_coordinate 43 = .ok (.iconst 3, 1) := by decide +kernel
theorem dX6_coordinate_44 : decode cX6_coordinate 44 = .ok (.iload_n 1, 1) := by decide +kernel
theorem dX6_coordinate_45 : decode cX6_coordinate 45 = .ok (.imul, 1) := by decide +kernel
theorem dX6_coordinate_46 : decode cX6_coordinate 46 = .ok (.iload_n 2, 1) := by decide +kernel
theorem dX6_coordinate_47 : decode cX6_coordinate 47 = .ok (.iadd, 1) := by decide +kernel
theorem dX6_coordinate_48 : decode cX6_coordinate 48 = .ok (.laload, 1) := by decide +kernel
theorem dX6_coordinate_49 : decode cX6_coordinate 49 = .ok (.l2i, 1) := by decide +kernel
theorem dX6_coordinate_50 : decode cX6_coordinate 50 = .ok (.ireturn, 1) := by decide +kernel
theorem bX6_coordinate_0 {l : Launch} {D : va_G} {aI aL : ClassId} {ad : Nat → Nat} {P : sa_P} {I : sa_I} {J : sa_J} {x1 : Int32} {x2 : Int32}   (kt : ¬ I 4 0 = 0 → Sat (EC l D aI aL ad) M_X6_coordinate P 17 [(0, .ref (ad 0)), (1, .int x1), (2, .int x2)] [] I J) (kf : I 4 0 = 0 → Sat (EC l D aI aL ad) M_X6_coordinate P 10 [(0, .ref (ad 0))] [] I J) : Sat (EC l D aI aL ad) M_X6_coordinate P 0 [(0, .ref (ad 0)), (1, .int x1), (2, .int x2)] [] I J := by
  refine s_aload_n 0 dX6_coordinate_0 rfl ?_
  refine g_X6_23 dX6_coordinate_1 rfl ?_
  refine g_X6_85 dX6_coordinate_4 rfl ?_
  refine s_if_ne (tgt := 17) dX6_coordinate_7 (by decide) (fun c => ?_) (fun c => ?_)
  · exact kt c
  · refine s_pick [0] [(0, .ref (ad 0))] rfl ?_; exact kf (by first | exact c | exact Classical.not_not.mp c)
theorem bX6_coordinate_10 {l : Launch} {D : va_G} {aI aL : ClassId} {ad : Nat → Nat} {P : sa_P} {I : sa_I} {J : sa_J}    (k : Sat (EC l D aI aL ad) M_X6_coordinate P 13 [] [.int (-3 : Int32), .ref (ad 0)] I J) : Sat (EC l D aI aL ad) M_X6_coordinate P 10 [(0, .ref (ad 0))] [] I J := by
  refine s_aload_n 0 dX6_coordinate_10 rfl ?_
  refine s_bipush (v := -3) dX6_coordinate_11 rfl ?_
  refine s_pick [] [] rfl ?_; exact k
theorem bX6_coordinate_16 {l : Launch} {D : va_G} {aI aL : ClassId} {ad : Nat → Nat} {P : sa_P} {I : sa_I} {J : sa_J} {s0 : Int32}   (k : P (some (.int s0)) I J) : Sat (EC l D aI aL ad) M_X6_coordinate P 16 [] [.int s0] I J := by
  exact s_iret rfl dX6_coordinate_16 k
theorem bX6_coordinate_17 {l : Launch} {D : va_G} {aI aL : ClassId} {ad : Nat → Nat} {P : sa_P} {I : sa_I} {J : sa_J} {x1 : Int32} {x2 : Int32}   (k : Sat (EC l D aI aL ad) M_X6_coordinate P 19 [(0, .ref (ad 0)), (1, .int x1), (2, .int x2)] [.int x1, .ref (ad 0)] I J) : Sat (EC l D aI aL ad) M_X6_coordinate P 17 [(0, .ref (ad 0)), (1, .int x1), (2, .int x2)] [] I J := by
  refine s_aload_n 0 dX6_coordinate_17 rfl ?_
  refine s_iload_n 1 dX6_coordinate_18 rfl ?_
  exact k
theorem bX6_coordinate_22 {l : Launch} {D : va_G} {aI aL : ClassId} {ad : Nat → Nat} {P : sa_P} {I : sa_I} {J : sa_J} {x1 : Int32} {x2 : Int32} {s0 : Int32}   (kt : s0 = 0 → Sat (EC l D aI aL ad) M_X6_coordinate P 33 [(0, .ref (ad 0))] [] I J) (kf : ¬ s0 = 0 → Sat (EC l D aI aL ad) M_X6_coordinate P 25 [(0, .ref (ad 0)), (1, .int x1), (2, .int x2)] [] I J) : Sat (EC l D aI aL ad) M_X6_coordinate P 22 [(0, .ref (ad 0)), (1, .int x1), (2, .int x2)] [.int s0] I J := by
  refine s_if_eq (tgt := 33) dX6_coordinate_22 (by decide) (fun c => ?_) (fun c => ?_)
  · refine s_pick [0] [(0, .ref (ad 0))] rfl ?_; exact kt c
  · exact kf c
theorem bX6_coordinate_25 {l : Launch} {D : va_G} {aI aL : ClassId} {ad : Nat → Nat} {P : sa_P} {I : sa_I} {J : sa_J} {x1 : Int32} {x2 : Int32}   (k : Sat (EC l D aI aL ad) M_X6_coordinate P 27 [(0, .ref (ad 0)), (1, .int x1), (2, .int x2)] [.int x2, .ref (ad 0)] I J) : Sat (EC l D aI aL ad) M_X6_coordinate P 25 [(0, .ref (ad 0)), (1, .int x1), (2, .int x2)] [] I J := by
  refine s_aload_n 0 dX6_coordinate_25 rfl ?_
  refine s_iload_n 2 dX6_coordinate_26 rfl ?_
  exact k
theorem bX6_coordinate_30 {l : Launch} {D : va_G} {aI aL : ClassId} {ad : Nat → Nat} {P : sa_P} {I : sa_I} {J : sa_J} {x1 : Int32} {x2 : Int32} {s0 : Int32}   (kt : ¬ s0 = 0 → Sat (EC l D aI aL ad) M_X6_coordinate P 39 [(0, .ref (ad 0)), (1, .int x1), (2, .int x2)] [] I J) (kf : s0 = 0 → Sat (EC l D aI aL ad) M_X6_coordinate P 33 [(0, .ref (ad 0))] [] I J) : Sat (EC l D aI aL ad) M_X6_coordinate P 30 [(0, .ref (ad 0)), (1, .int x1), (2, .int x2)] [.int s0] I J := by
  refine s_if_ne (tgt := 39) dX6_coordinate_30 (by decide) (fun c => ?_) (fun c => ?_)
  · exact kt c
  · refine s_pick [0] [(0, .ref (ad 0))] rfl ?_; exact kf (by first | exact c | exact Classical.not_not.mp c)
theorem bX6_coordinate_33 {l : Launch} {D : va_G} {aI aL : ClassId} {ad : Nat → Nat} {P : sa_P} {I : sa_I} {J : sa_J}    (k : Sat (EC l D aI aL ad) M_X6_coordinate P 35 [] [.int (-1 : Int32), .ref (ad 0)] I J) : Sat (EC l D aI aL ad) M_X6_coordinate P 33 [(0, .ref (ad 0))] [] I J := by
  refine s_aload_n 0 dX6_coordinate_33 rfl ?_
  refine s_iconst (v := -1) dX6_coordinate_34 rfl ?_
  refine s_pick [] [] rfl ?_; exact k
theorem bX6_coordinate_38 {l : Launch} {D : va_G} {aI aL : ClassId} {ad : Nat → Nat} {P : sa_P} {I : sa_I} {J : sa_J} {s0 : Int32}   (k : P (some (.int s0)) I J) : Sat (EC l D aI aL ad) M_X6_coordinate P 38 [] [.int s0] I J := by
  exact s_iret rfl dX6_coordinate_38 k
theorem bX6_coordinate_39 {l : Launch} {D : va_G} {aI aL : ClassId} {ad : Nat → Nat} {P : sa_P} {I : sa_I} {J : sa_J} {x1 : Int32} {x2 : Int32} {j47 : Nat} (e47 : ((3 : Int32) * x1) + x2 = nI j47) (h48 : j47 < 300)  (k : P (some (.int ((J 2 j47).toInt32))) I J) : Sat (EC l D aI aL ad) M_X6_coordinate P 39 [(0, .ref (ad 0)), (1, .int x1), (2, .int x2)] [] I J := by
  refine s_aload_n 0 dX6_coordinate_39 rfl ?_
  refine g_X6_13 dX6_coordinate_40 rfl ?_
  refine s_iconst (v := 3) dX6_coordinate_43 rfl ?_
  refine s_iload_n 1 dX6_coordinate_44 rfl ?_
  refine s_imul dX6_coordinate_45 ?_
  refine s_iload_n 2 dX6_coordinate_46 rfl ?_
  refine s_iadd dX6_coordinate_47 ?_
  refine s_eqi e47 ?_
  refine s_laloadN aJ_C2 h48 (by decide) dX6_coordinate_48 ?_
  refine s_l2i dX6_coordinate_49 ?_
  exact s_iret rfl dX6_coordinate_50 k
/-! X6_norm -/
theorem dX6_norm_0 : decode cX6_norm 0 = .ok (.aload_n 0, 1) := by decide +kernel
theorem dX6_norm_1 : decode cX6_norm 1 = .ok (.getfield 23, 3) := by decide +kernel
theorem dX6_norm_4 : decode cX6_norm 4 = .ok (.getfield 85, 3) := by decide +kernel
theorem dX6_norm_7 : decode cX6_norm 7 = .ok (.ifCond .ne 10, 3) := by decide +kernel
theorem dX6_norm_10 : decode cX6_norm 10 = .ok (.aload_n 0, 1) := by decide +kernel
theorem dX6_norm_11 : decode cX6_norm 11 = .ok (.bipush (-3), 2) := by decide +kernel
theorem dX6_norm_13 : decode cX6_norm 13 = .ok (.invokevirtual 96, 3) := by decide +kernel
theorem dX6_norm_16 : decode cX6_norm 16 = .ok (.lreturn, 1) := by decide +kernel
theorem dX6_norm_17 : decode cX6_norm 17 = .ok (.aload_n 0, 1) := by decide +kernel
theorem dX6_norm_18 : decode cX6_norm 18 = .ok (.iload_n 1, 1) := by decide +kernel
theorem dX6_norm_19 : decode cX6_norm 19 = .ok (.invokevirtual 128, 3) := by decide +kernel
theorem dX6_norm_22 : decode cX6_norm 22 = .ok (.ifCond .ne 9, 3) := by decide +kernel
theorem dX6_norm_25 : decode cX6_norm 25 = .ok (.aload_n 0, 1) := by decide +kernel
theorem dX6_norm_26 : decode cX6_norm 26 = .ok (.iconst (-1), 1) := by decide +kernel
theorem dX6_norm_27 : decode cX6_norm 27 = .ok (.invokevirtual 96, 3) := by decide +kernel
theorem dX6_norm_30 : decode cX6_norm 30 = .ok (.lreturn, 1) := by decide +kernel
theorem dX6_norm_31 : decode cX6_norm 31 = .ok (.iload_n 2, 1) := by decide +kernel
theorem dX6_norm_32 : decode cX6_norm 32 = .ok (.ifCond .lt 8, 3) := by decide +kernel
theorem dX6_norm_35 : decode cX6_norm 35 = .ok (.iload_n 2, 1) := by decide +kernel
theorem dX6_norm_36 : decode cX6_norm 36 = .ok (.iconst 2, 1) := by decide +kernel
theorem dX6_norm_37 : decode cX6_norm 37 = .ok (.if_icmp .le 10, 3) := by decide +kernel
theorem dX6_norm_40 : decode cX6_norm 40 = .ok (.aload_n 0, 1) := by decide +kernel
theorem dX6_norm_41 : decode cX6_norm 41 = .ok (.bipush (-2), 2) := by decide +kernel
theorem dX6_norm_43 : decode cX6_norm 43 = .ok (.invokevirtual 96, 3) := by decide +kernel
theorem dX6_norm_46 : decode cX6_norm 46 = .ok (.lreturn, 1) := by decide +kernel
theorem dX6_norm_47 : decode cX6_norm 47 = .ok (.aload_n 0, 1) := by decide +kernel
theorem dX6_norm_48 : decode cX6_norm 48 = .ok (.getfield 23, 3) := by decide +kernel
theorem dX6_norm_51 : decode cX6_norm 51 = .ok (.aload_n 0, 1) := by decide +kernel
theorem dX6_norm_52 : decode cX6_norm 52 = .ok (.getfield 13, 3) := by decide +kernel
theorem dX6_norm_55 : decode cX6_norm 55 = .ok (.iconst 3, 1) := by decide +kernel
theorem dX6_norm_56 : decode cX6_norm 56 = .ok (.iload_n 1, 1) := by decide +kernel
theorem dX6_norm_57 : decode cX6_norm 57 = .ok (.imul, 1) := by decide +kernel
theorem dX6_norm_58 : decode cX6_norm 58 = .ok (.invokevirtual 145, 3) := by decide +kernel
theorem dX6_norm_61 : decode cX6_norm 61 = .ok (.iload_n 2, 1) := by decide +kernel
theorem dX6_norm_62 : decode cX6_norm 62 = .ok (.ifCond .ne 11, 3) := by decide +kernel
theorem dX6_norm_65 : decode cX6_norm 65 = .ok (.aload_n 0, 1) := by decide +kernel
theorem dX6_norm_66 : decode cX6_norm 66 = .ok (.getfield 23, 3) := by decide +kernel
theorem dX6_norm_69 : decode cX6_norm 69 = .ok (.invokevirtual 149, 3) := by decide +kernel
theorem dX6_norm_72 : decode cX6_norm 72 = .ok (.lreturn, 1) := by decide +kernel
theorem dX6_norm_73 : decode cX6_norm 73 = .ok (.iload_n 2, 1) := by decide +kernel
theorem dX6_norm_74 : decode cX6_norm 74 = .ok (.iconst 1, 1) := by decide +kernel
theorem dX6_norm_75 : decode cX6_norm 75 = .ok (.if_icmp .ne 13, 3) := by decide +kernel
theorem dX6_norm_78 : decode cX6_norm 78 = .ok (.aload_n 0, 1) := by decide +kernel
theorem dX6_norm_79 : decode cX6_norm 79 = .ok (.getfield 23, 3) := by decide +kernel
theorem dX6_norm_82 : decode cX6_norm 82 = .ok (.invokevirtual 153, 3) := by decide +kernel
theorem dX6_norm_85 : decode cX6_norm 85 = .ok (.goto 10, 3) := by decide +kernel
theorem dX6_norm_88 : decode cX6_norm 88 = .ok (.aload_n 0, 1) := by decide +kernel
theorem dX6_norm_89 : decode cX6_norm 89 = .ok (.getfield 23, 3) := by decide +kernel
theorem dX6_norm_92 : decode cX6_norm 92 = .ok (.invokevirtual 156, 3) := by decide +kernel
theorem dX6_norm_95 : decode cX6_norm 95 = .ok (.lreturn, 1) := by decide +kernel
theorem bX6_norm_0 {l : Launch} {D : va_G} {aI aL : ClassId} {ad : Nat → Nat} {P : sa_P} {I : sa_I} {J : sa_J} {x1 : Int32} {x2 : Int32}   (kt : ¬ I 4 0 = 0 → Sat (EC l D aI aL ad) M_X6_norm P 17 [(0, .ref (ad 0)), (1, .int x1), (2, .int x2)] [] I J) (kf : I 4 0 = 0 → Sat (EC l D aI aL ad) M_X6_norm P 10 [(0, .ref (ad 0))] [] I J) : Sat (EC l D aI aL ad) M_X6_norm P 0 [(0, .ref (ad 0)), (1, .int x1), (2, .int x2)] [] I J := by
  refine s_aload_n 0 dX6_norm_0 rfl ?_
  refine g_X6_23 dX6_norm_1 rfl ?_
  refine g_X6_85 dX6_norm_4 rfl ?_
  refine s_if_ne (tgt := 17) dX6_norm_7 (by decide) (fun c => ?_) (fun c => ?_)
  · exact kt c
  · refine s_pick [0] [(0, .ref (ad 0))] rfl ?_; exact kf (by first | exact c | exact Classical.not_not.mp c)
theorem bX6_norm_10 {l : Launch} {D : va_G} {aI aL : ClassId} {ad : Nat → Nat} {P : sa_P} {I : sa_I} {J : sa_J}    (k : Sat (EC l D aI aL ad) M_X6_norm P 13 [] [.int (-3 : Int32), .ref (ad 0)] I J) : Sat (EC l D aI aL ad) M_X6_norm P 10 [(0, .ref (ad 0))] [] I J := by
  refine s_aload_n 0 dX6_norm_10 rfl ?_
  refine s_bipush (v := -3) dX6_norm_11 rfl ?_
  refine s_pick [] [] rfl ?_; exact k
theorem bX6_norm_16 {l : Launch} {D : va_G} {aI aL : ClassId} {ad : Nat → Nat} {P : sa_P} {I : sa_I} {J : sa_J} {s0 : Int64}   (k : P (some (.long s0)) I J) : Sat (EC l D aI aL ad) M_X6_norm P 16 [] [.long s0] I J := by
  exact s_lret rfl dX6_norm_16 k
theorem bX6_norm_17 {l : Launch} {D : va_G} {aI aL : ClassId} {ad : Nat → Nat} {P : sa_P} {I : sa_I} {J : sa_J} {x1 : Int32} {x2 : Int32}   (k : Sat (EC l D aI aL ad) M_X6_norm P 19 [(0, .ref (ad 0)), (1, .int x1), (2, .int x2)] [.int x1, .ref (ad 0)] I J) : Sat (EC l D aI aL ad) M_X6_norm P 17 [(0, .ref (ad 0)), (1, .int x1), (2, .int x2)] [] I J := by
  refine s_aload_n 0 dX6_norm_17 rfl ?_
  refine s_iload_n 1 dX6_norm_18 rfl ?_
  exact k
theorem bX6_norm_22 {l : Launch} {D : va_G} {aI aL : ClassId} {ad : Nat → Nat} {P : sa_P} {I : sa_I} {J : sa_J} {x1 : Int32} {x2 : Int32} {s0 : Int32}   (kt : ¬ s0 = 0 → Sat (EC l D aI aL ad) M_X6_norm P 31 [(0, .ref (ad 0)), (1, .int x1), (2, .int x2)] [] I J) (kf : s0 = 0 → Sat (EC l D aI aL ad) M_X6_norm P 25 [(0, .ref (ad 0))] [] I J) : Sat (EC l D aI aL ad) M_X6_norm P 22 [(0, .ref (ad 0)), (1, .int x1), (2, .int x2)] [.int s0] I J := by
  refine s_if_ne (tgt := 31) dX6_norm_22 (by decide) (fun c => ?_) (fun c => ?_)
  · exact kt c
  · refine s_pick [0] [(0, .ref (ad 0))] rfl ?_; exact kf (by first | exact c | exact Classical.not_not.mp c)
theorem bX6_norm_25 {l : Launch} {D : va_G} {aI aL : ClassId} {ad : Nat → Nat} {P : sa_P} {I : sa_I} {J : sa_J}    (k : Sat (EC l D aI aL ad) M_X6_norm P 27 [] [.int (-1 : Int32), .ref (ad 0)] I J) : Sat (EC l D aI aL ad) M_X6_norm P 25 [(0, .ref (ad 0))] [] I J := by
  refine s_aload_n 0 dX6_norm_25 rfl ?_
  refine s_iconst (v := -1) dX6_norm_26 rfl ?_
  refine s_pick [] [] rfl ?_; exact k
theorem bX6_norm_30 {l : Launch} {D : va_G} {aI aL : ClassId} {ad : Nat → Nat} {P : sa_P} {I : sa_I} {J : sa_J} {s0 : Int64}   (k : P (some (.long s0)) I J) : Sat (EC l D aI aL ad) M_X6_norm P 30 [] [.long s0] I J := by
  exact s_lret rfl dX6_norm_30 k
theorem bX6_norm_31 {l : Launch} {D : va_G} {aI aL : ClassId} {ad : Nat → Nat} {P : sa_P} {I : sa_I} {J : sa_J} {x1 : Int32} {x2 : Int32}   (kt : x2 < 0 → Sat (EC l D aI aL ad) M_X6_norm P 40 [(0, .ref (ad 0))] [] I J) (kf : ¬ x2 < 0 → Sat (EC l D aI aL ad) M_X6_norm P 35 [(0, .ref (ad 0)), (1, .int x1), (2, .int x2)] [] I J) : Sat (EC l D aI aL ad) M_X6_norm P 31 [(0, .ref (ad 0)), (1, .int x1), (2, .int x2)] [] I J := by
  refine s_iload_n 2 dX6_norm_31 rfl ?_
  refine s_if_lt (tgt := 40) dX6_norm_32 (by decide) (fun c => ?_) (fun c => ?_)
  · refine s_pick [0] [(0, .ref (ad 0))] rfl ?_; exact kt c
  · exact kf c
theorem bX6_norm_35 {l : Launch} {D : va_G} {aI aL : ClassId} {ad : Nat → Nat} {P : sa_P} {I : sa_I} {J : sa_J} {x1 : Int32} {x2 : Int32}   (kt : x2 ≤ (2 : Int32) → Sat (EC l D aI aL ad) M_X6_norm P 47 [(0, .ref (ad 0)), (1, .int x1), (2, .int x2)] [] I J) (kf : ¬ x2 ≤ (2 : Int32) → Sat (EC l D aI aL ad) M_X6_norm P 40 [(0, .ref (ad 0))] [] I J) : Sat (EC l D aI aL ad) M_X6_norm P 35 [(0, .ref (ad 0)), (1, .int x1), (2, .int x2)] [] I J := by
  refine s_iload_n 2 dX6_norm_35 rfl ?_
  refine s_iconst (v := 2) dX6_norm_36 rfl ?_
  refine s_icmp_le (tgt := 47) dX6_norm_37 (by decide) (fun c => ?_) (fun c => ?_)
  · exact kt c
  · refine s_pick [0] [(0, .ref (ad 0))] rfl ?_; exact kf c
theorem bX6_norm_40 {l : Launch} {D : va_G} {aI aL : ClassId} {ad : Nat → Nat} {P : sa_P} {I : sa_I} {J : sa_J}    (k : Sat (EC l D aI aL ad) M_X6_norm P 43 [] [.int (-2 : Int32), .ref (ad 0)] I J) : Sat (EC l D aI aL ad) M_X6_norm P 40 [(0, .ref (ad 0))] [] I J := by
  refine s_aload_n 0 dX6_norm_40 rfl ?_
  refine s_bipush (v := -2) dX6_norm_41 rfl ?_
  refine s_pick [] [] rfl ?_; exact k
theorem bX6_norm_46 {l : Launch} {D : va_G} {aI aL : ClassId} {ad : Nat → Nat} {P : sa_P} {I : sa_I} {J : sa_J} {s0 : Int64}   (k : P (some (.long s0)) I J) : Sat (EC l D aI aL ad) M_X6_norm P 46 [] [.long s0] I J := by
  exact s_lret rfl dX6_norm_46 k
theorem bX6_norm_47 {l : Launch} {D : va_G} {aI aL : ClassId} {ad : Nat → Nat} {P : sa_P} {I : sa_I} {J : sa_J} {x1 : Int32} {x2 : Int32}   (k : Sat (EC l D aI aL ad) M_X6_norm P 58 [(0, .ref (ad 0)), (2, .int x2)] [.int ((3 : Int32) * x1), .ref (ad 2), .ref (ad 4)] I J) : Sat (EC l D aI aL ad) M_X6_norm P 47 [(0, .ref (ad 0)), (1, .int x1), (2, .int x2)] [] I J := by
  refine s_aload_n 0 dX6_norm_47 rfl ?_
  refine g_X6_23 dX6_norm_48 rfl ?_
  refine s_aload_n 0 dX6_norm_51 rfl ?_
  refine g_X6_13 dX6_norm_52 rfl ?_
  refine s_iconst (v := 3) dX6_norm_55 rfl ?_
  refine s_iload_n 1 dX6_norm_56 rfl ?_
  refine s_imul dX6_norm_57 ?_
  refine s_pick [0, 2] [(0, .ref (ad 0)), (2, .int x2)] rfl ?_; exact k
theorem bX6_norm_61 {l : Launch} {D : va_G} {aI aL : ClassId} {ad : Nat → Nat} {P : sa_P} {I : sa_I} {J : sa_J} {x2 : Int32}   (kt : ¬ x2 = 0 → Sat (EC l D aI aL ad) M_X6_norm P 73 [(0, .ref (ad 0)), (2, .int x2)] [] I J) (kf : x2 = 0 → Sat (EC l D aI aL ad) M_X6_norm P 65 [(0, .ref (ad 0))] [] I J) : Sat (EC l D aI aL ad) M_X6_norm P 61 [(0, .ref (ad 0)), (2, .int x2)] [] I J := by
  refine s_iload_n 1 dX6_norm_61 rfl ?_
  refine s_if_ne (tgt := 73) dX6_norm_62 (by decide) (fun c => ?_) (fun c => ?_)
  · exact kt c
  · refine s_pick [0] [(0, .ref (ad 0))] rfl ?_; exact kf (by first | exact c | exact Classical.not_not.mp c)
theorem bX6_norm_65 {l : Launch} {D : va_G} {aI aL : ClassId} {ad : Nat → Nat} {P : sa_P} {I : sa_I} {J : sa_J}    (k : Sat (EC l D aI aL ad) M_X6_norm P 69 [] [.ref (ad 4)] I J) : Sat (EC l D aI aL ad) M_X6_norm P 65 [(0, .ref (ad 0))] [] I J := by
  refine s_aload_n 0 dX6_norm_65 rfl ?_
  refine g_X6_23 dX6_norm_66 rfl ?_
  refine s_pick [] [] rfl ?_; exact k
theorem bX6_norm_72 {l : Launch} {D : va_G} {aI aL : ClassId} {ad : Nat → Nat} {P : sa_P} {I : sa_I} {J : sa_J} {s0 : Int64}   (k : P (some (.long s0)) I J) : Sat (EC l D aI aL ad) M_X6_norm P 72 [] [.long s0] I J := by
  exact s_lret rfl dX6_norm_72 k
theorem bX6_norm_73 {l : Launch} {D : va_G} {aI aL : ClassId} {ad : Nat → Nat} {P : sa_P} {I : sa_I} {J : sa_J} {x2 : Int32}   (kt : ¬ x2 = (1 : Int32) → Sat (EC l D aI aL ad) M_X6_norm P 88 [(0, .ref (ad 0))] [] I J) (kf : x2 = (1 : Int32) → Sat (EC l D aI aL ad) M_X6_norm P 78 [(0, .ref (ad 0))] [] I J) : Sat (EC l D aI aL ad) M_X6_norm P 73 [(0, .ref (ad 0)), (2, .int x2)] [] I J := by
  refine s_iload_n 1 dX6_norm_73 rfl ?_
  refine s_iconst (v := 1) dX6_norm_74 rfl ?_
  refine s_icmp_ne (tgt := 88) dX6_norm_75 (by decide) (fun c => ?_) (fun c => ?_)
  · refine s_pick [0] [(0, .ref (ad 0))] rfl ?_; exact kt c
  · refine s_pick [0] [(0, .ref (ad 0))] rfl ?_; exact kf (by first | exact c | exact Classical.not_not.mp c)
theorem bX6_norm_78 {l : Launch} {D : va_G} {aI aL : ClassId} {ad : Nat → Nat} {P : sa_P} {I : sa_I} {J : sa_J}    (k : Sat (EC l D aI aL ad) M_X6_norm P 82 [] [.ref (ad 4)] I J) : Sat (EC l D aI aL ad) M_X6_norm P 78 [(0, .ref (ad 0))] [] I J := by
  refine s_aload_n 0 dX6_norm_78 rfl ?_
  refine g_X6_23 dX6_norm_79 rfl ?_
  refine s_pick [] [] rfl ?_; exact k
theorem bX6_norm_85 {l : Launch} {D : va_G} {aI aL : ClassId} {ad : Nat → Nat} {P : sa_P} {I : sa_I} {J : sa_J} {s0 : Int64}   (k : Sat (EC l D aI aL ad) M_X6_norm P 95 [] [.long s0] I J) : Sat (EC l D aI aL ad) M_X6_norm P 85 [] [.long s0] I J := by
  refine s_goto (tgt := 95) dX6_norm_85 (by decide) ?_
  exact k
theorem bX6_norm_88 {l : Launch} {D : va_G} {aI aL : ClassId} {ad : Nat → Nat} {P : sa_P} {I : sa_I} {J : sa_J}    (k : Sat (EC l D aI aL ad) M_X6_norm P 92 [] [.ref (ad 4)] I J) : Sat (EC l D aI aL ad) M_X6_norm P 88 [(0, .ref (ad 0))] [] I J := by
  refine s_aload_n 0 dX6_norm_88 rfl ?_
  refine g_X6_23 dX6_norm_89 rfl ?_
  refine s_pick [] [] rfl ?_; exact k
theorem bX6_norm_95 {l : Launch} {D : va_G} {aI aL : ClassId} {ad : Nat → Nat} {P : sa_P} {I : sa_I} {J : sa_J} {s0 : Int64}   (k : P (some (.long s0)) I J) : Sat (EC l D aI aL ad) M_X6_norm P 95 [] [.long s0] I J := by
  exact s_lret rfl dX6_norm_95 k
/-! X6_unit -/
theorem dX6_unit_0 : decode cX6_unit 0 = .ok (.aload_n 0, 1) := by decide +kernel
theorem dX6_unit_1 : decode cX6_unit 1 = .ok (.getfield 23, 3) := by decide +kernel
theorem dX6_unit_4 : decode cX6_unit 4 = .ok (.getfield 85, 3) := by decide +kernel
theorem dX6_unit_7 : decode cX6_unit 7 = .ok (.ifCond .ne 10, 3) := by decide +kernel
theorem dX6_unit_10 : decode cX6_unit 10 = .ok (.aload_n 0, 1) := by decide +kernel
theorem dX6_unit_11 : decode cX6_unit 11 = .ok (.bipush (-3), 2) := by decide +kernel
theorem dX6_unit_13 : decode cX6_unit 13 = .ok (.invokevirtual 59, 3) := by decide +kernel
theorem dX6_unit_16 : decode cX6_unit 16 = .ok (.ireturn, 1) := by decide +kernel
theorem dX6_unit_17 : decode cX6_unit 17 = .ok (.aload_n 0, 1) := by decide +kernel
theorem dX6_unit_18 : decode cX6_unit 18 = .ok (.iload_n 1, 1) := by decide +kernel
theorem dX6_unit_19 : decode cX6_unit 19 = .ok (.invokevirtual 128, 3) := by decide +kernel
theorem dX6_unit_22 : decode cX6_unit 22 = .ok (.ifCond .ne 9, 3) := by decide +kernel
theorem dX6_unit_25 : decode cX6_unit 25 = .ok (.aload_n 0, 1) := by decide +kernel
theorem dX6_unit_26 : decode cX6_unit 26 = .ok (.iconst (-1), 1) := by decide +kernel
theorem dX6_unit_27 : decode cX6_unit 27 = .ok (.invokevirtual 59, 3) := by decide +kernel
theorem dX6_unit_30 : decode cX6_unit 30 = .ok (.ireturn, 1) := by decide +kernel
theorem dX6_unit_31 : decode cX6_unit 31 = .ok (.aload_n 0, 1) := by decide +kernel
theorem dX6_unit_32 : decode cX6_unit 32 = .ok (.getfield 23, 3) := by decide +kernel
theorem dX6_unit_35 : decode cX6_unit 35 = .ok (.aload_n 0, 1) := by decide +kernel
theorem dX6_unit_36 : decode cX6_unit 36 = .ok (.getfield 13, 3) := by decide +kernel
theorem dX6_unit_39 : decode cX6_unit 39 = .ok (.iconst 3, 1) := by decide +kernel
theorem dX6_unit_40 : decode cX6_unit 40 = .ok (.iload_n 1, 1) := by decide +kernel
theorem dX6_unit_41 : decode cX6_unit 41 = .ok (.imul, 1) := by decide +kernel
theorem dX6_unit_42 : decode cX6_unit 42 = .ok (.invokevirtual 145, 3) := by decide +kernel
theorem dX6_unit_45 : decode cX6_unit 45 = .ok (.aload_n 0, 1) := by decide +kernel
theorem dX6_unit_46 : decode cX6_unit 46 = .ok (.getfield 23, 3) := by decide +kernel
theorem dX6_unit_49 : decode cX6_unit 49 = .ok (.invokevirtual 149, 3) := by decide +kernel
theorem dX6_unit_52 : decode cX6_unit 52 = .ok (.lstore_n 2, 1) := by decide +kernel
theorem dX6_unit_53 : decode cX6_unit 53 = .ok (.lload_n 2, 1) := by decide +kernel
theorem dX6_unit_54 : decode cX6_unit 54 = .ok (.lconst 1, 1) := by decide +kernel
theorem dX6_unit_55 : decode cX6_unit 55 = .ok (.lcmp, 1) := by decide +kernel
theorem dX6_unit_56 : decode cX6_unit 56 = .ok (.ifCond .eq 13, 3) := by decide +kernel
theorem dX6_unit_59 : decode cX6_unit 59 = .ok (.lload_n 2, 1) := by decide +kernel
theorem dX6_unit_60 : decode cX6_unit 60 = .ok (.ldc2_w 139, 3) := by decide +kernel
theorem dX6_unit_63 : decode cX6_unit 63 = .ok (.lcmp, 1) := by decide +kernel
theorem dX6_unit_64 : decode cX6_unit 64 = .ok (.ifCond .eq 5, 3) := by decide +kernel
theorem dX6_unit_67 : decode cX6_unit 67 = .ok (.iconst 0, 1) := by decide +kernel
theorem dX6_unit_68 : decode cX6_unit 68 = .ok (.ireturn, 1) := by decide +kernel
theorem dX6_unit_69 : decode cX6_unit 69 = .ok (.aload_n 0, 1) := by decide +kernel
theorem dX6_unit_70 : decode cX6_unit 70 = .ok (.getfield 23, 3) := by decide +kernel
theorem dX6_unit_73 : decode cX6_unit 73 = .ok (.aload_n 0, 1) := by decide +kernel
theorem dX6_unit_74 : decode cX6_unit 74 = .ok (.getfield 13, 3) := by decide +kernel
theorem dX6_unit_77 : decode cX6_unit 77 = .ok (.iconst 3, 1) := by decide +kernel
theorem dX6_unit_78 : decode cX6_unit 78 = .ok (.iload_n 1, 1) := by decide +kernel
theorem dX6_unit_79 : decode cX6_unit 79 = .ok (.imul, 1) := by decide +kernel
theorem dX6_unit_80 : decode cX6_unit 80 = .ok (.invokevirtual 159, 3) := by decide +kernel
theorem dX6_unit_83 : decode cX6_unit 83 = .ok (.ifCond .eq 7, 3) := by decide +kernel
theorem dX6_unit_86 : decode cX6_unit 86 = .ok (.iconst 2, 1) := by decide +kernel
theorem dX6_unit_87 : decode cX6_unit 87 = .ok (.goto 4, 3) := by decide +kernel
theorem dX6_unit_90 : decode cX6_unit 90 = .ok (.iconst 1, 1) := by decide +kernel
theorem dX6_unit_91 : decode cX6_unit 91 = .ok (.ireturn, 1) := by decide +kernel
theorem bX6_unit_0 {l : Launch} {D : va_G} {aI aL : ClassId} {ad : Nat → Nat} {P : sa_P} {I : sa_I} {J : sa_J} {x1 : Int32}   (kt : ¬ I 4 0 = 0 → Sat (EC l D aI aL ad) M_X6_unit P 17 [(0, .ref (ad 0)), (1, .int x1)] [] I J) (kf : I 4 0 = 0 → Sat (EC l D aI aL ad) M_X6_unit P 10 [(0, .ref (ad 0))] [] I J) : Sat (EC l D aI aL ad) M_X6_unit P 0 [(0, .ref (ad 0)), (1, .int x1)] [] I J := by
  refine s_aload_n 0 dX6_unit_0 rfl ?_
  refine g_X6_23 dX6_unit_1 rfl ?_
  refine g_X6_85 dX6_unit_4 rfl ?_
  refine s_if_ne (tgt := 17) dX6_unit_7 (by decide) (fun c => ?_) (fun c => ?_)
  · exact kt c
  · refine s_pick [0] [(0, .ref (ad 0))] rfl ?_; exact kf (by first | exact c | exact Classical.not_not.mp c)
theorem bX6_unit_10 {l : Launch} {D : va_G} {aI aL : ClassId} {ad : Nat → Nat} {P : sa_P} {I : sa_I} {J : sa_J}    (k : Sat (EC l D aI aL ad) M_X6_unit P 13 [] [.int (-3 : Int32), .ref (ad 0)] I J) : Sat (EC l D aI aL ad) M_X6_unit P 10 [(0, .ref (ad 0))] [] I J := by
  refine s_aload_n 0 dX6_unit_10 rfl ?_
  refine s_bipush (v := -3) dX6_unit_11 rfl ?_
  refine s_pick [] [] rfl ?_; exact k
theorem bX6_unit_16 {l : Launch} {D : va_G} {aI aL : ClassId} {ad : Nat → Nat} {P : sa_P} {I : sa_I} {J : sa_J} {s0 : Int32}   (k : P (some (.int s0)) I J) : Sat (EC l D aI aL ad) M_X6_unit P 16 [] [.int s0] I J := by
  exact s_iret rfl dX6_unit_16 k
theorem bX6_unit_17 {l : Launch} {D : va_G} {aI aL : ClassId} {ad : Nat → Nat} {P : sa_P} {I : sa_I} {J : sa_J} {x1 : Int32}   (k : Sat (EC l D aI aL ad) M_X6_unit P 19 [(0, .ref (ad 0)), (1, .int x1)] [.int x1, .ref (ad 0)] I J) : Sat (EC l D aI aL ad) M_X6_unit P 17 [(0, .ref (ad 0)), (1, .int x1)] [] I J := by
  refine s_aload_n 0 dX6_unit_17 rfl ?_
  refine s_iload_n 1 dX6_unit_18 rfl ?_
  exact k
theorem bX6_unit_22 {l : Launch} {D : va_G} {aI aL : ClassId} {ad : Nat → Nat} {P : sa_P} {I : sa_I} {J : sa_J} {x1 : Int32} {s0 : Int32}   (kt : ¬ s0 = 0 → Sat (EC l D aI aL ad) M_X6_unit P 31 [(0, .ref (ad 0)), (1, .int x1)] [] I J) (kf : s0 = 0 → Sat (EC l D aI aL ad) M_X6_unit P 25 [(0, .ref (ad 0))] [] I J) : Sat (EC l D aI aL ad) M_X6_unit P 22 [(0, .ref (ad 0)), (1, .int x1)] [.int s0] I J := by
  refine s_if_ne (tgt := 31) dX6_unit_22 (by decide) (fun c => ?_) (fun c => ?_)
  · exact kt c
  · refine s_pick [0] [(0, .ref (ad 0))] rfl ?_; exact kf (by first | exact c | exact Classical.not_not.mp c)
theorem bX6_unit_25 {l : Launch} {D : va_G} {aI aL : ClassId} {ad : Nat → Nat} {P : sa_P} {I : sa_I} {J : sa_J}    (k : Sat (EC l D aI aL ad) M_X6_unit P 27 [] [.int (-1 : Int32), .ref (ad 0)] I J) : Sat (EC l D aI aL ad) M_X6_unit P 25 [(0, .ref (ad 0))] [] I J := by
  refine s_aload_n 0 dX6_unit_25 rfl ?_
  refine s_iconst (v := -1) dX6_unit_26 rfl ?_
  refine s_pick [] [] rfl ?_; exact k
theorem bX6_unit_30 {l : Launch} {D : va_G} {aI aL : ClassId} {ad : Nat → Nat} {P : sa_P} {I : sa_I} {J : sa_J} {s0 : Int32}   (k : P (some (.int s0)) I J) : Sat (EC l D aI aL ad) M_X6_unit P 30 [] [.int s0] I J := by
  exact s_iret rfl dX6_unit_30 k
theorem bX6_unit_31 {l : Launch} {D : va_G} {aI aL : ClassId} {ad : Nat → Nat} {P : sa_P} {I : sa_I} {J : sa_J} {x1 : Int32}   (k : Sat (EC l D aI aL ad) M_X6_unit P 42 [(0, .ref (ad 0)), (1, .int x1)] [.int ((3 : Int32) * x1), .ref (ad 2), .ref (ad 4)] I J) : Sat (EC l D aI aL ad) M_X6_unit P 31 [(0, .ref (ad 0)), (1, .int x1)] [] I J := by
  refine s_aload_n 0 dX6_unit_31 rfl ?_
  refine g_X6_23 dX6_unit_32 rfl ?_
  refine s_aload_n 0 dX6_unit_35 rfl ?_
  refine g_X6_13 dX6_unit_36 rfl ?_
  refine s_iconst (v := 3) dX6_unit_39 rfl ?_
  refine s_iload_n 1 dX6_unit_40 rfl ?_
  refine s_imul dX6_unit_41 ?_
  exact k
theorem bX6_unit_45 {l : Launch} {D : va_G} {aI aL : ClassId} {ad : Nat → Nat} {P : sa_P} {I : sa_I} {J : sa_J} {x1 : Int32}   (k : Sat (EC l D aI aL ad) M_X6_unit P 49 [(0, .ref (ad 0)), (1, .int x1)] [.ref (ad 4)] I J) : Sat (EC l D aI aL ad) M_X6_unit P 45 [(0, .ref (ad 0)), (1, .int x1)] [] I J := by
  refine s_aload_n 0 dX6_unit_45 rfl ?_
  refine g_X6_23 dX6_unit_46 rfl ?_
  exact k
theorem bX6_unit_52 {l : Launch} {D : va_G} {aI aL : ClassId} {ad : Nat → Nat} {P : sa_P} {I : sa_I} {J : sa_J} {x1 : Int32} {s0 : Int64}   (kt : s0 = (1 : Int64) → Sat (EC l D aI aL ad) M_X6_unit P 69 [(0, .ref (ad 0)), (1, .int x1)] [] I J) (kf : ¬ s0 = (1 : Int64) → Sat (EC l D aI aL ad) M_X6_unit P 59 [(0, .ref (ad 0)), (1, .int x1), (2, .long s0)] [] I J) : Sat (EC l D aI aL ad) M_X6_unit P 52 [(0, .ref (ad 0)), (1, .int x1)] [.long s0] I J := by
  refine s_lstore_n [(2, .long s0), (0, .ref (ad 0)), (1, .int x1)] dX6_unit_52 (Nat.lt_of_lt_of_le (Nat.lt_succ_self _) (Nat.le_of_ble_eq_true rfl)) rfl ?_
  refine s_lload_n 0 dX6_unit_53 rfl ?_
  refine s_lconst (v := 1) dX6_unit_54 rfl ?_
  refine s_lif_eq (tgt := 69) dX6_unit_55 dX6_unit_56 (by decide) (fun c => ?_) (fun c => ?_)
  · refine s_pick [1, 2] [(0, .ref (ad 0)), (1, .int x1)] rfl ?_; exact kt c
  · refine s_pick [1, 2, 0] [(0, .ref (ad 0)), (1, .int x1), (2, .long s0)] rfl ?_; exact kf c
theorem bX6_unit_59 {l : Launch} {D : va_G} {aI aL : ClassId} {ad : Nat → Nat} {P : sa_P} {I : sa_I} {J : sa_J} {x1 : Int32} {x2 : Int64}   (kt : x2 = (-1 : Int64) → Sat (EC l D aI aL ad) M_X6_unit P 69 [(0, .ref (ad 0)), (1, .int x1)] [] I J) (kf : ¬ x2 = (-1 : Int64) → Sat (EC l D aI aL ad) M_X6_unit P 67 [] [] I J) : Sat (EC l D aI aL ad) M_X6_unit P 59 [(0, .ref (ad 0)), (1, .int x1), (2, .long x2)] [] I J := by
  refine s_lload_n 2 dX6_unit_59 rfl ?_
  refine s_ldc2 wk_X6_139 dX6_unit_60 ?_
  refine s_lif_eq (tgt := 69) dX6_unit_63 dX6_unit_64 (by decide) (fun c => ?_) (fun c => ?_)
  · refine s_pick [0, 1] [(0, .ref (ad 0)), (1, .int x1)] rfl ?_; exact kt c
  · refine s_pick [] [] rfl ?_; exact kf c
theorem bX6_unit_67 {l : Launch} {D : va_G} {aI aL : ClassId} {ad : Nat → Nat} {P : sa_P} {I : sa_I} {J : sa_J}    (k : P (some (.int (0 : Int32))) I J) : Sat (EC l D aI aL ad) M_X6_unit P 67 [] [] I J := by
  refine s_iconst (v := 0) dX6_unit_67 rfl ?_
  exact s_iret rfl dX6_unit_68 k
theorem bX6_unit_69 {l : Launch} {D : va_G} {aI aL : ClassId} {ad : Nat → Nat} {P : sa_P} {I : sa_I} {J : sa_J} {x1 : Int32}   (k : Sat (EC l D aI aL ad) M_X6_unit P 80 [] [.int ((3 : Int32) * x1), .ref (ad 2), .ref (ad 4)] I J) : Sat (EC l D aI aL ad) M_X6_unit P 69 [(0, .ref (ad 0)), (1, .int x1)] [] I J := by
  refine s_aload_n 0 dX6_unit_69 rfl ?_
  refine g_X6_23 dX6_unit_70 rfl ?_
  refine s_aload_n 0 dX6_unit_73 rfl ?_
  refine g_X6_13 dX6_unit_74 rfl ?_
  refine s_iconst (v := 3) dX6_unit_77 rfl ?_
  refine s_iload_n 1 dX6_unit_78 rfl ?_
  refine s_imul dX6_unit_79 ?_
  refine s_pick [] [] rfl ?_; exact k
theorem bX6_unit_83 {l : Launch} {D : va_G} {aI aL : ClassId} {ad : Nat → Nat} {P : sa_P} {I : sa_I} {J : sa_J} {s0 : Int32}   (kt : s0 = 0 → Sat (EC l D aI aL ad) M_X6_unit P 90 [] [] I J) (kf : ¬ s0 = 0 → Sat (EC l D aI aL ad) M_X6_unit P 86 [] [] I J) : Sat (EC l D aI aL ad) M_X6_unit P 83 [] [.int s0] I J := by
  refine s_if_eq (tgt := 90) dX6_unit_83 (by decide) (fun c => ?_) (fun c => ?_)
  · exact kt c
  · exact kf c
theorem bX6_unit_86 {l : Launch} {D : va_G} {aI aL : ClassId} {ad : Nat → Nat} {P : sa_P} {I : sa_I} {J : sa_J}    (k : Sat (EC l D aI aL ad) M_X6_unit P 91 [] [.int (2 : Int32)] I J) : Sat (EC l D aI aL ad) M_X6_unit P 86 [] [] I J := by
  refine s_iconst (v := 2) dX6_unit_86 rfl ?_
  refine s_goto (tgt := 91) dX6_unit_87 (by decide) ?_
  exact k
theorem bX6_unit_90 {l : Launch} {D : va_G} {aI aL : ClassId} {ad : Nat → Nat} {P : sa_P} {I : sa_I} {J : sa_J}    (k : Sat (EC l D aI aL ad) M_X6_unit P 91 [] [.int (1 : Int32)] I J) : Sat (EC l D aI aL ad) M_X6_unit P 90 [] [] I J := by
  refine s_iconst (v := 1) dX6_unit_90 rfl ?_
  exact k
theorem bX6_unit_91 {l : Launch} {D : va_G} {aI aL : ClassId} {ad : Nat → Nat} {P : sa_P} {I : sa_I} {J : sa_J} {s0 : Int32}   (k : P (some (.int s0)) I J) : Sat (EC l D aI aL ad) M_X6_unit P 91 [] [.int s0] I J := by
  exact s_iret rfl dX6_unit_91 k
/-! X6_ideal -/
theorem dX6_ideal_0 : decode cX6_ideal 0 = .ok (.aload_n 0, 1) := by decide +kernel
theorem dX6_ideal_1 : decode cX6_ideal 1 = .ok (.getfield 23, 3) := by decide +kernel
theorem dX6_ideal_4 : decode cX6_ideal 4 = .ok (.getfield 85, 3) := by decide +kernel
theorem dX6_ideal_7 : decode cX6_ideal 7 = .ok (.ifCond .ne 10, 3) := by decide +kernel
theorem dX6_ideal_10 : decode cX6_ideal 10 = .ok (.aload_n 0, 1) := by decide +kernel
theorem dX6_ideal_11 : decode cX6_ideal 11 = .ok (.bipush (-3), 2) := by decide +kernel
theorem dX6_ideal_13 : decode cX6_ideal 13 = .ok (.invokevirtual 59, 3) := by decide +kernel
theorem dX6_ideal_16 : decode cX6_ideal 16 = .ok (.ireturn, 1) := by decide +kernel
theorem dX6_ideal_17 : decode cX6_ideal 17 = .ok (.aload_n 0, 1) := by decide +kernel
theorem dX6_ideal_18 : decode cX6_ideal 18 = .ok (.iload_n 2, 1) := by decide +kernel
theorem dX6_ideal_19 : decode cX6_ideal 19 = .ok (.invokevirtual 128, 3) := by decide +kernel
theorem dX6_ideal_22 : decode cX6_ideal 22 = .ok (.ifCond .ne 9, 3) := by decide +kernel
theorem dX6_ideal_25 : decode cX6_ideal 25 = .ok (.aload_n 0, 1) := by decide +kernel
theorem dX6_ideal_26 : decode cX6_ideal 26 = .ok (.iconst (-1), 1) := by decide +kernel
theorem dX6_ideal_27 : decode cX6_ideal 27 = .ok (.invokevirtual 59, 3) := by decide +kernel
theorem dX6_ideal_30 : decode cX6_ideal 30 = .ok (.ireturn, 1) := by decide +kernel
theorem dX6_ideal_31 : decode cX6_ideal 31 = .ok (.iload_n 1, 1) := by decide +kernel
theorem dX6_ideal_32 : decode cX6_ideal 32 = .ok (.iconst 1, 1) := by decide +kernel
theorem dX6_ideal_33 : decode cX6_ideal 33 = .ok (.if_icmp .ge 10, 3) := by decide +kernel
theorem dX6_ideal_36 : decode cX6_ideal 36 = .ok (.aload_n 0, 1) := by decide +kernel
theorem dX6_ideal_37 : decode cX6_ideal 37 = .ok (.bipush (-4), 2) := by decide +kernel
theorem dX6_ideal_39 : decode cX6_ideal 39 = .ok (.invokevirtual 59, 3) := by decide +kernel
theorem dX6_ideal_42 : decode cX6_ideal 42 = .ok (.ireturn, 1) := by decide +kernel
theorem dX6_ideal_43 : decode cX6_ideal 43 = .ok (.iload_n 1, 1) := by decide +kernel
theorem dX6_ideal_44 : decode cX6_ideal 44 = .ok (.i2l, 1) := by decide +kernel
theorem dX6_ideal_45 : decode cX6_ideal 45 = .ok (.ldc2_w 163, 3) := by decide +kernel
theorem dX6_ideal_48 : decode cX6_ideal 48 = .ok (.lcmp, 1) := by decide +kernel
theorem dX6_ideal_49 : decode cX6_ideal 49 = .ok (.ifCond .le 10, 3) := by decide +kernel
theorem dX6_ideal_52 : decode cX6_ideal 52 = .ok (.aload_n 0, 1) := by decide +kernel
theorem dX6_ideal_53 : decode cX6_ideal 53 = .ok (.bipush (-6), 2) := by decide +kernel
theorem dX6_ideal_55 : decode cX6_ideal 55 = .ok (.invokevirtual 59, 3) := by decide +kernel
theorem dX6_ideal_58 : decode cX6_ideal 58 = .ok (.ireturn, 1) := by decide +kernel
theorem dX6_ideal_59 : decode cX6_ideal 59 = .ok (.aload_n 0, 1) := by decide +kernel
theorem dX6_ideal_60 : decode cX6_ideal 60 = .ok (.getfield 32, 3) := by decide +kernel
theorem dX6_ideal_63 : decode cX6_ideal 63 = .ok (.iload_n 1, 1) := by decide +kernel
theorem dX6_ideal_64 : decode cX6_ideal 64 = .ok (.i2l, 1) := by decide +kernel
theorem dX6_ideal_65 : decode cX6_ideal 65 = .ok (.aload_n 0, 1) := by decide +kernel
theorem dX6_ideal_66 : decode cX6_ideal 66 = .ok (.getfield 13, 3) := by decide +kernel
theorem dX6_ideal_69 : decode cX6_ideal 69 = .ok (.iconst 3, 1) := by decide +kernel
theorem dX6_ideal_70 : decode cX6_ideal 70 = .ok (.iload_n 2, 1) := by decide +kernel
theorem dX6_ideal_71 : decode cX6_ideal 71 = .ok (.imul, 1) := by decide +kernel
theorem dX6_ideal_72 : decode cX6_ideal 72 = .ok (.invokevirtual 165, 3) := by decide +kernel
theorem dX6_ideal_75 : decode cX6_ideal 75 = .ok (.aload_n 0, 1) := by decide +kernel
theorem dX6_ideal_76 : decode cX6_ideal 76 = .ok (.invokevirtual 169, 3) := by decide +kernel
theorem dX6_ideal_79 : decode cX6_ideal 79 = .ok (.ireturn, 1) := by decide +kernel
theorem bX6_ideal_0 {l : Launch} {D : va_G} {aI aL : ClassId} {ad : Nat → Nat} {P : sa_P} {I : sa_I} {J : sa_J} {x1 : Int32} {x2 : Int32}   (kt : ¬ I 4 0 = 0 → Sat (EC l D aI aL ad) M_X6_ideal P 17 [(0, .ref (ad 0)), (1, .int x1), (2, .int x2)] [] I J) (kf : I 4 0 = 0 → Sat (EC l D aI aL ad) M_X6_ideal P 10 [(0, .ref (ad 0))] [] I J) : Sat (EC l D aI aL ad) M_X6_ideal P 0 [(0, .ref (ad 0)), (1, .int x1), (2, .int x2)] [] I J := by
  refine s_aload_n 0 dX6_ideal_0 rfl ?_
  refine g_X6_23 dX6_ideal_1 rfl ?_
  refine g_X6_85 dX6_ideal_4 rfl ?_
  refine s_if_ne (tgt := 17) dX6_ideal_7 (by decide) (fun c => ?_) (fun c => ?_)
  · exact kt c
  · refine s_pick [0] [(0, .ref (ad 0))] rfl ?_; exact kf (by first | exact c | exact Classical.not_not.mp c)
theorem bX6_ideal_10 {l : Launch} {D : va_G} {aI aL : ClassId} {ad : Nat → Nat} {P : sa_P} {I : sa_I} {J : sa_J}    (k : Sat (EC l D aI aL ad) M_X6_ideal P 13 [] [.int (-3 : Int32), .ref (ad 0)] I J) : Sat (EC l D aI aL ad) M_X6_ideal P 10 [(0, .ref (ad 0))] [] I J := by
  refine s_aload_n 0 dX6_ideal_10 rfl ?_
  refine s_bipush (v := -3) dX6_ideal_11 rfl ?_
  refine s_pick [] [] rfl ?_; exact k
theorem bX6_ideal_16 {l : Launch} {D : va_G} {aI aL : ClassId} {ad : Nat → Nat} {P : sa_P} {I : sa_I} {J : sa_J} {s0 : Int32}   (k : P (some (.int s0)) I J) : Sat (EC l D aI aL ad) M_X6_ideal P 16 [] [.int s0] I J := by
  exact s_iret rfl dX6_ideal_16 k
theorem bX6_ideal_17 {l : Launch} {D : va_G} {aI aL : ClassId} {ad : Nat → Nat} {P : sa_P} {I : sa_I} {J : sa_J} {x1 : Int32} {x2 : Int32}   (k : Sat (EC l D aI aL ad) M_X6_ideal P 19 [(0, .ref (ad 0)), (1, .int x1), (2, .int x2)] [.int x2, .ref (ad 0)] I J) : Sat (EC l D aI aL ad) M_X6_ideal P 17 [(0, .ref (ad 0)), (1, .int x1), (2, .int x2)] [] I J := by
  refine s_aload_n 0 dX6_ideal_17 rfl ?_
  refine s_iload_n 2 dX6_ideal_18 rfl ?_
  exact k
theorem bX6_ideal_22 {l : Launch} {D : va_G} {aI aL : ClassId} {ad : Nat → Nat} {P : sa_P} {I : sa_I} {J : sa_J} {x1 : Int32} {x2 : Int32} {s0 : Int32}   (kt : ¬ s0 = 0 → Sat (EC l D aI aL ad) M_X6_ideal P 31 [(0, .ref (ad 0)), (1, .int x1), (2, .int x2)] [] I J) (kf : s0 = 0 → Sat (EC l D aI aL ad) M_X6_ideal P 25 [(0, .ref (ad 0))] [] I J) : Sat (EC l D aI aL ad) M_X6_ideal P 22 [(0, .ref (ad 0)), (1, .int x1), (2, .int x2)] [.int s0] I J := by
  refine s_if_ne (tgt := 31) dX6_ideal_22 (by decide) (fun c => ?_) (fun c => ?_)
  · exact kt c
  · refine s_pick [0] [(0, .ref (ad 0))] rfl ?_; exact kf (by first | exact c | exact Classical.not_not.mp c)
theorem bX6_ideal_25 {l : Launch} {D : va_G} {aI aL : ClassId} {ad : Nat → Nat} {P : sa_P} {I : sa_I} {J : sa_J}    (k : Sat (EC l D aI aL ad) M_X6_ideal P 27 [] [.int (-1 : Int32), .ref (ad 0)] I J) : Sat (EC l D aI aL ad) M_X6_ideal P 25 [(0, .ref (ad 0))] [] I J := by
  refine s_aload_n 0 dX6_ideal_25 rfl ?_
  refine s_iconst (v := -1) dX6_ideal_26 rfl ?_
  refine s_pick [] [] rfl ?_; exact k
theorem bX6_ideal_30 {l : Launch} {D : va_G} {aI aL : ClassId} {ad : Nat → Nat} {P : sa_P} {I : sa_I} {J : sa_J} {s0 : Int32}   (k : P (some (.int s0)) I J) : Sat (EC l D aI aL ad) M_X6_ideal P 30 [] [.int s0] I J := by
  exact s_iret rfl dX6_ideal_30 k
theorem bX6_ideal_31 {l : Launch} {D : va_G} {aI aL : ClassId} {ad : Nat → Nat} {P : sa_P} {I : sa_I} {J : sa_J} {x1 : Int32} {x2 : Int32}   (kt : (1 : Int32) ≤ x1 → Sat (EC l D aI aL ad) M_X6_ideal P 43 [(0, .ref (ad 0)), (1, .int x1), (2, .int x2)] [] I J) (kf : ¬ (1 : Int32) ≤ x1 → Sat (EC l D aI aL ad) M_X6_ideal P 36 [(0, .ref (ad 0))] [] I J) : Sat (EC l D aI aL ad) M_X6_ideal P 31 [(0, .ref (ad 0)), (1, .int x1), (2, .int x2)] [] I J := by
  refine s_iload_n 1 dX6_ideal_31 rfl ?_
  refine s_iconst (v := 1) dX6_ideal_32 rfl ?_
  refine s_icmp_ge (tgt := 43) dX6_ideal_33 (by decide) (fun c => ?_) (fun c => ?_)
  · exact kt c
  · refine s_pick [0] [(0, .ref (ad 0))] rfl ?_; exact kf c
theorem bX6_ideal_36 {l : Launch} {D : va_G} {aI aL : ClassId} {ad : Nat → Nat} {P : sa_P} {I : sa_I} {J : sa_J}    (k : Sat (EC l D aI aL ad) M_X6_ideal P 39 [] [.int (-4 : Int32), .ref (ad 0)] I J) : Sat (EC l D aI aL ad) M_X6_ideal P 36 [(0, .ref (ad 0))] [] I J := by
  refine s_aload_n 0 dX6_ideal_36 rfl ?_
  refine s_bipush (v := -4) dX6_ideal_37 rfl ?_
  refine s_pick [] [] rfl ?_; exact k
theorem bX6_ideal_42 {l : Launch} {D : va_G} {aI aL : ClassId} {ad : Nat → Nat} {P : sa_P} {I : sa_I} {J : sa_J} {s0 : Int32}   (k : P (some (.int s0)) I J) : Sat (EC l D aI aL ad) M_X6_ideal P 42 [] [.int s0] I J := by
  exact s_iret rfl dX6_ideal_42 k
theorem bX6_ideal_43 {l : Launch} {D : va_G} {aI aL : ClassId} {ad : Nat → Nat} {P : sa_P} {I : sa_I} {J : sa_J} {x1 : Int32} {x2 : Int32}   (kt : x1.toInt64 ≤ (1000000 : Int64) → Sat (EC l D aI aL ad) M_X6_ideal P 59 [(0, .ref (ad 0)), (1, .int x1), (2, .int x2)] [] I J) (kf : ¬ x1.toInt64 ≤ (1000000 : Int64) → Sat (EC l D aI aL ad) M_X6_ideal P 52 [(0, .ref (ad 0))] [] I J) : Sat (EC l D aI aL ad) M_X6_ideal P 43 [(0, .ref (ad 0)), (1, .int x1), (2, .int x2)] [] I J := by
  refine s_iload_n 1 dX6_ideal_43 rfl ?_
  refine s_i2l dX6_ideal_44 ?_
  refine s_ldc2 wk_X6_163 dX6_ideal_45 ?_
  refine s_lif_le (tgt := 59) dX6_ideal_48 dX6_ideal_49 (by decide) (fun c => ?_) (fun c => ?_)
  · exact kt c
  · refine s_pick [0] [(0, .ref (ad 0))] rfl ?_; exact kf c
theorem bX6_ideal_52 {l : Launch} {D : va_G} {aI aL : ClassId} {ad : Nat → Nat} {P : sa_P} {I : sa_I} {J : sa_J}    (k : Sat (EC l D aI aL ad) M_X6_ideal P 55 [] [.int (-6 : Int32), .ref (ad 0)] I J) : Sat (EC l D aI aL ad) M_X6_ideal P 52 [(0, .ref (ad 0))] [] I J := by
  refine s_aload_n 0 dX6_ideal_52 rfl ?_
  refine s_bipush (v := -6) dX6_ideal_53 rfl ?_
  refine s_pick [] [] rfl ?_; exact k
theorem bX6_ideal_58 {l : Launch} {D : va_G} {aI aL : ClassId} {ad : Nat → Nat} {P : sa_P} {I : sa_I} {J : sa_J} {s0 : Int32}   (k : P (some (.int s0)) I J) : Sat (EC l D aI aL ad) M_X6_ideal P 58 [] [.int s0] I J := by
  exact s_iret rfl dX6_ideal_58 k
theorem bX6_ideal_59 {l : Launch} {D : va_G} {aI aL : ClassId} {ad : Nat → Nat} {P : sa_P} {I : sa_I} {J : sa_J} {x1 : Int32} {x2 : Int32}   (k : Sat (EC l D aI aL ad) M_X6_ideal P 72 [(0, .ref (ad 0))] [.int ((3 : Int32) * x2), .ref (ad 2), .long x1.toInt64, .ref (ad 13)] I J) : Sat (EC l D aI aL ad) M_X6_ideal P 59 [(0, .ref (ad 0)), (1, .int x1), (2, .int x2)] [] I J := by
  refine s_aload_n 0 dX6_ideal_59 rfl ?_
  refine g_X6_32 dX6_ideal_60 rfl ?_
  refine s_iload_n 1 dX6_ideal_63 rfl ?_
  refine s_i2l dX6_ideal_64 ?_
  refine s_aload_n 0 dX6_ideal_65 rfl ?_
  refine g_X6_13 dX6_ideal_66 rfl ?_
  refine s_iconst (v := 3) dX6_ideal_69 rfl ?_
  refine s_iload_n 2 dX6_ideal_70 rfl ?_
  refine s_imul dX6_ideal_71 ?_
  refine s_pick [0] [(0, .ref (ad 0))] rfl ?_; exact k
theorem bX6_ideal_75 {l : Launch} {D : va_G} {aI aL : ClassId} {ad : Nat → Nat} {P : sa_P} {I : sa_I} {J : sa_J}    (k : Sat (EC l D aI aL ad) M_X6_ideal P 76 [] [.ref (ad 0)] I J) : Sat (EC l D aI aL ad) M_X6_ideal P 75 [(0, .ref (ad 0))] [] I J := by
  refine s_aload_n 0 dX6_ideal_75 rfl ?_
  refine s_pick [] [] rfl ?_; exact k
theorem bX6_ideal_79 {l : Launch} {D : va_G} {aI aL : ClassId} {ad : Nat → Nat} {P : sa_P} {I : sa_I} {J : sa_J} {s0 : Int32}   (k : P (some (.int s0)) I J) : Sat (EC l D aI aL ad) M_X6_ideal P 79 [] [.int s0] I J := by
  exact s_iret rfl dX6_ideal_79 k
/-! X6_join -/
theorem dX6_join_0 : decode cX6_join 0 = .ok (.aload_n 0, 1) := by decide +kernel
theorem dX6_join_1 : decode cX6_join 1 = .ok (.getfield 23, 3) := by decide +kernel
theorem dX6_join_4 : decode cX6_join 4 = .ok (.getfield 85, 3) := by decide +kernel
theorem dX6_join_7 : decode cX6_join 7 = .ok (.ifCond .ne 10, 3) := by decide +kernel
theorem dX6_join_10 : decode cX6_join 10 = .ok (.aload_n 0, 1) := by decide +kernel
theorem dX6_join_11 : decode cX6_join 11 = .ok (.bipush (-3), 2) := by decide +kernel
theorem dX6_join_13 : decode cX6_join 13 = .ok (.invokevirtual 59, 3) := by decide +kernel
theorem dX6_join_16 : decode cX6_join 16 = .ok (.ireturn, 1) := by decide +kernel
theorem dX6_join_17 : decode cX6_join 17 = .ok (.aload_n 0, 1) := by decide +kernel
theorem dX6_join_18 : decode cX6_join 18 = .ok (.iload_n 2, 1) := by decide +kernel
theorem dX6_join_19 : decode cX6_join 19 = .ok (.invokevirtual 172, 3) := by decide +kernel
theorem dX6_join_22 : decode cX6_join 22 = .ok (.ifCond .eq 11, 3) := by decide +kernel
theorem dX6_join_25 : decode cX6_join 25 = .ok (.aload_n 0, 1) := by decide +kernel
theorem dX6_join_26 : decode cX6_join 26 = .ok (.iload_n 3, 1) := by decide +kernel
theorem dX6_join_27 : decode cX6_join 27 = .ok (.invokevirtual 172, 3) := by decide +kernel
theorem dX6_join_30 : decode cX6_join 30 = .ok (.ifCond .ne 9, 3) := by decide +kernel
theorem dX6_join_33 : decode cX6_join 33 = .ok (.aload_n 0, 1) := by decide +kernel
theorem dX6_join_34 : decode cX6_join 34 = .ok (.iconst (-1), 1) := by decide +kernel
theorem dX6_join_35 : decode cX6_join 35 = .ok (.invokevirtual 59, 3) := by decide +kernel
theorem dX6_join_38 : decode cX6_join 38 = .ok (.ireturn, 1) := by decide +kernel
theorem dX6_join_39 : decode cX6_join 39 = .ok (.iload_n 1, 1) := by decide +kernel
theorem dX6_join_40 : decode cX6_join 40 = .ok (.ifCond .lt 8, 3) := by decide +kernel
theorem dX6_join_43 : decode cX6_join 43 = .ok (.iload_n 1, 1) := by decide +kernel
theorem dX6_join_44 : decode cX6_join 44 = .ok (.iconst 2, 1) := by decide +kernel
theorem dX6_join_45 : decode cX6_join 45 = .ok (.if_icmp .le 10, 3) := by decide +kernel
theorem dX6_join_48 : decode cX6_join 48 = .ok (.aload_n 0, 1) := by decide +kernel
theorem dX6_join_49 : decode cX6_join 49 = .ok (.bipush (-2), 2) := by decide +kernel
theorem dX6_join_51 : decode cX6_join 51 = .ok (.invokevirtual 59, 3) := by decide +kernel
theorem dX6_join_54 : decode cX6_join 54 = .ok (.ireturn, 1) := by decide +kernel
theorem dX6_join_55 : decode cX6_join 55 = .ok (.iload_n 1, 1) := by decide +kernel
theorem dX6_join_56 : decode cX6_join 56 = .ok (.iconst 2, 1) := by decide +kernel
theorem dX6_join_57 : decode cX6_join 57 = .ok (.if_icmp .ne 36, 3) := by decide +kernel
theorem dX6_join_60 : decode cX6_join 60 = .ok (.aload_n 0, 1) := by decide +kernel
theorem dX6_join_61 : decode cX6_join 61 = .ok (.getfield 32, 3) := by decide +kernel
theorem dX6_join_64 : decode cX6_join 64 = .ok (.aload_n 0, 1) := by decide +kernel
theorem dX6_join_65 : decode cX6_join 65 = .ok (.getfield 17, 3) := by decide +kernel
theorem dX6_join_68 : decode cX6_join 68 = .ok (.bipush 9, 2) := by decide +kernel
theorem dX6_join_70 : decode cX6_join 70 = .ok (.iload_n 3, 1) := by decide +kernel
theorem dX6_join_71 : decode cX6_join 71 = .ok (.imul, 1) := by decide +kernel
theorem dX6_join_72 : decode cX6_join 72 = .ok (.aload_n 0, 1) := by decide +kernel
theorem dX6_join_73 : decode cX6_join 73 = .ok (.getfield 17, 3) := by decide +kernel
theorem dX6_join_76 : decode cX6_join 76 = .ok (.bipush 9, 2) := by decide +kernel
theorem dX6_join_78 : decode cX6_join 78 = .ok (.iload_n 2, 1) := by decide +kernel
theorem dX6_join_79 : decode cX6_join 79 = .ok (.imul, 1) := by decide +kernel
theorem dX6_join_80 : decode cX6_join 80 = .ok (.invokevirtual 175, 3) := by decide +kernel
theorem dX6_join_83 : decode cX6_join 83 = .ok (.ifCond .ne 10, 3) := by decide +kernel
theorem dX6_join_86 : decode cX6_join 86 = .ok (.aload_n 0, 1) := by decide +kernel
theorem dX6_join_87 : decode cX6_join 87 = .ok (.bipush (-3), 2) := by decide +kernel
theorem dX6_join_89 : decode cX6_join 89 = .ok (.invokevirtual 59, 3) := by decide +kernel
theorem dX6_join_92 : decode cX6_join 92 = .ok (.ireturn, 1) := by decide +kernel
theorem dX6_join_93 : decode cX6_join 93 = .ok (.iload_n 1, 1) := by decide +kernel
theorem dX6_join_94 : decode cX6_join 94 = .ok (.iconst 1, 1) := by decide +kernel
theorem dX6_join_95 : decode cX6_join 95 = .ok (.if_icmp .ne 40, 3) := by decide +kernel
theorem dX6_join_98 : decode cX6_join 98 = .ok (.aload_n 0, 1) := by decide +kernel
theorem dX6_join_99 : decode cX6_join 99 = .ok (.getfield 17, 3) := by decide +kernel
theorem dX6_join_102 : decode cX6_join 102 = .ok (.bipush 9, 2) := by decide +kernel
theorem dX6_join_104 : decode cX6_join 104 = .ok (.iload_n 2, 1) := by decide +kernel
theorem dX6_join_105 : decode cX6_join 105 = .ok (.imul, 1) := by decide +kernel
theorem dX6_join_106 : decode cX6_join 106 = .ok (.invokestatic 179, 3) := by decide +kernel
theorem dX6_join_109 : decode cX6_join 109 = .ok (.aload_n 0, 1) := by decide +kernel
theorem dX6_join_110 : decode cX6_join 110 = .ok (.getfield 17, 3) := by decide +kernel
theorem dX6_join_113 : decode cX6_join 113 = .ok (.bipush 9, 2) := by decide +kernel
theorem dX6_join_115 : decode cX6_join 115 = .ok (.iload_n 3, 1) := by decide +kernel
theorem dX6_join_116 : decode cX6_join 116 = .ok (.imul, 1) := by decide +kernel
theorem dX6_join_117 : decode cX6_join 117 = .ok (.invokestatic 179, 3) := by decide +kernel
theorem dX6_join_120 : decode cX6_join 120 = .ok (.lmul, 1) := by decide +kernel
theorem dX6_join_121 : decode cX6_join 121 = .ok (.ldc2_w 163, 3) := by decide +kernel
theorem dX6_join_124 : decode cX6_join 124 = .ok (.lcmp, 1) := by decide +kernel
theorem dX6_join_125 : decode cX6_join 125 = .ok (.ifCond .le 10, 3) := by decide +kernel
theorem dX6_join_128 : decode cX6_join 128 = .ok (.aload_n 0, 1) := by decide +kernel
theorem dX6_join_129 : decode cX6_join 129 = .ok (.bipush (-6), 2) := by decide +kernel
theorem dX6_join_131 : decode cX6_join 131 = .ok (.invokevirtual 59, 3) := by decide +kernel
theorem dX6_join_134 : decode cX6_join 134 = .ok (.ireturn, 1) := by decide +kernel
theorem dX6_join_135 : decode cX6_join 135 = .ok (.iload_n 1, 1) := by decide +kernel
theorem dX6_join_136 : decode cX6_join 136 = .ok (.ifCond .ne 29, 3) := by decide +kernel
theorem dX6_join_139 : decode cX6_join 139 = .ok (.aload_n 0, 1) := by decide +kernel
theorem dX6_join_140 : decode cX6_join 140 = .ok (.getfield 32, 3) := by decide +kernel
theorem dX6_join_143 : decode cX6_join 143 = .ok (.aload_n 0, 1) := by decide +kernel
theorem dX6_join_144 : decode cX6_join 144 = .ok (.getfield 17, 3) := by decide +kernel
theorem dX6_join_147 : decode cX6_join 147 = .ok (.bipush 9, 2) := by decide +kernel
theorem dX6_join_149 : decode cX6_join 149 = .ok (.iload_n 2, 1) := by decide +kernel
theorem dX6_join_150 : decode cX6_join 150 = .ok (.imul, 1) := by decide +kernel
theorem dX6_join_151 : decode cX6_join 151 = .ok (.aload_n 0, 1) := by decide +kernel
theorem dX6_join_152 : decode cX6_join 152 = .ok (.getfield 17, 3) := by decide +kernel
theorem dX6_join_155 : decode cX6_join 155 = .ok (.bipush 9, 2) := by decide +kernel
theorem dX6_join_157 : decode cX6_join 157 = .ok (.iload_n 3, 1) := by decide +kernel
theorem dX6_join_158 : decode cX6_join 158 = .ok (.imul, 1) := by decide +kernel
theorem dX6_join_159 : decode cX6_join 159 = .ok (.invokevirtual 183, 3) := by decide +kernel
theorem dX6_join_162 : decode cX6_join 162 = .ok (.goto 57, 3) := by decide +kernel
theorem dX6_join_165 : decode cX6_join 165 = .ok (.iload_n 1, 1) := by decide +kernel
theorem dX6_join_166 : decode cX6_join 166 = .ok (.iconst 1, 1) := by decide +kernel
theorem dX6_join_167 : decode cX6_join 167 = .ok (.if_icmp .ne 29, 3) := by decide +kernel
theorem dX6_join_170 : decode cX6_join 170 = .ok (.aload_n 0, 1) := by decide +kernel
theorem dX6_join_171 : decode cX6_join 171 = .ok (.getfield 32, 3) := by decide +kernel
theorem dX6_join_174 : decode cX6_join 174 = .ok (.aload_n 0, 1) := by decide +kernel
theorem dX6_join_175 : decode cX6_join 175 = .ok (.getfield 17, 3) := by decide +kernel
theorem dX6_join_178 : decode cX6_join 178 = .ok (.bipush 9, 2) := by decide +kernel
theorem dX6_join_180 : decode cX6_join 180 = .ok (.iload_n 2, 1) := by decide +kernel
theorem dX6_join_181 : decode cX6_join 181 = .ok (.imul, 1) := by decide +kernel
theorem dX6_join_182 : decode cX6_join 182 = .ok (.aload_n 0, 1) := by decide +kernel
theorem dX6_join_183 : decode cX6_join 183 = .ok (.getfield 17, 3) := by decide +kernel
theorem dX6_join_186 : decode cX6_join 186 = .ok (.bipush 9, 2) := by decide +kernel
theorem dX6_join_188 : decode cX6_join 188 = .ok (.iload_n 3, 1) := by decide +kernel
theorem dX6_join_189 : decode cX6_join 189 = .ok (.imul, 1) := by decide +kernel
theorem dX6_join_190 : decode cX6_join 190 = .ok (.invokevirtual 186, 3) := by decide +kernel
theorem dX6_join_193 : decode cX6_join 193 = .ok (.goto 26, 3) := by decide +kernel
theorem dX6_join_196 : decode cX6_join 196 = .ok (.aload_n 0, 1) := by decide +kernel
theorem dX6_join_197 : decode cX6_join 197 = .ok (.getfield 32, 3) := by decide +kernel
theorem dX6_join_200 : decode cX6_join 200 = .ok (.aload_n 0, 1) := by decide +kernel
theorem dX6_join_201 : decode cX6_join 201 = .ok (.getfield 17, 3) := by decide +kernel
theorem dX6_join_204 : decode cX6_join 204 = .ok (.bipush 9, 2) := by decide +kernel
theorem dX6_join_206 : decode cX6_join 206 = .ok (.iload_n 2, 1) := by decide +kernel
theorem dX6_join_207 : decode cX6_join 207 = .ok (.imul, 1) := by decide +kernel
theorem dX6_join_208 : decode cX6_join 208 = .ok (.aload_n 0, 1) := by decide +kernel
theorem dX6_join_209 : decode cX6_join 209 = .ok (.getfield 17, 3) := by decide +kernel
theorem dX6_join_212 : decode cX6_join 212 = .ok (.bipush 9, 2) := by decide +kernel
theorem dX6_join_214 : decode cX6_join 214 = .ok (.iload_n 3, 1) := by decide +kernel
theorem dX6_join_215 : decode cX6_join 215 = .ok (.imul, 1) := by decide +kernel
theorem dX6_join_216 : decode cX6_join 216 = .ok (.invokevirtual 189, 3) := by decide +kernel
theorem dX6_join_219 : decode cX6_join 219 = .ok (.aload_n 0, 1) := by decide +kernel
theorem dX6_join_220 : decode cX6_join 220 = .ok (.invokevirtual 169, 3) := by decide +kernel
theorem dX6_join_223 : decode cX6_join 223 = .ok (.ireturn, 1) := by decide +kernel
theorem bX6_join_0 {l : Launch} {D : va_G} {aI aL : ClassId} {ad : Nat → Nat} {P : sa_P} {I : sa_I} {J : sa_J} {x1 : Int32} {x2 : Int32} {x3 : Int32}   (kt : ¬ I 4 0 = 0 → Sat (EC l D aI aL ad) M_X6_join P 17 [(0, .ref (ad 0)), (1, .int x1), (2, .int x2), (3, .int x3)] [] I J) (kf : I 4 0 = 0 → Sat (EC l D aI aL ad) M_X6_join P 10 [(0, .ref (ad 0))] [] I J) : Sat (EC l D aI aL ad) M_X6_join P 0 [(0, .ref (ad 0)), (1, .int x1), (2, .int x2), (3, .int x3)] [] I J := by
  refine s_aload_n 0 dX6_join_0 rfl ?_
  refine g_X6_23 dX6_join_1 rfl ?_
  refine g_X6_85 dX6_join_4 rfl ?_
  refine s_if_ne (tgt := 17) dX6_join_7 (by decide) (fun c => ?_) (fun c => ?_)
  · exact kt c
  · refine s_pick [0] [(0, .ref (ad 0))] rfl ?_; exact kf (by first | exact c | exact Classical.not_not.mp c)
theorem bX6_join_10 {l : Launch} {D : va_G} {aI aL : ClassId} {ad : Nat → Nat} {P : sa_P} {I : sa_I} {J : sa_J}    (k : Sat (EC l D aI aL ad) M_X6_join P 13 [] [.int (-3 : Int32), .ref (ad 0)] I J) : Sat (EC l D aI aL ad) M_X6_join P 10 [(0, .ref (ad 0))] [] I J := by
  refine s_aload_n 0 dX6_join_10 rfl ?_
  refine s_bipush (v := -3) dX6_join_11 rfl ?_
  refine s_pick [] [] rfl ?_; exact k
theorem bX6_join_16 {l : Launch} {D : va_G} {aI aL : ClassId} {ad : Nat → Nat} {P : sa_P} {I : sa_I} {J : sa_J} {s0 : Int32}   (k : P (some (.int s0)) I J) : Sat (EC l D aI aL ad) M_X6_join P 16 [] [.int s0] I J := by
  exact s_iret rfl dX6_join_16 k
theorem bX6_join_17 {l : Launch} {D : va_G} {aI aL : ClassId} {ad : Nat → Nat} {P : sa_P} {I : sa_I} {J : sa_J} {x1 : Int32} {x2 : Int32} {x3 : Int32}   (k : Sat (EC l D aI aL ad) M_X6_join P 19 [(0, .ref (ad 0)), (1, .int x1), (2, .int x2), (3, .int x3)] [.int x2, .ref (ad 0)] I J) : Sat (EC l D aI aL ad) M_X6_join P 17 [(0, .ref (ad 0)), (1, .int x1), (2, .int x2), (3, .int x3)] [] I J := by
  refine s_aload_n 0 dX6_join_17 rfl ?_
  refine s_iload_n 2 dX6_join_18 rfl ?_
  exact k
theorem bX6_join_22 {l : Launch} {D : va_G} {aI aL : ClassId} {ad : Nat → Nat} {P : sa_P} {I : sa_I} {J : sa_J} {x1 : Int32} {x2 : Int32} {x3 : Int32} {s0 : Int32}   (kt : s0 = 0 → Sat (EC l D aI aL ad) M_X6_join P 33 [(0, .ref (ad 0))] [] I J) (kf : ¬ s0 = 0 → Sat (EC l D aI aL ad) M_X6_join P 25 [(0, .ref (ad 0)), (1, .int x1), (2, .int x2), (3, .int x3)] [] I J) : Sat (EC l D aI aL ad) M_X6_join P 22 [(0, .ref (ad 0)), (1, .int x1), (2, .int x2), (3, .int x3)] [.int s0] I J := by
  refine s_if_eq (tgt := 33) dX6_join_22 (by decide) (fun c => ?_) (fun c => ?_)
  · refine s_pick [0] [(0, .ref (ad 0))] rfl ?_; exact kt c
  · exact kf c
theorem bX6_join_25 {l : Launch} {D : va_G} {aI aL : ClassId} {ad : Nat → Nat} {P : sa_P} {I : sa_I} {J : sa_J} {x1 : Int32} {x2 : Int32} {x3 : Int32}   (k : Sat (EC l D aI aL ad) M_X6_join P 27 [(0, .ref (ad 0)), (1, .int x1), (2, .int x2), (3, .int x3)] [.int x3, .ref (ad 0)] I J) : Sat (EC l D aI aL ad) M_X6_join P 25 [(0, .ref (ad 0)), (1, .int x1), (2, .int x2), (3, .int x3)] [] I J := by
  refine s_aload_n 0 dX6_join_25 rfl ?_
  refine s_iload_n 3 dX6_join_26 rfl ?_
  exact k
theorem bX6_join_30 {l : Launch} {D : va_G} {aI aL : ClassId} {ad : Nat → Nat} {P : sa_P} {I : sa_I} {J : sa_J} {x1 : Int32} {x2 : Int32} {x3 : Int32} {s0 : Int32}   (kt : ¬ s0 = 0 → Sat (EC l D aI aL ad) M_X6_join P 39 [(0, .ref (ad 0)), (1, .int x1), (2, .int x2), (3, .int x3)] [] I J) (kf : s0 = 0 → Sat (EC l D aI aL ad) M_X6_join P 33 [(0, .ref (ad 0))] [] I J) : Sat (EC l D aI aL ad) M_X6_join P 30 [(0, .ref (ad 0)), (1, .int x1), (2, .int x2), (3, .int x3)] [.int s0] I J := by
  refine s_if_ne (tgt := 39) dX6_join_30 (by decide) (fun c => ?_) (fun c => ?_)
  · exact kt c
  · refine s_pick [0] [(0, .ref (ad 0))] rfl ?_; exact kf (by first | exact c | exact Classical.not_not.mp c)
theorem bX6_join_33 {l : Launch} {D : va_G} {aI aL : ClassId} {ad : Nat → Nat} {P : sa_P} {I : sa_I} {J : sa_J}    (k : Sat (EC l D aI aL ad) M_X6_join P 35 [] [.int (-1 : Int32), .ref (ad 0)] I J) : Sat (EC l D aI aL ad) M_X6_join P 33 [(0, .ref (ad 0))] [] I J := by
  refine s_aload_n 0 dX6_join_33 rfl ?_
  refine s_iconst (v := -1) dX6_join_34 rfl ?_
  refine s_pick [] [] rfl ?_; exact k
theorem bX6_join_38 {l : Launch} {D : va_G} {aI aL : ClassId} {ad : Nat → Nat} {P : sa_P} {I : sa_I} {J : sa_J} {s0 : Int32}   (k : P (some (.int s0)) I J) : Sat (EC l D aI aL ad) M_X6_join P 38 [] [.int s0] I J := by
  exact s_iret rfl dX6_join_38 k
theorem bX6_join_39 {l : Launch} {D : va_G} {aI aL : ClassId} {ad : Nat → Nat} {P : sa_P} {I : sa_I} {J : sa_J} {x1 : Int32} {x2 : Int32} {x3 : Int32}   (kt : x1 < 0 → Sat (EC l D aI aL ad) M_X6_join P 48 [(0, .ref (ad 0))] [] I J) (kf : ¬ x1 < 0 → Sat (EC l D aI aL ad) M_X6_join P 43 [(0, .ref (ad 0)), (1, .int x1), (2, .int x2), (3, .int x3)] [] I J) : Sat (EC l D aI aL ad) M_X6_join P 39 [(0, .ref (ad 0)), (1, .int x1), (2, .int x2), (3, .int x3)] [] I J := by
  refine s_iload_n 1 dX6_join_39 rfl ?_
  refine s_if_lt (tgt := 48) dX6_join_40 (by decide) (fun c => ?_) (fun c => ?_)
  · refine s_pick [0] [(0, .ref (ad 0))] rfl ?_; exact kt c
  · exact kf c
theorem bX6_join_43 {l : Launch} {D : va_G} {aI aL : ClassId} {ad : Nat → Nat} {P : sa_P} {I : sa_I} {J : sa_J} {x1 : Int32} {x2 : Int32} {x3 : Int32}   (kt : x1 ≤ (2 : Int32) → Sat (EC l D aI aL ad) M_X6_join P 55 [(0, .ref (ad 0)), (1, .int x1), (2, .int x2), (3, .int x3)] [] I J) (kf : ¬ x1 ≤ (2 : Int32) → Sat (EC l D aI aL ad) M_X6_join P 48 [(0, .ref (ad 0))] [] I J) : Sat (EC l D aI aL ad) M_X6_join P 43 [(0, .ref (ad 0)), (1, .int x1), (2, .int x2), (3, .int x3)] [] I J := by
  refine s_iload_n 1 dX6_join_43 rfl ?_
  refine s_iconst (v := 2) dX6_join_44 rfl ?_
  refine s_icmp_le (tgt := 55) dX6_join_45 (by decide) (fun c => ?_) (fun c => ?_)
  · exact kt c
  · refine s_pick [0] [(0, .ref (ad 0))] rfl ?_; exact kf c
theorem bX6_join_48 {l : Launch} {D : va_G} {aI aL : ClassId} {ad : Nat → Nat} {P : sa_P} {I : sa_I} {J : sa_J}    (k : Sat (EC l D aI aL ad) M_X6_join P 51 [] [.int (-2 : Int32), .ref (ad 0)] I J) : Sat (EC l D aI aL ad) M_X6_join P 48 [(0, .ref (ad 0))] [] I J := by
  refine s_aload_n 0 dX6_join_48 rfl ?_
  refine s_bipush (v := -2) dX6_join_49 rfl ?_
  refine s_pick [] [] rfl ?_; exact k
theorem bX6_join_54 {l : Launch} {D : va_G} {aI aL : ClassId} {ad : Nat → Nat} {P : sa_P} {I : sa_I} {J : sa_J} {s0 : Int32}   (k : P (some (.int s0)) I J) : Sat (EC l D aI aL ad) M_X6_join P 54 [] [.int s0] I J := by
  exact s_iret rfl dX6_join_54 k
theorem bX6_join_55 {l : Launch} {D : va_G} {aI aL : ClassId} {ad : Nat → Nat} {P : sa_P} {I : sa_I} {J : sa_J} {x1 : Int32} {x2 : Int32} {x3 : Int32}   (kt : ¬ x1 = (2 : Int32) → Sat (EC l D aI aL ad) M_X6_join P 93 [(0, .ref (ad 0)), (1, .int x1), (2, .int x2), (3, .int x3)] [] I J) (kf : x1 = (2 : Int32) → Sat (EC l D aI aL ad) M_X6_join P 60 [(0, .ref (ad 0)), (1, .int x1), (2, .int x2), (3, .int x3)] [] I J) : Sat (EC l D aI aL ad) M_X6_join P 55 [(0, .ref (ad 0)), (1, .int x1), (2, .int x2), (3, .int x3)] [] I J := by
  refine s_iload_n 1 dX6_join_55 rfl ?_
  refine s_iconst (v := 2) dX6_join_56 rfl ?_
  refine s_icmp_ne (tgt := 93) dX6_join_57 (by decide) (fun c => ?_) (fun c => ?_)
  · exact kt c
  · exact kf (by first | exact c | exact Classical.not_not.mp c)
theorem bX6_join_60 {l : Launch} {D : va_G} {aI aL : ClassId} {ad : Nat → Nat} {P : sa_P} {I : sa_I} {J : sa_J} {x1 : Int32} {x2 : Int32} {x3 : Int32}   (k : Sat (EC l D aI aL ad) M_X6_join P 80 [(0, .ref (ad 0)), (1, .int x1), (2, .int x2), (3, .int x3)] [.int ((9 : Int32) * x2), .ref (ad 3), .int ((9 : Int32) * x3), .ref (ad 3), .ref (ad 13)] I J) : Sat (EC l D aI aL ad) M_X6_join P 60 [(0, .ref (ad 0)), (1, .int x1), (2, .int x2), (3, .int x3)] [] I J := by
  refine s_aload_n 0 dX6_join_60 rfl ?_
  refine g_X6_32 dX6_join_61 rfl ?_
  refine s_aload_n 0 dX6_join_64 rfl ?_
  refine g_X6_17 dX6_join_65 rfl ?_
  refine s_bipush (v := 9) dX6_join_68 rfl ?_
  refine s_iload_n 3 dX6_join_70 rfl ?_
  refine s_imul dX6_join_71 ?_
  refine s_aload_n 0 dX6_join_72 rfl ?_
  refine g_X6_17 dX6_join_73 rfl ?_
  refine s_bipush (v := 9) dX6_join_76 rfl ?_
  refine s_iload_n 2 dX6_join_78 rfl ?_
  refine s_imul dX6_join_79 ?_
  exact k
theorem bX6_join_83 {l : Launch} {D : va_G} {aI aL : ClassId} {ad : Nat → Nat} {P : sa_P} {I : sa_I} {J : sa_J} {x1 : Int32} {x2 : Int32} {x3 : Int32} {s0 : Int32}   (kt : ¬ s0 = 0 → Sat (EC l D aI aL ad) M_X6_join P 93 [(0, .ref (ad 0)), (1, .int x1), (2, .int x2), (3, .int x3)] [] I J) (kf : s0 = 0 → Sat (EC l D aI aL ad) M_X6_join P 86 [(0, .ref (ad 0))] [] I J) : Sat (EC l D aI aL ad) M_X6_join P 83 [(0, .ref (ad 0)), (1, .int x1), (2, .int x2), (3, .int x3)] [.int s0] I J := by
  refine s_if_ne (tgt := 93) dX6_join_83 (by decide) (fun c => ?_) (fun c => ?_)
  · exact kt c
  · refine s_pick [0] [(0, .ref (ad 0))] rfl ?_; exact kf (by first | exact c | exact Classical.not_not.mp c)
theorem bX6_join_86 {l : Launch} {D : va_G} {aI aL : ClassId} {ad : Nat → Nat} {P : sa_P} {I : sa_I} {J : sa_J}    (k : Sat (EC l D aI aL ad) M_X6_join P 89 [] [.int (-3 : Int32), .ref (ad 0)] I J) : Sat (EC l D aI aL ad) M_X6_join P 86 [(0, .ref (ad 0))] [] I J := by
  refine s_aload_n 0 dX6_join_86 rfl ?_
  refine s_bipush (v := -3) dX6_join_87 rfl ?_
  refine s_pick [] [] rfl ?_; exact k
theorem bX6_join_92 {l : Launch} {D : va_G} {aI aL : ClassId} {ad : Nat → Nat} {P : sa_P} {I : sa_I} {J : sa_J} {s0 : Int32}   (k : P (some (.int s0)) I J) : Sat (EC l D aI aL ad) M_X6_join P 92 [] [.int s0] I J := by
  exact s_iret rfl dX6_join_92 k
theorem bX6_join_93 {l : Launch} {D : va_G} {aI aL : ClassId} {ad : Nat → Nat} {P : sa_P} {I : sa_I} {J : sa_J} {x1 : Int32} {x2 : Int32} {x3 : Int32}   (kt : ¬ x1 = (1 : Int32) → Sat (EC l D aI aL ad) M_X6_join P 135 [(0, .ref (ad 0)), (1, .int x1), (2, .int x2), (3, .int x3)] [] I J) (kf : x1 = (1 : Int32) → Sat (EC l D aI aL ad) M_X6_join P 98 [(0, .ref (ad 0)), (1, .int x1), (2, .int x2), (3, .int x3)] [] I J) : Sat (EC l D aI aL ad) M_X6_join P 93 [(0, .ref (ad 0)), (1, .int x1), (2, .int x2), (3, .int x3)] [] I J := by
  refine s_iload_n 1 dX6_join_93 rfl ?_
  refine s_iconst (v := 1) dX6_join_94 rfl ?_
  refine s_icmp_ne (tgt := 135) dX6_join_95 (by decide) (fun c => ?_) (fun c => ?_)
  · exact kt c
  · exact kf (by first | exact c | exact Classical.not_not.mp c)
theorem bX6_join_98 {l : Launch} {D : va_G} {aI aL : ClassId} {ad : Nat → Nat} {P : sa_P} {I : sa_I} {J : sa_J} {x1 : Int32} {x2 : Int32} {x3 : Int32}   (k : Sat (EC l D aI aL ad) M_X6_join P 106 [(0, .ref (ad 0)), (1, .int x1), (2, .int x2), (3, .int x3)] [.int ((9 : Int32) * x2), .ref (ad 3)] I J) : Sat (EC l D aI aL ad) M_X6_join P 98 [(0, .ref (ad 0)), (1, .int x1), (2, .int x2), (3, .int x3)] [] I J := by
  refine s_aload_n 0 dX6_join_98 rfl ?_
  refine g_X6_17 dX6_join_99 rfl ?_
  refine s_bipush (v := 9) dX6_join_102 rfl ?_
  refine s_iload_n 2 dX6_join_104 rfl ?_
  refine s_imul dX6_join_105 ?_
  exact k
theorem bX6_join_109 {l : Launch} {D : va_G} {aI aL : ClassId} {ad : Nat → Nat} {P : sa_P} {I : sa_I} {J : sa_J} {x1 : Int32} {x2 : Int32} {x3 : Int32} {s0 : Int64}   (k : Sat (EC l D aI aL ad) M_X6_join P 117 [(0, .ref (ad 0)), (1, .int x1), (2, .int x2), (3, .int x3)] [.int ((9 : Int32) * x3), .ref (ad 3), .long s0] I J) : Sat (EC l D aI aL ad) M_X6_join P 109 [(0, .ref (ad 0)), (1, .int x1), (2, .int x2), (3, .int x3)] [.long s0] I J := by
  refine s_aload_n 0 dX6_join_109 rfl ?_
  refine g_X6_17 dX6_join_110 rfl ?_
  refine s_bipush (v := 9) dX6_join_113 rfl ?_
  refine s_iload_n 3 dX6_join_115 rfl ?_
  refine s_imul dX6_join_116 ?_
  exact k
theorem bX6_join_120 {l : Launch} {D : va_G} {aI aL : ClassId} {ad : Nat → Nat} {P : sa_P} {I : sa_I} {J : sa_J} {x1 : Int32} {x2 : Int32} {x3 : Int32} {s0 : Int64} {s1 : Int64}   (kt : s0 * s1 ≤ (1000000 : Int64) → Sat (EC l D aI aL ad) M_X6_join P 135 [(0, .ref (ad 0)), (1, .int x1), (2, .int x2), (3, .int x3)] [] I J) (kf : ¬ s0 * s1 ≤ (1000000 : Int64) → Sat (EC l D aI aL ad) M_X6_join P 128 [(0, .ref (ad 0))] [] I J) : Sat (EC l D aI aL ad) M_X6_join P 120 [(0, .ref (ad 0)), (1, .int x1), (2, .int x2), (3, .int x3)] [.long s1, .long s0] I J := by
  refine s_lmul dX6_join_120 ?_
  refine s_ldc2 wk_X6_163 dX6_join_121 ?_
  refine s_lif_le (tgt := 135) dX6_join_124 dX6_join_125 (by decide) (fun c => ?_) (fun c => ?_)
  · exact kt c
  · refine s_pick [0] [(0, .ref (ad 0))] rfl ?_; exact kf c
theorem bX6_join_128 {l : Launch} {D : va_G} {aI aL : ClassId} {ad : Nat → Nat} {P : sa_P} {I : sa_I} {J : sa_J}    (k : Sat (EC l D aI aL ad) M_X6_join P 131 [] [.int (-6 : Int32), .ref (ad 0)] I J) : Sat (EC l D aI aL ad) M_X6_join P 128 [(0, .ref (ad 0))] [] I J := by
  refine s_aload_n 0 dX6_join_128 rfl ?_
  refine s_bipush (v := -6) dX6_join_129 rfl ?_
  refine s_pick [] [] rfl ?_; exact k
theorem bX6_join_134 {l : Launch} {D : va_G} {aI aL : ClassId} {ad : Nat → Nat} {P : sa_P} {I : sa_I} {J : sa_J} {s0 : Int32}   (k : P (some (.int s0)) I J) : Sat (EC l D aI aL ad) M_X6_join P 134 [] [.int s0] I J := by
  exact s_iret rfl dX6_join_134 k
theorem bX6_join_135 {l : Launch} {D : va_G} {aI aL : ClassId} {ad : Nat → Nat} {P : sa_P} {I : sa_I} {J : sa_J} {x1 : Int32} {x2 : Int32} {x3 : Int32}   (kt : ¬ x1 = 0 → Sat (EC l D aI aL ad) M_X6_join P 165 [(0, .ref (ad 0)), (1, .int x1), (2, .int x2), (3, .int x3)] [] I J) (kf : x1 = 0 → Sat (EC l D aI aL ad) M_X6_join P 139 [(0, .ref (ad 0)), (2, .int x2), (3, .int x3)] [] I J) : Sat (EC l D aI aL ad) M_X6_join P 135 [(0, .ref (ad 0)), (1, .int x1), (2, .int x2), (3, .int x3)] [] I J := by
  refine s_iload_n 1 dX6_join_135 rfl ?_
  refine s_if_ne (tgt := 165) dX6_join_136 (by decide) (fun c => ?_) (fun c => ?_)
  · exact kt c
  · refine s_pick [0, 2, 3] [(0, .ref (ad 0)), (2, .int x2), (3, .int x3)] rfl ?_; exact kf (by first | exact c | exact Classical.not_not.mp c)
theorem bX6_join_139 {l : Launch} {D : va_G} {aI aL : ClassId} {ad : Nat → Nat} {P : sa_P} {I : sa_I} {J : sa_J} {x2 : Int32} {x3 : Int32}   (k : Sat (EC l D aI aL ad) M_X6_join P 159 [(0, .ref (ad 0))] [.int ((9 : Int32) * x3), .ref (ad 3), .int ((9 : Int32) * x2), .ref (ad 3), .ref (ad 13)] I J) : Sat (EC l D aI aL ad) M_X6_join P 139 [(0, .ref (ad 0)), (2, .int x2), (3, .int x3)] [] I J := by
  refine s_aload_n 0 dX6_join_139 rfl ?_
  refine g_X6_32 dX6_join_140 rfl ?_
  refine s_aload_n 0 dX6_join_143 rfl ?_
  refine g_X6_17 dX6_join_144 rfl ?_
  refine s_bipush (v := 9) dX6_join_147 rfl ?_
  refine s_iload_n 1 dX6_join_149 rfl ?_
  refine s_imul dX6_join_150 ?_
  refine s_aload_n 0 dX6_join_151 rfl ?_
  refine g_X6_17 dX6_join_152 rfl ?_
  refine s_bipush (v := 9) dX6_join_155 rfl ?_
  refine s_iload_n 2 dX6_join_157 rfl ?_
  refine s_imul dX6_join_158 ?_
  refine s_pick [0] [(0, .ref (ad 0))] rfl ?_; exact k
theorem bX6_join_162 {l : Launch} {D : va_G} {aI aL : ClassId} {ad : Nat → Nat} {P : sa_P} {I : sa_I} {J : sa_J}    (k : Sat (EC l D aI aL ad) M_X6_join P 219 [(0, .ref (ad 0))] [] I J) : Sat (EC l D aI aL ad) M_X6_join P 162 [(0, .ref (ad 0))] [] I J := by
  refine s_goto (tgt := 219) dX6_join_162 (by decide) ?_
  exact k
theorem bX6_join_165 {l : Launch} {D : va_G} {aI aL : ClassId} {ad : Nat → Nat} {P : sa_P} {I : sa_I} {J : sa_J} {x1 : Int32} {x2 : Int32} {x3 : Int32}   (kt : ¬ x1 = (1 : Int32) → Sat (EC l D aI aL ad) M_X6_join P 196 [(0, .ref (ad 0)), (2, .int x2), (3, .int x3)] [] I J) (kf : x1 = (1 : Int32) → Sat (EC l D aI aL ad) M_X6_join P 170 [(0, .ref (ad 0)), (2, .int x2), (3, .int x3)] [] I J) : Sat (EC l D aI aL ad) M_X6_join P 165 [(0, .ref (ad 0)), (1, .int x1), (2, .int x2), (3, .int x3)] [] I J := by
  refine s_iload_n 1 dX6_join_165 rfl ?_
  refine s_iconst (v := 1) dX6_join_166 rfl ?_
  refine s_icmp_ne (tgt := 196) dX6_join_167 (by decide) (fun c => ?_) (fun c => ?_)
  · refine s_pick [0, 2, 3] [(0, .ref (ad 0)), (2, .int x2), (3, .int x3)] rfl ?_; exact kt c
  · refine s_pick [0, 2, 3] [(0, .ref (ad 0)), (2, .int x2), (3, .int x3)] rfl ?_; exact kf (by first | exact c | exact Classical.not_not.mp c)
theorem bX6_join_170 {l : Launch} {D : va_G} {aI aL : ClassId} {ad : Nat → Nat} {P : sa_P} {I : sa_I} {J : sa_J} {x2 : Int32} {x3 : Int32}   (k : Sat (EC l D aI aL ad) M_X6_join P 190 [(0, .ref (ad 0))] [.int ((9 : Int32) * x3), .ref (ad 3), .int ((9 : Int32) * x2), .ref (ad 3), .ref (ad 13)] I J) : Sat (EC l D aI aL ad) M_X6_join P 170 [(0, .ref (ad 0)), (2, .int x2), (3, .int x3)] [] I J := by
  refine s_aload_n 0 dX6_join_170 rfl ?_
  refine g_X6_32 dX6_join_171 rfl ?_
  refine s_aload_n 0 dX6_join_174 rfl ?_
  refine g_X6_17 dX6_join_175 rfl ?_
  refine s_bipush (v := 9) dX6_join_178 rfl ?_
  refine s_iload_n 1 dX6_join_180 rfl ?_
  refine s_imul dX6_join_181 ?_
  refine s_aload_n 0 dX6_join_182 rfl ?_
  refine g_X6_17 dX6_join_183 rfl ?_
  refine s_bipush (v := 9) dX6_join_186 rfl ?_
  refine s_iload_n 2 dX6_join_188 rfl ?_
  refine s_imul dX6_join_189 ?_
  refine s_pick [0] [(0, .ref (ad 0))] rfl ?_; exact k
theorem bX6_join_193 {l : Launch} {D : va_G} {aI aL : ClassId} {ad : Nat → Nat} {P : sa_P} {I : sa_I} {J : sa_J}    (k : Sat (EC l D aI aL ad) M_X6_join P 219 [(0, .ref (ad 0))] [] I J) : Sat (EC l D aI aL ad) M_X6_join P 193 [(0, .ref (ad 0))] [] I J := by
  refine s_goto (tgt := 219) dX6_join_193 (by decide) ?_
  exact k
theorem bX6_join_196 {l : Launch} {D : va_G} {aI aL : ClassId} {ad : Nat → Nat} {P : sa_P} {I : sa_I} {J : sa_J} {x2 : Int32} {x3 : Int32}   (k : Sat (EC l D aI aL ad) M_X6_join P 216 [(0, .ref (ad 0))] [.int ((9 : Int32) * x3), .ref (ad 3), .int ((9 : Int32) * x2), .ref (ad 3), .ref (ad 13)] I J) : Sat (EC l D aI aL ad) M_X6_join P 196 [(0, .ref (ad 0)), (2, .int x2), (3, .int x3)] [] I J := by
  refine s_aload_n 0 dX6_join_196 rfl ?_
  refine g_X6_32 dX6_join_197 rfl ?_
  refine s_aload_n 0 dX6_join_200 rfl ?_
  refine g_X6_17 dX6_join_201 rfl ?_
  refine s_bipush (v := 9) dX6_join_204 rfl ?_
  refine s_iload_n 1 dX6_join_206 rfl ?_
  refine s_imul dX6_join_207 ?_
  refine s_aload_n 0 dX6_join_208 rfl ?_
  refine g_X6_17 dX6_join_209 rfl ?_
  refine s_bipush (v := 9) dX6_join_212 rfl ?_
  refine s_iload_n 2 dX6_join_214 rfl ?_
  refine s_imul dX6_join_215 ?_
  refine s_pick [0] [(0, .ref (ad 0))] rfl ?_; exact k
theorem bX6_join_219 {l : Launch} {D : va_G} {aI aL : ClassId} {ad : Nat → Nat} {P : sa_P} {I : sa_I} {J : sa_J}    (k : Sat (EC l D aI aL ad) M_X6_join P 220 [] [.ref (ad 0)] I J) : Sat (EC l D aI aL ad) M_X6_join P 219 [(0, .ref (ad 0))] [] I J := by
  refine s_aload_n 0 dX6_join_219 rfl ?_
  refine s_pick [] [] rfl ?_; exact k
theorem bX6_join_223 {l : Launch} {D : va_G} {aI aL : ClassId} {ad : Nat → Nat} {P : sa_P} {I : sa_I} {J : sa_J} {s0 : Int32}   (k : P (some (.int s0)) I J) : Sat (EC l D aI aL ad) M_X6_join P 223 [] [.int s0] I J := by
  exact s_iret rfl dX6_join_223 k
/-! X6_row -/
theorem dX6_row_0 : decode cX6_row 0 = .ok (.aload_n 0, 1) := by decide +kernel
theorem dX6_row_1 : decode cX6_row 1 = .ok (.getfield 23, 3) := by decide +kernel
theorem dX6_row_4 : decode cX6_row 4 = .ok (.getfield 85, 3) := by decide +kernel
theorem dX6_row_7 : decode cX6_row 7 = .ok (.ifCond .ne 10, 3) := by decide +kernel
theorem dX6_row_10 : decode cX6_row 10 = .ok (.aload_n 0, 1) := by decide +kernel
theorem dX6_row_11 : decode cX6_row 11 = .ok (.bipush (-3), 2) := by decide +kernel
theorem dX6_row_13 : decode cX6_row 13 = .ok (.invokevirtual 59, 3) := by decide +kernel
theorem dX6_row_16 : decode cX6_row 16 = .ok (.ireturn, 1) := by decide +kernel
theorem dX6_row_17 : decode cX6_row 17 = .ok (.aload_n 0, 1) := by decide +kernel
theorem dX6_row_18 : decode cX6_row 18 = .ok (.iload_n 1, 1) := by decide +kernel
theorem dX6_row_19 : decode cX6_row 19 = .ok (.invokevirtual 172, 3) := by decide +kernel
theorem dX6_row_22 : decode cX6_row 22 = .ok (.ifCond .eq 19, 3) := by decide +kernel
theorem dX6_row_25 : decode cX6_row 25 = .ok (.aload_n 0, 1) := by decide +kernel
theorem dX6_row_26 : decode cX6_row 26 = .ok (.iload_n 2, 1) := by decide +kernel
theorem dX6_row_27 : decode cX6_row 27 = .ok (.invokevirtual 106, 3) := by decide +kernel
theorem dX6_row_30 : decode cX6_row 30 = .ok (.ifCond .eq 11, 3) := by decide +kernel
theorem dX6_row_33 : decode cX6_row 33 = .ok (.aload_n 0, 1) := by decide +kernel
theorem dX6_row_34 : decode cX6_row 34 = .ok (.iload_n 3, 1) := by decide +kernel
theorem dX6_row_35 : decode cX6_row 35 = .ok (.invokevirtual 106, 3) := by decide +kernel
theorem dX6_row_38 : decode cX6_row 38 = .ok (.ifCond .ne 9, 3) := by decide +kernel
theorem dX6_row_41 : decode cX6_row 41 = .ok (.aload_n 0, 1) := by decide +kernel
theorem dX6_row_42 : decode cX6_row 42 = .ok (.iconst (-1), 1) := by decide +kernel
theorem dX6_row_43 : decode cX6_row 43 = .ok (.invokevirtual 59, 3) := by decide +kernel
theorem dX6_row_46 : decode cX6_row 46 = .ok (.ireturn, 1) := by decide +kernel
theorem dX6_row_47 : decode cX6_row 47 = .ok (.aload_n 0, 1) := by decide +kernel
theorem dX6_row_48 : decode cX6_row 48 = .ok (.getfield 17, 3) := by decide +kernel
theorem dX6_row_51 : decode cX6_row 51 = .ok (.bipush 9, 2) := by decide +kernel
theorem dX6_row_53 : decode cX6_row 53 = .ok (.iload_n 1, 1) := by decide +kernel
theorem dX6_row_54 : decode cX6_row 54 = .ok (.imul, 1) := by decide +kernel
theorem dX6_row_55 : decode cX6_row 55 = .ok (.iconst 3, 1) := by decide +kernel
theorem dX6_row_56 : decode cX6_row 56 = .ok (.iload_n 2, 1) := by decide +kernel
theorem dX6_row_57 : decode cX6_row 57 = .ok (.imul, 1) := by decide +kernel
theorem dX6_row_58 : decode cX6_row 58 = .ok (.iadd, 1) := by decide +kernel
theorem dX6_row_59 : decode cX6_row 59 = .ok (.iload_n 3, 1) := by decide +kernel
theorem dX6_row_60 : decode cX6_row 60 = .ok (.iadd, 1) := by decide +kernel
theorem dX6_row_61 : decode cX6_row 61 = .ok (.laload, 1) := by decide +kernel
theorem dX6_row_62 : decode cX6_row 62 = .ok (.l2i, 1) := by decide +kernel
theorem dX6_row_63 : decode cX6_row 63 = .ok (.ireturn, 1) := by decide +kernel
theorem bX6_row_0 {l : Launch} {D : va_G} {aI aL : ClassId} {ad : Nat → Nat} {P : sa_P} {I : sa_I} {J : sa_J} {x1 : Int32} {x2 : Int32} {x3 : Int32}   (kt : ¬ I 4 0 = 0 → Sat (EC l D aI aL ad) M_X6_row P 17 [(0, .ref (ad 0)), (1, .int x1), (2, .int x2), (3, .int x3)] [] I J) (kf : I 4 0 = 0 → Sat (EC l D aI aL ad) M_X6_row P 10 [(0, .ref (ad 0))] [] I J) : Sat (EC l D aI aL ad) M_X6_row P 0 [(0, .ref (ad 0)), (1, .int x1), (2, .int x2), (3, .int x3)] [] I J := by
  refine s_aload_n 0 dX6_row_0 rfl ?_
  refine g_X6_23 dX6_row_1 rfl ?_
  refine g_X6_85 dX6_row_4 rfl ?_
  refine s_if_ne (tgt := 17) dX6_row_7 (by decide) (fun c => ?_) (fun c => ?_)
  · exact kt c
  · refine s_pick [0] [(0, .ref (ad 0))] rfl ?_; exact kf (by first | exact c | exact Classical.not_not.mp c)
theorem bX6_row_10 {l : Launch} {D : va_G} {aI aL : ClassId} {ad : Nat → Nat} {P : sa_P} {I : sa_I} {J : sa_J}    (k : Sat (EC l D aI aL ad) M_X6_row P 13 [] [.int (-3 : Int32), .ref (ad 0)] I J) : Sat (EC l D aI aL ad) M_X6_row P 10 [(0, .ref (ad 0))] [] I J := by
  refine s_aload_n 0 dX6_row_10 rfl ?_
  refine s_bipush (v := -3) dX6_row_11 rfl ?_
  refine s_pick [] [] rfl ?_; exact k
theorem bX6_row_16 {l : Launch} {D : va_G} {aI aL : ClassId} {ad : Nat → Nat} {P : sa_P} {I : sa_I} {J : sa_J} {s0 : Int32}   (k : P (some (.int s0)) I J) : Sat (EC l D aI aL ad) M_X6_row P 16 [] [.int s0] I J := by
  exact s_iret rfl dX6_row_16 k
theorem bX6_row_17 {l : Launch} {D : va_G} {aI aL : ClassId} {ad : Nat → Nat} {P : sa_P} {I : sa_I} {J : sa_J} {x1 : Int32} {x2 : Int32} {x3 : Int32}   (k : Sat (EC l D aI aL ad) M_X6_row P 19 [(0, .ref (ad 0)), (1, .int x1), (2, .int x2), (3, .int x3)] [.int x1, .ref (ad 0)] I J) : Sat (EC l D aI aL ad) M_X6_row P 17 [(0, .ref (ad 0)), (1, .int x1), (2, .int x2), (3, .int x3)] [] I J := by
  refine s_aload_n 0 dX6_row_17 rfl ?_
  refine s_iload_n 1 dX6_row_18 rfl ?_
  exact k
theorem bX6_row_22 {l : Launch} {D : va_G} {aI aL : ClassId} {ad : Nat → Nat} {P : sa_P} {I : sa_I} {J : sa_J} {x1 : Int32} {x2 : Int32} {x3 : Int32} {s0 : Int32}   (kt : s0 = 0 → Sat (EC l D aI aL ad) M_X6_row P 41 [(0, .ref (ad 0))] [] I J) (kf : ¬ s0 = 0 → Sat (EC l D aI aL ad) M_X6_row P 25 [(0, .ref (ad 0)), (1, .int x1), (2, .int x2), (3, .int x3)] [] I J) : Sat (EC l D aI aL ad) M_X6_row P 22 [(0, .ref (ad 0)), (1, .int x1), (2, .int x2), (3, .int x3)] [.int s0] I J := by
  refine s_if_eq (tgt := 41) dX6_row_22 (by decide) (fun c => ?_) (fun c => ?_)
  · refine s_pick [0] [(0, .ref (ad 0))] rfl ?_; exact kt c
  · exact kf c
theorem bX6_row_25 {l : Launch} {D : va_G} {aI aL : ClassId} {ad : Nat → Nat} {P : sa_P} {I : sa_I} {J : sa_J} {x1 : Int32} {x2 : Int32} {x3 : Int32}   (k : Sat (EC l D aI aL ad) M_X6_row P 27 [(0, .ref (ad 0)), (1, .int x1), (2, .int x2), (3, .int x3)] [.int x2, .ref (ad 0)] I J) : Sat (EC l D aI aL ad) M_X6_row P 25 [(0, .ref (ad 0)), (1, .int x1), (2, .int x2), (3, .int x3)] [] I J := by
  refine s_aload_n 0 dX6_row_25 rfl ?_
  refine s_iload_n 2 dX6_row_26 rfl ?_
  exact k
theorem bX6_row_30 {l : Launch} {D : va_G} {aI aL : ClassId} {ad : Nat → Nat} {P : sa_P} {I : sa_I} {J : sa_J} {x1 : Int32} {x2 : Int32} {x3 : Int32} {s0 : Int32}   (kt : s0 = 0 → Sat (EC l D aI aL ad) M_X6_row P 41 [(0, .ref (ad 0))] [] I J) (kf : ¬ s0 = 0 → Sat (EC l D aI aL ad) M_X6_row P 33 [(0, .ref (ad 0)), (1, .int x1), (2, .int x2), (3, .int x3)] [] I J) : Sat (EC l D aI aL ad) M_X6_row P 30 [(0, .ref (ad 0)), (1, .int x1), (2, .int x2), (3, .int x3)] [.int s0] I J := by
  refine s_if_eq (tgt := 41) dX6_row_30 (by decide) (fun c => ?_) (fun c => ?_)
  · refine s_pick [0] [(0, .ref (ad 0))] rfl ?_; exact kt c
  · exact kf c
theorem bX6_row_33 {l : Launch} {D : va_G} {aI aL : ClassId} {ad : Nat → Nat} {P : sa_P} {I : sa_I} {J : sa_J} {x1 : Int32} {x2 : Int32} {x3 : Int32}   (k : Sat (EC l D aI aL ad) M_X6_row P 35 [(0, .ref (ad 0)), (1, .int x1), (2, .int x2), (3, .int x3)] [.int x3, .ref (ad 0)] I J) : Sat (EC l D aI aL ad) M_X6_row P 33 [(0, .ref (ad 0)), (1, .int x1), (2, .int x2), (3, .int x3)] [] I J := by
  refine s_aload_n 0 dX6_row_33 rfl ?_
  refine s_iload_n 3 dX6_row_34 rfl ?_
  exact k
theorem bX6_row_38 {l : Launch} {D : va_G} {aI aL : ClassId} {ad : Nat → Nat} {P : sa_P} {I : sa_I} {J : sa_J} {x1 : Int32} {x2 : Int32} {x3 : Int32} {s0 : Int32}   (kt : ¬ s0 = 0 → Sat (EC l D aI aL ad) M_X6_row P 47 [(0, .ref (ad 0)), (1, .int x1), (2, .int x2), (3, .int x3)] [] I J) (kf : s0 = 0 → Sat (EC l D aI aL ad) M_X6_row P 41 [(0, .ref (ad 0))] [] I J) : Sat (EC l D aI aL ad) M_X6_row P 38 [(0, .ref (ad 0)), (1, .int x1), (2, .int x2), (3, .int x3)] [.int s0] I J := by
  refine s_if_ne (tgt := 47) dX6_row_38 (by decide) (fun c => ?_) (fun c => ?_)
  · exact kt c
  · refine s_pick [0] [(0, .ref (ad 0))] rfl ?_; exact kf (by first | exact c | exact Classical.not_not.mp c)
theorem bX6_row_41 {l : Launch} {D : va_G} {aI aL : ClassId} {ad : Nat → Nat} {P : sa_P} {I : sa_I} {J : sa_J}    (k : Sat (EC l D aI aL ad) M_X6_row P 43 [] [.int (-1 : Int32), .ref (ad 0)] I J) : Sat (EC l D aI aL ad) M_X6_row P 41 [(0, .ref (ad 0))] [] I J := by
  refine s_aload_n 0 dX6_row_41 rfl ?_
  refine s_iconst (v := -1) dX6_row_42 rfl ?_
  refine s_pick [] [] rfl ?_; exact k
theorem bX6_row_46 {l : Launch} {D : va_G} {aI aL : ClassId} {ad : Nat → Nat} {P : sa_P} {I : sa_I} {J : sa_J} {s0 : Int32}   (k : P (some (.int s0)) I J) : Sat (EC l D aI aL ad) M_X6_row P 46 [] [.int s0] I J := by
  exact s_iret rfl dX6_row_46 k
theorem bX6_row_47 {l : Launch} {D : va_G} {aI aL : ClassId} {ad : Nat → Nat} {P : sa_P} {I : sa_I} {J : sa_J} {x1 : Int32} {x2 : Int32} {x3 : Int32} {j60 : Nat} (e60 : (((9 : Int32) * x1) + ((3 : Int32) * x2)) + x3 = nI j60) (h61 : j60 < 720)  (k : P (some (.int ((J 3 j60).toInt32))) I J) : Sat (EC l D aI aL ad) M_X6_row P 47 [(0, .ref (ad 0)), (1, .int x1), (2, .int x2), (3, .int x3)] [] I J := by
  refine s_aload_n 0 dX6_row_47 rfl ?_
  refine g_X6_17 dX6_row_48 rfl ?_
  refine s_bipush (v := 9) dX6_row_51 rfl ?_
  refine s_iload_n 1 dX6_row_53 rfl ?_
  refine s_imul dX6_row_54 ?_
  refine s_iconst (v := 3) dX6_row_55 rfl ?_
  refine s_iload_n 2 dX6_row_56 rfl ?_
  refine s_imul dX6_row_57 ?_
  refine s_iadd dX6_row_58 ?_
  refine s_iload_n 3 dX6_row_59 rfl ?_
  refine s_iadd dX6_row_60 ?_
  refine s_eqi e60 ?_
  refine s_laloadN aJ_C3 h61 (by decide) dX6_row_61 ?_
  refine s_l2i dX6_row_62 ?_
  exact s_iret rfl dX6_row_63 k
/-! X6_idealOf -/
theorem dX6_idealOf_0 : decode cX6_idealOf 0 = .ok (.aload_n 0, 1) := by decide +kernel
theorem dX6_idealOf_1 : decode cX6_idealOf 1 = .ok (.getfield 23, 3) := by decide +kernel
theorem dX6_idealOf_4 : decode cX6_idealOf 4 = .ok (.getfield 85, 3) := by decide +kernel
theorem dX6_idealOf_7 : decode cX6_idealOf 7 = .ok (.ifCond .ne 10, 3) := by decide +kernel
theorem dX6_idealOf_10 : decode cX6_idealOf 10 = .ok (.aload_n 0, 1) := by decide +kernel
theorem dX6_idealOf_11 : decode cX6_idealOf 11 = .ok (.bipush (-3), 2) := by decide +kernel
theorem dX6_idealOf_13 : decode cX6_idealOf 13 = .ok (.invokevirtual 59, 3) := by decide +kernel
theorem dX6_idealOf_16 : decode cX6_idealOf 16 = .ok (.ireturn, 1) := by decide +kernel
theorem dX6_idealOf_17 : decode cX6_idealOf 17 = .ok (.aload_n 0, 1) := by decide +kernel
theorem dX6_idealOf_18 : decode cX6_idealOf 18 = .ok (.iload_n 1, 1) := by decide +kernel
theorem dX6_idealOf_19 : decode cX6_idealOf 19 = .ok (.invokevirtual 172, 3) := by decide +kernel
theorem dX6_idealOf_22 : decode cX6_idealOf 22 = .ok (.ifCond .ne 9, 3) := by decide +kernel
theorem dX6_idealOf_25 : decode cX6_idealOf 25 = .ok (.aload_n 0, 1) := by decide +kernel
theorem dX6_idealOf_26 : decode cX6_idealOf 26 = .ok (.iconst (-1), 1) := by decide +kernel
theorem dX6_idealOf_27 : decode cX6_idealOf 27 = .ok (.invokevirtual 59, 3) := by decide +kernel
theorem dX6_idealOf_30 : decode cX6_idealOf 30 = .ok (.ireturn, 1) := by decide +kernel
theorem dX6_idealOf_31 : decode cX6_idealOf 31 = .ok (.iload_n 2, 1) := by decide +kernel
theorem dX6_idealOf_32 : decode cX6_idealOf 32 = .ok (.tableswitch 76 0 2 #[28, 41, 52], 28) := by decide +kernel
theorem dX6_idealOf_60 : decode cX6_idealOf 60 = .ok (.aload_n 0, 1) := by decide +kernel
theorem dX6_idealOf_61 : decode cX6_idealOf 61 = .ok (.getfield 17, 3) := by decide +kernel
theorem dX6_idealOf_64 : decode cX6_idealOf 64 = .ok (.bipush 9, 2) := by decide +kernel
theorem dX6_idealOf_66 : decode cX6_idealOf 66 = .ok (.iload_n 1, 1) := by decide +kernel
theorem dX6_idealOf_67 : decode cX6_idealOf 67 = .ok (.imul, 1) := by decide +kernel
theorem dX6_idealOf_68 : decode cX6_idealOf 68 = .ok (.invokestatic 179, 3) := by decide +kernel
theorem dX6_idealOf_71 : decode cX6_idealOf 71 = .ok (.l2i, 1) := by decide +kernel
theorem dX6_idealOf_72 : decode cX6_idealOf 72 = .ok (.ireturn, 1) := by decide +kernel
theorem dX6_idealOf_73 : decode cX6_idealOf 73 = .ok (.aload_n 0, 1) := by decide +kernel
theorem dX6_idealOf_74 : decode cX6_idealOf 74 = .ok (.getfield 17, 3) := by decide +kernel
theorem dX6_idealOf_77 : decode cX6_idealOf 77 = .ok (.bipush 9, 2) := by decide +kernel
theorem dX6_idealOf_79 : decode cX6_idealOf 79 = .ok (.iload_n 1, 1) := by decide +kernel
theorem dX6_idealOf_80 : decode cX6_idealOf 80 = .ok (.imul, 1) := by decide +kernel
theorem dX6_idealOf_81 : decode cX6_idealOf 81 = .ok (.laload, 1) := by decide +kernel
theorem dX6_idealOf_82 : decode cX6_idealOf 82 = .ok (.l2i, 1) := by decide +kernel
theorem dX6_idealOf_83 : decode cX6_idealOf 83 = .ok (.ireturn, 1) := by decide +kernel
theorem dX6_idealOf_84 : decode cX6_idealOf 84 = .ok (.aload_n 0, 1) := by decide +kernel
theorem dX6_idealOf_85 : decode cX6_idealOf 85 = .ok (.getfield 41, 3) := by decide +kernel
theorem dX6_idealOf_88 : decode cX6_idealOf 88 = .ok (.aload_n 0, 1) := by decide +kernel
theorem dX6_idealOf_89 : decode cX6_idealOf 89 = .ok (.getfield 17, 3) := by decide +kernel
theorem dX6_idealOf_92 : decode cX6_idealOf 92 = .ok (.bipush 9, 2) := by decide +kernel
theorem dX6_idealOf_94 : decode cX6_idealOf 94 = .ok (.iload_n 1, 1) := by decide +kernel
theorem dX6_idealOf_95 : decode cX6_idealOf 95 = .ok (.imul, 1) := by decide +kernel
theorem dX6_idealOf_96 : decode cX6_idealOf 96 = .ok (.invokevirtual 192, 3) := by decide +kernel
theorem dX6_idealOf_99 : decode cX6_idealOf 99 = .ok (.ifCond .eq 7, 3) := by decide +kernel
theorem dX6_idealOf_102 : decode cX6_idealOf 102 = .ok (.iconst 1, 1) := by decide +kernel
theorem dX6_idealOf_103 : decode cX6_idealOf 103 = .ok (.goto 4, 3) := by decide +kernel
theorem dX6_idealOf_106 : decode cX6_idealOf 106 = .ok (.iconst 0, 1) := by decide +kernel
theorem dX6_idealOf_107 : decode cX6_idealOf 107 = .ok (.ireturn, 1) := by decide +kernel
theorem dX6_idealOf_108 : decode cX6_idealOf 108 = .ok (.aload_n 0, 1) := by decide +kernel
theorem dX6_idealOf_109 : decode cX6_idealOf 109 = .ok (.bipush (-2), 2) := by decide +kernel
theorem dX6_idealOf_111 : decode cX6_idealOf 111 = .ok (.invokevirtual 59, 3) := by decide +kernel
theorem dX6_idealOf_114 : decode cX6_idealOf 114 = .ok (.ireturn, 1) := by decide +kernel
theorem bX6_idealOf_0 {l : Launch} {D : va_G} {aI aL : ClassId} {ad : Nat → Nat} {P : sa_P} {I : sa_I} {J : sa_J} {x1 : Int32} {x2 : Int32}   (kt : ¬ I 4 0 = 0 → Sat (EC l D aI aL ad) M_X6_idealOf P 17 [(0, .ref (ad 0)), (1, .int x1), (2, .int x2)] [] I J) (kf : I 4 0 = 0 → Sat (EC l D aI aL ad) M_X6_idealOf P 10 [(0, .ref (ad 0))] [] I J) : Sat (EC l D aI aL ad) M_X6_idealOf P 0 [(0, .ref (ad 0)), (1, .int x1), (2, .int x2)] [] I J := by
  refine s_aload_n 0 dX6_idealOf_0 rfl ?_
  refine g_X6_23 dX6_idealOf_1 rfl ?_
  refine g_X6_85 dX6_idealOf_4 rfl ?_
  refine s_if_ne (tgt := 17) dX6_idealOf_7 (by decide) (fun c => ?_) (fun c => ?_)
  · exact kt c
  · refine s_pick [0] [(0, .ref (ad 0))] rfl ?_; exact kf (by first | exact c | exact Classical.not_not.mp c)
theorem bX6_idealOf_10 {l : Launch} {D : va_G} {aI aL : ClassId} {ad : Nat → Nat} {P : sa_P} {I : sa_I} {J : sa_J}    (k : Sat (EC l D aI aL ad) M_X6_idealOf P 13 [] [.int (-3 : Int32), .ref (ad 0)] I J) : Sat (EC l D aI aL ad) M_X6_idealOf P 10 [(0, .ref (ad 0))] [] I J := by
  refine s_aload_n 0 dX6_idealOf_10 rfl ?_
  refine s_bipush (v := -3) dX6_idealOf_11 rfl ?_
  refine s_pick [] [] rfl ?_; exact k
theorem bX6_idealOf_16 {l : Launch} {D : va_G} {aI aL : ClassId} {ad : Nat → Nat} {P : sa_P} {I : sa_I} {J : sa_J} {s0 : Int32}   (k : P (some (.int s0)) I J) : Sat (EC l D aI aL ad) M_X6_idealOf P 16 [] [.int s0] I J := by
  exact s_iret rfl dX6_idealOf_16 k
theorem bX6_idealOf_17 {l : Launch} {D : va_G} {aI aL : ClassId} {ad : Nat → Nat} {P : sa_P} {I : sa_I} {J : sa_J} {x1 : Int32} {x2 : Int32}   (k : Sat (EC l D aI aL ad) M_X6_idealOf P 19 [(0, .ref (ad 0)), (1, .int x1), (2, .int x2)] [.int x1, .ref (ad 0)] I J) : Sat (EC l D aI aL ad) M_X6_idealOf P 17 [(0, .ref (ad 0)), (1, .int x1), (2, .int x2)] [] I J := by
  refine s_aload_n 0 dX6_idealOf_17 rfl ?_
  refine s_iload_n 1 dX6_idealOf_18 rfl ?_
  exact k
theorem bX6_idealOf_22 {l : Launch} {D : va_G} {aI aL : ClassId} {ad : Nat → Nat} {P : sa_P} {I : sa_I} {J : sa_J} {x1 : Int32} {x2 : Int32} {s0 : Int32}   (kt : ¬ s0 = 0 → Sat (EC l D aI aL ad) M_X6_idealOf P 31 [(0, .ref (ad 0)), (1, .int x1), (2, .int x2)] [] I J) (kf : s0 = 0 → Sat (EC l D aI aL ad) M_X6_idealOf P 25 [(0, .ref (ad 0))] [] I J) : Sat (EC l D aI aL ad) M_X6_idealOf P 22 [(0, .ref (ad 0)), (1, .int x1), (2, .int x2)] [.int s0] I J := by
  refine s_if_ne (tgt := 31) dX6_idealOf_22 (by decide) (fun c => ?_) (fun c => ?_)
  · exact kt c
  · refine s_pick [0] [(0, .ref (ad 0))] rfl ?_; exact kf (by first | exact c | exact Classical.not_not.mp c)
theorem bX6_idealOf_25 {l : Launch} {D : va_G} {aI aL : ClassId} {ad : Nat → Nat} {P : sa_P} {I : sa_I} {J : sa_J}    (k : Sat (EC l D aI aL ad) M_X6_idealOf P 27 [] [.int (-1 : Int32), .ref (ad 0)] I J) : Sat (EC l D aI aL ad) M_X6_idealOf P 25 [(0, .ref (ad 0))] [] I J := by
  refine s_aload_n 0 dX6_idealOf_25 rfl ?_
  refine s_iconst (v := -1) dX6_idealOf_26 rfl ?_
  refine s_pick [] [] rfl ?_; exact k
theorem bX6_idealOf_30 {l : Launch} {D : va_G} {aI aL : ClassId} {ad : Nat → Nat} {P : sa_P} {I : sa_I} {J : sa_J} {s0 : Int32}   (k : P (some (.int s0)) I J) : Sat (EC l D aI aL ad) M_X6_idealOf P 30 [] [.int s0] I J := by
  exact s_iret rfl dX6_idealOf_30 k
theorem bX6_idealOf_31 {l : Launch} {D : va_G} {aI aL : ClassId} {ad : Nat → Nat} {P : sa_P} {I : sa_I} {J : sa_J} {x1 : Int32} {x2 : Int32}   (k0 : x2 = 0 → Sat (EC l D aI aL ad) M_X6_idealOf P 60 [(0, .ref (ad 0)), (1, .int x1)] [] I J) (k1 : x2 = 1 → Sat (EC l D aI aL ad) M_X6_idealOf P 73 [(0, .ref (ad 0)), (1, .int x1)] [] I J) (k2 : x2 = 2 → Sat (EC l D aI aL ad) M_X6_idealOf P 84 [(0, .ref (ad 0)), (1, .int x1)] [] I J) (kd : (x2.toInt < 0 ∨ 2 < x2.toInt) → Sat (EC l D aI aL ad) M_X6_idealOf P 108 [(0, .ref (ad 0))] [] I J) : Sat (EC l D aI aL ad) M_X6_idealOf P 31 [(0, .ref (ad 0)), (1, .int x1), (2, .int x2)] [] I J := by
  refine s_iload_n 2 dX6_idealOf_31 rfl ?_
  by_cases hlo : (x2).toInt < 0
  · refine s_tableOut (tgt := 108) dX6_idealOf_32 (Or.inl hlo) (by decide) ?_; refine s_pick [0] [(0, .ref (ad 0))] rfl ?_; exact kd (Or.inl hlo)
  by_cases hhi : 2 < (x2).toInt
  · refine s_tableOut (tgt := 108) dX6_idealOf_32 (Or.inr hhi) (by decide) ?_; refine s_pick [0] [(0, .ref (ad 0))] rfl ?_; exact kd (Or.inr hhi)
  obtain hx | hx | hx : x2 = 0 ∨ x2 = 1 ∨ x2 = 2 := by
    have hh : (x2).toInt = 0 ∨ (x2).toInt = 1 ∨ (x2).toInt = 2 := by omega
    simpa [← Int32.toInt_inj] using hh
  · have e1 : (x2).toInt = 0 := by rw [hx]; rfl
    refine s_tableIn (tgt := 60) dX6_idealOf_32 hlo hhi (off := 28) (by rw [e1]; rfl) (by decide) ?_; refine s_pick [0, 1] [(0, .ref (ad 0)), (1, .int x1)] rfl ?_; exact k0 hx
  · have e1 : (x2).toInt = 1 := by rw [hx]; rfl
    refine s_tableIn (tgt := 73) dX6_idealOf_32 hlo hhi (off := 41) (by rw [e1]; rfl) (by decide) ?_; refine s_pick [0, 1] [(0, .ref (ad 0)), (1, .int x1)] rfl ?_; exact k1 hx
  · have e1 : (x2).toInt = 2 := by rw [hx]; rfl
    refine s_tableIn (tgt := 84) dX6_idealOf_32 hlo hhi (off := 52) (by rw [e1]; rfl) (by decide) ?_; refine s_pick [0, 1] [(0, .ref (ad 0)), (1, .int x1)] rfl ?_; exact k2 hx
theorem bX6_idealOf_60 {l : Launch} {D : va_G} {aI aL : ClassId} {ad : Nat → Nat} {P : sa_P} {I : sa_I} {J : sa_J} {x1 : Int32}   (k : Sat (EC l D aI aL ad) M_X6_idealOf P 68 [] [.int ((9 : Int32) * x1), .ref (ad 3)] I J) : Sat (EC l D aI aL ad) M_X6_idealOf P 60 [(0, .ref (ad 0)), (1, .int x1)] [] I J := by
  refine s_aload_n 0 dX6_idealOf_60 rfl ?_
  refine g_X6_17 dX6_idealOf_61 rfl ?_
  refine s_bipush (v := 9) dX6_idealOf_64 rfl ?_
  refine s_iload_n 1 dX6_idealOf_66 rfl ?_
  refine s_imul dX6_idealOf_67 ?_
  refine s_pick [] [] rfl ?_; exact k
theorem bX6_idealOf_71 {l : Launch} {D : va_G} {aI aL : ClassId} {ad : Nat → Nat} {P : sa_P} {I : sa_I} {J : sa_J} {s0 : Int64}   (k : P (some (.int s0.toInt32)) I J) : Sat (EC l D aI aL ad) M_X6_idealOf P 71 [] [.long s0] I J := by
  refine s_l2i dX6_idealOf_71 ?_
  exact s_iret rfl dX6_idealOf_72 k
theorem bX6_idealOf_73 {l : Launch} {D : va_G} {aI aL : ClassId} {ad : Nat → Nat} {P : sa_P} {I : sa_I} {J : sa_J} {x1 : Int32} {j80 : Nat} (e80 : (9 : Int32) * x1 = nI j80) (h81 : j80 < 720)  (k : P (some (.int ((J 3 j80).toInt32))) I J) : Sat (EC l D aI aL ad) M_X6_idealOf P 73 [(0, .ref (ad 0)), (1, .int x1)] [] I J := by
  refine s_aload_n 0 dX6_idealOf_73 rfl ?_
  refine g_X6_17 dX6_idealOf_74 rfl ?_
  refine s_bipush (v := 9) dX6_idealOf_77 rfl ?_
  refine s_iload_n 1 dX6_idealOf_79 rfl ?_
  refine s_imul dX6_idealOf_80 ?_
  refine s_eqi e80 ?_
  refine s_laloadN aJ_C3 h81 (by decide) dX6_idealOf_81 ?_
  refine s_l2i dX6_idealOf_82 ?_
  exact s_iret rfl dX6_idealOf_83 k
theorem bX6_idealOf_84 {l : Launch} {D : va_G} {aI aL : ClassId} {ad : Nat → Nat} {P : sa_P} {I : sa_I} {J : sa_J} {x1 : Int32}   (k : Sat (EC l D aI aL ad) M_X6_idealOf P 96 [] [.int ((9 : Int32) * x1), .ref (ad 3), .ref (ad 21)] I J) : Sat (EC l D aI aL ad) M_X6_idealOf P 84 [(0, .ref (ad 0)), (1, .int x1)] [] I J := by
  refine s_aload_n 0 dX6_idealOf_84 rfl ?_
  refine g_X6_41 dX6_idealOf_85 rfl ?_
  refine s_aload_n 0 dX6_idealOf_88 rfl ?_
  refine g_X6_17 dX6_idealOf_89 rfl ?_
  refine s_bipush (v := 9) dX6_idealOf_92 rfl ?_
  refine s_iload_n 1 dX6_idealOf_94 rfl ?_
  refine s_imul dX6_idealOf_95 ?_
  refine s_pick [] [] rfl ?_; exact k
theorem bX6_idealOf_99 {l : Launch} {D : va_G} {aI aL : ClassId} {ad : Nat → Nat} {P : sa_P} {I : sa_I} {J : sa_J} {s0 : Int32}   (kt : s0 = 0 → Sat (EC l D aI aL ad) M_X6_idealOf P 106 [] [] I J) (kf : ¬ s0 = 0 → Sat (EC l D aI aL ad) M_X6_idealOf P 102 [] [] I J) : Sat (EC l D aI aL ad) M_X6_idealOf P 99 [] [.int s0] I J := by
  refine s_if_eq (tgt := 106) dX6_idealOf_99 (by decide) (fun c => ?_) (fun c => ?_)
  · exact kt c
  · exact kf c
theorem bX6_idealOf_102 {l : Launch} {D : va_G} {aI aL : ClassId} {ad : Nat → Nat} {P : sa_P} {I : sa_I} {J : sa_J}    (k : Sat (EC l D aI aL ad) M_X6_idealOf P 107 [] [.int (1 : Int32)] I J) : Sat (EC l D aI aL ad) M_X6_idealOf P 102 [] [] I J := by
  refine s_iconst (v := 1) dX6_idealOf_102 rfl ?_
  refine s_goto (tgt := 107) dX6_idealOf_103 (by decide) ?_
  exact k
theorem bX6_idealOf_106 {l : Launch} {D : va_G} {aI aL : ClassId} {ad : Nat → Nat} {P : sa_P} {I : sa_I} {J : sa_J}    (k : Sat (EC l D aI aL ad) M_X6_idealOf P 107 [] [.int (0 : Int32)] I J) : Sat (EC l D aI aL ad) M_X6_idealOf P 106 [] [] I J := by
  refine s_iconst (v := 0) dX6_idealOf_106 rfl ?_
  exact k
theorem bX6_idealOf_107 {l : Launch} {D : va_G} {aI aL : ClassId} {ad : Nat → Nat} {P : sa_P} {I : sa_I} {J : sa_J} {s0 : Int32}   (k : P (some (.int s0)) I J) : Sat (EC l D aI aL ad) M_X6_idealOf P 107 [] [.int s0] I J := by
  exact s_iret rfl dX6_idealOf_107 k
theorem bX6_idealOf_108 {l : Launch} {D : va_G} {aI aL : ClassId} {ad : Nat → Nat} {P : sa_P} {I : sa_I} {J : sa_J}    (k : Sat (EC l D aI aL ad) M_X6_idealOf P 111 [] [.int (-2 : Int32), .ref (ad 0)] I J) : Sat (EC l D aI aL ad) M_X6_idealOf P 108 [(0, .ref (ad 0))] [] I J := by
  refine s_aload_n 0 dX6_idealOf_108 rfl ?_
  refine s_bipush (v := -2) dX6_idealOf_109 rfl ?_
  refine s_pick [] [] rfl ?_; exact k
theorem bX6_idealOf_114 {l : Launch} {D : va_G} {aI aL : ClassId} {ad : Nat → Nat} {P : sa_P} {I : sa_I} {J : sa_J} {s0 : Int32}   (k : P (some (.int s0)) I J) : Sat (EC l D aI aL ad) M_X6_idealOf P 114 [] [.int s0] I J := by
  exact s_iret rfl dX6_idealOf_114 k
/-! X6_in -/
theorem dX6_in_0 : decode cX6_in 0 = .ok (.aload_n 0, 1) := by decide +kernel
theorem dX6_in_1 : decode cX6_in 1 = .ok (.getfield 23, 3) := by decide +kernel
theorem dX6_in_4 : decode cX6_in 4 = .ok (.getfield 85, 3) := by decide +kernel
theorem dX6_in_7 : decode cX6_in 7 = .ok (.ifCond .ne 10, 3) := by decide +kernel
theorem dX6_in_10 : decode cX6_in 10 = .ok (.aload_n 0, 1) := by decide +kernel
theorem dX6_in_11 : decode cX6_in 11 = .ok (.bipush (-3), 2) := by decide +kernel
theorem dX6_in_13 : decode cX6_in 13 = .ok (.invokevirtual 59, 3) := by decide +kernel
theorem dX6_in_16 : decode cX6_in 16 = .ok (.ireturn, 1) := by decide +kernel
theorem dX6_in_17 : decode cX6_in 17 = .ok (.aload_n 0, 1) := by decide +kernel
theorem dX6_in_18 : decode cX6_in 18 = .ok (.iload_n 1, 1) := by decide +kernel
theorem dX6_in_19 : decode cX6_in 19 = .ok (.invokevirtual 172, 3) := by decide +kernel
theorem dX6_in_22 : decode cX6_in 22 = .ok (.ifCond .eq 11, 3) := by decide +kernel
theorem dX6_in_25 : decode cX6_in 25 = .ok (.aload_n 0, 1) := by decide +kernel
theorem dX6_in_26 : decode cX6_in 26 = .ok (.iload_n 2, 1) := by decide +kernel
theorem dX6_in_27 : decode cX6_in 27 = .ok (.invokevirtual 128, 3) := by decide +kernel
theorem dX6_in_30 : decode cX6_in 30 = .ok (.ifCond .ne 9, 3) := by decide +kernel
theorem dX6_in_33 : decode cX6_in 33 = .ok (.aload_n 0, 1) := by decide +kernel
theorem dX6_in_34 : decode cX6_in 34 = .ok (.iconst (-1), 1) := by decide +kernel
theorem dX6_in_35 : decode cX6_in 35 = .ok (.invokevirtual 59, 3) := by decide +kernel
theorem dX6_in_38 : decode cX6_in 38 = .ok (.ireturn, 1) := by decide +kernel
theorem dX6_in_39 : decode cX6_in 39 = .ok (.aload_n 0, 1) := by decide +kernel
theorem dX6_in_40 : decode cX6_in 40 = .ok (.getfield 32, 3) := by decide +kernel
theorem dX6_in_43 : decode cX6_in 43 = .ok (.aload_n 0, 1) := by decide +kernel
theorem dX6_in_44 : decode cX6_in 44 = .ok (.getfield 17, 3) := by decide +kernel
theorem dX6_in_47 : decode cX6_in 47 = .ok (.bipush 9, 2) := by decide +kernel
theorem dX6_in_49 : decode cX6_in 49 = .ok (.iload_n 1, 1) := by decide +kernel
theorem dX6_in_50 : decode cX6_in 50 = .ok (.imul, 1) := by decide +kernel
theorem dX6_in_51 : decode cX6_in 51 = .ok (.aload_n 0, 1) := by decide +kernel
theorem dX6_in_52 : decode cX6_in 52 = .ok (.getfield 13, 3) := by decide +kernel
theorem dX6_in_55 : decode cX6_in 55 = .ok (.iconst 3, 1) := by decide +kernel
theorem dX6_in_56 : decode cX6_in 56 = .ok (.iload_n 2, 1) := by decide +kernel
theorem dX6_in_57 : decode cX6_in 57 = .ok (.imul, 1) := by decide +kernel
theorem dX6_in_58 : decode cX6_in 58 = .ok (.invokevirtual 195, 3) := by decide +kernel
theorem dX6_in_61 : decode cX6_in 61 = .ok (.ifCond .eq 7, 3) := by decide +kernel
theorem dX6_in_64 : decode cX6_in 64 = .ok (.iconst 1, 1) := by decide +kernel
theorem dX6_in_65 : decode cX6_in 65 = .ok (.goto 4, 3) := by decide +kernel
theorem dX6_in_68 : decode cX6_in 68 = .ok (.iconst 0, 1) := by decide +kernel
theorem dX6_in_69 : decode cX6_in 69 = .ok (.ireturn, 1) := by decide +kernel
theorem bX6_in_0 {l : Launch} {D : va_G} {aI aL : ClassId} {ad : Nat → Nat} {P : sa_P} {I : sa_I} {J : sa_J} {x1 : Int32} {x2 : Int32}   (kt : ¬ I 4 0 = 0 → Sat (EC l D aI aL ad) M_X6_in P 17 [(0, .ref (ad 0)), (1, .int x1), (2, .int x2)] [] I J) (kf : I 4 0 = 0 → Sat (EC l D aI aL ad) M_X6_in P 10 [(0, .ref (ad 0))] [] I J) : Sat (EC l D aI aL ad) M_X6_in P 0 [(0, .ref (ad 0)), (1, .int x1), (2, .int x2)] [] I J := by
  refine s_aload_n 0 dX6_in_0 rfl ?_
  refine g_X6_23 dX6_in_1 rfl ?_
  refine g_X6_85 dX6_in_4 rfl ?_
  refine s_if_ne (tgt := 17) dX6_in_7 (by decide) (fun c => ?_) (fun c => ?_)
  · exact kt c
  · refine s_pick [0] [(0, .ref (ad 0))] rfl ?_; exact kf (by first | exact c | exact Classical.not_not.mp c)
theorem bX6_in_10 {l : Launch} {D : va_G} {aI aL : ClassId} {ad : Nat → Nat} {P : sa_P} {I : sa_I} {J : sa_J}    (k : Sat (EC l D aI aL ad) M_X6_in P 13 [] [.int (-3 : Int32), .ref (ad 0)] I J) : Sat (EC l D aI aL ad) M_X6_in P 10 [(0, .ref (ad 0))] [] I J := by
  refine s_aload_n 0 dX6_in_10 rfl ?_
  refine s_bipush (v := -3) dX6_in_11 rfl ?_
  refine s_pick [] [] rfl ?_; exact k
theorem bX6_in_16 {l : Launch} {D : va_G} {aI aL : ClassId} {ad : Nat → Nat} {P : sa_P} {I : sa_I} {J : sa_J} {s0 : Int32}   (k : P (some (.int s0)) I J) : Sat (EC l D aI aL ad) M_X6_in P 16 [] [.int s0] I J := by
  exact s_iret rfl dX6_in_16 k
theorem bX6_in_17 {l : Launch} {D : va_G} {aI aL : ClassId} {ad : Nat → Nat} {P : sa_P} {I : sa_I} {J : sa_J} {x1 : Int32} {x2 : Int32}   (k : Sat (EC l D aI aL ad) M_X6_in P 19 [(0, .ref (ad 0)), (1, .int x1), (2, .int x2)] [.int x1, .ref (ad 0)] I J) : Sat (EC l D aI aL ad) M_X6_in P 17 [(0, .ref (ad 0)), (1, .int x1), (2, .int x2)] [] I J := by
  refine s_aload_n 0 dX6_in_17 rfl ?_
  refine s_iload_n 1 dX6_in_18 rfl ?_
  exact k
theorem bX6_in_22 {l : Launch} {D : va_G} {aI aL : ClassId} {ad : Nat → Nat} {P : sa_P} {I : sa_I} {J : sa_J} {x1 : Int32} {x2 : Int32} {s0 : Int32}   (kt : s0 = 0 → Sat (EC l D aI aL ad) M_X6_in P 33 [(0, .ref (ad 0))] [] I J) (kf : ¬ s0 = 0 → Sat (EC l D aI aL ad) M_X6_in P 25 [(0, .ref (ad 0)), (1, .int x1), (2, .int x2)] [] I J) : Sat (EC l D aI aL ad) M_X6_in P 22 [(0, .ref (ad 0)), (1, .int x1), (2, .int x2)] [.int s0] I J := by
  refine s_if_eq (tgt := 33) dX6_in_22 (by decide) (fun c => ?_) (fun c => ?_)
  · refine s_pick [0] [(0, .ref (ad 0))] rfl ?_; exact kt c
  · exact kf c
theorem bX6_in_25 {l : Launch} {D : va_G} {aI aL : ClassId} {ad : Nat → Nat} {P : sa_P} {I : sa_I} {J : sa_J} {x1 : Int32} {x2 : Int32}   (k : Sat (EC l D aI aL ad) M_X6_in P 27 [(0, .ref (ad 0)), (1, .int x1), (2, .int x2)] [.int x2, .ref (ad 0)] I J) : Sat (EC l D aI aL ad) M_X6_in P 25 [(0, .ref (ad 0)), (1, .int x1), (2, .int x2)] [] I J := by
  refine s_aload_n 0 dX6_in_25 rfl ?_
  refine s_iload_n 2 dX6_in_26 rfl ?_
  exact k
theorem bX6_in_30 {l : Launch} {D : va_G} {aI aL : ClassId} {ad : Nat → Nat} {P : sa_P} {I : sa_I} {J : sa_J} {x1 : Int32} {x2 : Int32} {s0 : Int32}   (kt : ¬ s0 = 0 → Sat (EC l D aI aL ad) M_X6_in P 39 [(0, .ref (ad 0)), (1, .int x1), (2, .int x2)] [] I J) (kf : s0 = 0 → Sat (EC l D aI aL ad) M_X6_in P 33 [(0, .ref (ad 0))] [] I J) : Sat (EC l D aI aL ad) M_X6_in P 30 [(0, .ref (ad 0)), (1, .int x1), (2, .int x2)] [.int s0] I J := by
  refine s_if_ne (tgt := 39) dX6_in_30 (by decide) (fun c => ?_) (fun c => ?_)
  · exact kt c
  · refine s_pick [0] [(0, .ref (ad 0))] rfl ?_; exact kf (by first | exact c | exact Classical.not_not.mp c)
theorem bX6_in_33 {l : Launch} {D : va_G} {aI aL : ClassId} {ad : Nat → Nat} {P : sa_P} {I : sa_I} {J : sa_J}    (k : Sat (EC l D aI aL ad) M_X6_in P 35 [] [.int (-1 : Int32), .ref (ad 0)] I J) : Sat (EC l D aI aL ad) M_X6_in P 33 [(0, .ref (ad 0))] [] I J := by
  refine s_aload_n 0 dX6_in_33 rfl ?_
  refine s_iconst (v := -1) dX6_in_34 rfl ?_
  refine s_pick [] [] rfl ?_; exact k
theorem bX6_in_38 {l : Launch} {D : va_G} {aI aL : ClassId} {ad : Nat → Nat} {P : sa_P} {I : sa_I} {J : sa_J} {s0 : Int32}   (k : P (some (.int s0)) I J) : Sat (EC l D aI aL ad) M_X6_in P 38 [] [.int s0] I J := by
  exact s_iret rfl dX6_in_38 k
theorem bX6_in_39 {l : Launch} {D : va_G} {aI aL : ClassId} {ad : Nat → Nat} {P : sa_P} {I : sa_I} {J : sa_J} {x1 : Int32} {x2 : Int32}   (k : Sat (EC l D aI aL ad) M_X6_in P 58 [] [.int ((3 : Int32) * x2), .ref (ad 2), .int ((9 : Int32) * x1), .ref (ad 3), .ref (ad 13)] I J) : Sat (EC l D aI aL ad) M_X6_in P 39 [(0, .ref (ad 0)), (1, .int x1), (2, .int x2)] [] I J := by
  refine s_aload_n 0 dX6_in_39 rfl ?_
  refine g_X6_32 dX6_in_40 rfl ?_
  refine s_aload_n 0 dX6_in_43 rfl ?_
  refine g_X6_17 dX6_in_44 rfl ?_
  refine s_bipush (v := 9) dX6_in_47 rfl ?_
  refine s_iload_n 1 dX6_in_49 rfl ?_
  refine s_imul dX6_in_50 ?_
  refine s_aload_n 0 dX6_in_51 rfl ?_
  refine g_X6_13 dX6_in_52 rfl ?_
  refine s_iconst (v := 3) dX6_in_55 rfl ?_
  refine s_iload_n 2 dX6_in_56 rfl ?_
  refine s_imul dX6_in_57 ?_
  refine s_pick [] [] rfl ?_; exact k
theorem bX6_in_61 {l : Launch} {D : va_G} {aI aL : ClassId} {ad : Nat → Nat} {P : sa_P} {I : sa_I} {J : sa_J} {s0 : Int32}   (kt : s0 = 0 → Sat (EC l D aI aL ad) M_X6_in P 68 [] [] I J) (kf : ¬ s0 = 0 → Sat (EC l D aI aL ad) M_X6_in P 64 [] [] I J) : Sat (EC l D aI aL ad) M_X6_in P 61 [] [.int s0] I J := by
  refine s_if_eq (tgt := 68) dX6_in_61 (by decide) (fun c => ?_) (fun c => ?_)
  · exact kt c
  · exact kf c
theorem bX6_in_64 {l : Launch} {D : va_G} {aI aL : ClassId} {ad : Nat → Nat} {P : sa_P} {I : sa_I} {J : sa_J}    (k : Sat (EC l D aI aL ad) M_X6_in P 69 [] [.int (1 : Int32)] I J) : Sat (EC l D aI aL ad) M_X6_in P 64 [] [] I J := by
  refine s_iconst (v := 1) dX6_in_64 rfl ?_
  refine s_goto (tgt := 69) dX6_in_65 (by decide) ?_
  exact k
theorem bX6_in_68 {l : Launch} {D : va_G} {aI aL : ClassId} {ad : Nat → Nat} {P : sa_P} {I : sa_I} {J : sa_J}    (k : Sat (EC l D aI aL ad) M_X6_in P 69 [] [.int (0 : Int32)] I J) : Sat (EC l D aI aL ad) M_X6_in P 68 [] [] I J := by
  refine s_iconst (v := 0) dX6_in_68 rfl ?_
  exact k
theorem bX6_in_69 {l : Launch} {D : va_G} {aI aL : ClassId} {ad : Nat → Nat} {P : sa_P} {I : sa_I} {J : sa_J} {s0 : Int32}   (k : P (some (.int s0)) I J) : Sat (EC l D aI aL ad) M_X6_in P 69 [] [.int s0] I J := by
  exact s_iret rfl dX6_in_69 k
/-! X6_divides -/
theorem dX6_divides_0 : decode cX6_divides 0 = .ok (.aload_n 0, 1) := by decide +kernel
theorem dX6_divides_1 : decode cX6_divides 1 = .ok (.getfield 23, 3) := by decide +kernel
theorem dX6_divides_4 : decode cX6_divides 4 = .ok (.getfield 85, 3) := by decide +kernel
theorem dX6_divides_7 : decode cX6_divides 7 = .ok (.ifCond .ne 10, 3) := by decide +kernel
theorem dX6_divides_10 : decode cX6_divides 10 = .ok (.aload_n 0, 1) := by decide +kernel
theorem dX6_divides_11 : decode cX6_divides 11 = .ok (.bipush (-3), 2) := by decide +kernel
theorem dX6_divides_13 : decode cX6_divides 13 = .ok (.invokevirtual 59, 3) := by decide +kernel
theorem dX6_divides_16 : decode cX6_divides 16 = .ok (.ireturn, 1) := by decide +kernel
theorem dX6_divides_17 : decode cX6_divides 17 = .ok (.aload_n 0, 1) := by decide +kernel
theorem dX6_divides_18 : decode cX6_divides 18 = .ok (.iload_n 1, 1) := by decide +kernel
theorem dX6_divides_19 : decode cX6_divides 19 = .ok (.invokevirtual 172, 3) := by decide +kernel
theorem dX6_divides_22 : decode cX6_divides 22 = .ok (.ifCond .eq 11, 3) := by decide +kernel
theorem dX6_divides_25 : decode cX6_divides 25 = .ok (.aload_n 0, 1) := by decide +kernel
theorem dX6_divides_26 : decode cX6_divides 26 = .ok (.iload_n 2, 1) := by decide +kernel
theorem dX6_divides_27 : decode cX6_divides 27 = .ok (.invokevirtual 172, 3) := by decide +kernel
theorem dX6_divides_30 : decode cX6_divides 30 = .ok (.ifCond .ne 9, 3) := by decide +kernel
theorem dX6_divides_33 : decode cX6_divides 33 = .ok (.aload_n 0, 1) := by decide +kernel
theorem dX6_divides_34 : decode cX6_divides 34 = .ok (.iconst (-1), 1) := by decide +kernel
theorem dX6_divides_35 : decode cX6_divides 35 = .ok (.invokevirtual 59, 3) := by decide +kernel
theorem dX6_divides_38 : decode cX6_divides 38 = .ok (.ireturn, 1) := by decide +kernel
theorem dX6_divides_39 : decode cX6_divides 39 = .ok (.aload_n 0, 1) := by decide +kernel
theorem dX6_divides_40 : decode cX6_divides 40 = .ok (.getfield 32, 3) := by decide +kernel
theorem dX6_divides_43 : decode cX6_divides 43 = .ok (.aload_n 0, 1) := by decide +kernel
theorem dX6_divides_44 : decode cX6_divides 44 = .ok (.getfield 17, 3) := by decide +kernel
theorem dX6_divides_47 : decode cX6_divides 47 = .ok (.bipush 9, 2) := by decide +kernel
theorem dX6_divides_49 : decode cX6_divides 49 = .ok (.iload_n 1, 1) := by decide +kernel
theorem dX6_divides_50 : decode cX6_divides 50 = .ok (.imul, 1) := by decide +kernel
theorem dX6_divides_51 : decode cX6_divides 51 = .ok (.aload_n 0, 1) := by decide +kernel
theorem dX6_divides_52 : decode cX6_divides 52 = .ok (.getfield 17, 3) := by decide +kernel
theorem dX6_divides_55 : decode cX6_divides 55 = .ok (.bipush 9, 2) := by decide +kernel
theorem dX6_divides_57 : decode cX6_divides 57 = .ok (.iload_n 2, 1) := by decide +kernel
theorem dX6_divides_58 : decode cX6_divides 58 = .ok (.imul, 1) := by decide +kernel
theorem dX6_divides_59 : decode cX6_divides 59 = .ok (.invokevirtual 175, 3) := by decide +kernel
theorem dX6_divides_62 : decode cX6_divides 62 = .ok (.ifCond .eq 7, 3) := by decide +kernel
theorem dX6_divides_65 : decode cX6_divides 65 = .ok (.iconst 1, 1) := by decide +kernel
theorem dX6_divides_66 : decode cX6_divides 66 = .ok (.goto 4, 3) := by decide +kernel
theorem dX6_divides_69 : decode cX6_divides 69 = .ok (.iconst 0, 1) := by decide +kernel
theorem dX6_divides_70 : decode cX6_divides 70 = .ok (.ireturn, 1) := by decide +kernel
theorem bX6_divides_0 {l : Launch} {D : va_G} {aI aL : ClassId} {ad : Nat → Nat} {P : sa_P} {I : sa_I} {J : sa_J} {x1 : Int32} {x2 : Int32}   (kt : ¬ I 4 0 = 0 → Sat (EC l D aI aL ad) M_X6_divides P 17 [(0, .ref (ad 0)), (1, .int x1), (2, .int x2)] [] I J) (kf : I 4 0 = 0 → Sat (EC l D aI aL ad) M_X6_divides P 10 [(0, .ref (ad 0))] [] I J) : Sat (EC l D aI aL ad) M_X6_divides P 0 [(0, .ref (ad 0)), (1, .int x1), (2, .int x2)] [] I J := by
  refine s_aload_n 0 dX6_divides_0 rfl ?_
  refine g_X6_23 dX6_divides_1 rfl ?_
  refine g_X6_85 dX6_divides_4 rfl ?_
  refine s_if_ne (tgt := 17) dX6_divides_7 (by decide) (fun c => ?_) (fun c => ?_)
  · exact kt c
  · refine s_pick [0] [(0, .ref (ad 0))] rfl ?_; exact kf (by first | exact c | exact Classical.not_not.mp c)
theorem bX6_divides_10 {l : Launch} {D : va_G} {aI aL : ClassId} {ad : Nat → Nat} {P : sa_P} {I : sa_I} {J : sa_J}    (k : Sat (EC l D aI aL ad) M_X6_divides P 13 [] [.int (-3 : Int32), .ref (ad 0)] I J) : Sat (EC l D aI aL ad) M_X6_divides P 10 [(0, .ref (ad 0))] [] I J := by
  refine s_aload_n 0 dX6_divides_10 rfl ?_
  refine s_bipush (v := -3) dX6_divides_11 rfl ?_
  refine s_pick [] [] rfl ?_; exact k
theorem bX6_divides_16 {l : Launch} {D : va_G} {aI aL : ClassId} {ad : Nat → Nat} {P : sa_P} {I : sa_I} {J : sa_J} {s0 : Int32}   (k : P (some (.int s0)) I J) : Sat (EC l D aI aL ad) M_X6_divides P 16 [] [.int s0] I J := by
  exact s_iret rfl dX6_divides_16 k
theorem bX6_divides_17 {l : Launch} {D : va_G} {aI aL : ClassId} {ad : Nat → Nat} {P : sa_P} {I : sa_I} {J : sa_J} {x1 : Int32} {x2 : Int32}   (k : Sat (EC l D aI aL ad) M_X6_divides P 19 [(0, .ref (ad 0)), (1, .int x1), (2, .int x2)] [.int x1, .ref (ad 0)] I J) : Sat (EC l D aI aL ad) M_X6_divides P 17 [(0, .ref (ad 0)), (1, .int x1), (2, .int x2)] [] I J := by
  refine s_aload_n 0 dX6_divides_17 rfl ?_
  refine s_iload_n 1 dX6_divides_18 rfl ?_
  exact k
theorem bX6_divides_22 {l : Launch} {D : va_G} {aI aL : ClassId} {ad : Nat → Nat} {P : sa_P} {I : sa_I} {J : sa_J} {x1 : Int32} {x2 : Int32} {s0 : Int32}   (kt : s0 = 0 → Sat (EC l D aI aL ad) M_X6_divides P 33 [(0, .ref (ad 0))] [] I J) (kf : ¬ s0 = 0 → Sat (EC l D aI aL ad) M_X6_divides P 25 [(0, .ref (ad 0)), (1, .int x1), (2, .int x2)] [] I J) : Sat (EC l D aI aL ad) M_X6_divides P 22 [(0, .ref (ad 0)), (1, .int x1), (2, .int x2)] [.int s0] I J := by
  refine s_if_eq (tgt := 33) dX6_divides_22 (by decide) (fun c => ?_) (fun c => ?_)
  · refine s_pick [0] [(0, .ref (ad 0))] rfl ?_; exact kt c
  · exact kf c
theorem bX6_divides_25 {l : Launch} {D : va_G} {aI aL : ClassId} {ad : Nat → Nat} {P : sa_P} {I : sa_I} {J : sa_J} {x1 : Int32} {x2 : Int32}   (k : Sat (EC l D aI aL ad) M_X6_divides P 27 [(0, .ref (ad 0)), (1, .int x1), (2, .int x2)] [.int x2, .ref (ad 0)] I J) : Sat (EC l D aI aL ad) M_X6_divides P 25 [(0, .ref (ad 0)), (1, .int x1), (2, .int x2)] [] I J := by
  refine s_aload_n 0 dX6_divides_25 rfl ?_
  refine s_iload_n 2 dX6_divides_26 rfl ?_
  exact k
theorem bX6_divides_30 {l : Launch} {D : va_G} {aI aL : ClassId} {ad : Nat → Nat} {P : sa_P} {I : sa_I} {J : sa_J} {x1 : Int32} {x2 : Int32} {s0 : Int32}   (kt : ¬ s0 = 0 → Sat (EC l D aI aL ad) M_X6_divides P 39 [(0, .ref (ad 0)), (1, .int x1), (2, .int x2)] [] I J) (kf : s0 = 0 → Sat (EC l D aI aL ad) M_X6_divides P 33 [(0, .ref (ad 0))] [] I J) : Sat (EC l D aI aL ad) M_X6_divides P 30 [(0, .ref (ad 0)), (1, .int x1), (2, .int x2)] [.int s0] I J := by
  refine s_if_ne (tgt := 39) dX6_divides_30 (by decide) (fun c => ?_) (fun c => ?_)
  · exact kt c
  · refine s_pick [0] [(0, .ref (ad 0))] rfl ?_; exact kf (by first | exact c | exact Classical.not_not.mp c)
theorem bX6_divides_33 {l : Launch} {D : va_G} {aI aL : ClassId} {ad : Nat → Nat} {P : sa_P} {I : sa_I} {J : sa_J}    (k : Sat (EC l D aI aL ad) M_X6_divides P 35 [] [.int (-1 : Int32), .ref (ad 0)] I J) : Sat (EC l D aI aL ad) M_X6_divides P 33 [(0, .ref (ad 0))] [] I J := by
  refine s_aload_n 0 dX6_divides_33 rfl ?_
  refine s_iconst (v := -1) dX6_divides_34 rfl ?_
  refine s_pick [] [] rfl ?_; exact k
theorem bX6_divides_38 {l : Launch} {D : va_G} {aI aL : ClassId} {ad : Nat → Nat} {P : sa_P} {I : sa_I} {J : sa_J} {s0 : Int32}   (k : P (some (.int s0)) I J) : Sat (EC l D aI aL ad) M_X6_divides P 38 [] [.int s0] I J := by
  exact s_iret rfl dX6_divides_38 k
theorem bX6_divides_39 {l : Launch} {D : va_G} {aI aL : ClassId} {ad : Nat → Nat} {P : sa_P} {I : sa_I} {J : sa_J} {x1 : Int32} {x2 : Int32}   (k : Sat (EC l D aI aL ad) M_X6_divides P 59 [] [.int ((9 : Int32) * x2), .ref (ad 3), .int ((9 : Int32) * x1), .ref (ad 3), .ref (ad 13)] I J) : Sat (EC l D aI aL ad) M_X6_divides P 39 [(0, .ref (ad 0)), (1, .int x1), (2, .int x2)] [] I J := by
  refine s_aload_n 0 dX6_divides_39 rfl ?_
  refine g_X6_32 dX6_divides_40 rfl ?_
  refine s_aload_n 0 dX6_divides_43 rfl ?_
  refine g_X6_17 dX6_divides_44 rfl ?_
  refine s_bipush (v := 9) dX6_divides_47 rfl ?_
  refine s_iload_n 1 dX6_divides_49 rfl ?_
  refine s_imul dX6_divides_50 ?_
  refine s_aload_n 0 dX6_divides_51 rfl ?_
  refine g_X6_17 dX6_divides_52 rfl ?_
  refine s_bipush (v := 9) dX6_divides_55 rfl ?_
  refine s_iload_n 2 dX6_divides_57 rfl ?_
  refine s_imul dX6_divides_58 ?_
  refine s_pick [] [] rfl ?_; exact k
theorem bX6_divides_62 {l : Launch} {D : va_G} {aI aL : ClassId} {ad : Nat → Nat} {P : sa_P} {I : sa_I} {J : sa_J} {s0 : Int32}   (kt : s0 = 0 → Sat (EC l D aI aL ad) M_X6_divides P 69 [] [] I J) (kf : ¬ s0 = 0 → Sat (EC l D aI aL ad) M_X6_divides P 65 [] [] I J) : Sat (EC l D aI aL ad) M_X6_divides P 62 [] [.int s0] I J := by
  refine s_if_eq (tgt := 69) dX6_divides_62 (by decide) (fun c => ?_) (fun c => ?_)
  · exact kt c
  · exact kf c
theorem bX6_divides_65 {l : Launch} {D : va_G} {aI aL : ClassId} {ad : Nat → Nat} {P : sa_P} {I : sa_I} {J : sa_J}    (k : Sat (EC l D aI aL ad) M_X6_divides P 70 [] [.int (1 : Int32)] I J) : Sat (EC l D aI aL ad) M_X6_divides P 65 [] [] I J := by
  refine s_iconst (v := 1) dX6_divides_65 rfl ?_
  refine s_goto (tgt := 70) dX6_divides_66 (by decide) ?_
  exact k
theorem bX6_divides_69 {l : Launch} {D : va_G} {aI aL : ClassId} {ad : Nat → Nat} {P : sa_P} {I : sa_I} {J : sa_J}    (k : Sat (EC l D aI aL ad) M_X6_divides P 70 [] [.int (0 : Int32)] I J) : Sat (EC l D aI aL ad) M_X6_divides P 69 [] [] I J := by
  refine s_iconst (v := 0) dX6_divides_69 rfl ?_
  exact k
theorem bX6_divides_70 {l : Launch} {D : va_G} {aI aL : ClassId} {ad : Nat → Nat} {P : sa_P} {I : sa_I} {J : sa_J} {s0 : Int32}   (k : P (some (.int s0)) I J) : Sat (EC l D aI aL ad) M_X6_divides P 70 [] [.int s0] I J := by
  exact s_iret rfl dX6_divides_70 k
/-! X6_primes -/
theorem dX6_primes_0 : decode cX6_primes 0 = .ok (.aload_n 0, 1) := by decide +kernel
theorem dX6_primes_1 : decode cX6_primes 1 = .ok (.getfield 23, 3) := by decide +kernel
theorem dX6_primes_4 : decode cX6_primes 4 = .ok (.getfield 85, 3) := by decide +kernel
theorem dX6_primes_7 : decode cX6_primes 7 = .ok (.ifCond .ne 10, 3) := by decide +kernel
theorem dX6_primes_10 : decode cX6_primes 10 = .ok (.aload_n 0, 1) := by decide +kernel
theorem dX6_primes_11 : decode cX6_primes 11 = .ok (.bipush (-3), 2) := by decide +kernel
theorem dX6_primes_13 : decode cX6_primes 13 = .ok (.invokevirtual 59, 3) := by decide +kernel
theorem dX6_primes_16 : decode cX6_primes 16 = .ok (.ireturn, 1) := by decide +kernel
theorem dX6_primes_17 : decode cX6_primes 17 = .ok (.iload_n 1, 1) := by decide +kernel
theorem dX6_primes_18 : decode cX6_primes 18 = .ok (.invokestatic 198, 3) := by decide +kernel
theorem dX6_primes_21 : decode cX6_primes 21 = .ok (.ifCond .ne 9, 3) := by decide +kernel
theorem dX6_primes_24 : decode cX6_primes 24 = .ok (.aload_n 0, 1) := by decide +kernel
theorem dX6_primes_25 : decode cX6_primes 25 = .ok (.iconst (-1), 1) := by decide +kernel
theorem dX6_primes_26 : decode cX6_primes 26 = .ok (.invokevirtual 59, 3) := by decide +kernel
theorem dX6_primes_29 : decode cX6_primes 29 = .ok (.ireturn, 1) := by decide +kernel
theorem dX6_primes_30 : decode cX6_primes 30 = .ok (.aload_n 0, 1) := by decide +kernel
theorem dX6_primes_31 : decode cX6_primes 31 = .ok (.getfield 41, 3) := by decide +kernel
theorem dX6_primes_34 : decode cX6_primes 34 = .ok (.iload_n 1, 1) := by decide +kernel
theorem dX6_primes_35 : decode cX6_primes 35 = .ok (.invokevirtual 201, 3) := by decide +kernel
theorem dX6_primes_38 : decode cX6_primes 38 = .ok (.aload_n 0, 1) := by decide +kernel
theorem dX6_primes_39 : decode cX6_primes 39 = .ok (.getfield 41, 3) := by decide +kernel
theorem dX6_primes_42 : decode cX6_primes 42 = .ok (.getfield 205, 3) := by decide +kernel
theorem dX6_primes_45 : decode cX6_primes 45 = .ok (.ireturn, 1) := by decide +kernel
theorem bX6_primes_0 {l : Launch} {D : va_G} {aI aL : ClassId} {ad : Nat → Nat} {P : sa_P} {I : sa_I} {J : sa_J} {x1 : Int32}   (kt : ¬ I 4 0 = 0 → Sat (EC l D aI aL ad) M_X6_primes P 17 [(0, .ref (ad 0)), (1, .int x1)] [] I J) (kf : I 4 0 = 0 → Sat (EC l D aI aL ad) M_X6_primes P 10 [(0, .ref (ad 0))] [] I J) : Sat (EC l D aI aL ad) M_X6_primes P 0 [(0, .ref (ad 0)), (1, .int x1)] [] I J := by
  refine s_aload_n 0 dX6_primes_0 rfl ?_
  refine g_X6_23 dX6_primes_1 rfl ?_
  refine g_X6_85 dX6_primes_4 rfl ?_
  refine s_if_ne (tgt := 17) dX6_primes_7 (by decide) (fun c => ?_) (fun c => ?_)
  · exact kt c
  · refine s_pick [0] [(0, .ref (ad 0))] rfl ?_; exact kf (by first | exact c | exact Classical.not_not.mp c)
theorem bX6_primes_10 {l : Launch} {D : va_G} {aI aL : ClassId} {ad : Nat → Nat} {P : sa_P} {I : sa_I} {J : sa_J}    (k : Sat (EC l D aI aL ad) M_X6_primes P 13 [] [.int (-3 : Int32), .ref (ad 0)] I J) : Sat (EC l D aI aL ad) M_X6_primes P 10 [(0, .ref (ad 0))] [] I J := by
  refine s_aload_n 0 dX6_primes_10 rfl ?_
  refine s_bipush (v := -3) dX6_primes_11 rfl ?_
  refine s_pick [] [] rfl ?_; exact k
theorem bX6_primes_16 {l : Launch} {D : va_G} {aI aL : ClassId} {ad : Nat → Nat} {P : sa_P} {I : sa_I} {J : sa_J} {s0 : Int32}   (k : P (some (.int s0)) I J) : Sat (EC l D aI aL ad) M_X6_primes P 16 [] [.int s0] I J := by
  exact s_iret rfl dX6_primes_16 k
theorem bX6_primes_17 {l : Launch} {D : va_G} {aI aL : ClassId} {ad : Nat → Nat} {P : sa_P} {I : sa_I} {J : sa_J} {x1 : Int32}   (k : Sat (EC l D aI aL ad) M_X6_primes P 18 [(0, .ref (ad 0)), (1, .int x1)] [.int x1] I J) : Sat (EC l D aI aL ad) M_X6_primes P 17 [(0, .ref (ad 0)), (1, .int x1)] [] I J := by
  refine s_iload_n 1 dX6_primes_17 rfl ?_
  exact k
theorem bX6_primes_21 {l : Launch} {D : va_G} {aI aL : ClassId} {ad : Nat → Nat} {P : sa_P} {I : sa_I} {J : sa_J} {x1 : Int32} {s0 : Int32}   (kt : ¬ s0 = 0 → Sat (EC l D aI aL ad) M_X6_primes P 30 [(0, .ref (ad 0)), (1, .int x1)] [] I J) (kf : s0 = 0 → Sat (EC l D aI aL ad) M_X6_primes P 24 [(0, .ref (ad 0))] [] I J) : Sat (EC l D aI aL ad) M_X6_primes P 21 [(0, .ref (ad 0)), (1, .int x1)] [.int s0] I J := by
  refine s_if_ne (tgt := 30) dX6_primes_21 (by decide) (fun c => ?_) (fun c => ?_)
  · exact kt c
  · refine s_pick [0] [(0, .ref (ad 0))] rfl ?_; exact kf (by first | exact c | exact Classical.not_not.mp c)
theorem bX6_primes_24 {l : Launch} {D : va_G} {aI aL : ClassId} {ad : Nat → Nat} {P : sa_P} {I : sa_I} {J : sa_J}    (k : Sat (EC l D aI aL ad) M_X6_primes P 26 [] [.int (-1 : Int32), .ref (ad 0)] I J) : Sat (EC l D aI aL ad) M_X6_primes P 24 [(0, .ref (ad 0))] [] I J := by
  refine s_aload_n 0 dX6_primes_24 rfl ?_
  refine s_iconst (v := -1) dX6_primes_25 rfl ?_
  refine s_pick [] [] rfl ?_; exact k
theorem bX6_primes_29 {l : Launch} {D : va_G} {aI aL : ClassId} {ad : Nat → Nat} {P : sa_P} {I : sa_I} {J : sa_J} {s0 : Int32}   (k : P (some (.int s0)) I J) : Sat (EC l D aI aL ad) M_X6_primes P 29 [] [.int s0] I J := by
  exact s_iret rfl dX6_primes_29 k
theorem bX6_primes_30 {l : Launch} {D : va_G} {aI aL : ClassId} {ad : Nat → Nat} {P : sa_P} {I : sa_I} {J : sa_J} {x1 : Int32}   (k : Sat (EC l D aI aL ad) M_X6_primes P 35 [(0, .ref (ad 0))] [.int x1, .ref (ad 21)] I J) : Sat (EC l D aI aL ad) M_X6_primes P 30 [(0, .ref (ad 0)), (1, .int x1)] [] I J := by
  refine s_aload_n 0 dX6_primes_30 rfl ?_
  refine g_X6_41 dX6_primes_31 rfl ?_
  refine s_iload_n 1 dX6_primes_34 rfl ?_
  refine s_pick [0] [(0, .ref (ad 0))] rfl ?_; exact k
theorem bX6_primes_38 {l : Launch} {D : va_G} {aI aL : ClassId} {ad : Nat → Nat} {P : sa_P} {I : sa_I} {J : sa_J}    (k : P (some (.int (I 21 0))) I J) : Sat (EC l D aI aL ad) M_X6_primes P 38 [(0, .ref (ad 0))] [] I J := by
  refine s_aload_n 0 dX6_primes_38 rfl ?_
  refine g_X6_41 dX6_primes_39 rfl ?_
  refine g_X6_205 dX6_primes_42 rfl ?_
  exact s_iret rfl dX6_primes_45 k
/-! X6_prime -/
theorem dX6_prime_0 : decode cX6_prime 0 = .ok (.aload_n 0, 1) := by decide +kernel
theorem dX6_prime_1 : decode cX6_prime 1 = .ok (.getfield 23, 3) := by decide +kernel
theorem dX6_prime_4 : decode cX6_prime 4 = .ok (.getfield 85, 3) := by decide +kernel
theorem dX6_prime_7 : decode cX6_prime 7 = .ok (.ifCond .ne 10, 3) := by decide +kernel
theorem dX6_prime_10 : decode cX6_prime 10 = .ok (.aload_n 0, 1) := by decide +kernel
theorem dX6_prime_11 : decode cX6_prime 11 = .ok (.bipush (-3), 2) := by decide +kernel
theorem dX6_prime_13 : decode cX6_prime 13 = .ok (.invokevirtual 59, 3) := by decide +kernel
theorem dX6_prime_16 : decode cX6_prime 16 = .ok (.ireturn, 1) := by decide +kernel
theorem dX6_prime_17 : decode cX6_prime 17 = .ok (.aload_n 0, 1) := by decide +kernel
theorem dX6_prime_18 : decode cX6_prime 18 = .ok (.iload_n 1, 1) := by decide +kernel
theorem dX6_prime_19 : decode cX6_prime 19 = .ok (.iload_n 2, 1) := by decide +kernel
theorem dX6_prime_20 : decode cX6_prime 20 = .ok (.invokevirtual 208, 3) := by decide +kernel
theorem dX6_prime_23 : decode cX6_prime 23 = .ok (.ifCond .ne 9, 3) := by decide +kernel
theorem dX6_prime_26 : decode cX6_prime 26 = .ok (.aload_n 0, 1) := by decide +kernel
theorem dX6_prime_27 : decode cX6_prime 27 = .ok (.iconst (-1), 1) := by decide +kernel
theorem dX6_prime_28 : decode cX6_prime 28 = .ok (.invokevirtual 59, 3) := by decide +kernel
theorem dX6_prime_31 : decode cX6_prime 31 = .ok (.ireturn, 1) := by decide +kernel
theorem dX6_prime_32 : decode cX6_prime 32 = .ok (.aload_n 0, 1) := by decide +kernel
theorem dX6_prime_33 : decode cX6_prime 33 = .ok (.getfield 23, 3) := by decide +kernel
theorem dX6_prime_36 : decode cX6_prime 36 = .ok (.getfield 85, 3) := by decide +kernel
theorem dX6_prime_39 : decode cX6_prime 39 = .ok (.istore 4, 2) := by decide +kernel
theorem dX6_prime_41 : decode cX6_prime 41 = .ok (.iload_n 3, 1) := by decide +kernel
theorem dX6_prime_42 : decode cX6_prime 42 = .ok (.ifCond .lt 14, 3) := by decide +kernel
theorem dX6_prime_45 : decode cX6_prime 45 = .ok (.iload_n 3, 1) := by decide +kernel
theorem dX6_prime_46 : decode cX6_prime 46 = .ok (.iconst 1, 1) := by decide +kernel
theorem dX6_prime_47 : decode cX6_prime 47 = .ok (.iload 4, 2) := by decide +kernel
theorem dX6_prime_49 : decode cX6_prime 49 = .ok (.iload 4, 2) := by decide +kernel
theorem dX6_prime_51 : decode cX6_prime 51 = .ok (.imul, 1) := by decide +kernel
theorem dX6_prime_52 : decode cX6_prime 52 = .ok (.iadd, 1) := by decide +kernel
theorem dX6_prime_53 : decode cX6_prime 53 = .ok (.if_icmp .le 10, 3) := by decide +kernel
theorem dX6_prime_56 : decode cX6_prime 56 = .ok (.aload_n 0, 1) := by decide +kernel
theorem dX6_prime_57 : decode cX6_prime 57 = .ok (.bipush (-2), 2) := by decide +kernel
theorem dX6_prime_59 : decode cX6_prime 59 = .ok (.invokevirtual 59, 3) := by decide +kernel
theorem dX6_prime_62 : decode cX6_prime 62 = .ok (.ireturn, 1) := by decide +kernel
theorem dX6_prime_63 : decode cX6_prime 63 = .ok (.iload_n 3, 1) := by decide +kernel
theorem dX6_prime_64 : decode cX6_prime 64 = .ok (.ifCond .ne 13, 3) := by decide +kernel
theorem dX6_prime_67 : decode cX6_prime 67 = .ok (.aload_n 0, 1) := by decide +kernel
theorem dX6_prime_68 : decode cX6_prime 68 = .ok (.getfield 41, 3) := by decide +kernel
theorem dX6_prime_71 : decode cX6_prime 71 = .ok (.getfield 212, 3) := by decide +kernel
theorem dX6_prime_74 : decode cX6_prime 74 = .ok (.iload_n 2, 1) := by decide +kernel
theorem dX6_prime_75 : decode cX6_prime 75 = .ok (.iaload, 1) := by decide +kernel
theorem dX6_prime_76 : decode cX6_prime 76 = .ok (.ireturn, 1) := by decide +kernel
theorem dX6_prime_77 : decode cX6_prime 77 = .ok (.iload_n 3, 1) := by decide +kernel
theorem dX6_prime_78 : decode cX6_prime 78 = .ok (.iconst 1, 1) := by decide +kernel
theorem dX6_prime_79 : decode cX6_prime 79 = .ok (.if_icmp .ne 13, 3) := by decide +kernel
theorem dX6_prime_82 : decode cX6_prime 82 = .ok (.aload_n 0, 1) := by decide +kernel
theorem dX6_prime_83 : decode cX6_prime 83 = .ok (.getfield 41, 3) := by decide +kernel
theorem dX6_prime_86 : decode cX6_prime 86 = .ok (.getfield 215, 3) := by decide +kernel
theorem dX6_prime_89 : decode cX6_prime 89 = .ok (.iload_n 2, 1) := by decide +kernel
theorem dX6_prime_90 : decode cX6_prime 90 = .ok (.iaload, 1) := by decide +kernel
theorem dX6_prime_91 : decode cX6_prime 91 = .ok (.ireturn, 1) := by decide +kernel
theorem dX6_prime_92 : decode cX6_prime 92 = .ok (.iload_n 3, 1) := by decide +kernel
theorem dX6_prime_93 : decode cX6_prime 93 = .ok (.iconst 2, 1) := by decide +kernel
theorem dX6_prime_94 : decode cX6_prime 94 = .ok (.isub, 1) := by decide +kernel
theorem dX6_prime_95 : decode cX6_prime 95 = .ok (.istore 5, 2) := by decide +kernel
theorem dX6_prime_97 : decode cX6_prime 97 = .ok (.aload_n 0, 1) := by decide +kernel
theorem dX6_prime_98 : decode cX6_prime 98 = .ok (.getfield 41, 3) := by decide +kernel
theorem dX6_prime_101 : decode cX6_prime 101 = .ok (.getfield 218, 3) := by decide +kernel
theorem dX6_prime_104 : decode cX6_prime 104 = .ok (.bipush 9, 2) := by decide +kernel
theorem dX6_prime_106 : decode cX6_prime 106 = .ok (.iload_n 2, 1) := by decide +kernel
theorem dX6_prime_107 : decode cX6_prime 107 = .ok (.imul, 1) := by decide +kernel
theorem dX6_prime_108 : decode cX6_prime 108 = .ok (.iconst 3, 1) := by decide +kernel
theorem dX6_prime_109 : decode cX6_prime 109 = .ok (.iload 5, 2) := by decide +kernel
theorem dX6_prime_111 : decode cX6_prime 111 = .ok (.iload 4, 2) := by decide +kernel
theorem dX6_prime_113 : decode cX6_prime 113 = .ok (.idiv, 1) := by decide +kernel
theorem dX6_prime_114 : decode cX6_prime 114 = .ok (.imul, 1) := by decide +kernel
theorem dX6_prime_115 : decode cX6_prime 115 = .ok (.iadd, 1) := by decide +kernel
theorem dX6_prime_116 : decode cX6_prime 116 = .ok (.iload 5, 2) := by decide +kernel
theorem dX6_prime_118 : decode cX6_prime 118 = .ok (.iload 4, 2) := by decide +kernel
theorem dX6_prime_120 : decode cX6_prime 120 = .ok (.irem, 1) := by decide +kernel
theorem dX6_prime_121 : decode cX6_prime 121 = .ok (.iadd, 1) := by decide +kernel
theorem dX6_prime_122 : decode cX6_prime 122 = .ok (.laload, 1) := by decide +kernel
theorem dX6_prime_123 : decode cX6_prime 123 = .ok (.l2i, 1) := by decide +kernel
theorem dX6_prime_124 : decode cX6_prime 124 = .ok (.ireturn, 1) := by decide +kernel
theorem bX6_prime_0 {l : Launch} {D : va_G} {aI aL : ClassId} {ad : Nat → Nat} {P : sa_P} {I : sa_I} {J : sa_J} {x1 : Int32} {x2 : Int32} {x3 : Int32}   (kt : ¬ I 4 0 = 0 → Sat (EC l D aI aL ad) M_X6_prime P 17 [(0, .ref (ad 0)), (1, .int x1), (2, .int x2), (3, .int x3)] [] I J) (kf : I 4 0 = 0 → Sat (EC l D aI aL ad) M_X6_prime P 10 [(0, .ref (ad 0))] [] I J) : Sat (EC l D aI aL ad) M_X6_prime P 0 [(0, .ref (ad 0)), (1, .int x1), (2, .int x2), (3, .int x3)] [] I J := by
  refine s_aload_n 0 dX6_prime_0 rfl ?_
  refine g_X6_23 dX6_prime_1 rfl ?_
  refine g_X6_85 dX6_prime_4 rfl ?_
  refine s_if_ne (tgt := 17) dX6_prime_7 (by decide) (fun c => ?_) (fun c => ?_)
  · exact kt c
  · refine s_pick [0] [(0, .ref (ad 0))] rfl ?_; exact kf (by first | exact c | exact Classical.not_not.mp c)
theorem bX6_prime_10 {l : Launch} {D : va_G} {aI aL : ClassId} {ad : Nat → Nat} {P : sa_P} {I : sa_I} {J : sa_J}    (k : Sat (EC l D aI aL ad) M_X6_prime P 13 [] [.int (-3 : Int32), .ref (ad 0)] I J) : Sat (EC l D aI aL ad) M_X6_prime P 10 [(0, .ref (ad 0))] [] I J := by
  refine s_aload_n 0 dX6_prime_10 rfl ?_
  refine s_bipush (v := -3) dX6_prime_11 rfl ?_
  refine s_pick [] [] rfl ?_; exact k
theorem bX6_prime_16 {l : Launch} {D : va_G} {aI aL : ClassId} {ad : Nat → Nat} {P : sa_P} {I : sa_I} {J : sa_J} {s0 : Int32}   (k : P (some (.int s0)) I J) : Sat (EC l D aI aL ad) M_X6_prime P 16 [] [.int s0] I J := by
  exact s_iret rfl dX6_prime_16 k
theorem bX6_prime_17 {l : Launch} {D : va_G} {aI aL : ClassId} {ad : Nat → Nat} {P : sa_P} {I : sa_I} {J : sa_J} {x1 : Int32} {x2 : Int32} {x3 : Int32}   (k : Sat (EC l D aI aL ad) M_X6_prime P 20 [(0, .ref (ad 0)), (2, .int x2), (3, .int x3)] [.int x2, .int x1, .ref (ad 0)] I J) : Sat (EC l D aI aL ad) M_X6_prime P 17 [(0, .ref (ad 0)), (1, .int x1), (2, .int x2), (3, .int x3)] [] I J := by
  refine s_aload_n 0 dX6_prime_17 rfl ?_
  refine s_iload_n 1 dX6_prime_18 rfl ?_
  refine s_iload_n 2 dX6_prime_19 rfl ?_
  refine s_pick [0, 2, 3] [(0, .ref (ad 0)), (2, .int x2), (3, .int x3)] rfl ?_; exact k
theorem bX6_prime_23 {l : Launch} {D : va_G} {aI aL : ClassId} {ad : Nat → Nat} {P : sa_P} {I : sa_I} {J : sa_J} {x2 : Int32} {x3 : Int32} {s0 : Int32}   (kt : ¬ s0 = 0 → Sat (EC l D aI aL ad) M_X6_prime P 32 [(0, .ref (ad 0)), (2, .int x2), (3, .int x3)] [] I J) (kf : s0 = 0 → Sat (EC l D aI aL ad) M_X6_prime P 26 [(0, .ref (ad 0))] [] I J) : Sat (EC l D aI aL ad) M_X6_prime P 23 [(0, .ref (ad 0)), (2, .int x2), (3, .int x3)] [.int s0] I J := by
  refine s_if_ne (tgt := 32) dX6_prime_23 (by decide) (fun c => ?_) (fun c => ?_)
  · exact kt c
  · refine s_pick [0] [(0, .ref (ad 0))] rfl ?_; exact kf (by first | exact c | exact Classical.not_not.mp c)
theorem bX6_prime_26 {l : Launch} {D : va_G} {aI aL : ClassId} {ad : Nat → Nat} {P : sa_P} {I : sa_I} {J : sa_J}    (k : Sat (EC l D aI aL ad) M_X6_prime P 28 [] [.int (-1 : Int32), .ref (ad 0)] I J) : Sat (EC l D aI aL ad) M_X6_prime P 26 [(0, .ref (ad 0))] [] I J := by
  refine s_aload_n 0 dX6_prime_26 rfl ?_
  refine s_iconst (v := -1) dX6_prime_27 rfl ?_
  refine s_pick [] [] rfl ?_; exact k
theorem bX6_prime_31 {l : Launch} {D : va_G} {aI aL : ClassId} {ad : Nat → Nat} {P : sa_P} {I : sa_I} {J : sa_J} {s0 : Int32}   (k : P (some (.int s0)) I J) : Sat (EC l D aI aL ad) M_X6_prime P 31 [] [.int s0] I J := by
  exact s_iret rfl dX6_prime_31 k
theorem bX6_prime_32 {l : Launch} {D : va_G} {aI aL : ClassId} {ad : Nat → Nat} {P : sa_P} {I : sa_I} {J : sa_J} {x2 : Int32} {x3 : Int32} {v39 : Int32}  (f39 : I 4 0 = v39) (kt : x3 < 0 → Sat (EC l D aI aL ad) M_X6_prime P 56 [(0, .ref (ad 0))] [] I J) (kf : ¬ x3 < 0 → Sat (EC l D aI aL ad) M_X6_prime P 45 [(0, .ref (ad 0)), (2, .int x2), (3, .int x3), (4, .int v39)] [] I J) : Sat (EC l D aI aL ad) M_X6_prime P 32 [(0, .ref (ad 0)), (2, .int x2), (3, .int x3)] [] I J := by
  refine s_aload_n 0 dX6_prime_32 rfl ?_
  refine g_X6_23 dX6_prime_33 rfl ?_
  refine g_X6_85 dX6_prime_36 rfl ?_
  refine s_eqi f39 ?_
  refine s_istore [(4, .int v39), (0, .ref (ad 0)), (2, .int x2), (3, .int x3)] dX6_prime_39 (Nat.lt_of_lt_of_le (Nat.lt_succ_self _) (Nat.le_of_ble_eq_true rfl)) rfl ?_
  refine s_iload_n 3 dX6_prime_41 rfl ?_
  refine s_if_lt (tgt := 56) dX6_prime_42 (by decide) (fun c => ?_) (fun c => ?_)
  · refine s_pick [1] [(0, .ref (ad 0))] rfl ?_; exact kt c
  · refine s_pick [1, 2, 3, 0] [(0, .ref (ad 0)), (2, .int x2), (3, .int x3), (4, .int v39)] rfl ?_; exact kf c
theorem bX6_prime_45 {l : Launch} {D : va_G} {aI aL : ClassId} {ad : Nat → Nat} {P : sa_P} {I : sa_I} {J : sa_J} {x2 : Int32} {x3 : Int32} {x4 : Int32}   (kt : x3 ≤ (1 : Int32) + (x4 * x4) → Sat (EC l D aI aL ad) M_X6_prime P 63 [(0, .ref (ad 0)), (2, .int x2), (3, .int x3), (4, .int x4)] [] I J) (kf : ¬ x3 ≤ (1 : Int32) + (x4 * x4) → Sat (EC l D aI aL ad) M_X6_prime P 56 [(0, .ref (ad 0))] [] I J) : Sat (EC l D aI aL ad) M_X6_prime P 45 [(0, .ref (ad 0)), (2, .int x2), (3, .int x3), (4, .int x4)] [] I J := by
  refine s_iload_n 2 dX6_prime_45 rfl ?_
  refine s_iconst (v := 1) dX6_prime_46 rfl ?_
  refine s_iload 3 dX6_prime_47 rfl ?_
  refine s_iload 3 dX6_prime_49 rfl ?_
  refine s_imul dX6_prime_51 ?_
  refine s_iadd dX6_prime_52 ?_
  refine s_icmp_le (tgt := 63) dX6_prime_53 (by decide) (fun c => ?_) (fun c => ?_)
  · exact kt c
  · refine s_pick [0] [(0, .ref (ad 0))] rfl ?_; exact kf c
theorem bX6_prime_56 {l : Launch} {D : va_G} {aI aL : ClassId} {ad : Nat → Nat} {P : sa_P} {I : sa_I} {J : sa_J}    (k : Sat (EC l D aI aL ad) M_X6_prime P 59 [] [.int (-2 : Int32), .ref (ad 0)] I J) : Sat (EC l D aI aL ad) M_X6_prime P 56 [(0, .ref (ad 0))] [] I J := by
  refine s_aload_n 0 dX6_prime_56 rfl ?_
  refine s_bipush (v := -2) dX6_prime_57 rfl ?_
  refine s_pick [] [] rfl ?_; exact k
theorem bX6_prime_62 {l : Launch} {D : va_G} {aI aL : ClassId} {ad : Nat → Nat} {P : sa_P} {I : sa_I} {J : sa_J} {s0 : Int32}   (k : P (some (.int s0)) I J) : Sat (EC l D aI aL ad) M_X6_prime P 62 [] [.int s0] I J := by
  exact s_iret rfl dX6_prime_62 k
theorem bX6_prime_63 {l : Launch} {D : va_G} {aI aL : ClassId} {ad : Nat → Nat} {P : sa_P} {I : sa_I} {J : sa_J} {x2 : Int32} {x3 : Int32} {x4 : Int32}   (kt : ¬ x3 = 0 → Sat (EC l D aI aL ad) M_X6_prime P 77 [(0, .ref (ad 0)), (2, .int x2), (3, .int x3), (4, .int x4)] [] I J) (kf : x3 = 0 → Sat (EC l D aI aL ad) M_X6_prime P 67 [(0, .ref (ad 0)), (2, .int x2)] [] I J) : Sat (EC l D aI aL ad) M_X6_prime P 63 [(0, .ref (ad 0)), (2, .int x2), (3, .int x3), (4, .int x4)] [] I J := by
  refine s_iload_n 2 dX6_prime_63 rfl ?_
  refine s_if_ne (tgt := 77) dX6_prime_64 (by decide) (fun c => ?_) (fun c => ?_)
  · exact kt c
  · refine s_pick [0, 1] [(0, .ref (ad 0)), (2, .int x2)] rfl ?_; exact kf (by first | exact c | exact Classical.not_not.mp c)
theorem bX6_prime_67 {l : Launch} {D : va_G} {aI aL : ClassId} {ad : Nat → Nat} {P : sa_P} {I : sa_I} {J : sa_J} {x2 : Int32} {j74 : Nat} (e74 : x2 = nI j74) (h75 : j74 < 3)  (k : P (some (.int (I 22 j74))) I J) : Sat (EC l D aI aL ad) M_X6_prime P 67 [(0, .ref (ad 0)), (2, .int x2)] [] I J := by
  refine s_aload_n 0 dX6_prime_67 rfl ?_
  refine g_X6_41 dX6_prime_68 rfl ?_
  refine g_X6_212 dX6_prime_71 rfl ?_
  refine s_iload_n 1 dX6_prime_74 rfl ?_
  refine s_eqi e74 ?_
  refine s_ialoadN aI_C22 h75 (by decide) dX6_prime_75 ?_
  exact s_iret rfl dX6_prime_76 k
theorem bX6_prime_77 {l : Launch} {D : va_G} {aI aL : ClassId} {ad : Nat → Nat} {P : sa_P} {I : sa_I} {J : sa_J} {x2 : Int32} {x3 : Int32} {x4 : Int32}   (kt : ¬ x3 = (1 : Int32) → Sat (EC l D aI aL ad) M_X6_prime P 92 [(0, .ref (ad 0)), (2, .int x2), (3, .int x3), (4, .int x4)] [] I J) (kf : x3 = (1 : Int32) → Sat (EC l D aI aL ad) M_X6_prime P 82 [(0, .ref (ad 0)), (2, .int x2)] [] I J) : Sat (EC l D aI aL ad) M_X6_prime P 77 [(0, .ref (ad 0)), (2, .int x2), (3, .int x3), (4, .int x4)] [] I J := by
  refine s_iload_n 2 dX6_prime_77 rfl ?_
  refine s_iconst (v := 1) dX6_prime_78 rfl ?_
  refine s_icmp_ne (tgt := 92) dX6_prime_79 (by decide) (fun c => ?_) (fun c => ?_)
  · exact kt c
  · refine s_pick [0, 1] [(0, .ref (ad 0)), (2, .int x2)] rfl ?_; exact kf (by first | exact c | exact Classical.not_not.mp c)
theorem bX6_prime_82 {l : Launch} {D : va_G} {aI aL : ClassId} {ad : Nat → Nat} {P : sa_P} {I : sa_I} {J : sa_J} {x2 : Int32} {j89 : Nat} (e89 : x2 = nI j89) (h90 : j89 < 3)  (k : P (some (.int (I 23 j89))) I J) : Sat (EC l D aI aL ad) M_X6_prime P 82 [(0, .ref (ad 0)), (2, .int x2)] [] I J := by
  refine s_aload_n 0 dX6_prime_82 rfl ?_
  refine g_X6_41 dX6_prime_83 rfl ?_
  refine g_X6_215 dX6_prime_86 rfl ?_
  refine s_iload_n 1 dX6_prime_89 rfl ?_
  refine s_eqi e89 ?_
  refine s_ialoadN aI_C23 h90 (by decide) dX6_prime_90 ?_
  exact s_iret rfl dX6_prime_91 k
theorem bX6_prime_92 {l : Launch} {D : va_G} {aI aL : ClassId} {ad : Nat → Nat} {P : sa_P} {I : sa_I} {J : sa_J} {x2 : Int32} {x3 : Int32} {x4 : Int32} {v95 : Int32} {j121 : Nat} (z113 : ¬ x4 = 0) (z120 : ¬ x4 = 0) (e121 : (((9 : Int32) * x2) + ((3 : Int32) * (v95 / x4))) + (v95 - v95 / x4 * x4) = nI j121) (h122 : j121 < 27) (f95 : x3 - (2 : Int32) = v95) (k : P (some (.int ((J 24 j121).toInt32))) I J) : Sat (EC l D aI aL ad) M_X6_prime P 92 [(0, .ref (ad 0)), (2, .int x2), (3, .int x3), (4, .int x4)] [] I J := by
  refine s_iload_n 2 dX6_prime_92 rfl ?_
  refine s_iconst (v := 2) dX6_prime_93 rfl ?_
  refine s_isub dX6_prime_94 ?_
  refine s_eqi f95 ?_
  refine s_istore [(5, .int v95), (0, .ref (ad 0)), (2, .int x2), (3, .int x3), (4, .int x4)] dX6_prime_95 (Nat.lt_of_lt_of_le (Nat.lt_succ_self _) (Nat.le_of_ble_eq_true rfl)) rfl ?_
  refine s_aload_n 1 dX6_prime_97 rfl ?_
  refine g_X6_41 dX6_prime_98 rfl ?_
  refine g_X6_218 dX6_prime_101 rfl ?_
  refine s_bipush (v := 9) dX6_prime_104 rfl ?_
  refine s_iload_n 2 dX6_prime_106 rfl ?_
  refine s_imul dX6_prime_107 ?_
  refine s_iconst (v := 3) dX6_prime_108 rfl ?_
  refine s_iload 0 dX6_prime_109 rfl ?_
  refine s_iload 4 dX6_prime_111 rfl ?_
  refine s_idiv dX6_prime_113 z113 ?_
  refine s_imul dX6_prime_114 ?_
  refine s_iadd dX6_prime_115 ?_
  refine s_iload 0 dX6_prime_116 rfl ?_
  refine s_iload 4 dX6_prime_118 rfl ?_
  refine s_irem dX6_prime_120 z120 ?_
  refine s_iadd dX6_prime_121 ?_
  refine s_eqi e121 ?_
  refine s_laloadN aJ_C24 h122 (by decide) dX6_prime_122 ?_
  refine s_l2i dX6_prime_123 ?_
  exact s_iret rfl dX6_prime_124 k
/-! X6_take -/
theorem dX6_take_0 : decode cX6_take 0 = .ok (.aload_n 0, 1) := by decide +kernel
theorem dX6_take_1 : decode cX6_take 1 = .ok (.getfield 23, 3) := by decide +kernel
theorem dX6_take_4 : decode cX6_take 4 = .ok (.getfield 85, 3) := by decide +kernel
theorem dX6_take_7 : decode cX6_take 7 = .ok (.ifCond .ne 10, 3) := by decide +kernel
theorem dX6_take_10 : decode cX6_take 10 = .ok (.aload_n 0, 1) := by decide +kernel
theorem dX6_take_11 : decode cX6_take 11 = .ok (.bipush (-3), 2) := by decide +kernel
theorem dX6_take_13 : decode cX6_take 13 = .ok (.invokevirtual 59, 3) := by decide +kernel
theorem dX6_take_16 : decode cX6_take 16 = .ok (.ireturn, 1) := by decide +kernel
theorem dX6_take_17 : decode cX6_take 17 = .ok (.aload_n 0, 1) := by decide +kernel
theorem dX6_take_18 : decode cX6_take 18 = .ok (.iload_n 1, 1) := by decide +kernel
theorem dX6_take_19 : decode cX6_take 19 = .ok (.iload_n 2, 1) := by decide +kernel
theorem dX6_take_20 : decode cX6_take 20 = .ok (.invokevirtual 208, 3) := by decide +kernel
theorem dX6_take_23 : decode cX6_take 23 = .ok (.ifCond .ne 9, 3) := by decide +kernel
theorem dX6_take_26 : decode cX6_take 26 = .ok (.aload_n 0, 1) := by decide +kernel
theorem dX6_take_27 : decode cX6_take 27 = .ok (.iconst (-1), 1) := by decide +kernel
theorem dX6_take_28 : decode cX6_take 28 = .ok (.invokevirtual 59, 3) := by decide +kernel
theorem dX6_take_31 : decode cX6_take 31 = .ok (.ireturn, 1) := by decide +kernel
theorem dX6_take_32 : decode cX6_take 32 = .ok (.aload_n 0, 1) := by decide +kernel
theorem dX6_take_33 : decode cX6_take 33 = .ok (.getfield 32, 3) := by decide +kernel
theorem dX6_take_36 : decode cX6_take 36 = .ok (.aload_n 0, 1) := by decide +kernel
theorem dX6_take_37 : decode cX6_take 37 = .ok (.getfield 41, 3) := by decide +kernel
theorem dX6_take_40 : decode cX6_take 40 = .ok (.getfield 218, 3) := by decide +kernel
theorem dX6_take_43 : decode cX6_take 43 = .ok (.bipush 9, 2) := by decide +kernel
theorem dX6_take_45 : decode cX6_take 45 = .ok (.iload_n 2, 1) := by decide +kernel
theorem dX6_take_46 : decode cX6_take 46 = .ok (.imul, 1) := by decide +kernel
theorem dX6_take_47 : decode cX6_take 47 = .ok (.invokevirtual 219, 3) := by decide +kernel
theorem dX6_take_50 : decode cX6_take 50 = .ok (.aload_n 0, 1) := by decide +kernel
theorem dX6_take_51 : decode cX6_take 51 = .ok (.invokevirtual 169, 3) := by decide +kernel
theorem dX6_take_54 : decode cX6_take 54 = .ok (.ireturn, 1) := by decide +kernel
theorem bX6_take_0 {l : Launch} {D : va_G} {aI aL : ClassId} {ad : Nat → Nat} {P : sa_P} {I : sa_I} {J : sa_J} {x1 : Int32} {x2 : Int32}   (kt : ¬ I 4 0 = 0 → Sat (EC l D aI aL ad) M_X6_take P 17 [(0, .ref (ad 0)), (1, .int x1), (2, .int x2)] [] I J) (kf : I 4 0 = 0 → Sat (EC l D aI aL ad) M_X6_take P 10 [(0, .ref (ad 0))] [] I J) : Sat (EC l D aI aL ad) M_X6_take P 0 [(0, .ref (ad 0)), (1, .int x1), (2, .int x2)] [] I J := by
  refine s_aload_n 0 dX6_take_0 rfl ?_
  refine g_X6_23 dX6_take_1 rfl ?_
  refine g_X6_85 dX6_take_4 rfl ?_
  refine s_if_ne (tgt := 17) dX6_take_7 (by decide) (fun c => ?_) (fun c => ?_)
  · exact kt c
  · refine s_pick [0] [(0, .ref (ad 0))] rfl ?_; exact kf (by first | exact c | exact Classical.not_not.mp c)
theorem bX6_take_10 {l : Launch} {D : va_G} {aI aL : ClassId} {ad : Nat → Nat} {P : sa_P} {I : sa_I} {J : sa_J}    (k : Sat (EC l D aI aL ad) M_X6_take P 13 [] [.int (-3 : Int32), .ref (ad 0)] I J) : Sat (EC l D aI aL ad) M_X6_take P 10 [(0, .ref (ad 0))] [] I J := by
  refine s_aload_n 0 dX6_take_10 rfl ?_
  refine s_bipush (v := -3) dX6_take_11 rfl ?_
  refine s_pick [] [] rfl ?_; exact k
theorem bX6_take_16 {l : Launch} {D : va_G} {aI aL : ClassId} {ad : Nat → Nat} {P : sa_P} {I : sa_I} {J : sa_J} {s0 : Int32}   (k : P (some (.int s0)) I J) : Sat (EC l D aI aL ad) M_X6_take P 16 [] [.int s0] I J := by
  exact s_iret rfl dX6_take_16 k
theorem bX6_take_17 {l : Launch} {D : va_G} {aI aL : ClassId} {ad : Nat → Nat} {P : sa_P} {I : sa_I} {J : sa_J} {x1 : Int32} {x2 : Int32}   (k : Sat (EC l D aI aL ad) M_X6_take P 20 [(0, .ref (ad 0)), (2, .int x2)] [.int x2, .int x1, .ref (ad 0)] I J) : Sat (EC l D aI aL ad) M_X6_take P 17 [(0, .ref (ad 0)), (1, .int x1), (2, .int x2)] [] I J := by
  refine s_aload_n 0 dX6_take_17 rfl ?_
  refine s_iload_n 1 dX6_take_18 rfl ?_
  refine s_iload_n 2 dX6_take_19 rfl ?_
  refine s_pick [0, 2] [(0, .ref (ad 0)), (2, .int x2)] rfl ?_; exact k
theorem bX6_take_23 {l : Launch} {D : va_G} {aI aL : ClassId} {ad : Nat → Nat} {P : sa_P} {I : sa_I} {J : sa_J} {x2 : Int32} {s0 : Int32}   (kt : ¬ s0 = 0 → Sat (EC l D aI aL ad) M_X6_take P 32 [(0, .ref (ad 0)), (2, .int x2)] [] I J) (kf : s0 = 0 → Sat (EC l D aI aL ad) M_X6_take P 26 [(0, .ref (ad 0))] [] I J) : Sat (EC l D aI aL ad) M_X6_take P 23 [(0, .ref (ad 0)), (2, .int x2)] [.int s0] I J := by
  refine s_if_ne (tgt := 32) dX6_take_23 (by decide) (fun c => ?_) (fun c => ?_)
  · exact kt c
  · refine s_pick [0] [(0, .ref (ad 0))] rfl ?_; exact kf (by first | exact c | exact Classical.not_not.mp c)
theorem bX6_take_26 {l : Launch} {D : va_G} {aI aL : ClassId} {ad : Nat → Nat} {P : sa_P} {I : sa_I} {J : sa_J}    (k : Sat (EC l D aI aL ad) M_X6_take P 28 [] [.int (-1 : Int32), .ref (ad 0)] I J) : Sat (EC l D aI aL ad) M_X6_take P 26 [(0, .ref (ad 0))] [] I J := by
  refine s_aload_n 0 dX6_take_26 rfl ?_
  refine s_iconst (v := -1) dX6_take_27 rfl ?_
  refine s_pick [] [] rfl ?_; exact k
theorem bX6_take_31 {l : Launch} {D : va_G} {aI aL : ClassId} {ad : Nat → Nat} {P : sa_P} {I : sa_I} {J : sa_J} {s0 : Int32}   (k : P (some (.int s0)) I J) : Sat (EC l D aI aL ad) M_X6_take P 31 [] [.int s0] I J := by
  exact s_iret rfl dX6_take_31 k
theorem bX6_take_32 {l : Launch} {D : va_G} {aI aL : ClassId} {ad : Nat → Nat} {P : sa_P} {I : sa_I} {J : sa_J} {x2 : Int32}   (k : Sat (EC l D aI aL ad) M_X6_take P 47 [(0, .ref (ad 0))] [.int ((9 : Int32) * x2), .ref (ad 24), .ref (ad 13)] I J) : Sat (EC l D aI aL ad) M_X6_take P 32 [(0, .ref (ad 0)), (2, .int x2)] [] I J := by
  refine s_aload_n 0 dX6_take_32 rfl ?_
  refine g_X6_32 dX6_take_33 rfl ?_
  refine s_aload_n 0 dX6_take_36 rfl ?_
  refine g_X6_41 dX6_take_37 rfl ?_
  refine g_X6_218 dX6_take_40 rfl ?_
  refine s_bipush (v := 9) dX6_take_43 rfl ?_
  refine s_iload_n 1 dX6_take_45 rfl ?_
  refine s_imul dX6_take_46 ?_
  refine s_pick [0] [(0, .ref (ad 0))] rfl ?_; exact k
theorem bX6_take_50 {l : Launch} {D : va_G} {aI aL : ClassId} {ad : Nat → Nat} {P : sa_P} {I : sa_I} {J : sa_J}    (k : Sat (EC l D aI aL ad) M_X6_take P 51 [] [.ref (ad 0)] I J) : Sat (EC l D aI aL ad) M_X6_take P 50 [(0, .ref (ad 0))] [] I J := by
  refine s_aload_n 0 dX6_take_50 rfl ?_
  refine s_pick [] [] rfl ?_; exact k
theorem bX6_take_54 {l : Launch} {D : va_G} {aI aL : ClassId} {ad : Nat → Nat} {P : sa_P} {I : sa_I} {J : sa_J} {s0 : Int32}   (k : P (some (.int s0)) I J) : Sat (EC l D aI aL ad) M_X6_take P 54 [] [.int s0] I J := by
  exact s_iret rfl dX6_take_54 k
/-! X6_times -/
theorem dX6_times_0 : decode cX6_times 0 = .ok (.aload_n 0, 1) := by decide +kernel
theorem dX6_times_1 : decode cX6_times 1 = .ok (.getfield 23, 3) := by decide +kernel
theorem dX6_times_4 : decode cX6_times 4 = .ok (.getfield 85, 3) := by decide +kernel
theorem dX6_times_7 : decode cX6_times 7 = .ok (.ifCond .ne 10, 3) := by decide +kernel
theorem dX6_times_10 : decode cX6_times 10 = .ok (.aload_n 0, 1) := by decide +kernel
theorem dX6_times_11 : decode cX6_times 11 = .ok (.bipush (-3), 2) := by decide +kernel
theorem dX6_times_13 : decode cX6_times 13 = .ok (.invokevirtual 59, 3) := by decide +kernel
theorem dX6_times_16 : decode cX6_times 16 = .ok (.ireturn, 1) := by decide +kernel
theorem dX6_times_17 : decode cX6_times 17 = .ok (.aload_n 0, 1) := by decide +kernel
theorem dX6_times_18 : decode cX6_times 18 = .ok (.iload_n 1, 1) := by decide +kernel
theorem dX6_times_19 : decode cX6_times 19 = .ok (.invokevirtual 172, 3) := by decide +kernel
theorem dX6_times_22 : decode cX6_times 22 = .ok (.ifCond .eq 12, 3) := by decide +kernel
theorem dX6_times_25 : decode cX6_times 25 = .ok (.aload_n 0, 1) := by decide +kernel
theorem dX6_times_26 : decode cX6_times 26 = .ok (.iload_n 2, 1) := by decide +kernel
theorem dX6_times_27 : decode cX6_times 27 = .ok (.iload_n 3, 1) := by decide +kernel
theorem dX6_times_28 : decode cX6_times 28 = .ok (.invokevirtual 208, 3) := by decide +kernel
theorem dX6_times_31 : decode cX6_times 31 = .ok (.ifCond .ne 9, 3) := by decide +kernel
theorem dX6_times_34 : decode cX6_times 34 = .ok (.aload_n 0, 1) := by decide +kernel
theorem dX6_times_35 : decode cX6_times 35 = .ok (.iconst (-1), 1) := by decide +kernel
theorem dX6_times_36 : decode cX6_times 36 = .ok (.invokevirtual 59, 3) := by decide +kernel
theorem dX6_times_39 : decode cX6_times 39 = .ok (.ireturn, 1) := by decide +kernel
theorem dX6_times_40 : decode cX6_times 40 = .ok (.aload_n 0, 1) := by decide +kernel
theorem dX6_times_41 : decode cX6_times 41 = .ok (.getfield 32, 3) := by decide +kernel
theorem dX6_times_44 : decode cX6_times 44 = .ok (.aload_n 0, 1) := by decide +kernel
theorem dX6_times_45 : decode cX6_times 45 = .ok (.getfield 41, 3) := by decide +kernel
theorem dX6_times_48 : decode cX6_times 48 = .ok (.getfield 218, 3) := by decide +kernel
theorem dX6_times_51 : decode cX6_times 51 = .ok (.bipush 9, 2) := by decide +kernel
theorem dX6_times_53 : decode cX6_times 53 = .ok (.iload_n 3, 1) := by decide +kernel
theorem dX6_times_54 : decode cX6_times 54 = .ok (.imul, 1) := by decide +kernel
theorem dX6_times_55 : decode cX6_times 55 = .ok (.aload_n 0, 1) := by decide +kernel
theorem dX6_times_56 : decode cX6_times 56 = .ok (.getfield 17, 3) := by decide +kernel
theorem dX6_times_59 : decode cX6_times 59 = .ok (.bipush 9, 2) := by decide +kernel
theorem dX6_times_61 : decode cX6_times 61 = .ok (.iload_n 1, 1) := by decide +kernel
theorem dX6_times_62 : decode cX6_times 62 = .ok (.imul, 1) := by decide +kernel
theorem dX6_times_63 : decode cX6_times 63 = .ok (.invokevirtual 222, 3) := by decide +kernel
theorem dX6_times_66 : decode cX6_times 66 = .ok (.ireturn, 1) := by decide +kernel
theorem bX6_times_0 {l : Launch} {D : va_G} {aI aL : ClassId} {ad : Nat → Nat} {P : sa_P} {I : sa_I} {J : sa_J} {x1 : Int32} {x2 : Int32} {x3 : Int32}   (kt : ¬ I 4 0 = 0 → Sat (EC l D aI aL ad) M_X6_times P 17 [(0, .ref (ad 0)), (1, .int x1), (2, .int x2), (3, .int x3)] [] I J) (kf : I 4 0 = 0 → Sat (EC l D aI aL ad) M_X6_times P 10 [(0, .ref (ad 0))] [] I J) : Sat (EC l D aI aL ad) M_X6_times P 0 [(0, .ref (ad 0)), (1, .int x1), (2, .int x2), (3, .int x3)] [] I J := by
  refine s_aload_n 0 dX6_times_0 rfl ?_
  refine g_X6_23 dX6_times_1 rfl ?_
  refine g_X6_85 dX6_times_4 rfl ?_
  refine s_if_ne (tgt := 17) dX6_times_7 (by decide) (fun c => ?_) (fun c => ?_)
  · exact kt c
  · refine s_pick [0] [(0, .ref (ad 0))] rfl ?_; exact kf (by first | exact c | exact Classical.not_not.mp c)
theorem bX6_times_10 {l : Launch} {D : va_G} {aI aL : ClassId} {ad : Nat → Nat} {P : sa_P} {I : sa_I} {J : sa_J}    (k : Sat (EC l D aI aL ad) M_X6_times P 13 [] [.int (-3 : Int32), .ref (ad 0)] I J) : Sat (EC l D aI aL ad) M_X6_times P 10 [(0, .ref (ad 0))] [] I J := by
  refine s_aload_n 0 dX6_times_10 rfl ?_
  refine s_bipush (v := -3) dX6_times_11 rfl ?_
  refine s_pick [] [] rfl ?_; exact k
theorem bX6_times_16 {l : Launch} {D : va_G} {aI aL : ClassId} {ad : Nat → Nat} {P : sa_P} {I : sa_I} {J : sa_J} {s0 : Int32}   (k : P (some (.int s0)) I J) : Sat (EC l D aI aL ad) M_X6_times P 16 [] [.int s0] I J := by
  exact s_iret rfl dX6_times_16 k
theorem bX6_times_17 {l : Launch} {D : va_G} {aI aL : ClassId} {ad : Nat → Nat} {P : sa_P} {I : sa_I} {J : sa_J} {x1 : Int32} {x2 : Int32} {x3 : Int32}   (k : Sat (EC l D aI aL ad) M_X6_times P 19 [(0, .ref (ad 0)), (1, .int x1), (2, .int x2), (3, .int x3)] [.int x1, .ref (ad 0)] I J) : Sat (EC l D aI aL ad) M_X6_times P 17 [(0, .ref (ad 0)), (1, .int x1), (2, .int x2), (3, .int x3)] [] I J := by
  refine s_aload_n 0 dX6_times_17 rfl ?_
  refine s_iload_n 1 dX6_times_18 rfl ?_
  exact k
theorem bX6_times_22 {l : Launch} {D : va_G} {aI aL : ClassId} {ad : Nat → Nat} {P : sa_P} {I : sa_I} {J : sa_J} {x1 : Int32} {x2 : Int32} {x3 : Int32} {s0 : Int32}   (kt : s0 = 0 → Sat (EC l D aI aL ad) M_X6_times P 34 [(0, .ref (ad 0))] [] I J) (kf : ¬ s0 = 0 → Sat (EC l D aI aL ad) M_X6_times P 25 [(0, .ref (ad 0)), (1, .int x1), (2, .int x2), (3, .int x3)] [] I J) : Sat (EC l D aI aL ad) M_X6_times P 22 [(0, .ref (ad 0)), (1, .int x1), (2, .int x2), (3, .int x3)] [.int s0] I J := by
  refine s_if_eq (tgt := 34) dX6_times_22 (by decide) (fun c => ?_) (fun c => ?_)
  · refine s_pick [0] [(0, .ref (ad 0))] rfl ?_; exact kt c
  · exact kf c
theorem bX6_times_25 {l : Launch} {D : va_G} {aI aL : ClassId} {ad : Nat → Nat} {P : sa_P} {I : sa_I} {J : sa_J} {x1 : Int32} {x2 : Int32} {x3 : Int32}   (k : Sat (EC l D aI aL ad) M_X6_times P 28 [(0, .ref (ad 0)), (1, .int x1), (3, .int x3)] [.int x3, .int x2, .ref (ad 0)] I J) : Sat (EC l D aI aL ad) M_X6_times P 25 [(0, .ref (ad 0)), (1, .int x1), (2, .int x2), (3, .int x3)] [] I J := by
  refine s_aload_n 0 dX6_times_25 rfl ?_
  refine s_iload_n 2 dX6_times_26 rfl ?_
  refine s_iload_n 3 dX6_times_27 rfl ?_
  refine s_pick [0, 1, 3] [(0, .ref (ad 0)), (1, .int x1), (3, .int x3)] rfl ?_; exact k
theorem bX6_times_31 {l : Launch} {D : va_G} {aI aL : ClassId} {ad : Nat → Nat} {P : sa_P} {I : sa_I} {J : sa_J} {x1 : Int32} {x3 : Int32} {s0 : Int32}   (kt : ¬ s0 = 0 → Sat (EC l D aI aL ad) M_X6_times P 40 [(0, .ref (ad 0)), (1, .int x1), (3, .int x3)] [] I J) (kf : s0 = 0 → Sat (EC l D aI aL ad) M_X6_times P 34 [(0, .ref (ad 0))] [] I J) : Sat (EC l D aI aL ad) M_X6_times P 31 [(0, .ref (ad 0)), (1, .int x1), (3, .int x3)] [.int s0] I J := by
  refine s_if_ne (tgt := 40) dX6_times_31 (by decide) (fun c => ?_) (fun c => ?_)
  · exact kt c
  · refine s_pick [0] [(0, .ref (ad 0))] rfl ?_; exact kf (by first | exact c | exact Classical.not_not.mp c)
theorem bX6_times_34 {l : Launch} {D : va_G} {aI aL : ClassId} {ad : Nat → Nat} {P : sa_P} {I : sa_I} {J : sa_J}    (k : Sat (EC l D aI aL ad) M_X6_times P 36 [] [.int (-1 : Int32), .ref (ad 0)] I J) : Sat (EC l D aI aL ad) M_X6_times P 34 [(0, .ref (ad 0))] [] I J := by
  refine s_aload_n 0 dX6_times_34 rfl ?_
  refine s_iconst (v := -1) dX6_times_35 rfl ?_
  refine s_pick [] [] rfl ?_; exact k
theorem bX6_times_39 {l : Launch} {D : va_G} {aI aL : ClassId} {ad : Nat → Nat} {P : sa_P} {I : sa_I} {J : sa_J} {s0 : Int32}   (k : P (some (.int s0)) I J) : Sat (EC l D aI aL ad) M_X6_times P 39 [] [.int s0] I J := by
  exact s_iret rfl dX6_times_39 k
theorem bX6_times_40 {l : Launch} {D : va_G} {aI aL : ClassId} {ad : Nat → Nat} {P : sa_P} {I : sa_I} {J : sa_J} {x1 : Int32} {x3 : Int32}   (k : Sat (EC l D aI aL ad) M_X6_times P 63 [] [.int ((9 : Int32) * x1), .ref (ad 3), .int ((9 : Int32) * x3), .ref (ad 24), .ref (ad 13)] I J) : Sat (EC l D aI aL ad) M_X6_times P 40 [(0, .ref (ad 0)), (1, .int x1), (3, .int x3)] [] I J := by
  refine s_aload_n 0 dX6_times_40 rfl ?_
  refine g_X6_32 dX6_times_41 rfl ?_
  refine s_aload_n 0 dX6_times_44 rfl ?_
  refine g_X6_41 dX6_times_45 rfl ?_
  refine g_X6_218 dX6_times_48 rfl ?_
  refine s_bipush (v := 9) dX6_times_51 rfl ?_
  refine s_iload_n 2 dX6_times_53 rfl ?_
  refine s_imul dX6_times_54 ?_
  refine s_aload_n 0 dX6_times_55 rfl ?_
  refine g_X6_17 dX6_times_56 rfl ?_
  refine s_bipush (v := 9) dX6_times_59 rfl ?_
  refine s_iload_n 1 dX6_times_61 rfl ?_
  refine s_imul dX6_times_62 ?_
  refine s_pick [] [] rfl ?_; exact k
theorem bX6_times_66 {l : Launch} {D : va_G} {aI aL : ClassId} {ad : Nat → Nat} {P : sa_P} {I : sa_I} {J : sa_J} {s0 : Int32}   (k : P (some (.int s0)) I J) : Sat (EC l D aI aL ad) M_X6_times P 66 [] [.int s0] I J := by
  exact s_iret rfl dX6_times_66 k
/-! X6_classes -/
theorem dX6_classes_0 : decode cX6_classes 0 = .ok (.aload_n 0, 1) := by decide +kernel
theorem dX6_classes_1 : decode cX6_classes 1 = .ok (.getfield 23, 3) := by decide +kernel
theorem dX6_classes_4 : decode cX6_classes 4 = .ok (.getfield 85, 3) := by decide +kernel
theorem dX6_classes_7 : decode cX6_classes 7 = .ok (.ifCond .ne 10, 3) := by decide +kernel
theorem dX6_classes_10 : decode cX6_classes 10 = .ok (.aload_n 0, 1) := by decide +kernel
theorem dX6_classes_11 : decode cX6_classes 11 = .ok (.bipush (-3), 2) := by decide +kernel
theorem dX6_classes_13 : decode cX6_classes 13 = .ok (.invokevirtual 59, 3) := by decide +kernel
theorem dX6_classes_16 : decode cX6_classes 16 = .ok (.ireturn, 1) := by decide +kernel
theorem dX6_classes_17 : decode cX6_classes 17 = .ok (.aload_n 0, 1) := by decide +kernel
theorem dX6_classes_18 : decode cX6_classes 18 = .ok (.getfield 23, 3) := by decide +kernel
theorem dX6_classes_21 : decode cX6_classes 21 = .ok (.getfield 85, 3) := by decide +kernel
theorem dX6_classes_24 : decode cX6_classes 24 = .ok (.iconst 2, 1) := by decide +kernel
theorem dX6_classes_25 : decode cX6_classes 25 = .ok (.if_icmp .eq 10, 3) := by decide +kernel
theorem dX6_classes_28 : decode cX6_classes 28 = .ok (.aload_n 0, 1) := by decide +kernel
theorem dX6_classes_29 : decode cX6_classes 29 = .ok (.bipush (-2), 2) := by decide +kernel
theorem dX6_classes_31 : decode cX6_classes 31 = .ok (.invokevirtual 59, 3) := by decide +kernel
theorem dX6_classes_34 : decode cX6_classes 34 = .ok (.ireturn, 1) := by decide +kernel
theorem dX6_classes_35 : decode cX6_classes 35 = .ok (.aload_n 0, 1) := by decide +kernel
theorem dX6_classes_36 : decode cX6_classes 36 = .ok (.getfield 48, 3) := by decide +kernel
theorem dX6_classes_39 : decode cX6_classes 39 = .ok (.invokevirtual 226, 3) := by decide +kernel
theorem dX6_classes_42 : decode cX6_classes 42 = .ok (.aload_n 0, 1) := by decide +kernel
theorem dX6_classes_43 : decode cX6_classes 43 = .ok (.getfield 48, 3) := by decide +kernel
theorem dX6_classes_46 : decode cX6_classes 46 = .ok (.getfield 229, 3) := by decide +kernel
theorem dX6_classes_49 : decode cX6_classes 49 = .ok (.ireturn, 1) := by decide +kernel
theorem bX6_classes_0 {l : Launch} {D : va_G} {aI aL : ClassId} {ad : Nat → Nat} {P : sa_P} {I : sa_I} {J : sa_J}    (kt : ¬ I 4 0 = 0 → Sat (EC l D aI aL ad) M_X6_classes P 17 [(0, .ref (ad 0))] [] I J) (kf : I 4 0 = 0 → Sat (EC l D aI aL ad) M_X6_classes P 10 [(0, .ref (ad 0))] [] I J) : Sat (EC l D aI aL ad) M_X6_classes P 0 [(0, .ref (ad 0))] [] I J := by
  refine s_aload_n 0 dX6_classes_0 rfl ?_
  refine g_X6_23 dX6_classes_1 rfl ?_
  refine g_X6_85 dX6_classes_4 rfl ?_
  refine s_if_ne (tgt := 17) dX6_classes_7 (by decide) (fun c => ?_) (fun c => ?_)
  · exact kt c
  · exact kf (by first | exact c | exact Classical.not_not.mp c)
theorem bX6_classes_10 {l : Launch} {D : va_G} {aI aL : ClassId} {ad : Nat → Nat} {P : sa_P} {I : sa_I} {J : sa_J}    (k : Sat (EC l D aI aL ad) M_X6_classes P 13 [] [.int (-3 : Int32), .ref (ad 0)] I J) : Sat (EC l D aI aL ad) M_X6_classes P 10 [(0, .ref (ad 0))] [] I J := by
  refine s_aload_n 0 dX6_classes_10 rfl ?_
  refine s_bipush (v := -3) dX6_classes_11 rfl ?_
  refine s_pick [] [] rfl ?_; exact k
theorem bX6_classes_16 {l : Launch} {D : va_G} {aI aL : ClassId} {ad : Nat → Nat} {P : sa_P} {I : sa_I} {J : sa_J} {s0 : Int32}   (k : P (some (.int s0)) I J) : Sat (EC l D aI aL ad) M_X6_classes P 16 [] [.int s0] I J := by
  exact s_iret rfl dX6_classes_16 k
theorem bX6_classes_17 {l : Launch} {D : va_G} {aI aL : ClassId} {ad : Nat → Nat} {P : sa_P} {I : sa_I} {J : sa_J}    (kt : I 4 0 = (2 : Int32) → Sat (EC l D aI aL ad) M_X6_classes P 35 [(0, .ref (ad 0))] [] I J) (kf : ¬ I 4 0 = (2 : Int32) → Sat (EC l D aI aL ad) M_X6_classes P 28 [(0, .ref (ad 0))] [] I J) : Sat (EC l D aI aL ad) M_X6_classes P 17 [(0, .ref (ad 0))] [] I J := by
  refine s_aload_n 0 dX6_classes_17 rfl ?_
  refine g_X6_23 dX6_classes_18 rfl ?_
  refine g_X6_85 dX6_classes_21 rfl ?_
  refine s_iconst (v := 2) dX6_classes_24 rfl ?_
  refine s_icmp_eq (tgt := 35) dX6_classes_25 (by decide) (fun c => ?_) (fun c => ?_)
  · exact kt c
  · exact kf c
theorem bX6_classes_28 {l : Launch} {D : va_G} {aI aL : ClassId} {ad : Nat → Nat} {P : sa_P} {I : sa_I} {J : sa_J}    (k : Sat (EC l D aI aL ad) M_X6_classes P 31 [] [.int (-2 : Int32), .ref (ad 0)] I J) : Sat (EC l D aI aL ad) M_X6_classes P 28 [(0, .ref (ad 0))] [] I J := by
  refine s_aload_n 0 dX6_classes_28 rfl ?_
  refine s_bipush (v := -2) dX6_classes_29 rfl ?_
  refine s_pick [] [] rfl ?_; exact k
theorem bX6_classes_34 {l : Launch} {D : va_G} {aI aL : ClassId} {ad : Nat → Nat} {P : sa_P} {I : sa_I} {J : sa_J} {s0 : Int32}   (k : P (some (.int s0)) I J) : Sat (EC l D aI aL ad) M_X6_classes P 34 [] [.int s0] I J := by
  exact s_iret rfl dX6_classes_34 k
theorem bX6_classes_35 {l : Launch} {D : va_G} {aI aL : ClassId} {ad : Nat → Nat} {P : sa_P} {I : sa_I} {J : sa_J}    (k : Sat (EC l D aI aL ad) M_X6_classes P 39 [(0, .ref (ad 0))] [.ref (ad 27)] I J) : Sat (EC l D aI aL ad) M_X6_classes P 35 [(0, .ref (ad 0))] [] I J := by
  refine s_aload_n 0 dX6_classes_35 rfl ?_
  refine g_X6_48 dX6_classes_36 rfl ?_
  exact k
theorem bX6_classes_42 {l : Launch} {D : va_G} {aI aL : ClassId} {ad : Nat → Nat} {P : sa_P} {I : sa_I} {J : sa_J}    (k : P (some (.int (I 27 1))) I J) : Sat (EC l D aI aL ad) M_X6_classes P 42 [(0, .ref (ad 0))] [] I J := by
  refine s_aload_n 0 dX6_classes_42 rfl ?_
  refine g_X6_48 dX6_classes_43 rfl ?_
  refine g_X6_229 dX6_classes_46 rfl ?_
  exact s_iret rfl dX6_classes_49 k
/-! X6_form -/
theorem dX6_form_0 : decode cX6_form 0 = .ok (.aload_n 0, 1) := by decide +kernel
theorem dX6_form_1 : decode cX6_form 1 = .ok (.getfield 23, 3) := by decide +kernel
theorem dX6_form_4 : decode cX6_form 4 = .ok (.getfield 85, 3) := by decide +kernel
theorem dX6_form_7 : decode cX6_form 7 = .ok (.ifCond .ne 10, 3) := by decide +kernel
theorem dX6_form_10 : decode cX6_form 10 = .ok (.aload_n 0, 1) := by decide +kernel
theorem dX6_form_11 : decode cX6_form 11 = .ok (.bipush (-3), 2) := by decide +kernel
theorem dX6_form_13 : decode cX6_form 13 = .ok (.invokevirtual 116, 3) := by decide +kernel
theorem dX6_form_16 : decode cX6_form 16 = .ok (.ireturn, 1) := by decide +kernel
theorem dX6_form_17 : decode cX6_form 17 = .ok (.aload_n 0, 1) := by decide +kernel
theorem dX6_form_18 : decode cX6_form 18 = .ok (.getfield 23, 3) := by decide +kernel
theorem dX6_form_21 : decode cX6_form 21 = .ok (.getfield 85, 3) := by decide +kernel
theorem dX6_form_24 : decode cX6_form 24 = .ok (.iconst 2, 1) := by decide +kernel
theorem dX6_form_25 : decode cX6_form 25 = .ok (.if_icmp .ne 12, 3) := by decide +kernel
theorem dX6_form_28 : decode cX6_form 28 = .ok (.iload_n 2, 1) := by decide +kernel
theorem dX6_form_29 : decode cX6_form 29 = .ok (.ifCond .lt 8, 3) := by decide +kernel
theorem dX6_form_32 : decode cX6_form 32 = .ok (.iload_n 2, 1) := by decide +kernel
theorem dX6_form_33 : decode cX6_form 33 = .ok (.iconst 2, 1) := by decide +kernel
theorem dX6_form_34 : decode cX6_form 34 = .ok (.if_icmp .le 10, 3) := by decide +kernel
theorem dX6_form_37 : decode cX6_form 37 = .ok (.aload_n 0, 1) := by decide +kernel
theorem dX6_form_38 : decode cX6_form 38 = .ok (.bipush (-2), 2) := by decide +kernel
theorem dX6_form_40 : decode cX6_form 40 = .ok (.invokevirtual 116, 3) := by decide +kernel
theorem dX6_form_43 : decode cX6_form 43 = .ok (.ireturn, 1) := by decide +kernel
theorem dX6_form_44 : decode cX6_form 44 = .ok (.aload_n 0, 1) := by decide +kernel
theorem dX6_form_45 : decode cX6_form 45 = .ok (.getfield 48, 3) := by decide +kernel
theorem dX6_form_48 : decode cX6_form 48 = .ok (.invokevirtual 226, 3) := by decide +kernel
theorem dX6_form_51 : decode cX6_form 51 = .ok (.iload_n 1, 1) := by decide +kernel
theorem dX6_form_52 : decode cX6_form 52 = .ok (.ifCond .lt 14, 3) := by decide +kernel
theorem dX6_form_55 : decode cX6_form 55 = .ok (.iload_n 1, 1) := by decide +kernel
theorem dX6_form_56 : decode cX6_form 56 = .ok (.aload_n 0, 1) := by decide +kernel
theorem dX6_form_57 : decode cX6_form 57 = .ok (.getfield 48, 3) := by decide +kernel
theorem dX6_form_60 : decode cX6_form 60 = .ok (.getfield 232, 3) := by decide +kernel
theorem dX6_form_63 : decode cX6_form 63 = .ok (.if_icmp .lt 9, 3) := by decide +kernel
theorem dX6_form_66 : decode cX6_form 66 = .ok (.aload_n 0, 1) := by decide +kernel
theorem dX6_form_67 : decode cX6_form 67 = .ok (.iconst (-1), 1) := by decide +kernel
theorem dX6_form_68 : decode cX6_form 68 = .ok (.invokevirtual 116, 3) := by decide +kernel
theorem dX6_form_71 : decode cX6_form 71 = .ok (.ireturn, 1) := by decide +kernel
theorem dX6_form_72 : decode cX6_form 72 = .ok (.aload_n 0, 1) := by decide +kernel
theorem dX6_form_73 : decode cX6_form 73 = .ok (.getfield 48, 3) := by decide +kernel
theorem dX6_form_76 : decode cX6_form 76 = .ok (.getfield 233, 3) := by decide +kernel
theorem dX6_form_79 : decode cX6_form 79 = .ok (.iconst 3, 1) := by decide +kernel
theorem dX6_form_80 : decode cX6_form 80 = .ok (.iload_n 1, 1) := by decide +kernel
theorem dX6_form_81 : decode cX6_form 81 = .ok (.imul, 1) := by decide +kernel
theorem dX6_form_82 : decode cX6_form 82 = .ok (.iload_n 2, 1) := by decide +kernel
theorem dX6_form_83 : decode cX6_form 83 = .ok (.iadd, 1) := by decide +kernel
theorem dX6_form_84 : decode cX6_form 84 = .ok (.iaload, 1) := by decide +kernel
theorem dX6_form_85 : decode cX6_form 85 = .ok (.ireturn, 1) := by decide +kernel
theorem bX6_form_0 {l : Launch} {D : va_G} {aI aL : ClassId} {ad : Nat → Nat} {P : sa_P} {I : sa_I} {J : sa_J} {x1 : Int32} {x2 : Int32}   (kt : ¬ I 4 0 = 0 → Sat (EC l D aI aL ad) M_X6_form P 17 [(0, .ref (ad 0)), (1, .int x1), (2, .int x2)] [] I J) (kf : I 4 0 = 0 → Sat (EC l D aI aL ad) M_X6_form P 10 [(0, .ref (ad 0))] [] I J) : Sat (EC l D aI aL ad) M_X6_form P 0 [(0, .ref (ad 0)), (1, .int x1), (2, .int x2)] [] I J := by
  refine s_aload_n 0 dX6_form_0 rfl ?_
  refine g_X6_23 dX6_form_1 rfl ?_
  refine g_X6_85 dX6_form_4 rfl ?_
  refine s_if_ne (tgt := 17) dX6_form_7 (by decide) (fun c => ?_) (fun c => ?_)
  · exact kt c
  · refine s_pick [0] [(0, .ref (ad 0))] rfl ?_; exact kf (by first | exact c | exact Classical.not_not.mp c)
theorem bX6_form_10 {l : Launch} {D : va_G} {aI aL : ClassId} {ad : Nat → Nat} {P : sa_P} {I : sa_I} {J : sa_J}    (k : Sat (EC l D aI aL ad) M_X6_form P 13 [] [.int (-3 : Int32), .ref (ad 0)] I J) : Sat (EC l D aI aL ad) M_X6_form P 10 [(0, .ref (ad 0))] [] I J := by
  refine s_aload_n 0 dX6_form_10 rfl ?_
  refine s_bipush (v := -3) dX6_form_11 rfl ?_
  refine s_pick [] [] rfl ?_; exact k
theorem bX6_form_16 {l : Launch} {D : va_G} {aI aL : ClassId} {ad : Nat → Nat} {P : sa_P} {I : sa_I} {J : sa_J} {s0 : Int32}   (k : P (some (.int s0)) I J) : Sat (EC l D aI aL ad) M_X6_form P 16 [] [.int s0] I J := by
  exact s_iret rfl dX6_form_16 k
theorem bX6_form_17 {l : Launch} {D : va_G} {aI aL : ClassId} {ad : Nat → Nat} {P : sa_P} {I : sa_I} {J : sa_J} {x1 : Int32} {x2 : Int32}   (kt : ¬ I 4 0 = (2 : Int32) → Sat (EC l D aI aL ad) M_X6_form P 37 [(0, .ref (ad 0))] [] I J) (kf : I 4 0 = (2 : Int32) → Sat (EC l D aI aL ad) M_X6_form P 28 [(0, .ref (ad 0)), (1, .int x1), (2, .int x2)] [] I J) : Sat (EC l D aI aL ad) M_X6_form P 17 [(0, .ref (ad 0)), (1, .int x1), (2, .int x2)] [] I J := by
  refine s_aload_n 0 dX6_form_17 rfl ?_
  refine g_X6_23 dX6_form_18 rfl ?_
  refine g_X6_85 dX6_form_21 rfl ?_
  refine s_iconst (v := 2) dX6_form_24 rfl ?_
  refine s_icmp_ne (tgt := 37) dX6_form_25 (by decide) (fun c => ?_) (fun c => ?_)
  · refine s_pick [0] [(0, .ref (ad 0))] rfl ?_; exact kt c
  · exact kf (by first | exact c | exact Classical.not_not.mp c)
theorem bX6_form_28 {l : Launch} {D : va_G} {aI aL : ClassId} {ad : Nat → Nat} {P : sa_P} {I : sa_I} {J : sa_J} {x1 : Int32} {x2 : Int32}   (kt : x2 < 0 → Sat (EC l D aI aL ad) M_X6_form P 37 [(0, .ref (ad 0))] [] I J) (kf : ¬ x2 < 0 → Sat (EC l D aI aL ad) M_X6_form P 32 [(0, .ref (ad 0)), (1, .int x1), (2, .int x2)] [] I J) : Sat (EC l D aI aL ad) M_X6_form P 28 [(0, .ref (ad 0)), (1, .int x1), (2, .int x2)] [] I J := by
  refine s_iload_n 2 dX6_form_28 rfl ?_
  refine s_if_lt (tgt := 37) dX6_form_29 (by decide) (fun c => ?_) (fun c => ?_)
  · refine s_pick [0] [(0, .ref (ad 0))] rfl ?_; exact kt c
  · exact kf c
theorem bX6_form_32 {l : Launch} {D : va_G} {aI aL : ClassId} {ad : Nat → Nat} {P : sa_P} {I : sa_I} {J : sa_J} {x1 : Int32} {x2 : Int32}   (kt : x2 ≤ (2 : Int32) → Sat (EC l D aI aL ad) M_X6_form P 44 [(0, .ref (ad 0)), (1, .int x1), (2, .int x2)] [] I J) (kf : ¬ x2 ≤ (2 : Int32) → Sat (EC l D aI aL ad) M_X6_form P 37 [(0, .ref (ad 0))] [] I J) : Sat (EC l D aI aL ad) M_X6_form P 32 [(0, .ref (ad 0)), (1, .int x1), (2, .int x2)] [] I J := by
  refine s_iload_n 2 dX6_form_32 rfl ?_
  refine s_iconst (v := 2) dX6_form_33 rfl ?_
  refine s_icmp_le (tgt := 44) dX6_form_34 (by decide) (fun c => ?_) (fun c => ?_)
  · exact kt c
  · refine s_pick [0] [(0, .ref (ad 0))] rfl ?_; exact kf c
theorem bX6_form_37 {l : Launch} {D : va_G} {aI aL : ClassId} {ad : Nat → Nat} {P : sa_P} {I : sa_I} {J : sa_J}    (k : Sat (EC l D aI aL ad) M_X6_form P 40 [] [.int (-2 : Int32), .ref (ad 0)] I J) : Sat (EC l D aI aL ad) M_X6_form P 37 [(0, .ref (ad 0))] [] I J := by
  refine s_aload_n 0 dX6_form_37 rfl ?_
  refine s_bipush (v := -2) dX6_form_38 rfl ?_
  refine s_pick [] [] rfl ?_; exact k
theorem bX6_form_43 {l : Launch} {D : va_G} {aI aL : ClassId} {ad : Nat → Nat} {P : sa_P} {I : sa_I} {J : sa_J} {s0 : Int32}   (k : P (some (.int s0)) I J) : Sat (EC l D aI aL ad) M_X6_form P 43 [] [.int s0] I J := by
  exact s_iret rfl dX6_form_43 k
theorem bX6_form_44 {l : Launch} {D : va_G} {aI aL : ClassId} {ad : Nat → Nat} {P : sa_P} {I : sa_I} {J : sa_J} {x1 : Int32} {x2 : Int32}   (k : Sat (EC l D aI aL ad) M_X6_form P 48 [(0, .ref (ad 0)), (1, .int x1), (2, .int x2)] [.ref (ad 27)] I J) : Sat (EC l D aI aL ad) M_X6_form P 44 [(0, .ref (ad 0)), (1, .int x1), (2, .int x2)] [] I J := by
  refine s_aload_n 0 dX6_form_44 rfl ?_
  refine g_X6_48 dX6_form_45 rfl ?_
  exact k
theorem bX6_form_51 {l : Launch} {D : va_G} {aI aL : ClassId} {ad : Nat → Nat} {P : sa_P} {I : sa_I} {J : sa_J} {x1 : Int32} {x2 : Int32}   (kt : x1 < 0 → Sat (EC l D aI aL ad) M_X6_form P 66 [(0, .ref (ad 0))] [] I J) (kf : ¬ x1 < 0 → Sat (EC l D aI aL ad) M_X6_form P 55 [(0, .ref (ad 0)), (1, .int x1), (2, .int x2)] [] I J) : Sat (EC l D aI aL ad) M_X6_form P 51 [(0, .ref (ad 0)), (1, .int x1), (2, .int x2)] [] I J := by
  refine s_iload_n 1 dX6_form_51 rfl ?_
  refine s_if_lt (tgt := 66) dX6_form_52 (by decide) (fun c => ?_) (fun c => ?_)
  · refine s_pick [0] [(0, .ref (ad 0))] rfl ?_; exact kt c
  · exact kf c
theorem bX6_form_55 {l : Launch} {D : va_G} {aI aL : ClassId} {ad : Nat → Nat} {P : sa_P} {I : sa_I} {J : sa_J} {x1 : Int32} {x2 : Int32}   (kt : x1 < I 27 0 → Sat (EC l D aI aL ad) M_X6_form P 72 [(0, .ref (ad 0)), (1, .int x1), (2, .int x2)] [] I J) (kf : ¬ x1 < I 27 0 → Sat (EC l D aI aL ad) M_X6_form P 66 [(0, .ref (ad 0))] [] I J) : Sat (EC l D aI aL ad) M_X6_form P 55 [(0, .ref (ad 0)), (1, .int x1), (2, .int x2)] [] I J := by
  refine s_iload_n 1 dX6_form_55 rfl ?_
  refine s_aload_n 0 dX6_form_56 rfl ?_
  refine g_X6_48 dX6_form_57 rfl ?_
  refine g_X6_232 dX6_form_60 rfl ?_
  refine s_icmp_lt (tgt := 72) dX6_form_63 (by decide) (fun c => ?_) (fun c => ?_)
  · exact kt c
  · refine s_pick [0] [(0, .ref (ad 0))] rfl ?_; exact kf c
theorem bX6_form_66 {l : Launch} {D : va_G} {aI aL : ClassId} {ad : Nat → Nat} {P : sa_P} {I : sa_I} {J : sa_J}    (k : Sat (EC l D aI aL ad) M_X6_form P 68 [] [.int (-1 : Int32), .ref (ad 0)] I J) : Sat (EC l D aI aL ad) M_X6_form P 66 [(0, .ref (ad 0))] [] I J := by
  refine s_aload_n 0 dX6_form_66 rfl ?_
  refine s_iconst (v := -1) dX6_form_67 rfl ?_
  refine s_pick [] [] rfl ?_; exact k
theorem bX6_form_71 {l : Launch} {D : va_G} {aI aL : ClassId} {ad : Nat → Nat} {P : sa_P} {I : sa_I} {J : sa_J} {s0 : Int32}   (k : P (some (.int s0)) I J) : Sat (EC l D aI aL ad) M_X6_form P 71 [] [.int s0] I J := by
  exact s_iret rfl dX6_form_71 k
theorem bX6_form_72 {l : Launch} {D : va_G} {aI aL : ClassId} {ad : Nat → Nat} {P : sa_P} {I : sa_I} {J : sa_J} {x1 : Int32} {x2 : Int32} {j83 : Nat} (e83 : ((3 : Int32) * x1) + x2 = nI j83) (h84 : j83 < 480)  (k : P (some (.int (I 28 j83))) I J) : Sat (EC l D aI aL ad) M_X6_form P 72 [(0, .ref (ad 0)), (1, .int x1), (2, .int x2)] [] I J := by
  refine s_aload_n 0 dX6_form_72 rfl ?_
  refine g_X6_48 dX6_form_73 rfl ?_
  refine g_X6_233 dX6_form_76 rfl ?_
  refine s_iconst (v := 3) dX6_form_79 rfl ?_
  refine s_iload_n 1 dX6_form_80 rfl ?_
  refine s_imul dX6_form_81 ?_
  refine s_iload_n 2 dX6_form_82 rfl ?_
  refine s_iadd dX6_form_83 ?_
  refine s_eqi e83 ?_
  refine s_ialoadN aI_C28 h84 (by decide) dX6_form_84 ?_
  exact s_iret rfl dX6_form_85 k
/-! X6_classOf -/
theorem dX6_classOf_0 : decode cX6_classOf 0 = .ok (.aload_n 0, 1) := by decide +kernel
theorem dX6_classOf_1 : decode cX6_classOf 1 = .ok (.getfield 23, 3) := by decide +kernel
theorem dX6_classOf_4 : decode cX6_classOf 4 = .ok (.getfield 85, 3) := by decide +kernel
theorem dX6_classOf_7 : decode cX6_classOf 7 = .ok (.ifCond .ne 10, 3) := by decide +kernel
theorem dX6_classOf_10 : decode cX6_classOf 10 = .ok (.aload_n 0, 1) := by decide +kernel
theorem dX6_classOf_11 : decode cX6_classOf 11 = .ok (.bipush (-3), 2) := by decide +kernel
theorem dX6_classOf_13 : decode cX6_classOf 13 = .ok (.invokevirtual 59, 3) := by decide +kernel
theorem dX6_classOf_16 : decode cX6_classOf 16 = .ok (.ireturn, 1) := by decide +kernel
theorem dX6_classOf_17 : decode cX6_classOf 17 = .ok (.aload_n 0, 1) := by decide +kernel
theorem dX6_classOf_18 : decode cX6_classOf 18 = .ok (.getfield 23, 3) := by decide +kernel
theorem dX6_classOf_21 : decode cX6_classOf 21 = .ok (.getfield 85, 3) := by decide +kernel
theorem dX6_classOf_24 : decode cX6_classOf 24 = .ok (.iconst 2, 1) := by decide +kernel
theorem dX6_classOf_25 : decode cX6_classOf 25 = .ok (.if_icmp .eq 10, 3) := by decide +kernel
theorem dX6_classOf_28 : decode cX6_classOf 28 = .ok (.aload_n 0, 1) := by decide +kernel
theorem dX6_classOf_29 : decode cX6_classOf 29 = .ok (.bipush (-2), 2) := by decide +kernel
theorem dX6_classOf_31 : decode cX6_classOf 31 = .ok (.invokevirtual 59, 3) := by decide +kernel
theorem dX6_classOf_34 : decode cX6_classOf 34 = .ok (.ireturn, 1) := by decide +kernel
theorem dX6_classOf_35 : decode cX6_classOf 35 = .ok (.aload_n 0, 1) := by decide +kernel
theorem dX6_classOf_36 : decode cX6_classOf 36 = .ok (.iload_n 1, 1) := by decide +kernel
theorem dX6_classOf_37 : decode cX6_classOf 37 = .ok (.invokevirtual 172, 3) := by decide +kernel
theorem dX6_classOf_40 : decode cX6_classOf 40 = .ok (.ifCond .ne 9, 3) := by decide +kernel
theorem dX6_classOf_43 : decode cX6_classOf 43 = .ok (.aload_n 0, 1) := by decide +kernel
theorem dX6_classOf_44 : decode cX6_classOf 44 = .ok (.iconst (-1), 1) := by decide +kernel
theorem dX6_classOf_45 : decode cX6_classOf 45 = .ok (.invokevirtual 59, 3) := by decide +kernel
theorem dX6_classOf_48 : decode cX6_classOf 48 = .ok (.ireturn, 1) := by decide +kernel
theorem dX6_classOf_49 : decode cX6_classOf 49 = .ok (.aload_n 0, 1) := by decide +kernel
theorem dX6_classOf_50 : decode cX6_classOf 50 = .ok (.getfield 48, 3) := by decide +kernel
theorem dX6_classOf_53 : decode cX6_classOf 53 = .ok (.invokevirtual 226, 3) := by decide +kernel
theorem dX6_classOf_56 : decode cX6_classOf 56 = .ok (.aload_n 0, 1) := by decide +kernel
theorem dX6_classOf_57 : decode cX6_classOf 57 = .ok (.getfield 48, 3) := by decide +kernel
theorem dX6_classOf_60 : decode cX6_classOf 60 = .ok (.aload_n 0, 1) := by decide +kernel
theorem dX6_classOf_61 : decode cX6_classOf 61 = .ok (.getfield 17, 3) := by decide +kernel
theorem dX6_classOf_64 : decode cX6_classOf 64 = .ok (.bipush 9, 2) := by decide +kernel
theorem dX6_classOf_66 : decode cX6_classOf 66 = .ok (.iload_n 1, 1) := by decide +kernel
theorem dX6_classOf_67 : decode cX6_classOf 67 = .ok (.imul, 1) := by decide +kernel
theorem dX6_classOf_68 : decode cX6_classOf 68 = .ok (.invokevirtual 236, 3) := by decide +kernel
theorem dX6_classOf_71 : decode cX6_classOf 71 = .ok (.ireturn, 1) := by decide +kernel
theorem bX6_classOf_0 {l : Launch} {D : va_G} {aI aL : ClassId} {ad : Nat → Nat} {P : sa_P} {I : sa_I} {J : sa_J} {x1 : Int32}   (kt : ¬ I 4 0 = 0 → Sat (EC l D aI aL ad) M_X6_classOf P 17 [(0, .ref (ad 0)), (1, .int x1)] [] I J) (kf : I 4 0 = 0 → Sat (EC l D aI aL ad) M_X6_classOf P 10 [(0, .ref (ad 0))] [] I J) : Sat (EC l D aI aL ad) M_X6_classOf P 0 [(0, .ref (ad 0)), (1, .int x1)] [] I J := by
  refine s_aload_n 0 dX6_classOf_0 rfl ?_
  refine g_X6_23 dX6_classOf_1 rfl ?_
  refine g_X6_85 dX6_classOf_4 rfl ?_
  refine s_if_ne (tgt := 17) dX6_classOf_7 (by decide) (fun c => ?_) (fun c => ?_)
  · exact kt c
  · refine s_pick [0] [(0, .ref (ad 0))] rfl ?_; exact kf (by first | exact c | exact Classical.not_not.mp c)
theorem bX6_classOf_10 {l : Launch} {D : va_G} {aI aL : ClassId} {ad : Nat → Nat} {P : sa_P} {I : sa_I} {J : sa_J}    (k : Sat (EC l D aI aL ad) M_X6_classOf P 13 [] [.int (-3 : Int32), .ref (ad 0)] I J) : Sat (EC l D aI aL ad) M_X6_classOf P 10 [(0, .ref (ad 0))] [] I J := by
  refine s_aload_n 0 dX6_classOf_10 rfl ?_
  refine s_bipush (v := -3) dX6_classOf_11 rfl ?_
  refine s_pick [] [] rfl ?_; exact k
theorem bX6_classOf_16 {l : Launch} {D : va_G} {aI aL : ClassId} {ad : Nat → Nat} {P : sa_P} {I : sa_I} {J : sa_J} {s0 : Int32}   (k : P (some (.int s0)) I J) : Sat (EC l D aI aL ad) M_X6_classOf P 16 [] [.int s0] I J := by
  exact s_iret rfl dX6_classOf_16 k
theorem bX6_classOf_17 {l : Launch} {D : va_G} {aI aL : ClassId} {ad : Nat → Nat} {P : sa_P} {I : sa_I} {J : sa_J} {x1 : Int32}   (kt : I 4 0 = (2 : Int32) → Sat (EC l D aI aL ad) M_X6_classOf P 35 [(0, .ref (ad 0)), (1, .int x1)] [] I J) (kf : ¬ I 4 0 = (2 : Int32) → Sat (EC l D aI aL ad) M_X6_classOf P 28 [(0, .ref (ad 0))] [] I J) : Sat (EC l D aI aL ad) M_X6_classOf P 17 [(0, .ref (ad 0)), (1, .int x1)] [] I J := by
  refine s_aload_n 0 dX6_classOf_17 rfl ?_
  refine g_X6_23 dX6_classOf_18 rfl ?_
  refine g_X6_85 dX6_classOf_21 rfl ?_
  refine s_iconst (v := 2) dX6_classOf_24 rfl ?_
  refine s_icmp_eq (tgt := 35) dX6_classOf_25 (by decide) (fun c => ?_) (fun c => ?_)
  · exact kt c
  · refine s_pick [0] [(0, .ref (ad 0))] rfl ?_; exact kf c
theorem bX6_classOf_28 {l : Launch} {D : va_G} {aI aL : ClassId} {ad : Nat → Nat} {P : sa_P} {I : sa_I} {J : sa_J}    (k : Sat (EC l D aI aL ad) M_X6_classOf P 31 [] [.int (-2 : Int32), .ref (ad 0)] I J) : Sat (EC l D aI aL ad) M_X6_classOf P 28 [(0, .ref (ad 0))] [] I J := by
  refine s_aload_n 0 dX6_classOf_28 rfl ?_
  refine s_bipush (v := -2) dX6_classOf_29 rfl ?_
  refine s_pick [] [] rfl ?_; exact k
theorem bX6_classOf_34 {l : Launch} {D : va_G} {aI aL : ClassId} {ad : Nat → Nat} {P : sa_P} {I : sa_I} {J : sa_J} {s0 : Int32}   (k : P (some (.int s0)) I J) : Sat (EC l D aI aL ad) M_X6_classOf P 34 [] [.int s0] I J := by
  exact s_iret rfl dX6_classOf_34 k
theorem bX6_classOf_35 {l : Launch} {D : va_G} {aI aL : ClassId} {ad : Nat → Nat} {P : sa_P} {I : sa_I} {J : sa_J} {x1 : Int32}   (k : Sat (EC l D aI aL ad) M_X6_classOf P 37 [(0, .ref (ad 0)), (1, .int x1)] [.int x1, .ref (ad 0)] I J) : Sat (EC l D aI aL ad) M_X6_classOf P 35 [(0, .ref (ad 0)), (1, .int x1)] [] I J := by
  refine s_aload_n 0 dX6_classOf_35 rfl ?_
  refine s_iload_n 1 dX6_classOf_36 rfl ?_
  exact k
theorem bX6_classOf_40 {l : Launch} {D : va_G} {aI aL : ClassId} {ad : Nat → Nat} {P : sa_P} {I : sa_I} {J : sa_J} {x1 : Int32} {s0 : Int32}   (kt : ¬ s0 = 0 → Sat (EC l D aI aL ad) M_X6_classOf P 49 [(0, .ref (ad 0)), (1, .int x1)] [] I J) (kf : s0 = 0 → Sat (EC l D aI aL ad) M_X6_classOf P 43 [(0, .ref (ad 0))] [] I J) : Sat (EC l D aI aL ad) M_X6_classOf P 40 [(0, .ref (ad 0)), (1, .int x1)] [.int s0] I J := by
  refine s_if_ne (tgt := 49) dX6_classOf_40 (by decide) (fun c => ?_) (fun c => ?_)
  · exact kt c
  · refine s_pick [0] [(0, .ref (ad 0))] rfl ?_; exact kf (by first | exact c | exact Classical.not_not.mp c)
theorem bX6_classOf_43 {l : Launch} {D : va_G} {aI aL : ClassId} {ad : Nat → Nat} {P : sa_P} {I : sa_I} {J : sa_J}    (k : Sat (EC l D aI aL ad) M_X6_classOf P 45 [] [.int (-1 : Int32), .ref (ad 0)] I J) : Sat (EC l D aI aL ad) M_X6_classOf P 43 [(0, .ref (ad 0))] [] I J := by
  refine s_aload_n 0 dX6_classOf_43 rfl ?_
  refine s_iconst (v := -1) dX6_classOf_44 rfl ?_
  refine s_pick [] [] rfl ?_; exact k
theorem bX6_classOf_48 {l : Launch} {D : va_G} {aI aL : ClassId} {ad : Nat → Nat} {P : sa_P} {I : sa_I} {J : sa_J} {s0 : Int32}   (k : P (some (.int s0)) I J) : Sat (EC l D aI aL ad) M_X6_classOf P 48 [] [.int s0] I J := by
  exact s_iret rfl dX6_classOf_48 k
theorem bX6_classOf_49 {l : Launch} {D : va_G} {aI aL : ClassId} {ad : Nat → Nat} {P : sa_P} {I : sa_I} {J : sa_J} {x1 : Int32}   (k : Sat (EC l D aI aL ad) M_X6_classOf P 53 [(0, .ref (ad 0)), (1, .int x1)] [.ref (ad 27)] I J) : Sat (EC l D aI aL ad) M_X6_classOf P 49 [(0, .ref (ad 0)), (1, .int x1)] [] I J := by
  refine s_aload_n 0 dX6_classOf_49 rfl ?_
  refine g_X6_48 dX6_classOf_50 rfl ?_
  exact k
theorem bX6_classOf_56 {l : Launch} {D : va_G} {aI aL : ClassId} {ad : Nat → Nat} {P : sa_P} {I : sa_I} {J : sa_J} {x1 : Int32}   (k : Sat (EC l D aI aL ad) M_X6_classOf P 68 [] [.int ((9 : Int32) * x1), .ref (ad 3), .ref (ad 27)] I J) : Sat (EC l D aI aL ad) M_X6_classOf P 56 [(0, .ref (ad 0)), (1, .int x1)] [] I J := by
  refine s_aload_n 0 dX6_classOf_56 rfl ?_
  refine g_X6_48 dX6_classOf_57 rfl ?_
  refine s_aload_n 0 dX6_classOf_60 rfl ?_
  refine g_X6_17 dX6_classOf_61 rfl ?_
  refine s_bipush (v := 9) dX6_classOf_64 rfl ?_
  refine s_iload_n 1 dX6_classOf_66 rfl ?_
  refine s_imul dX6_classOf_67 ?_
  refine s_pick [] [] rfl ?_; exact k
theorem bX6_classOf_71 {l : Launch} {D : va_G} {aI aL : ClassId} {ad : Nat → Nat} {P : sa_P} {I : sa_I} {J : sa_J} {s0 : Int32}   (k : P (some (.int s0)) I J) : Sat (EC l D aI aL ad) M_X6_classOf P 71 [] [.int s0] I J := by
  exact s_iret rfl dX6_classOf_71 k
/-! X6_order -/
theorem dX6_order_0 : decode cX6_order 0 = .ok (.aload_n 0, 1) := by decide +kernel
theorem dX6_order_1 : decode cX6_order 1 = .ok (.getfield 23, 3) := by decide +kernel
theorem dX6_order_4 : decode cX6_order 4 = .ok (.getfield 85, 3) := by decide +kernel
theorem dX6_order_7 : decode cX6_order 7 = .ok (.ifCond .ne 10, 3) := by decide +kernel
theorem dX6_order_10 : decode cX6_order 10 = .ok (.aload_n 0, 1) := by decide +kernel
theorem dX6_order_11 : decode cX6_order 11 = .ok (.bipush (-3), 2) := by decide +kernel
theorem dX6_order_13 : decode cX6_order 13 = .ok (.invokevirtual 59, 3) := by decide +kernel
theorem dX6_order_16 : decode cX6_order 16 = .ok (.ireturn, 1) := by decide +kernel
theorem dX6_order_17 : decode cX6_order 17 = .ok (.aload_n 0, 1) := by decide +kernel
theorem dX6_order_18 : decode cX6_order 18 = .ok (.getfield 23, 3) := by decide +kernel
theorem dX6_order_21 : decode cX6_order 21 = .ok (.getfield 85, 3) := by decide +kernel
theorem dX6_order_24 : decode cX6_order 24 = .ok (.iconst 2, 1) := by decide +kernel
theorem dX6_order_25 : decode cX6_order 25 = .ok (.if_icmp .eq 10, 3) := by decide +kernel
theorem dX6_order_28 : decode cX6_order 28 = .ok (.aload_n 0, 1) := by decide +kernel
theorem dX6_order_29 : decode cX6_order 29 = .ok (.bipush (-2), 2) := by decide +kernel
theorem dX6_order_31 : decode cX6_order 31 = .ok (.invokevirtual 59, 3) := by decide +kernel
theorem dX6_order_34 : decode cX6_order 34 = .ok (.ireturn, 1) := by decide +kernel
theorem dX6_order_35 : decode cX6_order 35 = .ok (.aload_n 0, 1) := by decide +kernel
theorem dX6_order_36 : decode cX6_order 36 = .ok (.iload_n 1, 1) := by decide +kernel
theorem dX6_order_37 : decode cX6_order 37 = .ok (.invokevirtual 172, 3) := by decide +kernel
theorem dX6_order_40 : decode cX6_order 40 = .ok (.ifCond .ne 9, 3) := by decide +kernel
theorem dX6_order_43 : decode cX6_order 43 = .ok (.aload_n 0, 1) := by decide +kernel
theorem dX6_order_44 : decode cX6_order 44 = .ok (.iconst (-1), 1) := by decide +kernel
theorem dX6_order_45 : decode cX6_order 45 = .ok (.invokevirtual 59, 3) := by decide +kernel
theorem dX6_order_48 : decode cX6_order 48 = .ok (.ireturn, 1) := by decide +kernel
theorem dX6_order_49 : decode cX6_order 49 = .ok (.aload_n 0, 1) := by decide +kernel
theorem dX6_order_50 : decode cX6_order 50 = .ok (.getfield 48, 3) := by decide +kernel
theorem dX6_order_53 : decode cX6_order 53 = .ok (.invokevirtual 226, 3) := by decide +kernel
theorem dX6_order_56 : decode cX6_order 56 = .ok (.aload_n 0, 1) := by decide +kernel
theorem dX6_order_57 : decode cX6_order 57 = .ok (.getfield 48, 3) := by decide +kernel
theorem dX6_order_60 : decode cX6_order 60 = .ok (.aload_n 0, 1) := by decide +kernel
theorem dX6_order_61 : decode cX6_order 61 = .ok (.getfield 17, 3) := by decide +kernel
theorem dX6_order_64 : decode cX6_order 64 = .ok (.bipush 9, 2) := by decide +kernel
theorem dX6_order_66 : decode cX6_order 66 = .ok (.iload_n 1, 1) := by decide +kernel
theorem dX6_order_67 : decode cX6_order 67 = .ok (.imul, 1) := by decide +kernel
theorem dX6_order_68 : decode cX6_order 68 = .ok (.invokevirtual 240, 3) := by decide +kernel
theorem dX6_order_71 : decode cX6_order 71 = .ok (.ireturn, 1) := by decide +kernel
theorem bX6_order_0 {l : Launch} {D : va_G} {aI aL : ClassId} {ad : Nat → Nat} {P : sa_P} {I : sa_I} {J : sa_J} {x1 : Int32}   (kt : ¬ I 4 0 = 0 → Sat (EC l D aI aL ad) M_X6_order P 17 [(0, .ref (ad 0)), (1, .int x1)] [] I J) (kf : I 4 0 = 0 → Sat (EC l D aI aL ad) M_X6_order P 10 [(0, .ref (ad 0))] [] I J) : Sat (EC l D aI aL ad) M_X6_order P 0 [(0, .ref (ad 0)), (1, .int x1)] [] I J := by
  refine s_aload_n 0 dX6_order_0 rfl ?_
  refine g_X6_23 dX6_order_1 rfl ?_
  refine g_X6_85 dX6_order_4 rfl ?_
  refine s_if_ne (tgt := 17) dX6_order_7 (by decide) (fun c => ?_) (fun c => ?_)
  · exact kt c
  · refine s_pick [0] [(0, .ref (ad 0))] rfl ?_; exact kf (by first | exact c | exact Classical.not_not.mp c)
theorem bX6_order_10 {l : Launch} {D : va_G} {aI aL : ClassId} {ad : Nat → Nat} {P : sa_P} {I : sa_I} {J : sa_J}    (k : Sat (EC l D aI aL ad) M_X6_order P 13 [] [.int (-3 : Int32), .ref (ad 0)] I J) : Sat (EC l D aI aL ad) M_X6_order P 10 [(0, .ref (ad 0))] [] I J := by
  refine s_aload_n 0 dX6_order_10 rfl ?_
  refine s_bipush (v := -3) dX6_order_11 rfl ?_
  refine s_pick [] [] rfl ?_; exact k
theorem bX6_order_16 {l : Launch} {D : va_G} {aI aL : ClassId} {ad : Nat → Nat} {P : sa_P} {I : sa_I} {J : sa_J} {s0 : Int32}   (k : P (some (.int s0)) I J) : Sat (EC l D aI aL ad) M_X6_order P 16 [] [.int s0] I J := by
  exact s_iret rfl dX6_order_16 k
theorem bX6_order_17 {l : Launch} {D : va_G} {aI aL : ClassId} {ad : Nat → Nat} {P : sa_P} {I : sa_I} {J : sa_J} {x1 : Int32}   (kt : I 4 0 = (2 : Int32) → Sat (EC l D aI aL ad) M_X6_order P 35 [(0, .ref (ad 0)), (1, .int x1)] [] I J) (kf : ¬ I 4 0 = (2 : Int32) → Sat (EC l D aI aL ad) M_X6_order P 28 [(0, .ref (ad 0))] [] I J) : Sat (EC l D aI aL ad) M_X6_order P 17 [(0, .ref (ad 0)), (1, .int x1)] [] I J := by
  refine s_aload_n 0 dX6_order_17 rfl ?_
  refine g_X6_23 dX6_order_18 rfl ?_
  refine g_X6_85 dX6_order_21 rfl ?_
  refine s_iconst (v := 2) dX6_order_24 rfl ?_
  refine s_icmp_eq (tgt := 35) dX6_order_25 (by decide) (fun c => ?_) (fun c => ?_)
  · exact kt c
  · refine s_pick [0] [(0, .ref (ad 0))] rfl ?_; exact kf c
theorem bX6_order_28 {l : Launch} {D : va_G} {aI aL : ClassId} {ad : Nat → Nat} {P : sa_P} {I : sa_I} {J : sa_J}    (k : Sat (EC l D aI aL ad) M_X6_order P 31 [] [.int (-2 : Int32), .ref (ad 0)] I J) : Sat (EC l D aI aL ad) M_X6_order P 28 [(0, .ref (ad 0))] [] I J := by
  refine s_aload_n 0 dX6_order_28 rfl ?_
  refine s_bipush (v := -2) dX6_order_29 rfl ?_
  refine s_pick [] [] rfl ?_; exact k
theorem bX6_order_34 {l : Launch} {D : va_G} {aI aL : ClassId} {ad : Nat → Nat} {P : sa_P} {I : sa_I} {J : sa_J} {s0 : Int32}   (k : P (some (.int s0)) I J) : Sat (EC l D aI aL ad) M_X6_order P 34 [] [.int s0] I J := by
  exact s_iret rfl dX6_order_34 k
theorem bX6_order_35 {l : Launch} {D : va_G} {aI aL : ClassId} {ad : Nat → Nat} {P : sa_P} {I : sa_I} {J : sa_J} {x1 : Int32}   (k : Sat (EC l D aI aL ad) M_X6_order P 37 [(0, .ref (ad 0)), (1, .int x1)] [.int x1, .ref (ad 0)] I J) : Sat (EC l D aI aL ad) M_X6_order P 35 [(0, .ref (ad 0)), (1, .int x1)] [] I J := by
  refine s_aload_n 0 dX6_order_35 rfl ?_
  refine s_iload_n 1 dX6_order_36 rfl ?_
  exact k
theorem bX6_order_40 {l : Launch} {D : va_G} {aI aL : ClassId} {ad : Nat → Nat} {P : sa_P} {I : sa_I} {J : sa_J} {x1 : Int32} {s0 : Int32}   (kt : ¬ s0 = 0 → Sat (EC l D aI aL ad) M_X6_order P 49 [(0, .ref (ad 0)), (1, .int x1)] [] I J) (kf : s0 = 0 → Sat (EC l D aI aL ad) M_X6_order P 43 [(0, .ref (ad 0))] [] I J) : Sat (EC l D aI aL ad) M_X6_order P 40 [(0, .ref (ad 0)), (1, .int x1)] [.int s0] I J := by
  refine s_if_ne (tgt := 49) dX6_order_40 (by decide) (fun c => ?_) (fun c => ?_)
  · exact kt c
  · refine s_pick [0] [(0, .ref (ad 0))] rfl ?_; exact kf (by first | exact c | exact Classical.not_not.mp c)
theorem bX6_order_43 {l : Launch} {D : va_G} {aI aL : ClassId} {ad : Nat → Nat} {P : sa_P} {I : sa_I} {J : sa_J}    (k : Sat (EC l D aI aL ad) M_X6_order P 45 [] [.int (-1 : Int32), .ref (ad 0)] I J) : Sat (EC l D aI aL ad) M_X6_order P 43 [(0, .ref (ad 0))] [] I J := by
  refine s_aload_n 0 dX6_order_43 rfl ?_
  refine s_iconst (v := -1) dX6_order_44 rfl ?_
  refine s_pick [] [] rfl ?_; exact k
theorem bX6_order_48 {l : Launch} {D : va_G} {aI aL : ClassId} {ad : Nat → Nat} {P : sa_P} {I : sa_I} {J : sa_J} {s0 : Int32}   (k : P (some (.int s0)) I J) : Sat (EC l D aI aL ad) M_X6_order P 48 [] [.int s0] I J := by
  exact s_iret rfl dX6_order_48 k
theorem bX6_order_49 {l : Launch} {D : va_G} {aI aL : ClassId} {ad : Nat → Nat} {P : sa_P} {I : sa_I} {J : sa_J} {x1 : Int32}   (k : Sat (EC l D aI aL ad) M_X6_order P 53 [(0, .ref (ad 0)), (1, .int x1)] [.ref (ad 27)] I J) : Sat (EC l D aI aL ad) M_X6_order P 49 [(0, .ref (ad 0)), (1, .int x1)] [] I J := by
  refine s_aload_n 0 dX6_order_49 rfl ?_
  refine g_X6_48 dX6_order_50 rfl ?_
  exact k
theorem bX6_order_56 {l : Launch} {D : va_G} {aI aL : ClassId} {ad : Nat → Nat} {P : sa_P} {I : sa_I} {J : sa_J} {x1 : Int32}   (k : Sat (EC l D aI aL ad) M_X6_order P 68 [] [.int ((9 : Int32) * x1), .ref (ad 3), .ref (ad 27)] I J) : Sat (EC l D aI aL ad) M_X6_order P 56 [(0, .ref (ad 0)), (1, .int x1)] [] I J := by
  refine s_aload_n 0 dX6_order_56 rfl ?_
  refine g_X6_48 dX6_order_57 rfl ?_
  refine s_aload_n 0 dX6_order_60 rfl ?_
  refine g_X6_17 dX6_order_61 rfl ?_
  refine s_bipush (v := 9) dX6_order_64 rfl ?_
  refine s_iload_n 1 dX6_order_66 rfl ?_
  refine s_imul dX6_order_67 ?_
  refine s_pick [] [] rfl ?_; exact k
theorem bX6_order_71 {l : Launch} {D : va_G} {aI aL : ClassId} {ad : Nat → Nat} {P : sa_P} {I : sa_I} {J : sa_J} {s0 : Int32}   (k : P (some (.int s0)) I J) : Sat (EC l D aI aL ad) M_X6_order P 71 [] [.int s0] I J := by
  exact s_iret rfl dX6_order_71 k
/-! X6_first -/
theorem dX6_first_0 : decode cX6_first 0 = .ok (.aload_n 0, 1) := by decide +kernel
theorem dX6_first_1 : decode cX6_first 1 = .ok (.getfield 23, 3) := by decide +kernel
theorem dX6_first_4 : decode cX6_first 4 = .ok (.getfield 85, 3) := by decide +kernel
theorem dX6_first_7 : decode cX6_first 7 = .ok (.ifCond .ne 10, 3) := by decide +kernel
theorem dX6_first_10 : decode cX6_first 10 = .ok (.aload_n 0, 1) := by decide +kernel
theorem dX6_first_11 : decode cX6_first 11 = .ok (.bipush (-3), 2) := by decide +kernel
theorem dX6_first_13 : decode cX6_first 13 = .ok (.invokevirtual 96, 3) := by decide +kernel
theorem dX6_first_16 : decode cX6_first 16 = .ok (.lreturn, 1) := by decide +kernel
theorem dX6_first_17 : decode cX6_first 17 = .ok (.aload_n 0, 1) := by decide +kernel
theorem dX6_first_18 : decode cX6_first 18 = .ok (.getfield 23, 3) := by decide +kernel
theorem dX6_first_21 : decode cX6_first 21 = .ok (.getfield 85, 3) := by decide +kernel
theorem dX6_first_24 : decode cX6_first 24 = .ok (.iconst 2, 1) := by decide +kernel
theorem dX6_first_25 : decode cX6_first 25 = .ok (.if_icmp .ne 24, 3) := by decide +kernel
theorem dX6_first_28 : decode cX6_first 28 = .ok (.aload_n 0, 1) := by decide +kernel
theorem dX6_first_29 : decode cX6_first 29 = .ok (.getfield 23, 3) := by decide +kernel
theorem dX6_first_32 : decode cX6_first 32 = .ok (.getfield 100, 3) := by decide +kernel
theorem dX6_first_35 : decode cX6_first 35 = .ok (.lconst 0, 1) := by decide +kernel
theorem dX6_first_36 : decode cX6_first 36 = .ok (.lcmp, 1) := by decide +kernel
theorem dX6_first_37 : decode cX6_first 37 = .ok (.ifCond .lt 12, 3) := by decide +kernel
theorem dX6_first_40 : decode cX6_first 40 = .ok (.iload_n 1, 1) := by decide +kernel
theorem dX6_first_41 : decode cX6_first 41 = .ok (.ifCond .lt 8, 3) := by decide +kernel
theorem dX6_first_44 : decode cX6_first 44 = .ok (.iload_n 1, 1) := by decide +kernel
theorem dX6_first_45 : decode cX6_first 45 = .ok (.iconst 2, 1) := by decide +kernel
theorem dX6_first_46 : decode cX6_first 46 = .ok (.if_icmp .le 10, 3) := by decide +kernel
theorem dX6_first_49 : decode cX6_first 49 = .ok (.aload_n 0, 1) := by decide +kernel
theorem dX6_first_50 : decode cX6_first 50 = .ok (.bipush (-2), 2) := by decide +kernel
theorem dX6_first_52 : decode cX6_first 52 = .ok (.invokevirtual 96, 3) := by decide +kernel
theorem dX6_first_55 : decode cX6_first 55 = .ok (.lreturn, 1) := by decide +kernel
theorem dX6_first_56 : decode cX6_first 56 = .ok (.aload_n 0, 1) := by decide +kernel
theorem dX6_first_57 : decode cX6_first 57 = .ok (.getfield 55, 3) := by decide +kernel
theorem dX6_first_60 : decode cX6_first 60 = .ok (.aload_n 0, 1) := by decide +kernel
theorem dX6_first_61 : decode cX6_first 61 = .ok (.getfield 23, 3) := by decide +kernel
theorem dX6_first_64 : decode cX6_first 64 = .ok (.getfield 100, 3) := by decide +kernel
theorem dX6_first_67 : decode cX6_first 67 = .ok (.aload_n 0, 1) := by decide +kernel
theorem dX6_first_68 : decode cX6_first 68 = .ok (.getfield 23, 3) := by decide +kernel
theorem dX6_first_71 : decode cX6_first 71 = .ok (.invokevirtual 243, 3) := by decide +kernel
theorem dX6_first_74 : decode cX6_first 74 = .ok (.invokevirtual 246, 3) := by decide +kernel
theorem dX6_first_77 : decode cX6_first 77 = .ok (.ifCond .ne 10, 3) := by decide +kernel
theorem dX6_first_80 : decode cX6_first 80 = .ok (.aload_n 0, 1) := by decide +kernel
theorem dX6_first_81 : decode cX6_first 81 = .ok (.bipush (-6), 2) := by decide +kernel
theorem dX6_first_83 : decode cX6_first 83 = .ok (.invokevirtual 96, 3) := by decide +kernel
theorem dX6_first_86 : decode cX6_first 86 = .ok (.lreturn, 1) := by decide +kernel
theorem dX6_first_87 : decode cX6_first 87 = .ok (.iload_n 1, 1) := by decide +kernel
theorem dX6_first_88 : decode cX6_first 88 = .ok (.iconst 2, 1) := by decide +kernel
theorem dX6_first_89 : decode cX6_first 89 = .ok (.if_icmp .ne 11, 3) := by decide +kernel
theorem dX6_first_92 : decode cX6_first 92 = .ok (.aload_n 0, 1) := by decide +kernel
theorem dX6_first_93 : decode cX6_first 93 = .ok (.getfield 55, 3) := by decide +kernel
theorem dX6_first_96 : decode cX6_first 96 = .ok (.getfield 250, 3) := by decide +kernel
theorem dX6_first_99 : decode cX6_first 99 = .ok (.lreturn, 1) := by decide +kernel
theorem dX6_first_100 : decode cX6_first 100 = .ok (.iload_n 1, 1) := by decide +kernel
theorem dX6_first_101 : decode cX6_first 101 = .ok (.ifCond .ne 13, 3) := by decide +kernel
theorem dX6_first_104 : decode cX6_first 104 = .ok (.aload_n 0, 1) := by decide +kernel
theorem dX6_first_105 : decode cX6_first 105 = .ok (.getfield 55, 3) := by decide +kernel
theorem dX6_first_108 : decode cX6_first 108 = .ok (.getfield 253, 3) := by decide +kernel
theorem dX6_first_111 : decode cX6_first 111 = .ok (.goto 10, 3) := by decide +kernel
theorem dX6_first_114 : decode cX6_first 114 = .ok (.aload_n 0, 1) := by decide +kernel
theorem dX6_first_115 : decode cX6_first 115 = .ok (.getfield 55, 3) := by decide +kernel
theorem dX6_first_118 : decode cX6_first 118 = .ok (.getfield 256, 3) := by decide +kernel
theorem dX6_first_121 : decode cX6_first 121 = .ok (.lreturn, 1) := by decide +kernel
theorem bX6_first_0 {l : Launch} {D : va_G} {aI aL : ClassId} {ad : Nat → Nat} {P : sa_P} {I : sa_I} {J : sa_J} {x1 : Int32}   (kt : ¬ I 4 0 = 0 → Sat (EC l D aI aL ad) M_X6_first P 17 [(0, .ref (ad 0)), (1, .int x1)] [] I J) (kf : I 4 0 = 0 → Sat (EC l D aI aL ad) M_X6_first P 10 [(0, .ref (ad 0))] [] I J) : Sat (EC l D aI aL ad) M_X6_first P 0 [(0, .ref (ad 0)), (1, .int x1)] [] I J := by
  refine s_aload_n 0 dX6_first_0 rfl ?_
  refine g_X6_23 dX6_first_1 rfl ?_
  refine g_X6_85 dX6_first_4 rfl ?_
  refine s_if_ne (tgt := 17) dX6_first_7 (by decide) (fun c => ?_) (fun c => ?_)
  · exact kt c
  · refine s_pick [0] [(0, .ref (ad 0))] rfl ?_; exact kf (by first | exact c | exact Classical.not_not.mp c)
theorem bX6_first_10 {l : Launch} {D : va_G} {aI aL : ClassId} {ad : Nat → Nat} {P : sa_P} {I : sa_I} {J : sa_J}    (k : Sat (EC l D aI aL ad) M_X6_first P 13 [] [.int (-3 : Int32), .ref (ad 0)] I J) : Sat (EC l D aI aL ad) M_X6_first P 10 [(0, .ref (ad 0))] [] I J := by
  refine s_aload_n 0 dX6_first_10 rfl ?_
  refine s_bipush (v := -3) dX6_first_11 rfl ?_
  refine s_pick [] [] rfl ?_; exact k
theorem bX6_first_16 {l : Launch} {D : va_G} {aI aL : ClassId} {ad : Nat → Nat} {P : sa_P} {I : sa_I} {J : sa_J} {s0 : Int64}   (k : P (some (.long s0)) I J) : Sat (EC l D aI aL ad) M_X6_first P 16 [] [.long s0] I J := by
  exact s_lret rfl dX6_first_16 k
theorem bX6_first_17 {l : Launch} {D : va_G} {aI aL : ClassId} {ad : Nat → Nat} {P : sa_P} {I : sa_I} {J : sa_J} {x1 : Int32}   (kt : ¬ I 4 0 = (2 : Int32) → Sat (EC l D aI aL ad) M_X6_first P 49 [(0, .ref (ad 0))] [] I J) (kf : I 4 0 = (2 : Int32) → Sat (EC l D aI aL ad) M_X6_first P 28 [(0, .ref (ad 0)), (1, .int x1)] [] I J) : Sat (EC l D aI aL ad) M_X6_first P 17 [(0, .ref (ad 0)), (1, .int x1)] [] I J := by
  refine s_aload_n 0 dX6_first_17 rfl ?_
  refine g_X6_23 dX6_first_18 rfl ?_
  refine g_X6_85 dX6_first_21 rfl ?_
  refine s_iconst (v := 2) dX6_first_24 rfl ?_
  refine s_icmp_ne (tgt := 49) dX6_first_25 (by decide) (fun c => ?_) (fun c => ?_)
  · refine s_pick [0] [(0, .ref (ad 0))] rfl ?_; exact kt c
  · exact kf (by first | exact c | exact Classical.not_not.mp c)
theorem bX6_first_28 {l : Launch} {D : va_G} {aI aL : ClassId} {ad : Nat → Nat} {P : sa_P} {I : sa_I} {J : sa_J} {x1 : Int32}   (kt : J 4 2 < (0 : Int64) → Sat (EC l D aI aL ad) M_X6_first P 49 [(0, .ref (ad 0))] [] I J) (kf : ¬ J 4 2 < (0 : Int64) → Sat (EC l D aI aL ad) M_X6_first P 40 [(0, .ref (ad 0)), (1, .int x1)] [] I J) : Sat (EC l D aI aL ad) M_X6_first P 28 [(0, .ref (ad 0)), (1, .int x1)] [] I J := by
  refine s_aload_n 0 dX6_first_28 rfl ?_
  refine g_X6_23 dX6_first_29 rfl ?_
  refine g_X6_100 dX6_first_32 rfl ?_
  refine s_lconst (v := 0) dX6_first_35 rfl ?_
  refine s_lif_lt (tgt := 49) dX6_first_36 dX6_first_37 (by decide) (fun c => ?_) (fun c => ?_)
  · refine s_pick [0] [(0, .ref (ad 0))] rfl ?_; exact kt c
  · exact kf c
theorem bX6_first_40 {l : Launch} {D : va_G} {aI aL : ClassId} {ad : Nat → Nat} {P : sa_P} {I : sa_I} {J : sa_J} {x1 : Int32}   (kt : x1 < 0 → Sat (EC l D aI aL ad) M_X6_first P 49 [(0, .ref (ad 0))] [] I J) (kf : ¬ x1 < 0 → Sat (EC l D aI aL ad) M_X6_first P 44 [(0, .ref (ad 0)), (1, .int x1)] [] I J) : Sat (EC l D aI aL ad) M_X6_first P 40 [(0, .ref (ad 0)), (1, .int x1)] [] I J := by
  refine s_iload_n 1 dX6_first_40 rfl ?_
  refine s_if_lt (tgt := 49) dX6_first_41 (by decide) (fun c => ?_) (fun c => ?_)
  · refine s_pick [0] [(0, .ref (ad 0))] rfl ?_; exact kt c
  · exact kf c
theorem bX6_first_44 {l : Launch} {D : va_G} {aI aL : ClassId} {ad : Nat → Nat} {P : sa_P} {I : sa_I} {J : sa_J} {x1 : Int32}   (kt : x1 ≤ (2 : Int32) → Sat (EC l D aI aL ad) M_X6_first P 56 [(0, .ref (ad 0)), (1, .int x1)] [] I J) (kf : ¬ x1 ≤ (2 : Int32) → Sat (EC l D aI aL ad) M_X6_first P 49 [(0, .ref (ad 0))] [] I J) : Sat (EC l D aI aL ad) M_X6_first P 44 [(0, .ref (ad 0)), (1, .int x1)] [] I J := by
  refine s_iload_n 1 dX6_first_44 rfl ?_
  refine s_iconst (v := 2) dX6_first_45 rfl ?_
  refine s_icmp_le (tgt := 56) dX6_first_46 (by decide) (fun c => ?_) (fun c => ?_)
  · exact kt c
  · refine s_pick [0] [(0, .ref (ad 0))] rfl ?_; exact kf c
theorem bX6_first_49 {l : Launch} {D : va_G} {aI aL : ClassId} {ad : Nat → Nat} {P : sa_P} {I : sa_I} {J : sa_J}    (k : Sat (EC l D aI aL ad) M_X6_first P 52 [] [.int (-2 : Int32), .ref (ad 0)] I J) : Sat (EC l D aI aL ad) M_X6_first P 49 [(0, .ref (ad 0))] [] I J := by
  refine s_aload_n 0 dX6_first_49 rfl ?_
  refine s_bipush (v := -2) dX6_first_50 rfl ?_
  refine s_pick [] [] rfl ?_; exact k
theorem bX6_first_55 {l : Launch} {D : va_G} {aI aL : ClassId} {ad : Nat → Nat} {P : sa_P} {I : sa_I} {J : sa_J} {s0 : Int64}   (k : P (some (.long s0)) I J) : Sat (EC l D aI aL ad) M_X6_first P 55 [] [.long s0] I J := by
  exact s_lret rfl dX6_first_55 k
theorem bX6_first_56 {l : Launch} {D : va_G} {aI aL : ClassId} {ad : Nat → Nat} {P : sa_P} {I : sa_I} {J : sa_J} {x1 : Int32}   (k : Sat (EC l D aI aL ad) M_X6_first P 71 [(0, .ref (ad 0)), (1, .int x1)] [.ref (ad 4), .long (J 4 2), .ref (ad 32)] I J) : Sat (EC l D aI aL ad) M_X6_first P 56 [(0, .ref (ad 0)), (1, .int x1)] [] I J := by
  refine s_aload_n 0 dX6_first_56 rfl ?_
  refine g_X6_55 dX6_first_57 rfl ?_
  refine s_aload_n 0 dX6_first_60 rfl ?_
  refine g_X6_23 dX6_first_61 rfl ?_
  refine g_X6_100 dX6_first_64 rfl ?_
  refine s_aload_n 0 dX6_first_67 rfl ?_
  refine g_X6_23 dX6_first_68 rfl ?_
  exact k
theorem bX6_first_77 {l : Launch} {D : va_G} {aI aL : ClassId} {ad : Nat → Nat} {P : sa_P} {I : sa_I} {J : sa_J} {x1 : Int32} {s0 : Int32}   (kt : ¬ s0 = 0 → Sat (EC l D aI aL ad) M_X6_first P 87 [(0, .ref (ad 0)), (1, .int x1)] [] I J) (kf : s0 = 0 → Sat (EC l D aI aL ad) M_X6_first P 80 [(0, .ref (ad 0))] [] I J) : Sat (EC l D aI aL ad) M_X6_first P 77 [(0, .ref (ad 0)), (1, .int x1)] [.int s0] I J := by
  refine s_if_ne (tgt := 87) dX6_first_77 (by decide) (fun c => ?_) (fun c => ?_)
  · exact kt c
  · refine s_pick [0] [(0, .ref (ad 0))] rfl ?_; exact kf (by first | exact c | exact Classical.not_not.mp c)
theorem bX6_first_80 {l : Launch} {D : va_G} {aI aL : ClassId} {ad : Nat → Nat} {P : sa_P} {I : sa_I} {J : sa_J}    (k : Sat (EC l D aI aL ad) M_X6_first P 83 [] [.int (-6 : Int32), .ref (ad 0)] I J) : Sat (EC l D aI aL ad) M_X6_first P 80 [(0, .ref (ad 0))] [] I J := by
  refine s_aload_n 0 dX6_first_80 rfl ?_
  refine s_bipush (v := -6) dX6_first_81 rfl ?_
  refine s_pick [] [] rfl ?_; exact k
theorem bX6_first_86 {l : Launch} {D : va_G} {aI aL : ClassId} {ad : Nat → Nat} {P : sa_P} {I : sa_I} {J : sa_J} {s0 : Int64}   (k : P (some (.long s0)) I J) : Sat (EC l D aI aL ad) M_X6_first P 86 [] [.long s0] I J := by
  exact s_lret rfl dX6_first_86 k
theorem bX6_first_87 {l : Launch} {D : va_G} {aI aL : ClassId} {ad : Nat → Nat} {P : sa_P} {I : sa_I} {J : sa_J} {x1 : Int32}   (kt : ¬ x1 = (2 : Int32) → Sat (EC l D aI aL ad) M_X6_first P 100 [(0, .ref (ad 0)), (1, .int x1)] [] I J) (kf : x1 = (2 : Int32) → Sat (EC l D aI aL ad) M_X6_first P 92 [(0, .ref (ad 0))] [] I J) : Sat (EC l D aI aL ad) M_X6_first P 87 [(0, .ref (ad 0)), (1, .int x1)] [] I J := by
  refine s_iload_n 1 dX6_first_87 rfl ?_
  refine s_iconst (v := 2) dX6_first_88 rfl ?_
  refine s_icmp_ne (tgt := 100) dX6_first_89 (by decide) (fun c => ?_) (fun c => ?_)
  · exact kt c
  · refine s_pick [0] [(0, .ref (ad 0))] rfl ?_; exact kf (by first | exact c | exact Classical.not_not.mp c)
theorem bX6_first_92 {l : Launch} {D : va_G} {aI aL : ClassId} {ad : Nat → Nat} {P : sa_P} {I : sa_I} {J : sa_J}    (k : P (some (.long (J 32 2))) I J) : Sat (EC l D aI aL ad) M_X6_first P 92 [(0, .ref (ad 0))] [] I J := by
  refine s_aload_n 0 dX6_first_92 rfl ?_
  refine g_X6_55 dX6_first_93 rfl ?_
  refine g_X6_250 dX6_first_96 rfl ?_
  exact s_lret rfl dX6_first_99 k
theorem bX6_first_100 {l : Launch} {D : va_G} {aI aL : ClassId} {ad : Nat → Nat} {P : sa_P} {I : sa_I} {J : sa_J} {x1 : Int32}   (kt : ¬ x1 = 0 → Sat (EC l D aI aL ad) M_X6_first P 114 [(0, .ref (ad 0))] [] I J) (kf : x1 = 0 → Sat (EC l D aI aL ad) M_X6_first P 104 [(0, .ref (ad 0))] [] I J) : Sat (EC l D aI aL ad) M_X6_first P 100 [(0, .ref (ad 0)), (1, .int x1)] [] I J := by
  refine s_iload_n 1 dX6_first_100 rfl ?_
  refine s_if_ne (tgt := 114) dX6_first_101 (by decide) (fun c => ?_) (fun c => ?_)
  · refine s_pick [0] [(0, .ref (ad 0))] rfl ?_; exact kt c
  · refine s_pick [0] [(0, .ref (ad 0))] rfl ?_; exact kf (by first | exact c | exact Classical.not_not.mp c)
theorem bX6_first_104 {l : Launch} {D : va_G} {aI aL : ClassId} {ad : Nat → Nat} {P : sa_P} {I : sa_I} {J : sa_J}    (k : Sat (EC l D aI aL ad) M_X6_first P 121 [] [.long (J 32 0)] I J) : Sat (EC l D aI aL ad) M_X6_first P 104 [(0, .ref (ad 0))] [] I J := by
  refine s_aload_n 0 dX6_first_104 rfl ?_
  refine g_X6_55 dX6_first_105 rfl ?_
  refine g_X6_253 dX6_first_108 rfl ?_
  refine s_goto (tgt := 121) dX6_first_111 (by decide) ?_
  refine s_pick [] [] rfl ?_; exact k
theorem bX6_first_114 {l : Launch} {D : va_G} {aI aL : ClassId} {ad : Nat → Nat} {P : sa_P} {I : sa_I} {J : sa_J}    (k : Sat (EC l D aI aL ad) M_X6_first P 121 [] [.long (J 32 1)] I J) : Sat (EC l D aI aL ad) M_X6_first P 114 [(0, .ref (ad 0))] [] I J := by
  refine s_aload_n 0 dX6_first_114 rfl ?_
  refine g_X6_55 dX6_first_115 rfl ?_
  refine g_X6_256 dX6_first_118 rfl ?_
  refine s_pick [] [] rfl ?_; exact k
theorem bX6_first_121 {l : Launch} {D : va_G} {aI aL : ClassId} {ad : Nat → Nat} {P : sa_P} {I : sa_I} {J : sa_J} {s0 : Int64}   (k : P (some (.long s0)) I J) : Sat (EC l D aI aL ad) M_X6_first P 121 [] [.long s0] I J := by
  exact s_lret rfl dX6_first_121 k
/-! X6_count -/
theorem dX6_count_0 : decode cX6_count 0 = .ok (.iload_n 1, 1) := by decide +kernel
theorem dX6_count_1 : decode cX6_count 1 = .ok (.ifCond .ne 8, 3) := by decide +kernel
theorem dX6_count_4 : decode cX6_count 4 = .ok (.aload_n 0, 1) := by decide +kernel
theorem dX6_count_5 : decode cX6_count 5 = .ok (.getfield 259, 3) := by decide +kernel
theorem dX6_count_8 : decode cX6_count 8 = .ok (.ireturn, 1) := by decide +kernel
theorem dX6_count_9 : decode cX6_count 9 = .ok (.iload_n 1, 1) := by decide +kernel
theorem dX6_count_10 : decode cX6_count 10 = .ok (.iconst 1, 1) := by decide +kernel
theorem dX6_count_11 : decode cX6_count 11 = .ok (.if_icmp .ne 8, 3) := by decide +kernel
theorem dX6_count_14 : decode cX6_count 14 = .ok (.aload_n 0, 1) := by decide +kernel
theorem dX6_count_15 : decode cX6_count 15 = .ok (.getfield 262, 3) := by decide +kernel
theorem dX6_count_18 : decode cX6_count 18 = .ok (.ireturn, 1) := by decide +kernel
theorem dX6_count_19 : decode cX6_count 19 = .ok (.iload_n 1, 1) := by decide +kernel
theorem dX6_count_20 : decode cX6_count 20 = .ok (.bipush 11, 2) := by decide +kernel
theorem dX6_count_22 : decode cX6_count 22 = .ok (.if_icmp .lt 19, 3) := by decide +kernel
theorem dX6_count_25 : decode cX6_count 25 = .ok (.iload_n 1, 1) := by decide +kernel
theorem dX6_count_26 : decode cX6_count 26 = .ok (.bipush 16, 2) := by decide +kernel
theorem dX6_count_28 : decode cX6_count 28 = .ok (.if_icmp .gt 13, 3) := by decide +kernel
theorem dX6_count_31 : decode cX6_count 31 = .ok (.aload_n 0, 1) := by decide +kernel
theorem dX6_count_32 : decode cX6_count 32 = .ok (.getfield 7, 3) := by decide +kernel
theorem dX6_count_35 : decode cX6_count 35 = .ok (.iload_n 1, 1) := by decide +kernel
theorem dX6_count_36 : decode cX6_count 36 = .ok (.bipush 10, 2) := by decide +kernel
theorem dX6_count_38 : decode cX6_count 38 = .ok (.isub, 1) := by decide +kernel
theorem dX6_count_39 : decode cX6_count 39 = .ok (.iaload, 1) := by decide +kernel
theorem dX6_count_40 : decode cX6_count 40 = .ok (.ireturn, 1) := by decide +kernel
theorem dX6_count_41 : decode cX6_count 41 = .ok (.bipush (-9), 2) := by decide +kernel
theorem dX6_count_43 : decode cX6_count 43 = .ok (.ireturn, 1) := by decide +kernel
theorem bX6_count_0 {l : Launch} {D : va_G} {aI aL : ClassId} {ad : Nat → Nat} {P : sa_P} {I : sa_I} {J : sa_J} {x1 : Int32}   (kt : ¬ x1 = 0 → Sat (EC l D aI aL ad) M_X6_count P 9 [(0, .ref (ad 0)), (1, .int x1)] [] I J) (kf : x1 = 0 → Sat (EC l D aI aL ad) M_X6_count P 4 [(0, .ref (ad 0))] [] I J) : Sat (EC l D aI aL ad) M_X6_count P 0 [(0, .ref (ad 0)), (1, .int x1)] [] I J := by
  refine s_iload_n 1 dX6_count_0 rfl ?_
  refine s_if_ne (tgt := 9) dX6_count_1 (by decide) (fun c => ?_) (fun c => ?_)
  · exact kt c
  · refine s_pick [0] [(0, .ref (ad 0))] rfl ?_; exact kf (by first | exact c | exact Classical.not_not.mp c)
theorem bX6_count_4 {l : Launch} {D : va_G} {aI aL : ClassId} {ad : Nat → Nat} {P : sa_P} {I : sa_I} {J : sa_J}    (k : P (some (.int (I 0 8))) I J) : Sat (EC l D aI aL ad) M_X6_count P 4 [(0, .ref (ad 0))] [] I J := by
  refine s_aload_n 0 dX6_count_4 rfl ?_
  refine g_X6_259 dX6_count_5 rfl ?_
  exact s_iret rfl dX6_count_8 k
theorem bX6_count_9 {l : Launch} {D : va_G} {aI aL : ClassId} {ad : Nat → Nat} {P : sa_P} {I : sa_I} {J : sa_J} {x1 : Int32}   (kt : ¬ x1 = (1 : Int32) → Sat (EC l D aI aL ad) M_X6_count P 19 [(0, .ref (ad 0)), (1, .int x1)] [] I J) (kf : x1 = (1 : Int32) → Sat (EC l D aI aL ad) M_X6_count P 14 [(0, .ref (ad 0))] [] I J) : Sat (EC l D aI aL ad) M_X6_count P 9 [(0, .ref (ad 0)), (1, .int x1)] [] I J := by
  refine s_iload_n 1 dX6_count_9 rfl ?_
  refine s_iconst (v := 1) dX6_count_10 rfl ?_
  refine s_icmp_ne (tgt := 19) dX6_count_11 (by decide) (fun c => ?_) (fun c => ?_)
  · exact kt c
  · refine s_pick [0] [(0, .ref (ad 0))] rfl ?_; exact kf (by first | exact c | exact Classical.not_not.mp c)
theorem bX6_count_14 {l : Launch} {D : va_G} {aI aL : ClassId} {ad : Nat → Nat} {P : sa_P} {I : sa_I} {J : sa_J}    (k : P (some (.int (I 0 9))) I J) : Sat (EC l D aI aL ad) M_X6_count P 14 [(0, .ref (ad 0))] [] I J := by
  refine s_aload_n 0 dX6_count_14 rfl ?_
  refine g_X6_262 dX6_count_15 rfl ?_
  exact s_iret rfl dX6_count_18 k
theorem bX6_count_19 {l : Launch} {D : va_G} {aI aL : ClassId} {ad : Nat → Nat} {P : sa_P} {I : sa_I} {J : sa_J} {x1 : Int32}   (kt : x1 < (11 : Int32) → Sat (EC l D aI aL ad) M_X6_count P 41 [] [] I J) (kf : ¬ x1 < (11 : Int32) → Sat (EC l D aI aL ad) M_X6_count P 25 [(0, .ref (ad 0)), (1, .int x1)] [] I J) : Sat (EC l D aI aL ad) M_X6_count P 19 [(0, .ref (ad 0)), (1, .int x1)] [] I J := by
  refine s_iload_n 1 dX6_count_19 rfl ?_
  refine s_bipush (v := 11) dX6_count_20 rfl ?_
  refine s_icmp_lt (tgt := 41) dX6_count_22 (by decide) (fun c => ?_) (fun c => ?_)
  · refine s_pick [] [] rfl ?_; exact kt c
  · exact kf c
theorem bX6_count_25 {l : Launch} {D : va_G} {aI aL : ClassId} {ad : Nat → Nat} {P : sa_P} {I : sa_I} {J : sa_J} {x1 : Int32}   (kt : (16 : Int32) < x1 → Sat (EC l D aI aL ad) M_X6_count P 41 [] [] I J) (kf : ¬ (16 : Int32) < x1 → Sat (EC l D aI aL ad) M_X6_count P 31 [(0, .ref (ad 0)), (1, .int x1)] [] I J) : Sat (EC l D aI aL ad) M_X6_count P 25 [(0, .ref (ad 0)), (1, .int x1)] [] I J := by
  refine s_iload_n 1 dX6_count_25 rfl ?_
  refine s_bipush (v := 16) dX6_count_26 rfl ?_
  refine s_icmp_gt (tgt := 41) dX6_count_28 (by decide) (fun c => ?_) (fun c => ?_)
  · refine s_pick [] [] rfl ?_; exact kt c
  · exact kf c
theorem bX6_count_31 {l : Launch} {D : va_G} {aI aL : ClassId} {ad : Nat → Nat} {P : sa_P} {I : sa_I} {J : sa_J} {x1 : Int32} {j38 : Nat} (e38 : x1 - (10 : Int32) = nI j38) (h39 : j38 < 7)  (k : P (some (.int (I 1 j38))) I J) : Sat (EC l D aI aL ad) M_X6_count P 31 [(0, .ref (ad 0)), (1, .int x1)] [] I J := by
  refine s_aload_n 0 dX6_count_31 rfl ?_
  refine g_X6_7 dX6_count_32 rfl ?_
  refine s_iload_n 1 dX6_count_35 rfl ?_
  refine s_bipush (v := 10) dX6_count_36 rfl ?_
  refine s_isub dX6_count_38 ?_
  refine s_eqi e38 ?_
  refine s_ialoadN aI_C1 h39 (by decide) dX6_count_39 ?_
  exact s_iret rfl dX6_count_40 k
theorem bX6_count_41 {l : Launch} {D : va_G} {aI aL : ClassId} {ad : Nat → Nat} {P : sa_P} {I : sa_I} {J : sa_J}    (k : P (some (.int (-9 : Int32))) I J) : Sat (EC l D aI aL ad) M_X6_count P 41 [] [] I J := by
  refine s_bipush (v := -9) dX6_count_41 rfl ?_
  exact s_iret rfl dX6_count_43 k
/-! X6_refused -/
theorem dX6_refused_0 : decode cX6_refused 0 = .ok (.aload_n 0, 1) := by decide +kernel
theorem dX6_refused_1 : decode cX6_refused 1 = .ok (.getfield 7, 3) := by decide +kernel
theorem dX6_refused_4 : decode cX6_refused 4 = .ok (.iload_n 1, 1) := by decide +kernel
theorem dX6_refused_5 : decode cX6_refused 5 = .ok (.ineg, 1) := by decide +kernel
theorem dX6_refused_6 : decode cX6_refused 6 = .ok (.dup2, 1) := by decide +kernel
theorem dX6_refused_7 : decode cX6_refused 7 = .ok (.iaload, 1) := by decide +kernel
theorem dX6_refused_8 : decode cX6_refused 8 = .ok (.iconst 1, 1) := by decide +kernel
theorem dX6_refused_9 : decode cX6_refused 9 = .ok (.iadd, 1) := by decide +kernel
theorem dX6_refused_10 : decode cX6_refused 10 = .ok (.iastore, 1) := by decide +kernel
theorem dX6_refused_11 : decode cX6_refused 11 = .ok (.iload_n 1, 1) := by decide +kernel
theorem dX6_refused_12 : decode cX6_refused 12 = .ok (.ireturn, 1) := by decide +kernel
theorem bX6_refused_0 {l : Launch} {D : va_G} {aI aL : ClassId} {ad : Nat → Nat} {P : sa_P} {I : sa_I} {J : sa_J} {x1 : Int32} {j5 : Nat} {v10 : Int32} (e5 : -x1 = nI j5) (h7 : j5 < 7) (h10 : j5 < 7) (f10 : (I 1 j5) + (1 : Int32) = v10) (k : P (some (.int x1)) (sa_uI I 1 j5 v10) J) : Sat (EC l D aI aL ad) M_X6_refused P 0 [(0, .ref (ad 0)), (1, .int x1)] [] I J := by
  refine s_aload_n 0 dX6_refused_0 rfl ?_
  refine g_X6_7 dX6_refused_1 rfl ?_
  refine s_iload_n 1 dX6_refused_4 rfl ?_
  refine s_ineg dX6_refused_5 ?_
  refine s_eqi e5 ?_
  refine s_dup2_11 dX6_refused_6 rfl rfl ?_
  refine s_ialoadN aI_C1 h7 (by decide) dX6_refused_7 ?_
  refine s_iconst (v := 1) dX6_refused_8 rfl ?_
  refine s_iadd dX6_refused_9 ?_
  refine s_eqi f10 ?_
  refine s_iastoreN aI_C1 h10 (by decide) dX6_refused_10 ?_
  refine s_iload_n 1 dX6_refused_11 rfl ?_
  exact s_iret rfl dX6_refused_12 k
/-! X6_told -/
theorem dX6_told_0 : decode cX6_told 0 = .ok (.ldc_w 265, 3) := by decide +kernel
theorem dX6_told_3 : decode cX6_told 3 = .ok (.aload_n 0, 1) := by decide +kernel
theorem dX6_told_4 : decode cX6_told 4 = .ok (.iload_n 1, 1) := by decide +kernel
theorem dX6_told_5 : decode cX6_told 5 = .ok (.invokevirtual 59, 3) := by decide +kernel
theorem dX6_told_8 : decode cX6_told 8 = .ok (.isub, 1) := by decide +kernel
theorem dX6_told_9 : decode cX6_told 9 = .ok (.ireturn, 1) := by decide +kernel
theorem bX6_told_0 {l : Launch} {D : va_G} {aI aL : ClassId} {ad : Nat → Nat} {P : sa_P} {I : sa_I} {J : sa_J} {x1 : Int32}   (k : Sat (EC l D aI aL ad) M_X6_told P 5 [] [.int x1, .ref (ad 0), .int (2000000000 : Int32)] I J) : Sat (EC l D aI aL ad) M_X6_told P 0 [(0, .ref (ad 0)), (1, .int x1)] [] I J := by
  refine s_ldcw wk_X6_265 dX6_told_0 ?_
  refine s_aload_n 0 dX6_told_3 rfl ?_
  refine s_iload_n 1 dX6_told_4 rfl ?_
  refine s_pick [] [] rfl ?_; exact k
theorem bX6_told_8 {l : Launch} {D : va_G} {aI aL : ClassId} {ad : Nat → Nat} {P : sa_P} {I : sa_I} {J : sa_J} {s0 : Int32} {s1 : Int32}   (k : P (some (.int (s0 - s1))) I J) : Sat (EC l D aI aL ad) M_X6_told P 8 [] [.int s1, .int s0] I J := by
  refine s_isub dX6_told_8 ?_
  exact s_iret rfl dX6_told_9 k
/-! X6_toldLong -/
theorem dX6_toldLong_0 : decode cX6_toldLong 0 = .ok (.ldc2_w 266, 3) := by decide +kernel
theorem dX6_toldLong_3 : decode cX6_toldLong 3 = .ok (.aload_n 0, 1) := by decide +kernel
theorem dX6_toldLong_4 : decode cX6_toldLong 4 = .ok (.iload_n 1, 1) := by decide +kernel
theorem dX6_toldLong_5 : decode cX6_toldLong 5 = .ok (.invokevirtual 59, 3) := by decide +kernel
theorem dX6_toldLong_8 : decode cX6_toldLong 8 = .ok (.i2l, 1) := by decide +kernel
theorem dX6_toldLong_9 : decode cX6_toldLong 9 = .ok (.lsub, 1) := by decide +kernel
theorem dX6_toldLong_10 : decode cX6_toldLong 10 = .ok (.lreturn, 1) := by decide +kernel
theorem bX6_toldLong_0 {l : Launch} {D : va_G} {aI aL : ClassId} {ad : Nat → Nat} {P : sa_P} {I : sa_I} {J : sa_J} {x1 : Int32}   (k : Sat (EC l D aI aL ad) M_X6_toldLong P 5 [] [.int x1, .ref (ad 0), .long (4000000000000000000 : Int64)] I J) : Sat (EC l D aI aL ad) M_X6_toldLong P 0 [(0, .ref (ad 0)), (1, .int x1)] [] I J := by
  refine s_ldc2 wk_X6_266 dX6_toldLong_0 ?_
  refine s_aload_n 0 dX6_toldLong_3 rfl ?_
  refine s_iload_n 1 dX6_toldLong_4 rfl ?_
  refine s_pick [] [] rfl ?_; exact k
theorem bX6_toldLong_8 {l : Launch} {D : va_G} {aI aL : ClassId} {ad : Nat → Nat} {P : sa_P} {I : sa_I} {J : sa_J} {s0 : Int64} {s1 : Int32}   (k : P (some (.long (s0 - s1.toInt64))) I J) : Sat (EC l D aI aL ad) M_X6_toldLong P 8 [] [.int s1, .long s0] I J := by
  refine s_i2l dX6_toldLong_8 ?_
  refine s_lsub dX6_toldLong_9 ?_
  exact s_lret rfl dX6_toldLong_10 k
/-! X6_emptyHouse -/
theorem dX6_emptyHouse_0 : decode cX6_emptyHouse 0 = .ok (.aload_n 0, 1) := by decide +kernel
theorem dX6_emptyHouse_1 : decode cX6_emptyHouse 1 = .ok (.iconst 0, 1) := by decide +kernel
theorem dX6_emptyHouse_2 : decode cX6_emptyHouse 2 = .ok (.putfield 259, 3) := by decide +kernel
theorem dX6_emptyHouse_5 : decode cX6_emptyHouse 5 = .ok (.aload_n 0, 1) := by decide +kernel
theorem dX6_emptyHouse_6 : decode cX6_emptyHouse 6 = .ok (.iconst 0, 1) := by decide +kernel
theorem dX6_emptyHouse_7 : decode cX6_emptyHouse 7 = .ok (.putfield 262, 3) := by decide +kernel
theorem dX6_emptyHouse_10 : decode cX6_emptyHouse 10 = .ok (.aload_n 0, 1) := by decide +kernel
theorem dX6_emptyHouse_11 : decode cX6_emptyHouse 11 = .ok (.getfield 41, 3) := by decide +kernel
theorem dX6_emptyHouse_14 : decode cX6_emptyHouse 14 = .ok (.invokevirtual 268, 3) := by decide +kernel
theorem dX6_emptyHouse_17 : decode cX6_emptyHouse 17 = .ok (.aload_n 0, 1) := by decide +kernel
theorem dX6_emptyHouse_18 : decode cX6_emptyHouse 18 = .ok (.getfield 48, 3) := by decide +kernel
theorem dX6_emptyHouse_21 : decode cX6_emptyHouse 21 = .ok (.invokevirtual 271, 3) := by decide +kernel
theorem dX6_emptyHouse_24 : decode cX6_emptyHouse 24 = .ok (.iconst 1, 1) := by decide +kernel
theorem dX6_emptyHouse_25 : decode cX6_emptyHouse 25 = .ok (.ireturn, 1) := by decide +kernel
theorem bX6_emptyHouse_0 {l : Launch} {D : va_G} {aI aL : ClassId} {ad : Nat → Nat} {P : sa_P} {I : sa_I} {J : sa_J} {v2 : Int32} {v7 : Int32}  (f2 : (0 : Int32) = v2) (f7 : (0 : Int32) = v7) (k : Sat (EC l D aI aL ad) M_X6_emptyHouse P 14 [(0, .ref (ad 0))] [.ref (ad 21)] (sa_uI (sa_uI I 0 8 v2) 0 9 v7) J) : Sat (EC l D aI aL ad) M_X6_emptyHouse P 0 [(0, .ref (ad 0))] [] I J := by
  refine s_aload_n 0 dX6_emptyHouse_0 rfl ?_
  refine s_iconst (v := 0) dX6_emptyHouse_1 rfl ?_
  refine s_eqi f2 ?_
  refine p_X6_259 dX6_emptyHouse_2 rfl ?_
  refine s_aload_n 0 dX6_emptyHouse_5 rfl ?_
  refine s_iconst (v := 0) dX6_emptyHouse_6 rfl ?_
  refine s_eqi f7 ?_
  refine p_X6_262 dX6_emptyHouse_7 rfl ?_
  refine s_aload_n 0 dX6_emptyHouse_10 rfl ?_
  refine g_X6_41 dX6_emptyHouse_11 rfl ?_
  exact k
theorem bX6_emptyHouse_17 {l : Launch} {D : va_G} {aI aL : ClassId} {ad : Nat → Nat} {P : sa_P} {I : sa_I} {J : sa_J}    (k : Sat (EC l D aI aL ad) M_X6_emptyHouse P 21 [] [.ref (ad 27)] I J) : Sat (EC l D aI aL ad) M_X6_emptyHouse P 17 [(0, .ref (ad 0))] [] I J := by
  refine s_aload_n 0 dX6_emptyHouse_17 rfl ?_
  refine g_X6_48 dX6_emptyHouse_18 rfl ?_
  refine s_pick [] [] rfl ?_; exact k
theorem bX6_emptyHouse_24 {l : Launch} {D : va_G} {aI aL : ClassId} {ad : Nat → Nat} {P : sa_P} {I : sa_I} {J : sa_J}    (k : P (some (.int (1 : Int32))) I J) : Sat (EC l D aI aL ad) M_X6_emptyHouse P 24 [] [] I J := by
  refine s_iconst (v := 1) dX6_emptyHouse_24 rfl ?_
  exact s_iret rfl dX6_emptyHouse_25 k
/-! X6_isPlace -/
theorem dX6_isPlace_0 : decode cX6_isPlace 0 = .ok (.iload_n 1, 1) := by decide +kernel
theorem dX6_isPlace_1 : decode cX6_isPlace 1 = .ok (.ifCond .lt 18, 3) := by decide +kernel
theorem dX6_isPlace_4 : decode cX6_isPlace 4 = .ok (.iload_n 1, 1) := by decide +kernel
theorem dX6_isPlace_5 : decode cX6_isPlace 5 = .ok (.aload_n 0, 1) := by decide +kernel
theorem dX6_isPlace_6 : decode cX6_isPlace 6 = .ok (.getfield 23, 3) := by decide +kernel
theorem dX6_isPlace_9 : decode cX6_isPlace 9 = .ok (.getfield 85, 3) := by decide +kernel
theorem dX6_isPlace_12 : decode cX6_isPlace 12 = .ok (.if_icmp .ge 7, 3) := by decide +kernel
theorem dX6_isPlace_15 : decode cX6_isPlace 15 = .ok (.iconst 1, 1) := by decide +kernel
theorem dX6_isPlace_16 : decode cX6_isPlace 16 = .ok (.goto 4, 3) := by decide +kernel
theorem dX6_isPlace_19 : decode cX6_isPlace 19 = .ok (.iconst 0, 1) := by decide +kernel
theorem dX6_isPlace_20 : decode cX6_isPlace 20 = .ok (.ireturn, 1) := by decide +kernel
theorem bX6_isPlace_0 {l : Launch} {D : va_G} {aI aL : ClassId} {ad : Nat → Nat} {P : sa_P} {I : sa_I} {J : sa_J} {x1 : Int32}   (kt : x1 < 0 → Sat (EC l D aI aL ad) M_X6_isPlace P 19 [] [] I J) (kf : ¬ x1 < 0 → Sat (EC l D aI aL ad) M_X6_isPlace P 4 [(0, .ref (ad 0)), (1, .int x1)] [] I J) : Sat (EC l D aI aL ad) M_X6_isPlace P 0 [(0, .ref (ad 0)), (1, .int x1)] [] I J := by
  refine s_iload_n 1 dX6_isPlace_0 rfl ?_
  refine s_if_lt (tgt := 19) dX6_isPlace_1 (by decide) (fun c => ?_) (fun c => ?_)
  · refine s_pick [] [] rfl ?_; exact kt c
  · exact kf c
theorem bX6_isPlace_4 {l : Launch} {D : va_G} {aI aL : ClassId} {ad : Nat → Nat} {P : sa_P} {I : sa_I} {J : sa_J} {x1 : Int32}   (kt : I 4 0 ≤ x1 → Sat (EC l D aI aL ad) M_X6_isPlace P 19 [] [] I J) (kf : ¬ I 4 0 ≤ x1 → Sat (EC l D aI aL ad) M_X6_isPlace P 15 [] [] I J) : Sat (EC l D aI aL ad) M_X6_isPlace P 4 [(0, .ref (ad 0)), (1, .int x1)] [] I J := by
  refine s_iload_n 1 dX6_isPlace_4 rfl ?_
  refine s_aload_n 0 dX6_isPlace_5 rfl ?_
  refine g_X6_23 dX6_isPlace_6 rfl ?_
  refine g_X6_85 dX6_isPlace_9 rfl ?_
  refine s_icmp_ge (tgt := 19) dX6_isPlace_12 (by decide) (fun c => ?_) (fun c => ?_)
  · refine s_pick [] [] rfl ?_; exact kt c
  · refine s_pick [] [] rfl ?_; exact kf c
theorem bX6_isPlace_15 {l : Launch} {D : va_G} {aI aL : ClassId} {ad : Nat → Nat} {P : sa_P} {I : sa_I} {J : sa_J}    (k : Sat (EC l D aI aL ad) M_X6_isPlace P 20 [] [.int (1 : Int32)] I J) : Sat (EC l D aI aL ad) M_X6_isPlace P 15 [] [] I J := by
  refine s_iconst (v := 1) dX6_isPlace_15 rfl ?_
  refine s_goto (tgt := 20) dX6_isPlace_16 (by decide) ?_
  exact k
theorem bX6_isPlace_19 {l : Launch} {D : va_G} {aI aL : ClassId} {ad : Nat → Nat} {P : sa_P} {I : sa_I} {J : sa_J}    (k : Sat (EC l D aI aL ad) M_X6_isPlace P 20 [] [.int (0 : Int32)] I J) : Sat (EC l D aI aL ad) M_X6_isPlace P 19 [] [] I J := by
  refine s_iconst (v := 0) dX6_isPlace_19 rfl ?_
  exact k
theorem bX6_isPlace_20 {l : Launch} {D : va_G} {aI aL : ClassId} {ad : Nat → Nat} {P : sa_P} {I : sa_I} {J : sa_J} {s0 : Int32} (hz : narrow .boolean (.int s0) = .int s0)  (k : P (some (.int s0)) I J) : Sat (EC l D aI aL ad) M_X6_isPlace P 20 [] [.int s0] I J := by
  exact s_zret hz rfl dX6_isPlace_20 k
/-! X6_isElement -/
theorem dX6_isElement_0 : decode cX6_isElement 0 = .ok (.iload_n 1, 1) := by decide +kernel
theorem dX6_isElement_1 : decode cX6_isElement 1 = .ok (.ifCond .lt 15, 3) := by decide +kernel
theorem dX6_isElement_4 : decode cX6_isElement 4 = .ok (.iload_n 1, 1) := by decide +kernel
theorem dX6_isElement_5 : decode cX6_isElement 5 = .ok (.aload_n 0, 1) := by decide +kernel
theorem dX6_isElement_6 : decode cX6_isElement 6 = .ok (.getfield 259, 3) := by decide +kernel
theorem dX6_isElement_9 : decode cX6_isElement 9 = .ok (.if_icmp .ge 7, 3) := by decide +kernel
theorem dX6_isElement_12 : decode cX6_isElement 12 = .ok (.iconst 1, 1) := by decide +kernel
theorem dX6_isElement_13 : decode cX6_isElement 13 = .ok (.goto 4, 3) := by decide +kernel
theorem dX6_isElement_16 : decode cX6_isElement 16 = .ok (.iconst 0, 1) := by decide +kernel
theorem dX6_isElement_17 : decode cX6_isElement 17 = .ok (.ireturn, 1) := by decide +kernel
theorem bX6_isElement_0 {l : Launch} {D : va_G} {aI aL : ClassId} {ad : Nat → Nat} {P : sa_P} {I : sa_I} {J : sa_J} {x1 : Int32}   (kt : x1 < 0 → Sat (EC l D aI aL ad) M_X6_isElement P 16 [] [] I J) (kf : ¬ x1 < 0 → Sat (EC l D aI aL ad) M_X6_isElement P 4 [(0, .ref (ad 0)), (1, .int x1)] [] I J) : Sat (EC l D aI aL ad) M_X6_isElement P 0 [(0, .ref (ad 0)), (1, .int x1)] [] I J := by
  refine s_iload_n 1 dX6_isElement_0 rfl ?_
  refine s_if_lt (tgt := 16) dX6_isElement_1 (by decide) (fun c => ?_) (fun c => ?_)
  · refine s_pick [] [] rfl ?_; exact kt c
  · exact kf c
theorem bX6_isElement_4 {l : Launch} {D : va_G} {aI aL : ClassId} {ad : Nat → Nat} {P : sa_P} {I : sa_I} {J : sa_J} {x1 : Int32}   (kt : I 0 8 ≤ x1 → Sat (EC l D aI aL ad) M_X6_isElement P 16 [] [] I J) (kf : ¬ I 0 8 ≤ x1 → Sat (EC l D aI aL ad) M_X6_isElement P 12 [] [] I J) : Sat (EC l D aI aL ad) M_X6_isElement P 4 [(0, .ref (ad 0)), (1, .int x1)] [] I J := by
  refine s_iload_n 1 dX6_isElement_4 rfl ?_
  refine s_aload_n 0 dX6_isElement_5 rfl ?_
  refine g_X6_259 dX6_isElement_6 rfl ?_
  refine s_icmp_ge (tgt := 16) dX6_isElement_9 (by decide) (fun c => ?_) (fun c => ?_)
  · refine s_pick [] [] rfl ?_; exact kt c
  · refine s_pick [] [] rfl ?_; exact kf c
theorem bX6_isElement_12 {l : Launch} {D : va_G} {aI aL : ClassId} {ad : Nat → Nat} {P : sa_P} {I : sa_I} {J : sa_J}    (k : Sat (EC l D aI aL ad) M_X6_isElement P 17 [] [.int (1 : Int32)] I J) : Sat (EC l D aI aL ad) M_X6_isElement P 12 [] [] I J := by
  refine s_iconst (v := 1) dX6_isElement_12 rfl ?_
  refine s_goto (tgt := 17) dX6_isElement_13 (by decide) ?_
  exact k
theorem bX6_isElement_16 {l : Launch} {D : va_G} {aI aL : ClassId} {ad : Nat → Nat} {P : sa_P} {I : sa_I} {J : sa_J}    (k : Sat (EC l D aI aL ad) M_X6_isElement P 17 [] [.int (0 : Int32)] I J) : Sat (EC l D aI aL ad) M_X6_isElement P 16 [] [] I J := by
  refine s_iconst (v := 0) dX6_isElement_16 rfl ?_
  exact k
theorem bX6_isElement_17 {l : Launch} {D : va_G} {aI aL : ClassId} {ad : Nat → Nat} {P : sa_P} {I : sa_I} {J : sa_J} {s0 : Int32} (hz : narrow .boolean (.int s0) = .int s0)  (k : P (some (.int s0)) I J) : Sat (EC l D aI aL ad) M_X6_isElement P 17 [] [.int s0] I J := by
  exact s_zret hz rfl dX6_isElement_17 k
/-! X6_isIdeal -/
theorem dX6_isIdeal_0 : decode cX6_isIdeal 0 = .ok (.iload_n 1, 1) := by decide +kernel
theorem dX6_isIdeal_1 : decode cX6_isIdeal 1 = .ok (.ifCond .lt 15, 3) := by decide +kernel
theorem dX6_isIdeal_4 : decode cX6_isIdeal 4 = .ok (.iload_n 1, 1) := by decide +kernel
theorem dX6_isIdeal_5 : decode cX6_isIdeal 5 = .ok (.aload_n 0, 1) := by decide +kernel
theorem dX6_isIdeal_6 : decode cX6_isIdeal 6 = .ok (.getfield 262, 3) := by decide +kernel
theorem dX6_isIdeal_9 : decode cX6_isIdeal 9 = .ok (.if_icmp .ge 7, 3) := by decide +kernel
theorem dX6_isIdeal_12 : decode cX6_isIdeal 12 = .ok (.iconst 1, 1) := by decide +kernel
theorem dX6_isIdeal_13 : decode cX6_isIdeal 13 = .ok (.goto 4, 3) := by decide +kernel
theorem dX6_isIdeal_16 : decode cX6_isIdeal 16 = .ok (.iconst 0, 1) := by decide +kernel
theorem dX6_isIdeal_17 : decode cX6_isIdeal 17 = .ok (.ireturn, 1) := by decide +kernel
theorem bX6_isIdeal_0 {l : Launch} {D : va_G} {aI aL : ClassId} {ad : Nat → Nat} {P : sa_P} {I : sa_I} {J : sa_J} {x1 : Int32}   (kt : x1 < 0 → Sat (EC l D aI aL ad) M_X6_isIdeal P 16 [] [] I J) (kf : ¬ x1 < 0 → Sat (EC l D aI aL ad) M_X6_isIdeal P 4 [(0, .ref (ad 0)), (1, .int x1)] [] I J) : Sat (EC l D aI aL ad) M_X6_isIdeal P 0 [(0, .ref (ad 0)), (1, .int x1)] [] I J := by
  refine s_iload_n 1 dX6_isIdeal_0 rfl ?_
  refine s_if_lt (tgt := 16) dX6_isIdeal_1 (by decide) (fun c => ?_) (fun c => ?_)
  · refine s_pick [] [] rfl ?_; exact kt c
  · exact kf c
theorem bX6_isIdeal_4 {l : Launch} {D : va_G} {aI aL : ClassId} {ad : Nat → Nat} {P : sa_P} {I : sa_I} {J : sa_J} {x1 : Int32}   (kt : I 0 9 ≤ x1 → Sat (EC l D aI aL ad) M_X6_isIdeal P 16 [] [] I J) (kf : ¬ I 0 9 ≤ x1 → Sat (EC l D aI aL ad) M_X6_isIdeal P 12 [] [] I J) : Sat (EC l D aI aL ad) M_X6_isIdeal P 4 [(0, .ref (ad 0)), (1, .int x1)] [] I J := by
  refine s_iload_n 1 dX6_isIdeal_4 rfl ?_
  refine s_aload_n 0 dX6_isIdeal_5 rfl ?_
  refine g_X6_262 dX6_isIdeal_6 rfl ?_
  refine s_icmp_ge (tgt := 16) dX6_isIdeal_9 (by decide) (fun c => ?_) (fun c => ?_)
  · refine s_pick [] [] rfl ?_; exact kt c
  · refine s_pick [] [] rfl ?_; exact kf c
theorem bX6_isIdeal_12 {l : Launch} {D : va_G} {aI aL : ClassId} {ad : Nat → Nat} {P : sa_P} {I : sa_I} {J : sa_J}    (k : Sat (EC l D aI aL ad) M_X6_isIdeal P 17 [] [.int (1 : Int32)] I J) : Sat (EC l D aI aL ad) M_X6_isIdeal P 12 [] [] I J := by
  refine s_iconst (v := 1) dX6_isIdeal_12 rfl ?_
  refine s_goto (tgt := 17) dX6_isIdeal_13 (by decide) ?_
  exact k
theorem bX6_isIdeal_16 {l : Launch} {D : va_G} {aI aL : ClassId} {ad : Nat → Nat} {P : sa_P} {I : sa_I} {J : sa_J}    (k : Sat (EC l D aI aL ad) M_X6_isIdeal P 17 [] [.int (0 : Int32)] I J) : Sat (EC l D aI aL ad) M_X6_isIdeal P 16 [] [] I J := by
  refine s_iconst (v := 0) dX6_isIdeal_16 rfl ?_
  exact k
theorem bX6_isIdeal_17 {l : Launch} {D : va_G} {aI aL : ClassId} {ad : Nat → Nat} {P : sa_P} {I : sa_I} {J : sa_J} {s0 : Int32} (hz : narrow .boolean (.int s0) = .int s0)  (k : P (some (.int s0)) I J) : Sat (EC l D aI aL ad) M_X6_isIdeal P 17 [] [.int s0] I J := by
  exact s_zret hz rfl dX6_isIdeal_17 k
/-! X6_hasPrime -/
theorem dX6_hasPrime_0 : decode cX6_hasPrime 0 = .ok (.iload_n 1, 1) := by decide +kernel
theorem dX6_hasPrime_1 : decode cX6_hasPrime 1 = .ok (.invokestatic 198, 3) := by decide +kernel
theorem dX6_hasPrime_4 : decode cX6_hasPrime 4 = .ok (.ifCond .ne 5, 3) := by decide +kernel
theorem dX6_hasPrime_7 : decode cX6_hasPrime 7 = .ok (.iconst 0, 1) := by decide +kernel
theorem dX6_hasPrime_8 : decode cX6_hasPrime 8 = .ok (.ireturn, 1) := by decide +kernel
theorem dX6_hasPrime_9 : decode cX6_hasPrime 9 = .ok (.aload_n 0, 1) := by decide +kernel
theorem dX6_hasPrime_10 : decode cX6_hasPrime 10 = .ok (.getfield 41, 3) := by decide +kernel
theorem dX6_hasPrime_13 : decode cX6_hasPrime 13 = .ok (.iload_n 1, 1) := by decide +kernel
theorem dX6_hasPrime_14 : decode cX6_hasPrime 14 = .ok (.invokevirtual 201, 3) := by decide +kernel
theorem dX6_hasPrime_17 : decode cX6_hasPrime 17 = .ok (.iload_n 2, 1) := by decide +kernel
theorem dX6_hasPrime_18 : decode cX6_hasPrime 18 = .ok (.ifCond .lt 18, 3) := by decide +kernel
theorem dX6_hasPrime_21 : decode cX6_hasPrime 21 = .ok (.iload_n 2, 1) := by decide +kernel
theorem dX6_hasPrime_22 : decode cX6_hasPrime 22 = .ok (.aload_n 0, 1) := by decide +kernel
theorem dX6_hasPrime_23 : decode cX6_hasPrime 23 = .ok (.getfield 41, 3) := by decide +kernel
theorem dX6_hasPrime_26 : decode cX6_hasPrime 26 = .ok (.getfield 205, 3) := by decide +kernel
theorem dX6_hasPrime_29 : decode cX6_hasPrime 29 = .ok (.if_icmp .ge 7, 3) := by decide +kernel
theorem dX6_hasPrime_32 : decode cX6_hasPrime 32 = .ok (.iconst 1, 1) := by decide +kernel
theorem dX6_hasPrime_33 : decode cX6_hasPrime 33 = .ok (.goto 4, 3) := by decide +kernel
theorem dX6_hasPrime_36 : decode cX6_hasPrime 36 = .ok (.iconst 0, 1) := by decide +kernel
theorem dX6_hasPrime_37 : decode cX6_hasPrime 37 = .ok (.ireturn, 1) := by decide +kernel
theorem bX6_hasPrime_0 {l : Launch} {D : va_G} {aI aL : ClassId} {ad : Nat → Nat} {P : sa_P} {I : sa_I} {J : sa_J} {x1 : Int32} {x2 : Int32}   (k : Sat (EC l D aI aL ad) M_X6_hasPrime P 1 [(0, .ref (ad 0)), (1, .int x1), (2, .int x2)] [.int x1] I J) : Sat (EC l D aI aL ad) M_X6_hasPrime P 0 [(0, .ref (ad 0)), (1, .int x1), (2, .int x2)] [] I J := by
  refine s_iload_n 1 dX6_hasPrime_0 rfl ?_
  exact k
theorem bX6_hasPrime_4 {l : Launch} {D : va_G} {aI aL : ClassId} {ad : Nat → Nat} {P : sa_P} {I : sa_I} {J : sa_J} {x1 : Int32} {x2 : Int32} {s0 : Int32}   (kt : ¬ s0 = 0 → Sat (EC l D aI aL ad) M_X6_hasPrime P 9 [(0, .ref (ad 0)), (1, .int x1), (2, .int x2)] [] I J) (kf : s0 = 0 → Sat (EC l D aI aL ad) M_X6_hasPrime P 7 [] [] I J) : Sat (EC l D aI aL ad) M_X6_hasPrime P 4 [(0, .ref (ad 0)), (1, .int x1), (2, .int x2)] [.int s0] I J := by
  refine s_if_ne (tgt := 9) dX6_hasPrime_4 (by decide) (fun c => ?_) (fun c => ?_)
  · exact kt c
  · refine s_pick [] [] rfl ?_; exact kf (by first | exact c | exact Classical.not_not.mp c)
theorem bX6_hasPrime_7 {l : Launch} {D : va_G} {aI aL : ClassId} {ad : Nat → Nat} {P : sa_P} {I : sa_I} {J : sa_J}    (k : P (some (.int (0 : Int32))) I J) : Sat (EC l D aI aL ad) M_X6_hasPrime P 7 [] [] I J := by
  refine s_iconst (v := 0) dX6_hasPrime_7 rfl ?_
  exact s_zret rfl rfl dX6_hasPrime_8 k
theorem bX6_hasPrime_9 {l : Launch} {D : va_G} {aI aL : ClassId} {ad : Nat → Nat} {P : sa_P} {I : sa_I} {J : sa_J} {x1 : Int32} {x2 : Int32}   (k : Sat (EC l D aI aL ad) M_X6_hasPrime P 14 [(0, .ref (ad 0)), (2, .int x2)] [.int x1, .ref (ad 21)] I J) : Sat (EC l D aI aL ad) M_X6_hasPrime P 9 [(0, .ref (ad 0)), (1, .int x1), (2, .int x2)] [] I J := by
  refine s_aload_n 0 dX6_hasPrime_9 rfl ?_
  refine g_X6_41 dX6_hasPrime_10 rfl ?_
  refine s_iload_n 1 dX6_hasPrime_13 rfl ?_
  refine s_pick [0, 2] [(0, .ref (ad 0)), (2, .int x2)] rfl ?_; exact k
theorem bX6_hasPrime_17 {l : Launch} {D : va_G} {aI aL : ClassId} {ad : Nat → Nat} {P : sa_P} {I : sa_I} {J : sa_J} {x2 : Int32}   (kt : x2 < 0 → Sat (EC l D aI aL ad) M_X6_hasPrime P 36 [] [] I J) (kf : ¬ x2 < 0 → Sat (EC l D aI aL ad) M_X6_hasPrime P 21 [(0, .ref (ad 0)), (2, .int x2)] [] I J) : Sat (EC l D aI aL ad) M_X6_hasPrime P 17 [(0, .ref (ad 0)), (2, .int x2)] [] I J := by
  refine s_iload_n 1 dX6_hasPrime_17 rfl ?_
  refine s_if_lt (tgt := 36) dX6_hasPrime_18 (by decide) (fun c => ?_) (fun c => ?_)
  · refine s_pick [] [] rfl ?_; exact kt c
  · exact kf c
theorem bX6_hasPrime_21 {l : Launch} {D : va_G} {aI aL : ClassId} {ad : Nat → Nat} {P : sa_P} {I : sa_I} {J : sa_J} {x2 : Int32}   (kt : I 21 0 ≤ x2 → Sat (EC l D aI aL ad) M_X6_hasPrime P 36 [] [] I J) (kf : ¬ I 21 0 ≤ x2 → Sat (EC l D aI aL ad) M_X6_hasPrime P 32 [] [] I J) : Sat (EC l D aI aL ad) M_X6_hasPrime P 21 [(0, .ref (ad 0)), (2, .int x2)] [] I J := by
  refine s_iload_n 1 dX6_hasPrime_21 rfl ?_
  refine s_aload_n 0 dX6_hasPrime_22 rfl ?_
  refine g_X6_41 dX6_hasPrime_23 rfl ?_
  refine g_X6_205 dX6_hasPrime_26 rfl ?_
  refine s_icmp_ge (tgt := 36) dX6_hasPrime_29 (by decide) (fun c => ?_) (fun c => ?_)
  · refine s_pick [] [] rfl ?_; exact kt c
  · refine s_pick [] [] rfl ?_; exact kf c
theorem bX6_hasPrime_32 {l : Launch} {D : va_G} {aI aL : ClassId} {ad : Nat → Nat} {P : sa_P} {I : sa_I} {J : sa_J}    (k : Sat (EC l D aI aL ad) M_X6_hasPrime P 37 [] [.int (1 : Int32)] I J) : Sat (EC l D aI aL ad) M_X6_hasPrime P 32 [] [] I J := by
  refine s_iconst (v := 1) dX6_hasPrime_32 rfl ?_
  refine s_goto (tgt := 37) dX6_hasPrime_33 (by decide) ?_
  exact k
theorem bX6_hasPrime_36 {l : Launch} {D : va_G} {aI aL : ClassId} {ad : Nat → Nat} {P : sa_P} {I : sa_I} {J : sa_J}    (k : Sat (EC l D aI aL ad) M_X6_hasPrime P 37 [] [.int (0 : Int32)] I J) : Sat (EC l D aI aL ad) M_X6_hasPrime P 36 [] [] I J := by
  refine s_iconst (v := 0) dX6_hasPrime_36 rfl ?_
  exact k
theorem bX6_hasPrime_37 {l : Launch} {D : va_G} {aI aL : ClassId} {ad : Nat → Nat} {P : sa_P} {I : sa_I} {J : sa_J} {s0 : Int32} (hz : narrow .boolean (.int s0) = .int s0)  (k : P (some (.int s0)) I J) : Sat (EC l D aI aL ad) M_X6_hasPrime P 37 [] [.int s0] I J := by
  exact s_zret hz rfl dX6_hasPrime_37 k
/-! X6_keepElement -/
theorem dX6_keepElement_0 : decode cX6_keepElement 0 = .ok (.iconst 0, 1) := by decide +kernel
theorem dX6_keepElement_1 : decode cX6_keepElement 1 = .ok (.istore_n 1, 1) := by decide +kernel
theorem dX6_keepElement_2 : decode cX6_keepElement 2 = .ok (.iload_n 1, 1) := by decide +kernel
theorem dX6_keepElement_3 : decode cX6_keepElement 3 = .ok (.iconst 3, 1) := by decide +kernel
theorem dX6_keepElement_4 : decode cX6_keepElement 4 = .ok (.if_icmp .ge 32, 3) := by decide +kernel
theorem dX6_keepElement_7 : decode cX6_keepElement 7 = .ok (.aload_n 0, 1) := by decide +kernel
theorem dX6_keepElement_8 : decode cX6_keepElement 8 = .ok (.getfield 23, 3) := by decide +kernel
theorem dX6_keepElement_11 : decode cX6_keepElement 11 = .ok (.getfield 122, 3) := by decide +kernel
theorem dX6_keepElement_14 : decode cX6_keepElement 14 = .ok (.iload_n 1, 1) := by decide +kernel
theorem dX6_keepElement_15 : decode cX6_keepElement 15 = .ok (.laload, 1) := by decide +kernel
theorem dX6_keepElement_16 : decode cX6_keepElement 16 = .ok (.ldc2_w 272, 3) := by decide +kernel
theorem dX6_keepElement_19 : decode cX6_keepElement 19 = .ok (.lcmp, 1) := by decide +kernel
theorem dX6_keepElement_20 : decode cX6_keepElement 20 = .ok (.ifCond .ge 10, 3) := by decide +kernel
theorem dX6_keepElement_23 : decode cX6_keepElement 23 = .ok (.aload_n 0, 1) := by decide +kernel
theorem dX6_keepElement_24 : decode cX6_keepElement 24 = .ok (.bipush (-4), 2) := by decide +kernel
theorem dX6_keepElement_26 : decode cX6_keepElement 26 = .ok (.invokevirtual 59, 3) := by decide +kernel
theorem dX6_keepElement_29 : decode cX6_keepElement 29 = .ok (.ireturn, 1) := by decide +kernel
theorem dX6_keepElement_30 : decode cX6_keepElement 30 = .ok (.iinc 1 1, 3) := by decide +kernel
theorem dX6_keepElement_33 : decode cX6_keepElement 33 = .ok (.goto (-31), 3) := by decide +kernel
theorem dX6_keepElement_36 : decode cX6_keepElement 36 = .ok (.iconst 0, 1) := by decide +kernel
theorem dX6_keepElement_37 : decode cX6_keepElement 37 = .ok (.istore_n 1, 1) := by decide +kernel
theorem dX6_keepElement_38 : decode cX6_keepElement 38 = .ok (.iload_n 1, 1) := by decide +kernel
theorem dX6_keepElement_39 : decode cX6_keepElement 39 = .ok (.iconst 3, 1) := by decide +kernel
theorem dX6_keepElement_40 : decode cX6_keepElement 40 = .ok (.if_icmp .ge 32, 3) := by decide +kernel
theorem dX6_keepElement_43 : decode cX6_keepElement 43 = .ok (.aload_n 0, 1) := by decide +kernel
theorem dX6_keepElement_44 : decode cX6_keepElement 44 = .ok (.getfield 23, 3) := by decide +kernel
theorem dX6_keepElement_47 : decode cX6_keepElement 47 = .ok (.getfield 122, 3) := by decide +kernel
theorem dX6_keepElement_50 : decode cX6_keepElement 50 = .ok (.iload_n 1, 1) := by decide +kernel
theorem dX6_keepElement_51 : decode cX6_keepElement 51 = .ok (.laload, 1) := by decide +kernel
theorem dX6_keepElement_52 : decode cX6_keepElement 52 = .ok (.ldc2_w 274, 3) := by decide +kernel
theorem dX6_keepElement_55 : decode cX6_keepElement 55 = .ok (.lcmp, 1) := by decide +kernel
theorem dX6_keepElement_56 : decode cX6_keepElement 56 = .ok (.ifCond .le 10, 3) := by decide +kernel
theorem dX6_keepElement_59 : decode cX6_keepElement 59 = .ok (.aload_n 0, 1) := by decide +kernel
theorem dX6_keepElement_60 : decode cX6_keepElement 60 = .ok (.bipush (-6), 2) := by decide +kernel
theorem dX6_keepElement_62 : decode cX6_keepElement 62 = .ok (.invokevirtual 59, 3) := by decide +kernel
theorem dX6_keepElement_65 : decode cX6_keepElement 65 = .ok (.ireturn, 1) := by decide +kernel
theorem dX6_keepElement_66 : decode cX6_keepElement 66 = .ok (.iinc 1 1, 3) := by decide +kernel
theorem dX6_keepElement_69 : decode cX6_keepElement 69 = .ok (.goto (-31), 3) := by decide +kernel
theorem dX6_keepElement_72 : decode cX6_keepElement 72 = .ok (.aload_n 0, 1) := by decide +kernel
theorem dX6_keepElement_73 : decode cX6_keepElement 73 = .ok (.getfield 259, 3) := by decide +kernel
theorem dX6_keepElement_76 : decode cX6_keepElement 76 = .ok (.bipush 100, 2) := by decide +kernel
theorem dX6_keepElement_78 : decode cX6_keepElement 78 = .ok (.if_icmp .lt 10, 3) := by decide +kernel
theorem dX6_keepElement_81 : decode cX6_keepElement 81 = .ok (.aload_n 0, 1) := by decide +kernel
theorem dX6_keepElement_82 : decode cX6_keepElement 82 = .ok (.bipush (-6), 2) := by decide +kernel
theorem dX6_keepElement_84 : decode cX6_keepElement 84 = .ok (.invokevirtual 59, 3) := by decide +kernel
theorem dX6_keepElement_87 : decode cX6_keepElement 87 = .ok (.ireturn, 1) := by decide +kernel
theorem dX6_keepElement_88 : decode cX6_keepElement 88 = .ok (.aload_n 0, 1) := by decide +kernel
theorem dX6_keepElement_89 : decode cX6_keepElement 89 = .ok (.getfield 23, 3) := by decide +kernel
theorem dX6_keepElement_92 : decode cX6_keepElement 92 = .ok (.getfield 122, 3) := by decide +kernel
theorem dX6_keepElement_95 : decode cX6_keepElement 95 = .ok (.iconst 0, 1) := by decide +kernel
theorem dX6_keepElement_96 : decode cX6_keepElement 96 = .ok (.aload_n 0, 1) := by decide +kernel
theorem dX6_keepElement_97 : decode cX6_keepElement 97 = .ok (.getfield 13, 3) := by decide +kernel
theorem dX6_keepElement_100 : decode cX6_keepElement 100 = .ok (.iconst 3, 1) := by decide +kernel
theorem dX6_keepElement_101 : decode cX6_keepElement 101 = .ok (.aload_n 0, 1) := by decide +kernel
theorem dX6_keepElement_102 : decode cX6_keepElement 102 = .ok (.getfield 259, 3) := by decide +kernel
theorem dX6_keepElement_105 : decode cX6_keepElement 105 = .ok (.imul, 1) := by decide +kernel
theorem dX6_keepElement_106 : decode cX6_keepElement 106 = .ok (.iconst 3, 1) := by decide +kernel
theorem dX6_keepElement_107 : decode cX6_keepElement 107 = .ok (.invokestatic 276, 3) := by decide +kernel
theorem dX6_keepElement_110 : decode cX6_keepElement 110 = .ok (.aload_n 0, 1) := by decide +kernel
theorem dX6_keepElement_111 : decode cX6_keepElement 111 = .ok (.dup, 1) := by decide +kernel
theorem dX6_keepElement_112 : decode cX6_keepElement 112 = .ok (.getfield 259, 3) := by decide +kernel
theorem dX6_keepElement_115 : decode cX6_keepElement 115 = .ok (.iconst 1, 1) := by decide +kernel
theorem dX6_keepElement_116 : decode cX6_keepElement 116 = .ok (.iadd, 1) := by decide +kernel
theorem dX6_keepElement_117 : decode cX6_keepElement 117 = .ok (.putfield 259, 3) := by decide +kernel
theorem dX6_keepElement_120 : decode cX6_keepElement 120 = .ok (.aload_n 0, 1) := by decide +kernel
theorem dX6_keepElement_121 : decode cX6_keepElement 121 = .ok (.getfield 259, 3) := by decide +kernel
theorem dX6_keepElement_124 : decode cX6_keepElement 124 = .ok (.iconst 1, 1) := by decide +kernel
theorem dX6_keepElement_125 : decode cX6_keepElement 125 = .ok (.isub, 1) := by decide +kernel
theorem dX6_keepElement_126 : decode cX6_keepElement 126 = .ok (.ireturn, 1) := by decide +kernel
theorem bX6_keepElement_0 {l : Launch} {D : va_G} {aI aL : ClassId} {ad : Nat → Nat} {P : sa_P} {I : sa_I} {J : sa_J} {v1 : Int32}  (f1 : (0 : Int32) = v1) (k : Sat (EC l D aI aL ad) M_X6_keepElement P 2 [(0, .ref (ad 0)), (1, .int v1)] [] I J) : Sat (EC l D aI aL ad) M_X6_keepElement P 0 [(0, .ref (ad 0))] [] I J := by
  refine s_iconst (v := 0) dX6_keepElement_0 rfl ?_
  refine s_eqi f1 ?_
  refine s_istore_n [(1, .int v1), (0, .ref (ad 0))] dX6_keepElement_1 (Nat.lt_of_lt_of_le (Nat.lt_succ_self _) (Nat.le_of_ble_eq_true rfl)) rfl ?_
  refine s_pick [1, 0] [(0, .ref (ad 0)), (1, .int v1)] rfl ?_; exact k
theorem bX6_keepElement_2 {l : Launch} {D : va_G} {aI aL : ClassId} {ad : Nat → Nat} {P : sa_P} {I : sa_I} {J : sa_J} {x1 : Int32}   (kt : (3 : Int32) ≤ x1 → Sat (EC l D aI aL ad) M_X6_keepElement P 36 [(0, .ref (ad 0))] [] I J) (kf : ¬ (3 : Int32) ≤ x1 → Sat (EC l D aI aL ad) M_X6_keepElement P 7 [(0, .ref (ad 0)), (1, .int x1)] [] I J) : Sat (EC l D aI aL ad) M_X6_keepElement P 2 [(0, .ref (ad 0)), (1, .int x1)] [] I J := by
  refine s_iload_n 1 dX6_keepElement_2 rfl ?_
  refine s_iconst (v := 3) dX6_keepElement_3 rfl ?_
  refine s_icmp_ge (tgt := 36) dX6_keepElement_4 (by decide) (fun c => ?_) (fun c => ?_)
  · refine s_pick [0] [(0, .ref (ad 0))] rfl ?_; exact kt c
  · exact kf c
theorem bX6_keepElement_7 {l : Launch} {D : va_G} {aI aL : ClassId} {ad : Nat → Nat} {P : sa_P} {I : sa_I} {J : sa_J} {x1 : Int32} {j14 : Nat} (e14 : x1 = nI j14) (h15 : j14 < 3)  (kt : (-300 : Int64) ≤ J 9 j14 → Sat (EC l D aI aL ad) M_X6_keepElement P 30 [(0, .ref (ad 0)), (1, .int x1)] [] I J) (kf : ¬ (-300 : Int64) ≤ J 9 j14 → Sat (EC l D aI aL ad) M_X6_keepElement P 23 [(0, .ref (ad 0))] [] I J) : Sat (EC l D aI aL ad) M_X6_keepElement P 7 [(0, .ref (ad 0)), (1, .int x1)] [] I J := by
  refine s_aload_n 0 dX6_keepElement_7 rfl ?_
  refine g_X6_23 dX6_keepElement_8 rfl ?_
  refine g_X6_122 dX6_keepElement_11 rfl ?_
  refine s_iload_n 1 dX6_keepElement_14 rfl ?_
  refine s_eqi e14 ?_
  refine s_laloadN aJ_C9 h15 (by decide) dX6_keepElement_15 ?_
  refine s_ldc2 wk_X6_272 dX6_keepElement_16 ?_
  refine s_lif_ge (tgt := 30) dX6_keepElement_19 dX6_keepElement_20 (by decide) (fun c => ?_) (fun c => ?_)
  · exact kt c
  · refine s_pick [0] [(0, .ref (ad 0))] rfl ?_; exact kf c
theorem bX6_keepElement_23 {l : Launch} {D : va_G} {aI aL : ClassId} {ad : Nat → Nat} {P : sa_P} {I : sa_I} {J : sa_J}    (k : Sat (EC l D aI aL ad) M_X6_keepElement P 26 [] [.int (-4 : Int32), .ref (ad 0)] I J) : Sat (EC l D aI aL ad) M_X6_keepElement P 23 [(0, .ref (ad 0))] [] I J := by
  refine s_aload_n 0 dX6_keepElement_23 rfl ?_
  refine s_bipush (v := -4) dX6_keepElement_24 rfl ?_
  refine s_pick [] [] rfl ?_; exact k
theorem bX6_keepElement_29 {l : Launch} {D : va_G} {aI aL : ClassId} {ad : Nat → Nat} {P : sa_P} {I : sa_I} {J : sa_J} {s0 : Int32}   (k : P (some (.int s0)) I J) : Sat (EC l D aI aL ad) M_X6_keepElement P 29 [] [.int s0] I J := by
  exact s_iret rfl dX6_keepElement_29 k
theorem bX6_keepElement_30 {l : Launch} {D : va_G} {aI aL : ClassId} {ad : Nat → Nat} {P : sa_P} {I : sa_I} {J : sa_J} {x1 : Int32} {v30 : Int32}  (f30 : x1 + 1 = v30) (k : Sat (EC l D aI aL ad) M_X6_keepElement P 2 [(0, .ref (ad 0)), (1, .int v30)] [] I J) : Sat (EC l D aI aL ad) M_X6_keepElement P 30 [(0, .ref (ad 0)), (1, .int x1)] [] I J := by
  refine s_iinc 1 v30 [(1, .int v30), (0, .ref (ad 0))] dX6_keepElement_30 rfl f30 (Nat.lt_of_lt_of_le (Nat.lt_succ_self _) (Nat.le_of_ble_eq_true rfl)) rfl ?_
  refine s_goto (tgt := 2) dX6_keepElement_33 (by decide) ?_
  refine s_pick [1, 0] [(0, .ref (ad 0)), (1, .int v30)] rfl ?_; exact k
theorem bX6_keepElement_36 {l : Launch} {D : va_G} {aI aL : ClassId} {ad : Nat → Nat} {P : sa_P} {I : sa_I} {J : sa_J} {v37 : Int32}  (f37 : (0 : Int32) = v37) (k : Sat (EC l D aI aL ad) M_X6_keepElement P 38 [(0, .ref (ad 0)), (1, .int v37)] [] I J) : Sat (EC l D aI aL ad) M_X6_keepElement P 36 [(0, .ref (ad 0))] [] I J := by
  refine s_iconst (v := 0) dX6_keepElement_36 rfl ?_
  refine s_eqi f37 ?_
  refine s_istore_n [(1, .int v37), (0, .ref (ad 0))] dX6_keepElement_37 (Nat.lt_of_lt_of_le (Nat.lt_succ_self _) (Nat.le_of_ble_eq_true rfl)) rfl ?_
  refine s_pick [1, 0] [(0, .ref (ad 0)), (1, .int v37)] rfl ?_; exact k
theorem bX6_keepElement_38 {l : Launch} {D : va_G} {aI aL : ClassId} {ad : Nat → Nat} {P : sa_P} {I : sa_I} {J : sa_J} {x1 : Int32}   (kt : (3 : Int32) ≤ x1 → Sat (EC l D aI aL ad) M_X6_keepElement P 72 [(0, .ref (ad 0))] [] I J) (kf : ¬ (3 : Int32) ≤ x1 → Sat (EC l D aI aL ad) M_X6_keepElement P 43 [(0, .ref (ad 0)), (1, .int x1)] [] I J) : Sat (EC l D aI aL ad) M_X6_keepElement P 38 [(0, .ref (ad 0)), (1, .int x1)] [] I J := by
  refine s_iload_n 1 dX6_keepElement_38 rfl ?_
  refine s_iconst (v := 3) dX6_keepElement_39 rfl ?_
  refine s_icmp_ge (tgt := 72) dX6_keepElement_40 (by decide) (fun c => ?_) (fun c => ?_)
  · refine s_pick [0] [(0, .ref (ad 0))] rfl ?_; exact kt c
  · exact kf c
theorem bX6_keepElement_43 {l : Launch} {D : va_G} {aI aL : ClassId} {ad : Nat → Nat} {P : sa_P} {I : sa_I} {J : sa_J} {x1 : Int32} {j50 : Nat} (e50 : x1 = nI j50) (h51 : j50 < 3)  (kt : J 9 j50 ≤ (300 : Int64) → Sat (EC l D aI aL ad) M_X6_keepElement P 66 [(0, .ref (ad 0)), (1, .int x1)] [] I J) (kf : ¬ J 9 j50 ≤ (300 : Int64) → Sat (EC l D aI aL ad) M_X6_keepElement P 59 [(0, .ref (ad 0))] [] I J) : Sat (EC l D aI aL ad) M_X6_keepElement P 43 [(0, .ref (ad 0)), (1, .int x1)] [] I J := by
  refine s_aload_n 0 dX6_keepElement_43 rfl ?_
  refine g_X6_23 dX6_keepElement_44 rfl ?_
  refine g_X6_122 dX6_keepElement_47 rfl ?_
  refine s_iload_n 1 dX6_keepElement_50 rfl ?_
  refine s_eqi e50 ?_
  refine s_laloadN aJ_C9 h51 (by decide) dX6_keepElement_51 ?_
  refine s_ldc2 wk_X6_274 dX6_keepElement_52 ?_
  refine s_lif_le (tgt := 66) dX6_keepElement_55 dX6_keepElement_56 (by decide) (fun c => ?_) (fun c => ?_)
  · exact kt c
  · refine s_pick [0] [(0, .ref (ad 0))] rfl ?_; exact kf c
theorem bX6_keepElement_59 {l : Launch} {D : va_G} {aI aL : ClassId} {ad : Nat → Nat} {P : sa_P} {I : sa_I} {J : sa_J}    (k : Sat (EC l D aI aL ad) M_X6_keepElement P 62 [] [.int (-6 : Int32), .ref (ad 0)] I J) : Sat (EC l D aI aL ad) M_X6_keepElement P 59 [(0, .ref (ad 0))] [] I J := by
  refine s_aload_n 0 dX6_keepElement_59 rfl ?_
  refine s_bipush (v := -6) dX6_keepElement_60 rfl ?_
  refine s_pick [] [] rfl ?_; exact k
theorem bX6_keepElement_65 {l : Launch} {D : va_G} {aI aL : ClassId} {ad : Nat → Nat} {P : sa_P} {I : sa_I} {J : sa_J} {s0 : Int32}   (k : P (some (.int s0)) I J) : Sat (EC l D aI aL ad) M_X6_keepElement P 65 [] [.int s0] I J := by
  exact s_iret rfl dX6_keepElement_65 k
theorem bX6_keepElement_66 {l : Launch} {D : va_G} {aI aL : ClassId} {ad : Nat → Nat} {P : sa_P} {I : sa_I} {J : sa_J} {x1 : Int32} {v66 : Int32}  (f66 : x1 + 1 = v66) (k : Sat (EC l D aI aL ad) M_X6_keepElement P 38 [(0, .ref (ad 0)), (1, .int v66)] [] I J) : Sat (EC l D aI aL ad) M_X6_keepElement P 66 [(0, .ref (ad 0)), (1, .int x1)] [] I J := by
  refine s_iinc 1 v66 [(1, .int v66), (0, .ref (ad 0))] dX6_keepElement_66 rfl f66 (Nat.lt_of_lt_of_le (Nat.lt_succ_self _) (Nat.le_of_ble_eq_true rfl)) rfl ?_
  refine s_goto (tgt := 38) dX6_keepElement_69 (by decide) ?_
  refine s_pick [1, 0] [(0, .ref (ad 0)), (1, .int v66)] rfl ?_; exact k
theorem bX6_keepElement_72 {l : Launch} {D : va_G} {aI aL : ClassId} {ad : Nat → Nat} {P : sa_P} {I : sa_I} {J : sa_J}    (kt : I 0 8 < (100 : Int32) → Sat (EC l D aI aL ad) M_X6_keepElement P 88 [(0, .ref (ad 0))] [] I J) (kf : ¬ I 0 8 < (100 : Int32) → Sat (EC l D aI aL ad) M_X6_keepElement P 81 [(0, .ref (ad 0))] [] I J) : Sat (EC l D aI aL ad) M_X6_keepElement P 72 [(0, .ref (ad 0))] [] I J := by
  refine s_aload_n 0 dX6_keepElement_72 rfl ?_
  refine g_X6_259 dX6_keepElement_73 rfl ?_
  refine s_bipush (v := 100) dX6_keepElement_76 rfl ?_
  refine s_icmp_lt (tgt := 88) dX6_keepElement_78 (by decide) (fun c => ?_) (fun c => ?_)
  · exact kt c
  · exact kf c
theorem bX6_keepElement_81 {l : Launch} {D : va_G} {aI aL : ClassId} {ad : Nat → Nat} {P : sa_P} {I : sa_I} {J : sa_J}    (k : Sat (EC l D aI aL ad) M_X6_keepElement P 84 [] [.int (-6 : Int32), .ref (ad 0)] I J) : Sat (EC l D aI aL ad) M_X6_keepElement P 81 [(0, .ref (ad 0))] [] I J := by
  refine s_aload_n 0 dX6_keepElement_81 rfl ?_
  refine s_bipush (v := -6) dX6_keepElement_82 rfl ?_
  refine s_pick [] [] rfl ?_; exact k
theorem bX6_keepElement_87 {l : Launch} {D : va_G} {aI aL : ClassId} {ad : Nat → Nat} {P : sa_P} {I : sa_I} {J : sa_J} {s0 : Int32}   (k : P (some (.int s0)) I J) : Sat (EC l D aI aL ad) M_X6_keepElement P 87 [] [.int s0] I J := by
  exact s_iret rfl dX6_keepElement_87 k
theorem bX6_keepElement_88 {l : Launch} {D : va_G} {aI aL : ClassId} {ad : Nat → Nat} {P : sa_P} {I : sa_I} {J : sa_J}    (k : Sat (EC l D aI aL ad) M_X6_keepElement P 107 [(0, .ref (ad 0))] [.int (3 : Int32), .int ((3 : Int32) * (I 0 8)), .ref (ad 2), .int (0 : Int32), .ref (ad 9)] I J) : Sat (EC l D aI aL ad) M_X6_keepElement P 88 [(0, .ref (ad 0))] [] I J := by
  refine s_aload_n 0 dX6_keepElement_88 rfl ?_
  refine g_X6_23 dX6_keepElement_89 rfl ?_
  refine g_X6_122 dX6_keepElement_92 rfl ?_
  refine s_iconst (v := 0) dX6_keepElement_95 rfl ?_
  refine s_aload_n 0 dX6_keepElement_96 rfl ?_
  refine g_X6_13 dX6_keepElement_97 rfl ?_
  refine s_iconst (v := 3) dX6_keepElement_100 rfl ?_
  refine s_aload_n 0 dX6_keepElement_101 rfl ?_
  refine g_X6_259 dX6_keepElement_102 rfl ?_
  refine s_imul dX6_keepElement_105 ?_
  refine s_iconst (v := 3) dX6_keepElement_106 rfl ?_
  exact k
theorem bX6_keepElement_110 {l : Launch} {D : va_G} {aI aL : ClassId} {ad : Nat → Nat} {P : sa_P} {I : sa_I} {J : sa_J} {v117 : Int32}  (f117 : (I 0 8) + (1 : Int32) = v117) (k : P (some (.int (((sa_uI I 0 8 v117) 0 8) - (1 : Int32)))) (sa_uI I 0 8 v117) J) : Sat (EC l D aI aL ad) M_X6_keepElement P 110 [(0, .ref (ad 0))] [] I J := by
  refine s_aload_n 0 dX6_keepElement_110 rfl ?_
  refine s_dup dX6_keepElement_111 rfl ?_
  refine g_X6_259 dX6_keepElement_112 rfl ?_
  refine s_iconst (v := 1) dX6_keepElement_115 rfl ?_
  refine s_iadd dX6_keepElement_116 ?_
  refine s_eqi f117 ?_
  refine p_X6_259 dX6_keepElement_117 rfl ?_
  refine s_aload_n 0 dX6_keepElement_120 rfl ?_
  refine g_X6_259 dX6_keepElement_121 rfl ?_
  refine s_iconst (v := 1) dX6_keepElement_124 rfl ?_
  refine s_isub dX6_keepElement_125 ?_
  exact s_iret rfl dX6_keepElement_126 k
/-! X6_keepIdeal -/
theorem dX6_keepIdeal_0 : decode cX6_keepIdeal 0 = .ok (.aload_n 0, 1) := by decide +kernel
theorem dX6_keepIdeal_1 : decode cX6_keepIdeal 1 = .ok (.getfield 32, 3) := by decide +kernel
theorem dX6_keepIdeal_4 : decode cX6_keepIdeal 4 = .ok (.getfield 282, 3) := by decide +kernel
theorem dX6_keepIdeal_7 : decode cX6_keepIdeal 7 = .ok (.getfield 286, 3) := by decide +kernel
theorem dX6_keepIdeal_10 : decode cX6_keepIdeal 10 = .ok (.iconst 0, 1) := by decide +kernel
theorem dX6_keepIdeal_11 : decode cX6_keepIdeal 11 = .ok (.invokestatic 179, 3) := by decide +kernel
theorem dX6_keepIdeal_14 : decode cX6_keepIdeal 14 = .ok (.ldc2_w 163, 3) := by decide +kernel
theorem dX6_keepIdeal_17 : decode cX6_keepIdeal 17 = .ok (.lcmp, 1) := by decide +kernel
theorem dX6_keepIdeal_18 : decode cX6_keepIdeal 18 = .ok (.ifCond .gt 12, 3) := by decide +kernel
theorem dX6_keepIdeal_21 : decode cX6_keepIdeal 21 = .ok (.aload_n 0, 1) := by decide +kernel
theorem dX6_keepIdeal_22 : decode cX6_keepIdeal 22 = .ok (.getfield 262, 3) := by decide +kernel
theorem dX6_keepIdeal_25 : decode cX6_keepIdeal 25 = .ok (.bipush 80, 2) := by decide +kernel
theorem dX6_keepIdeal_27 : decode cX6_keepIdeal 27 = .ok (.if_icmp .lt 10, 3) := by decide +kernel
theorem dX6_keepIdeal_30 : decode cX6_keepIdeal 30 = .ok (.aload_n 0, 1) := by decide +kernel
theorem dX6_keepIdeal_31 : decode cX6_keepIdeal 31 = .ok (.bipush (-6), 2) := by decide +kernel
theorem dX6_keepIdeal_33 : decode cX6_keepIdeal 33 = .ok (.invokevirtual 59, 3) := by decide +kernel
theorem dX6_keepIdeal_36 : decode cX6_keepIdeal 36 = .ok (.ireturn, 1) := by decide +kernel
theorem dX6_keepIdeal_37 : decode cX6_keepIdeal 37 = .ok (.aload_n 0, 1) := by decide +kernel
theorem dX6_keepIdeal_38 : decode cX6_keepIdeal 38 = .ok (.getfield 32, 3) := by decide +kernel
theorem dX6_keepIdeal_41 : decode cX6_keepIdeal 41 = .ok (.getfield 282, 3) := by decide +kernel
theorem dX6_keepIdeal_44 : decode cX6_keepIdeal 44 = .ok (.getfield 286, 3) := by decide +kernel
theorem dX6_keepIdeal_47 : decode cX6_keepIdeal 47 = .ok (.iconst 0, 1) := by decide +kernel
theorem dX6_keepIdeal_48 : decode cX6_keepIdeal 48 = .ok (.aload_n 0, 1) := by decide +kernel
theorem dX6_keepIdeal_49 : decode cX6_keepIdeal 49 = .ok (.getfield 17, 3) := by decide +kernel
theorem dX6_keepIdeal_52 : decode cX6_keepIdeal 52 = .ok (.bipush 9, 2) := by decide +kernel
theorem dX6_keepIdeal_54 : decode cX6_keepIdeal 54 = .ok (.aload_n 0, 1) := by decide +kernel
theorem dX6_keepIdeal_55 : decode cX6_keepIdeal 55 = .ok (.getfield 262, 3) := by decide +kernel
theorem dX6_keepIdeal_58 : decode cX6_keepIdeal 58 = .ok (.imul, 1) := by decide +kernel
theorem dX6_keepIdeal_59 : decode cX6_keepIdeal 59 = .ok (.bipush 9, 2) := by decide +kernel
theorem dX6_keepIdeal_61 : decode cX6_keepIdeal 61 = .ok (.invokestatic 276, 3) := by decide +kernel
theorem dX6_keepIdeal_64 : decode cX6_keepIdeal 64 = .ok (.aload_n 0, 1) := by decide +kernel
theorem dX6_keepIdeal_65 : decode cX6_keepIdeal 65 = .ok (.dup, 1) := by decide +kernel
theorem dX6_keepIdeal_66 : decode cX6_keepIdeal 66 = .ok (.getfield 262, 3) := by decide +kernel
theorem dX6_keepIdeal_69 : decode cX6_keepIdeal 69 = .ok (.iconst 1, 1) := by decide +kernel
theorem dX6_keepIdeal_70 : decode cX6_keepIdeal 70 = .ok (.iadd, 1) := by decide +kernel
theorem dX6_keepIdeal_71 : decode cX6_keepIdeal 71 = .ok (.putfield 262, 3) := by decide +kernel
theorem dX6_keepIdeal_74 : decode cX6_keepIdeal 74 = .ok (.aload_n 0, 1) := by decide +kernel
theorem dX6_keepIdeal_75 : decode cX6_keepIdeal 75 = .ok (.getfield 262, 3) := by decide +kernel
theorem dX6_keepIdeal_78 : decode cX6_keepIdeal 78 = .ok (.iconst 1, 1) := by decide +kernel
theorem dX6_keepIdeal_79 : decode cX6_keepIdeal 79 = .ok (.isub, 1) := by decide +kernel
theorem dX6_keepIdeal_80 : decode cX6_keepIdeal 80 = .ok (.ireturn, 1) := by decide +kernel
theorem bX6_keepIdeal_0 {l : Launch} {D : va_G} {aI aL : ClassId} {ad : Nat → Nat} {P : sa_P} {I : sa_I} {J : sa_J}    (k : Sat (EC l D aI aL ad) M_X6_keepIdeal P 11 [(0, .ref (ad 0))] [.int (0 : Int32), .ref (ad 15)] I J) : Sat (EC l D aI aL ad) M_X6_keepIdeal P 0 [(0, .ref (ad 0))] [] I J := by
  refine s_aload_n 0 dX6_keepIdeal_0 rfl ?_
  refine g_X6_32 dX6_keepIdeal_1 rfl ?_
  refine g_X6_282 dX6_keepIdeal_4 rfl ?_
  refine g_X6_286 dX6_keepIdeal_7 rfl ?_
  refine s_iconst (v := 0) dX6_keepIdeal_10 rfl ?_
  exact k
theorem bX6_keepIdeal_14 {l : Launch} {D : va_G} {aI aL : ClassId} {ad : Nat → Nat} {P : sa_P} {I : sa_I} {J : sa_J} {s0 : Int64}   (kt : (1000000 : Int64) < s0 → Sat (EC l D aI aL ad) M_X6_keepIdeal P 30 [(0, .ref (ad 0))] [] I J) (kf : ¬ (1000000 : Int64) < s0 → Sat (EC l D aI aL ad) M_X6_keepIdeal P 21 [(0, .ref (ad 0))] [] I J) : Sat (EC l D aI aL ad) M_X6_keepIdeal P 14 [(0, .ref (ad 0))] [.long s0] I J := by
  refine s_ldc2 wk_X6_163 dX6_keepIdeal_14 ?_
  refine s_lif_gt (tgt := 30) dX6_keepIdeal_17 dX6_keepIdeal_18 (by decide) (fun c => ?_) (fun c => ?_)
  · exact kt c
  · exact kf c
theorem bX6_keepIdeal_21 {l : Launch} {D : va_G} {aI aL : ClassId} {ad : Nat → Nat} {P : sa_P} {I : sa_I} {J : sa_J}    (kt : I 0 9 < (80 : Int32) → Sat (EC l D aI aL ad) M_X6_keepIdeal P 37 [(0, .ref (ad 0))] [] I J) (kf : ¬ I 0 9 < (80 : Int32) → Sat (EC l D aI aL ad) M_X6_keepIdeal P 30 [(0, .ref (ad 0))] [] I J) : Sat (EC l D aI aL ad) M_X6_keepIdeal P 21 [(0, .ref (ad 0))] [] I J := by
  refine s_aload_n 0 dX6_keepIdeal_21 rfl ?_
  refine g_X6_262 dX6_keepIdeal_22 rfl ?_
  refine s_bipush (v := 80) dX6_keepIdeal_25 rfl ?_
  refine s_icmp_lt (tgt := 37) dX6_keepIdeal_27 (by decide) (fun c => ?_) (fun c => ?_)
  · exact kt c
  · exact kf c
theorem bX6_keepIdeal_30 {l : Launch} {D : va_G} {aI aL : ClassId} {ad : Nat → Nat} {P : sa_P} {I : sa_I} {J : sa_J}    (k : Sat (EC l D aI aL ad) M_X6_keepIdeal P 33 [] [.int (-6 : Int32), .ref (ad 0)] I J) : Sat (EC l D aI aL ad) M_X6_keepIdeal P 30 [(0, .ref (ad 0))] [] I J := by
  refine s_aload_n 0 dX6_keepIdeal_30 rfl ?_
  refine s_bipush (v := -6) dX6_keepIdeal_31 rfl ?_
  refine s_pick [] [] rfl ?_; exact k
theorem bX6_keepIdeal_36 {l : Launch} {D : va_G} {aI aL : ClassId} {ad : Nat → Nat} {P : sa_P} {I : sa_I} {J : sa_J} {s0 : Int32}   (k : P (some (.int s0)) I J) : Sat (EC l D aI aL ad) M_X6_keepIdeal P 36 [] [.int s0] I J := by
  exact s_iret rfl dX6_keepIdeal_36 k
theorem bX6_keepIdeal_37 {l : Launch} {D : va_G} {aI aL : ClassId} {ad : Nat → Nat} {P : sa_P} {I : sa_I} {J : sa_J}    (k : Sat (EC l D aI aL ad) M_X6_keepIdeal P 61 [(0, .ref (ad 0))] [.int (9 : Int32), .int ((9 : Int32) * (I 0 9)), .ref (ad 3), .int (0 : Int32), .ref (ad 15)] I J) : Sat (EC l D aI aL ad) M_X6_keepIdeal P 37 [(0, .ref (ad 0))] [] I J := by
  refine s_aload_n 0 dX6_keepIdeal_37 rfl ?_
  refine g_X6_32 dX6_keepIdeal_38 rfl ?_
  refine g_X6_282 dX6_keepIdeal_41 rfl ?_
  refine g_X6_286 dX6_keepIdeal_44 rfl ?_
  refine s_iconst (v := 0) dX6_keepIdeal_47 rfl ?_
  refine s_aload_n 0 dX6_keepIdeal_48 rfl ?_
  refine g_X6_17 dX6_keepIdeal_49 rfl ?_
  refine s_bipush (v := 9) dX6_keepIdeal_52 rfl ?_
  refine s_aload_n 0 dX6_keepIdeal_54 rfl ?_
  refine g_X6_262 dX6_keepIdeal_55 rfl ?_
  refine s_imul dX6_keepIdeal_58 ?_
  refine s_bipush (v := 9) dX6_keepIdeal_59 rfl ?_
  exact k
theorem bX6_keepIdeal_64 {l : Launch} {D : va_G} {aI aL : ClassId} {ad : Nat → Nat} {P : sa_P} {I : sa_I} {J : sa_J} {v71 : Int32}  (f71 : (I 0 9) + (1 : Int32) = v71) (k : P (some (.int (((sa_uI I 0 9 v71) 0 9) - (1 : Int32)))) (sa_uI I 0 9 v71) J) : Sat (EC l D aI aL ad) M_X6_keepIdeal P 64 [(0, .ref (ad 0))] [] I J := by
  refine s_aload_n 0 dX6_keepIdeal_64 rfl ?_
  refine s_dup dX6_keepIdeal_65 rfl ?_
  refine g_X6_262 dX6_keepIdeal_66 rfl ?_
  refine s_iconst (v := 1) dX6_keepIdeal_69 rfl ?_
  refine s_iadd dX6_keepIdeal_70 ?_
  refine s_eqi f71 ?_
  refine p_X6_262 dX6_keepIdeal_71 rfl ?_
  refine s_aload_n 0 dX6_keepIdeal_74 rfl ?_
  refine g_X6_262 dX6_keepIdeal_75 rfl ?_
  refine s_iconst (v := 1) dX6_keepIdeal_78 rfl ?_
  refine s_isub dX6_keepIdeal_79 ?_
  exact s_iret rfl dX6_keepIdeal_80 k
/-! X6_normOfRows -/
theorem dX6_normOfRows_0 : decode cX6_normOfRows 0 = .ok (.aload_n 0, 1) := by decide +kernel
theorem dX6_normOfRows_1 : decode cX6_normOfRows 1 = .ok (.iload_n 1, 1) := by decide +kernel
theorem dX6_normOfRows_2 : decode cX6_normOfRows 2 = .ok (.laload, 1) := by decide +kernel
theorem dX6_normOfRows_3 : decode cX6_normOfRows 3 = .ok (.aload_n 0, 1) := by decide +kernel
theorem dX6_normOfRows_4 : decode cX6_normOfRows 4 = .ok (.iload_n 1, 1) := by decide +kernel
theorem dX6_normOfRows_5 : decode cX6_normOfRows 5 = .ok (.iconst 4, 1) := by decide +kernel
theorem dX6_normOfRows_6 : decode cX6_normOfRows 6 = .ok (.iadd, 1) := by decide +kernel
theorem dX6_normOfRows_7 : decode cX6_normOfRows 7 = .ok (.laload, 1) := by decide +kernel
theorem dX6_normOfRows_8 : decode cX6_normOfRows 8 = .ok (.lmul, 1) := by decide +kernel
theorem dX6_normOfRows_9 : decode cX6_normOfRows 9 = .ok (.aload_n 0, 1) := by decide +kernel
theorem dX6_normOfRows_10 : decode cX6_normOfRows 10 = .ok (.iload_n 1, 1) := by decide +kernel
theorem dX6_normOfRows_11 : decode cX6_normOfRows 11 = .ok (.bipush 8, 2) := by decide +kernel
theorem dX6_normOfRows_13 : decode cX6_normOfRows 13 = .ok (.iadd, 1) := by decide +kernel
theorem dX6_normOfRows_14 : decode cX6_normOfRows 14 = .ok (.laload, 1) := by decide +kernel
theorem dX6_normOfRows_15 : decode cX6_normOfRows 15 = .ok (.lmul, 1) := by decide +kernel
theorem dX6_normOfRows_16 : decode cX6_normOfRows 16 = .ok (.lreturn, 1) := by decide +kernel
theorem bX6_normOfRows_0 {E : sa_E} {P : sa_P} {I : sa_I} {J : sa_J} {a0 q0 n0 : Nat} {x1 : Int32} {j1 : Nat} {j6 : Nat} {j13 : Nat} (hq0 : sa_iJ E a0 q0 n0) (hn0 : n0 < 2 ^ 31) (e1 : x1 = nI j1) (h2 : j1 < n0) (e6 : x1 + (4 : Int32) = nI j6) (h7 : j6 < n0) (e13 : x1 + (8 : Int32) = nI j13) (h14 : j13 < n0)  (k : P (some (.long (((J q0 j1) * (J q0 j6)) * (J q0 j13)))) I J) : Sat E M_X6_normOfRows P 0 [(0, .ref a0), (1, .int x1)] [] I J := by
  refine s_aload_n 0 dX6_normOfRows_0 rfl ?_
  refine s_iload_n 1 dX6_normOfRows_1 rfl ?_
  refine s_eqi e1 ?_
  refine s_laloadN hq0 h2 hn0 dX6_normOfRows_2 ?_
  refine s_aload_n 0 dX6_normOfRows_3 rfl ?_
  refine s_iload_n 1 dX6_normOfRows_4 rfl ?_
  refine s_iconst (v := 4) dX6_normOfRows_5 rfl ?_
  refine s_iadd dX6_normOfRows_6 ?_
  refine s_eqi e6 ?_
  refine s_laloadN hq0 h7 hn0 dX6_normOfRows_7 ?_
  refine s_lmul dX6_normOfRows_8 ?_
  refine s_aload_n 0 dX6_normOfRows_9 rfl ?_
  refine s_iload_n 1 dX6_normOfRows_10 rfl ?_
  refine s_bipush (v := 8) dX6_normOfRows_11 rfl ?_
  refine s_iadd dX6_normOfRows_13 ?_
  refine s_eqi e13 ?_
  refine s_laloadN hq0 h14 hn0 dX6_normOfRows_14 ?_
  refine s_lmul dX6_normOfRows_15 ?_
  exact s_lret rfl dX6_normOfRows_16 k
/-! X6_isSmallPrime -/
theorem dX6_isSmallPrime_0 : decode cX6_isSmallPrime 0 = .ok (.iload_n 0, 1) := by decide +kernel
theorem dX6_isSmallPrime_1 : decode cX6_isSmallPrime 1 = .ok (.bipush 97, 2) := by decide +kernel
theorem dX6_isSmallPrime_3 : decode cX6_isSmallPrime 3 = .ok (.if_icmp .gt 15, 3) := by decide +kernel
theorem dX6_isSmallPrime_6 : decode cX6_isSmallPrime 6 = .ok (.iload_n 0, 1) := by decide +kernel
theorem dX6_isSmallPrime_7 : decode cX6_isSmallPrime 7 = .ok (.i2l, 1) := by decide +kernel
theorem dX6_isSmallPrime_8 : decode cX6_isSmallPrime 8 = .ok (.invokestatic 289, 3) := by decide +kernel
theorem dX6_isSmallPrime_11 : decode cX6_isSmallPrime 11 = .ok (.ifCond .eq 7, 3) := by decide +kernel
theorem dX6_isSmallPrime_14 : decode cX6_isSmallPrime 14 = .ok (.iconst 1, 1) := by decide +kernel
theorem dX6_isSmallPrime_15 : decode cX6_isSmallPrime 15 = .ok (.goto 4, 3) := by decide +kernel
theorem dX6_isSmallPrime_18 : decode cX6_isSmallPrime 18 = .ok (.iconst 0, 1) := by decide +kernel
theorem dX6_isSmallPrime_19 : decode cX6_isSmallPrime 19 = .ok (.ireturn, 1) := by decide +kernel
theorem bX6_isSmallPrime_0 {E : sa_E} {P : sa_P} {I : sa_I} {J : sa_J} {x0 : Int32}   (kt : (97 : Int32) < x0 → Sat E M_X6_isSmallPrime P 18 [] [] I J) (kf : ¬ (97 : Int32) < x0 → Sat E M_X6_isSmallPrime P 6 [(0, .int x0)] [] I J) : Sat E M_X6_isSmallPrime P 0 [(0, .int x0)] [] I J := by
  refine s_iload_n 0 dX6_isSmallPrime_0 rfl ?_
  refine s_bipush (v := 97) dX6_isSmallPrime_1 rfl ?_
  refine s_icmp_gt (tgt := 18) dX6_isSmallPrime_3 (by decide) (fun c => ?_) (fun c => ?_)
  · refine s_pick [] [] rfl ?_; exact kt c
  · exact kf c
theorem bX6_isSmallPrime_6 {E : sa_E} {P : sa_P} {I : sa_I} {J : sa_J} {x0 : Int32}   (k : Sat E M_X6_isSmallPrime P 8 [] [.long x0.toInt64] I J) : Sat E M_X6_isSmallPrime P 6 [(0, .int x0)] [] I J := by
  refine s_iload_n 0 dX6_isSmallPrime_6 rfl ?_
  refine s_i2l dX6_isSmallPrime_7 ?_
  refine s_pick [] [] rfl ?_; exact k
theorem bX6_isSmallPrime_11 {E : sa_E} {P : sa_P} {I : sa_I} {J : sa_J} {s0 : Int32}   (kt : s0 = 0 → Sat E M_X6_isSmallPrime P 18 [] [] I J) (kf : ¬ s0 = 0 → Sat E M_X6_isSmallPrime P 14 [] [] I J) : Sat E M_X6_isSmallPrime P 11 [] [.int s0] I J := by
  refine s_if_eq (tgt := 18) dX6_isSmallPrime_11 (by decide) (fun c => ?_) (fun c => ?_)
  · exact kt c
  · exact kf c
theorem bX6_isSmallPrime_14 {E : sa_E} {P : sa_P} {I : sa_I} {J : sa_J}    (k : Sat E M_X6_isSmallPrime P 19 [] [.int (1 : Int32)] I J) : Sat E M_X6_isSmallPrime P 14 [] [] I J := by
  refine s_iconst (v := 1) dX6_isSmallPrime_14 rfl ?_
  refine s_goto (tgt := 19) dX6_isSmallPrime_15 (by decide) ?_
  exact k
theorem bX6_isSmallPrime_18 {E : sa_E} {P : sa_P} {I : sa_I} {J : sa_J}    (k : Sat E M_X6_isSmallPrime P 19 [] [.int (0 : Int32)] I J) : Sat E M_X6_isSmallPrime P 18 [] [] I J := by
  refine s_iconst (v := 0) dX6_isSmallPrime_18 rfl ?_
  exact k
theorem bX6_isSmallPrime_19 {E : sa_E} {P : sa_P} {I : sa_I} {J : sa_J} {s0 : Int32} (hz : narrow .boolean (.int s0) = .int s0)  (k : P (some (.int s0)) I J) : Sat E M_X6_isSmallPrime P 19 [] [.int s0] I J := by
  exact s_zret hz rfl dX6_isSmallPrime_19 k
/-! X6_isPrimeNumber -/
theorem dX6_isPrimeNumber_0 : decode cX6_isPrimeNumber 0 = .ok (.lload_n 0, 1) := by decide +kernel
theorem dX6_isPrimeNumber_1 : decode cX6_isPrimeNumber 1 = .ok (.ldc2_w 292, 3) := by decide +kernel
theorem dX6_isPrimeNumber_4 : decode cX6_isPrimeNumber 4 = .ok (.lcmp, 1) := by decide +kernel
theorem dX6_isPrimeNumber_5 : decode cX6_isPrimeNumber 5 = .ok (.ifCond .ge 5, 3) := by decide +kernel
theorem dX6_isPrimeNumber_8 : decode cX6_isPrimeNumber 8 = .ok (.iconst 0, 1) := by decide +kernel
theorem dX6_isPrimeNumber_9 : decode cX6_isPrimeNumber 9 = .ok (.ireturn, 1) := by decide +kernel
theorem dX6_isPrimeNumber_10 : decode cX6_isPrimeNumber 10 = .ok (.ldc2_w 292, 3) := by decide +kernel
theorem dX6_isPrimeNumber_13 : decode cX6_isPrimeNumber 13 = .ok (.lstore_n 2, 1) := by decide +kernel
theorem dX6_isPrimeNumber_14 : decode cX6_isPrimeNumber 14 = .ok (.lload_n 2, 1) := by decide +kernel
theorem dX6_isPrimeNumber_15 : decode cX6_isPrimeNumber 15 = .ok (.lload_n 2, 1) := by decide +kernel
theorem dX6_isPrimeNumber_16 : decode cX6_isPrimeNumber 16 = .ok (.lmul, 1) := by decide +kernel
theorem dX6_isPrimeNumber_17 : decode cX6_isPrimeNumber 17 = .ok (.lload_n 0, 1) := by decide +kernel
theorem dX6_isPrimeNumber_18 : decode cX6_isPrimeNumber 18 = .ok (.lcmp, 1) := by decide +kernel
theorem dX6_isPrimeNumber_19 : decode cX6_isPrimeNumber 19 = .ok (.ifCond .gt 20, 3) := by decide +kernel
theorem dX6_isPrimeNumber_22 : decode cX6_isPrimeNumber 22 = .ok (.lload_n 0, 1) := by decide +kernel
theorem dX6_isPrimeNumber_23 : decode cX6_isPrimeNumber 23 = .ok (.lload_n 2, 1) := by decide +kernel
theorem dX6_isPrimeNumber_24 : decode cX6_isPrimeNumber 24 = .ok (.lrem, 1) := by decide +kernel
theorem dX6_isPrimeNumber_25 : decode cX6_isPrimeNumber 25 = .ok (.lconst 0, 1) := by decide +kernel
theorem dX6_isPrimeNumber_26 : decode cX6_isPrimeNumber 26 = .ok (.lcmp, 1) := by decide +kernel
theorem dX6_isPrimeNumber_27 : decode cX6_isPrimeNumber 27 = .ok (.ifCond .ne 5, 3) := by decide +kernel
theorem dX6_isPrimeNumber_30 : decode cX6_isPrimeNumber 30 = .ok (.iconst 0, 1) := by decide +kernel
theorem dX6_isPrimeNumber_31 : decode cX6_isPrimeNumber 31 = .ok (.ireturn, 1) := by decide +kernel
theorem dX6_isPrimeNumber_32 : decode cX6_isPrimeNumber 32 = .ok (.lload_n 2, 1) := by decide +kernel
theorem dX6_isPrimeNumber_33 : decode cX6_isPrimeNumber 33 = .ok (.lconst 1, 1) := by decide +kernel
theorem dX6_isPrimeNumber_34 : decode cX6_isPrimeNumber 34 = .ok (.ladd, 1) := by decide +kernel
theorem dX6_isPrimeNumber_35 : decode cX6_isPrimeNumber 35 = .ok (.lstore_n 2, 1) := by decide +kernel
theorem dX6_isPrimeNumber_36 : decode cX6_isPrimeNumber 36 = .ok (.goto (-22), 3) := by decide +kernel
theorem dX6_isPrimeNumber_39 : decode cX6_isPrimeNumber 39 = .ok (.iconst 1, 1) := by decide +kernel
theorem dX6_isPrimeNumber_40 : decode cX6_isPrimeNumber 40 = .ok (.ireturn, 1) := by decide +kernel
theorem bX6_isPrimeNumber_0 {E : sa_E} {P : sa_P} {I : sa_I} {J : sa_J} {x0 : Int64}   (kt : (2 : Int64) ≤ x0 → Sat E M_X6_isPrimeNumber P 10 [(0, .long x0)] [] I J) (kf : ¬ (2 : Int64) ≤ x0 → Sat E M_X6_isPrimeNumber P 8 [] [] I J) : Sat E M_X6_isPrimeNumber P 0 [(0, .long x0)] [] I J := by
  refine s_lload_n 0 dX6_isPrimeNumber_0 rfl ?_
  refine s_ldc2 wk_X6_292 dX6_isPrimeNumber_1 ?_
  refine s_lif_ge (tgt := 10) dX6_isPrimeNumber_4 dX6_isPrimeNumber_5 (by decide) (fun c => ?_) (fun c => ?_)
  · exact kt c
  · refine s_pick [] [] rfl ?_; exact kf c
theorem bX6_isPrimeNumber_8 {E : sa_E} {P : sa_P} {I : sa_I} {J : sa_J}    (k : P (some (.int (0 : Int32))) I J) : Sat E M_X6_isPrimeNumber P 8 [] [] I J := by
  refine s_iconst (v := 0) dX6_isPrimeNumber_8 rfl ?_
  exact s_zret rfl rfl dX6_isPrimeNumber_9 k
theorem bX6_isPrimeNumber_10 {E : sa_E} {P : sa_P} {I : sa_I} {J : sa_J} {x0 : Int64} {v13 : Int64}  (f13 : (2 : Int64) = v13) (k : Sat E M_X6_isPrimeNumber P 14 [(0, .long x0), (2, .long v13)] [] I J) : Sat E M_X6_isPrimeNumber P 10 [(0, .long x0)] [] I J := by
  refine s_ldc2 wk_X6_292 dX6_isPrimeNumber_10 ?_
  refine s_eql f13 ?_
  refine s_lstore_n [(2, .long v13), (0, .long x0)] dX6_isPrimeNumber_13 (Nat.lt_of_lt_of_le (Nat.lt_succ_self _) (Nat.le_of_ble_eq_true rfl)) rfl ?_
  refine s_pick [1, 0] [(0, .long x0), (2, .long v13)] rfl ?_; exact k
theorem bX6_isPrimeNumber_14 {E : sa_E} {P : sa_P} {I : sa_I} {J : sa_J} {x0 : Int64} {x2 : Int64}   (kt : x0 < x2 * x2 → Sat E M_X6_isPrimeNumber P 39 [] [] I J) (kf : ¬ x0 < x2 * x2 → Sat E M_X6_isPrimeNumber P 22 [(0, .long x0), (2, .long x2)] [] I J) : Sat E M_X6_isPrimeNumber P 14 [(0, .long x0), (2, .long x2)] [] I J := by
  refine s_lload_n 1 dX6_isPrimeNumber_14 rfl ?_
  refine s_lload_n 1 dX6_isPrimeNumber_15 rfl ?_
  refine s_lmul dX6_isPrimeNumber_16 ?_
  refine s_lload_n 0 dX6_isPrimeNumber_17 rfl ?_
  refine s_lif_gt (tgt := 39) dX6_isPrimeNumber_18 dX6_isPrimeNumber_19 (by decide) (fun c => ?_) (fun c => ?_)
  · refine s_pick [] [] rfl ?_; exact kt c
  · exact kf c
theorem bX6_isPrimeNumber_22 {E : sa_E} {P : sa_P} {I : sa_I} {J : sa_J} {x0 : Int64} {x2 : Int64} (z24 : ¬ x2 = 0)  (kt : ¬ x0 - x0 / x2 * x2 = (0 : Int64) → Sat E M_X6_isPrimeNumber P 32 [(0, .long x0), (2, .long x2)] [] I J) (kf : x0 - x0 / x2 * x2 = (0 : Int64) → Sat E M_X6_isPrimeNumber P 30 [] [] I J) : Sat E M_X6_isPrimeNumber P 22 [(0, .long x0), (2, .long x2)] [] I J := by
  refine s_lload_n 0 dX6_isPrimeNumber_22 rfl ?_
  refine s_lload_n 1 dX6_isPrimeNumber_23 rfl ?_
  refine s_lrem dX6_isPrimeNumber_24 z24 ?_
  refine s_lconst (v := 0) dX6_isPrimeNumber_25 rfl ?_
  refine s_lif_ne (tgt := 32) dX6_isPrimeNumber_26 dX6_isPrimeNumber_27 (by decide) (fun c => ?_) (fun c => ?_)
  · exact kt c
  · refine s_pick [] [] rfl ?_; exact kf (by first | exact c | exact Classical.not_not.mp c)
theorem bX6_isPrimeNumber_30 {E : sa_E} {P : sa_P} {I : sa_I} {J : sa_J}    (k : P (some (.int (0 : Int32))) I J) : Sat E M_X6_isPrimeNumber P 30 [] [] I J := by
  refine s_iconst (v := 0) dX6_isPrimeNumber_30 rfl ?_
  exact s_zret rfl rfl dX6_isPrimeNumber_31 k
theorem bX6_isPrimeNumber_32 {E : sa_E} {P : sa_P} {I : sa_I} {J : sa_J} {x0 : Int64} {x2 : Int64} {v35 : Int64}  (f35 : x2 + (1 : Int64) = v35) (k : Sat E M_X6_isPrimeNumber P 14 [(0, .long x0), (2, .long v35)] [] I J) : Sat E M_X6_isPrimeNumber P 32 [(0, .long x0), (2, .long x2)] [] I J := by
  refine s_lload_n 1 dX6_isPrimeNumber_32 rfl ?_
  refine s_lconst (v := 1) dX6_isPrimeNumber_33 rfl ?_
  refine s_ladd dX6_isPrimeNumber_34 ?_
  refine s_eql f35 ?_
  refine s_lstore_n [(2, .long v35), (0, .long x0)] dX6_isPrimeNumber_35 (Nat.lt_of_lt_of_le (Nat.lt_succ_self _) (Nat.le_of_ble_eq_true rfl)) rfl ?_
  refine s_goto (tgt := 14) dX6_isPrimeNumber_36 (by decide) ?_
  refine s_pick [1, 0] [(0, .long x0), (2, .long v35)] rfl ?_; exact k
theorem bX6_isPrimeNumber_39 {E : sa_E} {P : sa_P} {I : sa_I} {J : sa_J}    (k : P (some (.int (1 : Int32))) I J) : Sat E M_X6_isPrimeNumber P 39 [] [] I J := by
  refine s_iconst (v := 1) dX6_isPrimeNumber_39 rfl ?_
  exact s_zret rfl rfl dX6_isPrimeNumber_40 k
/-! X6_wholeRoot -/
theorem dX6_wholeRoot_0 : decode cX6_wholeRoot 0 = .ok (.lconst 0, 1) := by decide +kernel
theorem dX6_wholeRoot_1 : decode cX6_wholeRoot 1 = .ok (.lstore_n 2, 1) := by decide +kernel
theorem dX6_wholeRoot_2 : decode cX6_wholeRoot 2 = .ok (.lload_n 2, 1) := by decide +kernel
theorem dX6_wholeRoot_3 : decode cX6_wholeRoot 3 = .ok (.ldc2_w 294, 3) := by decide +kernel
theorem dX6_wholeRoot_6 : decode cX6_wholeRoot 6 = .ok (.lcmp, 1) := by decide +kernel
theorem dX6_wholeRoot_7 : decode cX6_wholeRoot 7 = .ok (.ifCond .ge 22, 3) := by decide +kernel
theorem dX6_wholeRoot_10 : decode cX6_wholeRoot 10 = .ok (.lload_n 2, 1) := by decide +kernel
theorem dX6_wholeRoot_11 : decode cX6_wholeRoot 11 = .ok (.lconst 1, 1) := by decide +kernel
theorem dX6_wholeRoot_12 : decode cX6_wholeRoot 12 = .ok (.ladd, 1) := by decide +kernel
theorem dX6_wholeRoot_13 : decode cX6_wholeRoot 13 = .ok (.lload_n 2, 1) := by decide +kernel
theorem dX6_wholeRoot_14 : decode cX6_wholeRoot 14 = .ok (.lconst 1, 1) := by decide +kernel
theorem dX6_wholeRoot_15 : decode cX6_wholeRoot 15 = .ok (.ladd, 1) := by decide +kernel
theorem dX6_wholeRoot_16 : decode cX6_wholeRoot 16 = .ok (.lmul, 1) := by decide +kernel
theorem dX6_wholeRoot_17 : decode cX6_wholeRoot 17 = .ok (.lload_n 0, 1) := by decide +kernel
theorem dX6_wholeRoot_18 : decode cX6_wholeRoot 18 = .ok (.lcmp, 1) := by decide +kernel
theorem dX6_wholeRoot_19 : decode cX6_wholeRoot 19 = .ok (.ifCond .gt 10, 3) := by decide +kernel
theorem dX6_wholeRoot_22 : decode cX6_wholeRoot 22 = .ok (.lload_n 2, 1) := by decide +kernel
theorem dX6_wholeRoot_23 : decode cX6_wholeRoot 23 = .ok (.lconst 1, 1) := by decide +kernel
theorem dX6_wholeRoot_24 : decode cX6_wholeRoot 24 = .ok (.ladd, 1) := by decide +kernel
theorem dX6_wholeRoot_25 : decode cX6_wholeRoot 25 = .ok (.lstore_n 2, 1) := by decide +kernel
theorem dX6_wholeRoot_26 : decode cX6_wholeRoot 26 = .ok (.goto (-24), 3) := by decide +kernel
theorem dX6_wholeRoot_29 : decode cX6_wholeRoot 29 = .ok (.lload_n 2, 1) := by decide +kernel
theorem dX6_wholeRoot_30 : decode cX6_wholeRoot 30 = .ok (.lreturn, 1) := by decide +kernel
theorem bX6_wholeRoot_0 {E : sa_E} {P : sa_P} {I : sa_I} {J : sa_J} {x0 : Int64} {v1 : Int64}  (f1 : (0 : Int64) = v1) (k : Sat E M_X6_wholeRoot P 2 [(0, .long x0), (2, .long v1)] [] I J) : Sat E M_X6_wholeRoot P 0 [(0, .long x0)] [] I J := by
  refine s_lconst (v := 0) dX6_wholeRoot_0 rfl ?_
  refine s_eql f1 ?_
  refine s_lstore_n [(2, .long v1), (0, .long x0)] dX6_wholeRoot_1 (Nat.lt_of_lt_of_le (Nat.lt_succ_self _) (Nat.le_of_ble_eq_true rfl)) rfl ?_
  refine s_pick [1, 0] [(0, .long x0), (2, .long v1)] rfl ?_; exact k
theorem bX6_wholeRoot_2 {E : sa_E} {P : sa_P} {I : sa_I} {J : sa_J} {x0 : Int64} {x2 : Int64}   (kt : (1000 : Int64) ≤ x2 → Sat E M_X6_wholeRoot P 29 [(2, .long x2)] [] I J) (kf : ¬ (1000 : Int64) ≤ x2 → Sat E M_X6_wholeRoot P 10 [(0, .long x0), (2, .long x2)] [] I J) : Sat E M_X6_wholeRoot P 2 [(0, .long x0), (2, .long x2)] [] I J := by
  refine s_lload_n 1 dX6_wholeRoot_2 rfl ?_
  refine s_ldc2 wk_X6_294 dX6_wholeRoot_3 ?_
  refine s_lif_ge (tgt := 29) dX6_wholeRoot_6 dX6_wholeRoot_7 (by decide) (fun c => ?_) (fun c => ?_)
  · refine s_pick [1] [(2, .long x2)] rfl ?_; exact kt c
  · exact kf c
theorem bX6_wholeRoot_10 {E : sa_E} {P : sa_P} {I : sa_I} {J : sa_J} {x0 : Int64} {x2 : Int64}   (kt : x0 < (x2 + (1 : Int64)) * (x2 + (1 : Int64)) → Sat E M_X6_wholeRoot P 29 [(2, .long x2)] [] I J) (kf : ¬ x0 < (x2 + (1 : Int64)) * (x2 + (1 : Int64)) → Sat E M_X6_wholeRoot P 22 [(0, .long x0), (2, .long x2)] [] I J) : Sat E M_X6_wholeRoot P 10 [(0, .long x0), (2, .long x2)] [] I J := by
  refine s_lload_n 1 dX6_wholeRoot_10 rfl ?_
  refine s_lconst (v := 1) dX6_wholeRoot_11 rfl ?_
  refine s_ladd dX6_wholeRoot_12 ?_
  refine s_lload_n 1 dX6_wholeRoot_13 rfl ?_
  refine s_lconst (v := 1) dX6_wholeRoot_14 rfl ?_
  refine s_ladd dX6_wholeRoot_15 ?_
  refine s_lmul dX6_wholeRoot_16 ?_
  refine s_lload_n 0 dX6_wholeRoot_17 rfl ?_
  refine s_lif_gt (tgt := 29) dX6_wholeRoot_18 dX6_wholeRoot_19 (by decide) (fun c => ?_) (fun c => ?_)
  · refine s_pick [1] [(2, .long x2)] rfl ?_; exact kt c
  · exact kf c
theorem bX6_wholeRoot_22 {E : sa_E} {P : sa_P} {I : sa_I} {J : sa_J} {x0 : Int64} {x2 : Int64} {v25 : Int64}  (f25 : x2 + (1 : Int64) = v25) (k : Sat E M_X6_wholeRoot P 2 [(0, .long x0), (2, .long v25)] [] I J) : Sat E M_X6_wholeRoot P 22 [(0, .long x0), (2, .long x2)] [] I J := by
  refine s_lload_n 1 dX6_wholeRoot_22 rfl ?_
  refine s_lconst (v := 1) dX6_wholeRoot_23 rfl ?_
  refine s_ladd dX6_wholeRoot_24 ?_
  refine s_eql f25 ?_
  refine s_lstore_n [(2, .long v25), (0, .long x0)] dX6_wholeRoot_25 (Nat.lt_of_lt_of_le (Nat.lt_succ_self _) (Nat.le_of_ble_eq_true rfl)) rfl ?_
  refine s_goto (tgt := 2) dX6_wholeRoot_26 (by decide) ?_
  refine s_pick [1, 0] [(0, .long x0), (2, .long v25)] rfl ?_; exact k
theorem bX6_wholeRoot_29 {E : sa_E} {P : sa_P} {I : sa_I} {J : sa_J} {x2 : Int64}   (k : P (some (.long x2)) I J) : Sat E M_X6_wholeRoot P 29 [(2, .long x2)] [] I J := by
  refine s_lload_n 0 dX6_wholeRoot_29 rfl ?_
  exact s_lret rfl dX6_wholeRoot_30 k
/-! X6_isPerfectSquare -/
theorem dX6_isPerfectSquare_0 : decode cX6_isPerfectSquare 0 = .ok (.lload_n 0, 1) := by decide +kernel
theorem dX6_isPerfectSquare_1 : decode cX6_isPerfectSquare 1 = .ok (.lconst 0, 1) := by decide +kernel
theorem dX6_isPerfectSquare_2 : decode cX6_isPerfectSquare 2 = .ok (.lcmp, 1) := by decide +kernel
theorem dX6_isPerfectSquare_3 : decode cX6_isPerfectSquare 3 = .ok (.ifCond .lt 21, 3) := by decide +kernel
theorem dX6_isPerfectSquare_6 : decode cX6_isPerfectSquare 6 = .ok (.lload_n 0, 1) := by decide +kernel
theorem dX6_isPerfectSquare_7 : decode cX6_isPerfectSquare 7 = .ok (.invokestatic 296, 3) := by decide +kernel
theorem dX6_isPerfectSquare_10 : decode cX6_isPerfectSquare 10 = .ok (.lload_n 0, 1) := by decide +kernel
theorem dX6_isPerfectSquare_11 : decode cX6_isPerfectSquare 11 = .ok (.invokestatic 296, 3) := by decide +kernel
theorem dX6_isPerfectSquare_14 : decode cX6_isPerfectSquare 14 = .ok (.lmul, 1) := by decide +kernel
theorem dX6_isPerfectSquare_15 : decode cX6_isPerfectSquare 15 = .ok (.lload_n 0, 1) := by decide +kernel
theorem dX6_isPerfectSquare_16 : decode cX6_isPerfectSquare 16 = .ok (.lcmp, 1) := by decide +kernel
theorem dX6_isPerfectSquare_17 : decode cX6_isPerfectSquare 17 = .ok (.ifCond .ne 7, 3) := by decide +kernel
theorem dX6_isPerfectSquare_20 : decode cX6_isPerfectSquare 20 = .ok (.iconst 1, 1) := by decide +kernel
theorem dX6_isPerfectSquare_21 : decode cX6_isPerfectSquare 21 = .ok (.goto 4, 3) := by decide +kernel
theorem dX6_isPerfectSquare_24 : decode cX6_isPerfectSquare 24 = .ok (.iconst 0, 1) := by decide +kernel
theorem dX6_isPerfectSquare_25 : decode cX6_isPerfectSquare 25 = .ok (.ireturn, 1) := by decide +kernel
theorem bX6_isPerfectSquare_0 {E : sa_E} {P : sa_P} {I : sa_I} {J : sa_J} {x0 : Int64}   (kt : x0 < (0 : Int64) → Sat E M_X6_isPerfectSquare P 24 [] [] I J) (kf : ¬ x0 < (0 : Int64) → Sat E M_X6_isPerfectSquare P 6 [(0, .long x0)] [] I J) : Sat E M_X6_isPerfectSquare P 0 [(0, .long x0)] [] I J := by
  refine s_lload_n 0 dX6_isPerfectSquare_0 rfl ?_
  refine s_lconst (v := 0) dX6_isPerfectSquare_1 rfl ?_
  refine s_lif_lt (tgt := 24) dX6_isPerfectSquare_2 dX6_isPerfectSquare_3 (by decide) (fun c => ?_) (fun c => ?_)
  · refine s_pick [] [] rfl ?_; exact kt c
  · exact kf c
theorem bX6_isPerfectSquare_6 {E : sa_E} {P : sa_P} {I : sa_I} {J : sa_J} {x0 : Int64}   (k : Sat E M_X6_isPerfectSquare P 7 [(0, .long x0)] [.long x0] I J) : Sat E M_X6_isPerfectSquare P 6 [(0, .long x0)] [] I J := by
  refine s_lload_n 0 dX6_isPerfectSquare_6 rfl ?_
  exact k
theorem bX6_isPerfectSquare_10 {E : sa_E} {P : sa_P} {I : sa_I} {J : sa_J} {x0 : Int64} {s0 : Int64}   (k : Sat E M_X6_isPerfectSquare P 11 [(0, .long x0)] [.long x0, .long s0] I J) : Sat E M_X6_isPerfectSquare P 10 [(0, .long x0)] [.long s0] I J := by
  refine s_lload_n 0 dX6_isPerfectSquare_10 rfl ?_
  exact k
theorem bX6_isPerfectSquare_14 {E : sa_E} {P : sa_P} {I : sa_I} {J : sa_J} {x0 : Int64} {s0 : Int64} {s1 : Int64}   (kt : ¬ s0 * s1 = x0 → Sat E M_X6_isPerfectSquare P 24 [] [] I J) (kf : s0 * s1 = x0 → Sat E M_X6_isPerfectSquare P 20 [] [] I J) : Sat E M_X6_isPerfectSquare P 14 [(0, .long x0)] [.long s1, .long s0] I J := by
  refine s_lmul dX6_isPerfectSquare_14 ?_
  refine s_lload_n 0 dX6_isPerfectSquare_15 rfl ?_
  refine s_lif_ne (tgt := 24) dX6_isPerfectSquare_16 dX6_isPerfectSquare_17 (by decide) (fun c => ?_) (fun c => ?_)
  · refine s_pick [] [] rfl ?_; exact kt c
  · refine s_pick [] [] rfl ?_; exact kf (by first | exact c | exact Classical.not_not.mp c)
theorem bX6_isPerfectSquare_20 {E : sa_E} {P : sa_P} {I : sa_I} {J : sa_J}    (k : Sat E M_X6_isPerfectSquare P 25 [] [.int (1 : Int32)] I J) : Sat E M_X6_isPerfectSquare P 20 [] [] I J := by
  refine s_iconst (v := 1) dX6_isPerfectSquare_20 rfl ?_
  refine s_goto (tgt := 25) dX6_isPerfectSquare_21 (by decide) ?_
  exact k
theorem bX6_isPerfectSquare_24 {E : sa_E} {P : sa_P} {I : sa_I} {J : sa_J}    (k : Sat E M_X6_isPerfectSquare P 25 [] [.int (0 : Int32)] I J) : Sat E M_X6_isPerfectSquare P 24 [] [] I J := by
  refine s_iconst (v := 0) dX6_isPerfectSquare_24 rfl ?_
  exact k
theorem bX6_isPerfectSquare_25 {E : sa_E} {P : sa_P} {I : sa_I} {J : sa_J} {s0 : Int32} (hz : narrow .boolean (.int s0) = .int s0)  (k : P (some (.int s0)) I J) : Sat E M_X6_isPerfectSquare P 25 [] [.int s0] I J := by
  exact s_zret hz rfl dX6_isPerfectSquare_25 k
/-! X6_hasWholeRoot -/
theorem dX6_hasWholeRoot_0 : decode cX6_hasWholeRoot 0 = .ok (.bipush (-9), 2) := by decide +kernel
theorem dX6_hasWholeRoot_2 : decode cX6_hasWholeRoot 2 = .ok (.istore_n 3, 1) := by decide +kernel
theorem dX6_hasWholeRoot_3 : decode cX6_hasWholeRoot 3 = .ok (.iload_n 3, 1) := by decide +kernel
theorem dX6_hasWholeRoot_4 : decode cX6_hasWholeRoot 4 = .ok (.bipush 9, 2) := by decide +kernel
theorem dX6_hasWholeRoot_6 : decode cX6_hasWholeRoot 6 = .ok (.if_icmp .gt 25, 3) := by decide +kernel
theorem dX6_hasWholeRoot_9 : decode cX6_hasWholeRoot 9 = .ok (.iload_n 3, 1) := by decide +kernel
theorem dX6_hasWholeRoot_10 : decode cX6_hasWholeRoot 10 = .ok (.iload_n 0, 1) := by decide +kernel
theorem dX6_hasWholeRoot_11 : decode cX6_hasWholeRoot 11 = .ok (.iadd, 1) := by decide +kernel
theorem dX6_hasWholeRoot_12 : decode cX6_hasWholeRoot 12 = .ok (.iload_n 3, 1) := by decide +kernel
theorem dX6_hasWholeRoot_13 : decode cX6_hasWholeRoot 13 = .ok (.imul, 1) := by decide +kernel
theorem dX6_hasWholeRoot_14 : decode cX6_hasWholeRoot 14 = .ok (.iload_n 1, 1) := by decide +kernel
theorem dX6_hasWholeRoot_15 : decode cX6_hasWholeRoot 15 = .ok (.iadd, 1) := by decide +kernel
theorem dX6_hasWholeRoot_16 : decode cX6_hasWholeRoot 16 = .ok (.iload_n 3, 1) := by decide +kernel
theorem dX6_hasWholeRoot_17 : decode cX6_hasWholeRoot 17 = .ok (.imul, 1) := by decide +kernel
theorem dX6_hasWholeRoot_18 : decode cX6_hasWholeRoot 18 = .ok (.iload_n 2, 1) := by decide +kernel
theorem dX6_hasWholeRoot_19 : decode cX6_hasWholeRoot 19 = .ok (.iadd, 1) := by decide +kernel
theorem dX6_hasWholeRoot_20 : decode cX6_hasWholeRoot 20 = .ok (.ifCond .ne 5, 3) := by decide +kernel
theorem dX6_hasWholeRoot_23 : decode cX6_hasWholeRoot 23 = .ok (.iconst 1, 1) := by decide +kernel
theorem dX6_hasWholeRoot_24 : decode cX6_hasWholeRoot 24 = .ok (.ireturn, 1) := by decide +kernel
theorem dX6_hasWholeRoot_25 : decode cX6_hasWholeRoot 25 = .ok (.iinc 3 1, 3) := by decide +kernel
theorem dX6_hasWholeRoot_28 : decode cX6_hasWholeRoot 28 = .ok (.goto (-25), 3) := by decide +kernel
theorem dX6_hasWholeRoot_31 : decode cX6_hasWholeRoot 31 = .ok (.iconst 0, 1) := by decide +kernel
theorem dX6_hasWholeRoot_32 : decode cX6_hasWholeRoot 32 = .ok (.ireturn, 1) := by decide +kernel
theorem bX6_hasWholeRoot_0 {E : sa_E} {P : sa_P} {I : sa_I} {J : sa_J} {x0 : Int32} {x1 : Int32} {x2 : Int32} {v2 : Int32}  (f2 : (-9 : Int32) = v2) (k : Sat E M_X6_hasWholeRoot P 3 [(0, .int x0), (1, .int x1), (2, .int x2), (3, .int v2)] [] I J) : Sat E M_X6_hasWholeRoot P 0 [(0, .int x0), (1, .int x1), (2, .int x2)] [] I J := by
  refine s_bipush (v := -9) dX6_hasWholeRoot_0 rfl ?_
  refine s_eqi f2 ?_
  refine s_istore_n [(3, .int v2), (0, .int x0), (1, .int x1), (2, .int x2)] dX6_hasWholeRoot_2 (Nat.lt_of_lt_of_le (Nat.lt_succ_self _) (Nat.le_of_ble_eq_true rfl)) rfl ?_
  refine s_pick [1, 2, 3, 0] [(0, .int x0), (1, .int x1), (2, .int x2), (3, .int v2)] rfl ?_; exact k
theorem bX6_hasWholeRoot_3 {E : sa_E} {P : sa_P} {I : sa_I} {J : sa_J} {x0 : Int32} {x1 : Int32} {x2 : Int32} {x3 : Int32}   (kt : (9 : Int32) < x3 → Sat E M_X6_hasWholeRoot P 31 [] [] I J) (kf : ¬ (9 : Int32) < x3 → Sat E M_X6_hasWholeRoot P 9 [(0, .int x0), (1, .int x1), (2, .int x2), (3, .int x3)] [] I J) : Sat E M_X6_hasWholeRoot P 3 [(0, .int x0), (1, .int x1), (2, .int x2), (3, .int x3)] [] I J := by
  refine s_iload_n 3 dX6_hasWholeRoot_3 rfl ?_
  refine s_bipush (v := 9) dX6_hasWholeRoot_4 rfl ?_
  refine s_icmp_gt (tgt := 31) dX6_hasWholeRoot_6 (by decide) (fun c => ?_) (fun c => ?_)
  · refine s_pick [] [] rfl ?_; exact kt c
  · exact kf c
theorem bX6_hasWholeRoot_9 {E : sa_E} {P : sa_P} {I : sa_I} {J : sa_J} {x0 : Int32} {x1 : Int32} {x2 : Int32} {x3 : Int32}   (kt : ¬ ((((x3 + x0) * x3) + x1) * x3) + x2 = 0 → Sat E M_X6_hasWholeRoot P 25 [(0, .int x0), (1, .int x1), (2, .int x2), (3, .int x3)] [] I J) (kf : ((((x3 + x0) * x3) + x1) * x3) + x2 = 0 → Sat E M_X6_hasWholeRoot P 23 [] [] I J) : Sat E M_X6_hasWholeRoot P 9 [(0, .int x0), (1, .int x1), (2, .int x2), (3, .int x3)] [] I J := by
  refine s_iload_n 3 dX6_hasWholeRoot_9 rfl ?_
  refine s_iload_n 0 dX6_hasWholeRoot_10 rfl ?_
  refine s_iadd dX6_hasWholeRoot_11 ?_
  refine s_iload_n 3 dX6_hasWholeRoot_12 rfl ?_
  refine s_imul dX6_hasWholeRoot_13 ?_
  refine s_iload_n 1 dX6_hasWholeRoot_14 rfl ?_
  refine s_iadd dX6_hasWholeRoot_15 ?_
  refine s_iload_n 3 dX6_hasWholeRoot_16 rfl ?_
  refine s_imul dX6_hasWholeRoot_17 ?_
  refine s_iload_n 2 dX6_hasWholeRoot_18 rfl ?_
  refine s_iadd dX6_hasWholeRoot_19 ?_
  refine s_if_ne (tgt := 25) dX6_hasWholeRoot_20 (by decide) (fun c => ?_) (fun c => ?_)
  · exact kt c
  · refine s_pick [] [] rfl ?_; exact kf (by first | exact c | exact Classical.not_not.mp c)
theorem bX6_hasWholeRoot_23 {E : sa_E} {P : sa_P} {I : sa_I} {J : sa_J}    (k : P (some (.int (1 : Int32))) I J) : Sat E M_X6_hasWholeRoot P 23 [] [] I J := by
  refine s_iconst (v := 1) dX6_hasWholeRoot_23 rfl ?_
  exact s_zret rfl rfl dX6_hasWholeRoot_24 k
theorem bX6_hasWholeRoot_25 {E : sa_E} {P : sa_P} {I : sa_I} {J : sa_J} {x0 : Int32} {x1 : Int32} {x2 : Int32} {x3 : Int32} {v25 : Int32}  (f25 : x3 + 1 = v25) (k : Sat E M_X6_hasWholeRoot P 3 [(0, .int x0), (1, .int x1), (2, .int x2), (3, .int v25)] [] I J) : Sat E M_X6_hasWholeRoot P 25 [(0, .int x0), (1, .int x1), (2, .int x2), (3, .int x3)] [] I J := by
  refine s_iinc 3 v25 [(3, .int v25), (0, .int x0), (1, .int x1), (2, .int x2)] dX6_hasWholeRoot_25 rfl f25 (Nat.lt_of_lt_of_le (Nat.lt_succ_self _) (Nat.le_of_ble_eq_true rfl)) rfl ?_
  refine s_goto (tgt := 3) dX6_hasWholeRoot_28 (by decide) ?_
  refine s_pick [1, 2, 3, 0] [(0, .int x0), (1, .int x1), (2, .int x2), (3, .int v25)] rfl ?_; exact k
theorem bX6_hasWholeRoot_31 {E : sa_E} {P : sa_P} {I : sa_I} {J : sa_J}    (k : P (some (.int (0 : Int32))) I J) : Sat E M_X6_hasWholeRoot P 31 [] [] I J := by
  refine s_iconst (v := 0) dX6_hasWholeRoot_31 rfl ?_
  exact s_zret rfl rfl dX6_hasWholeRoot_32 k
/-! X6_part -/
theorem dX6_part_0 : decode cX6_part 0 = .ok (.lload_n 2, 1) := by decide +kernel
theorem dX6_part_1 : decode cX6_part 1 = .ok (.lconst 0, 1) := by decide +kernel
theorem dX6_part_2 : decode cX6_part 2 = .ok (.lcmp, 1) := by decide +kernel
theorem dX6_part_3 : decode cX6_part 3 = .ok (.ifCond .ne 7, 3) := by decide +kernel
theorem dX6_part_6 : decode cX6_part 6 = .ok (.lconst 0, 1) := by decide +kernel
theorem dX6_part_7 : decode cX6_part 7 = .ok (.goto 6, 3) := by decide +kernel
theorem dX6_part_10 : decode cX6_part 10 = .ok (.lload_n 0, 1) := by decide +kernel
theorem dX6_part_11 : decode cX6_part 11 = .ok (.lload_n 2, 1) := by decide +kernel
theorem dX6_part_12 : decode cX6_part 12 = .ok (.ldiv, 1) := by decide +kernel
theorem dX6_part_13 : decode cX6_part 13 = .ok (.lreturn, 1) := by decide +kernel
theorem bX6_part_0 {E : sa_E} {P : sa_P} {I : sa_I} {J : sa_J} {x0 : Int64} {x2 : Int64}   (kt : ¬ x2 = (0 : Int64) → Sat E M_X6_part P 10 [(0, .long x0), (2, .long x2)] [] I J) (kf : x2 = (0 : Int64) → Sat E M_X6_part P 6 [] [] I J) : Sat E M_X6_part P 0 [(0, .long x0), (2, .long x2)] [] I J := by
  refine s_lload_n 1 dX6_part_0 rfl ?_
  refine s_lconst (v := 0) dX6_part_1 rfl ?_
  refine s_lif_ne (tgt := 10) dX6_part_2 dX6_part_3 (by decide) (fun c => ?_) (fun c => ?_)
  · exact kt c
  · refine s_pick [] [] rfl ?_; exact kf (by first | exact c | exact Classical.not_not.mp c)
theorem bX6_part_6 {E : sa_E} {P : sa_P} {I : sa_I} {J : sa_J}    (k : Sat E M_X6_part P 13 [] [.long (0 : Int64)] I J) : Sat E M_X6_part P 6 [] [] I J := by
  refine s_lconst (v := 0) dX6_part_6 rfl ?_
  refine s_goto (tgt := 13) dX6_part_7 (by decide) ?_
  exact k
theorem bX6_part_10 {E : sa_E} {P : sa_P} {I : sa_I} {J : sa_J} {x0 : Int64} {x2 : Int64} (z12 : ¬ x2 = 0)  (k : Sat E M_X6_part P 13 [] [.long (x0 / x2)] I J) : Sat E M_X6_part P 10 [(0, .long x0), (2, .long x2)] [] I J := by
  refine s_lload_n 0 dX6_part_10 rfl ?_
  refine s_lload_n 1 dX6_part_11 rfl ?_
  refine s_ldiv dX6_part_12 z12 ?_
  refine s_pick [] [] rfl ?_; exact k
theorem bX6_part_13 {E : sa_E} {P : sa_P} {I : sa_I} {J : sa_J} {s0 : Int64}   (k : P (some (.long s0)) I J) : Sat E M_X6_part P 13 [] [.long s0] I J := by
  exact s_lret rfl dX6_part_13 k
/-! X6_rest -/
theorem dX6_rest_0 : decode cX6_rest 0 = .ok (.lload_n 2, 1) := by decide +kernel
theorem dX6_rest_1 : decode cX6_rest 1 = .ok (.lconst 0, 1) := by decide +kernel
theorem dX6_rest_2 : decode cX6_rest 2 = .ok (.lcmp, 1) := by decide +kernel
theorem dX6_rest_3 : decode cX6_rest 3 = .ok (.ifCond .gt 7, 3) := by decide +kernel
theorem dX6_rest_6 : decode cX6_rest 6 = .ok (.lconst 0, 1) := by decide +kernel
theorem dX6_rest_7 : decode cX6_rest 7 = .ok (.goto 8, 3) := by decide +kernel
theorem dX6_rest_10 : decode cX6_rest 10 = .ok (.lload_n 0, 1) := by decide +kernel
theorem dX6_rest_11 : decode cX6_rest 11 = .ok (.lload_n 2, 1) := by decide +kernel
theorem dX6_rest_12 : decode cX6_rest 12 = .ok (.invokestatic 300, 3) := by decide +kernel
theorem dX6_rest_15 : decode cX6_rest 15 = .ok (.lreturn, 1) := by decide +kernel
theorem bX6_rest_0 {E : sa_E} {P : sa_P} {I : sa_I} {J : sa_J} {x0 : Int64} {x2 : Int64}   (kt : (0 : Int64) < x2 → Sat E M_X6_rest P 10 [(0, .long x0), (2, .long x2)] [] I J) (kf : ¬ (0 : Int64) < x2 → Sat E M_X6_rest P 6 [] [] I J) : Sat E M_X6_rest P 0 [(0, .long x0), (2, .long x2)] [] I J := by
  refine s_lload_n 1 dX6_rest_0 rfl ?_
  refine s_lconst (v := 0) dX6_rest_1 rfl ?_
  refine s_lif_gt (tgt := 10) dX6_rest_2 dX6_rest_3 (by decide) (fun c => ?_) (fun c => ?_)
  · exact kt c
  · refine s_pick [] [] rfl ?_; exact kf c
theorem bX6_rest_6 {E : sa_E} {P : sa_P} {I : sa_I} {J : sa_J}    (k : Sat E M_X6_rest P 15 [] [.long (0 : Int64)] I J) : Sat E M_X6_rest P 6 [] [] I J := by
  refine s_lconst (v := 0) dX6_rest_6 rfl ?_
  refine s_goto (tgt := 15) dX6_rest_7 (by decide) ?_
  exact k
theorem bX6_rest_10 {E : sa_E} {P : sa_P} {I : sa_I} {J : sa_J} {x0 : Int64} {x2 : Int64}   (k : Sat E M_X6_rest P 12 [] [.long x2, .long x0] I J) : Sat E M_X6_rest P 10 [(0, .long x0), (2, .long x2)] [] I J := by
  refine s_lload_n 0 dX6_rest_10 rfl ?_
  refine s_lload_n 1 dX6_rest_11 rfl ?_
  refine s_pick [] [] rfl ?_; exact k
theorem bX6_rest_15 {E : sa_E} {P : sa_P} {I : sa_I} {J : sa_J} {s0 : Int64}   (k : P (some (.long s0)) I J) : Sat E M_X6_rest P 15 [] [.long s0] I J := by
  exact s_lret rfl dX6_rest_15 k
/-! X6_gcd -/
theorem dX6_gcd_0 : decode cX6_gcd 0 = .ok (.lload_n 0, 1) := by decide +kernel
theorem dX6_gcd_1 : decode cX6_gcd 1 = .ok (.invokestatic 306, 3) := by decide +kernel
theorem dX6_gcd_4 : decode cX6_gcd 4 = .ok (.lstore 4, 2) := by decide +kernel
theorem dX6_gcd_6 : decode cX6_gcd 6 = .ok (.lload_n 2, 1) := by decide +kernel
theorem dX6_gcd_7 : decode cX6_gcd 7 = .ok (.invokestatic 306, 3) := by decide +kernel
theorem dX6_gcd_10 : decode cX6_gcd 10 = .ok (.lstore 6, 2) := by decide +kernel
theorem dX6_gcd_12 : decode cX6_gcd 12 = .ok (.iconst 0, 1) := by decide +kernel
theorem dX6_gcd_13 : decode cX6_gcd 13 = .ok (.istore 8, 2) := by decide +kernel
theorem dX6_gcd_15 : decode cX6_gcd 15 = .ok (.iload 8, 2) := by decide +kernel
theorem dX6_gcd_17 : decode cX6_gcd 17 = .ok (.sipush 1000, 3) := by decide +kernel
theorem dX6_gcd_20 : decode cX6_gcd 20 = .ok (.if_icmp .ge 31, 3) := by decide +kernel
theorem dX6_gcd_23 : decode cX6_gcd 23 = .ok (.lload 6, 2) := by decide +kernel
theorem dX6_gcd_25 : decode cX6_gcd 25 = .ok (.lconst 0, 1) := by decide +kernel
theorem dX6_gcd_26 : decode cX6_gcd 26 = .ok (.lcmp, 1) := by decide +kernel
theorem dX6_gcd_27 : decode cX6_gcd 27 = .ok (.ifCond .eq 24, 3) := by decide +kernel
theorem dX6_gcd_30 : decode cX6_gcd 30 = .ok (.lload 4, 2) := by decide +kernel
theorem dX6_gcd_32 : decode cX6_gcd 32 = .ok (.lload 6, 2) := by decide +kernel
theorem dX6_gcd_34 : decode cX6_gcd 34 = .ok (.lrem, 1) := by decide +kernel
theorem dX6_gcd_35 : decode cX6_gcd 35 = .ok (.lstore 9, 2) := by decide +kernel
theorem dX6_gcd_37 : decode cX6_gcd 37 = .ok (.lload 6, 2) := by decide +kernel
theorem dX6_gcd_39 : decode cX6_gcd 39 = .ok (.lstore 4, 2) := by decide +kernel
theorem dX6_gcd_41 : decode cX6_gcd 41 = .ok (.lload 9, 2) := by decide +kernel
theorem dX6_gcd_43 : decode cX6_gcd 43 = .ok (.lstore 6, 2) := by decide +kernel
theorem dX6_gcd_45 : decode cX6_gcd 45 = .ok (.iinc 8 1, 3) := by decide +kernel
theorem dX6_gcd_48 : decode cX6_gcd 48 = .ok (.goto (-33), 3) := by decide +kernel
theorem dX6_gcd_51 : decode cX6_gcd 51 = .ok (.lload 4, 2) := by decide +kernel
theorem dX6_gcd_53 : decode cX6_gcd 53 = .ok (.lreturn, 1) := by decide +kernel
theorem bX6_gcd_0 {E : sa_E} {P : sa_P} {I : sa_I} {J : sa_J} {x0 : Int64} {x2 : Int64}   (k : Sat E M_X6_gcd P 1 [(2, .long x2)] [.long x0] I J) : Sat E M_X6_gcd P 0 [(0, .long x0), (2, .long x2)] [] I J := by
  refine s_lload_n 0 dX6_gcd_0 rfl ?_
  refine s_pick [1] [(2, .long x2)] rfl ?_; exact k
theorem bX6_gcd_4 {E : sa_E} {P : sa_P} {I : sa_I} {J : sa_J} {x2 : Int64} {s0 : Int64}   (k : Sat E M_X6_gcd P 7 [(4, .long s0)] [.long x2] I J) : Sat E M_X6_gcd P 4 [(2, .long x2)] [.long s0] I J := by
  refine s_lstore [(4, .long s0), (2, .long x2)] dX6_gcd_4 (Nat.lt_of_lt_of_le (Nat.lt_succ_self _) (Nat.le_of_ble_eq_true rfl)) rfl ?_
  refine s_lload_n 1 dX6_gcd_6 rfl ?_
  refine s_pick [0] [(4, .long s0)] rfl ?_; exact k
theorem bX6_gcd_10 {E : sa_E} {P : sa_P} {I : sa_I} {J : sa_J} {x4 : Int64} {s0 : Int64} {v13 : Int32}  (f13 : (0 : Int32) = v13) (k : Sat E M_X6_gcd P 15 [(4, .long x4), (6, .long s0), (8, .int v13)] [] I J) : Sat E M_X6_gcd P 10 [(4, .long x4)] [.long s0] I J := by
  refine s_lstore [(6, .long s0), (4, .long x4)] dX6_gcd_10 (Nat.lt_of_lt_of_le (Nat.lt_succ_self _) (Nat.le_of_ble_eq_true rfl)) rfl ?_
  refine s_iconst (v := 0) dX6_gcd_12 rfl ?_
  refine s_eqi f13 ?_
  refine s_istore [(8, .int v13), (6, .long s0), (4, .long x4)] dX6_gcd_13 (Nat.lt_of_lt_of_le (Nat.lt_succ_self _) (Nat.le_of_ble_eq_true rfl)) rfl ?_
  refine s_pick [2, 1, 0] [(4, .long x4), (6, .long s0), (8, .int v13)] rfl ?_; exact k
theorem bX6_gcd_15 {E : sa_E} {P : sa_P} {I : sa_I} {J : sa_J} {x4 : Int64} {x6 : Int64} {x8 : Int32}   (kt : (1000 : Int32) ≤ x8 → Sat E M_X6_gcd P 51 [(4, .long x4)] [] I J) (kf : ¬ (1000 : Int32) ≤ x8 → Sat E M_X6_gcd P 23 [(4, .long x4), (6, .long x6), (8, .int x8)] [] I J) : Sat E M_X6_gcd P 15 [(4, .long x4), (6, .long x6), (8, .int x8)] [] I J := by
  refine s_iload 2 dX6_gcd_15 rfl ?_
  refine s_sipush (v := 1000) dX6_gcd_17 rfl ?_
  refine s_icmp_ge (tgt := 51) dX6_gcd_20 (by decide) (fun c => ?_) (fun c => ?_)
  · refine s_pick [0] [(4, .long x4)] rfl ?_; exact kt c
  · exact kf c
theorem bX6_gcd_23 {E : sa_E} {P : sa_P} {I : sa_I} {J : sa_J} {x4 : Int64} {x6 : Int64} {x8 : Int32}   (kt : x6 = (0 : Int64) → Sat E M_X6_gcd P 51 [(4, .long x4)] [] I J) (kf : ¬ x6 = (0 : Int64) → Sat E M_X6_gcd P 30 [(4, .long x4), (6, .long x6), (8, .int x8)] [] I J) : Sat E M_X6_gcd P 23 [(4, .long x4), (6, .long x6), (8, .int x8)] [] I J := by
  refine s_lload 1 dX6_gcd_23 rfl ?_
  refine s_lconst (v := 0) dX6_gcd_25 rfl ?_
  refine s_lif_eq (tgt := 51) dX6_gcd_26 dX6_gcd_27 (by decide) (fun c => ?_) (fun c => ?_)
  · refine s_pick [0] [(4, .long x4)] rfl ?_; exact kt c
  · exact kf c
theorem bX6_gcd_30 {E : sa_E} {P : sa_P} {I : sa_I} {J : sa_J} {x4 : Int64} {x6 : Int64} {x8 : Int32} {v35 : Int64} {v45 : Int32} (z34 : ¬ x6 = 0) (f35 : x4 - x4 / x6 * x6 = v35) (f45 : x8 + 1 = v45) (k : Sat E M_X6_gcd P 15 [(4, .long x6), (6, .long v35), (8, .int v45)] [] I J) : Sat E M_X6_gcd P 30 [(4, .long x4), (6, .long x6), (8, .int x8)] [] I J := by
  refine s_lload 0 dX6_gcd_30 rfl ?_
  refine s_lload 1 dX6_gcd_32 rfl ?_
  refine s_lrem dX6_gcd_34 z34 ?_
  refine s_eql f35 ?_
  refine s_lstore [(9, .long v35), (4, .long x4), (6, .long x6), (8, .int x8)] dX6_gcd_35 (Nat.lt_of_lt_of_le (Nat.lt_succ_self _) (Nat.le_of_ble_eq_true rfl)) rfl ?_
  refine s_lload 2 dX6_gcd_37 rfl ?_
  refine s_lstore [(4, .long x6), (9, .long v35), (6, .long x6), (8, .int x8)] dX6_gcd_39 (Nat.lt_of_lt_of_le (Nat.lt_succ_self _) (Nat.le_of_ble_eq_true rfl)) rfl ?_
  refine s_lload 1 dX6_gcd_41 rfl ?_
  refine s_lstore [(6, .long v35), (4, .long x6), (9, .long v35), (8, .int x8)] dX6_gcd_43 (Nat.lt_of_lt_of_le (Nat.lt_succ_self _) (Nat.le_of_ble_eq_true rfl)) rfl ?_
  refine s_iinc 3 v45 [(8, .int v45), (6, .long v35), (4, .long x6), (9, .long v35)] dX6_gcd_45 rfl f45 (Nat.lt_of_lt_of_le (Nat.lt_succ_self _) (Nat.le_of_ble_eq_true rfl)) rfl ?_
  refine s_goto (tgt := 15) dX6_gcd_48 (by decide) ?_
  refine s_pick [2, 1, 0] [(4, .long x6), (6, .long v35), (8, .int v45)] rfl ?_; exact k
theorem bX6_gcd_51 {E : sa_E} {P : sa_P} {I : sa_I} {J : sa_J} {x4 : Int64}   (k : P (some (.long x4)) I J) : Sat E M_X6_gcd P 51 [(4, .long x4)] [] I J := by
  refine s_lload 0 dX6_gcd_51 rfl ?_
  exact s_lret rfl dX6_gcd_53 k
