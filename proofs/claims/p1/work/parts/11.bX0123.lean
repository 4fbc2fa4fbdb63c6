/-! X0_find -/
theorem dX0_find_0 : decode cX0_find 0 = .ok (.lload_n 1, 1) := by decide +kernel
theorem dX0_find_1 : decode cX0_find 1 = .ok (.lconst 1, 1) := by decide +kernel
theorem dX0_find_2 : decode cX0_find 2 = .ok (.land, 1) := by decide +kernel
theorem dX0_find_3 : decode cX0_find 3 = .ok (.lstore 5, 2) := by decide +kernel
theorem dX0_find_5 : decode cX0_find 5 = .ok (.lload_n 1, 1) := by decide +kernel
theorem dX0_find_6 : decode cX0_find 6 = .ok (.invokestatic 9, 3) := by decide +kernel
theorem dX0_find_9 : decode cX0_find 9 = .ok (.lstore 7, 2) := by decide +kernel
theorem dX0_find_11 : decode cX0_find 11 = .ok (.lload 5, 2) := by decide +kernel
theorem dX0_find_13 : decode cX0_find 13 = .ok (.lstore 9, 2) := by decide +kernel
theorem dX0_find_15 : decode cX0_find 15 = .ok (.ldc2_w 13, 3) := by decide +kernel
theorem dX0_find_18 : decode cX0_find 18 = .ok (.lstore 11, 2) := by decide +kernel
theorem dX0_find_20 : decode cX0_find 20 = .ok (.lconst 1, 1) := by decide +kernel
theorem dX0_find_21 : decode cX0_find 21 = .ok (.lstore 13, 2) := by decide +kernel
theorem dX0_find_23 : decode cX0_find 23 = .ok (.lconst 0, 1) := by decide +kernel
theorem dX0_find_24 : decode cX0_find 24 = .ok (.lstore 15, 2) := by decide +kernel
theorem dX0_find_26 : decode cX0_find 26 = .ok (.lconst 0, 1) := by decide +kernel
theorem dX0_find_27 : decode cX0_find 27 = .ok (.lstore 17, 2) := by decide +kernel
theorem dX0_find_29 : decode cX0_find 29 = .ok (.lconst 1, 1) := by decide +kernel
theorem dX0_find_30 : decode cX0_find 30 = .ok (.lstore 19, 2) := by decide +kernel
theorem dX0_find_32 : decode cX0_find 32 = .ok (.aload_n 0, 1) := by decide +kernel
theorem dX0_find_33 : decode cX0_find 33 = .ok (.lconst 1, 1) := by decide +kernel
theorem dX0_find_34 : decode cX0_find 34 = .ok (.putfield 15, 3) := by decide +kernel
theorem dX0_find_37 : decode cX0_find 37 = .ok (.iconst 0, 1) := by decide +kernel
theorem dX0_find_38 : decode cX0_find 38 = .ok (.istore 21, 2) := by decide +kernel
theorem dX0_find_40 : decode cX0_find 40 = .ok (.iload 21, 2) := by decide +kernel
theorem dX0_find_42 : decode cX0_find 42 = .ok (.sipush 1000, 3) := by decide +kernel
theorem dX0_find_45 : decode cX0_find 45 = .ok (.if_icmp .ge 164, 3) := by decide +kernel
theorem dX0_find_48 : decode cX0_find 48 = .ok (.lload 17, 2) := by decide +kernel
theorem dX0_find_50 : decode cX0_find 50 = .ok (.ldc2_w 21, 3) := by decide +kernel
theorem dX0_find_53 : decode cX0_find 53 = .ok (.lcmp, 1) := by decide +kernel
theorem dX0_find_54 : decode cX0_find 54 = .ok (.ifCond .gt 155, 3) := by decide +kernel
theorem dX0_find_57 : decode cX0_find 57 = .ok (.lload 9, 2) := by decide +kernel
theorem dX0_find_59 : decode cX0_find 59 = .ok (.lload 7, 2) := by decide +kernel
theorem dX0_find_61 : decode cX0_find 61 = .ok (.ladd, 1) := by decide +kernel
theorem dX0_find_62 : decode cX0_find 62 = .ok (.lload 11, 2) := by decide +kernel
theorem dX0_find_64 : decode cX0_find 64 = .ok (.invokestatic 23, 3) := by decide +kernel
theorem dX0_find_67 : decode cX0_find 67 = .ok (.lstore 22, 2) := by decide +kernel
theorem dX0_find_69 : decode cX0_find 69 = .ok (.lload 22, 2) := by decide +kernel
theorem dX0_find_71 : decode cX0_find 71 = .ok (.lload 13, 2) := by decide +kernel
theorem dX0_find_73 : decode cX0_find 73 = .ok (.lmul, 1) := by decide +kernel
theorem dX0_find_74 : decode cX0_find 74 = .ok (.lload 15, 2) := by decide +kernel
theorem dX0_find_76 : decode cX0_find 76 = .ok (.ladd, 1) := by decide +kernel
theorem dX0_find_77 : decode cX0_find 77 = .ok (.lstore 24, 2) := by decide +kernel
theorem dX0_find_79 : decode cX0_find 79 = .ok (.lload 13, 2) := by decide +kernel
theorem dX0_find_81 : decode cX0_find 81 = .ok (.lstore 15, 2) := by decide +kernel
theorem dX0_find_83 : decode cX0_find 83 = .ok (.lload 24, 2) := by decide +kernel
theorem dX0_find_85 : decode cX0_find 85 = .ok (.lstore 13, 2) := by decide +kernel
theorem dX0_find_87 : decode cX0_find 87 = .ok (.lload 22, 2) := by decide +kernel
theorem dX0_find_89 : decode cX0_find 89 = .ok (.lload 17, 2) := by decide +kernel
theorem dX0_find_91 : decode cX0_find 91 = .ok (.lmul, 1) := by decide +kernel
theorem dX0_find_92 : decode cX0_find 92 = .ok (.lload 19, 2) := by decide +kernel
theorem dX0_find_94 : decode cX0_find 94 = .ok (.ladd, 1) := by decide +kernel
theorem dX0_find_95 : decode cX0_find 95 = .ok (.lstore 24, 2) := by decide +kernel
theorem dX0_find_97 : decode cX0_find 97 = .ok (.lload 17, 2) := by decide +kernel
theorem dX0_find_99 : decode cX0_find 99 = .ok (.lstore 19, 2) := by decide +kernel
theorem dX0_find_101 : decode cX0_find 101 = .ok (.lload 24, 2) := by decide +kernel
theorem dX0_find_103 : decode cX0_find 103 = .ok (.lstore 17, 2) := by decide +kernel
theorem dX0_find_105 : decode cX0_find 105 = .ok (.aload_n 0, 1) := by decide +kernel
theorem dX0_find_106 : decode cX0_find 106 = .ok (.aload_n 0, 1) := by decide +kernel
theorem dX0_find_107 : decode cX0_find 107 = .ok (.getfield 15, 3) := by decide +kernel
theorem dX0_find_110 : decode cX0_find 110 = .ok (.lneg, 1) := by decide +kernel
theorem dX0_find_111 : decode cX0_find 111 = .ok (.putfield 15, 3) := by decide +kernel
theorem dX0_find_114 : decode cX0_find 114 = .ok (.lload 22, 2) := by decide +kernel
theorem dX0_find_116 : decode cX0_find 116 = .ok (.lload 11, 2) := by decide +kernel
theorem dX0_find_118 : decode cX0_find 118 = .ok (.lmul, 1) := by decide +kernel
theorem dX0_find_119 : decode cX0_find 119 = .ok (.lload 9, 2) := by decide +kernel
theorem dX0_find_121 : decode cX0_find 121 = .ok (.lsub, 1) := by decide +kernel
theorem dX0_find_122 : decode cX0_find 122 = .ok (.lstore 9, 2) := by decide +kernel
theorem dX0_find_124 : decode cX0_find 124 = .ok (.lload_n 1, 1) := by decide +kernel
theorem dX0_find_125 : decode cX0_find 125 = .ok (.lload 9, 2) := by decide +kernel
theorem dX0_find_127 : decode cX0_find 127 = .ok (.lload 9, 2) := by decide +kernel
theorem dX0_find_129 : decode cX0_find 129 = .ok (.lmul, 1) := by decide +kernel
theorem dX0_find_130 : decode cX0_find 130 = .ok (.lsub, 1) := by decide +kernel
theorem dX0_find_131 : decode cX0_find 131 = .ok (.lload 11, 2) := by decide +kernel
theorem dX0_find_133 : decode cX0_find 133 = .ok (.invokestatic 23, 3) := by decide +kernel
theorem dX0_find_136 : decode cX0_find 136 = .ok (.lstore 11, 2) := by decide +kernel
theorem dX0_find_138 : decode cX0_find 138 = .ok (.lload 11, 2) := by decide +kernel
theorem dX0_find_140 : decode cX0_find 140 = .ok (.ldc2_w 13, 3) := by decide +kernel
theorem dX0_find_143 : decode cX0_find 143 = .ok (.lcmp, 1) := by decide +kernel
theorem dX0_find_144 : decode cX0_find 144 = .ok (.ifCond .ne 59, 3) := by decide +kernel
theorem dX0_find_147 : decode cX0_find 147 = .ok (.aload_n 0, 1) := by decide +kernel
theorem dX0_find_148 : decode cX0_find 148 = .ok (.lload 17, 2) := by decide +kernel
theorem dX0_find_150 : decode cX0_find 150 = .ok (.putfield 27, 3) := by decide +kernel
theorem dX0_find_153 : decode cX0_find 153 = .ok (.aload_n 0, 1) := by decide +kernel
theorem dX0_find_154 : decode cX0_find 154 = .ok (.ldc2_w 13, 3) := by decide +kernel
theorem dX0_find_157 : decode cX0_find 157 = .ok (.lload 13, 2) := by decide +kernel
theorem dX0_find_159 : decode cX0_find 159 = .ok (.lmul, 1) := by decide +kernel
theorem dX0_find_160 : decode cX0_find 160 = .ok (.lload 5, 2) := by decide +kernel
theorem dX0_find_162 : decode cX0_find 162 = .ok (.lload_n 3, 1) := by decide +kernel
theorem dX0_find_163 : decode cX0_find 163 = .ok (.ladd, 1) := by decide +kernel
theorem dX0_find_164 : decode cX0_find 164 = .ok (.lload 17, 2) := by decide +kernel
theorem dX0_find_166 : decode cX0_find 166 = .ok (.lmul, 1) := by decide +kernel
theorem dX0_find_167 : decode cX0_find 167 = .ok (.lsub, 1) := by decide +kernel
theorem dX0_find_168 : decode cX0_find 168 = .ok (.ldc2_w 13, 3) := by decide +kernel
theorem dX0_find_171 : decode cX0_find 171 = .ok (.ldiv, 1) := by decide +kernel
theorem dX0_find_172 : decode cX0_find 172 = .ok (.putfield 30, 3) := by decide +kernel
theorem dX0_find_175 : decode cX0_find 175 = .ok (.aload_n 0, 1) := by decide +kernel
theorem dX0_find_176 : decode cX0_find 176 = .ok (.getfield 30, 3) := by decide +kernel
theorem dX0_find_179 : decode cX0_find 179 = .ok (.ldc2_w 21, 3) := by decide +kernel
theorem dX0_find_182 : decode cX0_find 182 = .ok (.lcmp, 1) := by decide +kernel
theorem dX0_find_183 : decode cX0_find 183 = .ok (.ifCond .gt 18, 3) := by decide +kernel
theorem dX0_find_186 : decode cX0_find 186 = .ok (.aload_n 0, 1) := by decide +kernel
theorem dX0_find_187 : decode cX0_find 187 = .ok (.getfield 27, 3) := by decide +kernel
theorem dX0_find_190 : decode cX0_find 190 = .ok (.ldc2_w 21, 3) := by decide +kernel
theorem dX0_find_193 : decode cX0_find 193 = .ok (.lcmp, 1) := by decide +kernel
theorem dX0_find_194 : decode cX0_find 194 = .ok (.ifCond .gt 7, 3) := by decide +kernel
theorem dX0_find_197 : decode cX0_find 197 = .ok (.iconst 1, 1) := by decide +kernel
theorem dX0_find_198 : decode cX0_find 198 = .ok (.goto 4, 3) := by decide +kernel
theorem dX0_find_201 : decode cX0_find 201 = .ok (.iconst 0, 1) := by decide +kernel
theorem dX0_find_202 : decode cX0_find 202 = .ok (.ireturn, 1) := by decide +kernel
theorem dX0_find_203 : decode cX0_find 203 = .ok (.iinc 21 1, 3) := by decide +kernel
theorem dX0_find_206 : decode cX0_find 206 = .ok (.goto (-166), 3) := by decide +kernel
theorem dX0_find_209 : decode cX0_find 209 = .ok (.iconst 0, 1) := by decide +kernel
theorem dX0_find_210 : decode cX0_find 210 = .ok (.ireturn, 1) := by decide +kernel
theorem bX0_find_0 {l : Launch} {D : va_G} {aI aL : ClassId} {ad : Nat → Nat} {P : sa_P} {I : sa_I} {J : sa_J} {x1 : Int64} {x3 : Int64} {v3 : Int64}  (f3 : x1 &&& (1 : Int64) = v3) (k : Sat (EC l D aI aL ad) M_X0_find P 6 [(0, .ref (ad 32)), (1, .long x1), (3, .long x3), (5, .long v3)] [.long x1] I J) : Sat (EC l D aI aL ad) M_X0_find P 0 [(0, .ref (ad 32)), (1, .long x1), (3, .long x3)] [] I J := by
  refine s_lload_n 1 dX0_find_0 rfl ?_
  refine s_lconst (v := 1) dX0_find_1 rfl ?_
  refine s_land dX0_find_2 ?_
  refine s_eql f3 ?_
  refine s_lstore [(5, .long v3), (0, .ref (ad 32)), (1, .long x1), (3, .long x3)] dX0_find_3 (Nat.lt_of_lt_of_le (Nat.lt_succ_self _) (Nat.le_of_ble_eq_true rfl)) rfl ?_
  refine s_lload_n 2 dX0_find_5 rfl ?_
  refine s_pick [1, 2, 3, 0] [(0, .ref (ad 32)), (1, .long x1), (3, .long x3), (5, .long v3)] rfl ?_; exact k
theorem bX0_find_9 {l : Launch} {D : va_G} {aI aL : ClassId} {ad : Nat → Nat} {P : sa_P} {I : sa_I} {J : sa_J} {x1 : Int64} {x3 : Int64} {x5 : Int64} {s0 : Int64} {v18 : Int64} {v21 : Int64} {v24 : Int64} {v27 : Int64} {v30 : Int64} {v34 : Int64} {v38 : Int32}  (f18 : (2 : Int64) = v18) (f21 : (1 : Int64) = v21) (f24 : (0 : Int64) = v24) (f27 : (0 : Int64) = v27) (f30 : (1 : Int64) = v30) (f34 : (1 : Int64) = v34) (f38 : (0 : Int32) = v38) (k : Sat (EC l D aI aL ad) M_X0_find P 40 [(0, .ref (ad 32)), (1, .long x1), (3, .long x3), (5, .long x5), (7, .long s0), (9, .long x5), (11, .long v18), (13, .long v21), (15, .long v24), (17, .long v27), (19, .long v30), (21, .int v38)] [] I (sa_uJ J 32 2 v34)) : Sat (EC l D aI aL ad) M_X0_find P 9 [(0, .ref (ad 32)), (1, .long x1), (3, .long x3), (5, .long x5)] [.long s0] I J := by
  refine s_lstore [(7, .long s0), (0, .ref (ad 32)), (1, .long x1), (3, .long x3), (5, .long x5)] dX0_find_9 (Nat.lt_of_lt_of_le (Nat.lt_succ_self _) (Nat.le_of_ble_eq_true rfl)) rfl ?_
  refine s_lload 4 dX0_find_11 rfl ?_
  refine s_lstore [(9, .long x5), (7, .long s0), (0, .ref (ad 32)), (1, .long x1), (3, .long x3), (5, .long x5)] dX0_find_13 (Nat.lt_of_lt_of_le (Nat.lt_succ_self _) (Nat.le_of_ble_eq_true rfl)) rfl ?_
  refine s_ldc2 wk_X0_13 dX0_find_15 ?_
  refine s_eql f18 ?_
  refine s_lstore [(11, .long v18), (9, .long x5), (7, .long s0), (0, .ref (ad 32)), (1, .long x1), (3, .long x3), (5, .long x5)] dX0_find_18 (Nat.lt_of_lt_of_le (Nat.lt_succ_self _) (Nat.le_of_ble_eq_true rfl)) rfl ?_
  refine s_lconst (v := 1) dX0_find_20 rfl ?_
  refine s_eql f21 ?_
  refine s_lstore [(13, .long v21), (11, .long v18), (9, .long x5), (7, .long s0), (0, .ref (ad 32)), (1, .long x1), (3, .long x3), (5, .long x5)] dX0_find_21 (Nat.lt_of_lt_of_le (Nat.lt_succ_self _) (Nat.le_of_ble_eq_true rfl)) rfl ?_
  refine s_lconst (v := 0) dX0_find_23 rfl ?_
  refine s_eql f24 ?_
  refine s_lstore [(15, .long v24), (13, .long v21), (11, .long v18), (9, .long x5), (7, .long s0), (0, .ref (ad 32)), (1, .long x1), (3, .long x3), (5, .long x5)] dX0_find_24 (Nat.lt_of_lt_of_le (Nat.lt_succ_self _) (Nat.le_of_ble_eq_true rfl)) rfl ?_
  refine s_lconst (v := 0) dX0_find_26 rfl ?_
  refine s_eql f27 ?_
  refine s_lstore [(17, .long v27), (15, .long v24), (13, .long v21), (11, .long v18), (9, .long x5), (7, .long s0), (0, .ref (ad 32)), (1, .long x1), (3, .long x3), (5, .long x5)] dX0_find_27 (Nat.lt_of_lt_of_le (Nat.lt_succ_self _) (Nat.le_of_ble_eq_true rfl)) rfl ?_
  refine s_lconst (v := 1) dX0_find_29 rfl ?_
  refine s_eql f30 ?_
  refine s_lstore [(19, .long v30), (17, .long v27), (15, .long v24), (13, .long v21), (11, .long v18), (9, .long x5), (7, .long s0), (0, .ref (ad 32)), (1, .long x1), (3, .long x3), (5, .long x5)] dX0_find_30 (Nat.lt_of_lt_of_le (Nat.lt_succ_self _) (Nat.le_of_ble_eq_true rfl)) rfl ?_
  refine s_aload_n 7 dX0_find_32 rfl ?_
  refine s_lconst (v := 1) dX0_find_33 rfl ?_
  refine s_eql f34 ?_
  refine p_X0_15 dX0_find_34 rfl ?_
  refine s_iconst (v := 0) dX0_find_37 rfl ?_
  refine s_eqi f38 ?_
  refine s_istore [(21, .int v38), (19, .long v30), (17, .long v27), (15, .long v24), (13, .long v21), (11, .long v18), (9, .long x5), (7, .long s0), (0, .ref (ad 32)), (1, .long x1), (3, .long x3), (5, .long x5)] dX0_find_38 (Nat.lt_of_lt_of_le (Nat.lt_succ_self _) (Nat.le_of_ble_eq_true rfl)) rfl ?_
  refine s_pick [8, 9, 10, 11, 7, 6, 5, 4, 3, 2, 1, 0] [(0, .ref (ad 32)), (1, .long x1), (3, .long x3), (5, .long x5), (7, .long s0), (9, .long x5), (11, .long v18), (13, .long v21), (15, .long v24), (17, .long v27), (19, .long v30), (21, .int v38)] rfl ?_; exact k
theorem bX0_find_40 {l : Launch} {D : va_G} {aI aL : ClassId} {ad : Nat → Nat} {P : sa_P} {I : sa_I} {J : sa_J} {x1 : Int64} {x3 : Int64} {x5 : Int64} {x7 : Int64} {x9 : Int64} {x11 : Int64} {x13 : Int64} {x15 : Int64} {x17 : Int64} {x19 : Int64} {x21 : Int32}   (kt : (1000 : Int32) ≤ x21 → Sat (EC l D aI aL ad) M_X0_find P 209 [] [] I J) (kf : ¬ (1000 : Int32) ≤ x21 → Sat (EC l D aI aL ad) M_X0_find P 48 [(0, .ref (ad 32)), (1, .long x1), (3, .long x3), (5, .long x5), (7, .long x7), (9, .long x9), (11, .long x11), (13, .long x13), (15, .long x15), (17, .long x17), (19, .long x19), (21, .int x21)] [] I J) : Sat (EC l D aI aL ad) M_X0_find P 40 [(0, .ref (ad 32)), (1, .long x1), (3, .long x3), (5, .long x5), (7, .long x7), (9, .long x9), (11, .long x11), (13, .long x13), (15, .long x15), (17, .long x17), (19, .long x19), (21, .int x21)] [] I J := by
  refine s_iload 11 dX0_find_40 rfl ?_
  refine s_sipush (v := 1000) dX0_find_42 rfl ?_
  refine s_icmp_ge (tgt := 209) dX0_find_45 (by decide) (fun c => ?_) (fun c => ?_)
  · refine s_pick [] [] rfl ?_; exact kt c
  · exact kf c
theorem bX0_find_48 {l : Launch} {D : va_G} {aI aL : ClassId} {ad : Nat → Nat} {P : sa_P} {I : sa_I} {J : sa_J} {x1 : Int64} {x3 : Int64} {x5 : Int64} {x7 : Int64} {x9 : Int64} {x11 : Int64} {x13 : Int64} {x15 : Int64} {x17 : Int64} {x19 : Int64} {x21 : Int32}   (kt : (1000000000000000 : Int64) < x17 → Sat (EC l D aI aL ad) M_X0_find P 209 [] [] I J) (kf : ¬ (1000000000000000 : Int64) < x17 → Sat (EC l D aI aL ad) M_X0_find P 57 [(0, .ref (ad 32)), (1, .long x1), (3, .long x3), (5, .long x5), (7, .long x7), (9, .long x9), (11, .long x11), (13, .long x13), (15, .long x15), (17, .long x17), (19, .long x19), (21, .int x21)] [] I J) : Sat (EC l D aI aL ad) M_X0_find P 48 [(0, .ref (ad 32)), (1, .long x1), (3, .long x3), (5, .long x5), (7, .long x7), (9, .long x9), (11, .long x11), (13, .long x13), (15, .long x15), (17, .long x17), (19, .long x19), (21, .int x21)] [] I J := by
  refine s_lload 9 dX0_find_48 rfl ?_
  refine s_ldc2 wk_X0_21 dX0_find_50 ?_
  refine s_lif_gt (tgt := 209) dX0_find_53 dX0_find_54 (by decide) (fun c => ?_) (fun c => ?_)
  · refine s_pick [] [] rfl ?_; exact kt c
  · exact kf c
theorem bX0_find_57 {l : Launch} {D : va_G} {aI aL : ClassId} {ad : Nat → Nat} {P : sa_P} {I : sa_I} {J : sa_J} {x1 : Int64} {x3 : Int64} {x5 : Int64} {x7 : Int64} {x9 : Int64} {x11 : Int64} {x13 : Int64} {x15 : Int64} {x17 : Int64} {x19 : Int64} {x21 : Int32}   (k : Sat (EC l D aI aL ad) M_X0_find P 64 [(0, .ref (ad 32)), (1, .long x1), (3, .long x3), (5, .long x5), (7, .long x7), (9, .long x9), (11, .long x11), (13, .long x13), (15, .long x15), (17, .long x17), (19, .long x19), (21, .int x21)] [.long x11, .long (x9 + x7)] I J) : Sat (EC l D aI aL ad) M_X0_find P 57 [(0, .ref (ad 32)), (1, .long x1), (3, .long x3), (5, .long x5), (7, .long x7), (9, .long x9), (11, .long x11), (13, .long x13), (15, .long x15), (17, .long x17), (19, .long x19), (21, .int x21)] [] I J := by
  refine s_lload 5 dX0_find_57 rfl ?_
  refine s_lload 4 dX0_find_59 rfl ?_
  refine s_ladd dX0_find_61 ?_
  refine s_lload 6 dX0_find_62 rfl ?_
  exact k
theorem bX0_find_67 {l : Launch} {D : va_G} {aI aL : ClassId} {ad : Nat → Nat} {P : sa_P} {I : sa_I} {J : sa_J} {x1 : Int64} {x3 : Int64} {x5 : Int64} {x7 : Int64} {x9 : Int64} {x11 : Int64} {x13 : Int64} {x15 : Int64} {x17 : Int64} {x19 : Int64} {x21 : Int32} {s0 : Int64} {v77 : Int64} {v95 : Int64} {v111 : Int64} {v122 : Int64}  (f77 : (s0 * x13) + x15 = v77) (f95 : (s0 * x17) + x19 = v95) (f111 : -(J 32 2) = v111) (f122 : (s0 * x11) - x9 = v122) (k : Sat (EC l D aI aL ad) M_X0_find P 133 [(0, .ref (ad 32)), (1, .long x1), (3, .long x3), (5, .long x5), (7, .long x7), (9, .long v122), (13, .long v77), (15, .long x13), (17, .long v95), (19, .long x17), (21, .int x21)] [.long x11, .long (x1 - (v122 * v122))] I (sa_uJ J 32 2 v111)) : Sat (EC l D aI aL ad) M_X0_find P 67 [(0, .ref (ad 32)), (1, .long x1), (3, .long x3), (5, .long x5), (7, .long x7), (9, .long x9), (11, .long x11), (13, .long x13), (15, .long x15), (17, .long x17), (19, .long x19), (21, .int x21)] [.long s0] I J := by
  refine s_lstore [(22, .long s0), (0, .ref (ad 32)), (1, .long x1), (3, .long x3), (5, .long x5), (7, .long x7), (9, .long x9), (11, .long x11), (13, .long x13), (15, .long x15), (17, .long x17), (19, .long x19), (21, .int x21)] dX0_find_67 (Nat.lt_of_lt_of_le (Nat.lt_succ_self _) (Nat.le_of_ble_eq_true rfl)) rfl ?_
  refine s_lload 0 dX0_find_69 rfl ?_
  refine s_lload 8 dX0_find_71 rfl ?_
  refine s_lmul dX0_find_73 ?_
  refine s_lload 9 dX0_find_74 rfl ?_
  refine s_ladd dX0_find_76 ?_
  refine s_eql f77 ?_
  refine s_lstore [(24, .long v77), (22, .long s0), (0, .ref (ad 32)), (1, .long x1), (3, .long x3), (5, .long x5), (7, .long x7), (9, .long x9), (11, .long x11), (13, .long x13), (15, .long x15), (17, .long x17), (19, .long x19), (21, .int x21)] dX0_find_77 (Nat.lt_of_lt_of_le (Nat.lt_succ_self _) (Nat.le_of_ble_eq_true rfl)) rfl ?_
  refine s_lload 9 dX0_find_79 rfl ?_
  refine s_lstore [(15, .long x13), (24, .long v77), (22, .long s0), (0, .ref (ad 32)), (1, .long x1), (3, .long x3), (5, .long x5), (7, .long x7), (9, .long x9), (11, .long x11), (13, .long x13), (17, .long x17), (19, .long x19), (21, .int x21)] dX0_find_81 (Nat.lt_of_lt_of_le (Nat.lt_succ_self _) (Nat.le_of_ble_eq_true rfl)) rfl ?_
  refine s_lload 1 dX0_find_83 rfl ?_
  refine s_lstore [(13, .long v77), (15, .long x13), (24, .long v77), (22, .long s0), (0, .ref (ad 32)), (1, .long x1), (3, .long x3), (5, .long x5), (7, .long x7), (9, .long x9), (11, .long x11), (17, .long x17), (19, .long x19), (21, .int x21)] dX0_find_85 (Nat.lt_of_lt_of_le (Nat.lt_succ_self _) (Nat.le_of_ble_eq_true rfl)) rfl ?_
  refine s_lload 3 dX0_find_87 rfl ?_
  refine s_lload 11 dX0_find_89 rfl ?_
  refine s_lmul dX0_find_91 ?_
  refine s_lload 12 dX0_find_92 rfl ?_
  refine s_ladd dX0_find_94 ?_
  refine s_eql f95 ?_
  refine s_lstore [(24, .long v95), (13, .long v77), (15, .long x13), (22, .long s0), (0, .ref (ad 32)), (1, .long x1), (3, .long x3), (5, .long x5), (7, .long x7), (9, .long x9), (11, .long x11), (17, .long x17), (19, .long x19), (21, .int x21)] dX0_find_95 (Nat.lt_of_lt_of_le (Nat.lt_succ_self _) (Nat.le_of_ble_eq_true rfl)) rfl ?_
  refine s_lload 11 dX0_find_97 rfl ?_
  refine s_lstore [(19, .long x17), (24, .long v95), (13, .long v77), (15, .long x13), (22, .long s0), (0, .ref (ad 32)), (1, .long x1), (3, .long x3), (5, .long x5), (7, .long x7), (9, .long x9), (11, .long x11), (17, .long x17), (21, .int x21)] dX0_find_99 (Nat.lt_of_lt_of_le (Nat.lt_succ_self _) (Nat.le_of_ble_eq_true rfl)) rfl ?_
  refine s_lload 1 dX0_find_101 rfl ?_
  refine s_lstore [(17, .long v95), (19, .long x17), (24, .long v95), (13, .long v77), (15, .long x13), (22, .long s0), (0, .ref (ad 32)), (1, .long x1), (3, .long x3), (5, .long x5), (7, .long x7), (9, .long x9), (11, .long x11), (21, .int x21)] dX0_find_103 (Nat.lt_of_lt_of_le (Nat.lt_succ_self _) (Nat.le_of_ble_eq_true rfl)) rfl ?_
  refine s_aload_n 6 dX0_find_105 rfl ?_
  refine s_aload_n 6 dX0_find_106 rfl ?_
  refine g_X0_15 dX0_find_107 rfl ?_
  refine s_lneg dX0_find_110 ?_
  refine s_eql f111 ?_
  refine p_X0_15 dX0_find_111 rfl ?_
  refine s_lload 5 dX0_find_114 rfl ?_
  refine s_lload 12 dX0_find_116 rfl ?_
  refine s_lmul dX0_find_118 ?_
  refine s_lload 11 dX0_find_119 rfl ?_
  refine s_lsub dX0_find_121 ?_
  refine s_eql f122 ?_
  refine s_lstore [(9, .long v122), (17, .long v95), (19, .long x17), (24, .long v95), (13, .long v77), (15, .long x13), (22, .long s0), (0, .ref (ad 32)), (1, .long x1), (3, .long x3), (5, .long x5), (7, .long x7), (11, .long x11), (21, .int x21)] dX0_find_122 (Nat.lt_of_lt_of_le (Nat.lt_succ_self _) (Nat.le_of_ble_eq_true rfl)) rfl ?_
  refine s_lload_n 8 dX0_find_124 rfl ?_
  refine s_lload 0 dX0_find_125 rfl ?_
  refine s_lload 0 dX0_find_127 rfl ?_
  refine s_lmul dX0_find_129 ?_
  refine s_lsub dX0_find_130 ?_
  refine s_lload 12 dX0_find_131 rfl ?_
  refine s_pick [7, 8, 9, 10, 11, 0, 4, 5, 1, 2, 13] [(0, .ref (ad 32)), (1, .long x1), (3, .long x3), (5, .long x5), (7, .long x7), (9, .long v122), (13, .long v77), (15, .long x13), (17, .long v95), (19, .long x17), (21, .int x21)] rfl ?_; exact k
theorem bX0_find_136 {l : Launch} {D : va_G} {aI aL : ClassId} {ad : Nat → Nat} {P : sa_P} {I : sa_I} {J : sa_J} {x1 : Int64} {x3 : Int64} {x5 : Int64} {x7 : Int64} {x9 : Int64} {x13 : Int64} {x15 : Int64} {x17 : Int64} {x19 : Int64} {x21 : Int32} {s0 : Int64}   (kt : ¬ s0 = (2 : Int64) → Sat (EC l D aI aL ad) M_X0_find P 203 [(0, .ref (ad 32)), (1, .long x1), (3, .long x3), (5, .long x5), (7, .long x7), (9, .long x9), (11, .long s0), (13, .long x13), (15, .long x15), (17, .long x17), (19, .long x19), (21, .int x21)] [] I J) (kf : s0 = (2 : Int64) → Sat (EC l D aI aL ad) M_X0_find P 147 [(0, .ref (ad 32)), (3, .long x3), (5, .long x5), (13, .long x13), (17, .long x17)] [] I J) : Sat (EC l D aI aL ad) M_X0_find P 136 [(0, .ref (ad 32)), (1, .long x1), (3, .long x3), (5, .long x5), (7, .long x7), (9, .long x9), (13, .long x13), (15, .long x15), (17, .long x17), (19, .long x19), (21, .int x21)] [.long s0] I J := by
  refine s_lstore [(11, .long s0), (0, .ref (ad 32)), (1, .long x1), (3, .long x3), (5, .long x5), (7, .long x7), (9, .long x9), (13, .long x13), (15, .long x15), (17, .long x17), (19, .long x19), (21, .int x21)] dX0_find_136 (Nat.lt_of_lt_of_le (Nat.lt_succ_self _) (Nat.le_of_ble_eq_true rfl)) rfl ?_
  refine s_lload 0 dX0_find_138 rfl ?_
  refine s_ldc2 wk_X0_13 dX0_find_140 ?_
  refine s_lif_ne (tgt := 203) dX0_find_143 dX0_find_144 (by decide) (fun c => ?_) (fun c => ?_)
  · refine s_pick [1, 2, 3, 4, 5, 6, 0, 7, 8, 9, 10, 11] [(0, .ref (ad 32)), (1, .long x1), (3, .long x3), (5, .long x5), (7, .long x7), (9, .long x9), (11, .long s0), (13, .long x13), (15, .long x15), (17, .long x17), (19, .long x19), (21, .int x21)] rfl ?_; exact kt c
  · refine s_pick [1, 3, 4, 7, 9] [(0, .ref (ad 32)), (3, .long x3), (5, .long x5), (13, .long x13), (17, .long x17)] rfl ?_; exact kf (by first | exact c | exact Classical.not_not.mp c)
theorem bX0_find_147 {l : Launch} {D : va_G} {aI aL : ClassId} {ad : Nat → Nat} {P : sa_P} {I : sa_I} {J : sa_J} {x3 : Int64} {x5 : Int64} {x13 : Int64} {x17 : Int64} {v172 : Int64}  (f172 : (((2 : Int64) * x13) - ((x5 + x3) * x17)) / (2 : Int64) = v172) (kt : (1000000000000000 : Int64) < (sa_uJ (sa_uJ J 32 1 x17) 32 0 v172) 32 0 → Sat (EC l D aI aL ad) M_X0_find P 201 [] [] I (sa_uJ (sa_uJ J 32 1 x17) 32 0 v172)) (kf : ¬ (1000000000000000 : Int64) < (sa_uJ (sa_uJ J 32 1 x17) 32 0 v172) 32 0 → Sat (EC l D aI aL ad) M_X0_find P 186 [(0, .ref (ad 32))] [] I (sa_uJ (sa_uJ J 32 1 x17) 32 0 v172)) : Sat (EC l D aI aL ad) M_X0_find P 147 [(0, .ref (ad 32)), (3, .long x3), (5, .long x5), (13, .long x13), (17, .long x17)] [] I J := by
  refine s_aload_n 0 dX0_find_147 rfl ?_
  refine s_lload 4 dX0_find_148 rfl ?_
  refine p_X0_27 dX0_find_150 rfl ?_
  refine s_aload_n 0 dX0_find_153 rfl ?_
  refine s_ldc2 wk_X0_13 dX0_find_154 ?_
  refine s_lload 3 dX0_find_157 rfl ?_
  refine s_lmul dX0_find_159 ?_
  refine s_lload 2 dX0_find_160 rfl ?_
  refine s_lload_n 1 dX0_find_162 rfl ?_
  refine s_ladd dX0_find_163 ?_
  refine s_lload 4 dX0_find_164 rfl ?_
  refine s_lmul dX0_find_166 ?_
  refine s_lsub dX0_find_167 ?_
  refine s_ldc2 wk_X0_13 dX0_find_168 ?_
  refine s_ldiv dX0_find_171 (by decide) ?_
  refine s_eql f172 ?_
  refine p_X0_30 dX0_find_172 rfl ?_
  refine s_aload_n 0 dX0_find_175 rfl ?_
  refine g_X0_30 dX0_find_176 rfl ?_
  refine s_ldc2 wk_X0_21 dX0_find_179 ?_
  refine s_lif_gt (tgt := 201) dX0_find_182 dX0_find_183 (by decide) (fun c => ?_) (fun c => ?_)
  · refine s_pick [] [] rfl ?_; exact kt c
  · refine s_pick [0] [(0, .ref (ad 32))] rfl ?_; exact kf c
theorem bX0_find_186 {l : Launch} {D : va_G} {aI aL : ClassId} {ad : Nat → Nat} {P : sa_P} {I : sa_I} {J : sa_J}    (kt : (1000000000000000 : Int64) < J 32 1 → Sat (EC l D aI aL ad) M_X0_find P 201 [] [] I J) (kf : ¬ (1000000000000000 : Int64) < J 32 1 → Sat (EC l D aI aL ad) M_X0_find P 197 [] [] I J) : Sat (EC l D aI aL ad) M_X0_find P 186 [(0, .ref (ad 32))] [] I J := by
  refine s_aload_n 0 dX0_find_186 rfl ?_
  refine g_X0_27 dX0_find_187 rfl ?_
  refine s_ldc2 wk_X0_21 dX0_find_190 ?_
  refine s_lif_gt (tgt := 201) dX0_find_193 dX0_find_194 (by decide) (fun c => ?_) (fun c => ?_)
  · refine s_pick [] [] rfl ?_; exact kt c
  · refine s_pick [] [] rfl ?_; exact kf c
theorem bX0_find_197 {l : Launch} {D : va_G} {aI aL : ClassId} {ad : Nat → Nat} {P : sa_P} {I : sa_I} {J : sa_J}    (k : Sat (EC l D aI aL ad) M_X0_find P 202 [] [.int (1 : Int32)] I J) : Sat (EC l D aI aL ad) M_X0_find P 197 [] [] I J := by
  refine s_iconst (v := 1) dX0_find_197 rfl ?_
  refine s_goto (tgt := 202) dX0_find_198 (by decide) ?_
  exact k
theorem bX0_find_201 {l : Launch} {D : va_G} {aI aL : ClassId} {ad : Nat → Nat} {P : sa_P} {I : sa_I} {J : sa_J}    (k : Sat (EC l D aI aL ad) M_X0_find P 202 [] [.int (0 : Int32)] I J) : Sat (EC l D aI aL ad) M_X0_find P 201 [] [] I J := by
  refine s_iconst (v := 0) dX0_find_201 rfl ?_
  exact k
theorem bX0_find_202 {l : Launch} {D : va_G} {aI aL : ClassId} {ad : Nat → Nat} {P : sa_P} {I : sa_I} {J : sa_J} {s0 : Int32} (hz : narrow .boolean (.int s0) = .int s0)  (k : P (some (.int s0)) I J) : Sat (EC l D aI aL ad) M_X0_find P 202 [] [.int s0] I J := by
  exact s_zret hz rfl dX0_find_202 k
theorem bX0_find_203 {l : Launch} {D : va_G} {aI aL : ClassId} {ad : Nat → Nat} {P : sa_P} {I : sa_I} {J : sa_J} {x1 : Int64} {x3 : Int64} {x5 : Int64} {x7 : Int64} {x9 : Int64} {x11 : Int64} {x13 : Int64} {x15 : Int64} {x17 : Int64} {x19 : Int64} {x21 : Int32} {v203 : Int32}  (f203 : x21 + 1 = v203) (k : Sat (EC l D aI aL ad) M_X0_find P 40 [(0, .ref (ad 32)), (1, .long x1), (3, .long x3), (5, .long x5), (7, .long x7), (9, .long x9), (11, .long x11), (13, .long x13), (15, .long x15), (17, .long x17), (19, .long x19), (21, .int v203)] [] I J) : Sat (EC l D aI aL ad) M_X0_find P 203 [(0, .ref (ad 32)), (1, .long x1), (3, .long x3), (5, .long x5), (7, .long x7), (9, .long x9), (11, .long x11), (13, .long x13), (15, .long x15), (17, .long x17), (19, .long x19), (21, .int x21)] [] I J := by
  refine s_iinc 11 v203 [(21, .int v203), (0, .ref (ad 32)), (1, .long x1), (3, .long x3), (5, .long x5), (7, .long x7), (9, .long x9), (11, .long x11), (13, .long x13), (15, .long x15), (17, .long x17), (19, .long x19)] dX0_find_203 rfl f203 (Nat.lt_of_lt_of_le (Nat.lt_succ_self _) (Nat.le_of_ble_eq_true rfl)) rfl ?_
  refine s_goto (tgt := 40) dX0_find_206 (by decide) ?_
  refine s_pick [1, 2, 3, 4, 5, 6, 7, 8, 9, 10, 11, 0] [(0, .ref (ad 32)), (1, .long x1), (3, .long x3), (5, .long x5), (7, .long x7), (9, .long x9), (11, .long x11), (13, .long x13), (15, .long x15), (17, .long x17), (19, .long x19), (21, .int v203)] rfl ?_; exact k
theorem bX0_find_209 {l : Launch} {D : va_G} {aI aL : ClassId} {ad : Nat → Nat} {P : sa_P} {I : sa_I} {J : sa_J}    (k : P (some (.int (0 : Int32))) I J) : Sat (EC l D aI aL ad) M_X0_find P 209 [] [] I J := by
  refine s_iconst (v := 0) dX0_find_209 rfl ?_
  exact s_zret rfl rfl dX0_find_210 k
/-! X1_forget -/
theorem dX1_forget_0 : decode cX1_forget 0 = .ok (.aload_n 0, 1) := by decide +kernel
theorem dX1_forget_1 : decode cX1_forget 1 = .ok (.iconst 0, 1) := by decide +kernel
theorem dX1_forget_2 : decode cX1_forget 2 = .ok (.putfield 33, 3) := by decide +kernel
theorem dX1_forget_5 : decode cX1_forget 5 = .ok (.return_, 1) := by decide +kernel
theorem bX1_forget_0 {l : Launch} {D : va_G} {aI aL : ClassId} {ad : Nat → Nat} {P : sa_P} {I : sa_I} {J : sa_J} {v2 : Int32} (hz2 : narrow .boolean (.int v2) = .int v2) (hy2 : fits .boolean (.int v2) = true) (f2 : (0 : Int32) = v2) (k : P (none) (sa_uI I 27 8 v2) J) : Sat (EC l D aI aL ad) M_X1_forget P 0 [(0, .ref (ad 27))] [] I J := by
  refine s_aload_n 0 dX1_forget_0 rfl ?_
  refine s_iconst (v := 0) dX1_forget_1 rfl ?_
  refine s_eqi f2 ?_
  refine p_X1_33 hz2 hy2 dX1_forget_2 rfl ?_
  exact s_vret rfl dX1_forget_5 k
/-! X1_list -/
theorem dX1_list_0 : decode cX1_list 0 = .ok (.aload_n 0, 1) := by decide +kernel
theorem dX1_list_1 : decode cX1_list 1 = .ok (.getfield 33, 3) := by decide +kernel
theorem dX1_list_4 : decode cX1_list 4 = .ok (.ifCond .eq 4, 3) := by decide +kernel
theorem dX1_list_7 : decode cX1_list 7 = .ok (.return_, 1) := by decide +kernel
theorem dX1_list_8 : decode cX1_list 8 = .ok (.aload_n 0, 1) := by decide +kernel
theorem dX1_list_9 : decode cX1_list 9 = .ok (.iconst 1, 1) := by decide +kernel
theorem dX1_list_10 : decode cX1_list 10 = .ok (.putfield 33, 3) := by decide +kernel
theorem dX1_list_13 : decode cX1_list 13 = .ok (.aload_n 0, 1) := by decide +kernel
theorem dX1_list_14 : decode cX1_list 14 = .ok (.iconst 0, 1) := by decide +kernel
theorem dX1_list_15 : decode cX1_list 15 = .ok (.putfield 37, 3) := by decide +kernel
theorem dX1_list_18 : decode cX1_list 18 = .ok (.aload_n 0, 1) := by decide +kernel
theorem dX1_list_19 : decode cX1_list 19 = .ok (.aload_n 0, 1) := by decide +kernel
theorem dX1_list_20 : decode cX1_list 20 = .ok (.getfield 25, 3) := by decide +kernel
theorem dX1_list_23 : decode cX1_list 23 = .ok (.getfield 41, 3) := by decide +kernel
theorem dX1_list_26 : decode cX1_list 26 = .ok (.putfield 47, 3) := by decide +kernel
theorem dX1_list_29 : decode cX1_list 29 = .ok (.aload_n 0, 1) := by decide +kernel
theorem dX1_list_30 : decode cX1_list 30 = .ok (.aload_n 0, 1) := by decide +kernel
theorem dX1_list_31 : decode cX1_list 31 = .ok (.getfield 47, 3) := by decide +kernel
theorem dX1_list_34 : decode cX1_list 34 = .ok (.invokestatic 50, 3) := by decide +kernel
theorem dX1_list_37 : decode cX1_list 37 = .ok (.invokestatic 56, 3) := by decide +kernel
theorem dX1_list_40 : decode cX1_list 40 = .ok (.putfield 59, 3) := by decide +kernel
theorem dX1_list_43 : decode cX1_list 43 = .ok (.aload_n 0, 1) := by decide +kernel
theorem dX1_list_44 : decode cX1_list 44 = .ok (.getfield 47, 3) := by decide +kernel
theorem dX1_list_47 : decode cX1_list 47 = .ok (.lconst 0, 1) := by decide +kernel
theorem dX1_list_48 : decode cX1_list 48 = .ok (.lcmp, 1) := by decide +kernel
theorem dX1_list_49 : decode cX1_list 49 = .ok (.ifCond .le 11, 3) := by decide +kernel
theorem dX1_list_52 : decode cX1_list 52 = .ok (.aload_n 0, 1) := by decide +kernel
theorem dX1_list_53 : decode cX1_list 53 = .ok (.getfield 59, 3) := by decide +kernel
theorem dX1_list_56 : decode cX1_list 56 = .ok (.lneg, 1) := by decide +kernel
theorem dX1_list_57 : decode cX1_list 57 = .ok (.goto 4, 3) := by decide +kernel
theorem dX1_list_60 : decode cX1_list 60 = .ok (.lconst 1, 1) := by decide +kernel
theorem dX1_list_61 : decode cX1_list 61 = .ok (.lstore_n 1, 1) := by decide +kernel
theorem dX1_list_62 : decode cX1_list 62 = .ok (.lload_n 1, 1) := by decide +kernel
theorem dX1_list_63 : decode cX1_list 63 = .ok (.aload_n 0, 1) := by decide +kernel
theorem dX1_list_64 : decode cX1_list 64 = .ok (.getfield 59, 3) := by decide +kernel
theorem dX1_list_67 : decode cX1_list 67 = .ok (.lcmp, 1) := by decide +kernel
theorem dX1_list_68 : decode cX1_list 68 = .ok (.ifCond .gt 69, 3) := by decide +kernel
theorem dX1_list_71 : decode cX1_list 71 = .ok (.aload_n 0, 1) := by decide +kernel
theorem dX1_list_72 : decode cX1_list 72 = .ok (.getfield 47, 3) := by decide +kernel
theorem dX1_list_75 : decode cX1_list 75 = .ok (.lconst 0, 1) := by decide +kernel
theorem dX1_list_76 : decode cX1_list 76 = .ok (.lcmp, 1) := by decide +kernel
theorem dX1_list_77 : decode cX1_list 77 = .ok (.ifCond .le 10, 3) := by decide +kernel
theorem dX1_list_80 : decode cX1_list 80 = .ok (.aload_n 0, 1) := by decide +kernel
theorem dX1_list_81 : decode cX1_list 81 = .ok (.getfield 59, 3) := by decide +kernel
theorem dX1_list_84 : decode cX1_list 84 = .ok (.goto 4, 3) := by decide +kernel
theorem dX1_list_87 : decode cX1_list 87 = .ok (.lload_n 1, 1) := by decide +kernel
theorem dX1_list_88 : decode cX1_list 88 = .ok (.lstore_n 3, 1) := by decide +kernel
theorem dX1_list_89 : decode cX1_list 89 = .ok (.aload_n 0, 1) := by decide +kernel
theorem dX1_list_90 : decode cX1_list 90 = .ok (.getfield 47, 3) := by decide +kernel
theorem dX1_list_93 : decode cX1_list 93 = .ok (.lconst 0, 1) := by decide +kernel
theorem dX1_list_94 : decode cX1_list 94 = .ok (.lcmp, 1) := by decide +kernel
theorem dX1_list_95 : decode cX1_list 95 = .ok (.ifCond .le 7, 3) := by decide +kernel
theorem dX1_list_98 : decode cX1_list 98 = .ok (.lconst 1, 1) := by decide +kernel
theorem dX1_list_99 : decode cX1_list 99 = .ok (.goto 6, 3) := by decide +kernel
theorem dX1_list_102 : decode cX1_list 102 = .ok (.lconst 1, 1) := by decide +kernel
theorem dX1_list_103 : decode cX1_list 103 = .ok (.lload_n 1, 1) := by decide +kernel
theorem dX1_list_104 : decode cX1_list 104 = .ok (.lsub, 1) := by decide +kernel
theorem dX1_list_105 : decode cX1_list 105 = .ok (.lstore 5, 2) := by decide +kernel
theorem dX1_list_107 : decode cX1_list 107 = .ok (.lload 5, 2) := by decide +kernel
theorem dX1_list_109 : decode cX1_list 109 = .ok (.lload_n 3, 1) := by decide +kernel
theorem dX1_list_110 : decode cX1_list 110 = .ok (.lcmp, 1) := by decide +kernel
theorem dX1_list_111 : decode cX1_list 111 = .ok (.ifCond .gt 19, 3) := by decide +kernel
theorem dX1_list_114 : decode cX1_list 114 = .ok (.aload_n 0, 1) := by decide +kernel
theorem dX1_list_115 : decode cX1_list 115 = .ok (.lload_n 1, 1) := by decide +kernel
theorem dX1_list_116 : decode cX1_list 116 = .ok (.lload 5, 2) := by decide +kernel
theorem dX1_list_118 : decode cX1_list 118 = .ok (.invokevirtual 62, 3) := by decide +kernel
theorem dX1_list_121 : decode cX1_list 121 = .ok (.lload 5, 2) := by decide +kernel
theorem dX1_list_123 : decode cX1_list 123 = .ok (.lconst 1, 1) := by decide +kernel
theorem dX1_list_124 : decode cX1_list 124 = .ok (.ladd, 1) := by decide +kernel
theorem dX1_list_125 : decode cX1_list 125 = .ok (.lstore 5, 2) := by decide +kernel
theorem dX1_list_127 : decode cX1_list 127 = .ok (.goto (-20), 3) := by decide +kernel
theorem dX1_list_130 : decode cX1_list 130 = .ok (.lload_n 1, 1) := by decide +kernel
theorem dX1_list_131 : decode cX1_list 131 = .ok (.lconst 1, 1) := by decide +kernel
theorem dX1_list_132 : decode cX1_list 132 = .ok (.ladd, 1) := by decide +kernel
theorem dX1_list_133 : decode cX1_list 133 = .ok (.lstore_n 1, 1) := by decide +kernel
theorem dX1_list_134 : decode cX1_list 134 = .ok (.goto (-72), 3) := by decide +kernel
theorem dX1_list_137 : decode cX1_list 137 = .ok (.aload_n 0, 1) := by decide +kernel
theorem dX1_list_138 : decode cX1_list 138 = .ok (.getfield 47, 3) := by decide +kernel
theorem dX1_list_141 : decode cX1_list 141 = .ok (.lconst 0, 1) := by decide +kernel
theorem dX1_list_142 : decode cX1_list 142 = .ok (.lcmp, 1) := by decide +kernel
theorem dX1_list_143 : decode cX1_list 143 = .ok (.ifCond .le 10, 3) := by decide +kernel
theorem dX1_list_146 : decode cX1_list 146 = .ok (.aload_n 0, 1) := by decide +kernel
theorem dX1_list_147 : decode cX1_list 147 = .ok (.invokevirtual 66, 3) := by decide +kernel
theorem dX1_list_150 : decode cX1_list 150 = .ok (.goto 11, 3) := by decide +kernel
theorem dX1_list_153 : decode cX1_list 153 = .ok (.aload_n 0, 1) := by decide +kernel
theorem dX1_list_154 : decode cX1_list 154 = .ok (.aload_n 0, 1) := by decide +kernel
theorem dX1_list_155 : decode cX1_list 155 = .ok (.getfield 37, 3) := by decide +kernel
theorem dX1_list_158 : decode cX1_list 158 = .ok (.putfield 69, 3) := by decide +kernel
theorem dX1_list_161 : decode cX1_list 161 = .ok (.return_, 1) := by decide +kernel
theorem bX1_list_0 {l : Launch} {D : va_G} {aI aL : ClassId} {ad : Nat → Nat} {P : sa_P} {I : sa_I} {J : sa_J}    (kt : I 27 8 = 0 → Sat (EC l D aI aL ad) M_X1_list P 8 [(0, .ref (ad 27))] [] I J) (kf : ¬ I 27 8 = 0 → Sat (EC l D aI aL ad) M_X1_list P 7 [] [] I J) : Sat (EC l D aI aL ad) M_X1_list P 0 [(0, .ref (ad 27))] [] I J := by
  refine s_aload_n 0 dX1_list_0 rfl ?_
  refine g_X1_33 dX1_list_1 rfl ?_
  refine s_if_eq (tgt := 8) dX1_list_4 (by decide) (fun c => ?_) (fun c => ?_)
  · exact kt c
  · refine s_pick [] [] rfl ?_; exact kf c
theorem bX1_list_7 {l : Launch} {D : va_G} {aI aL : ClassId} {ad : Nat → Nat} {P : sa_P} {I : sa_I} {J : sa_J}    (k : P (none) I J) : Sat (EC l D aI aL ad) M_X1_list P 7 [] [] I J := by
  exact s_vret rfl dX1_list_7 k
theorem bX1_list_8 {l : Launch} {D : va_G} {aI aL : ClassId} {ad : Nat → Nat} {P : sa_P} {I : sa_I} {J : sa_J} {v10 : Int32} {v15 : Int32} {v26 : Int64} (hz10 : narrow .boolean (.int v10) = .int v10) (hy10 : fits .boolean (.int v10) = true) (f10 : (1 : Int32) = v10) (f15 : (0 : Int32) = v15) (f26 : J 4 2 = v26) (k : Sat (EC l D aI aL ad) M_X1_list P 34 [(0, .ref (ad 27))] [.long ((sa_uJ J 27 9 v26) 27 9), .ref (ad 27)] (sa_uI (sa_uI I 27 8 v10) 27 0 v15) (sa_uJ J 27 9 v26)) : Sat (EC l D aI aL ad) M_X1_list P 8 [(0, .ref (ad 27))] [] I J := by
  refine s_aload_n 0 dX1_list_8 rfl ?_
  refine s_iconst (v := 1) dX1_list_9 rfl ?_
  refine s_eqi f10 ?_
  refine p_X1_33 hz10 hy10 dX1_list_10 rfl ?_
  refine s_aload_n 0 dX1_list_13 rfl ?_
  refine s_iconst (v := 0) dX1_list_14 rfl ?_
  refine s_eqi f15 ?_
  refine p_X1_37 dX1_list_15 rfl ?_
  refine s_aload_n 0 dX1_list_18 rfl ?_
  refine s_aload_n 0 dX1_list_19 rfl ?_
  refine g_X1_25 dX1_list_20 rfl ?_
  refine g_X1_41 dX1_list_23 rfl ?_
  refine s_eql f26 ?_
  refine p_X1_47 dX1_list_26 rfl ?_
  refine s_aload_n 0 dX1_list_29 rfl ?_
  refine s_aload_n 0 dX1_list_30 rfl ?_
  refine g_X1_47 dX1_list_31 rfl ?_
  exact k
theorem bX1_list_40 {l : Launch} {D : va_G} {aI aL : ClassId} {ad : Nat → Nat} {P : sa_P} {I : sa_I} {J : sa_J} {s1 : Int64}   (kt : (sa_uJ J 27 10 s1) 27 9 ≤ (0 : Int64) → Sat (EC l D aI aL ad) M_X1_list P 60 [(0, .ref (ad 27))] [] I (sa_uJ J 27 10 s1)) (kf : ¬ (sa_uJ J 27 10 s1) 27 9 ≤ (0 : Int64) → Sat (EC l D aI aL ad) M_X1_list P 52 [(0, .ref (ad 27))] [] I (sa_uJ J 27 10 s1)) : Sat (EC l D aI aL ad) M_X1_list P 40 [(0, .ref (ad 27))] [.long s1, .ref (ad 27)] I J := by
  refine p_X1_59 dX1_list_40 rfl ?_
  refine s_aload_n 0 dX1_list_43 rfl ?_
  refine g_X1_47 dX1_list_44 rfl ?_
  refine s_lconst (v := 0) dX1_list_47 rfl ?_
  refine s_lif_le (tgt := 60) dX1_list_48 dX1_list_49 (by decide) (fun c => ?_) (fun c => ?_)
  · exact kt c
  · exact kf c
theorem bX1_list_52 {l : Launch} {D : va_G} {aI aL : ClassId} {ad : Nat → Nat} {P : sa_P} {I : sa_I} {J : sa_J}    (k : Sat (EC l D aI aL ad) M_X1_list P 61 [(0, .ref (ad 27))] [.long (-(J 27 10))] I J) : Sat (EC l D aI aL ad) M_X1_list P 52 [(0, .ref (ad 27))] [] I J := by
  refine s_aload_n 0 dX1_list_52 rfl ?_
  refine g_X1_59 dX1_list_53 rfl ?_
  refine s_lneg dX1_list_56 ?_
  refine s_goto (tgt := 61) dX1_list_57 (by decide) ?_
  exact k
theorem bX1_list_60 {l : Launch} {D : va_G} {aI aL : ClassId} {ad : Nat → Nat} {P : sa_P} {I : sa_I} {J : sa_J}    (k : Sat (EC l D aI aL ad) M_X1_list P 61 [(0, .ref (ad 27))] [.long (1 : Int64)] I J) : Sat (EC l D aI aL ad) M_X1_list P 60 [(0, .ref (ad 27))] [] I J := by
  refine s_lconst (v := 1) dX1_list_60 rfl ?_
  exact k
theorem bX1_list_61 {l : Launch} {D : va_G} {aI aL : ClassId} {ad : Nat → Nat} {P : sa_P} {I : sa_I} {J : sa_J} {s0 : Int64}   (k : Sat (EC l D aI aL ad) M_X1_list P 62 [(0, .ref (ad 27)), (1, .long s0)] [] I J) : Sat (EC l D aI aL ad) M_X1_list P 61 [(0, .ref (ad 27))] [.long s0] I J := by
  refine s_lstore_n [(1, .long s0), (0, .ref (ad 27))] dX1_list_61 (Nat.lt_of_lt_of_le (Nat.lt_succ_self _) (Nat.le_of_ble_eq_true rfl)) rfl ?_
  refine s_pick [1, 0] [(0, .ref (ad 27)), (1, .long s0)] rfl ?_; exact k
theorem bX1_list_62 {l : Launch} {D : va_G} {aI aL : ClassId} {ad : Nat → Nat} {P : sa_P} {I : sa_I} {J : sa_J} {x1 : Int64}   (kt : J 27 10 < x1 → Sat (EC l D aI aL ad) M_X1_list P 137 [(0, .ref (ad 27))] [] I J) (kf : ¬ J 27 10 < x1 → Sat (EC l D aI aL ad) M_X1_list P 71 [(0, .ref (ad 27)), (1, .long x1)] [] I J) : Sat (EC l D aI aL ad) M_X1_list P 62 [(0, .ref (ad 27)), (1, .long x1)] [] I J := by
  refine s_lload_n 1 dX1_list_62 rfl ?_
  refine s_aload_n 0 dX1_list_63 rfl ?_
  refine g_X1_59 dX1_list_64 rfl ?_
  refine s_lif_gt (tgt := 137) dX1_list_67 dX1_list_68 (by decide) (fun c => ?_) (fun c => ?_)
  · refine s_pick [0] [(0, .ref (ad 27))] rfl ?_; exact kt c
  · exact kf c
theorem bX1_list_71 {l : Launch} {D : va_G} {aI aL : ClassId} {ad : Nat → Nat} {P : sa_P} {I : sa_I} {J : sa_J} {x1 : Int64}   (kt : J 27 9 ≤ (0 : Int64) → Sat (EC l D aI aL ad) M_X1_list P 87 [(0, .ref (ad 27)), (1, .long x1)] [] I J) (kf : ¬ J 27 9 ≤ (0 : Int64) → Sat (EC l D aI aL ad) M_X1_list P 80 [(0, .ref (ad 27)), (1, .long x1)] [] I J) : Sat (EC l D aI aL ad) M_X1_list P 71 [(0, .ref (ad 27)), (1, .long x1)] [] I J := by
  refine s_aload_n 0 dX1_list_71 rfl ?_
  refine g_X1_47 dX1_list_72 rfl ?_
  refine s_lconst (v := 0) dX1_list_75 rfl ?_
  refine s_lif_le (tgt := 87) dX1_list_76 dX1_list_77 (by decide) (fun c => ?_) (fun c => ?_)
  · exact kt c
  · exact kf c
theorem bX1_list_80 {l : Launch} {D : va_G} {aI aL : ClassId} {ad : Nat → Nat} {P : sa_P} {I : sa_I} {J : sa_J} {x1 : Int64}   (k : Sat (EC l D aI aL ad) M_X1_list P 88 [(0, .ref (ad 27)), (1, .long x1)] [.long (J 27 10)] I J) : Sat (EC l D aI aL ad) M_X1_list P 80 [(0, .ref (ad 27)), (1, .long x1)] [] I J := by
  refine s_aload_n 0 dX1_list_80 rfl ?_
  refine g_X1_59 dX1_list_81 rfl ?_
  refine s_goto (tgt := 88) dX1_list_84 (by decide) ?_
  exact k
theorem bX1_list_87 {l : Launch} {D : va_G} {aI aL : ClassId} {ad : Nat → Nat} {P : sa_P} {I : sa_I} {J : sa_J} {x1 : Int64}   (k : Sat (EC l D aI aL ad) M_X1_list P 88 [(0, .ref (ad 27)), (1, .long x1)] [.long x1] I J) : Sat (EC l D aI aL ad) M_X1_list P 87 [(0, .ref (ad 27)), (1, .long x1)] [] I J := by
  refine s_lload_n 1 dX1_list_87 rfl ?_
  exact k
theorem bX1_list_88 {l : Launch} {D : va_G} {aI aL : ClassId} {ad : Nat → Nat} {P : sa_P} {I : sa_I} {J : sa_J} {x1 : Int64} {s0 : Int64}   (kt : J 27 9 ≤ (0 : Int64) → Sat (EC l D aI aL ad) M_X1_list P 102 [(0, .ref (ad 27)), (1, .long x1), (3, .long s0)] [] I J) (kf : ¬ J 27 9 ≤ (0 : Int64) → Sat (EC l D aI aL ad) M_X1_list P 98 [(0, .ref (ad 27)), (1, .long x1), (3, .long s0)] [] I J) : Sat (EC l D aI aL ad) M_X1_list P 88 [(0, .ref (ad 27)), (1, .long x1)] [.long s0] I J := by
  refine s_lstore_n [(3, .long s0), (0, .ref (ad 27)), (1, .long x1)] dX1_list_88 (Nat.lt_of_lt_of_le (Nat.lt_succ_self _) (Nat.le_of_ble_eq_true rfl)) rfl ?_
  refine s_aload_n 1 dX1_list_89 rfl ?_
  refine g_X1_47 dX1_list_90 rfl ?_
  refine s_lconst (v := 0) dX1_list_93 rfl ?_
  refine s_lif_le (tgt := 102) dX1_list_94 dX1_list_95 (by decide) (fun c => ?_) (fun c => ?_)
  · refine s_pick [1, 2, 0] [(0, .ref (ad 27)), (1, .long x1), (3, .long s0)] rfl ?_; exact kt c
  · refine s_pick [1, 2, 0] [(0, .ref (ad 27)), (1, .long x1), (3, .long s0)] rfl ?_; exact kf c
theorem bX1_list_98 {l : Launch} {D : va_G} {aI aL : ClassId} {ad : Nat → Nat} {P : sa_P} {I : sa_I} {J : sa_J} {x1 : Int64} {x3 : Int64}   (k : Sat (EC l D aI aL ad) M_X1_list P 105 [(0, .ref (ad 27)), (1, .long x1), (3, .long x3)] [.long (1 : Int64)] I J) : Sat (EC l D aI aL ad) M_X1_list P 98 [(0, .ref (ad 27)), (1, .long x1), (3, .long x3)] [] I J := by
  refine s_lconst (v := 1) dX1_list_98 rfl ?_
  refine s_goto (tgt := 105) dX1_list_99 (by decide) ?_
  exact k
theorem bX1_list_102 {l : Launch} {D : va_G} {aI aL : ClassId} {ad : Nat → Nat} {P : sa_P} {I : sa_I} {J : sa_J} {x1 : Int64} {x3 : Int64}   (k : Sat (EC l D aI aL ad) M_X1_list P 105 [(0, .ref (ad 27)), (1, .long x1), (3, .long x3)] [.long ((1 : Int64) - x1)] I J) : Sat (EC l D aI aL ad) M_X1_list P 102 [(0, .ref (ad 27)), (1, .long x1), (3, .long x3)] [] I J := by
  refine s_lconst (v := 1) dX1_list_102 rfl ?_
  refine s_lload_n 1 dX1_list_103 rfl ?_
  refine s_lsub dX1_list_104 ?_
  exact k
theorem bX1_list_105 {l : Launch} {D : va_G} {aI aL : ClassId} {ad : Nat → Nat} {P : sa_P} {I : sa_I} {J : sa_J} {x1 : Int64} {x3 : Int64} {s0 : Int64}   (k : Sat (EC l D aI aL ad) M_X1_list P 107 [(0, .ref (ad 27)), (1, .long x1), (3, .long x3), (5, .long s0)] [] I J) : Sat (EC l D aI aL ad) M_X1_list P 105 [(0, .ref (ad 27)), (1, .long x1), (3, .long x3)] [.long s0] I J := by
  refine s_lstore [(5, .long s0), (0, .ref (ad 27)), (1, .long x1), (3, .long x3)] dX1_list_105 (Nat.lt_of_lt_of_le (Nat.lt_succ_self _) (Nat.le_of_ble_eq_true rfl)) rfl ?_
  refine s_pick [1, 2, 3, 0] [(0, .ref (ad 27)), (1, .long x1), (3, .long x3), (5, .long s0)] rfl ?_; exact k
theorem bX1_list_107 {l : Launch} {D : va_G} {aI aL : ClassId} {ad : Nat → Nat} {P : sa_P} {I : sa_I} {J : sa_J} {x1 : Int64} {x3 : Int64} {x5 : Int64}   (kt : x3 < x5 → Sat (EC l D aI aL ad) M_X1_list P 130 [(0, .ref (ad 27)), (1, .long x1)] [] I J) (kf : ¬ x3 < x5 → Sat (EC l D aI aL ad) M_X1_list P 114 [(0, .ref (ad 27)), (1, .long x1), (3, .long x3), (5, .long x5)] [] I J) : Sat (EC l D aI aL ad) M_X1_list P 107 [(0, .ref (ad 27)), (1, .long x1), (3, .long x3), (5, .long x5)] [] I J := by
  refine s_lload 3 dX1_list_107 rfl ?_
  refine s_lload_n 2 dX1_list_109 rfl ?_
  refine s_lif_gt (tgt := 130) dX1_list_110 dX1_list_111 (by decide) (fun c => ?_) (fun c => ?_)
  · refine s_pick [0, 1] [(0, .ref (ad 27)), (1, .long x1)] rfl ?_; exact kt c
  · exact kf c
theorem bX1_list_114 {l : Launch} {D : va_G} {aI aL : ClassId} {ad : Nat → Nat} {P : sa_P} {I : sa_I} {J : sa_J} {x1 : Int64} {x3 : Int64} {x5 : Int64}   (k : Sat (EC l D aI aL ad) M_X1_list P 118 [(0, .ref (ad 27)), (1, .long x1), (3, .long x3), (5, .long x5)] [.long x5, .long x1, .ref (ad 27)] I J) : Sat (EC l D aI aL ad) M_X1_list P 114 [(0, .ref (ad 27)), (1, .long x1), (3, .long x3), (5, .long x5)] [] I J := by
  refine s_aload_n 0 dX1_list_114 rfl ?_
  refine s_lload_n 1 dX1_list_115 rfl ?_
  refine s_lload 3 dX1_list_116 rfl ?_
  exact k
theorem bX1_list_121 {l : Launch} {D : va_G} {aI aL : ClassId} {ad : Nat → Nat} {P : sa_P} {I : sa_I} {J : sa_J} {x1 : Int64} {x3 : Int64} {x5 : Int64} {v125 : Int64}  (f125 : x5 + (1 : Int64) = v125) (k : Sat (EC l D aI aL ad) M_X1_list P 107 [(0, .ref (ad 27)), (1, .long x1), (3, .long x3), (5, .long v125)] [] I J) : Sat (EC l D aI aL ad) M_X1_list P 121 [(0, .ref (ad 27)), (1, .long x1), (3, .long x3), (5, .long x5)] [] I J := by
  refine s_lload 3 dX1_list_121 rfl ?_
  refine s_lconst (v := 1) dX1_list_123 rfl ?_
  refine s_ladd dX1_list_124 ?_
  refine s_eql f125 ?_
  refine s_lstore [(5, .long v125), (0, .ref (ad 27)), (1, .long x1), (3, .long x3)] dX1_list_125 (Nat.lt_of_lt_of_le (Nat.lt_succ_self _) (Nat.le_of_ble_eq_true rfl)) rfl ?_
  refine s_goto (tgt := 107) dX1_list_127 (by decide) ?_
  refine s_pick [1, 2, 3, 0] [(0, .ref (ad 27)), (1, .long x1), (3, .long x3), (5, .long v125)] rfl ?_; exact k
theorem bX1_list_130 {l : Launch} {D : va_G} {aI aL : ClassId} {ad : Nat → Nat} {P : sa_P} {I : sa_I} {J : sa_J} {x1 : Int64} {v133 : Int64}  (f133 : x1 + (1 : Int64) = v133) (k : Sat (EC l D aI aL ad) M_X1_list P 62 [(0, .ref (ad 27)), (1, .long v133)] [] I J) : Sat (EC l D aI aL ad) M_X1_list P 130 [(0, .ref (ad 27)), (1, .long x1)] [] I J := by
  refine s_lload_n 1 dX1_list_130 rfl ?_
  refine s_lconst (v := 1) dX1_list_131 rfl ?_
  refine s_ladd dX1_list_132 ?_
  refine s_eql f133 ?_
  refine s_lstore_n [(1, .long v133), (0, .ref (ad 27))] dX1_list_133 (Nat.lt_of_lt_of_le (Nat.lt_succ_self _) (Nat.le_of_ble_eq_true rfl)) rfl ?_
  refine s_goto (tgt := 62) dX1_list_134 (by decide) ?_
  refine s_pick [1, 0] [(0, .ref (ad 27)), (1, .long v133)] rfl ?_; exact k
theorem bX1_list_137 {l : Launch} {D : va_G} {aI aL : ClassId} {ad : Nat → Nat} {P : sa_P} {I : sa_I} {J : sa_J}    (kt : J 27 9 ≤ (0 : Int64) → Sat (EC l D aI aL ad) M_X1_list P 153 [(0, .ref (ad 27))] [] I J) (kf : ¬ J 27 9 ≤ (0 : Int64) → Sat (EC l D aI aL ad) M_X1_list P 146 [(0, .ref (ad 27))] [] I J) : Sat (EC l D aI aL ad) M_X1_list P 137 [(0, .ref (ad 27))] [] I J := by
  refine s_aload_n 0 dX1_list_137 rfl ?_
  refine g_X1_47 dX1_list_138 rfl ?_
  refine s_lconst (v := 0) dX1_list_141 rfl ?_
  refine s_lif_le (tgt := 153) dX1_list_142 dX1_list_143 (by decide) (fun c => ?_) (fun c => ?_)
  · exact kt c
  · exact kf c
theorem bX1_list_146 {l : Launch} {D : va_G} {aI aL : ClassId} {ad : Nat → Nat} {P : sa_P} {I : sa_I} {J : sa_J}    (k : Sat (EC l D aI aL ad) M_X1_list P 147 [] [.ref (ad 27)] I J) : Sat (EC l D aI aL ad) M_X1_list P 146 [(0, .ref (ad 27))] [] I J := by
  refine s_aload_n 0 dX1_list_146 rfl ?_
  refine s_pick [] [] rfl ?_; exact k
theorem bX1_list_150 {l : Launch} {D : va_G} {aI aL : ClassId} {ad : Nat → Nat} {P : sa_P} {I : sa_I} {J : sa_J}    (k : Sat (EC l D aI aL ad) M_X1_list P 161 [] [] I J) : Sat (EC l D aI aL ad) M_X1_list P 150 [] [] I J := by
  refine s_goto (tgt := 161) dX1_list_150 (by decide) ?_
  exact k
theorem bX1_list_153 {l : Launch} {D : va_G} {aI aL : ClassId} {ad : Nat → Nat} {P : sa_P} {I : sa_I} {J : sa_J} {v158 : Int32}  (f158 : I 27 0 = v158) (k : Sat (EC l D aI aL ad) M_X1_list P 161 [] [] (sa_uI I 27 1 v158) J) : Sat (EC l D aI aL ad) M_X1_list P 153 [(0, .ref (ad 27))] [] I J := by
  refine s_aload_n 0 dX1_list_153 rfl ?_
  refine s_aload_n 0 dX1_list_154 rfl ?_
  refine g_X1_37 dX1_list_155 rfl ?_
  refine s_eqi f158 ?_
  refine p_X1_69 dX1_list_158 rfl ?_
  refine s_pick [] [] rfl ?_; exact k
theorem bX1_list_161 {l : Launch} {D : va_G} {aI aL : ClassId} {ad : Nat → Nat} {P : sa_P} {I : sa_I} {J : sa_J}    (k : P (none) I J) : Sat (EC l D aI aL ad) M_X1_list P 161 [] [] I J := by
  exact s_vret rfl dX1_list_161 k
/-! X1_listIfReduced -/
theorem dX1_listIfReduced_0 : decode cX1_listIfReduced 0 = .ok (.lload_n 1, 1) := by decide +kernel
theorem dX1_listIfReduced_1 : decode cX1_listIfReduced 1 = .ok (.lconst 0, 1) := by decide +kernel
theorem dX1_listIfReduced_2 : decode cX1_listIfReduced 2 = .ok (.lcmp, 1) := by decide +kernel
theorem dX1_listIfReduced_3 : decode cX1_listIfReduced 3 = .ok (.ifCond .eq 32, 3) := by decide +kernel
theorem dX1_listIfReduced_6 : decode cX1_listIfReduced 6 = .ok (.aload_n 0, 1) := by decide +kernel
theorem dX1_listIfReduced_7 : decode cX1_listIfReduced 7 = .ok (.getfield 37, 3) := by decide +kernel
theorem dX1_listIfReduced_10 : decode cX1_listIfReduced 10 = .ok (.sipush 160, 3) := by decide +kernel
theorem dX1_listIfReduced_13 : decode cX1_listIfReduced 13 = .ok (.if_icmp .ge 22, 3) := by decide +kernel
theorem dX1_listIfReduced_16 : decode cX1_listIfReduced 16 = .ok (.lload_n 3, 1) := by decide +kernel
theorem dX1_listIfReduced_17 : decode cX1_listIfReduced 17 = .ok (.lload_n 3, 1) := by decide +kernel
theorem dX1_listIfReduced_18 : decode cX1_listIfReduced 18 = .ok (.lmul, 1) := by decide +kernel
theorem dX1_listIfReduced_19 : decode cX1_listIfReduced 19 = .ok (.aload_n 0, 1) := by decide +kernel
theorem dX1_listIfReduced_20 : decode cX1_listIfReduced 20 = .ok (.getfield 47, 3) := by decide +kernel
theorem dX1_listIfReduced_23 : decode cX1_listIfReduced 23 = .ok (.lsub, 1) := by decide +kernel
theorem dX1_listIfReduced_24 : decode cX1_listIfReduced 24 = .ok (.ldc2_w 72, 3) := by decide +kernel
theorem dX1_listIfReduced_27 : decode cX1_listIfReduced 27 = .ok (.lload_n 1, 1) := by decide +kernel
theorem dX1_listIfReduced_28 : decode cX1_listIfReduced 28 = .ok (.lmul, 1) := by decide +kernel
theorem dX1_listIfReduced_29 : decode cX1_listIfReduced 29 = .ok (.lrem, 1) := by decide +kernel
theorem dX1_listIfReduced_30 : decode cX1_listIfReduced 30 = .ok (.lconst 0, 1) := by decide +kernel
theorem dX1_listIfReduced_31 : decode cX1_listIfReduced 31 = .ok (.lcmp, 1) := by decide +kernel
theorem dX1_listIfReduced_32 : decode cX1_listIfReduced 32 = .ok (.ifCond .eq 4, 3) := by decide +kernel
theorem dX1_listIfReduced_35 : decode cX1_listIfReduced 35 = .ok (.return_, 1) := by decide +kernel
theorem dX1_listIfReduced_36 : decode cX1_listIfReduced 36 = .ok (.aload_n 0, 1) := by decide +kernel
theorem dX1_listIfReduced_37 : decode cX1_listIfReduced 37 = .ok (.lload_n 1, 1) := by decide +kernel
theorem dX1_listIfReduced_38 : decode cX1_listIfReduced 38 = .ok (.putfield 74, 3) := by decide +kernel
theorem dX1_listIfReduced_41 : decode cX1_listIfReduced 41 = .ok (.aload_n 0, 1) := by decide +kernel
theorem dX1_listIfReduced_42 : decode cX1_listIfReduced 42 = .ok (.lload_n 3, 1) := by decide +kernel
theorem dX1_listIfReduced_43 : decode cX1_listIfReduced 43 = .ok (.putfield 77, 3) := by decide +kernel
theorem dX1_listIfReduced_46 : decode cX1_listIfReduced 46 = .ok (.aload_n 0, 1) := by decide +kernel
theorem dX1_listIfReduced_47 : decode cX1_listIfReduced 47 = .ok (.aload_n 0, 1) := by decide +kernel
theorem dX1_listIfReduced_48 : decode cX1_listIfReduced 48 = .ok (.getfield 77, 3) := by decide +kernel
theorem dX1_listIfReduced_51 : decode cX1_listIfReduced 51 = .ok (.aload_n 0, 1) := by decide +kernel
theorem dX1_listIfReduced_52 : decode cX1_listIfReduced 52 = .ok (.getfield 77, 3) := by decide +kernel
theorem dX1_listIfReduced_55 : decode cX1_listIfReduced 55 = .ok (.lmul, 1) := by decide +kernel
theorem dX1_listIfReduced_56 : decode cX1_listIfReduced 56 = .ok (.aload_n 0, 1) := by decide +kernel
theorem dX1_listIfReduced_57 : decode cX1_listIfReduced 57 = .ok (.getfield 47, 3) := by decide +kernel
theorem dX1_listIfReduced_60 : decode cX1_listIfReduced 60 = .ok (.lsub, 1) := by decide +kernel
theorem dX1_listIfReduced_61 : decode cX1_listIfReduced 61 = .ok (.ldc2_w 72, 3) := by decide +kernel
theorem dX1_listIfReduced_64 : decode cX1_listIfReduced 64 = .ok (.lload_n 1, 1) := by decide +kernel
theorem dX1_listIfReduced_65 : decode cX1_listIfReduced 65 = .ok (.lmul, 1) := by decide +kernel
theorem dX1_listIfReduced_66 : decode cX1_listIfReduced 66 = .ok (.ldiv, 1) := by decide +kernel
theorem dX1_listIfReduced_67 : decode cX1_listIfReduced 67 = .ok (.putfield 80, 3) := by decide +kernel
theorem dX1_listIfReduced_70 : decode cX1_listIfReduced 70 = .ok (.aload_n 0, 1) := by decide +kernel
theorem dX1_listIfReduced_71 : decode cX1_listIfReduced 71 = .ok (.invokevirtual 83, 3) := by decide +kernel
theorem dX1_listIfReduced_74 : decode cX1_listIfReduced 74 = .ok (.ifCond .eq 75, 3) := by decide +kernel
theorem dX1_listIfReduced_77 : decode cX1_listIfReduced 77 = .ok (.aload_n 0, 1) := by decide +kernel
theorem dX1_listIfReduced_78 : decode cX1_listIfReduced 78 = .ok (.getfield 11, 3) := by decide +kernel
theorem dX1_listIfReduced_81 : decode cX1_listIfReduced 81 = .ok (.iconst 3, 1) := by decide +kernel
theorem dX1_listIfReduced_82 : decode cX1_listIfReduced 82 = .ok (.aload_n 0, 1) := by decide +kernel
theorem dX1_listIfReduced_83 : decode cX1_listIfReduced 83 = .ok (.getfield 37, 3) := by decide +kernel
theorem dX1_listIfReduced_86 : decode cX1_listIfReduced 86 = .ok (.imul, 1) := by decide +kernel
theorem dX1_listIfReduced_87 : decode cX1_listIfReduced 87 = .ok (.aload_n 0, 1) := by decide +kernel
theorem dX1_listIfReduced_88 : decode cX1_listIfReduced 88 = .ok (.getfield 74, 3) := by decide +kernel
theorem dX1_listIfReduced_91 : decode cX1_listIfReduced 91 = .ok (.l2i, 1) := by decide +kernel
theorem dX1_listIfReduced_92 : decode cX1_listIfReduced 92 = .ok (.iastore, 1) := by decide +kernel
theorem dX1_listIfReduced_93 : decode cX1_listIfReduced 93 = .ok (.aload_n 0, 1) := by decide +kernel
theorem dX1_listIfReduced_94 : decode cX1_listIfReduced 94 = .ok (.getfield 11, 3) := by decide +kernel
theorem dX1_listIfReduced_97 : decode cX1_listIfReduced 97 = .ok (.iconst 3, 1) := by decide +kernel
theorem dX1_listIfReduced_98 : decode cX1_listIfReduced 98 = .ok (.aload_n 0, 1) := by decide +kernel
theorem dX1_listIfReduced_99 : decode cX1_listIfReduced 99 = .ok (.getfield 37, 3) := by decide +kernel
theorem dX1_listIfReduced_102 : decode cX1_listIfReduced 102 = .ok (.imul, 1) := by decide +kernel
theorem dX1_listIfReduced_103 : decode cX1_listIfReduced 103 = .ok (.iconst 1, 1) := by decide +kernel
theorem dX1_listIfReduced_104 : decode cX1_listIfReduced 104 = .ok (.iadd, 1) := by decide +kernel
theorem dX1_listIfReduced_105 : decode cX1_listIfReduced 105 = .ok (.aload_n 0, 1) := by decide +kernel
theorem dX1_listIfReduced_106 : decode cX1_listIfReduced 106 = .ok (.getfield 77, 3) := by decide +kernel
theorem dX1_listIfReduced_109 : decode cX1_listIfReduced 109 = .ok (.l2i, 1) := by decide +kernel
theorem dX1_listIfReduced_110 : decode cX1_listIfReduced 110 = .ok (.iastore, 1) := by decide +kernel
theorem dX1_listIfReduced_111 : decode cX1_listIfReduced 111 = .ok (.aload_n 0, 1) := by decide +kernel
theorem dX1_listIfReduced_112 : decode cX1_listIfReduced 112 = .ok (.getfield 11, 3) := by decide +kernel
theorem dX1_listIfReduced_115 : decode cX1_listIfReduced 115 = .ok (.iconst 3, 1) := by decide +kernel
theorem dX1_listIfReduced_116 : decode cX1_listIfReduced 116 = .ok (.aload_n 0, 1) := by decide +kernel
theorem dX1_listIfReduced_117 : decode cX1_listIfReduced 117 = .ok (.getfield 37, 3) := by decide +kernel
theorem dX1_listIfReduced_120 : decode cX1_listIfReduced 120 = .ok (.imul, 1) := by decide +kernel
theorem dX1_listIfReduced_121 : decode cX1_listIfReduced 121 = .ok (.iconst 2, 1) := by decide +kernel
theorem dX1_listIfReduced_122 : decode cX1_listIfReduced 122 = .ok (.iadd, 1) := by decide +kernel
theorem dX1_listIfReduced_123 : decode cX1_listIfReduced 123 = .ok (.aload_n 0, 1) := by decide +kernel
theorem dX1_listIfReduced_124 : decode cX1_listIfReduced 124 = .ok (.getfield 80, 3) := by decide +kernel
theorem dX1_listIfReduced_127 : decode cX1_listIfReduced 127 = .ok (.l2i, 1) := by decide +kernel
theorem dX1_listIfReduced_128 : decode cX1_listIfReduced 128 = .ok (.iastore, 1) := by decide +kernel
theorem dX1_listIfReduced_129 : decode cX1_listIfReduced 129 = .ok (.aload_n 0, 1) := by decide +kernel
theorem dX1_listIfReduced_130 : decode cX1_listIfReduced 130 = .ok (.getfield 15, 3) := by decide +kernel
theorem dX1_listIfReduced_133 : decode cX1_listIfReduced 133 = .ok (.aload_n 0, 1) := by decide +kernel
theorem dX1_listIfReduced_134 : decode cX1_listIfReduced 134 = .ok (.getfield 37, 3) := by decide +kernel
theorem dX1_listIfReduced_137 : decode cX1_listIfReduced 137 = .ok (.iconst (-1), 1) := by decide +kernel
theorem dX1_listIfReduced_138 : decode cX1_listIfReduced 138 = .ok (.iastore, 1) := by decide +kernel
theorem dX1_listIfReduced_139 : decode cX1_listIfReduced 139 = .ok (.aload_n 0, 1) := by decide +kernel
theorem dX1_listIfReduced_140 : decode cX1_listIfReduced 140 = .ok (.dup, 1) := by decide +kernel
theorem dX1_listIfReduced_141 : decode cX1_listIfReduced 141 = .ok (.getfield 37, 3) := by decide +kernel
theorem dX1_listIfReduced_144 : decode cX1_listIfReduced 144 = .ok (.iconst 1, 1) := by decide +kernel
theorem dX1_listIfReduced_145 : decode cX1_listIfReduced 145 = .ok (.iadd, 1) := by decide +kernel
theorem dX1_listIfReduced_146 : decode cX1_listIfReduced 146 = .ok (.putfield 37, 3) := by decide +kernel
theorem dX1_listIfReduced_149 : decode cX1_listIfReduced 149 = .ok (.return_, 1) := by decide +kernel
theorem bX1_listIfReduced_0 {l : Launch} {D : va_G} {aI aL : ClassId} {ad : Nat → Nat} {P : sa_P} {I : sa_I} {J : sa_J} {x1 : Int64} {x3 : Int64}   (kt : x1 = (0 : Int64) → Sat (EC l D aI aL ad) M_X1_listIfReduced P 35 [] [] I J) (kf : ¬ x1 = (0 : Int64) → Sat (EC l D aI aL ad) M_X1_listIfReduced P 6 [(0, .ref (ad 27)), (1, .long x1), (3, .long x3)] [] I J) : Sat (EC l D aI aL ad) M_X1_listIfReduced P 0 [(0, .ref (ad 27)), (1, .long x1), (3, .long x3)] [] I J := by
  refine s_lload_n 1 dX1_listIfReduced_0 rfl ?_
  refine s_lconst (v := 0) dX1_listIfReduced_1 rfl ?_
  refine s_lif_eq (tgt := 35) dX1_listIfReduced_2 dX1_listIfReduced_3 (by decide) (fun c => ?_) (fun c => ?_)
  · refine s_pick [] [] rfl ?_; exact kt c
  · exact kf c
theorem bX1_listIfReduced_6 {l : Launch} {D : va_G} {aI aL : ClassId} {ad : Nat → Nat} {P : sa_P} {I : sa_I} {J : sa_J} {x1 : Int64} {x3 : Int64}   (kt : (160 : Int32) ≤ I 27 0 → Sat (EC l D aI aL ad) M_X1_listIfReduced P 35 [] [] I J) (kf : ¬ (160 : Int32) ≤ I 27 0 → Sat (EC l D aI aL ad) M_X1_listIfReduced P 16 [(0, .ref (ad 27)), (1, .long x1), (3, .long x3)] [] I J) : Sat (EC l D aI aL ad) M_X1_listIfReduced P 6 [(0, .ref (ad 27)), (1, .long x1), (3, .long x3)] [] I J := by
  refine s_aload_n 0 dX1_listIfReduced_6 rfl ?_
  refine g_X1_37 dX1_listIfReduced_7 rfl ?_
  refine s_sipush (v := 160) dX1_listIfReduced_10 rfl ?_
  refine s_icmp_ge (tgt := 35) dX1_listIfReduced_13 (by decide) (fun c => ?_) (fun c => ?_)
  · refine s_pick [] [] rfl ?_; exact kt c
  · exact kf c
theorem bX1_listIfReduced_16 {l : Launch} {D : va_G} {aI aL : ClassId} {ad : Nat → Nat} {P : sa_P} {I : sa_I} {J : sa_J} {x1 : Int64} {x3 : Int64} (z29 : ¬ (4 : Int64) * x1 = 0)  (kt : ((x3 * x3) - (J 27 9)) - ((x3 * x3) - (J 27 9)) / ((4 : Int64) * x1) * ((4 : Int64) * x1) = (0 : Int64) → Sat (EC l D aI aL ad) M_X1_listIfReduced P 36 [(0, .ref (ad 27)), (1, .long x1), (3, .long x3)] [] I J) (kf : ¬ ((x3 * x3) - (J 27 9)) - ((x3 * x3) - (J 27 9)) / ((4 : Int64) * x1) * ((4 : Int64) * x1) = (0 : Int64) → Sat (EC l D aI aL ad) M_X1_listIfReduced P 35 [] [] I J) : Sat (EC l D aI aL ad) M_X1_listIfReduced P 16 [(0, .ref (ad 27)), (1, .long x1), (3, .long x3)] [] I J := by
  refine s_lload_n 2 dX1_listIfReduced_16 rfl ?_
  refine s_lload_n 2 dX1_listIfReduced_17 rfl ?_
  refine s_lmul dX1_listIfReduced_18 ?_
  refine s_aload_n 0 dX1_listIfReduced_19 rfl ?_
  refine g_X1_47 dX1_listIfReduced_20 rfl ?_
  refine s_lsub dX1_listIfReduced_23 ?_
  refine s_ldc2 wk_X1_72 dX1_listIfReduced_24 ?_
  refine s_lload_n 1 dX1_listIfReduced_27 rfl ?_
  refine s_lmul dX1_listIfReduced_28 ?_
  refine s_lrem dX1_listIfReduced_29 z29 ?_
  refine s_lconst (v := 0) dX1_listIfReduced_30 rfl ?_
  refine s_lif_eq (tgt := 36) dX1_listIfReduced_31 dX1_listIfReduced_32 (by decide) (fun c => ?_) (fun c => ?_)
  · exact kt c
  · refine s_pick [] [] rfl ?_; exact kf c
theorem bX1_listIfReduced_35 {l : Launch} {D : va_G} {aI aL : ClassId} {ad : Nat → Nat} {P : sa_P} {I : sa_I} {J : sa_J}    (k : P (none) I J) : Sat (EC l D aI aL ad) M_X1_listIfReduced P 35 [] [] I J := by
  exact s_vret rfl dX1_listIfReduced_35 k
theorem bX1_listIfReduced_36 {l : Launch} {D : va_G} {aI aL : ClassId} {ad : Nat → Nat} {P : sa_P} {I : sa_I} {J : sa_J} {x1 : Int64} {x3 : Int64} {v67 : Int64} (z66 : ¬ (4 : Int64) * x1 = 0) (f67 : ((((sa_uJ (sa_uJ J 27 11 x1) 27 12 x3) 27 12) * ((sa_uJ (sa_uJ J 27 11 x1) 27 12 x3) 27 12)) - ((sa_uJ (sa_uJ J 27 11 x1) 27 12 x3) 27 9)) / ((4 : Int64) * x1) = v67) (k : Sat (EC l D aI aL ad) M_X1_listIfReduced P 71 [(0, .ref (ad 27))] [.ref (ad 27)] I (sa_uJ (sa_uJ (sa_uJ J 27 11 x1) 27 12 x3) 27 13 v67)) : Sat (EC l D aI aL ad) M_X1_listIfReduced P 36 [(0, .ref (ad 27)), (1, .long x1), (3, .long x3)] [] I J := by
  refine s_aload_n 0 dX1_listIfReduced_36 rfl ?_
  refine s_lload_n 1 dX1_listIfReduced_37 rfl ?_
  refine p_X1_74 dX1_listIfReduced_38 rfl ?_
  refine s_aload_n 0 dX1_listIfReduced_41 rfl ?_
  refine s_lload_n 2 dX1_listIfReduced_42 rfl ?_
  refine p_X1_77 dX1_listIfReduced_43 rfl ?_
  refine s_aload_n 0 dX1_listIfReduced_46 rfl ?_
  refine s_aload_n 0 dX1_listIfReduced_47 rfl ?_
  refine g_X1_77 dX1_listIfReduced_48 rfl ?_
  refine s_aload_n 0 dX1_listIfReduced_51 rfl ?_
  refine g_X1_77 dX1_listIfReduced_52 rfl ?_
  refine s_lmul dX1_listIfReduced_55 ?_
  refine s_aload_n 0 dX1_listIfReduced_56 rfl ?_
  refine g_X1_47 dX1_listIfReduced_57 rfl ?_
  refine s_lsub dX1_listIfReduced_60 ?_
  refine s_ldc2 wk_X1_72 dX1_listIfReduced_61 ?_
  refine s_lload_n 1 dX1_listIfReduced_64 rfl ?_
  refine s_lmul dX1_listIfReduced_65 ?_
  refine s_ldiv dX1_listIfReduced_66 z66 ?_
  refine s_eql f67 ?_
  refine p_X1_80 dX1_listIfReduced_67 rfl ?_
  refine s_aload_n 0 dX1_listIfReduced_70 rfl ?_
  refine s_pick [0] [(0, .ref (ad 27))] rfl ?_; exact k
theorem bX1_listIfReduced_74 {l : Launch} {D : va_G} {aI aL : ClassId} {ad : Nat → Nat} {P : sa_P} {I : sa_I} {J : sa_J} {s0 : Int32}   (kt : s0 = 0 → Sat (EC l D aI aL ad) M_X1_listIfReduced P 149 [] [] I J) (kf : ¬ s0 = 0 → Sat (EC l D aI aL ad) M_X1_listIfReduced P 77 [(0, .ref (ad 27))] [] I J) : Sat (EC l D aI aL ad) M_X1_listIfReduced P 74 [(0, .ref (ad 27))] [.int s0] I J := by
  refine s_if_eq (tgt := 149) dX1_listIfReduced_74 (by decide) (fun c => ?_) (fun c => ?_)
  · refine s_pick [] [] rfl ?_; exact kt c
  · exact kf c
theorem bX1_listIfReduced_77 {l : Launch} {D : va_G} {aI aL : ClassId} {ad : Nat → Nat} {P : sa_P} {I : sa_I} {J : sa_J} {j86 : Nat} {v92 : Int32} {j104 : Nat} {v110 : Int32} {j122 : Nat} {v128 : Int32} {j134 : Nat} {v138 : Int32} {v146 : Int32} (e86 : (3 : Int32) * (I 27 0) = nI j86) (h92 : j86 < 480) (e104 : ((3 : Int32) * ((sa_uI I 28 j86 v92) 27 0)) + (1 : Int32) = nI j104) (h110 : j104 < 480) (e122 : ((3 : Int32) * ((sa_uI (sa_uI I 28 j86 v92) 28 j104 v110) 27 0)) + (2 : Int32) = nI j122) (h128 : j122 < 480) (e134 : (sa_uI (sa_uI (sa_uI I 28 j86 v92) 28 j104 v110) 28 j122 v128) 27 0 = nI j134) (h138 : j134 < 160) (f92 : (J 27 11).toInt32 = v92) (f110 : (J 27 12).toInt32 = v110) (f128 : (J 27 13).toInt32 = v128) (f138 : (-1 : Int32) = v138) (f146 : ((sa_uI (sa_uI (sa_uI (sa_uI I 28 j86 v92) 28 j104 v110) 28 j122 v128) 29 j134 v138) 27 0) + (1 : Int32) = v146) (k : Sat (EC l D aI aL ad) M_X1_listIfReduced P 149 [] [] (sa_uI (sa_uI (sa_uI (sa_uI (sa_uI I 28 j86 v92) 28 j104 v110) 28 j122 v128) 29 j134 v138) 27 0 v146) J) : Sat (EC l D aI aL ad) M_X1_listIfReduced P 77 [(0, .ref (ad 27))] [] I J := by
  refine s_aload_n 0 dX1_listIfReduced_77 rfl ?_
  refine g_X1_11 dX1_listIfReduced_78 rfl ?_
  refine s_iconst (v := 3) dX1_listIfReduced_81 rfl ?_
  refine s_aload_n 0 dX1_listIfReduced_82 rfl ?_
  refine g_X1_37 dX1_listIfReduced_83 rfl ?_
  refine s_imul dX1_listIfReduced_86 ?_
  refine s_eqi e86 ?_
  refine s_aload_n 0 dX1_listIfReduced_87 rfl ?_
  refine g_X1_74 dX1_listIfReduced_88 rfl ?_
  refine s_l2i dX1_listIfReduced_91 ?_
  refine s_eqi f92 ?_
  refine s_iastoreN aI_C28 h92 (by decide) dX1_listIfReduced_92 ?_
  refine s_aload_n 0 dX1_listIfReduced_93 rfl ?_
  refine g_X1_11 dX1_listIfReduced_94 rfl ?_
  refine s_iconst (v := 3) dX1_listIfReduced_97 rfl ?_
  refine s_aload_n 0 dX1_listIfReduced_98 rfl ?_
  refine g_X1_37 dX1_listIfReduced_99 rfl ?_
  refine s_imul dX1_listIfReduced_102 ?_
  refine s_iconst (v := 1) dX1_listIfReduced_103 rfl ?_
  refine s_iadd dX1_listIfReduced_104 ?_
  refine s_eqi e104 ?_
  refine s_aload_n 0 dX1_listIfReduced_105 rfl ?_
  refine g_X1_77 dX1_listIfReduced_106 rfl ?_
  refine s_l2i dX1_listIfReduced_109 ?_
  refine s_eqi f110 ?_
  refine s_iastoreN aI_C28 h110 (by decide) dX1_listIfReduced_110 ?_
  refine s_aload_n 0 dX1_listIfReduced_111 rfl ?_
  refine g_X1_11 dX1_listIfReduced_112 rfl ?_
  refine s_iconst (v := 3) dX1_listIfReduced_115 rfl ?_
  refine s_aload_n 0 dX1_listIfReduced_116 rfl ?_
  refine g_X1_37 dX1_listIfReduced_117 rfl ?_
  refine s_imul dX1_listIfReduced_120 ?_
  refine s_iconst (v := 2) dX1_listIfReduced_121 rfl ?_
  refine s_iadd dX1_listIfReduced_122 ?_
  refine s_eqi e122 ?_
  refine s_aload_n 0 dX1_listIfReduced_123 rfl ?_
  refine g_X1_80 dX1_listIfReduced_124 rfl ?_
  refine s_l2i dX1_listIfReduced_127 ?_
  refine s_eqi f128 ?_
  refine s_iastoreN aI_C28 h128 (by decide) dX1_listIfReduced_128 ?_
  refine s_aload_n 0 dX1_listIfReduced_129 rfl ?_
  refine g_X1_15 dX1_listIfReduced_130 rfl ?_
  refine s_aload_n 0 dX1_listIfReduced_133 rfl ?_
  refine g_X1_37 dX1_listIfReduced_134 rfl ?_
  refine s_eqi e134 ?_
  refine s_iconst (v := -1) dX1_listIfReduced_137 rfl ?_
  refine s_eqi f138 ?_
  refine s_iastoreN aI_C29 h138 (by decide) dX1_listIfReduced_138 ?_
  refine s_aload_n 0 dX1_listIfReduced_139 rfl ?_
  refine s_dup dX1_listIfReduced_140 rfl ?_
  refine g_X1_37 dX1_listIfReduced_141 rfl ?_
  refine s_iconst (v := 1) dX1_listIfReduced_144 rfl ?_
  refine s_iadd dX1_listIfReduced_145 ?_
  refine s_eqi f146 ?_
  refine p_X1_37 dX1_listIfReduced_146 rfl ?_
  refine s_pick [] [] rfl ?_; exact k
theorem bX1_listIfReduced_149 {l : Launch} {D : va_G} {aI aL : ClassId} {ad : Nat → Nat} {P : sa_P} {I : sa_I} {J : sa_J}    (k : P (none) I J) : Sat (EC l D aI aL ad) M_X1_listIfReduced P 149 [] [] I J := by
  exact s_vret rfl dX1_listIfReduced_149 k
/-! X1_isReduced -/
theorem dX1_isReduced_0 : decode cX1_isReduced 0 = .ok (.aload_n 0, 1) := by decide +kernel
theorem dX1_isReduced_1 : decode cX1_isReduced 1 = .ok (.getfield 47, 3) := by decide +kernel
theorem dX1_isReduced_4 : decode cX1_isReduced 4 = .ok (.lconst 0, 1) := by decide +kernel
theorem dX1_isReduced_5 : decode cX1_isReduced 5 = .ok (.lcmp, 1) := by decide +kernel
theorem dX1_isReduced_6 : decode cX1_isReduced 6 = .ok (.ifCond .ge 70, 3) := by decide +kernel
theorem dX1_isReduced_9 : decode cX1_isReduced 9 = .ok (.aload_n 0, 1) := by decide +kernel
theorem dX1_isReduced_10 : decode cX1_isReduced 10 = .ok (.getfield 77, 3) := by decide +kernel
theorem dX1_isReduced_13 : decode cX1_isReduced 13 = .ok (.invokestatic 50, 3) := by decide +kernel
theorem dX1_isReduced_16 : decode cX1_isReduced 16 = .ok (.aload_n 0, 1) := by decide +kernel
theorem dX1_isReduced_17 : decode cX1_isReduced 17 = .ok (.getfield 74, 3) := by decide +kernel
theorem dX1_isReduced_20 : decode cX1_isReduced 20 = .ok (.lcmp, 1) := by decide +kernel
theorem dX1_isReduced_21 : decode cX1_isReduced 21 = .ok (.ifCond .gt 53, 3) := by decide +kernel
theorem dX1_isReduced_24 : decode cX1_isReduced 24 = .ok (.aload_n 0, 1) := by decide +kernel
theorem dX1_isReduced_25 : decode cX1_isReduced 25 = .ok (.getfield 74, 3) := by decide +kernel
theorem dX1_isReduced_28 : decode cX1_isReduced 28 = .ok (.aload_n 0, 1) := by decide +kernel
theorem dX1_isReduced_29 : decode cX1_isReduced 29 = .ok (.getfield 80, 3) := by decide +kernel
theorem dX1_isReduced_32 : decode cX1_isReduced 32 = .ok (.lcmp, 1) := by decide +kernel
theorem dX1_isReduced_33 : decode cX1_isReduced 33 = .ok (.ifCond .gt 41, 3) := by decide +kernel
theorem dX1_isReduced_36 : decode cX1_isReduced 36 = .ok (.aload_n 0, 1) := by decide +kernel
theorem dX1_isReduced_37 : decode cX1_isReduced 37 = .ok (.getfield 77, 3) := by decide +kernel
theorem dX1_isReduced_40 : decode cX1_isReduced 40 = .ok (.lconst 0, 1) := by decide +kernel
theorem dX1_isReduced_41 : decode cX1_isReduced 41 = .ok (.lcmp, 1) := by decide +kernel
theorem dX1_isReduced_42 : decode cX1_isReduced 42 = .ok (.ifCond .ge 28, 3) := by decide +kernel
theorem dX1_isReduced_45 : decode cX1_isReduced 45 = .ok (.aload_n 0, 1) := by decide +kernel
theorem dX1_isReduced_46 : decode cX1_isReduced 46 = .ok (.getfield 77, 3) := by decide +kernel
theorem dX1_isReduced_49 : decode cX1_isReduced 49 = .ok (.lneg, 1) := by decide +kernel
theorem dX1_isReduced_50 : decode cX1_isReduced 50 = .ok (.aload_n 0, 1) := by decide +kernel
theorem dX1_isReduced_51 : decode cX1_isReduced 51 = .ok (.getfield 74, 3) := by decide +kernel
theorem dX1_isReduced_54 : decode cX1_isReduced 54 = .ok (.lcmp, 1) := by decide +kernel
theorem dX1_isReduced_55 : decode cX1_isReduced 55 = .ok (.ifCond .eq 19, 3) := by decide +kernel
theorem dX1_isReduced_58 : decode cX1_isReduced 58 = .ok (.aload_n 0, 1) := by decide +kernel
theorem dX1_isReduced_59 : decode cX1_isReduced 59 = .ok (.getfield 74, 3) := by decide +kernel
theorem dX1_isReduced_62 : decode cX1_isReduced 62 = .ok (.aload_n 0, 1) := by decide +kernel
theorem dX1_isReduced_63 : decode cX1_isReduced 63 = .ok (.getfield 80, 3) := by decide +kernel
theorem dX1_isReduced_66 : decode cX1_isReduced 66 = .ok (.lcmp, 1) := by decide +kernel
theorem dX1_isReduced_67 : decode cX1_isReduced 67 = .ok (.ifCond .eq 7, 3) := by decide +kernel
theorem dX1_isReduced_70 : decode cX1_isReduced 70 = .ok (.iconst 1, 1) := by decide +kernel
theorem dX1_isReduced_71 : decode cX1_isReduced 71 = .ok (.goto 4, 3) := by decide +kernel
theorem dX1_isReduced_74 : decode cX1_isReduced 74 = .ok (.iconst 0, 1) := by decide +kernel
theorem dX1_isReduced_75 : decode cX1_isReduced 75 = .ok (.ireturn, 1) := by decide +kernel
theorem dX1_isReduced_76 : decode cX1_isReduced 76 = .ok (.ldc2_w 87, 3) := by decide +kernel
theorem dX1_isReduced_79 : decode cX1_isReduced 79 = .ok (.aload_n 0, 1) := by decide +kernel
theorem dX1_isReduced_80 : decode cX1_isReduced 80 = .ok (.getfield 74, 3) := by decide +kernel
theorem dX1_isReduced_83 : decode cX1_isReduced 83 = .ok (.invokestatic 50, 3) := by decide +kernel
theorem dX1_isReduced_86 : decode cX1_isReduced 86 = .ok (.lmul, 1) := by decide +kernel
theorem dX1_isReduced_87 : decode cX1_isReduced 87 = .ok (.lstore_n 1, 1) := by decide +kernel
theorem dX1_isReduced_88 : decode cX1_isReduced 88 = .ok (.lload_n 1, 1) := by decide +kernel
theorem dX1_isReduced_89 : decode cX1_isReduced 89 = .ok (.aload_n 0, 1) := by decide +kernel
theorem dX1_isReduced_90 : decode cX1_isReduced 90 = .ok (.getfield 77, 3) := by decide +kernel
theorem dX1_isReduced_93 : decode cX1_isReduced 93 = .ok (.ladd, 1) := by decide +kernel
theorem dX1_isReduced_94 : decode cX1_isReduced 94 = .ok (.lload_n 1, 1) := by decide +kernel
theorem dX1_isReduced_95 : decode cX1_isReduced 95 = .ok (.aload_n 0, 1) := by decide +kernel
theorem dX1_isReduced_96 : decode cX1_isReduced 96 = .ok (.getfield 77, 3) := by decide +kernel
theorem dX1_isReduced_99 : decode cX1_isReduced 99 = .ok (.ladd, 1) := by decide +kernel
theorem dX1_isReduced_100 : decode cX1_isReduced 100 = .ok (.lmul, 1) := by decide +kernel
theorem dX1_isReduced_101 : decode cX1_isReduced 101 = .ok (.aload_n 0, 1) := by decide +kernel
theorem dX1_isReduced_102 : decode cX1_isReduced 102 = .ok (.getfield 47, 3) := by decide +kernel
theorem dX1_isReduced_105 : decode cX1_isReduced 105 = .ok (.lcmp, 1) := by decide +kernel
theorem dX1_isReduced_106 : decode cX1_isReduced 106 = .ok (.ifCond .le 7, 3) := by decide +kernel
theorem dX1_isReduced_109 : decode cX1_isReduced 109 = .ok (.iconst 1, 1) := by decide +kernel
theorem dX1_isReduced_110 : decode cX1_isReduced 110 = .ok (.goto 4, 3) := by decide +kernel
theorem dX1_isReduced_113 : decode cX1_isReduced 113 = .ok (.iconst 0, 1) := by decide +kernel
theorem dX1_isReduced_114 : decode cX1_isReduced 114 = .ok (.istore_n 3, 1) := by decide +kernel
theorem dX1_isReduced_115 : decode cX1_isReduced 115 = .ok (.lload_n 1, 1) := by decide +kernel
theorem dX1_isReduced_116 : decode cX1_isReduced 116 = .ok (.aload_n 0, 1) := by decide +kernel
theorem dX1_isReduced_117 : decode cX1_isReduced 117 = .ok (.getfield 77, 3) := by decide +kernel
theorem dX1_isReduced_120 : decode cX1_isReduced 120 = .ok (.lcmp, 1) := by decide +kernel
theorem dX1_isReduced_121 : decode cX1_isReduced 121 = .ok (.ifCond .le 24, 3) := by decide +kernel
theorem dX1_isReduced_124 : decode cX1_isReduced 124 = .ok (.lload_n 1, 1) := by decide +kernel
theorem dX1_isReduced_125 : decode cX1_isReduced 125 = .ok (.aload_n 0, 1) := by decide +kernel
theorem dX1_isReduced_126 : decode cX1_isReduced 126 = .ok (.getfield 77, 3) := by decide +kernel
theorem dX1_isReduced_129 : decode cX1_isReduced 129 = .ok (.lsub, 1) := by decide +kernel
theorem dX1_isReduced_130 : decode cX1_isReduced 130 = .ok (.lload_n 1, 1) := by decide +kernel
theorem dX1_isReduced_131 : decode cX1_isReduced 131 = .ok (.aload_n 0, 1) := by decide +kernel
theorem dX1_isReduced_132 : decode cX1_isReduced 132 = .ok (.getfield 77, 3) := by decide +kernel
theorem dX1_isReduced_135 : decode cX1_isReduced 135 = .ok (.lsub, 1) := by decide +kernel
theorem dX1_isReduced_136 : decode cX1_isReduced 136 = .ok (.lmul, 1) := by decide +kernel
theorem dX1_isReduced_137 : decode cX1_isReduced 137 = .ok (.aload_n 0, 1) := by decide +kernel
theorem dX1_isReduced_138 : decode cX1_isReduced 138 = .ok (.getfield 47, 3) := by decide +kernel
theorem dX1_isReduced_141 : decode cX1_isReduced 141 = .ok (.lcmp, 1) := by decide +kernel
theorem dX1_isReduced_142 : decode cX1_isReduced 142 = .ok (.ifCond .ge 7, 3) := by decide +kernel
theorem dX1_isReduced_145 : decode cX1_isReduced 145 = .ok (.iconst 1, 1) := by decide +kernel
theorem dX1_isReduced_146 : decode cX1_isReduced 146 = .ok (.goto 4, 3) := by decide +kernel
theorem dX1_isReduced_149 : decode cX1_isReduced 149 = .ok (.iconst 0, 1) := by decide +kernel
theorem dX1_isReduced_150 : decode cX1_isReduced 150 = .ok (.istore 4, 2) := by decide +kernel
theorem dX1_isReduced_152 : decode cX1_isReduced 152 = .ok (.aload_n 0, 1) := by decide +kernel
theorem dX1_isReduced_153 : decode cX1_isReduced 153 = .ok (.getfield 77, 3) := by decide +kernel
theorem dX1_isReduced_156 : decode cX1_isReduced 156 = .ok (.lconst 0, 1) := by decide +kernel
theorem dX1_isReduced_157 : decode cX1_isReduced 157 = .ok (.lcmp, 1) := by decide +kernel
theorem dX1_isReduced_158 : decode cX1_isReduced 158 = .ok (.ifCond .le 33, 3) := by decide +kernel
theorem dX1_isReduced_161 : decode cX1_isReduced 161 = .ok (.aload_n 0, 1) := by decide +kernel
theorem dX1_isReduced_162 : decode cX1_isReduced 162 = .ok (.getfield 77, 3) := by decide +kernel
theorem dX1_isReduced_165 : decode cX1_isReduced 165 = .ok (.aload_n 0, 1) := by decide +kernel
theorem dX1_isReduced_166 : decode cX1_isReduced 166 = .ok (.getfield 77, 3) := by decide +kernel
theorem dX1_isReduced_169 : decode cX1_isReduced 169 = .ok (.lmul, 1) := by decide +kernel
theorem dX1_isReduced_170 : decode cX1_isReduced 170 = .ok (.aload_n 0, 1) := by decide +kernel
theorem dX1_isReduced_171 : decode cX1_isReduced 171 = .ok (.getfield 47, 3) := by decide +kernel
theorem dX1_isReduced_174 : decode cX1_isReduced 174 = .ok (.lcmp, 1) := by decide +kernel
theorem dX1_isReduced_175 : decode cX1_isReduced 175 = .ok (.ifCond .ge 16, 3) := by decide +kernel
theorem dX1_isReduced_178 : decode cX1_isReduced 178 = .ok (.iload_n 3, 1) := by decide +kernel
theorem dX1_isReduced_179 : decode cX1_isReduced 179 = .ok (.ifCond .eq 12, 3) := by decide +kernel
theorem dX1_isReduced_182 : decode cX1_isReduced 182 = .ok (.iload 4, 2) := by decide +kernel
theorem dX1_isReduced_184 : decode cX1_isReduced 184 = .ok (.ifCond .eq 7, 3) := by decide +kernel
theorem dX1_isReduced_187 : decode cX1_isReduced 187 = .ok (.iconst 1, 1) := by decide +kernel
theorem dX1_isReduced_188 : decode cX1_isReduced 188 = .ok (.goto 4, 3) := by decide +kernel
theorem dX1_isReduced_191 : decode cX1_isReduced 191 = .ok (.iconst 0, 1) := by decide +kernel
theorem dX1_isReduced_192 : decode cX1_isReduced 192 = .ok (.ireturn, 1) := by decide +kernel
theorem bX1_isReduced_0 {l : Launch} {D : va_G} {aI aL : ClassId} {ad : Nat → Nat} {P : sa_P} {I : sa_I} {J : sa_J}    (kt : (0 : Int64) ≤ J 27 9 → Sat (EC l D aI aL ad) M_X1_isReduced P 76 [(0, .ref (ad 27))] [] I J) (kf : ¬ (0 : Int64) ≤ J 27 9 → Sat (EC l D aI aL ad) M_X1_isReduced P 9 [(0, .ref (ad 27))] [] I J) : Sat (EC l D aI aL ad) M_X1_isReduced P 0 [(0, .ref (ad 27))] [] I J := by
  refine s_aload_n 0 dX1_isReduced_0 rfl ?_
  refine g_X1_47 dX1_isReduced_1 rfl ?_
  refine s_lconst (v := 0) dX1_isReduced_4 rfl ?_
  refine s_lif_ge (tgt := 76) dX1_isReduced_5 dX1_isReduced_6 (by decide) (fun c => ?_) (fun c => ?_)
  · exact kt c
  · exact kf c
theorem bX1_isReduced_9 {l : Launch} {D : va_G} {aI aL : ClassId} {ad : Nat → Nat} {P : sa_P} {I : sa_I} {J : sa_J}    (k : Sat (EC l D aI aL ad) M_X1_isReduced P 13 [(0, .ref (ad 27))] [.long (J 27 12)] I J) : Sat (EC l D aI aL ad) M_X1_isReduced P 9 [(0, .ref (ad 27))] [] I J := by
  refine s_aload_n 0 dX1_isReduced_9 rfl ?_
  refine g_X1_77 dX1_isReduced_10 rfl ?_
  exact k
theorem bX1_isReduced_16 {l : Launch} {D : va_G} {aI aL : ClassId} {ad : Nat → Nat} {P : sa_P} {I : sa_I} {J : sa_J} {s0 : Int64}   (kt : J 27 11 < s0 → Sat (EC l D aI aL ad) M_X1_isReduced P 74 [] [] I J) (kf : ¬ J 27 11 < s0 → Sat (EC l D aI aL ad) M_X1_isReduced P 24 [(0, .ref (ad 27))] [] I J) : Sat (EC l D aI aL ad) M_X1_isReduced P 16 [(0, .ref (ad 27))] [.long s0] I J := by
  refine s_aload_n 0 dX1_isReduced_16 rfl ?_
  refine g_X1_74 dX1_isReduced_17 rfl ?_
  refine s_lif_gt (tgt := 74) dX1_isReduced_20 dX1_isReduced_21 (by decide) (fun c => ?_) (fun c => ?_)
  · refine s_pick [] [] rfl ?_; exact kt c
  · exact kf c
theorem bX1_isReduced_24 {l : Launch} {D : va_G} {aI aL : ClassId} {ad : Nat → Nat} {P : sa_P} {I : sa_I} {J : sa_J}    (kt : J 27 13 < J 27 11 → Sat (EC l D aI aL ad) M_X1_isReduced P 74 [] [] I J) (kf : ¬ J 27 13 < J 27 11 → Sat (EC l D aI aL ad) M_X1_isReduced P 36 [(0, .ref (ad 27))] [] I J) : Sat (EC l D aI aL ad) M_X1_isReduced P 24 [(0, .ref (ad 27))] [] I J := by
  refine s_aload_n 0 dX1_isReduced_24 rfl ?_
  refine g_X1_74 dX1_isReduced_25 rfl ?_
  refine s_aload_n 0 dX1_isReduced_28 rfl ?_
  refine g_X1_80 dX1_isReduced_29 rfl ?_
  refine s_lif_gt (tgt := 74) dX1_isReduced_32 dX1_isReduced_33 (by decide) (fun c => ?_) (fun c => ?_)
  · refine s_pick [] [] rfl ?_; exact kt c
  · exact kf c
theorem bX1_isReduced_36 {l : Launch} {D : va_G} {aI aL : ClassId} {ad : Nat → Nat} {P : sa_P} {I : sa_I} {J : sa_J}    (kt : (0 : Int64) ≤ J 27 12 → Sat (EC l D aI aL ad) M_X1_isReduced P 70 [] [] I J) (kf : ¬ (0 : Int64) ≤ J 27 12 → Sat (EC l D aI aL ad) M_X1_isReduced P 45 [(0, .ref (ad 27))] [] I J) : Sat (EC l D aI aL ad) M_X1_isReduced P 36 [(0, .ref (ad 27))] [] I J := by
  refine s_aload_n 0 dX1_isReduced_36 rfl ?_
  refine g_X1_77 dX1_isReduced_37 rfl ?_
  refine s_lconst (v := 0) dX1_isReduced_40 rfl ?_
  refine s_lif_ge (tgt := 70) dX1_isReduced_41 dX1_isReduced_42 (by decide) (fun c => ?_) (fun c => ?_)
  · refine s_pick [] [] rfl ?_; exact kt c
  · exact kf c
theorem bX1_isReduced_45 {l : Launch} {D : va_G} {aI aL : ClassId} {ad : Nat → Nat} {P : sa_P} {I : sa_I} {J : sa_J}    (kt : -(J 27 12) = J 27 11 → Sat (EC l D aI aL ad) M_X1_isReduced P 74 [] [] I J) (kf : ¬ -(J 27 12) = J 27 11 → Sat (EC l D aI aL ad) M_X1_isReduced P 58 [(0, .ref (ad 27))] [] I J) : Sat (EC l D aI aL ad) M_X1_isReduced P 45 [(0, .ref (ad 27))] [] I J := by
  refine s_aload_n 0 dX1_isReduced_45 rfl ?_
  refine g_X1_77 dX1_isReduced_46 rfl ?_
  refine s_lneg dX1_isReduced_49 ?_
  refine s_aload_n 0 dX1_isReduced_50 rfl ?_
  refine g_X1_74 dX1_isReduced_51 rfl ?_
  refine s_lif_eq (tgt := 74) dX1_isReduced_54 dX1_isReduced_55 (by decide) (fun c => ?_) (fun c => ?_)
  · refine s_pick [] [] rfl ?_; exact kt c
  · exact kf c
theorem bX1_isReduced_58 {l : Launch} {D : va_G} {aI aL : ClassId} {ad : Nat → Nat} {P : sa_P} {I : sa_I} {J : sa_J}    (kt : J 27 11 = J 27 13 → Sat (EC l D aI aL ad) M_X1_isReduced P 74 [] [] I J) (kf : ¬ J 27 11 = J 27 13 → Sat (EC l D aI aL ad) M_X1_isReduced P 70 [] [] I J) : Sat (EC l D aI aL ad) M_X1_isReduced P 58 [(0, .ref (ad 27))] [] I J := by
  refine s_aload_n 0 dX1_isReduced_58 rfl ?_
  refine g_X1_74 dX1_isReduced_59 rfl ?_
  refine s_aload_n 0 dX1_isReduced_62 rfl ?_
  refine g_X1_80 dX1_isReduced_63 rfl ?_
  refine s_lif_eq (tgt := 74) dX1_isReduced_66 dX1_isReduced_67 (by decide) (fun c => ?_) (fun c => ?_)
  · refine s_pick [] [] rfl ?_; exact kt c
  · refine s_pick [] [] rfl ?_; exact kf c
theorem bX1_isReduced_70 {l : Launch} {D : va_G} {aI aL : ClassId} {ad : Nat → Nat} {P : sa_P} {I : sa_I} {J : sa_J}    (k : Sat (EC l D aI aL ad) M_X1_isReduced P 75 [] [.int (1 : Int32)] I J) : Sat (EC l D aI aL ad) M_X1_isReduced P 70 [] [] I J := by
  refine s_iconst (v := 1) dX1_isReduced_70 rfl ?_
  refine s_goto (tgt := 75) dX1_isReduced_71 (by decide) ?_
  exact k
theorem bX1_isReduced_74 {l : Launch} {D : va_G} {aI aL : ClassId} {ad : Nat → Nat} {P : sa_P} {I : sa_I} {J : sa_J}    (k : Sat (EC l D aI aL ad) M_X1_isReduced P 75 [] [.int (0 : Int32)] I J) : Sat (EC l D aI aL ad) M_X1_isReduced P 74 [] [] I J := by
  refine s_iconst (v := 0) dX1_isReduced_74 rfl ?_
  exact k
theorem bX1_isReduced_75 {l : Launch} {D : va_G} {aI aL : ClassId} {ad : Nat → Nat} {P : sa_P} {I : sa_I} {J : sa_J} {s0 : Int32} (hz : narrow .boolean (.int s0) = .int s0)  (k : P (some (.int s0)) I J) : Sat (EC l D aI aL ad) M_X1_isReduced P 75 [] [.int s0] I J := by
  exact s_zret hz rfl dX1_isReduced_75 k
theorem bX1_isReduced_76 {l : Launch} {D : va_G} {aI aL : ClassId} {ad : Nat → Nat} {P : sa_P} {I : sa_I} {J : sa_J}    (k : Sat (EC l D aI aL ad) M_X1_isReduced P 83 [(0, .ref (ad 27))] [.long (J 27 11), .long (2 : Int64)] I J) : Sat (EC l D aI aL ad) M_X1_isReduced P 76 [(0, .ref (ad 27))] [] I J := by
  refine s_ldc2 wk_X1_87 dX1_isReduced_76 ?_
  refine s_aload_n 0 dX1_isReduced_79 rfl ?_
  refine g_X1_74 dX1_isReduced_80 rfl ?_
  exact k
theorem bX1_isReduced_86 {l : Launch} {D : va_G} {aI aL : ClassId} {ad : Nat → Nat} {P : sa_P} {I : sa_I} {J : sa_J} {s0 : Int64} {s1 : Int64} {v87 : Int64}  (f87 : s0 * s1 = v87) (kt : (v87 + (J 27 12)) * (v87 + (J 27 12)) ≤ J 27 9 → Sat (EC l D aI aL ad) M_X1_isReduced P 113 [(0, .ref (ad 27)), (1, .long v87)] [] I J) (kf : ¬ (v87 + (J 27 12)) * (v87 + (J 27 12)) ≤ J 27 9 → Sat (EC l D aI aL ad) M_X1_isReduced P 109 [(0, .ref (ad 27)), (1, .long v87)] [] I J) : Sat (EC l D aI aL ad) M_X1_isReduced P 86 [(0, .ref (ad 27))] [.long s1, .long s0] I J := by
  refine s_lmul dX1_isReduced_86 ?_
  refine s_eql f87 ?_
  refine s_lstore_n [(1, .long v87), (0, .ref (ad 27))] dX1_isReduced_87 (Nat.lt_of_lt_of_le (Nat.lt_succ_self _) (Nat.le_of_ble_eq_true rfl)) rfl ?_
  refine s_lload_n 0 dX1_isReduced_88 rfl ?_
  refine s_aload_n 1 dX1_isReduced_89 rfl ?_
  refine g_X1_77 dX1_isReduced_90 rfl ?_
  refine s_ladd dX1_isReduced_93 ?_
  refine s_lload_n 0 dX1_isReduced_94 rfl ?_
  refine s_aload_n 1 dX1_isReduced_95 rfl ?_
  refine g_X1_77 dX1_isReduced_96 rfl ?_
  refine s_ladd dX1_isReduced_99 ?_
  refine s_lmul dX1_isReduced_100 ?_
  refine s_aload_n 1 dX1_isReduced_101 rfl ?_
  refine g_X1_47 dX1_isReduced_102 rfl ?_
  refine s_lif_le (tgt := 113) dX1_isReduced_105 dX1_isReduced_106 (by decide) (fun c => ?_) (fun c => ?_)
  · refine s_pick [1, 0] [(0, .ref (ad 27)), (1, .long v87)] rfl ?_; exact kt c
  · refine s_pick [1, 0] [(0, .ref (ad 27)), (1, .long v87)] rfl ?_; exact kf c
theorem bX1_isReduced_109 {l : Launch} {D : va_G} {aI aL : ClassId} {ad : Nat → Nat} {P : sa_P} {I : sa_I} {J : sa_J} {x1 : Int64}   (k : Sat (EC l D aI aL ad) M_X1_isReduced P 114 [(0, .ref (ad 27)), (1, .long x1)] [.int (1 : Int32)] I J) : Sat (EC l D aI aL ad) M_X1_isReduced P 109 [(0, .ref (ad 27)), (1, .long x1)] [] I J := by
  refine s_iconst (v := 1) dX1_isReduced_109 rfl ?_
  refine s_goto (tgt := 114) dX1_isReduced_110 (by decide) ?_
  exact k
theorem bX1_isReduced_113 {l : Launch} {D : va_G} {aI aL : ClassId} {ad : Nat → Nat} {P : sa_P} {I : sa_I} {J : sa_J} {x1 : Int64}   (k : Sat (EC l D aI aL ad) M_X1_isReduced P 114 [(0, .ref (ad 27)), (1, .long x1)] [.int (0 : Int32)] I J) : Sat (EC l D aI aL ad) M_X1_isReduced P 113 [(0, .ref (ad 27)), (1, .long x1)] [] I J := by
  refine s_iconst (v := 0) dX1_isReduced_113 rfl ?_
  exact k
theorem bX1_isReduced_114 {l : Launch} {D : va_G} {aI aL : ClassId} {ad : Nat → Nat} {P : sa_P} {I : sa_I} {J : sa_J} {x1 : Int64} {s0 : Int32}   (kt : x1 ≤ J 27 12 → Sat (EC l D aI aL ad) M_X1_isReduced P 145 [(0, .ref (ad 27)), (3, .int s0)] [] I J) (kf : ¬ x1 ≤ J 27 12 → Sat (EC l D aI aL ad) M_X1_isReduced P 124 [(0, .ref (ad 27)), (1, .long x1), (3, .int s0)] [] I J) : Sat (EC l D aI aL ad) M_X1_isReduced P 114 [(0, .ref (ad 27)), (1, .long x1)] [.int s0] I J := by
  refine s_istore_n [(3, .int s0), (0, .ref (ad 27)), (1, .long x1)] dX1_isReduced_114 (Nat.lt_of_lt_of_le (Nat.lt_succ_self _) (Nat.le_of_ble_eq_true rfl)) rfl ?_
  refine s_lload_n 2 dX1_isReduced_115 rfl ?_
  refine s_aload_n 1 dX1_isReduced_116 rfl ?_
  refine g_X1_77 dX1_isReduced_117 rfl ?_
  refine s_lif_le (tgt := 145) dX1_isReduced_120 dX1_isReduced_121 (by decide) (fun c => ?_) (fun c => ?_)
  · refine s_pick [1, 0] [(0, .ref (ad 27)), (3, .int s0)] rfl ?_; exact kt c
  · refine s_pick [1, 2, 0] [(0, .ref (ad 27)), (1, .long x1), (3, .int s0)] rfl ?_; exact kf c
theorem bX1_isReduced_124 {l : Launch} {D : va_G} {aI aL : ClassId} {ad : Nat → Nat} {P : sa_P} {I : sa_I} {J : sa_J} {x1 : Int64} {x3 : Int32}   (kt : J 27 9 ≤ (x1 - (J 27 12)) * (x1 - (J 27 12)) → Sat (EC l D aI aL ad) M_X1_isReduced P 149 [(0, .ref (ad 27)), (3, .int x3)] [] I J) (kf : ¬ J 27 9 ≤ (x1 - (J 27 12)) * (x1 - (J 27 12)) → Sat (EC l D aI aL ad) M_X1_isReduced P 145 [(0, .ref (ad 27)), (3, .int x3)] [] I J) : Sat (EC l D aI aL ad) M_X1_isReduced P 124 [(0, .ref (ad 27)), (1, .long x1), (3, .int x3)] [] I J := by
  refine s_lload_n 1 dX1_isReduced_124 rfl ?_
  refine s_aload_n 0 dX1_isReduced_125 rfl ?_
  refine g_X1_77 dX1_isReduced_126 rfl ?_
  refine s_lsub dX1_isReduced_129 ?_
  refine s_lload_n 1 dX1_isReduced_130 rfl ?_
  refine s_aload_n 0 dX1_isReduced_131 rfl ?_
  refine g_X1_77 dX1_isReduced_132 rfl ?_
  refine s_lsub dX1_isReduced_135 ?_
  refine s_lmul dX1_isReduced_136 ?_
  refine s_aload_n 0 dX1_isReduced_137 rfl ?_
  refine g_X1_47 dX1_isReduced_138 rfl ?_
  refine s_lif_ge (tgt := 149) dX1_isReduced_141 dX1_isReduced_142 (by decide) (fun c => ?_) (fun c => ?_)
  · refine s_pick [0, 2] [(0, .ref (ad 27)), (3, .int x3)] rfl ?_; exact kt c
  · refine s_pick [0, 2] [(0, .ref (ad 27)), (3, .int x3)] rfl ?_; exact kf c
theorem bX1_isReduced_145 {l : Launch} {D : va_G} {aI aL : ClassId} {ad : Nat → Nat} {P : sa_P} {I : sa_I} {J : sa_J} {x3 : Int32}   (k : Sat (EC l D aI aL ad) M_X1_isReduced P 150 [(0, .ref (ad 27)), (3, .int x3)] [.int (1 : Int32)] I J) : Sat (EC l D aI aL ad) M_X1_isReduced P 145 [(0, .ref (ad 27)), (3, .int x3)] [] I J := by
  refine s_iconst (v := 1) dX1_isReduced_145 rfl ?_
  refine s_goto (tgt := 150) dX1_isReduced_146 (by decide) ?_
  exact k
theorem bX1_isReduced_149 {l : Launch} {D : va_G} {aI aL : ClassId} {ad : Nat → Nat} {P : sa_P} {I : sa_I} {J : sa_J} {x3 : Int32}   (k : Sat (EC l D aI aL ad) M_X1_isReduced P 150 [(0, .ref (ad 27)), (3, .int x3)] [.int (0 : Int32)] I J) : Sat (EC l D aI aL ad) M_X1_isReduced P 149 [(0, .ref (ad 27)), (3, .int x3)] [] I J := by
  refine s_iconst (v := 0) dX1_isReduced_149 rfl ?_
  exact k
theorem bX1_isReduced_150 {l : Launch} {D : va_G} {aI aL : ClassId} {ad : Nat → Nat} {P : sa_P} {I : sa_I} {J : sa_J} {x3 : Int32} {s0 : Int32}   (kt : J 27 12 ≤ (0 : Int64) → Sat (EC l D aI aL ad) M_X1_isReduced P 191 [] [] I J) (kf : ¬ J 27 12 ≤ (0 : Int64) → Sat (EC l D aI aL ad) M_X1_isReduced P 161 [(0, .ref (ad 27)), (3, .int x3), (4, .int s0)] [] I J) : Sat (EC l D aI aL ad) M_X1_isReduced P 150 [(0, .ref (ad 27)), (3, .int x3)] [.int s0] I J := by
  refine s_istore [(4, .int s0), (0, .ref (ad 27)), (3, .int x3)] dX1_isReduced_150 (Nat.lt_of_lt_of_le (Nat.lt_succ_self _) (Nat.le_of_ble_eq_true rfl)) rfl ?_
  refine s_aload_n 1 dX1_isReduced_152 rfl ?_
  refine g_X1_77 dX1_isReduced_153 rfl ?_
  refine s_lconst (v := 0) dX1_isReduced_156 rfl ?_
  refine s_lif_le (tgt := 191) dX1_isReduced_157 dX1_isReduced_158 (by decide) (fun c => ?_) (fun c => ?_)
  · refine s_pick [] [] rfl ?_; exact kt c
  · refine s_pick [1, 2, 0] [(0, .ref (ad 27)), (3, .int x3), (4, .int s0)] rfl ?_; exact kf c
theorem bX1_isReduced_161 {l : Launch} {D : va_G} {aI aL : ClassId} {ad : Nat → Nat} {P : sa_P} {I : sa_I} {J : sa_J} {x3 : Int32} {x4 : Int32}   (kt : J 27 9 ≤ (J 27 12) * (J 27 12) → Sat (EC l D aI aL ad) M_X1_isReduced P 191 [] [] I J) (kf : ¬ J 27 9 ≤ (J 27 12) * (J 27 12) → Sat (EC l D aI aL ad) M_X1_isReduced P 178 [(3, .int x3), (4, .int x4)] [] I J) : Sat (EC l D aI aL ad) M_X1_isReduced P 161 [(0, .ref (ad 27)), (3, .int x3), (4, .int x4)] [] I J := by
  refine s_aload_n 0 dX1_isReduced_161 rfl ?_
  refine g_X1_77 dX1_isReduced_162 rfl ?_
  refine s_aload_n 0 dX1_isReduced_165 rfl ?_
  refine g_X1_77 dX1_isReduced_166 rfl ?_
  refine s_lmul dX1_isReduced_169 ?_
  refine s_aload_n 0 dX1_isReduced_170 rfl ?_
  refine g_X1_47 dX1_isReduced_171 rfl ?_
  refine s_lif_ge (tgt := 191) dX1_isReduced_174 dX1_isReduced_175 (by decide) (fun c => ?_) (fun c => ?_)
  · refine s_pick [] [] rfl ?_; exact kt c
  · refine s_pick [1, 2] [(3, .int x3), (4, .int x4)] rfl ?_; exact kf c
theorem bX1_isReduced_178 {l : Launch} {D : va_G} {aI aL : ClassId} {ad : Nat → Nat} {P : sa_P} {I : sa_I} {J : sa_J} {x3 : Int32} {x4 : Int32}   (kt : x3 = 0 → Sat (EC l D aI aL ad) M_X1_isReduced P 191 [] [] I J) (kf : ¬ x3 = 0 → Sat (EC l D aI aL ad) M_X1_isReduced P 182 [(4, .int x4)] [] I J) : Sat (EC l D aI aL ad) M_X1_isReduced P 178 [(3, .int x3), (4, .int x4)] [] I J := by
  refine s_iload_n 0 dX1_isReduced_178 rfl ?_
  refine s_if_eq (tgt := 191) dX1_isReduced_179 (by decide) (fun c => ?_) (fun c => ?_)
  · refine s_pick [] [] rfl ?_; exact kt c
  · refine s_pick [1] [(4, .int x4)] rfl ?_; exact kf c
theorem bX1_isReduced_182 {l : Launch} {D : va_G} {aI aL : ClassId} {ad : Nat → Nat} {P : sa_P} {I : sa_I} {J : sa_J} {x4 : Int32}   (kt : x4 = 0 → Sat (EC l D aI aL ad) M_X1_isReduced P 191 [] [] I J) (kf : ¬ x4 = 0 → Sat (EC l D aI aL ad) M_X1_isReduced P 187 [] [] I J) : Sat (EC l D aI aL ad) M_X1_isReduced P 182 [(4, .int x4)] [] I J := by
  refine s_iload 0 dX1_isReduced_182 rfl ?_
  refine s_if_eq (tgt := 191) dX1_isReduced_184 (by decide) (fun c => ?_) (fun c => ?_)
  · refine s_pick [] [] rfl ?_; exact kt c
  · refine s_pick [] [] rfl ?_; exact kf c
theorem bX1_isReduced_187 {l : Launch} {D : va_G} {aI aL : ClassId} {ad : Nat → Nat} {P : sa_P} {I : sa_I} {J : sa_J}    (k : Sat (EC l D aI aL ad) M_X1_isReduced P 192 [] [.int (1 : Int32)] I J) : Sat (EC l D aI aL ad) M_X1_isReduced P 187 [] [] I J := by
  refine s_iconst (v := 1) dX1_isReduced_187 rfl ?_
  refine s_goto (tgt := 192) dX1_isReduced_188 (by decide) ?_
  exact k
theorem bX1_isReduced_191 {l : Launch} {D : va_G} {aI aL : ClassId} {ad : Nat → Nat} {P : sa_P} {I : sa_I} {J : sa_J}    (k : Sat (EC l D aI aL ad) M_X1_isReduced P 192 [] [.int (0 : Int32)] I J) : Sat (EC l D aI aL ad) M_X1_isReduced P 191 [] [] I J := by
  refine s_iconst (v := 0) dX1_isReduced_191 rfl ?_
  exact k
theorem bX1_isReduced_192 {l : Launch} {D : va_G} {aI aL : ClassId} {ad : Nat → Nat} {P : sa_P} {I : sa_I} {J : sa_J} {s0 : Int32} (hz : narrow .boolean (.int s0) = .int s0)  (k : P (some (.int s0)) I J) : Sat (EC l D aI aL ad) M_X1_isReduced P 192 [] [.int s0] I J := by
  exact s_zret hz rfl dX1_isReduced_192 k
/-! X1_markCycles -/
theorem dX1_markCycles_0 : decode cX1_markCycles 0 = .ok (.aload_n 0, 1) := by decide +kernel
theorem dX1_markCycles_1 : decode cX1_markCycles 1 = .ok (.iconst 0, 1) := by decide +kernel
theorem dX1_markCycles_2 : decode cX1_markCycles 2 = .ok (.putfield 69, 3) := by decide +kernel
theorem dX1_markCycles_5 : decode cX1_markCycles 5 = .ok (.iconst 0, 1) := by decide +kernel
theorem dX1_markCycles_6 : decode cX1_markCycles 6 = .ok (.istore_n 1, 1) := by decide +kernel
theorem dX1_markCycles_7 : decode cX1_markCycles 7 = .ok (.iload_n 1, 1) := by decide +kernel
theorem dX1_markCycles_8 : decode cX1_markCycles 8 = .ok (.aload_n 0, 1) := by decide +kernel
theorem dX1_markCycles_9 : decode cX1_markCycles 9 = .ok (.getfield 37, 3) := by decide +kernel
theorem dX1_markCycles_12 : decode cX1_markCycles 12 = .ok (.if_icmp .ge 33, 3) := by decide +kernel
theorem dX1_markCycles_15 : decode cX1_markCycles 15 = .ok (.aload_n 0, 1) := by decide +kernel
theorem dX1_markCycles_16 : decode cX1_markCycles 16 = .ok (.getfield 15, 3) := by decide +kernel
theorem dX1_markCycles_19 : decode cX1_markCycles 19 = .ok (.iload_n 1, 1) := by decide +kernel
theorem dX1_markCycles_20 : decode cX1_markCycles 20 = .ok (.iaload, 1) := by decide +kernel
theorem dX1_markCycles_21 : decode cX1_markCycles 21 = .ok (.ifCond .ge 18, 3) := by decide +kernel
theorem dX1_markCycles_24 : decode cX1_markCycles 24 = .ok (.aload_n 0, 1) := by decide +kernel
theorem dX1_markCycles_25 : decode cX1_markCycles 25 = .ok (.dup, 1) := by decide +kernel
theorem dX1_markCycles_26 : decode cX1_markCycles 26 = .ok (.getfield 69, 3) := by decide +kernel
theorem dX1_markCycles_29 : decode cX1_markCycles 29 = .ok (.iconst 1, 1) := by decide +kernel
theorem dX1_markCycles_30 : decode cX1_markCycles 30 = .ok (.iadd, 1) := by decide +kernel
theorem dX1_markCycles_31 : decode cX1_markCycles 31 = .ok (.putfield 69, 3) := by decide +kernel
theorem dX1_markCycles_34 : decode cX1_markCycles 34 = .ok (.aload_n 0, 1) := by decide +kernel
theorem dX1_markCycles_35 : decode cX1_markCycles 35 = .ok (.iload_n 1, 1) := by decide +kernel
theorem dX1_markCycles_36 : decode cX1_markCycles 36 = .ok (.invokevirtual 89, 3) := by decide +kernel
theorem dX1_markCycles_39 : decode cX1_markCycles 39 = .ok (.iinc 1 1, 3) := by decide +kernel
theorem dX1_markCycles_42 : decode cX1_markCycles 42 = .ok (.goto (-35), 3) := by decide +kernel
theorem dX1_markCycles_45 : decode cX1_markCycles 45 = .ok (.return_, 1) := by decide +kernel
theorem bX1_markCycles_0 {l : Launch} {D : va_G} {aI aL : ClassId} {ad : Nat → Nat} {P : sa_P} {I : sa_I} {J : sa_J} {v2 : Int32} {v6 : Int32}  (f2 : (0 : Int32) = v2) (f6 : (0 : Int32) = v6) (k : Sat (EC l D aI aL ad) M_X1_markCycles P 7 [(0, .ref (ad 27)), (1, .int v6)] [] (sa_uI I 27 1 v2) J) : Sat (EC l D aI aL ad) M_X1_markCycles P 0 [(0, .ref (ad 27))] [] I J := by
  refine s_aload_n 0 dX1_markCycles_0 rfl ?_
  refine s_iconst (v := 0) dX1_markCycles_1 rfl ?_
  refine s_eqi f2 ?_
  refine p_X1_69 dX1_markCycles_2 rfl ?_
  refine s_iconst (v := 0) dX1_markCycles_5 rfl ?_
  refine s_eqi f6 ?_
  refine s_istore_n [(1, .int v6), (0, .ref (ad 27))] dX1_markCycles_6 (Nat.lt_of_lt_of_le (Nat.lt_succ_self _) (Nat.le_of_ble_eq_true rfl)) rfl ?_
  refine s_pick [1, 0] [(0, .ref (ad 27)), (1, .int v6)] rfl ?_; exact k
theorem bX1_markCycles_7 {l : Launch} {D : va_G} {aI aL : ClassId} {ad : Nat → Nat} {P : sa_P} {I : sa_I} {J : sa_J} {x1 : Int32}   (kt : I 27 0 ≤ x1 → Sat (EC l D aI aL ad) M_X1_markCycles P 45 [] [] I J) (kf : ¬ I 27 0 ≤ x1 → Sat (EC l D aI aL ad) M_X1_markCycles P 15 [(0, .ref (ad 27)), (1, .int x1)] [] I J) : Sat (EC l D aI aL ad) M_X1_markCycles P 7 [(0, .ref (ad 27)), (1, .int x1)] [] I J := by
  refine s_iload_n 1 dX1_markCycles_7 rfl ?_
  refine s_aload_n 0 dX1_markCycles_8 rfl ?_
  refine g_X1_37 dX1_markCycles_9 rfl ?_
  refine s_icmp_ge (tgt := 45) dX1_markCycles_12 (by decide) (fun c => ?_) (fun c => ?_)
  · refine s_pick [] [] rfl ?_; exact kt c
  · exact kf c
theorem bX1_markCycles_15 {l : Launch} {D : va_G} {aI aL : ClassId} {ad : Nat → Nat} {P : sa_P} {I : sa_I} {J : sa_J} {x1 : Int32} {j19 : Nat} (e19 : x1 = nI j19) (h20 : j19 < 160)  (kt : 0 ≤ I 29 j19 → Sat (EC l D aI aL ad) M_X1_markCycles P 39 [(0, .ref (ad 27)), (1, .int x1)] [] I J) (kf : ¬ 0 ≤ I 29 j19 → Sat (EC l D aI aL ad) M_X1_markCycles P 24 [(0, .ref (ad 27)), (1, .int x1)] [] I J) : Sat (EC l D aI aL ad) M_X1_markCycles P 15 [(0, .ref (ad 27)), (1, .int x1)] [] I J := by
  refine s_aload_n 0 dX1_markCycles_15 rfl ?_
  refine g_X1_15 dX1_markCycles_16 rfl ?_
  refine s_iload_n 1 dX1_markCycles_19 rfl ?_
  refine s_eqi e19 ?_
  refine s_ialoadN aI_C29 h20 (by decide) dX1_markCycles_20 ?_
  refine s_if_ge (tgt := 39) dX1_markCycles_21 (by decide) (fun c => ?_) (fun c => ?_)
  · exact kt c
  · exact kf c
theorem bX1_markCycles_24 {l : Launch} {D : va_G} {aI aL : ClassId} {ad : Nat → Nat} {P : sa_P} {I : sa_I} {J : sa_J} {x1 : Int32} {v31 : Int32}  (f31 : (I 27 1) + (1 : Int32) = v31) (k : Sat (EC l D aI aL ad) M_X1_markCycles P 36 [(0, .ref (ad 27)), (1, .int x1)] [.int x1, .ref (ad 27)] (sa_uI I 27 1 v31) J) : Sat (EC l D aI aL ad) M_X1_markCycles P 24 [(0, .ref (ad 27)), (1, .int x1)] [] I J := by
  refine s_aload_n 0 dX1_markCycles_24 rfl ?_
  refine s_dup dX1_markCycles_25 rfl ?_
  refine g_X1_69 dX1_markCycles_26 rfl ?_
  refine s_iconst (v := 1) dX1_markCycles_29 rfl ?_
  refine s_iadd dX1_markCycles_30 ?_
  refine s_eqi f31 ?_
  refine p_X1_69 dX1_markCycles_31 rfl ?_
  refine s_aload_n 0 dX1_markCycles_34 rfl ?_
  refine s_iload_n 1 dX1_markCycles_35 rfl ?_
  exact k
theorem bX1_markCycles_39 {l : Launch} {D : va_G} {aI aL : ClassId} {ad : Nat → Nat} {P : sa_P} {I : sa_I} {J : sa_J} {x1 : Int32} {v39 : Int32}  (f39 : x1 + 1 = v39) (k : Sat (EC l D aI aL ad) M_X1_markCycles P 7 [(0, .ref (ad 27)), (1, .int v39)] [] I J) : Sat (EC l D aI aL ad) M_X1_markCycles P 39 [(0, .ref (ad 27)), (1, .int x1)] [] I J := by
  refine s_iinc 1 v39 [(1, .int v39), (0, .ref (ad 27))] dX1_markCycles_39 rfl f39 (Nat.lt_of_lt_of_le (Nat.lt_succ_self _) (Nat.le_of_ble_eq_true rfl)) rfl ?_
  refine s_goto (tgt := 7) dX1_markCycles_42 (by decide) ?_
  refine s_pick [1, 0] [(0, .ref (ad 27)), (1, .int v39)] rfl ?_; exact k
theorem bX1_markCycles_45 {l : Launch} {D : va_G} {aI aL : ClassId} {ad : Nat → Nat} {P : sa_P} {I : sa_I} {J : sa_J}    (k : P (none) I J) : Sat (EC l D aI aL ad) M_X1_markCycles P 45 [] [] I J := by
  exact s_vret rfl dX1_markCycles_45 k
/-! X1_markCycle -/
theorem dX1_markCycle_0 : decode cX1_markCycle 0 = .ok (.aload_n 0, 1) := by decide +kernel
theorem dX1_markCycle_1 : decode cX1_markCycle 1 = .ok (.aload_n 0, 1) := by decide +kernel
theorem dX1_markCycle_2 : decode cX1_markCycle 2 = .ok (.getfield 11, 3) := by decide +kernel
theorem dX1_markCycle_5 : decode cX1_markCycle 5 = .ok (.iconst 3, 1) := by decide +kernel
theorem dX1_markCycle_6 : decode cX1_markCycle 6 = .ok (.iload_n 1, 1) := by decide +kernel
theorem dX1_markCycle_7 : decode cX1_markCycle 7 = .ok (.imul, 1) := by decide +kernel
theorem dX1_markCycle_8 : decode cX1_markCycle 8 = .ok (.iaload, 1) := by decide +kernel
theorem dX1_markCycle_9 : decode cX1_markCycle 9 = .ok (.i2l, 1) := by decide +kernel
theorem dX1_markCycle_10 : decode cX1_markCycle 10 = .ok (.putfield 74, 3) := by decide +kernel
theorem dX1_markCycle_13 : decode cX1_markCycle 13 = .ok (.aload_n 0, 1) := by decide +kernel
theorem dX1_markCycle_14 : decode cX1_markCycle 14 = .ok (.aload_n 0, 1) := by decide +kernel
theorem dX1_markCycle_15 : decode cX1_markCycle 15 = .ok (.getfield 11, 3) := by decide +kernel
theorem dX1_markCycle_18 : decode cX1_markCycle 18 = .ok (.iconst 3, 1) := by decide +kernel
theorem dX1_markCycle_19 : decode cX1_markCycle 19 = .ok (.iload_n 1, 1) := by decide +kernel
theorem dX1_markCycle_20 : decode cX1_markCycle 20 = .ok (.imul, 1) := by decide +kernel
theorem dX1_markCycle_21 : decode cX1_markCycle 21 = .ok (.iconst 1, 1) := by decide +kernel
theorem dX1_markCycle_22 : decode cX1_markCycle 22 = .ok (.iadd, 1) := by decide +kernel
theorem dX1_markCycle_23 : decode cX1_markCycle 23 = .ok (.iaload, 1) := by decide +kernel
theorem dX1_markCycle_24 : decode cX1_markCycle 24 = .ok (.i2l, 1) := by decide +kernel
theorem dX1_markCycle_25 : decode cX1_markCycle 25 = .ok (.putfield 77, 3) := by decide +kernel
theorem dX1_markCycle_28 : decode cX1_markCycle 28 = .ok (.aload_n 0, 1) := by decide +kernel
theorem dX1_markCycle_29 : decode cX1_markCycle 29 = .ok (.aload_n 0, 1) := by decide +kernel
theorem dX1_markCycle_30 : decode cX1_markCycle 30 = .ok (.getfield 11, 3) := by decide +kernel
theorem dX1_markCycle_33 : decode cX1_markCycle 33 = .ok (.iconst 3, 1) := by decide +kernel
theorem dX1_markCycle_34 : decode cX1_markCycle 34 = .ok (.iload_n 1, 1) := by decide +kernel
theorem dX1_markCycle_35 : decode cX1_markCycle 35 = .ok (.imul, 1) := by decide +kernel
theorem dX1_markCycle_36 : decode cX1_markCycle 36 = .ok (.iconst 2, 1) := by decide +kernel
theorem dX1_markCycle_37 : decode cX1_markCycle 37 = .ok (.iadd, 1) := by decide +kernel
theorem dX1_markCycle_38 : decode cX1_markCycle 38 = .ok (.iaload, 1) := by decide +kernel
theorem dX1_markCycle_39 : decode cX1_markCycle 39 = .ok (.i2l, 1) := by decide +kernel
theorem dX1_markCycle_40 : decode cX1_markCycle 40 = .ok (.putfield 80, 3) := by decide +kernel
theorem dX1_markCycle_43 : decode cX1_markCycle 43 = .ok (.iload_n 1, 1) := by decide +kernel
theorem dX1_markCycle_44 : decode cX1_markCycle 44 = .ok (.istore_n 2, 1) := by decide +kernel
theorem dX1_markCycle_45 : decode cX1_markCycle 45 = .ok (.iconst 0, 1) := by decide +kernel
theorem dX1_markCycle_46 : decode cX1_markCycle 46 = .ok (.istore_n 3, 1) := by decide +kernel
theorem dX1_markCycle_47 : decode cX1_markCycle 47 = .ok (.iload_n 3, 1) := by decide +kernel
theorem dX1_markCycle_48 : decode cX1_markCycle 48 = .ok (.sipush 160, 3) := by decide +kernel
theorem dX1_markCycle_51 : decode cX1_markCycle 51 = .ok (.if_icmp .gt 38, 3) := by decide +kernel
theorem dX1_markCycle_54 : decode cX1_markCycle 54 = .ok (.iload_n 2, 1) := by decide +kernel
theorem dX1_markCycle_55 : decode cX1_markCycle 55 = .ok (.ifCond .lt 34, 3) := by decide +kernel
theorem dX1_markCycle_58 : decode cX1_markCycle 58 = .ok (.aload_n 0, 1) := by decide +kernel
theorem dX1_markCycle_59 : decode cX1_markCycle 59 = .ok (.getfield 15, 3) := by decide +kernel
theorem dX1_markCycle_62 : decode cX1_markCycle 62 = .ok (.iload_n 2, 1) := by decide +kernel
theorem dX1_markCycle_63 : decode cX1_markCycle 63 = .ok (.iaload, 1) := by decide +kernel
theorem dX1_markCycle_64 : decode cX1_markCycle 64 = .ok (.ifCond .ge 25, 3) := by decide +kernel
theorem dX1_markCycle_67 : decode cX1_markCycle 67 = .ok (.aload_n 0, 1) := by decide +kernel
theorem dX1_markCycle_68 : decode cX1_markCycle 68 = .ok (.getfield 15, 3) := by decide +kernel
theorem dX1_markCycle_71 : decode cX1_markCycle 71 = .ok (.iload_n 2, 1) := by decide +kernel
theorem dX1_markCycle_72 : decode cX1_markCycle 72 = .ok (.iload_n 1, 1) := by decide +kernel
theorem dX1_markCycle_73 : decode cX1_markCycle 73 = .ok (.iastore, 1) := by decide +kernel
theorem dX1_markCycle_74 : decode cX1_markCycle 74 = .ok (.aload_n 0, 1) := by decide +kernel
theorem dX1_markCycle_75 : decode cX1_markCycle 75 = .ok (.invokevirtual 93, 3) := by decide +kernel
theorem dX1_markCycle_78 : decode cX1_markCycle 78 = .ok (.aload_n 0, 1) := by decide +kernel
theorem dX1_markCycle_79 : decode cX1_markCycle 79 = .ok (.invokevirtual 96, 3) := by decide +kernel
theorem dX1_markCycle_82 : decode cX1_markCycle 82 = .ok (.istore_n 2, 1) := by decide +kernel
theorem dX1_markCycle_83 : decode cX1_markCycle 83 = .ok (.iinc 3 1, 3) := by decide +kernel
theorem dX1_markCycle_86 : decode cX1_markCycle 86 = .ok (.goto (-39), 3) := by decide +kernel
theorem dX1_markCycle_89 : decode cX1_markCycle 89 = .ok (.return_, 1) := by decide +kernel
theorem bX1_markCycle_0 {l : Launch} {D : va_G} {aI aL : ClassId} {ad : Nat → Nat} {P : sa_P} {I : sa_I} {J : sa_J} {x1 : Int32} {j7 : Nat} {v10 : Int64} {j22 : Nat} {v25 : Int64} {j37 : Nat} {v40 : Int64} {v46 : Int32} (e7 : (3 : Int32) * x1 = nI j7) (h8 : j7 < 480) (e22 : ((3 : Int32) * x1) + (1 : Int32) = nI j22) (h23 : j22 < 480) (e37 : ((3 : Int32) * x1) + (2 : Int32) = nI j37) (h38 : j37 < 480) (f10 : (I 28 j7).toInt64 = v10) (f25 : (I 28 j22).toInt64 = v25) (f40 : (I 28 j37).toInt64 = v40) (f46 : (0 : Int32) = v46) (k : Sat (EC l D aI aL ad) M_X1_markCycle P 47 [(0, .ref (ad 27)), (1, .int x1), (2, .int x1), (3, .int v46)] [] I (sa_uJ (sa_uJ (sa_uJ J 27 11 v10) 27 12 v25) 27 13 v40)) : Sat (EC l D aI aL ad) M_X1_markCycle P 0 [(0, .ref (ad 27)), (1, .int x1)] [] I J := by
  refine s_aload_n 0 dX1_markCycle_0 rfl ?_
  refine s_aload_n 0 dX1_markCycle_1 rfl ?_
  refine g_X1_11 dX1_markCycle_2 rfl ?_
  refine s_iconst (v := 3) dX1_markCycle_5 rfl ?_
  refine s_iload_n 1 dX1_markCycle_6 rfl ?_
  refine s_imul dX1_markCycle_7 ?_
  refine s_eqi e7 ?_
  refine s_ialoadN aI_C28 h8 (by decide) dX1_markCycle_8 ?_
  refine s_i2l dX1_markCycle_9 ?_
  refine s_eql f10 ?_
  refine p_X1_74 dX1_markCycle_10 rfl ?_
  refine s_aload_n 0 dX1_markCycle_13 rfl ?_
  refine s_aload_n 0 dX1_markCycle_14 rfl ?_
  refine g_X1_11 dX1_markCycle_15 rfl ?_
  refine s_iconst (v := 3) dX1_markCycle_18 rfl ?_
  refine s_iload_n 1 dX1_markCycle_19 rfl ?_
  refine s_imul dX1_markCycle_20 ?_
  refine s_iconst (v := 1) dX1_markCycle_21 rfl ?_
  refine s_iadd dX1_markCycle_22 ?_
  refine s_eqi e22 ?_
  refine s_ialoadN aI_C28 h23 (by decide) dX1_markCycle_23 ?_
  refine s_i2l dX1_markCycle_24 ?_
  refine s_eql f25 ?_
  refine p_X1_77 dX1_markCycle_25 rfl ?_
  refine s_aload_n 0 dX1_markCycle_28 rfl ?_
  refine s_aload_n 0 dX1_markCycle_29 rfl ?_
  refine g_X1_11 dX1_markCycle_30 rfl ?_
  refine s_iconst (v := 3) dX1_markCycle_33 rfl ?_
  refine s_iload_n 1 dX1_markCycle_34 rfl ?_
  refine s_imul dX1_markCycle_35 ?_
  refine s_iconst (v := 2) dX1_markCycle_36 rfl ?_
  refine s_iadd dX1_markCycle_37 ?_
  refine s_eqi e37 ?_
  refine s_ialoadN aI_C28 h38 (by decide) dX1_markCycle_38 ?_
  refine s_i2l dX1_markCycle_39 ?_
  refine s_eql f40 ?_
  refine p_X1_80 dX1_markCycle_40 rfl ?_
  refine s_iload_n 1 dX1_markCycle_43 rfl ?_
  refine s_istore_n [(2, .int x1), (0, .ref (ad 27)), (1, .int x1)] dX1_markCycle_44 (Nat.lt_of_lt_of_le (Nat.lt_succ_self _) (Nat.le_of_ble_eq_true rfl)) rfl ?_
  refine s_iconst (v := 0) dX1_markCycle_45 rfl ?_
  refine s_eqi f46 ?_
  refine s_istore_n [(3, .int v46), (2, .int x1), (0, .ref (ad 27)), (1, .int x1)] dX1_markCycle_46 (Nat.lt_of_lt_of_le (Nat.lt_succ_self _) (Nat.le_of_ble_eq_true rfl)) rfl ?_
  refine s_pick [2, 3, 1, 0] [(0, .ref (ad 27)), (1, .int x1), (2, .int x1), (3, .int v46)] rfl ?_; exact k
theorem bX1_markCycle_47 {l : Launch} {D : va_G} {aI aL : ClassId} {ad : Nat → Nat} {P : sa_P} {I : sa_I} {J : sa_J} {x1 : Int32} {x2 : Int32} {x3 : Int32}   (kt : (160 : Int32) < x3 → Sat (EC l D aI aL ad) M_X1_markCycle P 89 [] [] I J) (kf : ¬ (160 : Int32) < x3 → Sat (EC l D aI aL ad) M_X1_markCycle P 54 [(0, .ref (ad 27)), (1, .int x1), (2, .int x2), (3, .int x3)] [] I J) : Sat (EC l D aI aL ad) M_X1_markCycle P 47 [(0, .ref (ad 27)), (1, .int x1), (2, .int x2), (3, .int x3)] [] I J := by
  refine s_iload_n 3 dX1_markCycle_47 rfl ?_
  refine s_sipush (v := 160) dX1_markCycle_48 rfl ?_
  refine s_icmp_gt (tgt := 89) dX1_markCycle_51 (by decide) (fun c => ?_) (fun c => ?_)
  · refine s_pick [] [] rfl ?_; exact kt c
  · exact kf c
theorem bX1_markCycle_54 {l : Launch} {D : va_G} {aI aL : ClassId} {ad : Nat → Nat} {P : sa_P} {I : sa_I} {J : sa_J} {x1 : Int32} {x2 : Int32} {x3 : Int32}   (kt : x2 < 0 → Sat (EC l D aI aL ad) M_X1_markCycle P 89 [] [] I J) (kf : ¬ x2 < 0 → Sat (EC l D aI aL ad) M_X1_markCycle P 58 [(0, .ref (ad 27)), (1, .int x1), (2, .int x2), (3, .int x3)] [] I J) : Sat (EC l D aI aL ad) M_X1_markCycle P 54 [(0, .ref (ad 27)), (1, .int x1), (2, .int x2), (3, .int x3)] [] I J := by
  refine s_iload_n 2 dX1_markCycle_54 rfl ?_
  refine s_if_lt (tgt := 89) dX1_markCycle_55 (by decide) (fun c => ?_) (fun c => ?_)
  · refine s_pick [] [] rfl ?_; exact kt c
  · exact kf c
theorem bX1_markCycle_58 {l : Launch} {D : va_G} {aI aL : ClassId} {ad : Nat → Nat} {P : sa_P} {I : sa_I} {J : sa_J} {x1 : Int32} {x2 : Int32} {x3 : Int32} {j62 : Nat} (e62 : x2 = nI j62) (h63 : j62 < 160)  (kt : 0 ≤ I 29 j62 → Sat (EC l D aI aL ad) M_X1_markCycle P 89 [] [] I J) (kf : ¬ 0 ≤ I 29 j62 → Sat (EC l D aI aL ad) M_X1_markCycle P 67 [(0, .ref (ad 27)), (1, .int x1), (2, .int x2), (3, .int x3)] [] I J) : Sat (EC l D aI aL ad) M_X1_markCycle P 58 [(0, .ref (ad 27)), (1, .int x1), (2, .int x2), (3, .int x3)] [] I J := by
  refine s_aload_n 0 dX1_markCycle_58 rfl ?_
  refine g_X1_15 dX1_markCycle_59 rfl ?_
  refine s_iload_n 2 dX1_markCycle_62 rfl ?_
  refine s_eqi e62 ?_
  refine s_ialoadN aI_C29 h63 (by decide) dX1_markCycle_63 ?_
  refine s_if_ge (tgt := 89) dX1_markCycle_64 (by decide) (fun c => ?_) (fun c => ?_)
  · refine s_pick [] [] rfl ?_; exact kt c
  · exact kf c
theorem bX1_markCycle_67 {l : Launch} {D : va_G} {aI aL : ClassId} {ad : Nat → Nat} {P : sa_P} {I : sa_I} {J : sa_J} {x1 : Int32} {x2 : Int32} {x3 : Int32} {j71 : Nat} (e71 : x2 = nI j71) (h73 : j71 < 160)  (k : Sat (EC l D aI aL ad) M_X1_markCycle P 75 [(0, .ref (ad 27)), (1, .int x1), (3, .int x3)] [.ref (ad 27)] (sa_uI I 29 j71 x1) J) : Sat (EC l D aI aL ad) M_X1_markCycle P 67 [(0, .ref (ad 27)), (1, .int x1), (2, .int x2), (3, .int x3)] [] I J := by
  refine s_aload_n 0 dX1_markCycle_67 rfl ?_
  refine g_X1_15 dX1_markCycle_68 rfl ?_
  refine s_iload_n 2 dX1_markCycle_71 rfl ?_
  refine s_eqi e71 ?_
  refine s_iload_n 1 dX1_markCycle_72 rfl ?_
  refine s_iastoreN aI_C29 h73 (by decide) dX1_markCycle_73 ?_
  refine s_aload_n 0 dX1_markCycle_74 rfl ?_
  refine s_pick [0, 1, 3] [(0, .ref (ad 27)), (1, .int x1), (3, .int x3)] rfl ?_; exact k
theorem bX1_markCycle_78 {l : Launch} {D : va_G} {aI aL : ClassId} {ad : Nat → Nat} {P : sa_P} {I : sa_I} {J : sa_J} {x1 : Int32} {x3 : Int32}   (k : Sat (EC l D aI aL ad) M_X1_markCycle P 79 [(0, .ref (ad 27)), (1, .int x1), (3, .int x3)] [.ref (ad 27)] I J) : Sat (EC l D aI aL ad) M_X1_markCycle P 78 [(0, .ref (ad 27)), (1, .int x1), (3, .int x3)] [] I J := by
  refine s_aload_n 0 dX1_markCycle_78 rfl ?_
  exact k
theorem bX1_markCycle_82 {l : Launch} {D : va_G} {aI aL : ClassId} {ad : Nat → Nat} {P : sa_P} {I : sa_I} {J : sa_J} {x1 : Int32} {x3 : Int32} {s0 : Int32} {v83 : Int32}  (f83 : x3 + 1 = v83) (k : Sat (EC l D aI aL ad) M_X1_markCycle P 47 [(0, .ref (ad 27)), (1, .int x1), (2, .int s0), (3, .int v83)] [] I J) : Sat (EC l D aI aL ad) M_X1_markCycle P 82 [(0, .ref (ad 27)), (1, .int x1), (3, .int x3)] [.int s0] I J := by
  refine s_istore_n [(2, .int s0), (0, .ref (ad 27)), (1, .int x1), (3, .int x3)] dX1_markCycle_82 (Nat.lt_of_lt_of_le (Nat.lt_succ_self _) (Nat.le_of_ble_eq_true rfl)) rfl ?_
  refine s_iinc 3 v83 [(3, .int v83), (2, .int s0), (0, .ref (ad 27)), (1, .int x1)] dX1_markCycle_83 rfl f83 (Nat.lt_of_lt_of_le (Nat.lt_succ_self _) (Nat.le_of_ble_eq_true rfl)) rfl ?_
  refine s_goto (tgt := 47) dX1_markCycle_86 (by decide) ?_
  refine s_pick [2, 3, 1, 0] [(0, .ref (ad 27)), (1, .int x1), (2, .int s0), (3, .int v83)] rfl ?_; exact k
theorem bX1_markCycle_89 {l : Launch} {D : va_G} {aI aL : ClassId} {ad : Nat → Nat} {P : sa_P} {I : sa_I} {J : sa_J}    (k : P (none) I J) : Sat (EC l D aI aL ad) M_X1_markCycle P 89 [] [] I J := by
  exact s_vret rfl dX1_markCycle_89 k
/-! X1_numberOfForm -/
theorem dX1_numberOfForm_0 : decode cX1_numberOfForm 0 = .ok (.iconst 0, 1) := by decide +kernel
theorem dX1_numberOfForm_1 : decode cX1_numberOfForm 1 = .ok (.istore_n 1, 1) := by decide +kernel
theorem dX1_numberOfForm_2 : decode cX1_numberOfForm 2 = .ok (.iload_n 1, 1) := by decide +kernel
theorem dX1_numberOfForm_3 : decode cX1_numberOfForm 3 = .ok (.aload_n 0, 1) := by decide +kernel
theorem dX1_numberOfForm_4 : decode cX1_numberOfForm 4 = .ok (.getfield 37, 3) := by decide +kernel
theorem dX1_numberOfForm_7 : decode cX1_numberOfForm 7 = .ok (.if_icmp .ge 47, 3) := by decide +kernel
theorem dX1_numberOfForm_10 : decode cX1_numberOfForm 10 = .ok (.aload_n 0, 1) := by decide +kernel
theorem dX1_numberOfForm_11 : decode cX1_numberOfForm 11 = .ok (.getfield 11, 3) := by decide +kernel
theorem dX1_numberOfForm_14 : decode cX1_numberOfForm 14 = .ok (.iconst 3, 1) := by decide +kernel
theorem dX1_numberOfForm_15 : decode cX1_numberOfForm 15 = .ok (.iload_n 1, 1) := by decide +kernel
theorem dX1_numberOfForm_16 : decode cX1_numberOfForm 16 = .ok (.imul, 1) := by decide +kernel
theorem dX1_numberOfForm_17 : decode cX1_numberOfForm 17 = .ok (.iaload, 1) := by decide +kernel
theorem dX1_numberOfForm_18 : decode cX1_numberOfForm 18 = .ok (.i2l, 1) := by decide +kernel
theorem dX1_numberOfForm_19 : decode cX1_numberOfForm 19 = .ok (.aload_n 0, 1) := by decide +kernel
theorem dX1_numberOfForm_20 : decode cX1_numberOfForm 20 = .ok (.getfield 74, 3) := by decide +kernel
theorem dX1_numberOfForm_23 : decode cX1_numberOfForm 23 = .ok (.lcmp, 1) := by decide +kernel
theorem dX1_numberOfForm_24 : decode cX1_numberOfForm 24 = .ok (.ifCond .ne 24, 3) := by decide +kernel
theorem dX1_numberOfForm_27 : decode cX1_numberOfForm 27 = .ok (.aload_n 0, 1) := by decide +kernel
theorem dX1_numberOfForm_28 : decode cX1_numberOfForm 28 = .ok (.getfield 11, 3) := by decide +kernel
theorem dX1_numberOfForm_31 : decode cX1_numberOfForm 31 = .ok (.iconst 3, 1) := by decide +kernel
theorem dX1_numberOfForm_32 : decode cX1_numberOfForm 32 = .ok (.iload_n 1, 1) := by decide +kernel
theorem dX1_numberOfForm_33 : decode cX1_numberOfForm 33 = .ok (.imul, 1) := by decide +kernel
theorem dX1_numberOfForm_34 : decode cX1_numberOfForm 34 = .ok (.iconst 1, 1) := by decide +kernel
theorem dX1_numberOfForm_35 : decode cX1_numberOfForm 35 = .ok (.iadd, 1) := by decide +kernel
theorem dX1_numberOfForm_36 : decode cX1_numberOfForm 36 = .ok (.iaload, 1) := by decide +kernel
theorem dX1_numberOfForm_37 : decode cX1_numberOfForm 37 = .ok (.i2l, 1) := by decide +kernel
theorem dX1_numberOfForm_38 : decode cX1_numberOfForm 38 = .ok (.aload_n 0, 1) := by decide +kernel
theorem dX1_numberOfForm_39 : decode cX1_numberOfForm 39 = .ok (.getfield 77, 3) := by decide +kernel
theorem dX1_numberOfForm_42 : decode cX1_numberOfForm 42 = .ok (.lcmp, 1) := by decide +kernel
theorem dX1_numberOfForm_43 : decode cX1_numberOfForm 43 = .ok (.ifCond .ne 5, 3) := by decide +kernel
theorem dX1_numberOfForm_46 : decode cX1_numberOfForm 46 = .ok (.iload_n 1, 1) := by decide +kernel
theorem dX1_numberOfForm_47 : decode cX1_numberOfForm 47 = .ok (.ireturn, 1) := by decide +kernel
theorem dX1_numberOfForm_48 : decode cX1_numberOfForm 48 = .ok (.iinc 1 1, 3) := by decide +kernel
theorem dX1_numberOfForm_51 : decode cX1_numberOfForm 51 = .ok (.goto (-49), 3) := by decide +kernel
theorem dX1_numberOfForm_54 : decode cX1_numberOfForm 54 = .ok (.iconst (-1), 1) := by decide +kernel
theorem dX1_numberOfForm_55 : decode cX1_numberOfForm 55 = .ok (.ireturn, 1) := by decide +kernel
theorem bX1_numberOfForm_0 {l : Launch} {D : va_G} {aI aL : ClassId} {ad : Nat → Nat} {P : sa_P} {I : sa_I} {J : sa_J} {v1 : Int32}  (f1 : (0 : Int32) = v1) (k : Sat (EC l D aI aL ad) M_X1_numberOfForm P 2 [(0, .ref (ad 27)), (1, .int v1)] [] I J) : Sat (EC l D aI aL ad) M_X1_numberOfForm P 0 [(0, .ref (ad 27))] [] I J := by
  refine s_iconst (v := 0) dX1_numberOfForm_0 rfl ?_
  refine s_eqi f1 ?_
  refine s_istore_n [(1, .int v1), (0, .ref (ad 27))] dX1_numberOfForm_1 (Nat.lt_of_lt_of_le (Nat.lt_succ_self _) (Nat.le_of_ble_eq_true rfl)) rfl ?_
  refine s_pick [1, 0] [(0, .ref (ad 27)), (1, .int v1)] rfl ?_; exact k
theorem bX1_numberOfForm_2 {l : Launch} {D : va_G} {aI aL : ClassId} {ad : Nat → Nat} {P : sa_P} {I : sa_I} {J : sa_J} {x1 : Int32}   (kt : I 27 0 ≤ x1 → Sat (EC l D aI aL ad) M_X1_numberOfForm P 54 [] [] I J) (kf : ¬ I 27 0 ≤ x1 → Sat (EC l D aI aL ad) M_X1_numberOfForm P 10 [(0, .ref (ad 27)), (1, .int x1)] [] I J) : Sat (EC l D aI aL ad) M_X1_numberOfForm P 2 [(0, .ref (ad 27)), (1, .int x1)] [] I J := by
  refine s_iload_n 1 dX1_numberOfForm_2 rfl ?_
  refine s_aload_n 0 dX1_numberOfForm_3 rfl ?_
  refine g_X1_37 dX1_numberOfForm_4 rfl ?_
  refine s_icmp_ge (tgt := 54) dX1_numberOfForm_7 (by decide) (fun c => ?_) (fun c => ?_)
  · refine s_pick [] [] rfl ?_; exact kt c
  · exact kf c
theorem bX1_numberOfForm_10 {l : Launch} {D : va_G} {aI aL : ClassId} {ad : Nat → Nat} {P : sa_P} {I : sa_I} {J : sa_J} {x1 : Int32} {j16 : Nat} (e16 : (3 : Int32) * x1 = nI j16) (h17 : j16 < 480)  (kt : ¬ (I 28 j16).toInt64 = J 27 11 → Sat (EC l D aI aL ad) M_X1_numberOfForm P 48 [(0, .ref (ad 27)), (1, .int x1)] [] I J) (kf : (I 28 j16).toInt64 = J 27 11 → Sat (EC l D aI aL ad) M_X1_numberOfForm P 27 [(0, .ref (ad 27)), (1, .int x1)] [] I J) : Sat (EC l D aI aL ad) M_X1_numberOfForm P 10 [(0, .ref (ad 27)), (1, .int x1)] [] I J := by
  refine s_aload_n 0 dX1_numberOfForm_10 rfl ?_
  refine g_X1_11 dX1_numberOfForm_11 rfl ?_
  refine s_iconst (v := 3) dX1_numberOfForm_14 rfl ?_
  refine s_iload_n 1 dX1_numberOfForm_15 rfl ?_
  refine s_imul dX1_numberOfForm_16 ?_
  refine s_eqi e16 ?_
  refine s_ialoadN aI_C28 h17 (by decide) dX1_numberOfForm_17 ?_
  refine s_i2l dX1_numberOfForm_18 ?_
  refine s_aload_n 0 dX1_numberOfForm_19 rfl ?_
  refine g_X1_74 dX1_numberOfForm_20 rfl ?_
  refine s_lif_ne (tgt := 48) dX1_numberOfForm_23 dX1_numberOfForm_24 (by decide) (fun c => ?_) (fun c => ?_)
  · exact kt c
  · exact kf (by first | exact c | exact Classical.not_not.mp c)
theorem bX1_numberOfForm_27 {l : Launch} {D : va_G} {aI aL : ClassId} {ad : Nat → Nat} {P : sa_P} {I : sa_I} {J : sa_J} {x1 : Int32} {j35 : Nat} (e35 : ((3 : Int32) * x1) + (1 : Int32) = nI j35) (h36 : j35 < 480)  (kt : ¬ (I 28 j35).toInt64 = J 27 12 → Sat (EC l D aI aL ad) M_X1_numberOfForm P 48 [(0, .ref (ad 27)), (1, .int x1)] [] I J) (kf : (I 28 j35).toInt64 = J 27 12 → Sat (EC l D aI aL ad) M_X1_numberOfForm P 46 [(1, .int x1)] [] I J) : Sat (EC l D aI aL ad) M_X1_numberOfForm P 27 [(0, .ref (ad 27)), (1, .int x1)] [] I J := by
  refine s_aload_n 0 dX1_numberOfForm_27 rfl ?_
  refine g_X1_11 dX1_numberOfForm_28 rfl ?_
  refine s_iconst (v := 3) dX1_numberOfForm_31 rfl ?_
  refine s_iload_n 1 dX1_numberOfForm_32 rfl ?_
  refine s_imul dX1_numberOfForm_33 ?_
  refine s_iconst (v := 1) dX1_numberOfForm_34 rfl ?_
  refine s_iadd dX1_numberOfForm_35 ?_
  refine s_eqi e35 ?_
  refine s_ialoadN aI_C28 h36 (by decide) dX1_numberOfForm_36 ?_
  refine s_i2l dX1_numberOfForm_37 ?_
  refine s_aload_n 0 dX1_numberOfForm_38 rfl ?_
  refine g_X1_77 dX1_numberOfForm_39 rfl ?_
  refine s_lif_ne (tgt := 48) dX1_numberOfForm_42 dX1_numberOfForm_43 (by decide) (fun c => ?_) (fun c => ?_)
  · exact kt c
  · refine s_pick [1] [(1, .int x1)] rfl ?_; exact kf (by first | exact c | exact Classical.not_not.mp c)
theorem bX1_numberOfForm_46 {l : Launch} {D : va_G} {aI aL : ClassId} {ad : Nat → Nat} {P : sa_P} {I : sa_I} {J : sa_J} {x1 : Int32}   (k : P (some (.int x1)) I J) : Sat (EC l D aI aL ad) M_X1_numberOfForm P 46 [(1, .int x1)] [] I J := by
  refine s_iload_n 0 dX1_numberOfForm_46 rfl ?_
  exact s_iret rfl dX1_numberOfForm_47 k
theorem bX1_numberOfForm_48 {l : Launch} {D : va_G} {aI aL : ClassId} {ad : Nat → Nat} {P : sa_P} {I : sa_I} {J : sa_J} {x1 : Int32} {v48 : Int32}  (f48 : x1 + 1 = v48) (k : Sat (EC l D aI aL ad) M_X1_numberOfForm P 2 [(0, .ref (ad 27)), (1, .int v48)] [] I J) : Sat (EC l D aI aL ad) M_X1_numberOfForm P 48 [(0, .ref (ad 27)), (1, .int x1)] [] I J := by
  refine s_iinc 1 v48 [(1, .int v48), (0, .ref (ad 27))] dX1_numberOfForm_48 rfl f48 (Nat.lt_of_lt_of_le (Nat.lt_succ_self _) (Nat.le_of_ble_eq_true rfl)) rfl ?_
  refine s_goto (tgt := 2) dX1_numberOfForm_51 (by decide) ?_
  refine s_pick [1, 0] [(0, .ref (ad 27)), (1, .int v48)] rfl ?_; exact k
theorem bX1_numberOfForm_54 {l : Launch} {D : va_G} {aI aL : ClassId} {ad : Nat → Nat} {P : sa_P} {I : sa_I} {J : sa_J}    (k : P (some (.int (-1 : Int32))) I J) : Sat (EC l D aI aL ad) M_X1_numberOfForm P 54 [] [] I J := by
  refine s_iconst (v := -1) dX1_numberOfForm_54 rfl ?_
  exact s_iret rfl dX1_numberOfForm_55 k
/-! X1_goNext -/
theorem dX1_goNext_0 : decode cX1_goNext 0 = .ok (.aload_n 0, 1) := by decide +kernel
theorem dX1_goNext_1 : decode cX1_goNext 1 = .ok (.getfield 80, 3) := by decide +kernel
theorem dX1_goNext_4 : decode cX1_goNext 4 = .ok (.invokestatic 50, 3) := by decide +kernel
theorem dX1_goNext_7 : decode cX1_goNext 7 = .ok (.lstore_n 1, 1) := by decide +kernel
theorem dX1_goNext_8 : decode cX1_goNext 8 = .ok (.lload_n 1, 1) := by decide +kernel
theorem dX1_goNext_9 : decode cX1_goNext 9 = .ok (.lconst 0, 1) := by decide +kernel
theorem dX1_goNext_10 : decode cX1_goNext 10 = .ok (.lcmp, 1) := by decide +kernel
theorem dX1_goNext_11 : decode cX1_goNext 11 = .ok (.ifCond .ne 4, 3) := by decide +kernel
theorem dX1_goNext_14 : decode cX1_goNext 14 = .ok (.return_, 1) := by decide +kernel
theorem dX1_goNext_15 : decode cX1_goNext 15 = .ok (.lload_n 1, 1) := by decide +kernel
theorem dX1_goNext_16 : decode cX1_goNext 16 = .ok (.lload_n 1, 1) := by decide +kernel
theorem dX1_goNext_17 : decode cX1_goNext 17 = .ok (.lmul, 1) := by decide +kernel
theorem dX1_goNext_18 : decode cX1_goNext 18 = .ok (.aload_n 0, 1) := by decide +kernel
theorem dX1_goNext_19 : decode cX1_goNext 19 = .ok (.getfield 47, 3) := by decide +kernel
theorem dX1_goNext_22 : decode cX1_goNext 22 = .ok (.lcmp, 1) := by decide +kernel
theorem dX1_goNext_23 : decode cX1_goNext 23 = .ok (.ifCond .ge 29, 3) := by decide +kernel
theorem dX1_goNext_26 : decode cX1_goNext 26 = .ok (.aload_n 0, 1) := by decide +kernel
theorem dX1_goNext_27 : decode cX1_goNext 27 = .ok (.getfield 59, 3) := by decide +kernel
theorem dX1_goNext_30 : decode cX1_goNext 30 = .ok (.aload_n 0, 1) := by decide +kernel
theorem dX1_goNext_31 : decode cX1_goNext 31 = .ok (.getfield 59, 3) := by decide +kernel
theorem dX1_goNext_34 : decode cX1_goNext 34 = .ok (.aload_n 0, 1) := by decide +kernel
theorem dX1_goNext_35 : decode cX1_goNext 35 = .ok (.getfield 77, 3) := by decide +kernel
theorem dX1_goNext_38 : decode cX1_goNext 38 = .ok (.ladd, 1) := by decide +kernel
theorem dX1_goNext_39 : decode cX1_goNext 39 = .ok (.ldc2_w 87, 3) := by decide +kernel
theorem dX1_goNext_42 : decode cX1_goNext 42 = .ok (.lload_n 1, 1) := by decide +kernel
theorem dX1_goNext_43 : decode cX1_goNext 43 = .ok (.lmul, 1) := by decide +kernel
theorem dX1_goNext_44 : decode cX1_goNext 44 = .ok (.invokestatic 100, 3) := by decide +kernel
theorem dX1_goNext_47 : decode cX1_goNext 47 = .ok (.lsub, 1) := by decide +kernel
theorem dX1_goNext_48 : decode cX1_goNext 48 = .ok (.lstore_n 3, 1) := by decide +kernel
theorem dX1_goNext_49 : decode cX1_goNext 49 = .ok (.goto 35, 3) := by decide +kernel
theorem dX1_goNext_52 : decode cX1_goNext 52 = .ok (.aload_n 0, 1) := by decide +kernel
theorem dX1_goNext_53 : decode cX1_goNext 53 = .ok (.getfield 77, 3) := by decide +kernel
theorem dX1_goNext_56 : decode cX1_goNext 56 = .ok (.lneg, 1) := by decide +kernel
theorem dX1_goNext_57 : decode cX1_goNext 57 = .ok (.ldc2_w 87, 3) := by decide +kernel
theorem dX1_goNext_60 : decode cX1_goNext 60 = .ok (.lload_n 1, 1) := by decide +kernel
theorem dX1_goNext_61 : decode cX1_goNext 61 = .ok (.lmul, 1) := by decide +kernel
theorem dX1_goNext_62 : decode cX1_goNext 62 = .ok (.invokestatic 100, 3) := by decide +kernel
theorem dX1_goNext_65 : decode cX1_goNext 65 = .ok (.lstore_n 3, 1) := by decide +kernel
theorem dX1_goNext_66 : decode cX1_goNext 66 = .ok (.lload_n 3, 1) := by decide +kernel
theorem dX1_goNext_67 : decode cX1_goNext 67 = .ok (.lload_n 1, 1) := by decide +kernel
theorem dX1_goNext_68 : decode cX1_goNext 68 = .ok (.lcmp, 1) := by decide +kernel
theorem dX1_goNext_69 : decode cX1_goNext 69 = .ok (.ifCond .le 13, 3) := by decide +kernel
theorem dX1_goNext_72 : decode cX1_goNext 72 = .ok (.lload_n 3, 1) := by decide +kernel
theorem dX1_goNext_73 : decode cX1_goNext 73 = .ok (.ldc2_w 87, 3) := by decide +kernel
theorem dX1_goNext_76 : decode cX1_goNext 76 = .ok (.lload_n 1, 1) := by decide +kernel
theorem dX1_goNext_77 : decode cX1_goNext 77 = .ok (.lmul, 1) := by decide +kernel
theorem dX1_goNext_78 : decode cX1_goNext 78 = .ok (.lsub, 1) := by decide +kernel
theorem dX1_goNext_79 : decode cX1_goNext 79 = .ok (.goto 4, 3) := by decide +kernel
theorem dX1_goNext_82 : decode cX1_goNext 82 = .ok (.lload_n 3, 1) := by decide +kernel
theorem dX1_goNext_83 : decode cX1_goNext 83 = .ok (.lstore_n 3, 1) := by decide +kernel
theorem dX1_goNext_84 : decode cX1_goNext 84 = .ok (.aload_n 0, 1) := by decide +kernel
theorem dX1_goNext_85 : decode cX1_goNext 85 = .ok (.aload_n 0, 1) := by decide +kernel
theorem dX1_goNext_86 : decode cX1_goNext 86 = .ok (.getfield 80, 3) := by decide +kernel
theorem dX1_goNext_89 : decode cX1_goNext 89 = .ok (.putfield 74, 3) := by decide +kernel
theorem dX1_goNext_92 : decode cX1_goNext 92 = .ok (.aload_n 0, 1) := by decide +kernel
theorem dX1_goNext_93 : decode cX1_goNext 93 = .ok (.lload_n 3, 1) := by decide +kernel
theorem dX1_goNext_94 : decode cX1_goNext 94 = .ok (.putfield 77, 3) := by decide +kernel
theorem dX1_goNext_97 : decode cX1_goNext 97 = .ok (.aload_n 0, 1) := by decide +kernel
theorem dX1_goNext_98 : decode cX1_goNext 98 = .ok (.aload_n 0, 1) := by decide +kernel
theorem dX1_goNext_99 : decode cX1_goNext 99 = .ok (.getfield 77, 3) := by decide +kernel
theorem dX1_goNext_102 : decode cX1_goNext 102 = .ok (.aload_n 0, 1) := by decide +kernel
theorem dX1_goNext_103 : decode cX1_goNext 103 = .ok (.getfield 77, 3) := by decide +kernel
theorem dX1_goNext_106 : decode cX1_goNext 106 = .ok (.lmul, 1) := by decide +kernel
theorem dX1_goNext_107 : decode cX1_goNext 107 = .ok (.aload_n 0, 1) := by decide +kernel
theorem dX1_goNext_108 : decode cX1_goNext 108 = .ok (.getfield 47, 3) := by decide +kernel
theorem dX1_goNext_111 : decode cX1_goNext 111 = .ok (.lsub, 1) := by decide +kernel
theorem dX1_goNext_112 : decode cX1_goNext 112 = .ok (.ldc2_w 72, 3) := by decide +kernel
theorem dX1_goNext_115 : decode cX1_goNext 115 = .ok (.aload_n 0, 1) := by decide +kernel
theorem dX1_goNext_116 : decode cX1_goNext 116 = .ok (.getfield 74, 3) := by decide +kernel
theorem dX1_goNext_119 : decode cX1_goNext 119 = .ok (.lmul, 1) := by decide +kernel
theorem dX1_goNext_120 : decode cX1_goNext 120 = .ok (.invokestatic 104, 3) := by decide +kernel
theorem dX1_goNext_123 : decode cX1_goNext 123 = .ok (.putfield 80, 3) := by decide +kernel
theorem dX1_goNext_126 : decode cX1_goNext 126 = .ok (.return_, 1) := by decide +kernel
theorem bX1_goNext_0 {l : Launch} {D : va_G} {aI aL : ClassId} {ad : Nat → Nat} {P : sa_P} {I : sa_I} {J : sa_J}    (k : Sat (EC l D aI aL ad) M_X1_goNext P 4 [(0, .ref (ad 27))] [.long (J 27 13)] I J) : Sat (EC l D aI aL ad) M_X1_goNext P 0 [(0, .ref (ad 27))] [] I J := by
  refine s_aload_n 0 dX1_goNext_0 rfl ?_
  refine g_X1_80 dX1_goNext_1 rfl ?_
  exact k
theorem bX1_goNext_7 {l : Launch} {D : va_G} {aI aL : ClassId} {ad : Nat → Nat} {P : sa_P} {I : sa_I} {J : sa_J} {s0 : Int64}   (kt : ¬ s0 = (0 : Int64) → Sat (EC l D aI aL ad) M_X1_goNext P 15 [(0, .ref (ad 27)), (1, .long s0)] [] I J) (kf : s0 = (0 : Int64) → Sat (EC l D aI aL ad) M_X1_goNext P 14 [] [] I J) : Sat (EC l D aI aL ad) M_X1_goNext P 7 [(0, .ref (ad 27))] [.long s0] I J := by
  refine s_lstore_n [(1, .long s0), (0, .ref (ad 27))] dX1_goNext_7 (Nat.lt_of_lt_of_le (Nat.lt_succ_self _) (Nat.le_of_ble_eq_true rfl)) rfl ?_
  refine s_lload_n 0 dX1_goNext_8 rfl ?_
  refine s_lconst (v := 0) dX1_goNext_9 rfl ?_
  refine s_lif_ne (tgt := 15) dX1_goNext_10 dX1_goNext_11 (by decide) (fun c => ?_) (fun c => ?_)
  · refine s_pick [1, 0] [(0, .ref (ad 27)), (1, .long s0)] rfl ?_; exact kt c
  · refine s_pick [] [] rfl ?_; exact kf (by first | exact c | exact Classical.not_not.mp c)
theorem bX1_goNext_14 {l : Launch} {D : va_G} {aI aL : ClassId} {ad : Nat → Nat} {P : sa_P} {I : sa_I} {J : sa_J}    (k : P (none) I J) : Sat (EC l D aI aL ad) M_X1_goNext P 14 [] [] I J := by
  exact s_vret rfl dX1_goNext_14 k
theorem bX1_goNext_15 {l : Launch} {D : va_G} {aI aL : ClassId} {ad : Nat → Nat} {P : sa_P} {I : sa_I} {J : sa_J} {x1 : Int64}   (kt : J 27 9 ≤ x1 * x1 → Sat (EC l D aI aL ad) M_X1_goNext P 52 [(0, .ref (ad 27)), (1, .long x1)] [] I J) (kf : ¬ J 27 9 ≤ x1 * x1 → Sat (EC l D aI aL ad) M_X1_goNext P 26 [(0, .ref (ad 27)), (1, .long x1)] [] I J) : Sat (EC l D aI aL ad) M_X1_goNext P 15 [(0, .ref (ad 27)), (1, .long x1)] [] I J := by
  refine s_lload_n 1 dX1_goNext_15 rfl ?_
  refine s_lload_n 1 dX1_goNext_16 rfl ?_
  refine s_lmul dX1_goNext_17 ?_
  refine s_aload_n 0 dX1_goNext_18 rfl ?_
  refine g_X1_47 dX1_goNext_19 rfl ?_
  refine s_lif_ge (tgt := 52) dX1_goNext_22 dX1_goNext_23 (by decide) (fun c => ?_) (fun c => ?_)
  · exact kt c
  · exact kf c
theorem bX1_goNext_26 {l : Launch} {D : va_G} {aI aL : ClassId} {ad : Nat → Nat} {P : sa_P} {I : sa_I} {J : sa_J} {x1 : Int64}   (k : Sat (EC l D aI aL ad) M_X1_goNext P 44 [(0, .ref (ad 27))] [.long ((2 : Int64) * x1), .long ((J 27 10) + (J 27 12)), .long (J 27 10)] I J) : Sat (EC l D aI aL ad) M_X1_goNext P 26 [(0, .ref (ad 27)), (1, .long x1)] [] I J := by
  refine s_aload_n 0 dX1_goNext_26 rfl ?_
  refine g_X1_59 dX1_goNext_27 rfl ?_
  refine s_aload_n 0 dX1_goNext_30 rfl ?_
  refine g_X1_59 dX1_goNext_31 rfl ?_
  refine s_aload_n 0 dX1_goNext_34 rfl ?_
  refine g_X1_77 dX1_goNext_35 rfl ?_
  refine s_ladd dX1_goNext_38 ?_
  refine s_ldc2 wk_X1_87 dX1_goNext_39 ?_
  refine s_lload_n 1 dX1_goNext_42 rfl ?_
  refine s_lmul dX1_goNext_43 ?_
  refine s_pick [0] [(0, .ref (ad 27))] rfl ?_; exact k
theorem bX1_goNext_47 {l : Launch} {D : va_G} {aI aL : ClassId} {ad : Nat → Nat} {P : sa_P} {I : sa_I} {J : sa_J} {s0 : Int64} {s1 : Int64} {v48 : Int64}  (f48 : s0 - s1 = v48) (k : Sat (EC l D aI aL ad) M_X1_goNext P 84 [(0, .ref (ad 27)), (3, .long v48)] [] I J) : Sat (EC l D aI aL ad) M_X1_goNext P 47 [(0, .ref (ad 27))] [.long s1, .long s0] I J := by
  refine s_lsub dX1_goNext_47 ?_
  refine s_eql f48 ?_
  refine s_lstore_n [(3, .long v48), (0, .ref (ad 27))] dX1_goNext_48 (Nat.lt_of_lt_of_le (Nat.lt_succ_self _) (Nat.le_of_ble_eq_true rfl)) rfl ?_
  refine s_goto (tgt := 84) dX1_goNext_49 (by decide) ?_
  refine s_pick [1, 0] [(0, .ref (ad 27)), (3, .long v48)] rfl ?_; exact k
theorem bX1_goNext_52 {l : Launch} {D : va_G} {aI aL : ClassId} {ad : Nat → Nat} {P : sa_P} {I : sa_I} {J : sa_J} {x1 : Int64}   (k : Sat (EC l D aI aL ad) M_X1_goNext P 62 [(0, .ref (ad 27)), (1, .long x1)] [.long ((2 : Int64) * x1), .long (-(J 27 12))] I J) : Sat (EC l D aI aL ad) M_X1_goNext P 52 [(0, .ref (ad 27)), (1, .long x1)] [] I J := by
  refine s_aload_n 0 dX1_goNext_52 rfl ?_
  refine g_X1_77 dX1_goNext_53 rfl ?_
  refine s_lneg dX1_goNext_56 ?_
  refine s_ldc2 wk_X1_87 dX1_goNext_57 ?_
  refine s_lload_n 1 dX1_goNext_60 rfl ?_
  refine s_lmul dX1_goNext_61 ?_
  exact k
theorem bX1_goNext_65 {l : Launch} {D : va_G} {aI aL : ClassId} {ad : Nat → Nat} {P : sa_P} {I : sa_I} {J : sa_J} {x1 : Int64} {s0 : Int64}   (kt : s0 ≤ x1 → Sat (EC l D aI aL ad) M_X1_goNext P 82 [(0, .ref (ad 27)), (3, .long s0)] [] I J) (kf : ¬ s0 ≤ x1 → Sat (EC l D aI aL ad) M_X1_goNext P 72 [(0, .ref (ad 27)), (1, .long x1), (3, .long s0)] [] I J) : Sat (EC l D aI aL ad) M_X1_goNext P 65 [(0, .ref (ad 27)), (1, .long x1)] [.long s0] I J := by
  refine s_lstore_n [(3, .long s0), (0, .ref (ad 27)), (1, .long x1)] dX1_goNext_65 (Nat.lt_of_lt_of_le (Nat.lt_succ_self _) (Nat.le_of_ble_eq_true rfl)) rfl ?_
  refine s_lload_n 0 dX1_goNext_66 rfl ?_
  refine s_lload_n 2 dX1_goNext_67 rfl ?_
  refine s_lif_le (tgt := 82) dX1_goNext_68 dX1_goNext_69 (by decide) (fun c => ?_) (fun c => ?_)
  · refine s_pick [1, 0] [(0, .ref (ad 27)), (3, .long s0)] rfl ?_; exact kt c
  · refine s_pick [1, 2, 0] [(0, .ref (ad 27)), (1, .long x1), (3, .long s0)] rfl ?_; exact kf c
theorem bX1_goNext_72 {l : Launch} {D : va_G} {aI aL : ClassId} {ad : Nat → Nat} {P : sa_P} {I : sa_I} {J : sa_J} {x1 : Int64} {x3 : Int64}   (k : Sat (EC l D aI aL ad) M_X1_goNext P 83 [(0, .ref (ad 27))] [.long (x3 - ((2 : Int64) * x1))] I J) : Sat (EC l D aI aL ad) M_X1_goNext P 72 [(0, .ref (ad 27)), (1, .long x1), (3, .long x3)] [] I J := by
  refine s_lload_n 2 dX1_goNext_72 rfl ?_
  refine s_ldc2 wk_X1_87 dX1_goNext_73 ?_
  refine s_lload_n 1 dX1_goNext_76 rfl ?_
  refine s_lmul dX1_goNext_77 ?_
  refine s_lsub dX1_goNext_78 ?_
  refine s_goto (tgt := 83) dX1_goNext_79 (by decide) ?_
  refine s_pick [0] [(0, .ref (ad 27))] rfl ?_; exact k
theorem bX1_goNext_82 {l : Launch} {D : va_G} {aI aL : ClassId} {ad : Nat → Nat} {P : sa_P} {I : sa_I} {J : sa_J} {x3 : Int64}   (k : Sat (EC l D aI aL ad) M_X1_goNext P 83 [(0, .ref (ad 27))] [.long x3] I J) : Sat (EC l D aI aL ad) M_X1_goNext P 82 [(0, .ref (ad 27)), (3, .long x3)] [] I J := by
  refine s_lload_n 1 dX1_goNext_82 rfl ?_
  refine s_pick [0] [(0, .ref (ad 27))] rfl ?_; exact k
theorem bX1_goNext_83 {l : Launch} {D : va_G} {aI aL : ClassId} {ad : Nat → Nat} {P : sa_P} {I : sa_I} {J : sa_J} {s0 : Int64}   (k : Sat (EC l D aI aL ad) M_X1_goNext P 84 [(0, .ref (ad 27)), (3, .long s0)] [] I J) : Sat (EC l D aI aL ad) M_X1_goNext P 83 [(0, .ref (ad 27))] [.long s0] I J := by
  refine s_lstore_n [(3, .long s0), (0, .ref (ad 27))] dX1_goNext_83 (Nat.lt_of_lt_of_le (Nat.lt_succ_self _) (Nat.le_of_ble_eq_true rfl)) rfl ?_
  refine s_pick [1, 0] [(0, .ref (ad 27)), (3, .long s0)] rfl ?_; exact k
theorem bX1_goNext_84 {l : Launch} {D : va_G} {aI aL : ClassId} {ad : Nat → Nat} {P : sa_P} {I : sa_I} {J : sa_J} {x3 : Int64} {v89 : Int64}  (f89 : J 27 13 = v89) (k : Sat (EC l D aI aL ad) M_X1_goNext P 120 [] [.long ((4 : Int64) * ((sa_uJ (sa_uJ J 27 11 v89) 27 12 x3) 27 11)), .long ((((sa_uJ (sa_uJ J 27 11 v89) 27 12 x3) 27 12) * ((sa_uJ (sa_uJ J 27 11 v89) 27 12 x3) 27 12)) - ((sa_uJ (sa_uJ J 27 11 v89) 27 12 x3) 27 9)), .ref (ad 27)] I (sa_uJ (sa_uJ J 27 11 v89) 27 12 x3)) : Sat (EC l D aI aL ad) M_X1_goNext P 84 [(0, .ref (ad 27)), (3, .long x3)] [] I J := by
  refine s_aload_n 0 dX1_goNext_84 rfl ?_
  refine s_aload_n 0 dX1_goNext_85 rfl ?_
  refine g_X1_80 dX1_goNext_86 rfl ?_
  refine s_eql f89 ?_
  refine p_X1_74 dX1_goNext_89 rfl ?_
  refine s_aload_n 0 dX1_goNext_92 rfl ?_
  refine s_lload_n 1 dX1_goNext_93 rfl ?_
  refine p_X1_77 dX1_goNext_94 rfl ?_
  refine s_aload_n 0 dX1_goNext_97 rfl ?_
  refine s_aload_n 0 dX1_goNext_98 rfl ?_
  refine g_X1_77 dX1_goNext_99 rfl ?_
  refine s_aload_n 0 dX1_goNext_102 rfl ?_
  refine g_X1_77 dX1_goNext_103 rfl ?_
  refine s_lmul dX1_goNext_106 ?_
  refine s_aload_n 0 dX1_goNext_107 rfl ?_
  refine g_X1_47 dX1_goNext_108 rfl ?_
  refine s_lsub dX1_goNext_111 ?_
  refine s_ldc2 wk_X1_72 dX1_goNext_112 ?_
  refine s_aload_n 0 dX1_goNext_115 rfl ?_
  refine g_X1_74 dX1_goNext_116 rfl ?_
  refine s_lmul dX1_goNext_119 ?_
  refine s_pick [] [] rfl ?_; exact k
theorem bX1_goNext_123 {l : Launch} {D : va_G} {aI aL : ClassId} {ad : Nat → Nat} {P : sa_P} {I : sa_I} {J : sa_J} {s1 : Int64}   (k : P (none) I (sa_uJ J 27 13 s1)) : Sat (EC l D aI aL ad) M_X1_goNext P 123 [] [.long s1, .ref (ad 27)] I J := by
  refine p_X1_80 dX1_goNext_123 rfl ?_
  exact s_vret rfl dX1_goNext_126 k
/-! X1_formOfRows -/
theorem dX1_formOfRows_0 : decode cX1_formOfRows 0 = .ok (.aload_n 1, 1) := by decide +kernel
theorem dX1_formOfRows_1 : decode cX1_formOfRows 1 = .ok (.iload_n 2, 1) := by decide +kernel
theorem dX1_formOfRows_2 : decode cX1_formOfRows 2 = .ok (.iconst 4, 1) := by decide +kernel
theorem dX1_formOfRows_3 : decode cX1_formOfRows 3 = .ok (.iadd, 1) := by decide +kernel
theorem dX1_formOfRows_4 : decode cX1_formOfRows 4 = .ok (.laload, 1) := by decide +kernel
theorem dX1_formOfRows_5 : decode cX1_formOfRows 5 = .ok (.lstore_n 3, 1) := by decide +kernel
theorem dX1_formOfRows_6 : decode cX1_formOfRows 6 = .ok (.aload_n 0, 1) := by decide +kernel
theorem dX1_formOfRows_7 : decode cX1_formOfRows 7 = .ok (.aload_n 1, 1) := by decide +kernel
theorem dX1_formOfRows_8 : decode cX1_formOfRows 8 = .ok (.iload_n 2, 1) := by decide +kernel
theorem dX1_formOfRows_9 : decode cX1_formOfRows 9 = .ok (.laload, 1) := by decide +kernel
theorem dX1_formOfRows_10 : decode cX1_formOfRows 10 = .ok (.lload_n 3, 1) := by decide +kernel
theorem dX1_formOfRows_11 : decode cX1_formOfRows 11 = .ok (.invokestatic 104, 3) := by decide +kernel
theorem dX1_formOfRows_14 : decode cX1_formOfRows 14 = .ok (.putfield 74, 3) := by decide +kernel
theorem dX1_formOfRows_17 : decode cX1_formOfRows 17 = .ok (.aload_n 1, 1) := by decide +kernel
theorem dX1_formOfRows_18 : decode cX1_formOfRows 18 = .ok (.iload_n 2, 1) := by decide +kernel
theorem dX1_formOfRows_19 : decode cX1_formOfRows 19 = .ok (.iconst 3, 1) := by decide +kernel
theorem dX1_formOfRows_20 : decode cX1_formOfRows 20 = .ok (.iadd, 1) := by decide +kernel
theorem dX1_formOfRows_21 : decode cX1_formOfRows 21 = .ok (.laload, 1) := by decide +kernel
theorem dX1_formOfRows_22 : decode cX1_formOfRows 22 = .ok (.lload_n 3, 1) := by decide +kernel
theorem dX1_formOfRows_23 : decode cX1_formOfRows 23 = .ok (.invokestatic 104, 3) := by decide +kernel
theorem dX1_formOfRows_26 : decode cX1_formOfRows 26 = .ok (.lstore 5, 2) := by decide +kernel
theorem dX1_formOfRows_28 : decode cX1_formOfRows 28 = .ok (.aload_n 0, 1) := by decide +kernel
theorem dX1_formOfRows_29 : decode cX1_formOfRows 29 = .ok (.getfield 25, 3) := by decide +kernel
theorem dX1_formOfRows_32 : decode cX1_formOfRows 32 = .ok (.invokevirtual 107, 3) := by decide +kernel
theorem dX1_formOfRows_35 : decode cX1_formOfRows 35 = .ok (.lstore 7, 2) := by decide +kernel
theorem dX1_formOfRows_37 : decode cX1_formOfRows 37 = .ok (.aload_n 0, 1) := by decide +kernel
theorem dX1_formOfRows_38 : decode cX1_formOfRows 38 = .ok (.ldc2_w 87, 3) := by decide +kernel
theorem dX1_formOfRows_41 : decode cX1_formOfRows 41 = .ok (.lload 5, 2) := by decide +kernel
theorem dX1_formOfRows_43 : decode cX1_formOfRows 43 = .ok (.lmul, 1) := by decide +kernel
theorem dX1_formOfRows_44 : decode cX1_formOfRows 44 = .ok (.lload 7, 2) := by decide +kernel
theorem dX1_formOfRows_46 : decode cX1_formOfRows 46 = .ok (.ladd, 1) := by decide +kernel
theorem dX1_formOfRows_47 : decode cX1_formOfRows 47 = .ok (.putfield 77, 3) := by decide +kernel
theorem dX1_formOfRows_50 : decode cX1_formOfRows 50 = .ok (.aload_n 0, 1) := by decide +kernel
theorem dX1_formOfRows_51 : decode cX1_formOfRows 51 = .ok (.lload 5, 2) := by decide +kernel
theorem dX1_formOfRows_53 : decode cX1_formOfRows 53 = .ok (.lload 5, 2) := by decide +kernel
theorem dX1_formOfRows_55 : decode cX1_formOfRows 55 = .ok (.lmul, 1) := by decide +kernel
theorem dX1_formOfRows_56 : decode cX1_formOfRows 56 = .ok (.lload 5, 2) := by decide +kernel
theorem dX1_formOfRows_58 : decode cX1_formOfRows 58 = .ok (.lload 7, 2) := by decide +kernel
theorem dX1_formOfRows_60 : decode cX1_formOfRows 60 = .ok (.lmul, 1) := by decide +kernel
theorem dX1_formOfRows_61 : decode cX1_formOfRows 61 = .ok (.ladd, 1) := by decide +kernel
theorem dX1_formOfRows_62 : decode cX1_formOfRows 62 = .ok (.aload_n 0, 1) := by decide +kernel
theorem dX1_formOfRows_63 : decode cX1_formOfRows 63 = .ok (.getfield 25, 3) := by decide +kernel
theorem dX1_formOfRows_66 : decode cX1_formOfRows 66 = .ok (.invokevirtual 111, 3) := by decide +kernel
theorem dX1_formOfRows_69 : decode cX1_formOfRows 69 = .ok (.ladd, 1) := by decide +kernel
theorem dX1_formOfRows_70 : decode cX1_formOfRows 70 = .ok (.aload_n 0, 1) := by decide +kernel
theorem dX1_formOfRows_71 : decode cX1_formOfRows 71 = .ok (.getfield 74, 3) := by decide +kernel
theorem dX1_formOfRows_74 : decode cX1_formOfRows 74 = .ok (.invokestatic 104, 3) := by decide +kernel
theorem dX1_formOfRows_77 : decode cX1_formOfRows 77 = .ok (.putfield 80, 3) := by decide +kernel
theorem dX1_formOfRows_80 : decode cX1_formOfRows 80 = .ok (.return_, 1) := by decide +kernel
theorem bX1_formOfRows_0 {l : Launch} {D : va_G} {aI aL : ClassId} {ad : Nat → Nat} {P : sa_P} {I : sa_I} {J : sa_J} {a1 q1 n1 : Nat} {x2 : Int32} {j3 : Nat} {v5 : Int64} {j8 : Nat} (hq1 : sa_iJ (EC l D aI aL ad) a1 q1 n1) (hn1 : n1 < 2 ^ 31) (e3 : x2 + (4 : Int32) = nI j3) (h4 : j3 < n1) (e8 : x2 = nI j8) (h9 : j8 < n1) (f5 : J q1 j3 = v5) (k : Sat (EC l D aI aL ad) M_X1_formOfRows P 11 [(0, .ref (ad 27)), (1, .ref a1), (2, .int x2), (3, .long v5)] [.long v5, .long (J q1 j8), .ref (ad 27)] I J) : Sat (EC l D aI aL ad) M_X1_formOfRows P 0 [(0, .ref (ad 27)), (1, .ref a1), (2, .int x2)] [] I J := by
  refine s_aload_n 1 dX1_formOfRows_0 rfl ?_
  refine s_iload_n 2 dX1_formOfRows_1 rfl ?_
  refine s_iconst (v := 4) dX1_formOfRows_2 rfl ?_
  refine s_iadd dX1_formOfRows_3 ?_
  refine s_eqi e3 ?_
  refine s_laloadN hq1 h4 hn1 dX1_formOfRows_4 ?_
  refine s_eql f5 ?_
  refine s_lstore_n [(3, .long v5), (0, .ref (ad 27)), (1, .ref a1), (2, .int x2)] dX1_formOfRows_5 (Nat.lt_of_lt_of_le (Nat.lt_succ_self _) (Nat.le_of_ble_eq_true rfl)) rfl ?_
  refine s_aload_n 1 dX1_formOfRows_6 rfl ?_
  refine s_aload_n 2 dX1_formOfRows_7 rfl ?_
  refine s_iload_n 3 dX1_formOfRows_8 rfl ?_
  refine s_eqi e8 ?_
  refine s_laloadN hq1 h9 hn1 dX1_formOfRows_9 ?_
  refine s_lload_n 0 dX1_formOfRows_10 rfl ?_
  refine s_pick [1, 2, 3, 0] [(0, .ref (ad 27)), (1, .ref a1), (2, .int x2), (3, .long v5)] rfl ?_; exact k
theorem bX1_formOfRows_14 {l : Launch} {D : va_G} {aI aL : ClassId} {ad : Nat → Nat} {P : sa_P} {I : sa_I} {J : sa_J} {a1 q1 n1 : Nat} {x2 : Int32} {x3 : Int64} {s1 : Int64} {j20 : Nat} (hq1 : sa_iJ (EC l D aI aL ad) a1 q1 n1) (hn1 : n1 < 2 ^ 31) (e20 : x2 + (3 : Int32) = nI j20) (h21 : j20 < n1)  (k : Sat (EC l D aI aL ad) M_X1_formOfRows P 23 [(0, .ref (ad 27))] [.long x3, .long ((sa_uJ J 27 11 s1) q1 j20)] I (sa_uJ J 27 11 s1)) : Sat (EC l D aI aL ad) M_X1_formOfRows P 14 [(0, .ref (ad 27)), (1, .ref a1), (2, .int x2), (3, .long x3)] [.long s1, .ref (ad 27)] I J := by
  refine p_X1_74 dX1_formOfRows_14 rfl ?_
  refine s_aload_n 1 dX1_formOfRows_17 rfl ?_
  refine s_iload_n 2 dX1_formOfRows_18 rfl ?_
  refine s_iconst (v := 3) dX1_formOfRows_19 rfl ?_
  refine s_iadd dX1_formOfRows_20 ?_
  refine s_eqi e20 ?_
  refine s_laloadN hq1 h21 hn1 dX1_formOfRows_21 ?_
  refine s_lload_n 3 dX1_formOfRows_22 rfl ?_
  refine s_pick [0] [(0, .ref (ad 27))] rfl ?_; exact k
theorem bX1_formOfRows_26 {l : Launch} {D : va_G} {aI aL : ClassId} {ad : Nat → Nat} {P : sa_P} {I : sa_I} {J : sa_J} {s0 : Int64}   (k : Sat (EC l D aI aL ad) M_X1_formOfRows P 32 [(0, .ref (ad 27)), (5, .long s0)] [.ref (ad 4)] I J) : Sat (EC l D aI aL ad) M_X1_formOfRows P 26 [(0, .ref (ad 27))] [.long s0] I J := by
  refine s_lstore [(5, .long s0), (0, .ref (ad 27))] dX1_formOfRows_26 (Nat.lt_of_lt_of_le (Nat.lt_succ_self _) (Nat.le_of_ble_eq_true rfl)) rfl ?_
  refine s_aload_n 1 dX1_formOfRows_28 rfl ?_
  refine g_X1_25 dX1_formOfRows_29 rfl ?_
  refine s_pick [1, 0] [(0, .ref (ad 27)), (5, .long s0)] rfl ?_; exact k
theorem bX1_formOfRows_35 {l : Launch} {D : va_G} {aI aL : ClassId} {ad : Nat → Nat} {P : sa_P} {I : sa_I} {J : sa_J} {x5 : Int64} {s0 : Int64} {v47 : Int64}  (f47 : ((2 : Int64) * x5) + s0 = v47) (k : Sat (EC l D aI aL ad) M_X1_formOfRows P 66 [(0, .ref (ad 27))] [.ref (ad 4), .long ((x5 * x5) + (x5 * s0)), .ref (ad 27)] I (sa_uJ J 27 12 v47)) : Sat (EC l D aI aL ad) M_X1_formOfRows P 35 [(0, .ref (ad 27)), (5, .long x5)] [.long s0] I J := by
  refine s_lstore [(7, .long s0), (0, .ref (ad 27)), (5, .long x5)] dX1_formOfRows_35 (Nat.lt_of_lt_of_le (Nat.lt_succ_self _) (Nat.le_of_ble_eq_true rfl)) rfl ?_
  refine s_aload_n 1 dX1_formOfRows_37 rfl ?_
  refine s_ldc2 wk_X1_87 dX1_formOfRows_38 ?_
  refine s_lload 2 dX1_formOfRows_41 rfl ?_
  refine s_lmul dX1_formOfRows_43 ?_
  refine s_lload 0 dX1_formOfRows_44 rfl ?_
  refine s_ladd dX1_formOfRows_46 ?_
  refine s_eql f47 ?_
  refine p_X1_77 dX1_formOfRows_47 rfl ?_
  refine s_aload_n 1 dX1_formOfRows_50 rfl ?_
  refine s_lload 2 dX1_formOfRows_51 rfl ?_
  refine s_lload 2 dX1_formOfRows_53 rfl ?_
  refine s_lmul dX1_formOfRows_55 ?_
  refine s_lload 2 dX1_formOfRows_56 rfl ?_
  refine s_lload 0 dX1_formOfRows_58 rfl ?_
  refine s_lmul dX1_formOfRows_60 ?_
  refine s_ladd dX1_formOfRows_61 ?_
  refine s_aload_n 1 dX1_formOfRows_62 rfl ?_
  refine g_X1_25 dX1_formOfRows_63 rfl ?_
  refine s_pick [1] [(0, .ref (ad 27))] rfl ?_; exact k
theorem bX1_formOfRows_69 {l : Launch} {D : va_G} {aI aL : ClassId} {ad : Nat → Nat} {P : sa_P} {I : sa_I} {J : sa_J} {s1 : Int64} {s2 : Int64}   (k : Sat (EC l D aI aL ad) M_X1_formOfRows P 74 [] [.long (J 27 11), .long (s1 + s2), .ref (ad 27)] I J) : Sat (EC l D aI aL ad) M_X1_formOfRows P 69 [(0, .ref (ad 27))] [.long s2, .long s1, .ref (ad 27)] I J := by
  refine s_ladd dX1_formOfRows_69 ?_
  refine s_aload_n 0 dX1_formOfRows_70 rfl ?_
  refine g_X1_74 dX1_formOfRows_71 rfl ?_
  refine s_pick [] [] rfl ?_; exact k
theorem bX1_formOfRows_77 {l : Launch} {D : va_G} {aI aL : ClassId} {ad : Nat → Nat} {P : sa_P} {I : sa_I} {J : sa_J} {s1 : Int64}   (k : P (none) I (sa_uJ J 27 13 s1)) : Sat (EC l D aI aL ad) M_X1_formOfRows P 77 [] [.long s1, .ref (ad 27)] I J := by
  refine p_X1_80 dX1_formOfRows_77 rfl ?_
  exact s_vret rfl dX1_formOfRows_80 k
/-! X1_reduce -/
theorem dX1_reduce_0 : decode cX1_reduce 0 = .ok (.iconst 0, 1) := by decide +kernel
theorem dX1_reduce_1 : decode cX1_reduce 1 = .ok (.istore_n 1, 1) := by decide +kernel
theorem dX1_reduce_2 : decode cX1_reduce 2 = .ok (.iload_n 1, 1) := by decide +kernel
theorem dX1_reduce_3 : decode cX1_reduce 3 = .ok (.sipush 1000, 3) := by decide +kernel
theorem dX1_reduce_6 : decode cX1_reduce 6 = .ok (.if_icmp .ge 36, 3) := by decide +kernel
theorem dX1_reduce_9 : decode cX1_reduce 9 = .ok (.aload_n 0, 1) := by decide +kernel
theorem dX1_reduce_10 : decode cX1_reduce 10 = .ok (.invokevirtual 83, 3) := by decide +kernel
theorem dX1_reduce_13 : decode cX1_reduce 13 = .ok (.ifCond .ne 29, 3) := by decide +kernel
theorem dX1_reduce_16 : decode cX1_reduce 16 = .ok (.aload_n 0, 1) := by decide +kernel
theorem dX1_reduce_17 : decode cX1_reduce 17 = .ok (.getfield 47, 3) := by decide +kernel
theorem dX1_reduce_20 : decode cX1_reduce 20 = .ok (.lconst 0, 1) := by decide +kernel
theorem dX1_reduce_21 : decode cX1_reduce 21 = .ok (.lcmp, 1) := by decide +kernel
theorem dX1_reduce_22 : decode cX1_reduce 22 = .ok (.ifCond .le 10, 3) := by decide +kernel
theorem dX1_reduce_25 : decode cX1_reduce 25 = .ok (.aload_n 0, 1) := by decide +kernel
theorem dX1_reduce_26 : decode cX1_reduce 26 = .ok (.invokevirtual 93, 3) := by decide +kernel
theorem dX1_reduce_29 : decode cX1_reduce 29 = .ok (.goto 7, 3) := by decide +kernel
theorem dX1_reduce_32 : decode cX1_reduce 32 = .ok (.aload_n 0, 1) := by decide +kernel
theorem dX1_reduce_33 : decode cX1_reduce 33 = .ok (.invokevirtual 114, 3) := by decide +kernel
theorem dX1_reduce_36 : decode cX1_reduce 36 = .ok (.iinc 1 1, 3) := by decide +kernel
theorem dX1_reduce_39 : decode cX1_reduce 39 = .ok (.goto (-37), 3) := by decide +kernel
theorem dX1_reduce_42 : decode cX1_reduce 42 = .ok (.return_, 1) := by decide +kernel
theorem bX1_reduce_0 {l : Launch} {D : va_G} {aI aL : ClassId} {ad : Nat → Nat} {P : sa_P} {I : sa_I} {J : sa_J} {v1 : Int32}  (f1 : (0 : Int32) = v1) (k : Sat (EC l D aI aL ad) M_X1_reduce P 2 [(0, .ref (ad 27)), (1, .int v1)] [] I J) : Sat (EC l D aI aL ad) M_X1_reduce P 0 [(0, .ref (ad 27))] [] I J := by
  refine s_iconst (v := 0) dX1_reduce_0 rfl ?_
  refine s_eqi f1 ?_
  refine s_istore_n [(1, .int v1), (0, .ref (ad 27))] dX1_reduce_1 (Nat.lt_of_lt_of_le (Nat.lt_succ_self _) (Nat.le_of_ble_eq_true rfl)) rfl ?_
  refine s_pick [1, 0] [(0, .ref (ad 27)), (1, .int v1)] rfl ?_; exact k
theorem bX1_reduce_2 {l : Launch} {D : va_G} {aI aL : ClassId} {ad : Nat → Nat} {P : sa_P} {I : sa_I} {J : sa_J} {x1 : Int32}   (kt : (1000 : Int32) ≤ x1 → Sat (EC l D aI aL ad) M_X1_reduce P 42 [] [] I J) (kf : ¬ (1000 : Int32) ≤ x1 → Sat (EC l D aI aL ad) M_X1_reduce P 9 [(0, .ref (ad 27)), (1, .int x1)] [] I J) : Sat (EC l D aI aL ad) M_X1_reduce P 2 [(0, .ref (ad 27)), (1, .int x1)] [] I J := by
  refine s_iload_n 1 dX1_reduce_2 rfl ?_
  refine s_sipush (v := 1000) dX1_reduce_3 rfl ?_
  refine s_icmp_ge (tgt := 42) dX1_reduce_6 (by decide) (fun c => ?_) (fun c => ?_)
  · refine s_pick [] [] rfl ?_; exact kt c
  · exact kf c
theorem bX1_reduce_9 {l : Launch} {D : va_G} {aI aL : ClassId} {ad : Nat → Nat} {P : sa_P} {I : sa_I} {J : sa_J} {x1 : Int32}   (k : Sat (EC l D aI aL ad) M_X1_reduce P 10 [(0, .ref (ad 27)), (1, .int x1)] [.ref (ad 27)] I J) : Sat (EC l D aI aL ad) M_X1_reduce P 9 [(0, .ref (ad 27)), (1, .int x1)] [] I J := by
  refine s_aload_n 0 dX1_reduce_9 rfl ?_
  exact k
theorem bX1_reduce_13 {l : Launch} {D : va_G} {aI aL : ClassId} {ad : Nat → Nat} {P : sa_P} {I : sa_I} {J : sa_J} {x1 : Int32} {s0 : Int32}   (kt : ¬ s0 = 0 → Sat (EC l D aI aL ad) M_X1_reduce P 42 [] [] I J) (kf : s0 = 0 → Sat (EC l D aI aL ad) M_X1_reduce P 16 [(0, .ref (ad 27)), (1, .int x1)] [] I J) : Sat (EC l D aI aL ad) M_X1_reduce P 13 [(0, .ref (ad 27)), (1, .int x1)] [.int s0] I J := by
  refine s_if_ne (tgt := 42) dX1_reduce_13 (by decide) (fun c => ?_) (fun c => ?_)
  · refine s_pick [] [] rfl ?_; exact kt c
  · exact kf (by first | exact c | exact Classical.not_not.mp c)
theorem bX1_reduce_16 {l : Launch} {D : va_G} {aI aL : ClassId} {ad : Nat → Nat} {P : sa_P} {I : sa_I} {J : sa_J} {x1 : Int32}   (kt : J 27 9 ≤ (0 : Int64) → Sat (EC l D aI aL ad) M_X1_reduce P 32 [(0, .ref (ad 27)), (1, .int x1)] [] I J) (kf : ¬ J 27 9 ≤ (0 : Int64) → Sat (EC l D aI aL ad) M_X1_reduce P 25 [(0, .ref (ad 27)), (1, .int x1)] [] I J) : Sat (EC l D aI aL ad) M_X1_reduce P 16 [(0, .ref (ad 27)), (1, .int x1)] [] I J := by
  refine s_aload_n 0 dX1_reduce_16 rfl ?_
  refine g_X1_47 dX1_reduce_17 rfl ?_
  refine s_lconst (v := 0) dX1_reduce_20 rfl ?_
  refine s_lif_le (tgt := 32) dX1_reduce_21 dX1_reduce_22 (by decide) (fun c => ?_) (fun c => ?_)
  · exact kt c
  · exact kf c
theorem bX1_reduce_25 {l : Launch} {D : va_G} {aI aL : ClassId} {ad : Nat → Nat} {P : sa_P} {I : sa_I} {J : sa_J} {x1 : Int32}   (k : Sat (EC l D aI aL ad) M_X1_reduce P 26 [(0, .ref (ad 27)), (1, .int x1)] [.ref (ad 27)] I J) : Sat (EC l D aI aL ad) M_X1_reduce P 25 [(0, .ref (ad 27)), (1, .int x1)] [] I J := by
  refine s_aload_n 0 dX1_reduce_25 rfl ?_
  exact k
theorem bX1_reduce_29 {l : Launch} {D : va_G} {aI aL : ClassId} {ad : Nat → Nat} {P : sa_P} {I : sa_I} {J : sa_J} {x1 : Int32}   (k : Sat (EC l D aI aL ad) M_X1_reduce P 36 [(0, .ref (ad 27)), (1, .int x1)] [] I J) : Sat (EC l D aI aL ad) M_X1_reduce P 29 [(0, .ref (ad 27)), (1, .int x1)] [] I J := by
  refine s_goto (tgt := 36) dX1_reduce_29 (by decide) ?_
  exact k
theorem bX1_reduce_32 {l : Launch} {D : va_G} {aI aL : ClassId} {ad : Nat → Nat} {P : sa_P} {I : sa_I} {J : sa_J} {x1 : Int32}   (k : Sat (EC l D aI aL ad) M_X1_reduce P 33 [(0, .ref (ad 27)), (1, .int x1)] [.ref (ad 27)] I J) : Sat (EC l D aI aL ad) M_X1_reduce P 32 [(0, .ref (ad 27)), (1, .int x1)] [] I J := by
  refine s_aload_n 0 dX1_reduce_32 rfl ?_
  exact k
theorem bX1_reduce_36 {l : Launch} {D : va_G} {aI aL : ClassId} {ad : Nat → Nat} {P : sa_P} {I : sa_I} {J : sa_J} {x1 : Int32} {v36 : Int32}  (f36 : x1 + 1 = v36) (k : Sat (EC l D aI aL ad) M_X1_reduce P 2 [(0, .ref (ad 27)), (1, .int v36)] [] I J) : Sat (EC l D aI aL ad) M_X1_reduce P 36 [(0, .ref (ad 27)), (1, .int x1)] [] I J := by
  refine s_iinc 1 v36 [(1, .int v36), (0, .ref (ad 27))] dX1_reduce_36 rfl f36 (Nat.lt_of_lt_of_le (Nat.lt_succ_self _) (Nat.le_of_ble_eq_true rfl)) rfl ?_
  refine s_goto (tgt := 2) dX1_reduce_39 (by decide) ?_
  refine s_pick [1, 0] [(0, .ref (ad 27)), (1, .int v36)] rfl ?_; exact k
theorem bX1_reduce_42 {l : Launch} {D : va_G} {aI aL : ClassId} {ad : Nat → Nat} {P : sa_P} {I : sa_I} {J : sa_J}    (k : P (none) I J) : Sat (EC l D aI aL ad) M_X1_reduce P 42 [] [] I J := by
  exact s_vret rfl dX1_reduce_42 k
/-! X1_turn -/
theorem dX1_turn_0 : decode cX1_turn 0 = .ok (.aload_n 0, 1) := by decide +kernel
theorem dX1_turn_1 : decode cX1_turn 1 = .ok (.getfield 74, 3) := by decide +kernel
theorem dX1_turn_4 : decode cX1_turn 4 = .ok (.lconst 0, 1) := by decide +kernel
theorem dX1_turn_5 : decode cX1_turn 5 = .ok (.lcmp, 1) := by decide +kernel
theorem dX1_turn_6 : decode cX1_turn 6 = .ok (.ifCond .gt 4, 3) := by decide +kernel
theorem dX1_turn_9 : decode cX1_turn 9 = .ok (.return_, 1) := by decide +kernel
theorem dX1_turn_10 : decode cX1_turn 10 = .ok (.aload_n 0, 1) := by decide +kernel
theorem dX1_turn_11 : decode cX1_turn 11 = .ok (.aload_n 0, 1) := by decide +kernel
theorem dX1_turn_12 : decode cX1_turn 12 = .ok (.getfield 77, 3) := by decide +kernel
theorem dX1_turn_15 : decode cX1_turn 15 = .ok (.ldc2_w 87, 3) := by decide +kernel
theorem dX1_turn_18 : decode cX1_turn 18 = .ok (.aload_n 0, 1) := by decide +kernel
theorem dX1_turn_19 : decode cX1_turn 19 = .ok (.getfield 74, 3) := by decide +kernel
theorem dX1_turn_22 : decode cX1_turn 22 = .ok (.lmul, 1) := by decide +kernel
theorem dX1_turn_23 : decode cX1_turn 23 = .ok (.invokestatic 100, 3) := by decide +kernel
theorem dX1_turn_26 : decode cX1_turn 26 = .ok (.putfield 77, 3) := by decide +kernel
theorem dX1_turn_29 : decode cX1_turn 29 = .ok (.aload_n 0, 1) := by decide +kernel
theorem dX1_turn_30 : decode cX1_turn 30 = .ok (.aload_n 0, 1) := by decide +kernel
theorem dX1_turn_31 : decode cX1_turn 31 = .ok (.getfield 77, 3) := by decide +kernel
theorem dX1_turn_34 : decode cX1_turn 34 = .ok (.aload_n 0, 1) := by decide +kernel
theorem dX1_turn_35 : decode cX1_turn 35 = .ok (.getfield 74, 3) := by decide +kernel
theorem dX1_turn_38 : decode cX1_turn 38 = .ok (.lcmp, 1) := by decide +kernel
theorem dX1_turn_39 : decode cX1_turn 39 = .ok (.ifCond .le 19, 3) := by decide +kernel
theorem dX1_turn_42 : decode cX1_turn 42 = .ok (.aload_n 0, 1) := by decide +kernel
theorem dX1_turn_43 : decode cX1_turn 43 = .ok (.getfield 77, 3) := by decide +kernel
theorem dX1_turn_46 : decode cX1_turn 46 = .ok (.ldc2_w 87, 3) := by decide +kernel
theorem dX1_turn_49 : decode cX1_turn 49 = .ok (.aload_n 0, 1) := by decide +kernel
theorem dX1_turn_50 : decode cX1_turn 50 = .ok (.getfield 74, 3) := by decide +kernel
theorem dX1_turn_53 : decode cX1_turn 53 = .ok (.lmul, 1) := by decide +kernel
theorem dX1_turn_54 : decode cX1_turn 54 = .ok (.lsub, 1) := by decide +kernel
theorem dX1_turn_55 : decode cX1_turn 55 = .ok (.goto 7, 3) := by decide +kernel
theorem dX1_turn_58 : decode cX1_turn 58 = .ok (.aload_n 0, 1) := by decide +kernel
theorem dX1_turn_59 : decode cX1_turn 59 = .ok (.getfield 77, 3) := by decide +kernel
theorem dX1_turn_62 : decode cX1_turn 62 = .ok (.putfield 77, 3) := by decide +kernel
theorem dX1_turn_65 : decode cX1_turn 65 = .ok (.aload_n 0, 1) := by decide +kernel
theorem dX1_turn_66 : decode cX1_turn 66 = .ok (.aload_n 0, 1) := by decide +kernel
theorem dX1_turn_67 : decode cX1_turn 67 = .ok (.getfield 77, 3) := by decide +kernel
theorem dX1_turn_70 : decode cX1_turn 70 = .ok (.aload_n 0, 1) := by decide +kernel
theorem dX1_turn_71 : decode cX1_turn 71 = .ok (.getfield 77, 3) := by decide +kernel
theorem dX1_turn_74 : decode cX1_turn 74 = .ok (.lmul, 1) := by decide +kernel
theorem dX1_turn_75 : decode cX1_turn 75 = .ok (.aload_n 0, 1) := by decide +kernel
theorem dX1_turn_76 : decode cX1_turn 76 = .ok (.getfield 47, 3) := by decide +kernel
theorem dX1_turn_79 : decode cX1_turn 79 = .ok (.lsub, 1) := by decide +kernel
theorem dX1_turn_80 : decode cX1_turn 80 = .ok (.ldc2_w 72, 3) := by decide +kernel
theorem dX1_turn_83 : decode cX1_turn 83 = .ok (.aload_n 0, 1) := by decide +kernel
theorem dX1_turn_84 : decode cX1_turn 84 = .ok (.getfield 74, 3) := by decide +kernel
theorem dX1_turn_87 : decode cX1_turn 87 = .ok (.lmul, 1) := by decide +kernel
theorem dX1_turn_88 : decode cX1_turn 88 = .ok (.invokestatic 104, 3) := by decide +kernel
theorem dX1_turn_91 : decode cX1_turn 91 = .ok (.putfield 80, 3) := by decide +kernel
theorem dX1_turn_94 : decode cX1_turn 94 = .ok (.aload_n 0, 1) := by decide +kernel
theorem dX1_turn_95 : decode cX1_turn 95 = .ok (.getfield 74, 3) := by decide +kernel
theorem dX1_turn_98 : decode cX1_turn 98 = .ok (.aload_n 0, 1) := by decide +kernel
theorem dX1_turn_99 : decode cX1_turn 99 = .ok (.getfield 80, 3) := by decide +kernel
theorem dX1_turn_102 : decode cX1_turn 102 = .ok (.lcmp, 1) := by decide +kernel
theorem dX1_turn_103 : decode cX1_turn 103 = .ok (.ifCond .gt 24, 3) := by decide +kernel
theorem dX1_turn_106 : decode cX1_turn 106 = .ok (.aload_n 0, 1) := by decide +kernel
theorem dX1_turn_107 : decode cX1_turn 107 = .ok (.getfield 74, 3) := by decide +kernel
theorem dX1_turn_110 : decode cX1_turn 110 = .ok (.aload_n 0, 1) := by decide +kernel
theorem dX1_turn_111 : decode cX1_turn 111 = .ok (.getfield 80, 3) := by decide +kernel
theorem dX1_turn_114 : decode cX1_turn 114 = .ok (.lcmp, 1) := by decide +kernel
theorem dX1_turn_115 : decode cX1_turn 115 = .ok (.ifCond .ne 39, 3) := by decide +kernel
theorem dX1_turn_118 : decode cX1_turn 118 = .ok (.aload_n 0, 1) := by decide +kernel
theorem dX1_turn_119 : decode cX1_turn 119 = .ok (.getfield 77, 3) := by decide +kernel
theorem dX1_turn_122 : decode cX1_turn 122 = .ok (.lconst 0, 1) := by decide +kernel
theorem dX1_turn_123 : decode cX1_turn 123 = .ok (.lcmp, 1) := by decide +kernel
theorem dX1_turn_124 : decode cX1_turn 124 = .ok (.ifCond .ge 30, 3) := by decide +kernel
theorem dX1_turn_127 : decode cX1_turn 127 = .ok (.aload_n 0, 1) := by decide +kernel
theorem dX1_turn_128 : decode cX1_turn 128 = .ok (.getfield 74, 3) := by decide +kernel
theorem dX1_turn_131 : decode cX1_turn 131 = .ok (.lstore_n 1, 1) := by decide +kernel
theorem dX1_turn_132 : decode cX1_turn 132 = .ok (.aload_n 0, 1) := by decide +kernel
theorem dX1_turn_133 : decode cX1_turn 133 = .ok (.aload_n 0, 1) := by decide +kernel
theorem dX1_turn_134 : decode cX1_turn 134 = .ok (.getfield 80, 3) := by decide +kernel
theorem dX1_turn_137 : decode cX1_turn 137 = .ok (.putfield 74, 3) := by decide +kernel
theorem dX1_turn_140 : decode cX1_turn 140 = .ok (.aload_n 0, 1) := by decide +kernel
theorem dX1_turn_141 : decode cX1_turn 141 = .ok (.aload_n 0, 1) := by decide +kernel
theorem dX1_turn_142 : decode cX1_turn 142 = .ok (.getfield 77, 3) := by decide +kernel
theorem dX1_turn_145 : decode cX1_turn 145 = .ok (.lneg, 1) := by decide +kernel
theorem dX1_turn_146 : decode cX1_turn 146 = .ok (.putfield 77, 3) := by decide +kernel
theorem dX1_turn_149 : decode cX1_turn 149 = .ok (.aload_n 0, 1) := by decide +kernel
theorem dX1_turn_150 : decode cX1_turn 150 = .ok (.lload_n 1, 1) := by decide +kernel
theorem dX1_turn_151 : decode cX1_turn 151 = .ok (.putfield 80, 3) := by decide +kernel
theorem dX1_turn_154 : decode cX1_turn 154 = .ok (.return_, 1) := by decide +kernel
theorem bX1_turn_0 {l : Launch} {D : va_G} {aI aL : ClassId} {ad : Nat → Nat} {P : sa_P} {I : sa_I} {J : sa_J}    (kt : (0 : Int64) < J 27 11 → Sat (EC l D aI aL ad) M_X1_turn P 10 [(0, .ref (ad 27))] [] I J) (kf : ¬ (0 : Int64) < J 27 11 → Sat (EC l D aI aL ad) M_X1_turn P 9 [] [] I J) : Sat (EC l D aI aL ad) M_X1_turn P 0 [(0, .ref (ad 27))] [] I J := by
  refine s_aload_n 0 dX1_turn_0 rfl ?_
  refine g_X1_74 dX1_turn_1 rfl ?_
  refine s_lconst (v := 0) dX1_turn_4 rfl ?_
  refine s_lif_gt (tgt := 10) dX1_turn_5 dX1_turn_6 (by decide) (fun c => ?_) (fun c => ?_)
  · exact kt c
  · refine s_pick [] [] rfl ?_; exact kf c
theorem bX1_turn_9 {l : Launch} {D : va_G} {aI aL : ClassId} {ad : Nat → Nat} {P : sa_P} {I : sa_I} {J : sa_J}    (k : P (none) I J) : Sat (EC l D aI aL ad) M_X1_turn P 9 [] [] I J := by
  exact s_vret rfl dX1_turn_9 k
theorem bX1_turn_10 {l : Launch} {D : va_G} {aI aL : ClassId} {ad : Nat → Nat} {P : sa_P} {I : sa_I} {J : sa_J}    (k : Sat (EC l D aI aL ad) M_X1_turn P 23 [(0, .ref (ad 27))] [.long ((2 : Int64) * (J 27 11)), .long (J 27 12), .ref (ad 27)] I J) : Sat (EC l D aI aL ad) M_X1_turn P 10 [(0, .ref (ad 27))] [] I J := by
  refine s_aload_n 0 dX1_turn_10 rfl ?_
  refine s_aload_n 0 dX1_turn_11 rfl ?_
  refine g_X1_77 dX1_turn_12 rfl ?_
  refine s_ldc2 wk_X1_87 dX1_turn_15 ?_
  refine s_aload_n 0 dX1_turn_18 rfl ?_
  refine g_X1_74 dX1_turn_19 rfl ?_
  refine s_lmul dX1_turn_22 ?_
  exact k
theorem bX1_turn_26 {l : Launch} {D : va_G} {aI aL : ClassId} {ad : Nat → Nat} {P : sa_P} {I : sa_I} {J : sa_J} {s1 : Int64}   (kt : (sa_uJ J 27 12 s1) 27 12 ≤ (sa_uJ J 27 12 s1) 27 11 → Sat (EC l D aI aL ad) M_X1_turn P 58 [(0, .ref (ad 27))] [.ref (ad 27)] I (sa_uJ J 27 12 s1)) (kf : ¬ (sa_uJ J 27 12 s1) 27 12 ≤ (sa_uJ J 27 12 s1) 27 11 → Sat (EC l D aI aL ad) M_X1_turn P 42 [(0, .ref (ad 27))] [.ref (ad 27)] I (sa_uJ J 27 12 s1)) : Sat (EC l D aI aL ad) M_X1_turn P 26 [(0, .ref (ad 27))] [.long s1, .ref (ad 27)] I J := by
  refine p_X1_77 dX1_turn_26 rfl ?_
  refine s_aload_n 0 dX1_turn_29 rfl ?_
  refine s_aload_n 0 dX1_turn_30 rfl ?_
  refine g_X1_77 dX1_turn_31 rfl ?_
  refine s_aload_n 0 dX1_turn_34 rfl ?_
  refine g_X1_74 dX1_turn_35 rfl ?_
  refine s_lif_le (tgt := 58) dX1_turn_38 dX1_turn_39 (by decide) (fun c => ?_) (fun c => ?_)
  · exact kt c
  · exact kf c
theorem bX1_turn_42 {l : Launch} {D : va_G} {aI aL : ClassId} {ad : Nat → Nat} {P : sa_P} {I : sa_I} {J : sa_J}    (k : Sat (EC l D aI aL ad) M_X1_turn P 62 [(0, .ref (ad 27))] [.long ((J 27 12) - ((2 : Int64) * (J 27 11))), .ref (ad 27)] I J) : Sat (EC l D aI aL ad) M_X1_turn P 42 [(0, .ref (ad 27))] [.ref (ad 27)] I J := by
  refine s_aload_n 0 dX1_turn_42 rfl ?_
  refine g_X1_77 dX1_turn_43 rfl ?_
  refine s_ldc2 wk_X1_87 dX1_turn_46 ?_
  refine s_aload_n 0 dX1_turn_49 rfl ?_
  refine g_X1_74 dX1_turn_50 rfl ?_
  refine s_lmul dX1_turn_53 ?_
  refine s_lsub dX1_turn_54 ?_
  refine s_goto (tgt := 62) dX1_turn_55 (by decide) ?_
  exact k
theorem bX1_turn_58 {l : Launch} {D : va_G} {aI aL : ClassId} {ad : Nat → Nat} {P : sa_P} {I : sa_I} {J : sa_J}    (k : Sat (EC l D aI aL ad) M_X1_turn P 62 [(0, .ref (ad 27))] [.long (J 27 12), .ref (ad 27)] I J) : Sat (EC l D aI aL ad) M_X1_turn P 58 [(0, .ref (ad 27))] [.ref (ad 27)] I J := by
  refine s_aload_n 0 dX1_turn_58 rfl ?_
  refine g_X1_77 dX1_turn_59 rfl ?_
  exact k
theorem bX1_turn_62 {l : Launch} {D : va_G} {aI aL : ClassId} {ad : Nat → Nat} {P : sa_P} {I : sa_I} {J : sa_J} {s1 : Int64}   (k : Sat (EC l D aI aL ad) M_X1_turn P 88 [(0, .ref (ad 27))] [.long ((4 : Int64) * ((sa_uJ J 27 12 s1) 27 11)), .long ((((sa_uJ J 27 12 s1) 27 12) * ((sa_uJ J 27 12 s1) 27 12)) - ((sa_uJ J 27 12 s1) 27 9)), .ref (ad 27)] I (sa_uJ J 27 12 s1)) : Sat (EC l D aI aL ad) M_X1_turn P 62 [(0, .ref (ad 27))] [.long s1, .ref (ad 27)] I J := by
  refine p_X1_77 dX1_turn_62 rfl ?_
  refine s_aload_n 0 dX1_turn_65 rfl ?_
  refine s_aload_n 0 dX1_turn_66 rfl ?_
  refine g_X1_77 dX1_turn_67 rfl ?_
  refine s_aload_n 0 dX1_turn_70 rfl ?_
  refine g_X1_77 dX1_turn_71 rfl ?_
  refine s_lmul dX1_turn_74 ?_
  refine s_aload_n 0 dX1_turn_75 rfl ?_
  refine g_X1_47 dX1_turn_76 rfl ?_
  refine s_lsub dX1_turn_79 ?_
  refine s_ldc2 wk_X1_72 dX1_turn_80 ?_
  refine s_aload_n 0 dX1_turn_83 rfl ?_
  refine g_X1_74 dX1_turn_84 rfl ?_
  refine s_lmul dX1_turn_87 ?_
  exact k
theorem bX1_turn_91 {l : Launch} {D : va_G} {aI aL : ClassId} {ad : Nat → Nat} {P : sa_P} {I : sa_I} {J : sa_J} {s1 : Int64}   (kt : (sa_uJ J 27 13 s1) 27 13 < (sa_uJ J 27 13 s1) 27 11 → Sat (EC l D aI aL ad) M_X1_turn P 127 [(0, .ref (ad 27))] [] I (sa_uJ J 27 13 s1)) (kf : ¬ (sa_uJ J 27 13 s1) 27 13 < (sa_uJ J 27 13 s1) 27 11 → Sat (EC l D aI aL ad) M_X1_turn P 106 [(0, .ref (ad 27))] [] I (sa_uJ J 27 13 s1)) : Sat (EC l D aI aL ad) M_X1_turn P 91 [(0, .ref (ad 27))] [.long s1, .ref (ad 27)] I J := by
  refine p_X1_80 dX1_turn_91 rfl ?_
  refine s_aload_n 0 dX1_turn_94 rfl ?_
  refine g_X1_74 dX1_turn_95 rfl ?_
  refine s_aload_n 0 dX1_turn_98 rfl ?_
  refine g_X1_80 dX1_turn_99 rfl ?_
  refine s_lif_gt (tgt := 127) dX1_turn_102 dX1_turn_103 (by decide) (fun c => ?_) (fun c => ?_)
  · exact kt c
  · exact kf c
theorem bX1_turn_106 {l : Launch} {D : va_G} {aI aL : ClassId} {ad : Nat → Nat} {P : sa_P} {I : sa_I} {J : sa_J}    (kt : ¬ J 27 11 = J 27 13 → Sat (EC l D aI aL ad) M_X1_turn P 154 [] [] I J) (kf : J 27 11 = J 27 13 → Sat (EC l D aI aL ad) M_X1_turn P 118 [(0, .ref (ad 27))] [] I J) : Sat (EC l D aI aL ad) M_X1_turn P 106 [(0, .ref (ad 27))] [] I J := by
  refine s_aload_n 0 dX1_turn_106 rfl ?_
  refine g_X1_74 dX1_turn_107 rfl ?_
  refine s_aload_n 0 dX1_turn_110 rfl ?_
  refine g_X1_80 dX1_turn_111 rfl ?_
  refine s_lif_ne (tgt := 154) dX1_turn_114 dX1_turn_115 (by decide) (fun c => ?_) (fun c => ?_)
  · refine s_pick [] [] rfl ?_; exact kt c
  · exact kf (by first | exact c | exact Classical.not_not.mp c)
theorem bX1_turn_118 {l : Launch} {D : va_G} {aI aL : ClassId} {ad : Nat → Nat} {P : sa_P} {I : sa_I} {J : sa_J}    (kt : (0 : Int64) ≤ J 27 12 → Sat (EC l D aI aL ad) M_X1_turn P 154 [] [] I J) (kf : ¬ (0 : Int64) ≤ J 27 12 → Sat (EC l D aI aL ad) M_X1_turn P 127 [(0, .ref (ad 27))] [] I J) : Sat (EC l D aI aL ad) M_X1_turn P 118 [(0, .ref (ad 27))] [] I J := by
  refine s_aload_n 0 dX1_turn_118 rfl ?_
  refine g_X1_77 dX1_turn_119 rfl ?_
  refine s_lconst (v := 0) dX1_turn_122 rfl ?_
  refine s_lif_ge (tgt := 154) dX1_turn_123 dX1_turn_124 (by decide) (fun c => ?_) (fun c => ?_)
  · refine s_pick [] [] rfl ?_; exact kt c
  · exact kf c
theorem bX1_turn_127 {l : Launch} {D : va_G} {aI aL : ClassId} {ad : Nat → Nat} {P : sa_P} {I : sa_I} {J : sa_J} {v131 : Int64} {v137 : Int64} {v146 : Int64}  (f131 : J 27 11 = v131) (f137 : J 27 13 = v137) (f146 : -((sa_uJ J 27 11 v137) 27 12) = v146) (k : Sat (EC l D aI aL ad) M_X1_turn P 154 [] [] I (sa_uJ (sa_uJ (sa_uJ J 27 11 v137) 27 12 v146) 27 13 v131)) : Sat (EC l D aI aL ad) M_X1_turn P 127 [(0, .ref (ad 27))] [] I J := by
  refine s_aload_n 0 dX1_turn_127 rfl ?_
  refine g_X1_74 dX1_turn_128 rfl ?_
  refine s_eql f131 ?_
  refine s_lstore_n [(1, .long v131), (0, .ref (ad 27))] dX1_turn_131 (Nat.lt_of_lt_of_le (Nat.lt_succ_self _) (Nat.le_of_ble_eq_true rfl)) rfl ?_
  refine s_aload_n 1 dX1_turn_132 rfl ?_
  refine s_aload_n 1 dX1_turn_133 rfl ?_
  refine g_X1_80 dX1_turn_134 rfl ?_
  refine s_eql f137 ?_
  refine p_X1_74 dX1_turn_137 rfl ?_
  refine s_aload_n 1 dX1_turn_140 rfl ?_
  refine s_aload_n 1 dX1_turn_141 rfl ?_
  refine g_X1_77 dX1_turn_142 rfl ?_
  refine s_lneg dX1_turn_145 ?_
  refine s_eql f146 ?_
  refine p_X1_77 dX1_turn_146 rfl ?_
  refine s_aload_n 1 dX1_turn_149 rfl ?_
  refine s_lload_n 0 dX1_turn_150 rfl ?_
  refine p_X1_80 dX1_turn_151 rfl ?_
  refine s_pick [] [] rfl ?_; exact k
theorem bX1_turn_154 {l : Launch} {D : va_G} {aI aL : ClassId} {ad : Nat → Nat} {P : sa_P} {I : sa_I} {J : sa_J}    (k : P (none) I J) : Sat (EC l D aI aL ad) M_X1_turn P 154 [] [] I J := by
  exact s_vret rfl dX1_turn_154 k
/-! X1_classOfForm -/
theorem dX1_classOfForm_0 : decode cX1_classOfForm 0 = .ok (.aload_n 0, 1) := by decide +kernel
theorem dX1_classOfForm_1 : decode cX1_classOfForm 1 = .ok (.invokevirtual 117, 3) := by decide +kernel
theorem dX1_classOfForm_4 : decode cX1_classOfForm 4 = .ok (.aload_n 0, 1) := by decide +kernel
theorem dX1_classOfForm_5 : decode cX1_classOfForm 5 = .ok (.invokevirtual 96, 3) := by decide +kernel
theorem dX1_classOfForm_8 : decode cX1_classOfForm 8 = .ok (.istore_n 1, 1) := by decide +kernel
theorem dX1_classOfForm_9 : decode cX1_classOfForm 9 = .ok (.aload_n 0, 1) := by decide +kernel
theorem dX1_classOfForm_10 : decode cX1_classOfForm 10 = .ok (.getfield 47, 3) := by decide +kernel
theorem dX1_classOfForm_13 : decode cX1_classOfForm 13 = .ok (.lconst 0, 1) := by decide +kernel
theorem dX1_classOfForm_14 : decode cX1_classOfForm 14 = .ok (.lcmp, 1) := by decide +kernel
theorem dX1_classOfForm_15 : decode cX1_classOfForm 15 = .ok (.ifCond .le 16, 3) := by decide +kernel
theorem dX1_classOfForm_18 : decode cX1_classOfForm 18 = .ok (.iload_n 1, 1) := by decide +kernel
theorem dX1_classOfForm_19 : decode cX1_classOfForm 19 = .ok (.ifCond .lt 12, 3) := by decide +kernel
theorem dX1_classOfForm_22 : decode cX1_classOfForm 22 = .ok (.aload_n 0, 1) := by decide +kernel
theorem dX1_classOfForm_23 : decode cX1_classOfForm 23 = .ok (.getfield 15, 3) := by decide +kernel
theorem dX1_classOfForm_26 : decode cX1_classOfForm 26 = .ok (.iload_n 1, 1) := by decide +kernel
theorem dX1_classOfForm_27 : decode cX1_classOfForm 27 = .ok (.iaload, 1) := by decide +kernel
theorem dX1_classOfForm_28 : decode cX1_classOfForm 28 = .ok (.goto 4, 3) := by decide +kernel
theorem dX1_classOfForm_31 : decode cX1_classOfForm 31 = .ok (.iload_n 1, 1) := by decide +kernel
theorem dX1_classOfForm_32 : decode cX1_classOfForm 32 = .ok (.ireturn, 1) := by decide +kernel
theorem bX1_classOfForm_0 {l : Launch} {D : va_G} {aI aL : ClassId} {ad : Nat → Nat} {P : sa_P} {I : sa_I} {J : sa_J}    (k : Sat (EC l D aI aL ad) M_X1_classOfForm P 1 [(0, .ref (ad 27))] [.ref (ad 27)] I J) : Sat (EC l D aI aL ad) M_X1_classOfForm P 0 [(0, .ref (ad 27))] [] I J := by
  refine s_aload_n 0 dX1_classOfForm_0 rfl ?_
  exact k
theorem bX1_classOfForm_4 {l : Launch} {D : va_G} {aI aL : ClassId} {ad : Nat → Nat} {P : sa_P} {I : sa_I} {J : sa_J}    (k : Sat (EC l D aI aL ad) M_X1_classOfForm P 5 [(0, .ref (ad 27))] [.ref (ad 27)] I J) : Sat (EC l D aI aL ad) M_X1_classOfForm P 4 [(0, .ref (ad 27))] [] I J := by
  refine s_aload_n 0 dX1_classOfForm_4 rfl ?_
  exact k
theorem bX1_classOfForm_8 {l : Launch} {D : va_G} {aI aL : ClassId} {ad : Nat → Nat} {P : sa_P} {I : sa_I} {J : sa_J} {s0 : Int32}   (kt : J 27 9 ≤ (0 : Int64) → Sat (EC l D aI aL ad) M_X1_classOfForm P 31 [(1, .int s0)] [] I J) (kf : ¬ J 27 9 ≤ (0 : Int64) → Sat (EC l D aI aL ad) M_X1_classOfForm P 18 [(0, .ref (ad 27)), (1, .int s0)] [] I J) : Sat (EC l D aI aL ad) M_X1_classOfForm P 8 [(0, .ref (ad 27))] [.int s0] I J := by
  refine s_istore_n [(1, .int s0), (0, .ref (ad 27))] dX1_classOfForm_8 (Nat.lt_of_lt_of_le (Nat.lt_succ_self _) (Nat.le_of_ble_eq_true rfl)) rfl ?_
  refine s_aload_n 1 dX1_classOfForm_9 rfl ?_
  refine g_X1_47 dX1_classOfForm_10 rfl ?_
  refine s_lconst (v := 0) dX1_classOfForm_13 rfl ?_
  refine s_lif_le (tgt := 31) dX1_classOfForm_14 dX1_classOfForm_15 (by decide) (fun c => ?_) (fun c => ?_)
  · refine s_pick [0] [(1, .int s0)] rfl ?_; exact kt c
  · refine s_pick [1, 0] [(0, .ref (ad 27)), (1, .int s0)] rfl ?_; exact kf c
theorem bX1_classOfForm_18 {l : Launch} {D : va_G} {aI aL : ClassId} {ad : Nat → Nat} {P : sa_P} {I : sa_I} {J : sa_J} {x1 : Int32}   (kt : x1 < 0 → Sat (EC l D aI aL ad) M_X1_classOfForm P 31 [(1, .int x1)] [] I J) (kf : ¬ x1 < 0 → Sat (EC l D aI aL ad) M_X1_classOfForm P 22 [(0, .ref (ad 27)), (1, .int x1)] [] I J) : Sat (EC l D aI aL ad) M_X1_classOfForm P 18 [(0, .ref (ad 27)), (1, .int x1)] [] I J := by
  refine s_iload_n 1 dX1_classOfForm_18 rfl ?_
  refine s_if_lt (tgt := 31) dX1_classOfForm_19 (by decide) (fun c => ?_) (fun c => ?_)
  · refine s_pick [1] [(1, .int x1)] rfl ?_; exact kt c
  · exact kf c
theorem bX1_classOfForm_22 {l : Launch} {D : va_G} {aI aL : ClassId} {ad : Nat → Nat} {P : sa_P} {I : sa_I} {J : sa_J} {x1 : Int32} {j26 : Nat} (e26 : x1 = nI j26) (h27 : j26 < 160)  (k : Sat (EC l D aI aL ad) M_X1_classOfForm P 32 [] [.int (I 29 j26)] I J) : Sat (EC l D aI aL ad) M_X1_classOfForm P 22 [(0, .ref (ad 27)), (1, .int x1)] [] I J := by
  refine s_aload_n 0 dX1_classOfForm_22 rfl ?_
  refine g_X1_15 dX1_classOfForm_23 rfl ?_
  refine s_iload_n 1 dX1_classOfForm_26 rfl ?_
  refine s_eqi e26 ?_
  refine s_ialoadN aI_C29 h27 (by decide) dX1_classOfForm_27 ?_
  refine s_goto (tgt := 32) dX1_classOfForm_28 (by decide) ?_
  refine s_pick [] [] rfl ?_; exact k
theorem bX1_classOfForm_31 {l : Launch} {D : va_G} {aI aL : ClassId} {ad : Nat → Nat} {P : sa_P} {I : sa_I} {J : sa_J} {x1 : Int32}   (k : Sat (EC l D aI aL ad) M_X1_classOfForm P 32 [] [.int x1] I J) : Sat (EC l D aI aL ad) M_X1_classOfForm P 31 [(1, .int x1)] [] I J := by
  refine s_iload_n 0 dX1_classOfForm_31 rfl ?_
  refine s_pick [] [] rfl ?_; exact k
theorem bX1_classOfForm_32 {l : Launch} {D : va_G} {aI aL : ClassId} {ad : Nat → Nat} {P : sa_P} {I : sa_I} {J : sa_J} {s0 : Int32}   (k : P (some (.int s0)) I J) : Sat (EC l D aI aL ad) M_X1_classOfForm P 32 [] [.int s0] I J := by
  exact s_iret rfl dX1_classOfForm_32 k
/-! X1_classOfRows -/
theorem dX1_classOfRows_0 : decode cX1_classOfRows 0 = .ok (.aload_n 0, 1) := by decide +kernel
theorem dX1_classOfRows_1 : decode cX1_classOfRows 1 = .ok (.aload_n 1, 1) := by decide +kernel
theorem dX1_classOfRows_2 : decode cX1_classOfRows 2 = .ok (.iload_n 2, 1) := by decide +kernel
theorem dX1_classOfRows_3 : decode cX1_classOfRows 3 = .ok (.invokevirtual 120, 3) := by decide +kernel
theorem dX1_classOfRows_6 : decode cX1_classOfRows 6 = .ok (.aload_n 0, 1) := by decide +kernel
theorem dX1_classOfRows_7 : decode cX1_classOfRows 7 = .ok (.invokevirtual 124, 3) := by decide +kernel
theorem dX1_classOfRows_10 : decode cX1_classOfRows 10 = .ok (.ireturn, 1) := by decide +kernel
theorem bX1_classOfRows_0 {l : Launch} {D : va_G} {aI aL : ClassId} {ad : Nat → Nat} {P : sa_P} {I : sa_I} {J : sa_J} {a1 q1 n1 : Nat} {x2 : Int32} (hq1 : sa_iJ (EC l D aI aL ad) a1 q1 n1) (hn1 : n1 < 2 ^ 31)  (k : Sat (EC l D aI aL ad) M_X1_classOfRows P 3 [(0, .ref (ad 27))] [.int x2, .ref a1, .ref (ad 27)] I J) : Sat (EC l D aI aL ad) M_X1_classOfRows P 0 [(0, .ref (ad 27)), (1, .ref a1), (2, .int x2)] [] I J := by
  refine s_aload_n 0 dX1_classOfRows_0 rfl ?_
  refine s_aload_n 1 dX1_classOfRows_1 rfl ?_
  refine s_iload_n 2 dX1_classOfRows_2 rfl ?_
  refine s_pick [0] [(0, .ref (ad 27))] rfl ?_; exact k
theorem bX1_classOfRows_6 {l : Launch} {D : va_G} {aI aL : ClassId} {ad : Nat → Nat} {P : sa_P} {I : sa_I} {J : sa_J}    (k : Sat (EC l D aI aL ad) M_X1_classOfRows P 7 [] [.ref (ad 27)] I J) : Sat (EC l D aI aL ad) M_X1_classOfRows P 6 [(0, .ref (ad 27))] [] I J := by
  refine s_aload_n 0 dX1_classOfRows_6 rfl ?_
  refine s_pick [] [] rfl ?_; exact k
theorem bX1_classOfRows_10 {l : Launch} {D : va_G} {aI aL : ClassId} {ad : Nat → Nat} {P : sa_P} {I : sa_I} {J : sa_J} {s0 : Int32}   (k : P (some (.int s0)) I J) : Sat (EC l D aI aL ad) M_X1_classOfRows P 10 [] [.int s0] I J := by
  exact s_iret rfl dX1_classOfRows_10 k
/-! X1_orderOfRows -/
theorem dX1_orderOfRows_0 : decode cX1_orderOfRows 0 = .ok (.aload_n 0, 1) := by decide +kernel
theorem dX1_orderOfRows_1 : decode cX1_orderOfRows 1 = .ok (.getfield 29, 3) := by decide +kernel
theorem dX1_orderOfRows_4 : decode cX1_orderOfRows 4 = .ok (.getfield 127, 3) := by decide +kernel
theorem dX1_orderOfRows_7 : decode cX1_orderOfRows 7 = .ok (.iconst 2, 1) := by decide +kernel
theorem dX1_orderOfRows_8 : decode cX1_orderOfRows 8 = .ok (.lconst 1, 1) := by decide +kernel
theorem dX1_orderOfRows_9 : decode cX1_orderOfRows 9 = .ok (.invokevirtual 133, 3) := by decide +kernel
theorem dX1_orderOfRows_12 : decode cX1_orderOfRows 12 = .ok (.aload_n 0, 1) := by decide +kernel
theorem dX1_orderOfRows_13 : decode cX1_orderOfRows 13 = .ok (.aload_n 0, 1) := by decide +kernel
theorem dX1_orderOfRows_14 : decode cX1_orderOfRows 14 = .ok (.getfield 29, 3) := by decide +kernel
theorem dX1_orderOfRows_17 : decode cX1_orderOfRows 17 = .ok (.getfield 127, 3) := by decide +kernel
theorem dX1_orderOfRows_20 : decode cX1_orderOfRows 20 = .ok (.getfield 139, 3) := by decide +kernel
theorem dX1_orderOfRows_23 : decode cX1_orderOfRows 23 = .ok (.iconst 0, 1) := by decide +kernel
theorem dX1_orderOfRows_24 : decode cX1_orderOfRows 24 = .ok (.invokevirtual 142, 3) := by decide +kernel
theorem dX1_orderOfRows_27 : decode cX1_orderOfRows 27 = .ok (.istore_n 3, 1) := by decide +kernel
theorem dX1_orderOfRows_28 : decode cX1_orderOfRows 28 = .ok (.aload_n 0, 1) := by decide +kernel
theorem dX1_orderOfRows_29 : decode cX1_orderOfRows 29 = .ok (.aload_n 1, 1) := by decide +kernel
theorem dX1_orderOfRows_30 : decode cX1_orderOfRows 30 = .ok (.iload_n 2, 1) := by decide +kernel
theorem dX1_orderOfRows_31 : decode cX1_orderOfRows 31 = .ok (.invokevirtual 142, 3) := by decide +kernel
theorem dX1_orderOfRows_34 : decode cX1_orderOfRows 34 = .ok (.istore 4, 2) := by decide +kernel
theorem dX1_orderOfRows_36 : decode cX1_orderOfRows 36 = .ok (.aload_n 0, 1) := by decide +kernel
theorem dX1_orderOfRows_37 : decode cX1_orderOfRows 37 = .ok (.aload_n 0, 1) := by decide +kernel
theorem dX1_orderOfRows_38 : decode cX1_orderOfRows 38 = .ok (.getfield 18, 3) := by decide +kernel
theorem dX1_orderOfRows_41 : decode cX1_orderOfRows 41 = .ok (.invokevirtual 146, 3) := by decide +kernel
theorem dX1_orderOfRows_44 : decode cX1_orderOfRows 44 = .ok (.aload_n 0, 1) := by decide +kernel
theorem dX1_orderOfRows_45 : decode cX1_orderOfRows 45 = .ok (.getfield 18, 3) := by decide +kernel
theorem dX1_orderOfRows_48 : decode cX1_orderOfRows 48 = .ok (.iconst 0, 1) := by decide +kernel
theorem dX1_orderOfRows_49 : decode cX1_orderOfRows 49 = .ok (.aload_n 0, 1) := by decide +kernel
theorem dX1_orderOfRows_50 : decode cX1_orderOfRows 50 = .ok (.getfield 22, 3) := by decide +kernel
theorem dX1_orderOfRows_53 : decode cX1_orderOfRows 53 = .ok (.iconst 0, 1) := by decide +kernel
theorem dX1_orderOfRows_54 : decode cX1_orderOfRows 54 = .ok (.bipush 9, 2) := by decide +kernel
theorem dX1_orderOfRows_56 : decode cX1_orderOfRows 56 = .ok (.invokestatic 150, 3) := by decide +kernel
theorem dX1_orderOfRows_59 : decode cX1_orderOfRows 59 = .ok (.iconst 1, 1) := by decide +kernel
theorem dX1_orderOfRows_60 : decode cX1_orderOfRows 60 = .ok (.istore 5, 2) := by decide +kernel
theorem dX1_orderOfRows_62 : decode cX1_orderOfRows 62 = .ok (.iload 5, 2) := by decide +kernel
theorem dX1_orderOfRows_64 : decode cX1_orderOfRows 64 = .ok (.sipush 160, 3) := by decide +kernel
theorem dX1_orderOfRows_67 : decode cX1_orderOfRows 67 = .ok (.if_icmp .gt 57, 3) := by decide +kernel
theorem dX1_orderOfRows_70 : decode cX1_orderOfRows 70 = .ok (.iload 4, 2) := by decide +kernel
theorem dX1_orderOfRows_72 : decode cX1_orderOfRows 72 = .ok (.iload_n 3, 1) := by decide +kernel
theorem dX1_orderOfRows_73 : decode cX1_orderOfRows 73 = .ok (.if_icmp .eq 51, 3) := by decide +kernel
theorem dX1_orderOfRows_76 : decode cX1_orderOfRows 76 = .ok (.aload_n 0, 1) := by decide +kernel
theorem dX1_orderOfRows_77 : decode cX1_orderOfRows 77 = .ok (.getfield 29, 3) := by decide +kernel
theorem dX1_orderOfRows_80 : decode cX1_orderOfRows 80 = .ok (.aload_n 0, 1) := by decide +kernel
theorem dX1_orderOfRows_81 : decode cX1_orderOfRows 81 = .ok (.getfield 22, 3) := by decide +kernel
theorem dX1_orderOfRows_84 : decode cX1_orderOfRows 84 = .ok (.iconst 0, 1) := by decide +kernel
theorem dX1_orderOfRows_85 : decode cX1_orderOfRows 85 = .ok (.aload_n 0, 1) := by decide +kernel
theorem dX1_orderOfRows_86 : decode cX1_orderOfRows 86 = .ok (.getfield 18, 3) := by decide +kernel
theorem dX1_orderOfRows_89 : decode cX1_orderOfRows 89 = .ok (.iconst 0, 1) := by decide +kernel
theorem dX1_orderOfRows_90 : decode cX1_orderOfRows 90 = .ok (.invokevirtual 156, 3) := by decide +kernel
theorem dX1_orderOfRows_93 : decode cX1_orderOfRows 93 = .ok (.aload_n 0, 1) := by decide +kernel
theorem dX1_orderOfRows_94 : decode cX1_orderOfRows 94 = .ok (.aload_n 0, 1) := by decide +kernel
theorem dX1_orderOfRows_95 : decode cX1_orderOfRows 95 = .ok (.getfield 29, 3) := by decide +kernel
theorem dX1_orderOfRows_98 : decode cX1_orderOfRows 98 = .ok (.getfield 127, 3) := by decide +kernel
theorem dX1_orderOfRows_101 : decode cX1_orderOfRows 101 = .ok (.getfield 139, 3) := by decide +kernel
theorem dX1_orderOfRows_104 : decode cX1_orderOfRows 104 = .ok (.iconst 0, 1) := by decide +kernel
theorem dX1_orderOfRows_105 : decode cX1_orderOfRows 105 = .ok (.invokevirtual 142, 3) := by decide +kernel
theorem dX1_orderOfRows_108 : decode cX1_orderOfRows 108 = .ok (.istore 4, 2) := by decide +kernel
theorem dX1_orderOfRows_110 : decode cX1_orderOfRows 110 = .ok (.aload_n 0, 1) := by decide +kernel
theorem dX1_orderOfRows_111 : decode cX1_orderOfRows 111 = .ok (.aload_n 0, 1) := by decide +kernel
theorem dX1_orderOfRows_112 : decode cX1_orderOfRows 112 = .ok (.getfield 22, 3) := by decide +kernel
theorem dX1_orderOfRows_115 : decode cX1_orderOfRows 115 = .ok (.invokevirtual 146, 3) := by decide +kernel
theorem dX1_orderOfRows_118 : decode cX1_orderOfRows 118 = .ok (.iinc 5 1, 3) := by decide +kernel
theorem dX1_orderOfRows_121 : decode cX1_orderOfRows 121 = .ok (.goto (-59), 3) := by decide +kernel
theorem dX1_orderOfRows_124 : decode cX1_orderOfRows 124 = .ok (.iload 5, 2) := by decide +kernel
theorem dX1_orderOfRows_126 : decode cX1_orderOfRows 126 = .ok (.ireturn, 1) := by decide +kernel
theorem bX1_orderOfRows_0 {l : Launch} {D : va_G} {aI aL : ClassId} {ad : Nat → Nat} {P : sa_P} {I : sa_I} {J : sa_J} {a1 q1 n1 : Nat} {x2 : Int32} (hq1 : sa_iJ (EC l D aI aL ad) a1 q1 n1) (hn1 : n1 < 2 ^ 31)  (k : Sat (EC l D aI aL ad) M_X1_orderOfRows P 9 [(0, .ref (ad 27)), (1, .ref a1), (2, .int x2)] [.long (1 : Int64), .int (2 : Int32), .ref (ad 14)] I J) : Sat (EC l D aI aL ad) M_X1_orderOfRows P 0 [(0, .ref (ad 27)), (1, .ref a1), (2, .int x2)] [] I J := by
  refine s_aload_n 0 dX1_orderOfRows_0 rfl ?_
  refine g_X1_29 dX1_orderOfRows_1 rfl ?_
  refine g_X1_127 dX1_orderOfRows_4 rfl ?_
  refine s_iconst (v := 2) dX1_orderOfRows_7 rfl ?_
  refine s_lconst (v := 1) dX1_orderOfRows_8 rfl ?_
  exact k
theorem bX1_orderOfRows_12 {l : Launch} {D : va_G} {aI aL : ClassId} {ad : Nat → Nat} {P : sa_P} {I : sa_I} {J : sa_J} {a1 q1 n1 : Nat} {x2 : Int32} (hq1 : sa_iJ (EC l D aI aL ad) a1 q1 n1) (hn1 : n1 < 2 ^ 31)  (k : Sat (EC l D aI aL ad) M_X1_orderOfRows P 24 [(0, .ref (ad 27)), (1, .ref a1), (2, .int x2)] [.int (0 : Int32), .ref (ad 15), .ref (ad 27)] I J) : Sat (EC l D aI aL ad) M_X1_orderOfRows P 12 [(0, .ref (ad 27)), (1, .ref a1), (2, .int x2)] [] I J := by
  refine s_aload_n 0 dX1_orderOfRows_12 rfl ?_
  refine s_aload_n 0 dX1_orderOfRows_13 rfl ?_
  refine g_X1_29 dX1_orderOfRows_14 rfl ?_
  refine g_X1_127 dX1_orderOfRows_17 rfl ?_
  refine g_X1_139 dX1_orderOfRows_20 rfl ?_
  refine s_iconst (v := 0) dX1_orderOfRows_23 rfl ?_
  exact k
theorem bX1_orderOfRows_27 {l : Launch} {D : va_G} {aI aL : ClassId} {ad : Nat → Nat} {P : sa_P} {I : sa_I} {J : sa_J} {a1 q1 n1 : Nat} {x2 : Int32} {s0 : Int32} (hq1 : sa_iJ (EC l D aI aL ad) a1 q1 n1) (hn1 : n1 < 2 ^ 31)  (k : Sat (EC l D aI aL ad) M_X1_orderOfRows P 31 [(0, .ref (ad 27)), (3, .int s0)] [.int x2, .ref a1, .ref (ad 27)] I J) : Sat (EC l D aI aL ad) M_X1_orderOfRows P 27 [(0, .ref (ad 27)), (1, .ref a1), (2, .int x2)] [.int s0] I J := by
  refine s_istore_n [(3, .int s0), (0, .ref (ad 27)), (1, .ref a1), (2, .int x2)] dX1_orderOfRows_27 (Nat.lt_of_lt_of_le (Nat.lt_succ_self _) (Nat.le_of_ble_eq_true rfl)) rfl ?_
  refine s_aload_n 1 dX1_orderOfRows_28 rfl ?_
  refine s_aload_n 2 dX1_orderOfRows_29 rfl ?_
  refine s_iload_n 3 dX1_orderOfRows_30 rfl ?_
  refine s_pick [1, 0] [(0, .ref (ad 27)), (3, .int s0)] rfl ?_; exact k
theorem bX1_orderOfRows_34 {l : Launch} {D : va_G} {aI aL : ClassId} {ad : Nat → Nat} {P : sa_P} {I : sa_I} {J : sa_J} {x3 : Int32} {s0 : Int32}   (k : Sat (EC l D aI aL ad) M_X1_orderOfRows P 41 [(0, .ref (ad 27)), (3, .int x3), (4, .int s0)] [.ref (ad 30), .ref (ad 27)] I J) : Sat (EC l D aI aL ad) M_X1_orderOfRows P 34 [(0, .ref (ad 27)), (3, .int x3)] [.int s0] I J := by
  refine s_istore [(4, .int s0), (0, .ref (ad 27)), (3, .int x3)] dX1_orderOfRows_34 (Nat.lt_of_lt_of_le (Nat.lt_succ_self _) (Nat.le_of_ble_eq_true rfl)) rfl ?_
  refine s_aload_n 1 dX1_orderOfRows_36 rfl ?_
  refine s_aload_n 1 dX1_orderOfRows_37 rfl ?_
  refine g_X1_18 dX1_orderOfRows_38 rfl ?_
  refine s_pick [1, 2, 0] [(0, .ref (ad 27)), (3, .int x3), (4, .int s0)] rfl ?_; exact k
theorem bX1_orderOfRows_44 {l : Launch} {D : va_G} {aI aL : ClassId} {ad : Nat → Nat} {P : sa_P} {I : sa_I} {J : sa_J} {x3 : Int32} {x4 : Int32}   (k : Sat (EC l D aI aL ad) M_X1_orderOfRows P 56 [(0, .ref (ad 27)), (3, .int x3), (4, .int x4)] [.int (9 : Int32), .int (0 : Int32), .ref (ad 31), .int (0 : Int32), .ref (ad 30)] I J) : Sat (EC l D aI aL ad) M_X1_orderOfRows P 44 [(0, .ref (ad 27)), (3, .int x3), (4, .int x4)] [] I J := by
  refine s_aload_n 0 dX1_orderOfRows_44 rfl ?_
  refine g_X1_18 dX1_orderOfRows_45 rfl ?_
  refine s_iconst (v := 0) dX1_orderOfRows_48 rfl ?_
  refine s_aload_n 0 dX1_orderOfRows_49 rfl ?_
  refine g_X1_22 dX1_orderOfRows_50 rfl ?_
  refine s_iconst (v := 0) dX1_orderOfRows_53 rfl ?_
  refine s_bipush (v := 9) dX1_orderOfRows_54 rfl ?_
  exact k
theorem bX1_orderOfRows_59 {l : Launch} {D : va_G} {aI aL : ClassId} {ad : Nat → Nat} {P : sa_P} {I : sa_I} {J : sa_J} {x3 : Int32} {x4 : Int32} {v60 : Int32}  (f60 : (1 : Int32) = v60) (k : Sat (EC l D aI aL ad) M_X1_orderOfRows P 62 [(0, .ref (ad 27)), (3, .int x3), (4, .int x4), (5, .int v60)] [] I J) : Sat (EC l D aI aL ad) M_X1_orderOfRows P 59 [(0, .ref (ad 27)), (3, .int x3), (4, .int x4)] [] I J := by
  refine s_iconst (v := 1) dX1_orderOfRows_59 rfl ?_
  refine s_eqi f60 ?_
  refine s_istore [(5, .int v60), (0, .ref (ad 27)), (3, .int x3), (4, .int x4)] dX1_orderOfRows_60 (Nat.lt_of_lt_of_le (Nat.lt_succ_self _) (Nat.le_of_ble_eq_true rfl)) rfl ?_
  refine s_pick [1, 2, 3, 0] [(0, .ref (ad 27)), (3, .int x3), (4, .int x4), (5, .int v60)] rfl ?_; exact k
theorem bX1_orderOfRows_62 {l : Launch} {D : va_G} {aI aL : ClassId} {ad : Nat → Nat} {P : sa_P} {I : sa_I} {J : sa_J} {x3 : Int32} {x4 : Int32} {x5 : Int32}   (kt : (160 : Int32) < x5 → Sat (EC l D aI aL ad) M_X1_orderOfRows P 124 [(5, .int x5)] [] I J) (kf : ¬ (160 : Int32) < x5 → Sat (EC l D aI aL ad) M_X1_orderOfRows P 70 [(0, .ref (ad 27)), (3, .int x3), (4, .int x4), (5, .int x5)] [] I J) : Sat (EC l D aI aL ad) M_X1_orderOfRows P 62 [(0, .ref (ad 27)), (3, .int x3), (4, .int x4), (5, .int x5)] [] I J := by
  refine s_iload 3 dX1_orderOfRows_62 rfl ?_
  refine s_sipush (v := 160) dX1_orderOfRows_64 rfl ?_
  refine s_icmp_gt (tgt := 124) dX1_orderOfRows_67 (by decide) (fun c => ?_) (fun c => ?_)
  · refine s_pick [3] [(5, .int x5)] rfl ?_; exact kt c
  · exact kf c
theorem bX1_orderOfRows_70 {l : Launch} {D : va_G} {aI aL : ClassId} {ad : Nat → Nat} {P : sa_P} {I : sa_I} {J : sa_J} {x3 : Int32} {x4 : Int32} {x5 : Int32}   (kt : x4 = x3 → Sat (EC l D aI aL ad) M_X1_orderOfRows P 124 [(5, .int x5)] [] I J) (kf : ¬ x4 = x3 → Sat (EC l D aI aL ad) M_X1_orderOfRows P 76 [(0, .ref (ad 27)), (3, .int x3), (5, .int x5)] [] I J) : Sat (EC l D aI aL ad) M_X1_orderOfRows P 70 [(0, .ref (ad 27)), (3, .int x3), (4, .int x4), (5, .int x5)] [] I J := by
  refine s_iload 2 dX1_orderOfRows_70 rfl ?_
  refine s_iload_n 1 dX1_orderOfRows_72 rfl ?_
  refine s_icmp_eq (tgt := 124) dX1_orderOfRows_73 (by decide) (fun c => ?_) (fun c => ?_)
  · refine s_pick [3] [(5, .int x5)] rfl ?_; exact kt c
  · refine s_pick [0, 1, 3] [(0, .ref (ad 27)), (3, .int x3), (5, .int x5)] rfl ?_; exact kf c
theorem bX1_orderOfRows_76 {l : Launch} {D : va_G} {aI aL : ClassId} {ad : Nat → Nat} {P : sa_P} {I : sa_I} {J : sa_J} {x3 : Int32} {x5 : Int32}   (k : Sat (EC l D aI aL ad) M_X1_orderOfRows P 90 [(0, .ref (ad 27)), (3, .int x3), (5, .int x5)] [.int (0 : Int32), .ref (ad 30), .int (0 : Int32), .ref (ad 31), .ref (ad 13)] I J) : Sat (EC l D aI aL ad) M_X1_orderOfRows P 76 [(0, .ref (ad 27)), (3, .int x3), (5, .int x5)] [] I J := by
  refine s_aload_n 0 dX1_orderOfRows_76 rfl ?_
  refine g_X1_29 dX1_orderOfRows_77 rfl ?_
  refine s_aload_n 0 dX1_orderOfRows_80 rfl ?_
  refine g_X1_22 dX1_orderOfRows_81 rfl ?_
  refine s_iconst (v := 0) dX1_orderOfRows_84 rfl ?_
  refine s_aload_n 0 dX1_orderOfRows_85 rfl ?_
  refine g_X1_18 dX1_orderOfRows_86 rfl ?_
  refine s_iconst (v := 0) dX1_orderOfRows_89 rfl ?_
  exact k
theorem bX1_orderOfRows_93 {l : Launch} {D : va_G} {aI aL : ClassId} {ad : Nat → Nat} {P : sa_P} {I : sa_I} {J : sa_J} {x3 : Int32} {x5 : Int32}   (k : Sat (EC l D aI aL ad) M_X1_orderOfRows P 105 [(0, .ref (ad 27)), (3, .int x3), (5, .int x5)] [.int (0 : Int32), .ref (ad 15), .ref (ad 27)] I J) : Sat (EC l D aI aL ad) M_X1_orderOfRows P 93 [(0, .ref (ad 27)), (3, .int x3), (5, .int x5)] [] I J := by
  refine s_aload_n 0 dX1_orderOfRows_93 rfl ?_
  refine s_aload_n 0 dX1_orderOfRows_94 rfl ?_
  refine g_X1_29 dX1_orderOfRows_95 rfl ?_
  refine g_X1_127 dX1_orderOfRows_98 rfl ?_
  refine g_X1_139 dX1_orderOfRows_101 rfl ?_
  refine s_iconst (v := 0) dX1_orderOfRows_104 rfl ?_
  exact k
theorem bX1_orderOfRows_108 {l : Launch} {D : va_G} {aI aL : ClassId} {ad : Nat → Nat} {P : sa_P} {I : sa_I} {J : sa_J} {x3 : Int32} {x5 : Int32} {s0 : Int32}   (k : Sat (EC l D aI aL ad) M_X1_orderOfRows P 115 [(0, .ref (ad 27)), (3, .int x3), (4, .int s0), (5, .int x5)] [.ref (ad 31), .ref (ad 27)] I J) : Sat (EC l D aI aL ad) M_X1_orderOfRows P 108 [(0, .ref (ad 27)), (3, .int x3), (5, .int x5)] [.int s0] I J := by
  refine s_istore [(4, .int s0), (0, .ref (ad 27)), (3, .int x3), (5, .int x5)] dX1_orderOfRows_108 (Nat.lt_of_lt_of_le (Nat.lt_succ_self _) (Nat.le_of_ble_eq_true rfl)) rfl ?_
  refine s_aload_n 1 dX1_orderOfRows_110 rfl ?_
  refine s_aload_n 1 dX1_orderOfRows_111 rfl ?_
  refine g_X1_22 dX1_orderOfRows_112 rfl ?_
  refine s_pick [1, 2, 0, 3] [(0, .ref (ad 27)), (3, .int x3), (4, .int s0), (5, .int x5)] rfl ?_; exact k
theorem bX1_orderOfRows_118 {l : Launch} {D : va_G} {aI aL : ClassId} {ad : Nat → Nat} {P : sa_P} {I : sa_I} {J : sa_J} {x3 : Int32} {x4 : Int32} {x5 : Int32} {v118 : Int32}  (f118 : x5 + 1 = v118) (k : Sat (EC l D aI aL ad) M_X1_orderOfRows P 62 [(0, .ref (ad 27)), (3, .int x3), (4, .int x4), (5, .int v118)] [] I J) : Sat (EC l D aI aL ad) M_X1_orderOfRows P 118 [(0, .ref (ad 27)), (3, .int x3), (4, .int x4), (5, .int x5)] [] I J := by
  refine s_iinc 3 v118 [(5, .int v118), (0, .ref (ad 27)), (3, .int x3), (4, .int x4)] dX1_orderOfRows_118 rfl f118 (Nat.lt_of_lt_of_le (Nat.lt_succ_self _) (Nat.le_of_ble_eq_true rfl)) rfl ?_
  refine s_goto (tgt := 62) dX1_orderOfRows_121 (by decide) ?_
  refine s_pick [1, 2, 3, 0] [(0, .ref (ad 27)), (3, .int x3), (4, .int x4), (5, .int v118)] rfl ?_; exact k
theorem bX1_orderOfRows_124 {l : Launch} {D : va_G} {aI aL : ClassId} {ad : Nat → Nat} {P : sa_P} {I : sa_I} {J : sa_J} {x5 : Int32}   (k : P (some (.int x5)) I J) : Sat (EC l D aI aL ad) M_X1_orderOfRows P 124 [(5, .int x5)] [] I J := by
  refine s_iload 0 dX1_orderOfRows_124 rfl ?_
  exact s_iret rfl dX1_orderOfRows_126 k
/-! X1_smallRows -/
theorem dX1_smallRows_0 : decode cX1_smallRows 0 = .ok (.aload_n 0, 1) := by decide +kernel
theorem dX1_smallRows_1 : decode cX1_smallRows 1 = .ok (.getfield 74, 3) := by decide +kernel
theorem dX1_smallRows_4 : decode cX1_smallRows 4 = .ok (.lconst 0, 1) := by decide +kernel
theorem dX1_smallRows_5 : decode cX1_smallRows 5 = .ok (.lcmp, 1) := by decide +kernel
theorem dX1_smallRows_6 : decode cX1_smallRows 6 = .ok (.ifCond .ge 7, 3) := by decide +kernel
theorem dX1_smallRows_9 : decode cX1_smallRows 9 = .ok (.aload_n 0, 1) := by decide +kernel
theorem dX1_smallRows_10 : decode cX1_smallRows 10 = .ok (.invokevirtual 93, 3) := by decide +kernel
theorem dX1_smallRows_13 : decode cX1_smallRows 13 = .ok (.aload_n 1, 1) := by decide +kernel
theorem dX1_smallRows_14 : decode cX1_smallRows 14 = .ok (.lconst 0, 1) := by decide +kernel
theorem dX1_smallRows_15 : decode cX1_smallRows 15 = .ok (.invokestatic 160, 3) := by decide +kernel
theorem dX1_smallRows_18 : decode cX1_smallRows 18 = .ok (.aload_n 1, 1) := by decide +kernel
theorem dX1_smallRows_19 : decode cX1_smallRows 19 = .ok (.iconst 0, 1) := by decide +kernel
theorem dX1_smallRows_20 : decode cX1_smallRows 20 = .ok (.aload_n 0, 1) := by decide +kernel
theorem dX1_smallRows_21 : decode cX1_smallRows 21 = .ok (.getfield 74, 3) := by decide +kernel
theorem dX1_smallRows_24 : decode cX1_smallRows 24 = .ok (.lastore, 1) := by decide +kernel
theorem dX1_smallRows_25 : decode cX1_smallRows 25 = .ok (.aload_n 1, 1) := by decide +kernel
theorem dX1_smallRows_26 : decode cX1_smallRows 26 = .ok (.iconst 3, 1) := by decide +kernel
theorem dX1_smallRows_27 : decode cX1_smallRows 27 = .ok (.aload_n 0, 1) := by decide +kernel
theorem dX1_smallRows_28 : decode cX1_smallRows 28 = .ok (.getfield 77, 3) := by decide +kernel
theorem dX1_smallRows_31 : decode cX1_smallRows 31 = .ok (.aload_n 0, 1) := by decide +kernel
theorem dX1_smallRows_32 : decode cX1_smallRows 32 = .ok (.getfield 25, 3) := by decide +kernel
theorem dX1_smallRows_35 : decode cX1_smallRows 35 = .ok (.invokevirtual 107, 3) := by decide +kernel
theorem dX1_smallRows_38 : decode cX1_smallRows 38 = .ok (.lsub, 1) := by decide +kernel
theorem dX1_smallRows_39 : decode cX1_smallRows 39 = .ok (.ldc2_w 87, 3) := by decide +kernel
theorem dX1_smallRows_42 : decode cX1_smallRows 42 = .ok (.invokestatic 104, 3) := by decide +kernel
theorem dX1_smallRows_45 : decode cX1_smallRows 45 = .ok (.aload_n 0, 1) := by decide +kernel
theorem dX1_smallRows_46 : decode cX1_smallRows 46 = .ok (.getfield 74, 3) := by decide +kernel
theorem dX1_smallRows_49 : decode cX1_smallRows 49 = .ok (.invokestatic 166, 3) := by decide +kernel
theorem dX1_smallRows_52 : decode cX1_smallRows 52 = .ok (.lastore, 1) := by decide +kernel
theorem dX1_smallRows_53 : decode cX1_smallRows 53 = .ok (.aload_n 1, 1) := by decide +kernel
theorem dX1_smallRows_54 : decode cX1_smallRows 54 = .ok (.iconst 4, 1) := by decide +kernel
theorem dX1_smallRows_55 : decode cX1_smallRows 55 = .ok (.lconst 1, 1) := by decide +kernel
theorem dX1_smallRows_56 : decode cX1_smallRows 56 = .ok (.lastore, 1) := by decide +kernel
theorem dX1_smallRows_57 : decode cX1_smallRows 57 = .ok (.aload_n 1, 1) := by decide +kernel
theorem dX1_smallRows_58 : decode cX1_smallRows 58 = .ok (.bipush 8, 2) := by decide +kernel
theorem dX1_smallRows_60 : decode cX1_smallRows 60 = .ok (.lconst 1, 1) := by decide +kernel
theorem dX1_smallRows_61 : decode cX1_smallRows 61 = .ok (.lastore, 1) := by decide +kernel
theorem dX1_smallRows_62 : decode cX1_smallRows 62 = .ok (.return_, 1) := by decide +kernel
theorem bX1_smallRows_0 {l : Launch} {D : va_G} {aI aL : ClassId} {ad : Nat → Nat} {P : sa_P} {I : sa_I} {J : sa_J} {a1 q1 n1 : Nat} (hq1 : sa_iJ (EC l D aI aL ad) a1 q1 n1) (hn1 : n1 < 2 ^ 31)  (kt : (0 : Int64) ≤ J 27 11 → Sat (EC l D aI aL ad) M_X1_smallRows P 13 [(0, .ref (ad 27)), (1, .ref a1)] [] I J) (kf : ¬ (0 : Int64) ≤ J 27 11 → Sat (EC l D aI aL ad) M_X1_smallRows P 9 [(0, .ref (ad 27)), (1, .ref a1)] [] I J) : Sat (EC l D aI aL ad) M_X1_smallRows P 0 [(0, .ref (ad 27)), (1, .ref a1)] [] I J := by
  refine s_aload_n 0 dX1_smallRows_0 rfl ?_
  refine g_X1_74 dX1_smallRows_1 rfl ?_
  refine s_lconst (v := 0) dX1_smallRows_4 rfl ?_
  refine s_lif_ge (tgt := 13) dX1_smallRows_5 dX1_smallRows_6 (by decide) (fun c => ?_) (fun c => ?_)
  · exact kt c
  · exact kf c
theorem bX1_smallRows_9 {l : Launch} {D : va_G} {aI aL : ClassId} {ad : Nat → Nat} {P : sa_P} {I : sa_I} {J : sa_J} {a1 q1 n1 : Nat} (hq1 : sa_iJ (EC l D aI aL ad) a1 q1 n1) (hn1 : n1 < 2 ^ 31)  (k : Sat (EC l D aI aL ad) M_X1_smallRows P 10 [(0, .ref (ad 27)), (1, .ref a1)] [.ref (ad 27)] I J) : Sat (EC l D aI aL ad) M_X1_smallRows P 9 [(0, .ref (ad 27)), (1, .ref a1)] [] I J := by
  refine s_aload_n 0 dX1_smallRows_9 rfl ?_
  exact k
theorem bX1_smallRows_13 {l : Launch} {D : va_G} {aI aL : ClassId} {ad : Nat → Nat} {P : sa_P} {I : sa_I} {J : sa_J} {a1 q1 n1 : Nat} (hq1 : sa_iJ (EC l D aI aL ad) a1 q1 n1) (hn1 : n1 < 2 ^ 31)  (k : Sat (EC l D aI aL ad) M_X1_smallRows P 15 [(0, .ref (ad 27)), (1, .ref a1)] [.long (0 : Int64), .ref a1] I J) : Sat (EC l D aI aL ad) M_X1_smallRows P 13 [(0, .ref (ad 27)), (1, .ref a1)] [] I J := by
  refine s_aload_n 1 dX1_smallRows_13 rfl ?_
  refine s_lconst (v := 0) dX1_smallRows_14 rfl ?_
  exact k
theorem bX1_smallRows_18 {l : Launch} {D : va_G} {aI aL : ClassId} {ad : Nat → Nat} {P : sa_P} {I : sa_I} {J : sa_J} {a1 q1 n1 : Nat} {v24 : Int64} (hq1 : sa_iJ (EC l D aI aL ad) a1 q1 n1) (hn1 : n1 < 2 ^ 31) (h24 : 0 < n1) (f24 : J 27 11 = v24) (k : Sat (EC l D aI aL ad) M_X1_smallRows P 35 [(0, .ref (ad 27)), (1, .ref a1)] [.ref (ad 4), .long ((sa_uJ J q1 0 v24) 27 12), .int (3 : Int32), .ref a1] I (sa_uJ J q1 0 v24)) : Sat (EC l D aI aL ad) M_X1_smallRows P 18 [(0, .ref (ad 27)), (1, .ref a1)] [] I J := by
  refine s_aload_n 1 dX1_smallRows_18 rfl ?_
  refine s_iconst (v := 0) dX1_smallRows_19 rfl ?_
  refine s_eqi (y := nI 0) rfl ?_
  refine s_aload_n 0 dX1_smallRows_20 rfl ?_
  refine g_X1_74 dX1_smallRows_21 rfl ?_
  refine s_eql f24 ?_
  refine s_lastoreN hq1 h24 hn1 dX1_smallRows_24 ?_
  refine s_aload_n 1 dX1_smallRows_25 rfl ?_
  refine s_iconst (v := 3) dX1_smallRows_26 rfl ?_
  refine s_aload_n 0 dX1_smallRows_27 rfl ?_
  refine g_X1_77 dX1_smallRows_28 rfl ?_
  refine s_aload_n 0 dX1_smallRows_31 rfl ?_
  refine g_X1_25 dX1_smallRows_32 rfl ?_
  exact k
theorem bX1_smallRows_38 {l : Launch} {D : va_G} {aI aL : ClassId} {ad : Nat → Nat} {P : sa_P} {I : sa_I} {J : sa_J} {a1 q1 n1 : Nat} {s1 : Int32} {s2 : Int64} {s3 : Int64} (hq1 : sa_iJ (EC l D aI aL ad) a1 q1 n1) (hn1 : n1 < 2 ^ 31)  (k : Sat (EC l D aI aL ad) M_X1_smallRows P 42 [(0, .ref (ad 27)), (1, .ref a1)] [.long (2 : Int64), .long (s2 - s3), .int s1, .ref a1] I J) : Sat (EC l D aI aL ad) M_X1_smallRows P 38 [(0, .ref (ad 27)), (1, .ref a1)] [.long s3, .long s2, .int s1, .ref a1] I J := by
  refine s_lsub dX1_smallRows_38 ?_
  refine s_ldc2 wk_X1_87 dX1_smallRows_39 ?_
  exact k
theorem bX1_smallRows_45 {l : Launch} {D : va_G} {aI aL : ClassId} {ad : Nat → Nat} {P : sa_P} {I : sa_I} {J : sa_J} {a1 q1 n1 : Nat} {s1 : Int32} {s2 : Int64} (hq1 : sa_iJ (EC l D aI aL ad) a1 q1 n1) (hn1 : n1 < 2 ^ 31)  (k : Sat (EC l D aI aL ad) M_X1_smallRows P 49 [(1, .ref a1)] [.long (J 27 11), .long s2, .int s1, .ref a1] I J) : Sat (EC l D aI aL ad) M_X1_smallRows P 45 [(0, .ref (ad 27)), (1, .ref a1)] [.long s2, .int s1, .ref a1] I J := by
  refine s_aload_n 0 dX1_smallRows_45 rfl ?_
  refine g_X1_74 dX1_smallRows_46 rfl ?_
  refine s_pick [1] [(1, .ref a1)] rfl ?_; exact k
theorem bX1_smallRows_52 {l : Launch} {D : va_G} {aI aL : ClassId} {ad : Nat → Nat} {P : sa_P} {I : sa_I} {J : sa_J} {a1 q1 n1 : Nat} {s1 : Nat} {s2 : Int64} {v56 : Int64} {v61 : Int64} (hq1 : sa_iJ (EC l D aI aL ad) a1 q1 n1) (hn1 : n1 < 2 ^ 31) (h52 : s1 < n1) (h56 : 4 < n1) (h61 : 8 < n1) (f56 : (1 : Int64) = v56) (f61 : (1 : Int64) = v61) (k : P (none) I (sa_uJ (sa_uJ (sa_uJ J q1 s1 s2) q1 4 v56) q1 8 v61)) : Sat (EC l D aI aL ad) M_X1_smallRows P 52 [(1, .ref a1)] [.long s2, .int (nI s1), .ref a1] I J := by
  refine s_lastoreN hq1 h52 hn1 dX1_smallRows_52 ?_
  refine s_aload_n 0 dX1_smallRows_53 rfl ?_
  refine s_iconst (v := 4) dX1_smallRows_54 rfl ?_
  refine s_eqi (y := nI 4) rfl ?_
  refine s_lconst (v := 1) dX1_smallRows_55 rfl ?_
  refine s_eql f56 ?_
  refine s_lastoreN hq1 h56 hn1 dX1_smallRows_56 ?_
  refine s_aload_n 0 dX1_smallRows_57 rfl ?_
  refine s_bipush (v := 8) dX1_smallRows_58 rfl ?_
  refine s_eqi (y := nI 8) rfl ?_
  refine s_lconst (v := 1) dX1_smallRows_60 rfl ?_
  refine s_eql f61 ?_
  refine s_lastoreN hq1 h61 hn1 dX1_smallRows_61 ?_
  exact s_vret rfl dX1_smallRows_62 k
/-! X2_makeCopy -/
theorem dX2_makeCopy_0 : decode cX2_makeCopy 0 = .ok (.aload_n 0, 1) := by decide +kernel
theorem dX2_makeCopy_1 : decode cX2_makeCopy 1 = .ok (.getfield 12, 3) := by decide +kernel
theorem dX2_makeCopy_4 : decode cX2_makeCopy 4 = .ok (.aload_n 0, 1) := by decide +kernel
theorem dX2_makeCopy_5 : decode cX2_makeCopy 5 = .ok (.getfield 31, 3) := by decide +kernel
theorem dX2_makeCopy_8 : decode cX2_makeCopy 8 = .ok (.getfield 35, 3) := by decide +kernel
theorem dX2_makeCopy_11 : decode cX2_makeCopy 11 = .ok (.aload_n 1, 1) := by decide +kernel
theorem dX2_makeCopy_12 : decode cX2_makeCopy 12 = .ok (.iload_n 2, 1) := by decide +kernel
theorem dX2_makeCopy_13 : decode cX2_makeCopy 13 = .ok (.invokevirtual 41, 3) := by decide +kernel
theorem dX2_makeCopy_16 : decode cX2_makeCopy 16 = .ok (.return_, 1) := by decide +kernel
theorem bX2_makeCopy_0 {l : Launch} {D : va_G} {aI aL : ClassId} {ad : Nat → Nat} {P : sa_P} {I : sa_I} {J : sa_J} {a1 q1 n1 : Nat} {x2 : Int32} (hq1 : sa_iJ (EC l D aI aL ad) a1 q1 n1) (hn1 : n1 < 2 ^ 31)  (k : Sat (EC l D aI aL ad) M_X2_makeCopy P 13 [] [.int x2, .ref a1, .int (I 4 0), .ref (ad 14)] I J) : Sat (EC l D aI aL ad) M_X2_makeCopy P 0 [(0, .ref (ad 13)), (1, .ref a1), (2, .int x2)] [] I J := by
  refine s_aload_n 0 dX2_makeCopy_0 rfl ?_
  refine g_X2_12 dX2_makeCopy_1 rfl ?_
  refine s_aload_n 0 dX2_makeCopy_4 rfl ?_
  refine g_X2_31 dX2_makeCopy_5 rfl ?_
  refine g_X2_35 dX2_makeCopy_8 rfl ?_
  refine s_aload_n 1 dX2_makeCopy_11 rfl ?_
  refine s_iload_n 2 dX2_makeCopy_12 rfl ?_
  refine s_pick [] [] rfl ?_; exact k
theorem bX2_makeCopy_16 {l : Launch} {D : va_G} {aI aL : ClassId} {ad : Nat → Nat} {P : sa_P} {I : sa_I} {J : sa_J}    (k : P (none) I J) : Sat (EC l D aI aL ad) M_X2_makeCopy P 16 [] [] I J := by
  exact s_vret rfl dX2_makeCopy_16 k
/-! X2_makeLeast -/
theorem dX2_makeLeast_0 : decode cX2_makeLeast 0 = .ok (.aload_n 0, 1) := by decide +kernel
theorem dX2_makeLeast_1 : decode cX2_makeLeast 1 = .ok (.getfield 12, 3) := by decide +kernel
theorem dX2_makeLeast_4 : decode cX2_makeLeast 4 = .ok (.aload_n 0, 1) := by decide +kernel
theorem dX2_makeLeast_5 : decode cX2_makeLeast 5 = .ok (.getfield 31, 3) := by decide +kernel
theorem dX2_makeLeast_8 : decode cX2_makeLeast 8 = .ok (.getfield 35, 3) := by decide +kernel
theorem dX2_makeLeast_11 : decode cX2_makeLeast 11 = .ok (.lload_n 1, 1) := by decide +kernel
theorem dX2_makeLeast_12 : decode cX2_makeLeast 12 = .ok (.invokevirtual 45, 3) := by decide +kernel
theorem dX2_makeLeast_15 : decode cX2_makeLeast 15 = .ok (.aload_n 0, 1) := by decide +kernel
theorem dX2_makeLeast_16 : decode cX2_makeLeast 16 = .ok (.invokevirtual 49, 3) := by decide +kernel
theorem dX2_makeLeast_19 : decode cX2_makeLeast 19 = .ok (.iconst 0, 1) := by decide +kernel
theorem dX2_makeLeast_20 : decode cX2_makeLeast 20 = .ok (.istore 5, 2) := by decide +kernel
theorem dX2_makeLeast_22 : decode cX2_makeLeast 22 = .ok (.iload 5, 2) := by decide +kernel
theorem dX2_makeLeast_24 : decode cX2_makeLeast 24 = .ok (.aload_n 0, 1) := by decide +kernel
theorem dX2_makeLeast_25 : decode cX2_makeLeast 25 = .ok (.getfield 31, 3) := by decide +kernel
theorem dX2_makeLeast_28 : decode cX2_makeLeast 28 = .ok (.getfield 35, 3) := by decide +kernel
theorem dX2_makeLeast_31 : decode cX2_makeLeast 31 = .ok (.if_icmp .ge 42, 3) := by decide +kernel
theorem dX2_makeLeast_34 : decode cX2_makeLeast 34 = .ok (.aload_n 0, 1) := by decide +kernel
theorem dX2_makeLeast_35 : decode cX2_makeLeast 35 = .ok (.getfield 31, 3) := by decide +kernel
theorem dX2_makeLeast_38 : decode cX2_makeLeast 38 = .ok (.aload_n 0, 1) := by decide +kernel
theorem dX2_makeLeast_39 : decode cX2_makeLeast 39 = .ok (.getfield 22, 3) := by decide +kernel
theorem dX2_makeLeast_42 : decode cX2_makeLeast 42 = .ok (.iconst 3, 1) := by decide +kernel
theorem dX2_makeLeast_43 : decode cX2_makeLeast 43 = .ok (.iload 5, 2) := by decide +kernel
theorem dX2_makeLeast_45 : decode cX2_makeLeast 45 = .ok (.imul, 1) := by decide +kernel
theorem dX2_makeLeast_46 : decode cX2_makeLeast 46 = .ok (.aload_n 3, 1) := by decide +kernel
theorem dX2_makeLeast_47 : decode cX2_makeLeast 47 = .ok (.iload 4, 2) := by decide +kernel
theorem dX2_makeLeast_49 : decode cX2_makeLeast 49 = .ok (.invokevirtual 52, 3) := by decide +kernel
theorem dX2_makeLeast_52 : decode cX2_makeLeast 52 = .ok (.aload_n 0, 1) := by decide +kernel
theorem dX2_makeLeast_53 : decode cX2_makeLeast 53 = .ok (.getfield 12, 3) := by decide +kernel
theorem dX2_makeLeast_56 : decode cX2_makeLeast 56 = .ok (.aload_n 0, 1) := by decide +kernel
theorem dX2_makeLeast_57 : decode cX2_makeLeast 57 = .ok (.getfield 31, 3) := by decide +kernel
theorem dX2_makeLeast_60 : decode cX2_makeLeast 60 = .ok (.getfield 56, 3) := by decide +kernel
theorem dX2_makeLeast_63 : decode cX2_makeLeast 63 = .ok (.iconst 0, 1) := by decide +kernel
theorem dX2_makeLeast_64 : decode cX2_makeLeast 64 = .ok (.invokevirtual 59, 3) := by decide +kernel
theorem dX2_makeLeast_67 : decode cX2_makeLeast 67 = .ok (.iinc 5 1, 3) := by decide +kernel
theorem dX2_makeLeast_70 : decode cX2_makeLeast 70 = .ok (.goto (-48), 3) := by decide +kernel
theorem dX2_makeLeast_73 : decode cX2_makeLeast 73 = .ok (.aload_n 0, 1) := by decide +kernel
theorem dX2_makeLeast_74 : decode cX2_makeLeast 74 = .ok (.getfield 12, 3) := by decide +kernel
theorem dX2_makeLeast_77 : decode cX2_makeLeast 77 = .ok (.invokevirtual 63, 3) := by decide +kernel
theorem dX2_makeLeast_80 : decode cX2_makeLeast 80 = .ok (.return_, 1) := by decide +kernel
theorem bX2_makeLeast_0 {l : Launch} {D : va_G} {aI aL : ClassId} {ad : Nat → Nat} {P : sa_P} {I : sa_I} {J : sa_J} {x1 : Int64} {a3 q3 n3 : Nat} {x4 : Int32} (hq3 : sa_iJ (EC l D aI aL ad) a3 q3 n3) (hn3 : n3 < 2 ^ 31)  (k : Sat (EC l D aI aL ad) M_X2_makeLeast P 12 [(0, .ref (ad 13)), (3, .ref a3), (4, .int x4)] [.long x1, .int (I 4 0), .ref (ad 14)] I J) : Sat (EC l D aI aL ad) M_X2_makeLeast P 0 [(0, .ref (ad 13)), (1, .long x1), (3, .ref a3), (4, .int x4)] [] I J := by
  refine s_aload_n 0 dX2_makeLeast_0 rfl ?_
  refine g_X2_12 dX2_makeLeast_1 rfl ?_
  refine s_aload_n 0 dX2_makeLeast_4 rfl ?_
  refine g_X2_31 dX2_makeLeast_5 rfl ?_
  refine g_X2_35 dX2_makeLeast_8 rfl ?_
  refine s_lload_n 1 dX2_makeLeast_11 rfl ?_
  refine s_pick [0, 2, 3] [(0, .ref (ad 13)), (3, .ref a3), (4, .int x4)] rfl ?_; exact k
theorem bX2_makeLeast_15 {l : Launch} {D : va_G} {aI aL : ClassId} {ad : Nat → Nat} {P : sa_P} {I : sa_I} {J : sa_J} {a3 q3 n3 : Nat} {x4 : Int32} (hq3 : sa_iJ (EC l D aI aL ad) a3 q3 n3) (hn3 : n3 < 2 ^ 31)  (k : Sat (EC l D aI aL ad) M_X2_makeLeast P 16 [(0, .ref (ad 13)), (3, .ref a3), (4, .int x4)] [.ref (ad 13)] I J) : Sat (EC l D aI aL ad) M_X2_makeLeast P 15 [(0, .ref (ad 13)), (3, .ref a3), (4, .int x4)] [] I J := by
  refine s_aload_n 0 dX2_makeLeast_15 rfl ?_
  exact k
theorem bX2_makeLeast_19 {l : Launch} {D : va_G} {aI aL : ClassId} {ad : Nat → Nat} {P : sa_P} {I : sa_I} {J : sa_J} {a3 q3 n3 : Nat} {x4 : Int32} {v20 : Int32} (hq3 : sa_iJ (EC l D aI aL ad) a3 q3 n3) (hn3 : n3 < 2 ^ 31) (f20 : (0 : Int32) = v20) (k : Sat (EC l D aI aL ad) M_X2_makeLeast P 22 [(0, .ref (ad 13)), (3, .ref a3), (4, .int x4), (5, .int v20)] [] I J) : Sat (EC l D aI aL ad) M_X2_makeLeast P 19 [(0, .ref (ad 13)), (3, .ref a3), (4, .int x4)] [] I J := by
  refine s_iconst (v := 0) dX2_makeLeast_19 rfl ?_
  refine s_eqi f20 ?_
  refine s_istore [(5, .int v20), (0, .ref (ad 13)), (3, .ref a3), (4, .int x4)] dX2_makeLeast_20 (Nat.lt_of_lt_of_le (Nat.lt_succ_self _) (Nat.le_of_ble_eq_true rfl)) rfl ?_
  refine s_pick [1, 2, 3, 0] [(0, .ref (ad 13)), (3, .ref a3), (4, .int x4), (5, .int v20)] rfl ?_; exact k
theorem bX2_makeLeast_22 {l : Launch} {D : va_G} {aI aL : ClassId} {ad : Nat → Nat} {P : sa_P} {I : sa_I} {J : sa_J} {a3 q3 n3 : Nat} {x4 : Int32} {x5 : Int32} (hq3 : sa_iJ (EC l D aI aL ad) a3 q3 n3) (hn3 : n3 < 2 ^ 31)  (kt : I 4 0 ≤ x5 → Sat (EC l D aI aL ad) M_X2_makeLeast P 73 [(0, .ref (ad 13))] [] I J) (kf : ¬ I 4 0 ≤ x5 → Sat (EC l D aI aL ad) M_X2_makeLeast P 34 [(0, .ref (ad 13)), (3, .ref a3), (4, .int x4), (5, .int x5)] [] I J) : Sat (EC l D aI aL ad) M_X2_makeLeast P 22 [(0, .ref (ad 13)), (3, .ref a3), (4, .int x4), (5, .int x5)] [] I J := by
  refine s_iload 3 dX2_makeLeast_22 rfl ?_
  refine s_aload_n 0 dX2_makeLeast_24 rfl ?_
  refine g_X2_31 dX2_makeLeast_25 rfl ?_
  refine g_X2_35 dX2_makeLeast_28 rfl ?_
  refine s_icmp_ge (tgt := 73) dX2_makeLeast_31 (by decide) (fun c => ?_) (fun c => ?_)
  · refine s_pick [0] [(0, .ref (ad 13))] rfl ?_; exact kt c
  · exact kf c
theorem bX2_makeLeast_34 {l : Launch} {D : va_G} {aI aL : ClassId} {ad : Nat → Nat} {P : sa_P} {I : sa_I} {J : sa_J} {a3 q3 n3 : Nat} {x4 : Int32} {x5 : Int32} (hq3 : sa_iJ (EC l D aI aL ad) a3 q3 n3) (hn3 : n3 < 2 ^ 31)  (k : Sat (EC l D aI aL ad) M_X2_makeLeast P 49 [(0, .ref (ad 13)), (3, .ref a3), (4, .int x4), (5, .int x5)] [.int x4, .ref a3, .int ((3 : Int32) * x5), .ref (ad 18), .ref (ad 4)] I J) : Sat (EC l D aI aL ad) M_X2_makeLeast P 34 [(0, .ref (ad 13)), (3, .ref a3), (4, .int x4), (5, .int x5)] [] I J := by
  refine s_aload_n 0 dX2_makeLeast_34 rfl ?_
  refine g_X2_31 dX2_makeLeast_35 rfl ?_
  refine s_aload_n 0 dX2_makeLeast_38 rfl ?_
  refine g_X2_22 dX2_makeLeast_39 rfl ?_
  refine s_iconst (v := 3) dX2_makeLeast_42 rfl ?_
  refine s_iload 3 dX2_makeLeast_43 rfl ?_
  refine s_imul dX2_makeLeast_45 ?_
  refine s_aload_n 1 dX2_makeLeast_46 rfl ?_
  refine s_iload 2 dX2_makeLeast_47 rfl ?_
  exact k
theorem bX2_makeLeast_52 {l : Launch} {D : va_G} {aI aL : ClassId} {ad : Nat → Nat} {P : sa_P} {I : sa_I} {J : sa_J} {a3 q3 n3 : Nat} {x4 : Int32} {x5 : Int32} (hq3 : sa_iJ (EC l D aI aL ad) a3 q3 n3) (hn3 : n3 < 2 ^ 31)  (k : Sat (EC l D aI aL ad) M_X2_makeLeast P 64 [(0, .ref (ad 13)), (3, .ref a3), (4, .int x4), (5, .int x5)] [.int (0 : Int32), .ref (ad 9), .ref (ad 14)] I J) : Sat (EC l D aI aL ad) M_X2_makeLeast P 52 [(0, .ref (ad 13)), (3, .ref a3), (4, .int x4), (5, .int x5)] [] I J := by
  refine s_aload_n 0 dX2_makeLeast_52 rfl ?_
  refine g_X2_12 dX2_makeLeast_53 rfl ?_
  refine s_aload_n 0 dX2_makeLeast_56 rfl ?_
  refine g_X2_31 dX2_makeLeast_57 rfl ?_
  refine g_X2_56 dX2_makeLeast_60 rfl ?_
  refine s_iconst (v := 0) dX2_makeLeast_63 rfl ?_
  exact k
theorem bX2_makeLeast_67 {l : Launch} {D : va_G} {aI aL : ClassId} {ad : Nat → Nat} {P : sa_P} {I : sa_I} {J : sa_J} {a3 q3 n3 : Nat} {x4 : Int32} {x5 : Int32} {v67 : Int32} (hq3 : sa_iJ (EC l D aI aL ad) a3 q3 n3) (hn3 : n3 < 2 ^ 31) (f67 : x5 + 1 = v67) (k : Sat (EC l D aI aL ad) M_X2_makeLeast P 22 [(0, .ref (ad 13)), (3, .ref a3), (4, .int x4), (5, .int v67)] [] I J) : Sat (EC l D aI aL ad) M_X2_makeLeast P 67 [(0, .ref (ad 13)), (3, .ref a3), (4, .int x4), (5, .int x5)] [] I J := by
  refine s_iinc 3 v67 [(5, .int v67), (0, .ref (ad 13)), (3, .ref a3), (4, .int x4)] dX2_makeLeast_67 rfl f67 (Nat.lt_of_lt_of_le (Nat.lt_succ_self _) (Nat.le_of_ble_eq_true rfl)) rfl ?_
  refine s_goto (tgt := 22) dX2_makeLeast_70 (by decide) ?_
  refine s_pick [1, 2, 3, 0] [(0, .ref (ad 13)), (3, .ref a3), (4, .int x4), (5, .int v67)] rfl ?_; exact k
theorem bX2_makeLeast_73 {l : Launch} {D : va_G} {aI aL : ClassId} {ad : Nat → Nat} {P : sa_P} {I : sa_I} {J : sa_J}    (k : Sat (EC l D aI aL ad) M_X2_makeLeast P 77 [] [.ref (ad 14)] I J) : Sat (EC l D aI aL ad) M_X2_makeLeast P 73 [(0, .ref (ad 13))] [] I J := by
  refine s_aload_n 0 dX2_makeLeast_73 rfl ?_
  refine g_X2_12 dX2_makeLeast_74 rfl ?_
  refine s_pick [] [] rfl ?_; exact k
theorem bX2_makeLeast_80 {l : Launch} {D : va_G} {aI aL : ClassId} {ad : Nat → Nat} {P : sa_P} {I : sa_I} {J : sa_J}    (k : P (none) I J) : Sat (EC l D aI aL ad) M_X2_makeLeast P 80 [] [] I J := by
  exact s_vret rfl dX2_makeLeast_80 k
/-! X2_makeSum -/
theorem dX2_makeSum_0 : decode cX2_makeSum 0 = .ok (.aload_n 0, 1) := by decide +kernel
theorem dX2_makeSum_1 : decode cX2_makeSum 1 = .ok (.getfield 12, 3) := by decide +kernel
theorem dX2_makeSum_4 : decode cX2_makeSum 4 = .ok (.aload_n 0, 1) := by decide +kernel
theorem dX2_makeSum_5 : decode cX2_makeSum 5 = .ok (.getfield 31, 3) := by decide +kernel
theorem dX2_makeSum_8 : decode cX2_makeSum 8 = .ok (.getfield 35, 3) := by decide +kernel
theorem dX2_makeSum_11 : decode cX2_makeSum 11 = .ok (.aload_n 1, 1) := by decide +kernel
theorem dX2_makeSum_12 : decode cX2_makeSum 12 = .ok (.iload_n 2, 1) := by decide +kernel
theorem dX2_makeSum_13 : decode cX2_makeSum 13 = .ok (.invokevirtual 41, 3) := by decide +kernel
theorem dX2_makeSum_16 : decode cX2_makeSum 16 = .ok (.iconst 0, 1) := by decide +kernel
theorem dX2_makeSum_17 : decode cX2_makeSum 17 = .ok (.istore 5, 2) := by decide +kernel
theorem dX2_makeSum_19 : decode cX2_makeSum 19 = .ok (.iload 5, 2) := by decide +kernel
theorem dX2_makeSum_21 : decode cX2_makeSum 21 = .ok (.aload_n 0, 1) := by decide +kernel
theorem dX2_makeSum_22 : decode cX2_makeSum 22 = .ok (.getfield 31, 3) := by decide +kernel
theorem dX2_makeSum_25 : decode cX2_makeSum 25 = .ok (.getfield 35, 3) := by decide +kernel
theorem dX2_makeSum_28 : decode cX2_makeSum 28 = .ok (.if_icmp .ge 24, 3) := by decide +kernel
theorem dX2_makeSum_31 : decode cX2_makeSum 31 = .ok (.aload_n 0, 1) := by decide +kernel
theorem dX2_makeSum_32 : decode cX2_makeSum 32 = .ok (.getfield 12, 3) := by decide +kernel
theorem dX2_makeSum_35 : decode cX2_makeSum 35 = .ok (.aload_n 3, 1) := by decide +kernel
theorem dX2_makeSum_36 : decode cX2_makeSum 36 = .ok (.iload 4, 2) := by decide +kernel
theorem dX2_makeSum_38 : decode cX2_makeSum 38 = .ok (.iconst 3, 1) := by decide +kernel
theorem dX2_makeSum_39 : decode cX2_makeSum 39 = .ok (.iload 5, 2) := by decide +kernel
theorem dX2_makeSum_41 : decode cX2_makeSum 41 = .ok (.imul, 1) := by decide +kernel
theorem dX2_makeSum_42 : decode cX2_makeSum 42 = .ok (.iadd, 1) := by decide +kernel
theorem dX2_makeSum_43 : decode cX2_makeSum 43 = .ok (.invokevirtual 59, 3) := by decide +kernel
theorem dX2_makeSum_46 : decode cX2_makeSum 46 = .ok (.iinc 5 1, 3) := by decide +kernel
theorem dX2_makeSum_49 : decode cX2_makeSum 49 = .ok (.goto (-30), 3) := by decide +kernel
theorem dX2_makeSum_52 : decode cX2_makeSum 52 = .ok (.aload_n 0, 1) := by decide +kernel
theorem dX2_makeSum_53 : decode cX2_makeSum 53 = .ok (.getfield 12, 3) := by decide +kernel
theorem dX2_makeSum_56 : decode cX2_makeSum 56 = .ok (.invokevirtual 63, 3) := by decide +kernel
theorem dX2_makeSum_59 : decode cX2_makeSum 59 = .ok (.return_, 1) := by decide +kernel
theorem bX2_makeSum_0 {l : Launch} {D : va_G} {aI aL : ClassId} {ad : Nat → Nat} {P : sa_P} {I : sa_I} {J : sa_J} {a1 q1 n1 : Nat} {x2 : Int32} {a3 q3 n3 : Nat} {x4 : Int32} (hq1 : sa_iJ (EC l D aI aL ad) a1 q1 n1) (hn1 : n1 < 2 ^ 31) (hq3 : sa_iJ (EC l D aI aL ad) a3 q3 n3) (hn3 : n3 < 2 ^ 31)  (k : Sat (EC l D aI aL ad) M_X2_makeSum P 13 [(0, .ref (ad 13)), (3, .ref a3), (4, .int x4)] [.int x2, .ref a1, .int (I 4 0), .ref (ad 14)] I J) : Sat (EC l D aI aL ad) M_X2_makeSum P 0 [(0, .ref (ad 13)), (1, .ref a1), (2, .int x2), (3, .ref a3), (4, .int x4)] [] I J := by
  refine s_aload_n 0 dX2_makeSum_0 rfl ?_
  refine g_X2_12 dX2_makeSum_1 rfl ?_
  refine s_aload_n 0 dX2_makeSum_4 rfl ?_
  refine g_X2_31 dX2_makeSum_5 rfl ?_
  refine g_X2_35 dX2_makeSum_8 rfl ?_
  refine s_aload_n 1 dX2_makeSum_11 rfl ?_
  refine s_iload_n 2 dX2_makeSum_12 rfl ?_
  refine s_pick [0, 3, 4] [(0, .ref (ad 13)), (3, .ref a3), (4, .int x4)] rfl ?_; exact k
theorem bX2_makeSum_16 {l : Launch} {D : va_G} {aI aL : ClassId} {ad : Nat → Nat} {P : sa_P} {I : sa_I} {J : sa_J} {a3 q3 n3 : Nat} {x4 : Int32} {v17 : Int32} (hq3 : sa_iJ (EC l D aI aL ad) a3 q3 n3) (hn3 : n3 < 2 ^ 31) (f17 : (0 : Int32) = v17) (k : Sat (EC l D aI aL ad) M_X2_makeSum P 19 [(0, .ref (ad 13)), (3, .ref a3), (4, .int x4), (5, .int v17)] [] I J) : Sat (EC l D aI aL ad) M_X2_makeSum P 16 [(0, .ref (ad 13)), (3, .ref a3), (4, .int x4)] [] I J := by
  refine s_iconst (v := 0) dX2_makeSum_16 rfl ?_
  refine s_eqi f17 ?_
  refine s_istore [(5, .int v17), (0, .ref (ad 13)), (3, .ref a3), (4, .int x4)] dX2_makeSum_17 (Nat.lt_of_lt_of_le (Nat.lt_succ_self _) (Nat.le_of_ble_eq_true rfl)) rfl ?_
  refine s_pick [1, 2, 3, 0] [(0, .ref (ad 13)), (3, .ref a3), (4, .int x4), (5, .int v17)] rfl ?_; exact k
theorem bX2_makeSum_19 {l : Launch} {D : va_G} {aI aL : ClassId} {ad : Nat → Nat} {P : sa_P} {I : sa_I} {J : sa_J} {a3 q3 n3 : Nat} {x4 : Int32} {x5 : Int32} (hq3 : sa_iJ (EC l D aI aL ad) a3 q3 n3) (hn3 : n3 < 2 ^ 31)  (kt : I 4 0 ≤ x5 → Sat (EC l D aI aL ad) M_X2_makeSum P 52 [(0, .ref (ad 13))] [] I J) (kf : ¬ I 4 0 ≤ x5 → Sat (EC l D aI aL ad) M_X2_makeSum P 31 [(0, .ref (ad 13)), (3, .ref a3), (4, .int x4), (5, .int x5)] [] I J) : Sat (EC l D aI aL ad) M_X2_makeSum P 19 [(0, .ref (ad 13)), (3, .ref a3), (4, .int x4), (5, .int x5)] [] I J := by
  refine s_iload 3 dX2_makeSum_19 rfl ?_
  refine s_aload_n 0 dX2_makeSum_21 rfl ?_
  refine g_X2_31 dX2_makeSum_22 rfl ?_
  refine g_X2_35 dX2_makeSum_25 rfl ?_
  refine s_icmp_ge (tgt := 52) dX2_makeSum_28 (by decide) (fun c => ?_) (fun c => ?_)
  · refine s_pick [0] [(0, .ref (ad 13))] rfl ?_; exact kt c
  · exact kf c
theorem bX2_makeSum_31 {l : Launch} {D : va_G} {aI aL : ClassId} {ad : Nat → Nat} {P : sa_P} {I : sa_I} {J : sa_J} {a3 q3 n3 : Nat} {x4 : Int32} {x5 : Int32} (hq3 : sa_iJ (EC l D aI aL ad) a3 q3 n3) (hn3 : n3 < 2 ^ 31)  (k : Sat (EC l D aI aL ad) M_X2_makeSum P 43 [(0, .ref (ad 13)), (3, .ref a3), (4, .int x4), (5, .int x5)] [.int (x4 + ((3 : Int32) * x5)), .ref a3, .ref (ad 14)] I J) : Sat (EC l D aI aL ad) M_X2_makeSum P 31 [(0, .ref (ad 13)), (3, .ref a3), (4, .int x4), (5, .int x5)] [] I J := by
  refine s_aload_n 0 dX2_makeSum_31 rfl ?_
  refine g_X2_12 dX2_makeSum_32 rfl ?_
  refine s_aload_n 1 dX2_makeSum_35 rfl ?_
  refine s_iload 2 dX2_makeSum_36 rfl ?_
  refine s_iconst (v := 3) dX2_makeSum_38 rfl ?_
  refine s_iload 3 dX2_makeSum_39 rfl ?_
  refine s_imul dX2_makeSum_41 ?_
  refine s_iadd dX2_makeSum_42 ?_
  exact k
theorem bX2_makeSum_46 {l : Launch} {D : va_G} {aI aL : ClassId} {ad : Nat → Nat} {P : sa_P} {I : sa_I} {J : sa_J} {a3 q3 n3 : Nat} {x4 : Int32} {x5 : Int32} {v46 : Int32} (hq3 : sa_iJ (EC l D aI aL ad) a3 q3 n3) (hn3 : n3 < 2 ^ 31) (f46 : x5 + 1 = v46) (k : Sat (EC l D aI aL ad) M_X2_makeSum P 19 [(0, .ref (ad 13)), (3, .ref a3), (4, .int x4), (5, .int v46)] [] I J) : Sat (EC l D aI aL ad) M_X2_makeSum P 46 [(0, .ref (ad 13)), (3, .ref a3), (4, .int x4), (5, .int x5)] [] I J := by
  refine s_iinc 3 v46 [(5, .int v46), (0, .ref (ad 13)), (3, .ref a3), (4, .int x4)] dX2_makeSum_46 rfl f46 (Nat.lt_of_lt_of_le (Nat.lt_succ_self _) (Nat.le_of_ble_eq_true rfl)) rfl ?_
  refine s_goto (tgt := 19) dX2_makeSum_49 (by decide) ?_
  refine s_pick [1, 2, 3, 0] [(0, .ref (ad 13)), (3, .ref a3), (4, .int x4), (5, .int v46)] rfl ?_; exact k
theorem bX2_makeSum_52 {l : Launch} {D : va_G} {aI aL : ClassId} {ad : Nat → Nat} {P : sa_P} {I : sa_I} {J : sa_J}    (k : Sat (EC l D aI aL ad) M_X2_makeSum P 56 [] [.ref (ad 14)] I J) : Sat (EC l D aI aL ad) M_X2_makeSum P 52 [(0, .ref (ad 13))] [] I J := by
  refine s_aload_n 0 dX2_makeSum_52 rfl ?_
  refine g_X2_12 dX2_makeSum_53 rfl ?_
  refine s_pick [] [] rfl ?_; exact k
theorem bX2_makeSum_59 {l : Launch} {D : va_G} {aI aL : ClassId} {ad : Nat → Nat} {P : sa_P} {I : sa_I} {J : sa_J}    (k : P (none) I J) : Sat (EC l D aI aL ad) M_X2_makeSum P 59 [] [] I J := by
  exact s_vret rfl dX2_makeSum_59 k
/-! X2_makeProduct -/
theorem dX2_makeProduct_0 : decode cX2_makeProduct 0 = .ok (.aload_n 0, 1) := by decide +kernel
theorem dX2_makeProduct_1 : decode cX2_makeProduct 1 = .ok (.getfield 12, 3) := by decide +kernel
theorem dX2_makeProduct_4 : decode cX2_makeProduct 4 = .ok (.aload_n 0, 1) := by decide +kernel
theorem dX2_makeProduct_5 : decode cX2_makeProduct 5 = .ok (.getfield 31, 3) := by decide +kernel
theorem dX2_makeProduct_8 : decode cX2_makeProduct 8 = .ok (.getfield 35, 3) := by decide +kernel
theorem dX2_makeProduct_11 : decode cX2_makeProduct 11 = .ok (.aload_n 1, 1) := by decide +kernel
theorem dX2_makeProduct_12 : decode cX2_makeProduct 12 = .ok (.iload_n 2, 1) := by decide +kernel
theorem dX2_makeProduct_13 : decode cX2_makeProduct 13 = .ok (.laload, 1) := by decide +kernel
theorem dX2_makeProduct_14 : decode cX2_makeProduct 14 = .ok (.aload_n 3, 1) := by decide +kernel
theorem dX2_makeProduct_15 : decode cX2_makeProduct 15 = .ok (.iload 4, 2) := by decide +kernel
theorem dX2_makeProduct_17 : decode cX2_makeProduct 17 = .ok (.laload, 1) := by decide +kernel
theorem dX2_makeProduct_18 : decode cX2_makeProduct 18 = .ok (.lmul, 1) := by decide +kernel
theorem dX2_makeProduct_19 : decode cX2_makeProduct 19 = .ok (.invokevirtual 45, 3) := by decide +kernel
theorem dX2_makeProduct_22 : decode cX2_makeProduct 22 = .ok (.iconst 0, 1) := by decide +kernel
theorem dX2_makeProduct_23 : decode cX2_makeProduct 23 = .ok (.istore 5, 2) := by decide +kernel
theorem dX2_makeProduct_25 : decode cX2_makeProduct 25 = .ok (.iload 5, 2) := by decide +kernel
theorem dX2_makeProduct_27 : decode cX2_makeProduct 27 = .ok (.aload_n 0, 1) := by decide +kernel
theorem dX2_makeProduct_28 : decode cX2_makeProduct 28 = .ok (.getfield 31, 3) := by decide +kernel
theorem dX2_makeProduct_31 : decode cX2_makeProduct 31 = .ok (.getfield 35, 3) := by decide +kernel
theorem dX2_makeProduct_34 : decode cX2_makeProduct 34 = .ok (.if_icmp .ge 67, 3) := by decide +kernel
theorem dX2_makeProduct_37 : decode cX2_makeProduct 37 = .ok (.iconst 0, 1) := by decide +kernel
theorem dX2_makeProduct_38 : decode cX2_makeProduct 38 = .ok (.istore 6, 2) := by decide +kernel
theorem dX2_makeProduct_40 : decode cX2_makeProduct 40 = .ok (.iload 6, 2) := by decide +kernel
theorem dX2_makeProduct_42 : decode cX2_makeProduct 42 = .ok (.aload_n 0, 1) := by decide +kernel
theorem dX2_makeProduct_43 : decode cX2_makeProduct 43 = .ok (.getfield 31, 3) := by decide +kernel
theorem dX2_makeProduct_46 : decode cX2_makeProduct 46 = .ok (.getfield 35, 3) := by decide +kernel
theorem dX2_makeProduct_49 : decode cX2_makeProduct 49 = .ok (.if_icmp .ge 46, 3) := by decide +kernel
theorem dX2_makeProduct_52 : decode cX2_makeProduct 52 = .ok (.aload_n 0, 1) := by decide +kernel
theorem dX2_makeProduct_53 : decode cX2_makeProduct 53 = .ok (.getfield 31, 3) := by decide +kernel
theorem dX2_makeProduct_56 : decode cX2_makeProduct 56 = .ok (.aload_n 1, 1) := by decide +kernel
theorem dX2_makeProduct_57 : decode cX2_makeProduct 57 = .ok (.iload_n 2, 1) := by decide +kernel
theorem dX2_makeProduct_58 : decode cX2_makeProduct 58 = .ok (.iconst 3, 1) := by decide +kernel
theorem dX2_makeProduct_59 : decode cX2_makeProduct 59 = .ok (.iload 5, 2) := by decide +kernel
theorem dX2_makeProduct_61 : decode cX2_makeProduct 61 = .ok (.imul, 1) := by decide +kernel
theorem dX2_makeProduct_62 : decode cX2_makeProduct 62 = .ok (.iadd, 1) := by decide +kernel
theorem dX2_makeProduct_63 : decode cX2_makeProduct 63 = .ok (.aload_n 3, 1) := by decide +kernel
theorem dX2_makeProduct_64 : decode cX2_makeProduct 64 = .ok (.iload 4, 2) := by decide +kernel
theorem dX2_makeProduct_66 : decode cX2_makeProduct 66 = .ok (.iconst 3, 1) := by decide +kernel
theorem dX2_makeProduct_67 : decode cX2_makeProduct 67 = .ok (.iload 6, 2) := by decide +kernel
theorem dX2_makeProduct_69 : decode cX2_makeProduct 69 = .ok (.imul, 1) := by decide +kernel
theorem dX2_makeProduct_70 : decode cX2_makeProduct 70 = .ok (.iadd, 1) := by decide +kernel
theorem dX2_makeProduct_71 : decode cX2_makeProduct 71 = .ok (.invokevirtual 52, 3) := by decide +kernel
theorem dX2_makeProduct_74 : decode cX2_makeProduct 74 = .ok (.aload_n 0, 1) := by decide +kernel
theorem dX2_makeProduct_75 : decode cX2_makeProduct 75 = .ok (.getfield 12, 3) := by decide +kernel
theorem dX2_makeProduct_78 : decode cX2_makeProduct 78 = .ok (.aload_n 0, 1) := by decide +kernel
theorem dX2_makeProduct_79 : decode cX2_makeProduct 79 = .ok (.getfield 31, 3) := by decide +kernel
theorem dX2_makeProduct_82 : decode cX2_makeProduct 82 = .ok (.getfield 56, 3) := by decide +kernel
theorem dX2_makeProduct_85 : decode cX2_makeProduct 85 = .ok (.iconst 0, 1) := by decide +kernel
theorem dX2_makeProduct_86 : decode cX2_makeProduct 86 = .ok (.invokevirtual 59, 3) := by decide +kernel
theorem dX2_makeProduct_89 : decode cX2_makeProduct 89 = .ok (.iinc 6 1, 3) := by decide +kernel
theorem dX2_makeProduct_92 : decode cX2_makeProduct 92 = .ok (.goto (-52), 3) := by decide +kernel
theorem dX2_makeProduct_95 : decode cX2_makeProduct 95 = .ok (.iinc 5 1, 3) := by decide +kernel
theorem dX2_makeProduct_98 : decode cX2_makeProduct 98 = .ok (.goto (-73), 3) := by decide +kernel
theorem dX2_makeProduct_101 : decode cX2_makeProduct 101 = .ok (.aload_n 0, 1) := by decide +kernel
theorem dX2_makeProduct_102 : decode cX2_makeProduct 102 = .ok (.getfield 12, 3) := by decide +kernel
theorem dX2_makeProduct_105 : decode cX2_makeProduct 105 = .ok (.invokevirtual 63, 3) := by decide +kernel
theorem dX2_makeProduct_108 : decode cX2_makeProduct 108 = .ok (.return_, 1) := by decide +kernel
theorem bX2_makeProduct_0 {l : Launch} {D : va_G} {aI aL : ClassId} {ad : Nat → Nat} {P : sa_P} {I : sa_I} {J : sa_J} {a1 q1 n1 : Nat} {x2 : Int32} {a3 q3 n3 : Nat} {x4 : Int32} {j12 : Nat} {j15 : Nat} (hq1 : sa_iJ (EC l D aI aL ad) a1 q1 n1) (hn1 : n1 < 2 ^ 31) (hq3 : sa_iJ (EC l D aI aL ad) a3 q3 n3) (hn3 : n3 < 2 ^ 31) (e12 : x2 = nI j12) (h13 : j12 < n1) (e15 : x4 = nI j15) (h17 : j15 < n3)  (k : Sat (EC l D aI aL ad) M_X2_makeProduct P 19 [(0, .ref (ad 13)), (1, .ref a1), (2, .int x2), (3, .ref a3), (4, .int x4)] [.long ((J q1 j12) * (J q3 j15)), .int (I 4 0), .ref (ad 14)] I J) : Sat (EC l D aI aL ad) M_X2_makeProduct P 0 [(0, .ref (ad 13)), (1, .ref a1), (2, .int x2), (3, .ref a3), (4, .int x4)] [] I J := by
  refine s_aload_n 0 dX2_makeProduct_0 rfl ?_
  refine g_X2_12 dX2_makeProduct_1 rfl ?_
  refine s_aload_n 0 dX2_makeProduct_4 rfl ?_
  refine g_X2_31 dX2_makeProduct_5 rfl ?_
  refine g_X2_35 dX2_makeProduct_8 rfl ?_
  refine s_aload_n 1 dX2_makeProduct_11 rfl ?_
  refine s_iload_n 2 dX2_makeProduct_12 rfl ?_
  refine s_eqi e12 ?_
  refine s_laloadN hq1 h13 hn1 dX2_makeProduct_13 ?_
  refine s_aload_n 3 dX2_makeProduct_14 rfl ?_
  refine s_iload 4 dX2_makeProduct_15 rfl ?_
  refine s_eqi e15 ?_
  refine s_laloadN hq3 h17 hn3 dX2_makeProduct_17 ?_
  refine s_lmul dX2_makeProduct_18 ?_
  exact k
theorem bX2_makeProduct_22 {l : Launch} {D : va_G} {aI aL : ClassId} {ad : Nat → Nat} {P : sa_P} {I : sa_I} {J : sa_J} {a1 q1 n1 : Nat} {x2 : Int32} {a3 q3 n3 : Nat} {x4 : Int32} {v23 : Int32} (hq1 : sa_iJ (EC l D aI aL ad) a1 q1 n1) (hn1 : n1 < 2 ^ 31) (hq3 : sa_iJ (EC l D aI aL ad) a3 q3 n3) (hn3 : n3 < 2 ^ 31) (f23 : (0 : Int32) = v23) (k : Sat (EC l D aI aL ad) M_X2_makeProduct P 25 [(0, .ref (ad 13)), (1, .ref a1), (2, .int x2), (3, .ref a3), (4, .int x4), (5, .int v23)] [] I J) : Sat (EC l D aI aL ad) M_X2_makeProduct P 22 [(0, .ref (ad 13)), (1, .ref a1), (2, .int x2), (3, .ref a3), (4, .int x4)] [] I J := by
  refine s_iconst (v := 0) dX2_makeProduct_22 rfl ?_
  refine s_eqi f23 ?_
  refine s_istore [(5, .int v23), (0, .ref (ad 13)), (1, .ref a1), (2, .int x2), (3, .ref a3), (4, .int x4)] dX2_makeProduct_23 (Nat.lt_of_lt_of_le (Nat.lt_succ_self _) (Nat.le_of_ble_eq_true rfl)) rfl ?_
  refine s_pick [1, 2, 3, 4, 5, 0] [(0, .ref (ad 13)), (1, .ref a1), (2, .int x2), (3, .ref a3), (4, .int x4), (5, .int v23)] rfl ?_; exact k
theorem bX2_makeProduct_25 {l : Launch} {D : va_G} {aI aL : ClassId} {ad : Nat → Nat} {P : sa_P} {I : sa_I} {J : sa_J} {a1 q1 n1 : Nat} {x2 : Int32} {a3 q3 n3 : Nat} {x4 : Int32} {x5 : Int32} (hq1 : sa_iJ (EC l D aI aL ad) a1 q1 n1) (hn1 : n1 < 2 ^ 31) (hq3 : sa_iJ (EC l D aI aL ad) a3 q3 n3) (hn3 : n3 < 2 ^ 31)  (kt : I 4 0 ≤ x5 → Sat (EC l D aI aL ad) M_X2_makeProduct P 101 [(0, .ref (ad 13))] [] I J) (kf : ¬ I 4 0 ≤ x5 → Sat (EC l D aI aL ad) M_X2_makeProduct P 37 [(0, .ref (ad 13)), (1, .ref a1), (2, .int x2), (3, .ref a3), (4, .int x4), (5, .int x5)] [] I J) : Sat (EC l D aI aL ad) M_X2_makeProduct P 25 [(0, .ref (ad 13)), (1, .ref a1), (2, .int x2), (3, .ref a3), (4, .int x4), (5, .int x5)] [] I J := by
  refine s_iload 5 dX2_makeProduct_25 rfl ?_
  refine s_aload_n 0 dX2_makeProduct_27 rfl ?_
  refine g_X2_31 dX2_makeProduct_28 rfl ?_
  refine g_X2_35 dX2_makeProduct_31 rfl ?_
  refine s_icmp_ge (tgt := 101) dX2_makeProduct_34 (by decide) (fun c => ?_) (fun c => ?_)
  · refine s_pick [0] [(0, .ref (ad 13))] rfl ?_; exact kt c
  · exact kf c
theorem bX2_makeProduct_37 {l : Launch} {D : va_G} {aI aL : ClassId} {ad : Nat → Nat} {P : sa_P} {I : sa_I} {J : sa_J} {a1 q1 n1 : Nat} {x2 : Int32} {a3 q3 n3 : Nat} {x4 : Int32} {x5 : Int32} {v38 : Int32} (hq1 : sa_iJ (EC l D aI aL ad) a1 q1 n1) (hn1 : n1 < 2 ^ 31) (hq3 : sa_iJ (EC l D aI aL ad) a3 q3 n3) (hn3 : n3 < 2 ^ 31) (f38 : (0 : Int32) = v38) (k : Sat (EC l D aI aL ad) M_X2_makeProduct P 40 [(0, .ref (ad 13)), (1, .ref a1), (2, .int x2), (3, .ref a3), (4, .int x4), (5, .int x5), (6, .int v38)] [] I J) : Sat (EC l D aI aL ad) M_X2_makeProduct P 37 [(0, .ref (ad 13)), (1, .ref a1), (2, .int x2), (3, .ref a3), (4, .int x4), (5, .int x5)] [] I J := by
  refine s_iconst (v := 0) dX2_makeProduct_37 rfl ?_
  refine s_eqi f38 ?_
  refine s_istore [(6, .int v38), (0, .ref (ad 13)), (1, .ref a1), (2, .int x2), (3, .ref a3), (4, .int x4), (5, .int x5)] dX2_makeProduct_38 (Nat.lt_of_lt_of_le (Nat.lt_succ_self _) (Nat.le_of_ble_eq_true rfl)) rfl ?_
  refine s_pick [1, 2, 3, 4, 5, 6, 0] [(0, .ref (ad 13)), (1, .ref a1), (2, .int x2), (3, .ref a3), (4, .int x4), (5, .int x5), (6, .int v38)] rfl ?_; exact k
theorem bX2_makeProduct_40 {l : Launch} {D : va_G} {aI aL : ClassId} {ad : Nat → Nat} {P : sa_P} {I : sa_I} {J : sa_J} {a1 q1 n1 : Nat} {x2 : Int32} {a3 q3 n3 : Nat} {x4 : Int32} {x5 : Int32} {x6 : Int32} (hq1 : sa_iJ (EC l D aI aL ad) a1 q1 n1) (hn1 : n1 < 2 ^ 31) (hq3 : sa_iJ (EC l D aI aL ad) a3 q3 n3) (hn3 : n3 < 2 ^ 31)  (kt : I 4 0 ≤ x6 → Sat (EC l D aI aL ad) M_X2_makeProduct P 95 [(0, .ref (ad 13)), (1, .ref a1), (2, .int x2), (3, .ref a3), (4, .int x4), (5, .int x5)] [] I J) (kf : ¬ I 4 0 ≤ x6 → Sat (EC l D aI aL ad) M_X2_makeProduct P 52 [(0, .ref (ad 13)), (1, .ref a1), (2, .int x2), (3, .ref a3), (4, .int x4), (5, .int x5), (6, .int x6)] [] I J) : Sat (EC l D aI aL ad) M_X2_makeProduct P 40 [(0, .ref (ad 13)), (1, .ref a1), (2, .int x2), (3, .ref a3), (4, .int x4), (5, .int x5), (6, .int x6)] [] I J := by
  refine s_iload 6 dX2_makeProduct_40 rfl ?_
  refine s_aload_n 0 dX2_makeProduct_42 rfl ?_
  refine g_X2_31 dX2_makeProduct_43 rfl ?_
  refine g_X2_35 dX2_makeProduct_46 rfl ?_
  refine s_icmp_ge (tgt := 95) dX2_makeProduct_49 (by decide) (fun c => ?_) (fun c => ?_)
  · refine s_pick [0, 1, 2, 3, 4, 5] [(0, .ref (ad 13)), (1, .ref a1), (2, .int x2), (3, .ref a3), (4, .int x4), (5, .int x5)] rfl ?_; exact kt c
  · exact kf c
theorem bX2_makeProduct_52 {l : Launch} {D : va_G} {aI aL : ClassId} {ad : Nat → Nat} {P : sa_P} {I : sa_I} {J : sa_J} {a1 q1 n1 : Nat} {x2 : Int32} {a3 q3 n3 : Nat} {x4 : Int32} {x5 : Int32} {x6 : Int32} (hq1 : sa_iJ (EC l D aI aL ad) a1 q1 n1) (hn1 : n1 < 2 ^ 31) (hq3 : sa_iJ (EC l D aI aL ad) a3 q3 n3) (hn3 : n3 < 2 ^ 31)  (k : Sat (EC l D aI aL ad) M_X2_makeProduct P 71 [(0, .ref (ad 13)), (1, .ref a1), (2, .int x2), (3, .ref a3), (4, .int x4), (5, .int x5), (6, .int x6)] [.int (x4 + ((3 : Int32) * x6)), .ref a3, .int (x2 + ((3 : Int32) * x5)), .ref a1, .ref (ad 4)] I J) : Sat (EC l D aI aL ad) M_X2_makeProduct P 52 [(0, .ref (ad 13)), (1, .ref a1), (2, .int x2), (3, .ref a3), (4, .int x4), (5, .int x5), (6, .int x6)] [] I J := by
  refine s_aload_n 0 dX2_makeProduct_52 rfl ?_
  refine g_X2_31 dX2_makeProduct_53 rfl ?_
  refine s_aload_n 1 dX2_makeProduct_56 rfl ?_
  refine s_iload_n 2 dX2_makeProduct_57 rfl ?_
  refine s_iconst (v := 3) dX2_makeProduct_58 rfl ?_
  refine s_iload 5 dX2_makeProduct_59 rfl ?_
  refine s_imul dX2_makeProduct_61 ?_
  refine s_iadd dX2_makeProduct_62 ?_
  refine s_aload_n 3 dX2_makeProduct_63 rfl ?_
  refine s_iload 4 dX2_makeProduct_64 rfl ?_
  refine s_iconst (v := 3) dX2_makeProduct_66 rfl ?_
  refine s_iload 6 dX2_makeProduct_67 rfl ?_
  refine s_imul dX2_makeProduct_69 ?_
  refine s_iadd dX2_makeProduct_70 ?_
  exact k
theorem bX2_makeProduct_74 {l : Launch} {D : va_G} {aI aL : ClassId} {ad : Nat → Nat} {P : sa_P} {I : sa_I} {J : sa_J} {a1 q1 n1 : Nat} {x2 : Int32} {a3 q3 n3 : Nat} {x4 : Int32} {x5 : Int32} {x6 : Int32} (hq1 : sa_iJ (EC l D aI aL ad) a1 q1 n1) (hn1 : n1 < 2 ^ 31) (hq3 : sa_iJ (EC l D aI aL ad) a3 q3 n3) (hn3 : n3 < 2 ^ 31)  (k : Sat (EC l D aI aL ad) M_X2_makeProduct P 86 [(0, .ref (ad 13)), (1, .ref a1), (2, .int x2), (3, .ref a3), (4, .int x4), (5, .int x5), (6, .int x6)] [.int (0 : Int32), .ref (ad 9), .ref (ad 14)] I J) : Sat (EC l D aI aL ad) M_X2_makeProduct P 74 [(0, .ref (ad 13)), (1, .ref a1), (2, .int x2), (3, .ref a3), (4, .int x4), (5, .int x5), (6, .int x6)] [] I J := by
  refine s_aload_n 0 dX2_makeProduct_74 rfl ?_
  refine g_X2_12 dX2_makeProduct_75 rfl ?_
  refine s_aload_n 0 dX2_makeProduct_78 rfl ?_
  refine g_X2_31 dX2_makeProduct_79 rfl ?_
  refine g_X2_56 dX2_makeProduct_82 rfl ?_
  refine s_iconst (v := 0) dX2_makeProduct_85 rfl ?_
  exact k
theorem bX2_makeProduct_89 {l : Launch} {D : va_G} {aI aL : ClassId} {ad : Nat → Nat} {P : sa_P} {I : sa_I} {J : sa_J} {a1 q1 n1 : Nat} {x2 : Int32} {a3 q3 n3 : Nat} {x4 : Int32} {x5 : Int32} {x6 : Int32} {v89 : Int32} (hq1 : sa_iJ (EC l D aI aL ad) a1 q1 n1) (hn1 : n1 < 2 ^ 31) (hq3 : sa_iJ (EC l D aI aL ad) a3 q3 n3) (hn3 : n3 < 2 ^ 31) (f89 : x6 + 1 = v89) (k : Sat (EC l D aI aL ad) M_X2_makeProduct P 40 [(0, .ref (ad 13)), (1, .ref a1), (2, .int x2), (3, .ref a3), (4, .int x4), (5, .int x5), (6, .int v89)] [] I J) : Sat (EC l D aI aL ad) M_X2_makeProduct P 89 [(0, .ref (ad 13)), (1, .ref a1), (2, .int x2), (3, .ref a3), (4, .int x4), (5, .int x5), (6, .int x6)] [] I J := by
  refine s_iinc 6 v89 [(6, .int v89), (0, .ref (ad 13)), (1, .ref a1), (2, .int x2), (3, .ref a3), (4, .int x4), (5, .int x5)] dX2_makeProduct_89 rfl f89 (Nat.lt_of_lt_of_le (Nat.lt_succ_self _) (Nat.le_of_ble_eq_true rfl)) rfl ?_
  refine s_goto (tgt := 40) dX2_makeProduct_92 (by decide) ?_
  refine s_pick [1, 2, 3, 4, 5, 6, 0] [(0, .ref (ad 13)), (1, .ref a1), (2, .int x2), (3, .ref a3), (4, .int x4), (5, .int x5), (6, .int v89)] rfl ?_; exact k
theorem bX2_makeProduct_95 {l : Launch} {D : va_G} {aI aL : ClassId} {ad : Nat → Nat} {P : sa_P} {I : sa_I} {J : sa_J} {a1 q1 n1 : Nat} {x2 : Int32} {a3 q3 n3 : Nat} {x4 : Int32} {x5 : Int32} {v95 : Int32} (hq1 : sa_iJ (EC l D aI aL ad) a1 q1 n1) (hn1 : n1 < 2 ^ 31) (hq3 : sa_iJ (EC l D aI aL ad) a3 q3 n3) (hn3 : n3 < 2 ^ 31) (f95 : x5 + 1 = v95) (k : Sat (EC l D aI aL ad) M_X2_makeProduct P 25 [(0, .ref (ad 13)), (1, .ref a1), (2, .int x2), (3, .ref a3), (4, .int x4), (5, .int v95)] [] I J) : Sat (EC l D aI aL ad) M_X2_makeProduct P 95 [(0, .ref (ad 13)), (1, .ref a1), (2, .int x2), (3, .ref a3), (4, .int x4), (5, .int x5)] [] I J := by
  refine s_iinc 5 v95 [(5, .int v95), (0, .ref (ad 13)), (1, .ref a1), (2, .int x2), (3, .ref a3), (4, .int x4)] dX2_makeProduct_95 rfl f95 (Nat.lt_of_lt_of_le (Nat.lt_succ_self _) (Nat.le_of_ble_eq_true rfl)) rfl ?_
  refine s_goto (tgt := 25) dX2_makeProduct_98 (by decide) ?_
  refine s_pick [1, 2, 3, 4, 5, 0] [(0, .ref (ad 13)), (1, .ref a1), (2, .int x2), (3, .ref a3), (4, .int x4), (5, .int v95)] rfl ?_; exact k
theorem bX2_makeProduct_101 {l : Launch} {D : va_G} {aI aL : ClassId} {ad : Nat → Nat} {P : sa_P} {I : sa_I} {J : sa_J}    (k : Sat (EC l D aI aL ad) M_X2_makeProduct P 105 [] [.ref (ad 14)] I J) : Sat (EC l D aI aL ad) M_X2_makeProduct P 101 [(0, .ref (ad 13))] [] I J := by
  refine s_aload_n 0 dX2_makeProduct_101 rfl ?_
  refine g_X2_12 dX2_makeProduct_102 rfl ?_
  refine s_pick [] [] rfl ?_; exact k
theorem bX2_makeProduct_108 {l : Launch} {D : va_G} {aI aL : ClassId} {ad : Nat → Nat} {P : sa_P} {I : sa_I} {J : sa_J}    (k : P (none) I J) : Sat (EC l D aI aL ad) M_X2_makeProduct P 108 [] [] I J := by
  exact s_vret rfl dX2_makeProduct_108 k
/-! X2_makeQuotient -/
theorem dX2_makeQuotient_0 : decode cX2_makeQuotient 0 = .ok (.aload_n 0, 1) := by decide +kernel
theorem dX2_makeQuotient_1 : decode cX2_makeQuotient 1 = .ok (.aload_n 1, 1) := by decide +kernel
theorem dX2_makeQuotient_2 : decode cX2_makeQuotient 2 = .ok (.iload_n 2, 1) := by decide +kernel
theorem dX2_makeQuotient_3 : decode cX2_makeQuotient 3 = .ok (.invokevirtual 66, 3) := by decide +kernel
theorem dX2_makeQuotient_6 : decode cX2_makeQuotient 6 = .ok (.aload_n 1, 1) := by decide +kernel
theorem dX2_makeQuotient_7 : decode cX2_makeQuotient 7 = .ok (.iload_n 2, 1) := by decide +kernel
theorem dX2_makeQuotient_8 : decode cX2_makeQuotient 8 = .ok (.invokestatic 69, 3) := by decide +kernel
theorem dX2_makeQuotient_11 : decode cX2_makeQuotient 11 = .ok (.lstore 5, 2) := by decide +kernel
theorem dX2_makeQuotient_13 : decode cX2_makeQuotient 13 = .ok (.aload_n 1, 1) := by decide +kernel
theorem dX2_makeQuotient_14 : decode cX2_makeQuotient 14 = .ok (.iload_n 2, 1) := by decide +kernel
theorem dX2_makeQuotient_15 : decode cX2_makeQuotient 15 = .ok (.laload, 1) := by decide +kernel
theorem dX2_makeQuotient_16 : decode cX2_makeQuotient 16 = .ok (.lstore 7, 2) := by decide +kernel
theorem dX2_makeQuotient_18 : decode cX2_makeQuotient 18 = .ok (.aload_n 0, 1) := by decide +kernel
theorem dX2_makeQuotient_19 : decode cX2_makeQuotient 19 = .ok (.getfield 12, 3) := by decide +kernel
theorem dX2_makeQuotient_22 : decode cX2_makeQuotient 22 = .ok (.aload_n 0, 1) := by decide +kernel
theorem dX2_makeQuotient_23 : decode cX2_makeQuotient 23 = .ok (.getfield 31, 3) := by decide +kernel
theorem dX2_makeQuotient_26 : decode cX2_makeQuotient 26 = .ok (.getfield 35, 3) := by decide +kernel
theorem dX2_makeQuotient_29 : decode cX2_makeQuotient 29 = .ok (.lconst 1, 1) := by decide +kernel
theorem dX2_makeQuotient_30 : decode cX2_makeQuotient 30 = .ok (.invokevirtual 45, 3) := by decide +kernel
theorem dX2_makeQuotient_33 : decode cX2_makeQuotient 33 = .ok (.iconst 0, 1) := by decide +kernel
theorem dX2_makeQuotient_34 : decode cX2_makeQuotient 34 = .ok (.istore 9, 2) := by decide +kernel
theorem dX2_makeQuotient_36 : decode cX2_makeQuotient 36 = .ok (.iload 9, 2) := by decide +kernel
theorem dX2_makeQuotient_38 : decode cX2_makeQuotient 38 = .ok (.aload_n 0, 1) := by decide +kernel
theorem dX2_makeQuotient_39 : decode cX2_makeQuotient 39 = .ok (.getfield 31, 3) := by decide +kernel
theorem dX2_makeQuotient_42 : decode cX2_makeQuotient 42 = .ok (.getfield 35, 3) := by decide +kernel
theorem dX2_makeQuotient_45 : decode cX2_makeQuotient 45 = .ok (.if_icmp .ge 65, 3) := by decide +kernel
theorem dX2_makeQuotient_48 : decode cX2_makeQuotient 48 = .ok (.iconst 0, 1) := by decide +kernel
theorem dX2_makeQuotient_49 : decode cX2_makeQuotient 49 = .ok (.istore 10, 2) := by decide +kernel
theorem dX2_makeQuotient_51 : decode cX2_makeQuotient 51 = .ok (.iload 10, 2) := by decide +kernel
theorem dX2_makeQuotient_53 : decode cX2_makeQuotient 53 = .ok (.aload_n 0, 1) := by decide +kernel
theorem dX2_makeQuotient_54 : decode cX2_makeQuotient 54 = .ok (.getfield 31, 3) := by decide +kernel
theorem dX2_makeQuotient_57 : decode cX2_makeQuotient 57 = .ok (.getfield 35, 3) := by decide +kernel
theorem dX2_makeQuotient_60 : decode cX2_makeQuotient 60 = .ok (.if_icmp .ge 44, 3) := by decide +kernel
theorem dX2_makeQuotient_63 : decode cX2_makeQuotient 63 = .ok (.aload_n 0, 1) := by decide +kernel
theorem dX2_makeQuotient_64 : decode cX2_makeQuotient 64 = .ok (.aload_n 3, 1) := by decide +kernel
theorem dX2_makeQuotient_65 : decode cX2_makeQuotient 65 = .ok (.iload 4, 2) := by decide +kernel
theorem dX2_makeQuotient_67 : decode cX2_makeQuotient 67 = .ok (.iconst 3, 1) := by decide +kernel
theorem dX2_makeQuotient_68 : decode cX2_makeQuotient 68 = .ok (.iload 9, 2) := by decide +kernel
theorem dX2_makeQuotient_70 : decode cX2_makeQuotient 70 = .ok (.imul, 1) := by decide +kernel
theorem dX2_makeQuotient_71 : decode cX2_makeQuotient 71 = .ok (.iadd, 1) := by decide +kernel
theorem dX2_makeQuotient_72 : decode cX2_makeQuotient 72 = .ok (.iconst 3, 1) := by decide +kernel
theorem dX2_makeQuotient_73 : decode cX2_makeQuotient 73 = .ok (.iload 10, 2) := by decide +kernel
theorem dX2_makeQuotient_75 : decode cX2_makeQuotient 75 = .ok (.imul, 1) := by decide +kernel
theorem dX2_makeQuotient_76 : decode cX2_makeQuotient 76 = .ok (.lload 5, 2) := by decide +kernel
theorem dX2_makeQuotient_78 : decode cX2_makeQuotient 78 = .ok (.invokevirtual 73, 3) := by decide +kernel
theorem dX2_makeQuotient_81 : decode cX2_makeQuotient 81 = .ok (.ifCond .eq 17, 3) := by decide +kernel
theorem dX2_makeQuotient_84 : decode cX2_makeQuotient 84 = .ok (.aload_n 0, 1) := by decide +kernel
theorem dX2_makeQuotient_85 : decode cX2_makeQuotient 85 = .ok (.lload 7, 2) := by decide +kernel
theorem dX2_makeQuotient_87 : decode cX2_makeQuotient 87 = .ok (.invokevirtual 77, 3) := by decide +kernel
theorem dX2_makeQuotient_90 : decode cX2_makeQuotient 90 = .ok (.aload_n 0, 1) := by decide +kernel
theorem dX2_makeQuotient_91 : decode cX2_makeQuotient 91 = .ok (.lload 5, 2) := by decide +kernel
theorem dX2_makeQuotient_93 : decode cX2_makeQuotient 93 = .ok (.lload 7, 2) := by decide +kernel
theorem dX2_makeQuotient_95 : decode cX2_makeQuotient 95 = .ok (.invokevirtual 81, 3) := by decide +kernel
theorem dX2_makeQuotient_98 : decode cX2_makeQuotient 98 = .ok (.iinc 10 1, 3) := by decide +kernel
theorem dX2_makeQuotient_101 : decode cX2_makeQuotient 101 = .ok (.goto (-50), 3) := by decide +kernel
theorem dX2_makeQuotient_104 : decode cX2_makeQuotient 104 = .ok (.iinc 9 1, 3) := by decide +kernel
theorem dX2_makeQuotient_107 : decode cX2_makeQuotient 107 = .ok (.goto (-71), 3) := by decide +kernel
theorem dX2_makeQuotient_110 : decode cX2_makeQuotient 110 = .ok (.return_, 1) := by decide +kernel
theorem bX2_makeQuotient_0 {l : Launch} {D : va_G} {aI aL : ClassId} {ad : Nat → Nat} {P : sa_P} {I : sa_I} {J : sa_J} {a1 q1 n1 : Nat} {x2 : Int32} {a3 q3 n3 : Nat} {x4 : Int32} (hq1 : sa_iJ (EC l D aI aL ad) a1 q1 n1) (hn1 : n1 < 2 ^ 31) (hq3 : sa_iJ (EC l D aI aL ad) a3 q3 n3) (hn3 : n3 < 2 ^ 31)  (k : Sat (EC l D aI aL ad) M_X2_makeQuotient P 3 [(0, .ref (ad 13)), (1, .ref a1), (2, .int x2), (3, .ref a3), (4, .int x4)] [.int x2, .ref a1, .ref (ad 13)] I J) : Sat (EC l D aI aL ad) M_X2_makeQuotient P 0 [(0, .ref (ad 13)), (1, .ref a1), (2, .int x2), (3, .ref a3), (4, .int x4)] [] I J := by
  refine s_aload_n 0 dX2_makeQuotient_0 rfl ?_
  refine s_aload_n 1 dX2_makeQuotient_1 rfl ?_
  refine s_iload_n 2 dX2_makeQuotient_2 rfl ?_
  exact k
theorem bX2_makeQuotient_6 {l : Launch} {D : va_G} {aI aL : ClassId} {ad : Nat → Nat} {P : sa_P} {I : sa_I} {J : sa_J} {a1 q1 n1 : Nat} {x2 : Int32} {a3 q3 n3 : Nat} {x4 : Int32} (hq1 : sa_iJ (EC l D aI aL ad) a1 q1 n1) (hn1 : n1 < 2 ^ 31) (hq3 : sa_iJ (EC l D aI aL ad) a3 q3 n3) (hn3 : n3 < 2 ^ 31)  (k : Sat (EC l D aI aL ad) M_X2_makeQuotient P 8 [(0, .ref (ad 13)), (1, .ref a1), (2, .int x2), (3, .ref a3), (4, .int x4)] [.int x2, .ref a1] I J) : Sat (EC l D aI aL ad) M_X2_makeQuotient P 6 [(0, .ref (ad 13)), (1, .ref a1), (2, .int x2), (3, .ref a3), (4, .int x4)] [] I J := by
  refine s_aload_n 1 dX2_makeQuotient_6 rfl ?_
  refine s_iload_n 2 dX2_makeQuotient_7 rfl ?_
  exact k
theorem bX2_makeQuotient_11 {l : Launch} {D : va_G} {aI aL : ClassId} {ad : Nat → Nat} {P : sa_P} {I : sa_I} {J : sa_J} {a1 q1 n1 : Nat} {x2 : Int32} {a3 q3 n3 : Nat} {x4 : Int32} {s0 : Int64} {j14 : Nat} {v16 : Int64} (hq1 : sa_iJ (EC l D aI aL ad) a1 q1 n1) (hn1 : n1 < 2 ^ 31) (hq3 : sa_iJ (EC l D aI aL ad) a3 q3 n3) (hn3 : n3 < 2 ^ 31) (e14 : x2 = nI j14) (h15 : j14 < n1) (f16 : J q1 j14 = v16) (k : Sat (EC l D aI aL ad) M_X2_makeQuotient P 30 [(0, .ref (ad 13)), (3, .ref a3), (4, .int x4), (5, .long s0), (7, .long v16)] [.long (1 : Int64), .int (I 4 0), .ref (ad 14)] I J) : Sat (EC l D aI aL ad) M_X2_makeQuotient P 11 [(0, .ref (ad 13)), (1, .ref a1), (2, .int x2), (3, .ref a3), (4, .int x4)] [.long s0] I J := by
  refine s_lstore [(5, .long s0), (0, .ref (ad 13)), (1, .ref a1), (2, .int x2), (3, .ref a3), (4, .int x4)] dX2_makeQuotient_11 (Nat.lt_of_lt_of_le (Nat.lt_succ_self _) (Nat.le_of_ble_eq_true rfl)) rfl ?_
  refine s_aload_n 2 dX2_makeQuotient_13 rfl ?_
  refine s_iload_n 3 dX2_makeQuotient_14 rfl ?_
  refine s_eqi e14 ?_
  refine s_laloadN hq1 h15 hn1 dX2_makeQuotient_15 ?_
  refine s_eql f16 ?_
  refine s_lstore [(7, .long v16), (5, .long s0), (0, .ref (ad 13)), (1, .ref a1), (2, .int x2), (3, .ref a3), (4, .int x4)] dX2_makeQuotient_16 (Nat.lt_of_lt_of_le (Nat.lt_succ_self _) (Nat.le_of_ble_eq_true rfl)) rfl ?_
  refine s_aload_n 2 dX2_makeQuotient_18 rfl ?_
  refine g_X2_12 dX2_makeQuotient_19 rfl ?_
  refine s_aload_n 2 dX2_makeQuotient_22 rfl ?_
  refine g_X2_31 dX2_makeQuotient_23 rfl ?_
  refine g_X2_35 dX2_makeQuotient_26 rfl ?_
  refine s_lconst (v := 1) dX2_makeQuotient_29 rfl ?_
  refine s_pick [2, 5, 6, 1, 0] [(0, .ref (ad 13)), (3, .ref a3), (4, .int x4), (5, .long s0), (7, .long v16)] rfl ?_; exact k
theorem bX2_makeQuotient_33 {l : Launch} {D : va_G} {aI aL : ClassId} {ad : Nat → Nat} {P : sa_P} {I : sa_I} {J : sa_J} {a3 q3 n3 : Nat} {x4 : Int32} {x5 : Int64} {x7 : Int64} {v34 : Int32} (hq3 : sa_iJ (EC l D aI aL ad) a3 q3 n3) (hn3 : n3 < 2 ^ 31) (f34 : (0 : Int32) = v34) (k : Sat (EC l D aI aL ad) M_X2_makeQuotient P 36 [(0, .ref (ad 13)), (3, .ref a3), (4, .int x4), (5, .long x5), (7, .long x7), (9, .int v34)] [] I J) : Sat (EC l D aI aL ad) M_X2_makeQuotient P 33 [(0, .ref (ad 13)), (3, .ref a3), (4, .int x4), (5, .long x5), (7, .long x7)] [] I J := by
  refine s_iconst (v := 0) dX2_makeQuotient_33 rfl ?_
  refine s_eqi f34 ?_
  refine s_istore [(9, .int v34), (0, .ref (ad 13)), (3, .ref a3), (4, .int x4), (5, .long x5), (7, .long x7)] dX2_makeQuotient_34 (Nat.lt_of_lt_of_le (Nat.lt_succ_self _) (Nat.le_of_ble_eq_true rfl)) rfl ?_
  refine s_pick [1, 2, 3, 4, 5, 0] [(0, .ref (ad 13)), (3, .ref a3), (4, .int x4), (5, .long x5), (7, .long x7), (9, .int v34)] rfl ?_; exact k
theorem bX2_makeQuotient_36 {l : Launch} {D : va_G} {aI aL : ClassId} {ad : Nat → Nat} {P : sa_P} {I : sa_I} {J : sa_J} {a3 q3 n3 : Nat} {x4 : Int32} {x5 : Int64} {x7 : Int64} {x9 : Int32} (hq3 : sa_iJ (EC l D aI aL ad) a3 q3 n3) (hn3 : n3 < 2 ^ 31)  (kt : I 4 0 ≤ x9 → Sat (EC l D aI aL ad) M_X2_makeQuotient P 110 [] [] I J) (kf : ¬ I 4 0 ≤ x9 → Sat (EC l D aI aL ad) M_X2_makeQuotient P 48 [(0, .ref (ad 13)), (3, .ref a3), (4, .int x4), (5, .long x5), (7, .long x7), (9, .int x9)] [] I J) : Sat (EC l D aI aL ad) M_X2_makeQuotient P 36 [(0, .ref (ad 13)), (3, .ref a3), (4, .int x4), (5, .long x5), (7, .long x7), (9, .int x9)] [] I J := by
  refine s_iload 5 dX2_makeQuotient_36 rfl ?_
  refine s_aload_n 0 dX2_makeQuotient_38 rfl ?_
  refine g_X2_31 dX2_makeQuotient_39 rfl ?_
  refine g_X2_35 dX2_makeQuotient_42 rfl ?_
  refine s_icmp_ge (tgt := 110) dX2_makeQuotient_45 (by decide) (fun c => ?_) (fun c => ?_)
  · refine s_pick [] [] rfl ?_; exact kt c
  · exact kf c
theorem bX2_makeQuotient_48 {l : Launch} {D : va_G} {aI aL : ClassId} {ad : Nat → Nat} {P : sa_P} {I : sa_I} {J : sa_J} {a3 q3 n3 : Nat} {x4 : Int32} {x5 : Int64} {x7 : Int64} {x9 : Int32} {v49 : Int32} (hq3 : sa_iJ (EC l D aI aL ad) a3 q3 n3) (hn3 : n3 < 2 ^ 31) (f49 : (0 : Int32) = v49) (k : Sat (EC l D aI aL ad) M_X2_makeQuotient P 51 [(0, .ref (ad 13)), (3, .ref a3), (4, .int x4), (5, .long x5), (7, .long x7), (9, .int x9), (10, .int v49)] [] I J) : Sat (EC l D aI aL ad) M_X2_makeQuotient P 48 [(0, .ref (ad 13)), (3, .ref a3), (4, .int x4), (5, .long x5), (7, .long x7), (9, .int x9)] [] I J := by
  refine s_iconst (v := 0) dX2_makeQuotient_48 rfl ?_
  refine s_eqi f49 ?_
  refine s_istore [(10, .int v49), (0, .ref (ad 13)), (3, .ref a3), (4, .int x4), (5, .long x5), (7, .long x7), (9, .int x9)] dX2_makeQuotient_49 (Nat.lt_of_lt_of_le (Nat.lt_succ_self _) (Nat.le_of_ble_eq_true rfl)) rfl ?_
  refine s_pick [1, 2, 3, 4, 5, 6, 0] [(0, .ref (ad 13)), (3, .ref a3), (4, .int x4), (5, .long x5), (7, .long x7), (9, .int x9), (10, .int v49)] rfl ?_; exact k
theorem bX2_makeQuotient_51 {l : Launch} {D : va_G} {aI aL : ClassId} {ad : Nat → Nat} {P : sa_P} {I : sa_I} {J : sa_J} {a3 q3 n3 : Nat} {x4 : Int32} {x5 : Int64} {x7 : Int64} {x9 : Int32} {x10 : Int32} (hq3 : sa_iJ (EC l D aI aL ad) a3 q3 n3) (hn3 : n3 < 2 ^ 31)  (kt : I 4 0 ≤ x10 → Sat (EC l D aI aL ad) M_X2_makeQuotient P 104 [(0, .ref (ad 13)), (3, .ref a3), (4, .int x4), (5, .long x5), (7, .long x7), (9, .int x9)] [] I J) (kf : ¬ I 4 0 ≤ x10 → Sat (EC l D aI aL ad) M_X2_makeQuotient P 63 [(0, .ref (ad 13)), (3, .ref a3), (4, .int x4), (5, .long x5), (7, .long x7), (9, .int x9), (10, .int x10)] [] I J) : Sat (EC l D aI aL ad) M_X2_makeQuotient P 51 [(0, .ref (ad 13)), (3, .ref a3), (4, .int x4), (5, .long x5), (7, .long x7), (9, .int x9), (10, .int x10)] [] I J := by
  refine s_iload 6 dX2_makeQuotient_51 rfl ?_
  refine s_aload_n 0 dX2_makeQuotient_53 rfl ?_
  refine g_X2_31 dX2_makeQuotient_54 rfl ?_
  refine g_X2_35 dX2_makeQuotient_57 rfl ?_
  refine s_icmp_ge (tgt := 104) dX2_makeQuotient_60 (by decide) (fun c => ?_) (fun c => ?_)
  · refine s_pick [0, 1, 2, 3, 4, 5] [(0, .ref (ad 13)), (3, .ref a3), (4, .int x4), (5, .long x5), (7, .long x7), (9, .int x9)] rfl ?_; exact kt c
  · exact kf c
theorem bX2_makeQuotient_63 {l : Launch} {D : va_G} {aI aL : ClassId} {ad : Nat → Nat} {P : sa_P} {I : sa_I} {J : sa_J} {a3 q3 n3 : Nat} {x4 : Int32} {x5 : Int64} {x7 : Int64} {x9 : Int32} {x10 : Int32} (hq3 : sa_iJ (EC l D aI aL ad) a3 q3 n3) (hn3 : n3 < 2 ^ 31)  (k : Sat (EC l D aI aL ad) M_X2_makeQuotient P 78 [(0, .ref (ad 13)), (3, .ref a3), (4, .int x4), (5, .long x5), (7, .long x7), (9, .int x9), (10, .int x10)] [.long x5, .int ((3 : Int32) * x10), .int (x4 + ((3 : Int32) * x9)), .ref a3, .ref (ad 13)] I J) : Sat (EC l D aI aL ad) M_X2_makeQuotient P 63 [(0, .ref (ad 13)), (3, .ref a3), (4, .int x4), (5, .long x5), (7, .long x7), (9, .int x9), (10, .int x10)] [] I J := by
  refine s_aload_n 0 dX2_makeQuotient_63 rfl ?_
  refine s_aload_n 1 dX2_makeQuotient_64 rfl ?_
  refine s_iload 2 dX2_makeQuotient_65 rfl ?_
  refine s_iconst (v := 3) dX2_makeQuotient_67 rfl ?_
  refine s_iload 5 dX2_makeQuotient_68 rfl ?_
  refine s_imul dX2_makeQuotient_70 ?_
  refine s_iadd dX2_makeQuotient_71 ?_
  refine s_iconst (v := 3) dX2_makeQuotient_72 rfl ?_
  refine s_iload 6 dX2_makeQuotient_73 rfl ?_
  refine s_imul dX2_makeQuotient_75 ?_
  refine s_lload 3 dX2_makeQuotient_76 rfl ?_
  exact k
theorem bX2_makeQuotient_81 {l : Launch} {D : va_G} {aI aL : ClassId} {ad : Nat → Nat} {P : sa_P} {I : sa_I} {J : sa_J} {a3 q3 n3 : Nat} {x4 : Int32} {x5 : Int64} {x7 : Int64} {x9 : Int32} {x10 : Int32} {s0 : Int32} (hq3 : sa_iJ (EC l D aI aL ad) a3 q3 n3) (hn3 : n3 < 2 ^ 31)  (kt : s0 = 0 → Sat (EC l D aI aL ad) M_X2_makeQuotient P 98 [(0, .ref (ad 13)), (3, .ref a3), (4, .int x4), (5, .long x5), (7, .long x7), (9, .int x9), (10, .int x10)] [] I J) (kf : ¬ s0 = 0 → Sat (EC l D aI aL ad) M_X2_makeQuotient P 84 [(0, .ref (ad 13)), (3, .ref a3), (4, .int x4), (5, .long x5), (7, .long x7), (9, .int x9), (10, .int x10)] [] I J) : Sat (EC l D aI aL ad) M_X2_makeQuotient P 81 [(0, .ref (ad 13)), (3, .ref a3), (4, .int x4), (5, .long x5), (7, .long x7), (9, .int x9), (10, .int x10)] [.int s0] I J := by
  refine s_if_eq (tgt := 98) dX2_makeQuotient_81 (by decide) (fun c => ?_) (fun c => ?_)
  · exact kt c
  · exact kf c
theorem bX2_makeQuotient_84 {l : Launch} {D : va_G} {aI aL : ClassId} {ad : Nat → Nat} {P : sa_P} {I : sa_I} {J : sa_J} {a3 q3 n3 : Nat} {x4 : Int32} {x5 : Int64} {x7 : Int64} {x9 : Int32} {x10 : Int32} (hq3 : sa_iJ (EC l D aI aL ad) a3 q3 n3) (hn3 : n3 < 2 ^ 31)  (k : Sat (EC l D aI aL ad) M_X2_makeQuotient P 87 [(0, .ref (ad 13)), (3, .ref a3), (4, .int x4), (5, .long x5), (7, .long x7), (9, .int x9), (10, .int x10)] [.long x7, .ref (ad 13)] I J) : Sat (EC l D aI aL ad) M_X2_makeQuotient P 84 [(0, .ref (ad 13)), (3, .ref a3), (4, .int x4), (5, .long x5), (7, .long x7), (9, .int x9), (10, .int x10)] [] I J := by
  refine s_aload_n 0 dX2_makeQuotient_84 rfl ?_
  refine s_lload 4 dX2_makeQuotient_85 rfl ?_
  exact k
theorem bX2_makeQuotient_90 {l : Launch} {D : va_G} {aI aL : ClassId} {ad : Nat → Nat} {P : sa_P} {I : sa_I} {J : sa_J} {a3 q3 n3 : Nat} {x4 : Int32} {x5 : Int64} {x7 : Int64} {x9 : Int32} {x10 : Int32} (hq3 : sa_iJ (EC l D aI aL ad) a3 q3 n3) (hn3 : n3 < 2 ^ 31)  (k : Sat (EC l D aI aL ad) M_X2_makeQuotient P 95 [(0, .ref (ad 13)), (3, .ref a3), (4, .int x4), (5, .long x5), (7, .long x7), (9, .int x9), (10, .int x10)] [.long x7, .long x5, .ref (ad 13)] I J) : Sat (EC l D aI aL ad) M_X2_makeQuotient P 90 [(0, .ref (ad 13)), (3, .ref a3), (4, .int x4), (5, .long x5), (7, .long x7), (9, .int x9), (10, .int x10)] [] I J := by
  refine s_aload_n 0 dX2_makeQuotient_90 rfl ?_
  refine s_lload 3 dX2_makeQuotient_91 rfl ?_
  refine s_lload 4 dX2_makeQuotient_93 rfl ?_
  exact k
theorem bX2_makeQuotient_98 {l : Launch} {D : va_G} {aI aL : ClassId} {ad : Nat → Nat} {P : sa_P} {I : sa_I} {J : sa_J} {a3 q3 n3 : Nat} {x4 : Int32} {x5 : Int64} {x7 : Int64} {x9 : Int32} {x10 : Int32} {v98 : Int32} (hq3 : sa_iJ (EC l D aI aL ad) a3 q3 n3) (hn3 : n3 < 2 ^ 31) (f98 : x10 + 1 = v98) (k : Sat (EC l D aI aL ad) M_X2_makeQuotient P 51 [(0, .ref (ad 13)), (3, .ref a3), (4, .int x4), (5, .long x5), (7, .long x7), (9, .int x9), (10, .int v98)] [] I J) : Sat (EC l D aI aL ad) M_X2_makeQuotient P 98 [(0, .ref (ad 13)), (3, .ref a3), (4, .int x4), (5, .long x5), (7, .long x7), (9, .int x9), (10, .int x10)] [] I J := by
  refine s_iinc 6 v98 [(10, .int v98), (0, .ref (ad 13)), (3, .ref a3), (4, .int x4), (5, .long x5), (7, .long x7), (9, .int x9)] dX2_makeQuotient_98 rfl f98 (Nat.lt_of_lt_of_le (Nat.lt_succ_self _) (Nat.le_of_ble_eq_true rfl)) rfl ?_
  refine s_goto (tgt := 51) dX2_makeQuotient_101 (by decide) ?_
  refine s_pick [1, 2, 3, 4, 5, 6, 0] [(0, .ref (ad 13)), (3, .ref a3), (4, .int x4), (5, .long x5), (7, .long x7), (9, .int x9), (10, .int v98)] rfl ?_; exact k
theorem bX2_makeQuotient_104 {l : Launch} {D : va_G} {aI aL : ClassId} {ad : Nat → Nat} {P : sa_P} {I : sa_I} {J : sa_J} {a3 q3 n3 : Nat} {x4 : Int32} {x5 : Int64} {x7 : Int64} {x9 : Int32} {v104 : Int32} (hq3 : sa_iJ (EC l D aI aL ad) a3 q3 n3) (hn3 : n3 < 2 ^ 31) (f104 : x9 + 1 = v104) (k : Sat (EC l D aI aL ad) M_X2_makeQuotient P 36 [(0, .ref (ad 13)), (3, .ref a3), (4, .int x4), (5, .long x5), (7, .long x7), (9, .int v104)] [] I J) : Sat (EC l D aI aL ad) M_X2_makeQuotient P 104 [(0, .ref (ad 13)), (3, .ref a3), (4, .int x4), (5, .long x5), (7, .long x7), (9, .int x9)] [] I J := by
  refine s_iinc 5 v104 [(9, .int v104), (0, .ref (ad 13)), (3, .ref a3), (4, .int x4), (5, .long x5), (7, .long x7)] dX2_makeQuotient_104 rfl f104 (Nat.lt_of_lt_of_le (Nat.lt_succ_self _) (Nat.le_of_ble_eq_true rfl)) rfl ?_
  refine s_goto (tgt := 36) dX2_makeQuotient_107 (by decide) ?_
  refine s_pick [1, 2, 3, 4, 5, 0] [(0, .ref (ad 13)), (3, .ref a3), (4, .int x4), (5, .long x5), (7, .long x7), (9, .int v104)] rfl ?_; exact k
theorem bX2_makeQuotient_110 {l : Launch} {D : va_G} {aI aL : ClassId} {ad : Nat → Nat} {P : sa_P} {I : sa_I} {J : sa_J}    (k : P (none) I J) : Sat (EC l D aI aL ad) M_X2_makeQuotient P 110 [] [] I J := by
  exact s_vret rfl dX2_makeQuotient_110 k
/-! X2_startAll -/
theorem dX2_startAll_0 : decode cX2_startAll 0 = .ok (.iconst 0, 1) := by decide +kernel
theorem dX2_startAll_1 : decode cX2_startAll 1 = .ok (.istore_n 1, 1) := by decide +kernel
theorem dX2_startAll_2 : decode cX2_startAll 2 = .ok (.iload_n 1, 1) := by decide +kernel
theorem dX2_startAll_3 : decode cX2_startAll 3 = .ok (.bipush 9, 2) := by decide +kernel
theorem dX2_startAll_5 : decode cX2_startAll 5 = .ok (.if_icmp .ge 26, 3) := by decide +kernel
theorem dX2_startAll_8 : decode cX2_startAll 8 = .ok (.aload_n 0, 1) := by decide +kernel
theorem dX2_startAll_9 : decode cX2_startAll 9 = .ok (.getfield 22, 3) := by decide +kernel
theorem dX2_startAll_12 : decode cX2_startAll 12 = .ok (.iload_n 1, 1) := by decide +kernel
theorem dX2_startAll_13 : decode cX2_startAll 13 = .ok (.iload_n 1, 1) := by decide +kernel
theorem dX2_startAll_14 : decode cX2_startAll 14 = .ok (.iconst 4, 1) := by decide +kernel
theorem dX2_startAll_15 : decode cX2_startAll 15 = .ok (.irem, 1) := by decide +kernel
theorem dX2_startAll_16 : decode cX2_startAll 16 = .ok (.ifCond .ne 7, 3) := by decide +kernel
theorem dX2_startAll_19 : decode cX2_startAll 19 = .ok (.lconst 1, 1) := by decide +kernel
theorem dX2_startAll_20 : decode cX2_startAll 20 = .ok (.goto 4, 3) := by decide +kernel
theorem dX2_startAll_23 : decode cX2_startAll 23 = .ok (.lconst 0, 1) := by decide +kernel
theorem dX2_startAll_24 : decode cX2_startAll 24 = .ok (.lastore, 1) := by decide +kernel
theorem dX2_startAll_25 : decode cX2_startAll 25 = .ok (.iinc 1 1, 3) := by decide +kernel
theorem dX2_startAll_28 : decode cX2_startAll 28 = .ok (.goto (-26), 3) := by decide +kernel
theorem dX2_startAll_31 : decode cX2_startAll 31 = .ok (.return_, 1) := by decide +kernel
theorem bX2_startAll_0 {l : Launch} {D : va_G} {aI aL : ClassId} {ad : Nat → Nat} {P : sa_P} {I : sa_I} {J : sa_J} {v1 : Int32}  (f1 : (0 : Int32) = v1) (k : Sat (EC l D aI aL ad) M_X2_startAll P 2 [(0, .ref (ad 13)), (1, .int v1)] [] I J) : Sat (EC l D aI aL ad) M_X2_startAll P 0 [(0, .ref (ad 13))] [] I J := by
  refine s_iconst (v := 0) dX2_startAll_0 rfl ?_
  refine s_eqi f1 ?_
  refine s_istore_n [(1, .int v1), (0, .ref (ad 13))] dX2_startAll_1 (Nat.lt_of_lt_of_le (Nat.lt_succ_self _) (Nat.le_of_ble_eq_true rfl)) rfl ?_
  refine s_pick [1, 0] [(0, .ref (ad 13)), (1, .int v1)] rfl ?_; exact k
theorem bX2_startAll_2 {l : Launch} {D : va_G} {aI aL : ClassId} {ad : Nat → Nat} {P : sa_P} {I : sa_I} {J : sa_J} {x1 : Int32}   (kt : (9 : Int32) ≤ x1 → Sat (EC l D aI aL ad) M_X2_startAll P 31 [] [] I J) (kf : ¬ (9 : Int32) ≤ x1 → Sat (EC l D aI aL ad) M_X2_startAll P 8 [(0, .ref (ad 13)), (1, .int x1)] [] I J) : Sat (EC l D aI aL ad) M_X2_startAll P 2 [(0, .ref (ad 13)), (1, .int x1)] [] I J := by
  refine s_iload_n 1 dX2_startAll_2 rfl ?_
  refine s_bipush (v := 9) dX2_startAll_3 rfl ?_
  refine s_icmp_ge (tgt := 31) dX2_startAll_5 (by decide) (fun c => ?_) (fun c => ?_)
  · refine s_pick [] [] rfl ?_; exact kt c
  · exact kf c
theorem bX2_startAll_8 {l : Launch} {D : va_G} {aI aL : ClassId} {ad : Nat → Nat} {P : sa_P} {I : sa_I} {J : sa_J} {x1 : Int32}   (kt : ¬ x1 - x1 / (4 : Int32) * (4 : Int32) = 0 → Sat (EC l D aI aL ad) M_X2_startAll P 23 [(0, .ref (ad 13)), (1, .int x1)] [.int x1, .ref (ad 18)] I J) (kf : x1 - x1 / (4 : Int32) * (4 : Int32) = 0 → Sat (EC l D aI aL ad) M_X2_startAll P 19 [(0, .ref (ad 13)), (1, .int x1)] [.int x1, .ref (ad 18)] I J) : Sat (EC l D aI aL ad) M_X2_startAll P 8 [(0, .ref (ad 13)), (1, .int x1)] [] I J := by
  refine s_aload_n 0 dX2_startAll_8 rfl ?_
  refine g_X2_22 dX2_startAll_9 rfl ?_
  refine s_iload_n 1 dX2_startAll_12 rfl ?_
  refine s_iload_n 1 dX2_startAll_13 rfl ?_
  refine s_iconst (v := 4) dX2_startAll_14 rfl ?_
  refine s_irem dX2_startAll_15 (by decide) ?_
  refine s_if_ne (tgt := 23) dX2_startAll_16 (by decide) (fun c => ?_) (fun c => ?_)
  · exact kt c
  · exact kf (by first | exact c | exact Classical.not_not.mp c)
theorem bX2_startAll_19 {l : Launch} {D : va_G} {aI aL : ClassId} {ad : Nat → Nat} {P : sa_P} {I : sa_I} {J : sa_J} {x1 : Int32} {s1 : Int32}   (k : Sat (EC l D aI aL ad) M_X2_startAll P 24 [(0, .ref (ad 13)), (1, .int x1)] [.long (1 : Int64), .int s1, .ref (ad 18)] I J) : Sat (EC l D aI aL ad) M_X2_startAll P 19 [(0, .ref (ad 13)), (1, .int x1)] [.int s1, .ref (ad 18)] I J := by
  refine s_lconst (v := 1) dX2_startAll_19 rfl ?_
  refine s_goto (tgt := 24) dX2_startAll_20 (by decide) ?_
  exact k
theorem bX2_startAll_23 {l : Launch} {D : va_G} {aI aL : ClassId} {ad : Nat → Nat} {P : sa_P} {I : sa_I} {J : sa_J} {x1 : Int32} {s1 : Int32}   (k : Sat (EC l D aI aL ad) M_X2_startAll P 24 [(0, .ref (ad 13)), (1, .int x1)] [.long (0 : Int64), .int s1, .ref (ad 18)] I J) : Sat (EC l D aI aL ad) M_X2_startAll P 23 [(0, .ref (ad 13)), (1, .int x1)] [.int s1, .ref (ad 18)] I J := by
  refine s_lconst (v := 0) dX2_startAll_23 rfl ?_
  exact k
theorem bX2_startAll_24 {l : Launch} {D : va_G} {aI aL : ClassId} {ad : Nat → Nat} {P : sa_P} {I : sa_I} {J : sa_J} {x1 : Int32} {s1 : Nat} {s2 : Int64} {v25 : Int32} (h24 : s1 < 9) (f25 : x1 + 1 = v25) (k : Sat (EC l D aI aL ad) M_X2_startAll P 2 [(0, .ref (ad 13)), (1, .int v25)] [] I (sa_uJ J 18 s1 s2)) : Sat (EC l D aI aL ad) M_X2_startAll P 24 [(0, .ref (ad 13)), (1, .int x1)] [.long s2, .int (nI s1), .ref (ad 18)] I J := by
  refine s_lastoreN aJ_C18 h24 (by decide) dX2_startAll_24 ?_
  refine s_iinc 1 v25 [(1, .int v25), (0, .ref (ad 13))] dX2_startAll_25 rfl f25 (Nat.lt_of_lt_of_le (Nat.lt_succ_self _) (Nat.le_of_ble_eq_true rfl)) rfl ?_
  refine s_goto (tgt := 2) dX2_startAll_28 (by decide) ?_
  refine s_pick [1, 0] [(0, .ref (ad 13)), (1, .int v25)] rfl ?_; exact k
theorem bX2_startAll_31 {l : Launch} {D : va_G} {aI aL : ClassId} {ad : Nat → Nat} {P : sa_P} {I : sa_I} {J : sa_J}    (k : P (none) I J) : Sat (EC l D aI aL ad) M_X2_startAll P 31 [] [] I J := by
  exact s_vret rfl dX2_startAll_31 k
/-! X2_setTests -/
theorem dX2_setTests_0 : decode cX2_setTests 0 = .ok (.aload_n 0, 1) := by decide +kernel
theorem dX2_setTests_1 : decode cX2_setTests 1 = .ok (.getfield 25, 3) := by decide +kernel
theorem dX2_setTests_4 : decode cX2_setTests 4 = .ok (.iconst 0, 1) := by decide +kernel
theorem dX2_setTests_5 : decode cX2_setTests 5 = .ok (.aload_n 1, 1) := by decide +kernel
theorem dX2_setTests_6 : decode cX2_setTests 6 = .ok (.iload_n 2, 1) := by decide +kernel
theorem dX2_setTests_7 : decode cX2_setTests 7 = .ok (.iconst 4, 1) := by decide +kernel
theorem dX2_setTests_8 : decode cX2_setTests 8 = .ok (.iadd, 1) := by decide +kernel
theorem dX2_setTests_9 : decode cX2_setTests 9 = .ok (.laload, 1) := by decide +kernel
theorem dX2_setTests_10 : decode cX2_setTests 10 = .ok (.aload_n 1, 1) := by decide +kernel
theorem dX2_setTests_11 : decode cX2_setTests 11 = .ok (.iload_n 2, 1) := by decide +kernel
theorem dX2_setTests_12 : decode cX2_setTests 12 = .ok (.bipush 8, 2) := by decide +kernel
theorem dX2_setTests_14 : decode cX2_setTests 14 = .ok (.iadd, 1) := by decide +kernel
theorem dX2_setTests_15 : decode cX2_setTests 15 = .ok (.laload, 1) := by decide +kernel
theorem dX2_setTests_16 : decode cX2_setTests 16 = .ok (.lmul, 1) := by decide +kernel
theorem dX2_setTests_17 : decode cX2_setTests 17 = .ok (.lastore, 1) := by decide +kernel
theorem dX2_setTests_18 : decode cX2_setTests 18 = .ok (.aload_n 0, 1) := by decide +kernel
theorem dX2_setTests_19 : decode cX2_setTests 19 = .ok (.getfield 25, 3) := by decide +kernel
theorem dX2_setTests_22 : decode cX2_setTests 22 = .ok (.iconst 1, 1) := by decide +kernel
theorem dX2_setTests_23 : decode cX2_setTests 23 = .ok (.aload_n 1, 1) := by decide +kernel
theorem dX2_setTests_24 : decode cX2_setTests 24 = .ok (.iload_n 2, 1) := by decide +kernel
theorem dX2_setTests_25 : decode cX2_setTests 25 = .ok (.iconst 3, 1) := by decide +kernel
theorem dX2_setTests_26 : decode cX2_setTests 26 = .ok (.iadd, 1) := by decide +kernel
theorem dX2_setTests_27 : decode cX2_setTests 27 = .ok (.laload, 1) := by decide +kernel
theorem dX2_setTests_28 : decode cX2_setTests 28 = .ok (.lneg, 1) := by decide +kernel
theorem dX2_setTests_29 : decode cX2_setTests 29 = .ok (.aload_n 1, 1) := by decide +kernel
theorem dX2_setTests_30 : decode cX2_setTests 30 = .ok (.iload_n 2, 1) := by decide +kernel
theorem dX2_setTests_31 : decode cX2_setTests 31 = .ok (.bipush 8, 2) := by decide +kernel
theorem dX2_setTests_33 : decode cX2_setTests 33 = .ok (.iadd, 1) := by decide +kernel
theorem dX2_setTests_34 : decode cX2_setTests 34 = .ok (.laload, 1) := by decide +kernel
theorem dX2_setTests_35 : decode cX2_setTests 35 = .ok (.lmul, 1) := by decide +kernel
theorem dX2_setTests_36 : decode cX2_setTests 36 = .ok (.lastore, 1) := by decide +kernel
theorem dX2_setTests_37 : decode cX2_setTests 37 = .ok (.aload_n 0, 1) := by decide +kernel
theorem dX2_setTests_38 : decode cX2_setTests 38 = .ok (.getfield 25, 3) := by decide +kernel
theorem dX2_setTests_41 : decode cX2_setTests 41 = .ok (.iconst 2, 1) := by decide +kernel
theorem dX2_setTests_42 : decode cX2_setTests 42 = .ok (.aload_n 1, 1) := by decide +kernel
theorem dX2_setTests_43 : decode cX2_setTests 43 = .ok (.iload_n 2, 1) := by decide +kernel
theorem dX2_setTests_44 : decode cX2_setTests 44 = .ok (.iconst 3, 1) := by decide +kernel
theorem dX2_setTests_45 : decode cX2_setTests 45 = .ok (.iadd, 1) := by decide +kernel
theorem dX2_setTests_46 : decode cX2_setTests 46 = .ok (.laload, 1) := by decide +kernel
theorem dX2_setTests_47 : decode cX2_setTests 47 = .ok (.aload_n 1, 1) := by decide +kernel
theorem dX2_setTests_48 : decode cX2_setTests 48 = .ok (.iload_n 2, 1) := by decide +kernel
theorem dX2_setTests_49 : decode cX2_setTests 49 = .ok (.bipush 7, 2) := by decide +kernel
theorem dX2_setTests_51 : decode cX2_setTests 51 = .ok (.iadd, 1) := by decide +kernel
theorem dX2_setTests_52 : decode cX2_setTests 52 = .ok (.laload, 1) := by decide +kernel
theorem dX2_setTests_53 : decode cX2_setTests 53 = .ok (.lmul, 1) := by decide +kernel
theorem dX2_setTests_54 : decode cX2_setTests 54 = .ok (.aload_n 1, 1) := by decide +kernel
theorem dX2_setTests_55 : decode cX2_setTests 55 = .ok (.iload_n 2, 1) := by decide +kernel
theorem dX2_setTests_56 : decode cX2_setTests 56 = .ok (.bipush 6, 2) := by decide +kernel
theorem dX2_setTests_58 : decode cX2_setTests 58 = .ok (.iadd, 1) := by decide +kernel
theorem dX2_setTests_59 : decode cX2_setTests 59 = .ok (.laload, 1) := by decide +kernel
theorem dX2_setTests_60 : decode cX2_setTests 60 = .ok (.aload_n 1, 1) := by decide +kernel
theorem dX2_setTests_61 : decode cX2_setTests 61 = .ok (.iload_n 2, 1) := by decide +kernel
theorem dX2_setTests_62 : decode cX2_setTests 62 = .ok (.iconst 4, 1) := by decide +kernel
theorem dX2_setTests_63 : decode cX2_setTests 63 = .ok (.iadd, 1) := by decide +kernel
theorem dX2_setTests_64 : decode cX2_setTests 64 = .ok (.laload, 1) := by decide +kernel
theorem dX2_setTests_65 : decode cX2_setTests 65 = .ok (.lmul, 1) := by decide +kernel
theorem dX2_setTests_66 : decode cX2_setTests 66 = .ok (.lsub, 1) := by decide +kernel
theorem dX2_setTests_67 : decode cX2_setTests 67 = .ok (.lastore, 1) := by decide +kernel
theorem dX2_setTests_68 : decode cX2_setTests 68 = .ok (.aload_n 0, 1) := by decide +kernel
theorem dX2_setTests_69 : decode cX2_setTests 69 = .ok (.getfield 25, 3) := by decide +kernel
theorem dX2_setTests_72 : decode cX2_setTests 72 = .ok (.iconst 3, 1) := by decide +kernel
theorem dX2_setTests_73 : decode cX2_setTests 73 = .ok (.lconst 0, 1) := by decide +kernel
theorem dX2_setTests_74 : decode cX2_setTests 74 = .ok (.lastore, 1) := by decide +kernel
theorem dX2_setTests_75 : decode cX2_setTests 75 = .ok (.aload_n 0, 1) := by decide +kernel
theorem dX2_setTests_76 : decode cX2_setTests 76 = .ok (.getfield 25, 3) := by decide +kernel
theorem dX2_setTests_79 : decode cX2_setTests 79 = .ok (.iconst 4, 1) := by decide +kernel
theorem dX2_setTests_80 : decode cX2_setTests 80 = .ok (.aload_n 1, 1) := by decide +kernel
theorem dX2_setTests_81 : decode cX2_setTests 81 = .ok (.iload_n 2, 1) := by decide +kernel
theorem dX2_setTests_82 : decode cX2_setTests 82 = .ok (.laload, 1) := by decide +kernel
theorem dX2_setTests_83 : decode cX2_setTests 83 = .ok (.aload_n 1, 1) := by decide +kernel
theorem dX2_setTests_84 : decode cX2_setTests 84 = .ok (.iload_n 2, 1) := by decide +kernel
theorem dX2_setTests_85 : decode cX2_setTests 85 = .ok (.bipush 8, 2) := by decide +kernel
theorem dX2_setTests_87 : decode cX2_setTests 87 = .ok (.iadd, 1) := by decide +kernel
theorem dX2_setTests_88 : decode cX2_setTests 88 = .ok (.laload, 1) := by decide +kernel
theorem dX2_setTests_89 : decode cX2_setTests 89 = .ok (.lmul, 1) := by decide +kernel
theorem dX2_setTests_90 : decode cX2_setTests 90 = .ok (.lastore, 1) := by decide +kernel
theorem dX2_setTests_91 : decode cX2_setTests 91 = .ok (.aload_n 0, 1) := by decide +kernel
theorem dX2_setTests_92 : decode cX2_setTests 92 = .ok (.getfield 25, 3) := by decide +kernel
theorem dX2_setTests_95 : decode cX2_setTests 95 = .ok (.iconst 5, 1) := by decide +kernel
theorem dX2_setTests_96 : decode cX2_setTests 96 = .ok (.aload_n 1, 1) := by decide +kernel
theorem dX2_setTests_97 : decode cX2_setTests 97 = .ok (.iload_n 2, 1) := by decide +kernel
theorem dX2_setTests_98 : decode cX2_setTests 98 = .ok (.laload, 1) := by decide +kernel
theorem dX2_setTests_99 : decode cX2_setTests 99 = .ok (.lneg, 1) := by decide +kernel
theorem dX2_setTests_100 : decode cX2_setTests 100 = .ok (.aload_n 1, 1) := by decide +kernel
theorem dX2_setTests_101 : decode cX2_setTests 101 = .ok (.iload_n 2, 1) := by decide +kernel
theorem dX2_setTests_102 : decode cX2_setTests 102 = .ok (.bipush 7, 2) := by decide +kernel
theorem dX2_setTests_104 : decode cX2_setTests 104 = .ok (.iadd, 1) := by decide +kernel
theorem dX2_setTests_105 : decode cX2_setTests 105 = .ok (.laload, 1) := by decide +kernel
theorem dX2_setTests_106 : decode cX2_setTests 106 = .ok (.lmul, 1) := by decide +kernel
theorem dX2_setTests_107 : decode cX2_setTests 107 = .ok (.lastore, 1) := by decide +kernel
theorem dX2_setTests_108 : decode cX2_setTests 108 = .ok (.aload_n 0, 1) := by decide +kernel
theorem dX2_setTests_109 : decode cX2_setTests 109 = .ok (.getfield 25, 3) := by decide +kernel
theorem dX2_setTests_112 : decode cX2_setTests 112 = .ok (.bipush 6, 2) := by decide +kernel
theorem dX2_setTests_114 : decode cX2_setTests 114 = .ok (.lconst 0, 1) := by decide +kernel
theorem dX2_setTests_115 : decode cX2_setTests 115 = .ok (.lastore, 1) := by decide +kernel
theorem dX2_setTests_116 : decode cX2_setTests 116 = .ok (.aload_n 0, 1) := by decide +kernel
theorem dX2_setTests_117 : decode cX2_setTests 117 = .ok (.getfield 25, 3) := by decide +kernel
theorem dX2_setTests_120 : decode cX2_setTests 120 = .ok (.bipush 7, 2) := by decide +kernel
theorem dX2_setTests_122 : decode cX2_setTests 122 = .ok (.lconst 0, 1) := by decide +kernel
theorem dX2_setTests_123 : decode cX2_setTests 123 = .ok (.lastore, 1) := by decide +kernel
theorem dX2_setTests_124 : decode cX2_setTests 124 = .ok (.aload_n 0, 1) := by decide +kernel
theorem dX2_setTests_125 : decode cX2_setTests 125 = .ok (.getfield 25, 3) := by decide +kernel
theorem dX2_setTests_128 : decode cX2_setTests 128 = .ok (.bipush 8, 2) := by decide +kernel
theorem dX2_setTests_130 : decode cX2_setTests 130 = .ok (.aload_n 1, 1) := by decide +kernel
theorem dX2_setTests_131 : decode cX2_setTests 131 = .ok (.iload_n 2, 1) := by decide +kernel
theorem dX2_setTests_132 : decode cX2_setTests 132 = .ok (.laload, 1) := by decide +kernel
theorem dX2_setTests_133 : decode cX2_setTests 133 = .ok (.aload_n 1, 1) := by decide +kernel
theorem dX2_setTests_134 : decode cX2_setTests 134 = .ok (.iload_n 2, 1) := by decide +kernel
theorem dX2_setTests_135 : decode cX2_setTests 135 = .ok (.iconst 4, 1) := by decide +kernel
theorem dX2_setTests_136 : decode cX2_setTests 136 = .ok (.iadd, 1) := by decide +kernel
theorem dX2_setTests_137 : decode cX2_setTests 137 = .ok (.laload, 1) := by decide +kernel
theorem dX2_setTests_138 : decode cX2_setTests 138 = .ok (.lmul, 1) := by decide +kernel
theorem dX2_setTests_139 : decode cX2_setTests 139 = .ok (.lastore, 1) := by decide +kernel
theorem dX2_setTests_140 : decode cX2_setTests 140 = .ok (.return_, 1) := by decide +kernel
theorem bX2_setTests_0 {l : Launch} {D : va_G} {aI aL : ClassId} {ad : Nat → Nat} {P : sa_P} {I : sa_I} {J : sa_J} {a1 q1 n1 : Nat} {x2 : Int32} {j8 : Nat} {j14 : Nat} {v17 : Int64} {j26 : Nat} {j33 : Nat} {v36 : Int64} {j45 : Nat} {j51 : Nat} {j58 : Nat} {j63 : Nat} {v67 : Int64} {v74 : Int64} {j81 : Nat} {j87 : Nat} {v90 : Int64} {j97 : Nat} {j104 : Nat} {v107 : Int64} {v115 : Int64} {v123 : Int64} {j131 : Nat} {j136 : Nat} {v139 : Int64} (hq1 : sa_iJ (EC l D aI aL ad) a1 q1 n1) (hn1 : n1 < 2 ^ 31) (e8 : x2 + (4 : Int32) = nI j8) (h9 : j8 < n1) (e14 : x2 + (8 : Int32) = nI j14) (h15 : j14 < n1) (e26 : x2 + (3 : Int32) = nI j26) (h27 : j26 < n1) (e33 : x2 + (8 : Int32) = nI j33) (h34 : j33 < n1) (e45 : x2 + (3 : Int32) = nI j45) (h46 : j45 < n1) (e51 : x2 + (7 : Int32) = nI j51) (h52 : j51 < n1) (e58 : x2 + (6 : Int32) = nI j58) (h59 : j58 < n1) (e63 : x2 + (4 : Int32) = nI j63) (h64 : j63 < n1) (e81 : x2 = nI j81) (h82 : j81 < n1) (e87 : x2 + (8 : Int32) = nI j87) (h88 : j87 < n1) (e97 : x2 = nI j97) (h98 : j97 < n1) (e104 : x2 + (7 : Int32) = nI j104) (h105 : j104 < n1) (e131 : x2 = nI j131) (h132 : j131 < n1) (e136 : x2 + (4 : Int32) = nI j136) (h137 : j136 < n1) (f17 : (J q1 j8) * (J q1 j14) = v17) (f36 : (-((sa_uJ J 19 0 v17) q1 j26)) * ((sa_uJ J 19 0 v17) q1 j33) = v36) (f67 : (((sa_uJ (sa_uJ J 19 0 v17) 19 1 v36) q1 j45) * ((sa_uJ (sa_uJ J 19 0 v17) 19 1 v36) q1 j51)) - (((sa_uJ (sa_uJ J 19 0 v17) 19 1 v36) q1 j58) * ((sa_uJ (sa_uJ J 19 0 v17) 19 1 v36) q1 j63)) = v67) (f74 : (0 : Int64) = v74) (f90 : ((sa_uJ (sa_uJ (sa_uJ (sa_uJ J 19 0 v17) 19 1 v36) 19 2 v67) 19 3 v74) q1 j81) * ((sa_uJ (sa_uJ (sa_uJ (sa_uJ J 19 0 v17) 19 1 v36) 19 2 v67) 19 3 v74) q1 j87) = v90) (f107 : (-((sa_uJ (sa_uJ (sa_uJ (sa_uJ (sa_uJ J 19 0 v17) 19 1 v36) 19 2 v67) 19 3 v74) 19 4 v90) q1 j97)) * ((sa_uJ (sa_uJ (sa_uJ (sa_uJ (sa_uJ J 19 0 v17) 19 1 v36) 19 2 v67) 19 3 v74) 19 4 v90) q1 j104) = v107) (f115 : (0 : Int64) = v115) (f123 : (0 : Int64) = v123) (f139 : ((sa_uJ (sa_uJ (sa_uJ (sa_uJ (sa_uJ (sa_uJ (sa_uJ (sa_uJ J 19 0 v17) 19 1 v36) 19 2 v67) 19 3 v74) 19 4 v90) 19 5 v107) 19 6 v115) 19 7 v123) q1 j131) * ((sa_uJ (sa_uJ (sa_uJ (sa_uJ (sa_uJ (sa_uJ (sa_uJ (sa_uJ J 19 0 v17) 19 1 v36) 19 2 v67) 19 3 v74) 19 4 v90) 19 5 v107) 19 6 v115) 19 7 v123) q1 j136) = v139) (k : P (none) I (sa_uJ (sa_uJ (sa_uJ (sa_uJ (sa_uJ (sa_uJ (sa_uJ (sa_uJ (sa_uJ J 19 0 v17) 19 1 v36) 19 2 v67) 19 3 v74) 19 4 v90) 19 5 v107) 19 6 v115) 19 7 v123) 19 8 v139)) : Sat (EC l D aI aL ad) M_X2_setTests P 0 [(0, .ref (ad 13)), (1, .ref a1), (2, .int x2)] [] I J := by
  refine s_aload_n 0 dX2_setTests_0 rfl ?_
  refine g_X2_25 dX2_setTests_1 rfl ?_
  refine s_iconst (v := 0) dX2_setTests_4 rfl ?_
  refine s_eqi (y := nI 0) rfl ?_
  refine s_aload_n 1 dX2_setTests_5 rfl ?_
  refine s_iload_n 2 dX2_setTests_6 rfl ?_
  refine s_iconst (v := 4) dX2_setTests_7 rfl ?_
  refine s_iadd dX2_setTests_8 ?_
  refine s_eqi e8 ?_
  refine s_laloadN hq1 h9 hn1 dX2_setTests_9 ?_
  refine s_aload_n 1 dX2_setTests_10 rfl ?_
  refine s_iload_n 2 dX2_setTests_11 rfl ?_
  refine s_bipush (v := 8) dX2_setTests_12 rfl ?_
  refine s_iadd dX2_setTests_14 ?_
  refine s_eqi e14 ?_
  refine s_laloadN hq1 h15 hn1 dX2_setTests_15 ?_
  refine s_lmul dX2_setTests_16 ?_
  refine s_eql f17 ?_
  refine s_lastoreN aJ_C19 (by decide) (by decide) dX2_setTests_17 ?_
  refine s_aload_n 0 dX2_setTests_18 rfl ?_
  refine g_X2_25 dX2_setTests_19 rfl ?_
  refine s_iconst (v := 1) dX2_setTests_22 rfl ?_
  refine s_eqi (y := nI 1) rfl ?_
  refine s_aload_n 1 dX2_setTests_23 rfl ?_
  refine s_iload_n 2 dX2_setTests_24 rfl ?_
  refine s_iconst (v := 3) dX2_setTests_25 rfl ?_
  refine s_iadd dX2_setTests_26 ?_
  refine s_eqi e26 ?_
  refine s_laloadN hq1 h27 hn1 dX2_setTests_27 ?_
  refine s_lneg dX2_setTests_28 ?_
  refine s_aload_n 1 dX2_setTests_29 rfl ?_
  refine s_iload_n 2 dX2_setTests_30 rfl ?_
  refine s_bipush (v := 8) dX2_setTests_31 rfl ?_
  refine s_iadd dX2_setTests_33 ?_
  refine s_eqi e33 ?_
  refine s_laloadN hq1 h34 hn1 dX2_setTests_34 ?_
  refine s_lmul dX2_setTests_35 ?_
  refine s_eql f36 ?_
  refine s_lastoreN aJ_C19 (by decide) (by decide) dX2_setTests_36 ?_
  refine s_aload_n 0 dX2_setTests_37 rfl ?_
  refine g_X2_25 dX2_setTests_38 rfl ?_
  refine s_iconst (v := 2) dX2_setTests_41 rfl ?_
  refine s_eqi (y := nI 2) rfl ?_
  refine s_aload_n 1 dX2_setTests_42 rfl ?_
  refine s_iload_n 2 dX2_setTests_43 rfl ?_
  refine s_iconst (v := 3) dX2_setTests_44 rfl ?_
  refine s_iadd dX2_setTests_45 ?_
  refine s_eqi e45 ?_
  refine s_laloadN hq1 h46 hn1 dX2_setTests_46 ?_
  refine s_aload_n 1 dX2_setTests_47 rfl ?_
  refine s_iload_n 2 dX2_setTests_48 rfl ?_
  refine s_bipush (v := 7) dX2_setTests_49 rfl ?_
  refine s_iadd dX2_setTests_51 ?_
  refine s_eqi e51 ?_
  refine s_laloadN hq1 h52 hn1 dX2_setTests_52 ?_
  refine s_lmul dX2_setTests_53 ?_
  refine s_aload_n 1 dX2_setTests_54 rfl ?_
  refine s_iload_n 2 dX2_setTests_55 rfl ?_
  refine s_bipush (v := 6) dX2_setTests_56 rfl ?_
  refine s_iadd dX2_setTests_58 ?_
  refine s_eqi e58 ?_
  refine s_laloadN hq1 h59 hn1 dX2_setTests_59 ?_
  refine s_aload_n 1 dX2_setTests_60 rfl ?_
  refine s_iload_n 2 dX2_setTests_61 rfl ?_
  refine s_iconst (v := 4) dX2_setTests_62 rfl ?_
  refine s_iadd dX2_setTests_63 ?_
  refine s_eqi e63 ?_
  refine s_laloadN hq1 h64 hn1 dX2_setTests_64 ?_
  refine s_lmul dX2_setTests_65 ?_
  refine s_lsub dX2_setTests_66 ?_
  refine s_eql f67 ?_
  refine s_lastoreN aJ_C19 (by decide) (by decide) dX2_setTests_67 ?_
  refine s_aload_n 0 dX2_setTests_68 rfl ?_
  refine g_X2_25 dX2_setTests_69 rfl ?_
  refine s_iconst (v := 3) dX2_setTests_72 rfl ?_
  refine s_eqi (y := nI 3) rfl ?_
  refine s_lconst (v := 0) dX2_setTests_73 rfl ?_
  refine s_eql f74 ?_
  refine s_lastoreN aJ_C19 (by decide) (by decide) dX2_setTests_74 ?_
  refine s_aload_n 0 dX2_setTests_75 rfl ?_
  refine g_X2_25 dX2_setTests_76 rfl ?_
  refine s_iconst (v := 4) dX2_setTests_79 rfl ?_
  refine s_eqi (y := nI 4) rfl ?_
  refine s_aload_n 1 dX2_setTests_80 rfl ?_
  refine s_iload_n 2 dX2_setTests_81 rfl ?_
  refine s_eqi e81 ?_
  refine s_laloadN hq1 h82 hn1 dX2_setTests_82 ?_
  refine s_aload_n 1 dX2_setTests_83 rfl ?_
  refine s_iload_n 2 dX2_setTests_84 rfl ?_
  refine s_bipush (v := 8) dX2_setTests_85 rfl ?_
  refine s_iadd dX2_setTests_87 ?_
  refine s_eqi e87 ?_
  refine s_laloadN hq1 h88 hn1 dX2_setTests_88 ?_
  refine s_lmul dX2_setTests_89 ?_
  refine s_eql f90 ?_
  refine s_lastoreN aJ_C19 (by decide) (by decide) dX2_setTests_90 ?_
  refine s_aload_n 0 dX2_setTests_91 rfl ?_
  refine g_X2_25 dX2_setTests_92 rfl ?_
  refine s_iconst (v := 5) dX2_setTests_95 rfl ?_
  refine s_eqi (y := nI 5) rfl ?_
  refine s_aload_n 1 dX2_setTests_96 rfl ?_
  refine s_iload_n 2 dX2_setTests_97 rfl ?_
  refine s_eqi e97 ?_
  refine s_laloadN hq1 h98 hn1 dX2_setTests_98 ?_
  refine s_lneg dX2_setTests_99 ?_
  refine s_aload_n 1 dX2_setTests_100 rfl ?_
  refine s_iload_n 2 dX2_setTests_101 rfl ?_
  refine s_bipush (v := 7) dX2_setTests_102 rfl ?_
  refine s_iadd dX2_setTests_104 ?_
  refine s_eqi e104 ?_
  refine s_laloadN hq1 h105 hn1 dX2_setTests_105 ?_
  refine s_lmul dX2_setTests_106 ?_
  refine s_eql f107 ?_
  refine s_lastoreN aJ_C19 (by decide) (by decide) dX2_setTests_107 ?_
  refine s_aload_n 0 dX2_setTests_108 rfl ?_
  refine g_X2_25 dX2_setTests_109 rfl ?_
  refine s_bipush (v := 6) dX2_setTests_112 rfl ?_
  refine s_eqi (y := nI 6) rfl ?_
  refine s_lconst (v := 0) dX2_setTests_114 rfl ?_
  refine s_eql f115 ?_
  refine s_lastoreN aJ_C19 (by decide) (by decide) dX2_setTests_115 ?_
  refine s_aload_n 0 dX2_setTests_116 rfl ?_
  refine g_X2_25 dX2_setTests_117 rfl ?_
  refine s_bipush (v := 7) dX2_setTests_120 rfl ?_
  refine s_eqi (y := nI 7) rfl ?_
  refine s_lconst (v := 0) dX2_setTests_122 rfl ?_
  refine s_eql f123 ?_
  refine s_lastoreN aJ_C19 (by decide) (by decide) dX2_setTests_123 ?_
  refine s_aload_n 0 dX2_setTests_124 rfl ?_
  refine g_X2_25 dX2_setTests_125 rfl ?_
  refine s_bipush (v := 8) dX2_setTests_128 rfl ?_
  refine s_eqi (y := nI 8) rfl ?_
  refine s_aload_n 1 dX2_setTests_130 rfl ?_
  refine s_iload_n 2 dX2_setTests_131 rfl ?_
  refine s_eqi e131 ?_
  refine s_laloadN hq1 h132 hn1 dX2_setTests_132 ?_
  refine s_aload_n 1 dX2_setTests_133 rfl ?_
  refine s_iload_n 2 dX2_setTests_134 rfl ?_
  refine s_iconst (v := 4) dX2_setTests_135 rfl ?_
  refine s_iadd dX2_setTests_136 ?_
  refine s_eqi e136 ?_
  refine s_laloadN hq1 h137 hn1 dX2_setTests_137 ?_
  refine s_lmul dX2_setTests_138 ?_
  refine s_eql f139 ?_
  refine s_lastoreN aJ_C19 (by decide) (by decide) dX2_setTests_139 ?_
  exact s_vret rfl dX2_setTests_140 k
/-! X2_weigh -/
theorem dX2_weigh_0 : decode cX2_weigh 0 = .ok (.iconst 0, 1) := by decide +kernel
theorem dX2_weigh_1 : decode cX2_weigh 1 = .ok (.istore 6, 2) := by decide +kernel
theorem dX2_weigh_3 : decode cX2_weigh 3 = .ok (.iconst 0, 1) := by decide +kernel
theorem dX2_weigh_4 : decode cX2_weigh 4 = .ok (.istore 7, 2) := by decide +kernel
theorem dX2_weigh_6 : decode cX2_weigh 6 = .ok (.iload 7, 2) := by decide +kernel
theorem dX2_weigh_8 : decode cX2_weigh 8 = .ok (.aload_n 0, 1) := by decide +kernel
theorem dX2_weigh_9 : decode cX2_weigh 9 = .ok (.getfield 31, 3) := by decide +kernel
theorem dX2_weigh_12 : decode cX2_weigh 12 = .ok (.getfield 35, 3) := by decide +kernel
theorem dX2_weigh_15 : decode cX2_weigh 15 = .ok (.if_icmp .ge 121, 3) := by decide +kernel
theorem dX2_weigh_18 : decode cX2_weigh 18 = .ok (.aload_n 0, 1) := by decide +kernel
theorem dX2_weigh_19 : decode cX2_weigh 19 = .ok (.getfield 31, 3) := by decide +kernel
theorem dX2_weigh_22 : decode cX2_weigh 22 = .ok (.aload_n 0, 1) := by decide +kernel
theorem dX2_weigh_23 : decode cX2_weigh 23 = .ok (.getfield 12, 3) := by decide +kernel
theorem dX2_weigh_26 : decode cX2_weigh 26 = .ok (.getfield 85, 3) := by decide +kernel
theorem dX2_weigh_29 : decode cX2_weigh 29 = .ok (.iconst 3, 1) := by decide +kernel
theorem dX2_weigh_30 : decode cX2_weigh 30 = .ok (.iload 7, 2) := by decide +kernel
theorem dX2_weigh_32 : decode cX2_weigh 32 = .ok (.imul, 1) := by decide +kernel
theorem dX2_weigh_33 : decode cX2_weigh 33 = .ok (.aload_n 1, 1) := by decide +kernel
theorem dX2_weigh_34 : decode cX2_weigh 34 = .ok (.iload_n 2, 1) := by decide +kernel
theorem dX2_weigh_35 : decode cX2_weigh 35 = .ok (.invokevirtual 52, 3) := by decide +kernel
theorem dX2_weigh_38 : decode cX2_weigh 38 = .ok (.lconst 0, 1) := by decide +kernel
theorem dX2_weigh_39 : decode cX2_weigh 39 = .ok (.lstore 8, 2) := by decide +kernel
theorem dX2_weigh_41 : decode cX2_weigh 41 = .ok (.iconst 0, 1) := by decide +kernel
theorem dX2_weigh_42 : decode cX2_weigh 42 = .ok (.istore 10, 2) := by decide +kernel
theorem dX2_weigh_44 : decode cX2_weigh 44 = .ok (.iload 10, 2) := by decide +kernel
theorem dX2_weigh_46 : decode cX2_weigh 46 = .ok (.aload_n 0, 1) := by decide +kernel
theorem dX2_weigh_47 : decode cX2_weigh 47 = .ok (.getfield 31, 3) := by decide +kernel
theorem dX2_weigh_50 : decode cX2_weigh 50 = .ok (.getfield 35, 3) := by decide +kernel
theorem dX2_weigh_53 : decode cX2_weigh 53 = .ok (.if_icmp .ge 39, 3) := by decide +kernel
theorem dX2_weigh_56 : decode cX2_weigh 56 = .ok (.lload 8, 2) := by decide +kernel
theorem dX2_weigh_58 : decode cX2_weigh 58 = .ok (.aload_n 0, 1) := by decide +kernel
theorem dX2_weigh_59 : decode cX2_weigh 59 = .ok (.getfield 25, 3) := by decide +kernel
theorem dX2_weigh_62 : decode cX2_weigh 62 = .ok (.iload_n 3, 1) := by decide +kernel
theorem dX2_weigh_63 : decode cX2_weigh 63 = .ok (.iload 10, 2) := by decide +kernel
theorem dX2_weigh_65 : decode cX2_weigh 65 = .ok (.iadd, 1) := by decide +kernel
theorem dX2_weigh_66 : decode cX2_weigh 66 = .ok (.laload, 1) := by decide +kernel
theorem dX2_weigh_67 : decode cX2_weigh 67 = .ok (.aload_n 0, 1) := by decide +kernel
theorem dX2_weigh_68 : decode cX2_weigh 68 = .ok (.getfield 31, 3) := by decide +kernel
theorem dX2_weigh_71 : decode cX2_weigh 71 = .ok (.getfield 56, 3) := by decide +kernel
theorem dX2_weigh_74 : decode cX2_weigh 74 = .ok (.iload 10, 2) := by decide +kernel
theorem dX2_weigh_76 : decode cX2_weigh 76 = .ok (.laload, 1) := by decide +kernel
theorem dX2_weigh_77 : decode cX2_weigh 77 = .ok (.lload 4, 2) := by decide +kernel
theorem dX2_weigh_79 : decode cX2_weigh 79 = .ok (.invokestatic 88, 3) := by decide +kernel
theorem dX2_weigh_82 : decode cX2_weigh 82 = .ok (.lmul, 1) := by decide +kernel
theorem dX2_weigh_83 : decode cX2_weigh 83 = .ok (.ladd, 1) := by decide +kernel
theorem dX2_weigh_84 : decode cX2_weigh 84 = .ok (.lstore 8, 2) := by decide +kernel
theorem dX2_weigh_86 : decode cX2_weigh 86 = .ok (.iinc 10 1, 3) := by decide +kernel
theorem dX2_weigh_89 : decode cX2_weigh 89 = .ok (.goto (-45), 3) := by decide +kernel
theorem dX2_weigh_92 : decode cX2_weigh 92 = .ok (.aload_n 0, 1) := by decide +kernel
theorem dX2_weigh_93 : decode cX2_weigh 93 = .ok (.getfield 28, 3) := by decide +kernel
theorem dX2_weigh_96 : decode cX2_weigh 96 = .ok (.iload 7, 2) := by decide +kernel
theorem dX2_weigh_98 : decode cX2_weigh 98 = .ok (.lload 8, 2) := by decide +kernel
theorem dX2_weigh_100 : decode cX2_weigh 100 = .ok (.lload 4, 2) := by decide +kernel
theorem dX2_weigh_102 : decode cX2_weigh 102 = .ok (.invokestatic 88, 3) := by decide +kernel
theorem dX2_weigh_105 : decode cX2_weigh 105 = .ok (.lastore, 1) := by decide +kernel
theorem dX2_weigh_106 : decode cX2_weigh 106 = .ok (.iload 6, 2) := by decide +kernel
theorem dX2_weigh_108 : decode cX2_weigh 108 = .ok (.ifCond .ne 15, 3) := by decide +kernel
theorem dX2_weigh_111 : decode cX2_weigh 111 = .ok (.aload_n 0, 1) := by decide +kernel
theorem dX2_weigh_112 : decode cX2_weigh 112 = .ok (.getfield 28, 3) := by decide +kernel
theorem dX2_weigh_115 : decode cX2_weigh 115 = .ok (.iload 7, 2) := by decide +kernel
theorem dX2_weigh_117 : decode cX2_weigh 117 = .ok (.laload, 1) := by decide +kernel
theorem dX2_weigh_118 : decode cX2_weigh 118 = .ok (.lconst 0, 1) := by decide +kernel
theorem dX2_weigh_119 : decode cX2_weigh 119 = .ok (.lcmp, 1) := by decide +kernel
theorem dX2_weigh_120 : decode cX2_weigh 120 = .ok (.ifCond .eq 7, 3) := by decide +kernel
theorem dX2_weigh_123 : decode cX2_weigh 123 = .ok (.iconst 1, 1) := by decide +kernel
theorem dX2_weigh_124 : decode cX2_weigh 124 = .ok (.goto 4, 3) := by decide +kernel
theorem dX2_weigh_127 : decode cX2_weigh 127 = .ok (.iconst 0, 1) := by decide +kernel
theorem dX2_weigh_128 : decode cX2_weigh 128 = .ok (.istore 6, 2) := by decide +kernel
theorem dX2_weigh_130 : decode cX2_weigh 130 = .ok (.iinc 7 1, 3) := by decide +kernel
theorem dX2_weigh_133 : decode cX2_weigh 133 = .ok (.goto (-127), 3) := by decide +kernel
theorem dX2_weigh_136 : decode cX2_weigh 136 = .ok (.iload 6, 2) := by decide +kernel
theorem dX2_weigh_138 : decode cX2_weigh 138 = .ok (.ireturn, 1) := by decide +kernel
theorem bX2_weigh_0 {l : Launch} {D : va_G} {aI aL : ClassId} {ad : Nat → Nat} {P : sa_P} {I : sa_I} {J : sa_J} {a1 q1 n1 : Nat} {x2 : Int32} {x3 : Int32} {x4 : Int64} {v1 : Int32} {v4 : Int32} (hq1 : sa_iJ (EC l D aI aL ad) a1 q1 n1) (hn1 : n1 < 2 ^ 31) (f1 : (0 : Int32) = v1) (f4 : (0 : Int32) = v4) (k : Sat (EC l D aI aL ad) M_X2_weigh P 6 [(0, .ref (ad 13)), (1, .ref a1), (2, .int x2), (3, .int x3), (4, .long x4), (6, .int v1), (7, .int v4)] [] I J) : Sat (EC l D aI aL ad) M_X2_weigh P 0 [(0, .ref (ad 13)), (1, .ref a1), (2, .int x2), (3, .int x3), (4, .long x4)] [] I J := by
  refine s_iconst (v := 0) dX2_weigh_0 rfl ?_
  refine s_eqi f1 ?_
  refine s_istore [(6, .int v1), (0, .ref (ad 13)), (1, .ref a1), (2, .int x2), (3, .int x3), (4, .long x4)] dX2_weigh_1 (Nat.lt_of_lt_of_le (Nat.lt_succ_self _) (Nat.le_of_ble_eq_true rfl)) rfl ?_
  refine s_iconst (v := 0) dX2_weigh_3 rfl ?_
  refine s_eqi f4 ?_
  refine s_istore [(7, .int v4), (6, .int v1), (0, .ref (ad 13)), (1, .ref a1), (2, .int x2), (3, .int x3), (4, .long x4)] dX2_weigh_4 (Nat.lt_of_lt_of_le (Nat.lt_succ_self _) (Nat.le_of_ble_eq_true rfl)) rfl ?_
  refine s_pick [2, 3, 4, 5, 6, 1, 0] [(0, .ref (ad 13)), (1, .ref a1), (2, .int x2), (3, .int x3), (4, .long x4), (6, .int v1), (7, .int v4)] rfl ?_; exact k
theorem bX2_weigh_6 {l : Launch} {D : va_G} {aI aL : ClassId} {ad : Nat → Nat} {P : sa_P} {I : sa_I} {J : sa_J} {a1 q1 n1 : Nat} {x2 : Int32} {x3 : Int32} {x4 : Int64} {x6 : Int32} {x7 : Int32} (hq1 : sa_iJ (EC l D aI aL ad) a1 q1 n1) (hn1 : n1 < 2 ^ 31)  (kt : I 4 0 ≤ x7 → Sat (EC l D aI aL ad) M_X2_weigh P 136 [(6, .int x6)] [] I J) (kf : ¬ I 4 0 ≤ x7 → Sat (EC l D aI aL ad) M_X2_weigh P 18 [(0, .ref (ad 13)), (1, .ref a1), (2, .int x2), (3, .int x3), (4, .long x4), (6, .int x6), (7, .int x7)] [] I J) : Sat (EC l D aI aL ad) M_X2_weigh P 6 [(0, .ref (ad 13)), (1, .ref a1), (2, .int x2), (3, .int x3), (4, .long x4), (6, .int x6), (7, .int x7)] [] I J := by
  refine s_iload 6 dX2_weigh_6 rfl ?_
  refine s_aload_n 0 dX2_weigh_8 rfl ?_
  refine g_X2_31 dX2_weigh_9 rfl ?_
  refine g_X2_35 dX2_weigh_12 rfl ?_
  refine s_icmp_ge (tgt := 136) dX2_weigh_15 (by decide) (fun c => ?_) (fun c => ?_)
  · refine s_pick [5] [(6, .int x6)] rfl ?_; exact kt c
  · exact kf c
theorem bX2_weigh_18 {l : Launch} {D : va_G} {aI aL : ClassId} {ad : Nat → Nat} {P : sa_P} {I : sa_I} {J : sa_J} {a1 q1 n1 : Nat} {x2 : Int32} {x3 : Int32} {x4 : Int64} {x6 : Int32} {x7 : Int32} (hq1 : sa_iJ (EC l D aI aL ad) a1 q1 n1) (hn1 : n1 < 2 ^ 31)  (k : Sat (EC l D aI aL ad) M_X2_weigh P 35 [(0, .ref (ad 13)), (1, .ref a1), (2, .int x2), (3, .int x3), (4, .long x4), (6, .int x6), (7, .int x7)] [.int x2, .ref a1, .int ((3 : Int32) * x7), .ref (ad 15), .ref (ad 4)] I J) : Sat (EC l D aI aL ad) M_X2_weigh P 18 [(0, .ref (ad 13)), (1, .ref a1), (2, .int x2), (3, .int x3), (4, .long x4), (6, .int x6), (7, .int x7)] [] I J := by
  refine s_aload_n 0 dX2_weigh_18 rfl ?_
  refine g_X2_31 dX2_weigh_19 rfl ?_
  refine s_aload_n 0 dX2_weigh_22 rfl ?_
  refine g_X2_12 dX2_weigh_23 rfl ?_
  refine g_X2_85 dX2_weigh_26 rfl ?_
  refine s_iconst (v := 3) dX2_weigh_29 rfl ?_
  refine s_iload 6 dX2_weigh_30 rfl ?_
  refine s_imul dX2_weigh_32 ?_
  refine s_aload_n 1 dX2_weigh_33 rfl ?_
  refine s_iload_n 2 dX2_weigh_34 rfl ?_
  exact k
theorem bX2_weigh_38 {l : Launch} {D : va_G} {aI aL : ClassId} {ad : Nat → Nat} {P : sa_P} {I : sa_I} {J : sa_J} {a1 q1 n1 : Nat} {x2 : Int32} {x3 : Int32} {x4 : Int64} {x6 : Int32} {x7 : Int32} {v39 : Int64} {v42 : Int32} (hq1 : sa_iJ (EC l D aI aL ad) a1 q1 n1) (hn1 : n1 < 2 ^ 31) (f39 : (0 : Int64) = v39) (f42 : (0 : Int32) = v42) (k : Sat (EC l D aI aL ad) M_X2_weigh P 44 [(0, .ref (ad 13)), (1, .ref a1), (2, .int x2), (3, .int x3), (4, .long x4), (6, .int x6), (7, .int x7), (8, .long v39), (10, .int v42)] [] I J) : Sat (EC l D aI aL ad) M_X2_weigh P 38 [(0, .ref (ad 13)), (1, .ref a1), (2, .int x2), (3, .int x3), (4, .long x4), (6, .int x6), (7, .int x7)] [] I J := by
  refine s_lconst (v := 0) dX2_weigh_38 rfl ?_
  refine s_eql f39 ?_
  refine s_lstore [(8, .long v39), (0, .ref (ad 13)), (1, .ref a1), (2, .int x2), (3, .int x3), (4, .long x4), (6, .int x6), (7, .int x7)] dX2_weigh_39 (Nat.lt_of_lt_of_le (Nat.lt_succ_self _) (Nat.le_of_ble_eq_true rfl)) rfl ?_
  refine s_iconst (v := 0) dX2_weigh_41 rfl ?_
  refine s_eqi f42 ?_
  refine s_istore [(10, .int v42), (8, .long v39), (0, .ref (ad 13)), (1, .ref a1), (2, .int x2), (3, .int x3), (4, .long x4), (6, .int x6), (7, .int x7)] dX2_weigh_42 (Nat.lt_of_lt_of_le (Nat.lt_succ_self _) (Nat.le_of_ble_eq_true rfl)) rfl ?_
  refine s_pick [2, 3, 4, 5, 6, 7, 8, 1, 0] [(0, .ref (ad 13)), (1, .ref a1), (2, .int x2), (3, .int x3), (4, .long x4), (6, .int x6), (7, .int x7), (8, .long v39), (10, .int v42)] rfl ?_; exact k
theorem bX2_weigh_44 {l : Launch} {D : va_G} {aI aL : ClassId} {ad : Nat → Nat} {P : sa_P} {I : sa_I} {J : sa_J} {a1 q1 n1 : Nat} {x2 : Int32} {x3 : Int32} {x4 : Int64} {x6 : Int32} {x7 : Int32} {x8 : Int64} {x10 : Int32} (hq1 : sa_iJ (EC l D aI aL ad) a1 q1 n1) (hn1 : n1 < 2 ^ 31)  (kt : I 4 0 ≤ x10 → Sat (EC l D aI aL ad) M_X2_weigh P 92 [(0, .ref (ad 13)), (1, .ref a1), (2, .int x2), (3, .int x3), (4, .long x4), (6, .int x6), (7, .int x7), (8, .long x8)] [] I J) (kf : ¬ I 4 0 ≤ x10 → Sat (EC l D aI aL ad) M_X2_weigh P 56 [(0, .ref (ad 13)), (1, .ref a1), (2, .int x2), (3, .int x3), (4, .long x4), (6, .int x6), (7, .int x7), (8, .long x8), (10, .int x10)] [] I J) : Sat (EC l D aI aL ad) M_X2_weigh P 44 [(0, .ref (ad 13)), (1, .ref a1), (2, .int x2), (3, .int x3), (4, .long x4), (6, .int x6), (7, .int x7), (8, .long x8), (10, .int x10)] [] I J := by
  refine s_iload 8 dX2_weigh_44 rfl ?_
  refine s_aload_n 0 dX2_weigh_46 rfl ?_
  refine g_X2_31 dX2_weigh_47 rfl ?_
  refine g_X2_35 dX2_weigh_50 rfl ?_
  refine s_icmp_ge (tgt := 92) dX2_weigh_53 (by decide) (fun c => ?_) (fun c => ?_)
  · refine s_pick [0, 1, 2, 3, 4, 5, 6, 7] [(0, .ref (ad 13)), (1, .ref a1), (2, .int x2), (3, .int x3), (4, .long x4), (6, .int x6), (7, .int x7), (8, .long x8)] rfl ?_; exact kt c
  · exact kf c
theorem bX2_weigh_56 {l : Launch} {D : va_G} {aI aL : ClassId} {ad : Nat → Nat} {P : sa_P} {I : sa_I} {J : sa_J} {a1 q1 n1 : Nat} {x2 : Int32} {x3 : Int32} {x4 : Int64} {x6 : Int32} {x7 : Int32} {x8 : Int64} {x10 : Int32} {j65 : Nat} {j74 : Nat} (hq1 : sa_iJ (EC l D aI aL ad) a1 q1 n1) (hn1 : n1 < 2 ^ 31) (e65 : x3 + x10 = nI j65) (h66 : j65 < 9) (e74 : x10 = nI j74) (h76 : j74 < 3)  (k : Sat (EC l D aI aL ad) M_X2_weigh P 79 [(0, .ref (ad 13)), (1, .ref a1), (2, .int x2), (3, .int x3), (4, .long x4), (6, .int x6), (7, .int x7), (10, .int x10)] [.long x4, .long (J 9 j74), .long (J 19 j65), .long x8] I J) : Sat (EC l D aI aL ad) M_X2_weigh P 56 [(0, .ref (ad 13)), (1, .ref a1), (2, .int x2), (3, .int x3), (4, .long x4), (6, .int x6), (7, .int x7), (8, .long x8), (10, .int x10)] [] I J := by
  refine s_lload 7 dX2_weigh_56 rfl ?_
  refine s_aload_n 0 dX2_weigh_58 rfl ?_
  refine g_X2_25 dX2_weigh_59 rfl ?_
  refine s_iload_n 3 dX2_weigh_62 rfl ?_
  refine s_iload 8 dX2_weigh_63 rfl ?_
  refine s_iadd dX2_weigh_65 ?_
  refine s_eqi e65 ?_
  refine s_laloadN aJ_C19 h66 (by decide) dX2_weigh_66 ?_
  refine s_aload_n 0 dX2_weigh_67 rfl ?_
  refine g_X2_31 dX2_weigh_68 rfl ?_
  refine g_X2_56 dX2_weigh_71 rfl ?_
  refine s_iload 8 dX2_weigh_74 rfl ?_
  refine s_eqi e74 ?_
  refine s_laloadN aJ_C9 h76 (by decide) dX2_weigh_76 ?_
  refine s_lload 4 dX2_weigh_77 rfl ?_
  refine s_pick [0, 1, 2, 3, 4, 5, 6, 8] [(0, .ref (ad 13)), (1, .ref a1), (2, .int x2), (3, .int x3), (4, .long x4), (6, .int x6), (7, .int x7), (10, .int x10)] rfl ?_; exact k
theorem bX2_weigh_82 {l : Launch} {D : va_G} {aI aL : ClassId} {ad : Nat → Nat} {P : sa_P} {I : sa_I} {J : sa_J} {a1 q1 n1 : Nat} {x2 : Int32} {x3 : Int32} {x4 : Int64} {x6 : Int32} {x7 : Int32} {x10 : Int32} {s0 : Int64} {s1 : Int64} {s2 : Int64} {v84 : Int64} {v86 : Int32} (hq1 : sa_iJ (EC l D aI aL ad) a1 q1 n1) (hn1 : n1 < 2 ^ 31) (f84 : s0 + (s1 * s2) = v84) (f86 : x10 + 1 = v86) (k : Sat (EC l D aI aL ad) M_X2_weigh P 44 [(0, .ref (ad 13)), (1, .ref a1), (2, .int x2), (3, .int x3), (4, .long x4), (6, .int x6), (7, .int x7), (8, .long v84), (10, .int v86)] [] I J) : Sat (EC l D aI aL ad) M_X2_weigh P 82 [(0, .ref (ad 13)), (1, .ref a1), (2, .int x2), (3, .int x3), (4, .long x4), (6, .int x6), (7, .int x7), (10, .int x10)] [.long s2, .long s1, .long s0] I J := by
  refine s_lmul dX2_weigh_82 ?_
  refine s_ladd dX2_weigh_83 ?_
  refine s_eql f84 ?_
  refine s_lstore [(8, .long v84), (0, .ref (ad 13)), (1, .ref a1), (2, .int x2), (3, .int x3), (4, .long x4), (6, .int x6), (7, .int x7), (10, .int x10)] dX2_weigh_84 (Nat.lt_of_lt_of_le (Nat.lt_succ_self _) (Nat.le_of_ble_eq_true rfl)) rfl ?_
  refine s_iinc 8 v86 [(10, .int v86), (8, .long v84), (0, .ref (ad 13)), (1, .ref a1), (2, .int x2), (3, .int x3), (4, .long x4), (6, .int x6), (7, .int x7)] dX2_weigh_86 rfl f86 (Nat.lt_of_lt_of_le (Nat.lt_succ_self _) (Nat.le_of_ble_eq_true rfl)) rfl ?_
  refine s_goto (tgt := 44) dX2_weigh_89 (by decide) ?_
  refine s_pick [2, 3, 4, 5, 6, 7, 8, 1, 0] [(0, .ref (ad 13)), (1, .ref a1), (2, .int x2), (3, .int x3), (4, .long x4), (6, .int x6), (7, .int x7), (8, .long v84), (10, .int v86)] rfl ?_; exact k
theorem bX2_weigh_92 {l : Launch} {D : va_G} {aI aL : ClassId} {ad : Nat → Nat} {P : sa_P} {I : sa_I} {J : sa_J} {a1 q1 n1 : Nat} {x2 : Int32} {x3 : Int32} {x4 : Int64} {x6 : Int32} {x7 : Int32} {x8 : Int64} (hq1 : sa_iJ (EC l D aI aL ad) a1 q1 n1) (hn1 : n1 < 2 ^ 31)  (k : Sat (EC l D aI aL ad) M_X2_weigh P 102 [(0, .ref (ad 13)), (1, .ref a1), (2, .int x2), (3, .int x3), (4, .long x4), (6, .int x6), (7, .int x7)] [.long x4, .long x8, .int x7, .ref (ad 20)] I J) : Sat (EC l D aI aL ad) M_X2_weigh P 92 [(0, .ref (ad 13)), (1, .ref a1), (2, .int x2), (3, .int x3), (4, .long x4), (6, .int x6), (7, .int x7), (8, .long x8)] [] I J := by
  refine s_aload_n 0 dX2_weigh_92 rfl ?_
  refine g_X2_28 dX2_weigh_93 rfl ?_
  refine s_iload 6 dX2_weigh_96 rfl ?_
  refine s_lload 7 dX2_weigh_98 rfl ?_
  refine s_lload 4 dX2_weigh_100 rfl ?_
  refine s_pick [0, 1, 2, 3, 4, 5, 6] [(0, .ref (ad 13)), (1, .ref a1), (2, .int x2), (3, .int x3), (4, .long x4), (6, .int x6), (7, .int x7)] rfl ?_; exact k
theorem bX2_weigh_105 {l : Launch} {D : va_G} {aI aL : ClassId} {ad : Nat → Nat} {P : sa_P} {I : sa_I} {J : sa_J} {a1 q1 n1 : Nat} {x2 : Int32} {x3 : Int32} {x4 : Int64} {x6 : Int32} {x7 : Int32} {s1 : Nat} {s2 : Int64} (hq1 : sa_iJ (EC l D aI aL ad) a1 q1 n1) (hn1 : n1 < 2 ^ 31) (h105 : s1 < 3)  (kt : ¬ x6 = 0 → Sat (EC l D aI aL ad) M_X2_weigh P 123 [(0, .ref (ad 13)), (1, .ref a1), (2, .int x2), (3, .int x3), (4, .long x4), (7, .int x7)] [] I (sa_uJ J 20 s1 s2)) (kf : x6 = 0 → Sat (EC l D aI aL ad) M_X2_weigh P 111 [(0, .ref (ad 13)), (1, .ref a1), (2, .int x2), (3, .int x3), (4, .long x4), (7, .int x7)] [] I (sa_uJ J 20 s1 s2)) : Sat (EC l D aI aL ad) M_X2_weigh P 105 [(0, .ref (ad 13)), (1, .ref a1), (2, .int x2), (3, .int x3), (4, .long x4), (6, .int x6), (7, .int x7)] [.long s2, .int (nI s1), .ref (ad 20)] I J := by
  refine s_lastoreN aJ_C20 h105 (by decide) dX2_weigh_105 ?_
  refine s_iload 5 dX2_weigh_106 rfl ?_
  refine s_if_ne (tgt := 123) dX2_weigh_108 (by decide) (fun c => ?_) (fun c => ?_)
  · refine s_pick [0, 1, 2, 3, 4, 6] [(0, .ref (ad 13)), (1, .ref a1), (2, .int x2), (3, .int x3), (4, .long x4), (7, .int x7)] rfl ?_; exact kt c
  · refine s_pick [0, 1, 2, 3, 4, 6] [(0, .ref (ad 13)), (1, .ref a1), (2, .int x2), (3, .int x3), (4, .long x4), (7, .int x7)] rfl ?_; exact kf (by first | exact c | exact Classical.not_not.mp c)
theorem bX2_weigh_111 {l : Launch} {D : va_G} {aI aL : ClassId} {ad : Nat → Nat} {P : sa_P} {I : sa_I} {J : sa_J} {a1 q1 n1 : Nat} {x2 : Int32} {x3 : Int32} {x4 : Int64} {x7 : Int32} {j115 : Nat} (hq1 : sa_iJ (EC l D aI aL ad) a1 q1 n1) (hn1 : n1 < 2 ^ 31) (e115 : x7 = nI j115) (h117 : j115 < 3)  (kt : J 20 j115 = (0 : Int64) → Sat (EC l D aI aL ad) M_X2_weigh P 127 [(0, .ref (ad 13)), (1, .ref a1), (2, .int x2), (3, .int x3), (4, .long x4), (7, .int x7)] [] I J) (kf : ¬ J 20 j115 = (0 : Int64) → Sat (EC l D aI aL ad) M_X2_weigh P 123 [(0, .ref (ad 13)), (1, .ref a1), (2, .int x2), (3, .int x3), (4, .long x4), (7, .int x7)] [] I J) : Sat (EC l D aI aL ad) M_X2_weigh P 111 [(0, .ref (ad 13)), (1, .ref a1), (2, .int x2), (3, .int x3), (4, .long x4), (7, .int x7)] [] I J := by
  refine s_aload_n 0 dX2_weigh_111 rfl ?_
  refine g_X2_28 dX2_weigh_112 rfl ?_
  refine s_iload 5 dX2_weigh_115 rfl ?_
  refine s_eqi e115 ?_
  refine s_laloadN aJ_C20 h117 (by decide) dX2_weigh_117 ?_
  refine s_lconst (v := 0) dX2_weigh_118 rfl ?_
  refine s_lif_eq (tgt := 127) dX2_weigh_119 dX2_weigh_120 (by decide) (fun c => ?_) (fun c => ?_)
  · exact kt c
  · exact kf c
theorem bX2_weigh_123 {l : Launch} {D : va_G} {aI aL : ClassId} {ad : Nat → Nat} {P : sa_P} {I : sa_I} {J : sa_J} {a1 q1 n1 : Nat} {x2 : Int32} {x3 : Int32} {x4 : Int64} {x7 : Int32} (hq1 : sa_iJ (EC l D aI aL ad) a1 q1 n1) (hn1 : n1 < 2 ^ 31)  (k : Sat (EC l D aI aL ad) M_X2_weigh P 128 [(0, .ref (ad 13)), (1, .ref a1), (2, .int x2), (3, .int x3), (4, .long x4), (7, .int x7)] [.int (1 : Int32)] I J) : Sat (EC l D aI aL ad) M_X2_weigh P 123 [(0, .ref (ad 13)), (1, .ref a1), (2, .int x2), (3, .int x3), (4, .long x4), (7, .int x7)] [] I J := by
  refine s_iconst (v := 1) dX2_weigh_123 rfl ?_
  refine s_goto (tgt := 128) dX2_weigh_124 (by decide) ?_
  exact k
theorem bX2_weigh_127 {l : Launch} {D : va_G} {aI aL : ClassId} {ad : Nat → Nat} {P : sa_P} {I : sa_I} {J : sa_J} {a1 q1 n1 : Nat} {x2 : Int32} {x3 : Int32} {x4 : Int64} {x7 : Int32} (hq1 : sa_iJ (EC l D aI aL ad) a1 q1 n1) (hn1 : n1 < 2 ^ 31)  (k : Sat (EC l D aI aL ad) M_X2_weigh P 128 [(0, .ref (ad 13)), (1, .ref a1), (2, .int x2), (3, .int x3), (4, .long x4), (7, .int x7)] [.int (0 : Int32)] I J) : Sat (EC l D aI aL ad) M_X2_weigh P 127 [(0, .ref (ad 13)), (1, .ref a1), (2, .int x2), (3, .int x3), (4, .long x4), (7, .int x7)] [] I J := by
  refine s_iconst (v := 0) dX2_weigh_127 rfl ?_
  exact k
theorem bX2_weigh_128 {l : Launch} {D : va_G} {aI aL : ClassId} {ad : Nat → Nat} {P : sa_P} {I : sa_I} {J : sa_J} {a1 q1 n1 : Nat} {x2 : Int32} {x3 : Int32} {x4 : Int64} {x7 : Int32} {s0 : Int32} {v130 : Int32} (hq1 : sa_iJ (EC l D aI aL ad) a1 q1 n1) (hn1 : n1 < 2 ^ 31) (f130 : x7 + 1 = v130) (k : Sat (EC l D aI aL ad) M_X2_weigh P 6 [(0, .ref (ad 13)), (1, .ref a1), (2, .int x2), (3, .int x3), (4, .long x4), (6, .int s0), (7, .int v130)] [] I J) : Sat (EC l D aI aL ad) M_X2_weigh P 128 [(0, .ref (ad 13)), (1, .ref a1), (2, .int x2), (3, .int x3), (4, .long x4), (7, .int x7)] [.int s0] I J := by
  refine s_istore [(6, .int s0), (0, .ref (ad 13)), (1, .ref a1), (2, .int x2), (3, .int x3), (4, .long x4), (7, .int x7)] dX2_weigh_128 (Nat.lt_of_lt_of_le (Nat.lt_succ_self _) (Nat.le_of_ble_eq_true rfl)) rfl ?_
  refine s_iinc 6 v130 [(7, .int v130), (6, .int s0), (0, .ref (ad 13)), (1, .ref a1), (2, .int x2), (3, .int x3), (4, .long x4)] dX2_weigh_130 rfl f130 (Nat.lt_of_lt_of_le (Nat.lt_succ_self _) (Nat.le_of_ble_eq_true rfl)) rfl ?_
  refine s_goto (tgt := 6) dX2_weigh_133 (by decide) ?_
  refine s_pick [2, 3, 4, 5, 6, 1, 0] [(0, .ref (ad 13)), (1, .ref a1), (2, .int x2), (3, .int x3), (4, .long x4), (6, .int s0), (7, .int v130)] rfl ?_; exact k
theorem bX2_weigh_136 {l : Launch} {D : va_G} {aI aL : ClassId} {ad : Nat → Nat} {P : sa_P} {I : sa_I} {J : sa_J} {x6 : Int32} (hz : narrow .boolean (.int x6) = .int x6)  (k : P (some (.int x6)) I J) : Sat (EC l D aI aL ad) M_X2_weigh P 136 [(6, .int x6)] [] I J := by
  refine s_iload 0 dX2_weigh_136 rfl ?_
  exact s_zret hz rfl dX2_weigh_138 k
/-! X2_gather -/
theorem dX2_gather_0 : decode cX2_gather 0 = .ok (.aload_n 0, 1) := by decide +kernel
theorem dX2_gather_1 : decode cX2_gather 1 = .ok (.getfield 12, 3) := by decide +kernel
theorem dX2_gather_4 : decode cX2_gather 4 = .ok (.getfield 85, 3) := by decide +kernel
theorem dX2_gather_7 : decode cX2_gather 7 = .ok (.iconst 0, 1) := by decide +kernel
theorem dX2_gather_8 : decode cX2_gather 8 = .ok (.aload_n 0, 1) := by decide +kernel
theorem dX2_gather_9 : decode cX2_gather 9 = .ok (.getfield 22, 3) := by decide +kernel
theorem dX2_gather_12 : decode cX2_gather 12 = .ok (.iconst 0, 1) := by decide +kernel
theorem dX2_gather_13 : decode cX2_gather 13 = .ok (.bipush 9, 2) := by decide +kernel
theorem dX2_gather_15 : decode cX2_gather 15 = .ok (.invokestatic 92, 3) := by decide +kernel
theorem dX2_gather_18 : decode cX2_gather 18 = .ok (.iconst 0, 1) := by decide +kernel
theorem dX2_gather_19 : decode cX2_gather 19 = .ok (.istore_n 3, 1) := by decide +kernel
theorem dX2_gather_20 : decode cX2_gather 20 = .ok (.iload_n 3, 1) := by decide +kernel
theorem dX2_gather_21 : decode cX2_gather 21 = .ok (.iconst 1, 1) := by decide +kernel
theorem dX2_gather_22 : decode cX2_gather 22 = .ok (.iadd, 1) := by decide +kernel
theorem dX2_gather_23 : decode cX2_gather 23 = .ok (.aload_n 0, 1) := by decide +kernel
theorem dX2_gather_24 : decode cX2_gather 24 = .ok (.getfield 31, 3) := by decide +kernel
theorem dX2_gather_27 : decode cX2_gather 27 = .ok (.getfield 35, 3) := by decide +kernel
theorem dX2_gather_30 : decode cX2_gather 30 = .ok (.if_icmp .ge 168, 3) := by decide +kernel
theorem dX2_gather_33 : decode cX2_gather 33 = .ok (.iconst 0, 1) := by decide +kernel
theorem dX2_gather_34 : decode cX2_gather 34 = .ok (.istore 4, 2) := by decide +kernel
theorem dX2_gather_36 : decode cX2_gather 36 = .ok (.iload 4, 2) := by decide +kernel
theorem dX2_gather_38 : decode cX2_gather 38 = .ok (.sipush 1000, 3) := by decide +kernel
theorem dX2_gather_41 : decode cX2_gather 41 = .ok (.if_icmp .ge 151, 3) := by decide +kernel
theorem dX2_gather_44 : decode cX2_gather 44 = .ok (.aload_n 0, 1) := by decide +kernel
theorem dX2_gather_45 : decode cX2_gather 45 = .ok (.getfield 28, 3) := by decide +kernel
theorem dX2_gather_48 : decode cX2_gather 48 = .ok (.iload_n 3, 1) := by decide +kernel
theorem dX2_gather_49 : decode cX2_gather 49 = .ok (.laload, 1) := by decide +kernel
theorem dX2_gather_50 : decode cX2_gather 50 = .ok (.lconst 0, 1) := by decide +kernel
theorem dX2_gather_51 : decode cX2_gather 51 = .ok (.lcmp, 1) := by decide +kernel
theorem dX2_gather_52 : decode cX2_gather 52 = .ok (.ifCond .eq 140, 3) := by decide +kernel
theorem dX2_gather_55 : decode cX2_gather 55 = .ok (.aload_n 0, 1) := by decide +kernel
theorem dX2_gather_56 : decode cX2_gather 56 = .ok (.getfield 28, 3) := by decide +kernel
theorem dX2_gather_59 : decode cX2_gather 59 = .ok (.iload_n 3, 1) := by decide +kernel
theorem dX2_gather_60 : decode cX2_gather 60 = .ok (.iconst 1, 1) := by decide +kernel
theorem dX2_gather_61 : decode cX2_gather 61 = .ok (.iadd, 1) := by decide +kernel
theorem dX2_gather_62 : decode cX2_gather 62 = .ok (.laload, 1) := by decide +kernel
theorem dX2_gather_63 : decode cX2_gather 63 = .ok (.aload_n 0, 1) := by decide +kernel
theorem dX2_gather_64 : decode cX2_gather 64 = .ok (.getfield 28, 3) := by decide +kernel
theorem dX2_gather_67 : decode cX2_gather 67 = .ok (.iload_n 3, 1) := by decide +kernel
theorem dX2_gather_68 : decode cX2_gather 68 = .ok (.laload, 1) := by decide +kernel
theorem dX2_gather_69 : decode cX2_gather 69 = .ok (.ldiv, 1) := by decide +kernel
theorem dX2_gather_70 : decode cX2_gather 70 = .ok (.lstore 5, 2) := by decide +kernel
theorem dX2_gather_72 : decode cX2_gather 72 = .ok (.aload_n 0, 1) := by decide +kernel
theorem dX2_gather_73 : decode cX2_gather 73 = .ok (.getfield 28, 3) := by decide +kernel
theorem dX2_gather_76 : decode cX2_gather 76 = .ok (.iload_n 3, 1) := by decide +kernel
theorem dX2_gather_77 : decode cX2_gather 77 = .ok (.iconst 1, 1) := by decide +kernel
theorem dX2_gather_78 : decode cX2_gather 78 = .ok (.iadd, 1) := by decide +kernel
theorem dX2_gather_79 : decode cX2_gather 79 = .ok (.laload, 1) := by decide +kernel
theorem dX2_gather_80 : decode cX2_gather 80 = .ok (.lload 5, 2) := by decide +kernel
theorem dX2_gather_82 : decode cX2_gather 82 = .ok (.aload_n 0, 1) := by decide +kernel
theorem dX2_gather_83 : decode cX2_gather 83 = .ok (.getfield 28, 3) := by decide +kernel
theorem dX2_gather_86 : decode cX2_gather 86 = .ok (.iload_n 3, 1) := by decide +kernel
theorem dX2_gather_87 : decode cX2_gather 87 = .ok (.laload, 1) := by decide +kernel
theorem dX2_gather_88 : decode cX2_gather 88 = .ok (.lmul, 1) := by decide +kernel
theorem dX2_gather_89 : decode cX2_gather 89 = .ok (.lsub, 1) := by decide +kernel
theorem dX2_gather_90 : decode cX2_gather 90 = .ok (.lstore 7, 2) := by decide +kernel
theorem dX2_gather_92 : decode cX2_gather 92 = .ok (.aload_n 0, 1) := by decide +kernel
theorem dX2_gather_93 : decode cX2_gather 93 = .ok (.getfield 28, 3) := by decide +kernel
theorem dX2_gather_96 : decode cX2_gather 96 = .ok (.iload_n 3, 1) := by decide +kernel
theorem dX2_gather_97 : decode cX2_gather 97 = .ok (.iconst 1, 1) := by decide +kernel
theorem dX2_gather_98 : decode cX2_gather 98 = .ok (.iadd, 1) := by decide +kernel
theorem dX2_gather_99 : decode cX2_gather 99 = .ok (.aload_n 0, 1) := by decide +kernel
theorem dX2_gather_100 : decode cX2_gather 100 = .ok (.getfield 28, 3) := by decide +kernel
theorem dX2_gather_103 : decode cX2_gather 103 = .ok (.iload_n 3, 1) := by decide +kernel
theorem dX2_gather_104 : decode cX2_gather 104 = .ok (.laload, 1) := by decide +kernel
theorem dX2_gather_105 : decode cX2_gather 105 = .ok (.lastore, 1) := by decide +kernel
theorem dX2_gather_106 : decode cX2_gather 106 = .ok (.aload_n 0, 1) := by decide +kernel
theorem dX2_gather_107 : decode cX2_gather 107 = .ok (.getfield 28, 3) := by decide +kernel
theorem dX2_gather_110 : decode cX2_gather 110 = .ok (.iload_n 3, 1) := by decide +kernel
theorem dX2_gather_111 : decode cX2_gather 111 = .ok (.lload 7, 2) := by decide +kernel
theorem dX2_gather_113 : decode cX2_gather 113 = .ok (.lastore, 1) := by decide +kernel
theorem dX2_gather_114 : decode cX2_gather 114 = .ok (.iconst 3, 1) := by decide +kernel
theorem dX2_gather_115 : decode cX2_gather 115 = .ok (.iload_n 3, 1) := by decide +kernel
theorem dX2_gather_116 : decode cX2_gather 116 = .ok (.imul, 1) := by decide +kernel
theorem dX2_gather_117 : decode cX2_gather 117 = .ok (.istore 9, 2) := by decide +kernel
theorem dX2_gather_119 : decode cX2_gather 119 = .ok (.iload 9, 2) := by decide +kernel
theorem dX2_gather_121 : decode cX2_gather 121 = .ok (.iconst 3, 1) := by decide +kernel
theorem dX2_gather_122 : decode cX2_gather 122 = .ok (.iload_n 3, 1) := by decide +kernel
theorem dX2_gather_123 : decode cX2_gather 123 = .ok (.imul, 1) := by decide +kernel
theorem dX2_gather_124 : decode cX2_gather 124 = .ok (.iconst 3, 1) := by decide +kernel
theorem dX2_gather_125 : decode cX2_gather 125 = .ok (.iadd, 1) := by decide +kernel
theorem dX2_gather_126 : decode cX2_gather 126 = .ok (.if_icmp .ge 60, 3) := by decide +kernel
theorem dX2_gather_129 : decode cX2_gather 129 = .ok (.aload_n 0, 1) := by decide +kernel
theorem dX2_gather_130 : decode cX2_gather 130 = .ok (.getfield 22, 3) := by decide +kernel
theorem dX2_gather_133 : decode cX2_gather 133 = .ok (.iload 9, 2) := by decide +kernel
theorem dX2_gather_135 : decode cX2_gather 135 = .ok (.iconst 3, 1) := by decide +kernel
theorem dX2_gather_136 : decode cX2_gather 136 = .ok (.iadd, 1) := by decide +kernel
theorem dX2_gather_137 : decode cX2_gather 137 = .ok (.laload, 1) := by decide +kernel
theorem dX2_gather_138 : decode cX2_gather 138 = .ok (.lload 5, 2) := by decide +kernel
theorem dX2_gather_140 : decode cX2_gather 140 = .ok (.aload_n 0, 1) := by decide +kernel
theorem dX2_gather_141 : decode cX2_gather 141 = .ok (.getfield 22, 3) := by decide +kernel
theorem dX2_gather_144 : decode cX2_gather 144 = .ok (.iload 9, 2) := by decide +kernel
theorem dX2_gather_146 : decode cX2_gather 146 = .ok (.laload, 1) := by decide +kernel
theorem dX2_gather_147 : decode cX2_gather 147 = .ok (.lmul, 1) := by decide +kernel
theorem dX2_gather_148 : decode cX2_gather 148 = .ok (.lsub, 1) := by decide +kernel
theorem dX2_gather_149 : decode cX2_gather 149 = .ok (.lload_n 1, 1) := by decide +kernel
theorem dX2_gather_150 : decode cX2_gather 150 = .ok (.invokestatic 88, 3) := by decide +kernel
theorem dX2_gather_153 : decode cX2_gather 153 = .ok (.lstore 10, 2) := by decide +kernel
theorem dX2_gather_155 : decode cX2_gather 155 = .ok (.aload_n 0, 1) := by decide +kernel
theorem dX2_gather_156 : decode cX2_gather 156 = .ok (.getfield 22, 3) := by decide +kernel
theorem dX2_gather_159 : decode cX2_gather 159 = .ok (.iload 9, 2) := by decide +kernel
theorem dX2_gather_161 : decode cX2_gather 161 = .ok (.iconst 3, 1) := by decide +kernel
theorem dX2_gather_162 : decode cX2_gather 162 = .ok (.iadd, 1) := by decide +kernel
theorem dX2_gather_163 : decode cX2_gather 163 = .ok (.aload_n 0, 1) := by decide +kernel
theorem dX2_gather_164 : decode cX2_gather 164 = .ok (.getfield 22, 3) := by decide +kernel
theorem dX2_gather_167 : decode cX2_gather 167 = .ok (.iload 9, 2) := by decide +kernel
theorem dX2_gather_169 : decode cX2_gather 169 = .ok (.laload, 1) := by decide +kernel
theorem dX2_gather_170 : decode cX2_gather 170 = .ok (.lastore, 1) := by decide +kernel
theorem dX2_gather_171 : decode cX2_gather 171 = .ok (.aload_n 0, 1) := by decide +kernel
theorem dX2_gather_172 : decode cX2_gather 172 = .ok (.getfield 22, 3) := by decide +kernel
theorem dX2_gather_175 : decode cX2_gather 175 = .ok (.iload 9, 2) := by decide +kernel
theorem dX2_gather_177 : decode cX2_gather 177 = .ok (.lload 10, 2) := by decide +kernel
theorem dX2_gather_179 : decode cX2_gather 179 = .ok (.lastore, 1) := by decide +kernel
theorem dX2_gather_180 : decode cX2_gather 180 = .ok (.iinc 9 1, 3) := by decide +kernel
theorem dX2_gather_183 : decode cX2_gather 183 = .ok (.goto (-64), 3) := by decide +kernel
theorem dX2_gather_186 : decode cX2_gather 186 = .ok (.iinc 4 1, 3) := by decide +kernel
theorem dX2_gather_189 : decode cX2_gather 189 = .ok (.goto (-153), 3) := by decide +kernel
theorem dX2_gather_192 : decode cX2_gather 192 = .ok (.iinc 3 1, 3) := by decide +kernel
theorem dX2_gather_195 : decode cX2_gather 195 = .ok (.goto (-175), 3) := by decide +kernel
theorem dX2_gather_198 : decode cX2_gather 198 = .ok (.return_, 1) := by decide +kernel
theorem bX2_gather_0 {l : Launch} {D : va_G} {aI aL : ClassId} {ad : Nat → Nat} {P : sa_P} {I : sa_I} {J : sa_J} {x1 : Int64}   (k : Sat (EC l D aI aL ad) M_X2_gather P 15 [(0, .ref (ad 13)), (1, .long x1)] [.int (9 : Int32), .int (0 : Int32), .ref (ad 18), .int (0 : Int32), .ref (ad 15)] I J) : Sat (EC l D aI aL ad) M_X2_gather P 0 [(0, .ref (ad 13)), (1, .long x1)] [] I J := by
  refine s_aload_n 0 dX2_gather_0 rfl ?_
  refine g_X2_12 dX2_gather_1 rfl ?_
  refine g_X2_85 dX2_gather_4 rfl ?_
  refine s_iconst (v := 0) dX2_gather_7 rfl ?_
  refine s_aload_n 0 dX2_gather_8 rfl ?_
  refine g_X2_22 dX2_gather_9 rfl ?_
  refine s_iconst (v := 0) dX2_gather_12 rfl ?_
  refine s_bipush (v := 9) dX2_gather_13 rfl ?_
  exact k
theorem bX2_gather_18 {l : Launch} {D : va_G} {aI aL : ClassId} {ad : Nat → Nat} {P : sa_P} {I : sa_I} {J : sa_J} {x1 : Int64} {v19 : Int32}  (f19 : (0 : Int32) = v19) (k : Sat (EC l D aI aL ad) M_X2_gather P 20 [(0, .ref (ad 13)), (1, .long x1), (3, .int v19)] [] I J) : Sat (EC l D aI aL ad) M_X2_gather P 18 [(0, .ref (ad 13)), (1, .long x1)] [] I J := by
  refine s_iconst (v := 0) dX2_gather_18 rfl ?_
  refine s_eqi f19 ?_
  refine s_istore_n [(3, .int v19), (0, .ref (ad 13)), (1, .long x1)] dX2_gather_19 (Nat.lt_of_lt_of_le (Nat.lt_succ_self _) (Nat.le_of_ble_eq_true rfl)) rfl ?_
  refine s_pick [1, 2, 0] [(0, .ref (ad 13)), (1, .long x1), (3, .int v19)] rfl ?_; exact k
theorem bX2_gather_20 {l : Launch} {D : va_G} {aI aL : ClassId} {ad : Nat → Nat} {P : sa_P} {I : sa_I} {J : sa_J} {x1 : Int64} {x3 : Int32}   (kt : I 4 0 ≤ x3 + (1 : Int32) → Sat (EC l D aI aL ad) M_X2_gather P 198 [] [] I J) (kf : ¬ I 4 0 ≤ x3 + (1 : Int32) → Sat (EC l D aI aL ad) M_X2_gather P 33 [(0, .ref (ad 13)), (1, .long x1), (3, .int x3)] [] I J) : Sat (EC l D aI aL ad) M_X2_gather P 20 [(0, .ref (ad 13)), (1, .long x1), (3, .int x3)] [] I J := by
  refine s_iload_n 2 dX2_gather_20 rfl ?_
  refine s_iconst (v := 1) dX2_gather_21 rfl ?_
  refine s_iadd dX2_gather_22 ?_
  refine s_aload_n 0 dX2_gather_23 rfl ?_
  refine g_X2_31 dX2_gather_24 rfl ?_
  refine g_X2_35 dX2_gather_27 rfl ?_
  refine s_icmp_ge (tgt := 198) dX2_gather_30 (by decide) (fun c => ?_) (fun c => ?_)
  · refine s_pick [] [] rfl ?_; exact kt c
  · exact kf c
theorem bX2_gather_33 {l : Launch} {D : va_G} {aI aL : ClassId} {ad : Nat → Nat} {P : sa_P} {I : sa_I} {J : sa_J} {x1 : Int64} {x3 : Int32} {v34 : Int32}  (f34 : (0 : Int32) = v34) (k : Sat (EC l D aI aL ad) M_X2_gather P 36 [(0, .ref (ad 13)), (1, .long x1), (3, .int x3), (4, .int v34)] [] I J) : Sat (EC l D aI aL ad) M_X2_gather P 33 [(0, .ref (ad 13)), (1, .long x1), (3, .int x3)] [] I J := by
  refine s_iconst (v := 0) dX2_gather_33 rfl ?_
  refine s_eqi f34 ?_
  refine s_istore [(4, .int v34), (0, .ref (ad 13)), (1, .long x1), (3, .int x3)] dX2_gather_34 (Nat.lt_of_lt_of_le (Nat.lt_succ_self _) (Nat.le_of_ble_eq_true rfl)) rfl ?_
  refine s_pick [1, 2, 3, 0] [(0, .ref (ad 13)), (1, .long x1), (3, .int x3), (4, .int v34)] rfl ?_; exact k
theorem bX2_gather_36 {l : Launch} {D : va_G} {aI aL : ClassId} {ad : Nat → Nat} {P : sa_P} {I : sa_I} {J : sa_J} {x1 : Int64} {x3 : Int32} {x4 : Int32}   (kt : (1000 : Int32) ≤ x4 → Sat (EC l D aI aL ad) M_X2_gather P 192 [(0, .ref (ad 13)), (1, .long x1), (3, .int x3)] [] I J) (kf : ¬ (1000 : Int32) ≤ x4 → Sat (EC l D aI aL ad) M_X2_gather P 44 [(0, .ref (ad 13)), (1, .long x1), (3, .int x3), (4, .int x4)] [] I J) : Sat (EC l D aI aL ad) M_X2_gather P 36 [(0, .ref (ad 13)), (1, .long x1), (3, .int x3), (4, .int x4)] [] I J := by
  refine s_iload 3 dX2_gather_36 rfl ?_
  refine s_sipush (v := 1000) dX2_gather_38 rfl ?_
  refine s_icmp_ge (tgt := 192) dX2_gather_41 (by decide) (fun c => ?_) (fun c => ?_)
  · refine s_pick [0, 1, 2] [(0, .ref (ad 13)), (1, .long x1), (3, .int x3)] rfl ?_; exact kt c
  · exact kf c
theorem bX2_gather_44 {l : Launch} {D : va_G} {aI aL : ClassId} {ad : Nat → Nat} {P : sa_P} {I : sa_I} {J : sa_J} {x1 : Int64} {x3 : Int32} {x4 : Int32} {j48 : Nat} (e48 : x3 = nI j48) (h49 : j48 < 3)  (kt : J 20 j48 = (0 : Int64) → Sat (EC l D aI aL ad) M_X2_gather P 192 [(0, .ref (ad 13)), (1, .long x1), (3, .int x3)] [] I J) (kf : ¬ J 20 j48 = (0 : Int64) → Sat (EC l D aI aL ad) M_X2_gather P 55 [(0, .ref (ad 13)), (1, .long x1), (3, .int x3), (4, .int x4)] [] I J) : Sat (EC l D aI aL ad) M_X2_gather P 44 [(0, .ref (ad 13)), (1, .long x1), (3, .int x3), (4, .int x4)] [] I J := by
  refine s_aload_n 0 dX2_gather_44 rfl ?_
  refine g_X2_28 dX2_gather_45 rfl ?_
  refine s_iload_n 2 dX2_gather_48 rfl ?_
  refine s_eqi e48 ?_
  refine s_laloadN aJ_C20 h49 (by decide) dX2_gather_49 ?_
  refine s_lconst (v := 0) dX2_gather_50 rfl ?_
  refine s_lif_eq (tgt := 192) dX2_gather_51 dX2_gather_52 (by decide) (fun c => ?_) (fun c => ?_)
  · refine s_pick [0, 1, 2] [(0, .ref (ad 13)), (1, .long x1), (3, .int x3)] rfl ?_; exact kt c
  · exact kf c
theorem bX2_gather_55 {l : Launch} {D : va_G} {aI aL : ClassId} {ad : Nat → Nat} {P : sa_P} {I : sa_I} {J : sa_J} {x1 : Int64} {x3 : Int32} {x4 : Int32} {j61 : Nat} {j67 : Nat} {v70 : Int64} {j78 : Nat} {j86 : Nat} {v90 : Int64} {j98 : Nat} {j103 : Nat} {v105 : Int64} {j110 : Nat} {v117 : Int32} (e61 : x3 + (1 : Int32) = nI j61) (h62 : j61 < 3) (e67 : x3 = nI j67) (h68 : j67 < 3) (z69 : ¬ J 20 j67 = 0) (e78 : x3 + (1 : Int32) = nI j78) (h79 : j78 < 3) (e86 : x3 = nI j86) (h87 : j86 < 3) (e98 : x3 + (1 : Int32) = nI j98) (e103 : x3 = nI j103) (h104 : j103 < 3) (h105 : j98 < 3) (e110 : x3 = nI j110) (h113 : j110 < 3) (f70 : (J 20 j61) / (J 20 j67) = v70) (f90 : (J 20 j78) - (v70 * (J 20 j86)) = v90) (f105 : J 20 j103 = v105) (f117 : (3 : Int32) * x3 = v117) (k : Sat (EC l D aI aL ad) M_X2_gather P 119 [(0, .ref (ad 13)), (1, .long x1), (3, .int x3), (4, .int x4), (5, .long v70), (9, .int v117)] [] I (sa_uJ (sa_uJ J 20 j98 v105) 20 j110 v90)) : Sat (EC l D aI aL ad) M_X2_gather P 55 [(0, .ref (ad 13)), (1, .long x1), (3, .int x3), (4, .int x4)] [] I J := by
  refine s_aload_n 0 dX2_gather_55 rfl ?_
  refine g_X2_28 dX2_gather_56 rfl ?_
  refine s_iload_n 2 dX2_gather_59 rfl ?_
  refine s_iconst (v := 1) dX2_gather_60 rfl ?_
  refine s_iadd dX2_gather_61 ?_
  refine s_eqi e61 ?_
  refine s_laloadN aJ_C20 h62 (by decide) dX2_gather_62 ?_
  refine s_aload_n 0 dX2_gather_63 rfl ?_
  refine g_X2_28 dX2_gather_64 rfl ?_
  refine s_iload_n 2 dX2_gather_67 rfl ?_
  refine s_eqi e67 ?_
  refine s_laloadN aJ_C20 h68 (by decide) dX2_gather_68 ?_
  refine s_ldiv dX2_gather_69 z69 ?_
  refine s_eql f70 ?_
  refine s_lstore [(5, .long v70), (0, .ref (ad 13)), (1, .long x1), (3, .int x3), (4, .int x4)] dX2_gather_70 (Nat.lt_of_lt_of_le (Nat.lt_succ_self _) (Nat.le_of_ble_eq_true rfl)) rfl ?_
  refine s_aload_n 1 dX2_gather_72 rfl ?_
  refine g_X2_28 dX2_gather_73 rfl ?_
  refine s_iload_n 3 dX2_gather_76 rfl ?_
  refine s_iconst (v := 1) dX2_gather_77 rfl ?_
  refine s_iadd dX2_gather_78 ?_
  refine s_eqi e78 ?_
  refine s_laloadN aJ_C20 h79 (by decide) dX2_gather_79 ?_
  refine s_lload 0 dX2_gather_80 rfl ?_
  refine s_aload_n 1 dX2_gather_82 rfl ?_
  refine g_X2_28 dX2_gather_83 rfl ?_
  refine s_iload_n 3 dX2_gather_86 rfl ?_
  refine s_eqi e86 ?_
  refine s_laloadN aJ_C20 h87 (by decide) dX2_gather_87 ?_
  refine s_lmul dX2_gather_88 ?_
  refine s_lsub dX2_gather_89 ?_
  refine s_eql f90 ?_
  refine s_lstore [(7, .long v90), (5, .long v70), (0, .ref (ad 13)), (1, .long x1), (3, .int x3), (4, .int x4)] dX2_gather_90 (Nat.lt_of_lt_of_le (Nat.lt_succ_self _) (Nat.le_of_ble_eq_true rfl)) rfl ?_
  refine s_aload_n 2 dX2_gather_92 rfl ?_
  refine g_X2_28 dX2_gather_93 rfl ?_
  refine s_iload_n 4 dX2_gather_96 rfl ?_
  refine s_iconst (v := 1) dX2_gather_97 rfl ?_
  refine s_iadd dX2_gather_98 ?_
  refine s_eqi e98 ?_
  refine s_aload_n 2 dX2_gather_99 rfl ?_
  refine g_X2_28 dX2_gather_100 rfl ?_
  refine s_iload_n 4 dX2_gather_103 rfl ?_
  refine s_eqi e103 ?_
  refine s_laloadN aJ_C20 h104 (by decide) dX2_gather_104 ?_
  refine s_eql f105 ?_
  refine s_lastoreN aJ_C20 h105 (by decide) dX2_gather_105 ?_
  refine s_aload_n 2 dX2_gather_106 rfl ?_
  refine g_X2_28 dX2_gather_107 rfl ?_
  refine s_iload_n 4 dX2_gather_110 rfl ?_
  refine s_eqi e110 ?_
  refine s_lload 0 dX2_gather_111 rfl ?_
  refine s_lastoreN aJ_C20 h113 (by decide) dX2_gather_113 ?_
  refine s_iconst (v := 3) dX2_gather_114 rfl ?_
  refine s_iload_n 4 dX2_gather_115 rfl ?_
  refine s_imul dX2_gather_116 ?_
  refine s_eqi f117 ?_
  refine s_istore [(9, .int v117), (7, .long v90), (5, .long v70), (0, .ref (ad 13)), (1, .long x1), (3, .int x3), (4, .int x4)] dX2_gather_117 (Nat.lt_of_lt_of_le (Nat.lt_succ_self _) (Nat.le_of_ble_eq_true rfl)) rfl ?_
  refine s_pick [3, 4, 5, 6, 2, 0] [(0, .ref (ad 13)), (1, .long x1), (3, .int x3), (4, .int x4), (5, .long v70), (9, .int v117)] rfl ?_; exact k
theorem bX2_gather_119 {l : Launch} {D : va_G} {aI aL : ClassId} {ad : Nat → Nat} {P : sa_P} {I : sa_I} {J : sa_J} {x1 : Int64} {x3 : Int32} {x4 : Int32} {x5 : Int64} {x9 : Int32}   (kt : ((3 : Int32) * x3) + (3 : Int32) ≤ x9 → Sat (EC l D aI aL ad) M_X2_gather P 186 [(0, .ref (ad 13)), (1, .long x1), (3, .int x3), (4, .int x4)] [] I J) (kf : ¬ ((3 : Int32) * x3) + (3 : Int32) ≤ x9 → Sat (EC l D aI aL ad) M_X2_gather P 129 [(0, .ref (ad 13)), (1, .long x1), (3, .int x3), (4, .int x4), (5, .long x5), (9, .int x9)] [] I J) : Sat (EC l D aI aL ad) M_X2_gather P 119 [(0, .ref (ad 13)), (1, .long x1), (3, .int x3), (4, .int x4), (5, .long x5), (9, .int x9)] [] I J := by
  refine s_iload 5 dX2_gather_119 rfl ?_
  refine s_iconst (v := 3) dX2_gather_121 rfl ?_
  refine s_iload_n 2 dX2_gather_122 rfl ?_
  refine s_imul dX2_gather_123 ?_
  refine s_iconst (v := 3) dX2_gather_124 rfl ?_
  refine s_iadd dX2_gather_125 ?_
  refine s_icmp_ge (tgt := 186) dX2_gather_126 (by decide) (fun c => ?_) (fun c => ?_)
  · refine s_pick [0, 1, 2, 3] [(0, .ref (ad 13)), (1, .long x1), (3, .int x3), (4, .int x4)] rfl ?_; exact kt c
  · exact kf c
theorem bX2_gather_129 {l : Launch} {D : va_G} {aI aL : ClassId} {ad : Nat → Nat} {P : sa_P} {I : sa_I} {J : sa_J} {x1 : Int64} {x3 : Int32} {x4 : Int32} {x5 : Int64} {x9 : Int32} {j136 : Nat} {j144 : Nat} (e136 : x9 + (3 : Int32) = nI j136) (h137 : j136 < 9) (e144 : x9 = nI j144) (h146 : j144 < 9)  (k : Sat (EC l D aI aL ad) M_X2_gather P 150 [(0, .ref (ad 13)), (1, .long x1), (3, .int x3), (4, .int x4), (5, .long x5), (9, .int x9)] [.long x1, .long ((J 18 j136) - (x5 * (J 18 j144)))] I J) : Sat (EC l D aI aL ad) M_X2_gather P 129 [(0, .ref (ad 13)), (1, .long x1), (3, .int x3), (4, .int x4), (5, .long x5), (9, .int x9)] [] I J := by
  refine s_aload_n 0 dX2_gather_129 rfl ?_
  refine g_X2_22 dX2_gather_130 rfl ?_
  refine s_iload 5 dX2_gather_133 rfl ?_
  refine s_iconst (v := 3) dX2_gather_135 rfl ?_
  refine s_iadd dX2_gather_136 ?_
  refine s_eqi e136 ?_
  refine s_laloadN aJ_C18 h137 (by decide) dX2_gather_137 ?_
  refine s_lload 4 dX2_gather_138 rfl ?_
  refine s_aload_n 0 dX2_gather_140 rfl ?_
  refine g_X2_22 dX2_gather_141 rfl ?_
  refine s_iload 5 dX2_gather_144 rfl ?_
  refine s_eqi e144 ?_
  refine s_laloadN aJ_C18 h146 (by decide) dX2_gather_146 ?_
  refine s_lmul dX2_gather_147 ?_
  refine s_lsub dX2_gather_148 ?_
  refine s_lload_n 1 dX2_gather_149 rfl ?_
  exact k
theorem bX2_gather_153 {l : Launch} {D : va_G} {aI aL : ClassId} {ad : Nat → Nat} {P : sa_P} {I : sa_I} {J : sa_J} {x1 : Int64} {x3 : Int32} {x4 : Int32} {x5 : Int64} {x9 : Int32} {s0 : Int64} {j162 : Nat} {j167 : Nat} {v170 : Int64} {j175 : Nat} {v180 : Int32} (e162 : x9 + (3 : Int32) = nI j162) (e167 : x9 = nI j167) (h169 : j167 < 9) (h170 : j162 < 9) (e175 : x9 = nI j175) (h179 : j175 < 9) (f170 : J 18 j167 = v170) (f180 : x9 + 1 = v180) (k : Sat (EC l D aI aL ad) M_X2_gather P 119 [(0, .ref (ad 13)), (1, .long x1), (3, .int x3), (4, .int x4), (5, .long x5), (9, .int v180)] [] I (sa_uJ (sa_uJ J 18 j162 v170) 18 j175 s0)) : Sat (EC l D aI aL ad) M_X2_gather P 153 [(0, .ref (ad 13)), (1, .long x1), (3, .int x3), (4, .int x4), (5, .long x5), (9, .int x9)] [.long s0] I J := by
  refine s_lstore [(10, .long s0), (0, .ref (ad 13)), (1, .long x1), (3, .int x3), (4, .int x4), (5, .long x5), (9, .int x9)] dX2_gather_153 (Nat.lt_of_lt_of_le (Nat.lt_succ_self _) (Nat.le_of_ble_eq_true rfl)) rfl ?_
  refine s_aload_n 1 dX2_gather_155 rfl ?_
  refine g_X2_22 dX2_gather_156 rfl ?_
  refine s_iload 6 dX2_gather_159 rfl ?_
  refine s_iconst (v := 3) dX2_gather_161 rfl ?_
  refine s_iadd dX2_gather_162 ?_
  refine s_eqi e162 ?_
  refine s_aload_n 1 dX2_gather_163 rfl ?_
  refine g_X2_22 dX2_gather_164 rfl ?_
  refine s_iload 6 dX2_gather_167 rfl ?_
  refine s_eqi e167 ?_
  refine s_laloadN aJ_C18 h169 (by decide) dX2_gather_169 ?_
  refine s_eql f170 ?_
  refine s_lastoreN aJ_C18 h170 (by decide) dX2_gather_170 ?_
  refine s_aload_n 1 dX2_gather_171 rfl ?_
  refine g_X2_22 dX2_gather_172 rfl ?_
  refine s_iload 6 dX2_gather_175 rfl ?_
  refine s_eqi e175 ?_
  refine s_lload 0 dX2_gather_177 rfl ?_
  refine s_lastoreN aJ_C18 h179 (by decide) dX2_gather_179 ?_
  refine s_iinc 6 v180 [(9, .int v180), (10, .long s0), (0, .ref (ad 13)), (1, .long x1), (3, .int x3), (4, .int x4), (5, .long x5)] dX2_gather_180 rfl f180 (Nat.lt_of_lt_of_le (Nat.lt_succ_self _) (Nat.le_of_ble_eq_true rfl)) rfl ?_
  refine s_goto (tgt := 119) dX2_gather_183 (by decide) ?_
  refine s_pick [2, 3, 4, 5, 6, 0] [(0, .ref (ad 13)), (1, .long x1), (3, .int x3), (4, .int x4), (5, .long x5), (9, .int v180)] rfl ?_; exact k
theorem bX2_gather_186 {l : Launch} {D : va_G} {aI aL : ClassId} {ad : Nat → Nat} {P : sa_P} {I : sa_I} {J : sa_J} {x1 : Int64} {x3 : Int32} {x4 : Int32} {v186 : Int32}  (f186 : x4 + 1 = v186) (k : Sat (EC l D aI aL ad) M_X2_gather P 36 [(0, .ref (ad 13)), (1, .long x1), (3, .int x3), (4, .int v186)] [] I J) : Sat (EC l D aI aL ad) M_X2_gather P 186 [(0, .ref (ad 13)), (1, .long x1), (3, .int x3), (4, .int x4)] [] I J := by
  refine s_iinc 3 v186 [(4, .int v186), (0, .ref (ad 13)), (1, .long x1), (3, .int x3)] dX2_gather_186 rfl f186 (Nat.lt_of_lt_of_le (Nat.lt_succ_self _) (Nat.le_of_ble_eq_true rfl)) rfl ?_
  refine s_goto (tgt := 36) dX2_gather_189 (by decide) ?_
  refine s_pick [1, 2, 3, 0] [(0, .ref (ad 13)), (1, .long x1), (3, .int x3), (4, .int v186)] rfl ?_; exact k
theorem bX2_gather_192 {l : Launch} {D : va_G} {aI aL : ClassId} {ad : Nat → Nat} {P : sa_P} {I : sa_I} {J : sa_J} {x1 : Int64} {x3 : Int32} {v192 : Int32}  (f192 : x3 + 1 = v192) (k : Sat (EC l D aI aL ad) M_X2_gather P 20 [(0, .ref (ad 13)), (1, .long x1), (3, .int v192)] [] I J) : Sat (EC l D aI aL ad) M_X2_gather P 192 [(0, .ref (ad 13)), (1, .long x1), (3, .int x3)] [] I J := by
  refine s_iinc 2 v192 [(3, .int v192), (0, .ref (ad 13)), (1, .long x1)] dX2_gather_192 rfl f192 (Nat.lt_of_lt_of_le (Nat.lt_succ_self _) (Nat.le_of_ble_eq_true rfl)) rfl ?_
  refine s_goto (tgt := 20) dX2_gather_195 (by decide) ?_
  refine s_pick [1, 2, 0] [(0, .ref (ad 13)), (1, .long x1), (3, .int v192)] rfl ?_; exact k
theorem bX2_gather_198 {l : Launch} {D : va_G} {aI aL : ClassId} {ad : Nat → Nat} {P : sa_P} {I : sa_I} {J : sa_J}    (k : P (none) I J) : Sat (EC l D aI aL ad) M_X2_gather P 198 [] [] I J := by
  exact s_vret rfl dX2_gather_198 k
/-! X2_keepLight -/
theorem dX2_keepLight_0 : decode cX2_keepLight 0 = .ok (.aload_n 0, 1) := by decide +kernel
theorem dX2_keepLight_1 : decode cX2_keepLight 1 = .ok (.getfield 31, 3) := by decide +kernel
theorem dX2_keepLight_4 : decode cX2_keepLight 4 = .ok (.getfield 35, 3) := by decide +kernel
theorem dX2_keepLight_7 : decode cX2_keepLight 7 = .ok (.iconst 1, 1) := by decide +kernel
theorem dX2_keepLight_8 : decode cX2_keepLight 8 = .ok (.isub, 1) := by decide +kernel
theorem dX2_keepLight_9 : decode cX2_keepLight 9 = .ok (.istore 5, 2) := by decide +kernel
theorem dX2_keepLight_11 : decode cX2_keepLight 11 = .ok (.lload_n 1, 1) := by decide +kernel
theorem dX2_keepLight_12 : decode cX2_keepLight 12 = .ok (.lload_n 1, 1) := by decide +kernel
theorem dX2_keepLight_13 : decode cX2_keepLight 13 = .ok (.aload_n 0, 1) := by decide +kernel
theorem dX2_keepLight_14 : decode cX2_keepLight 14 = .ok (.getfield 28, 3) := by decide +kernel
theorem dX2_keepLight_17 : decode cX2_keepLight 17 = .ok (.iload 5, 2) := by decide +kernel
theorem dX2_keepLight_19 : decode cX2_keepLight 19 = .ok (.laload, 1) := by decide +kernel
theorem dX2_keepLight_20 : decode cX2_keepLight 20 = .ok (.invokestatic 98, 3) := by decide +kernel
theorem dX2_keepLight_23 : decode cX2_keepLight 23 = .ok (.invokestatic 101, 3) := by decide +kernel
theorem dX2_keepLight_26 : decode cX2_keepLight 26 = .ok (.lstore 6, 2) := by decide +kernel
theorem dX2_keepLight_28 : decode cX2_keepLight 28 = .ok (.iconst 3, 1) := by decide +kernel
theorem dX2_keepLight_29 : decode cX2_keepLight 29 = .ok (.iload 5, 2) := by decide +kernel
theorem dX2_keepLight_31 : decode cX2_keepLight 31 = .ok (.imul, 1) := by decide +kernel
theorem dX2_keepLight_32 : decode cX2_keepLight 32 = .ok (.istore 8, 2) := by decide +kernel
theorem dX2_keepLight_34 : decode cX2_keepLight 34 = .ok (.iload 8, 2) := by decide +kernel
theorem dX2_keepLight_36 : decode cX2_keepLight 36 = .ok (.iconst 3, 1) := by decide +kernel
theorem dX2_keepLight_37 : decode cX2_keepLight 37 = .ok (.iload 5, 2) := by decide +kernel
theorem dX2_keepLight_39 : decode cX2_keepLight 39 = .ok (.imul, 1) := by decide +kernel
theorem dX2_keepLight_40 : decode cX2_keepLight 40 = .ok (.iconst 3, 1) := by decide +kernel
theorem dX2_keepLight_41 : decode cX2_keepLight 41 = .ok (.iadd, 1) := by decide +kernel
theorem dX2_keepLight_42 : decode cX2_keepLight 42 = .ok (.if_icmp .ge 30, 3) := by decide +kernel
theorem dX2_keepLight_45 : decode cX2_keepLight 45 = .ok (.aload_n 0, 1) := by decide +kernel
theorem dX2_keepLight_46 : decode cX2_keepLight 46 = .ok (.getfield 22, 3) := by decide +kernel
theorem dX2_keepLight_49 : decode cX2_keepLight 49 = .ok (.iload 8, 2) := by decide +kernel
theorem dX2_keepLight_51 : decode cX2_keepLight 51 = .ok (.aload_n 0, 1) := by decide +kernel
theorem dX2_keepLight_52 : decode cX2_keepLight 52 = .ok (.getfield 22, 3) := by decide +kernel
theorem dX2_keepLight_55 : decode cX2_keepLight 55 = .ok (.iload 8, 2) := by decide +kernel
theorem dX2_keepLight_57 : decode cX2_keepLight 57 = .ok (.laload, 1) := by decide +kernel
theorem dX2_keepLight_58 : decode cX2_keepLight 58 = .ok (.lload 6, 2) := by decide +kernel
theorem dX2_keepLight_60 : decode cX2_keepLight 60 = .ok (.lmul, 1) := by decide +kernel
theorem dX2_keepLight_61 : decode cX2_keepLight 61 = .ok (.lload_n 3, 1) := by decide +kernel
theorem dX2_keepLight_62 : decode cX2_keepLight 62 = .ok (.invokestatic 88, 3) := by decide +kernel
theorem dX2_keepLight_65 : decode cX2_keepLight 65 = .ok (.lastore, 1) := by decide +kernel
theorem dX2_keepLight_66 : decode cX2_keepLight 66 = .ok (.iinc 8 1, 3) := by decide +kernel
theorem dX2_keepLight_69 : decode cX2_keepLight 69 = .ok (.goto (-35), 3) := by decide +kernel
theorem dX2_keepLight_72 : decode cX2_keepLight 72 = .ok (.aload_n 0, 1) := by decide +kernel
theorem dX2_keepLight_73 : decode cX2_keepLight 73 = .ok (.getfield 12, 3) := by decide +kernel
theorem dX2_keepLight_76 : decode cX2_keepLight 76 = .ok (.aload_n 0, 1) := by decide +kernel
theorem dX2_keepLight_77 : decode cX2_keepLight 77 = .ok (.getfield 31, 3) := by decide +kernel
theorem dX2_keepLight_80 : decode cX2_keepLight 80 = .ok (.getfield 35, 3) := by decide +kernel
theorem dX2_keepLight_83 : decode cX2_keepLight 83 = .ok (.lload_n 3, 1) := by decide +kernel
theorem dX2_keepLight_84 : decode cX2_keepLight 84 = .ok (.invokevirtual 45, 3) := by decide +kernel
theorem dX2_keepLight_87 : decode cX2_keepLight 87 = .ok (.iconst 0, 1) := by decide +kernel
theorem dX2_keepLight_88 : decode cX2_keepLight 88 = .ok (.istore 8, 2) := by decide +kernel
theorem dX2_keepLight_90 : decode cX2_keepLight 90 = .ok (.iload 8, 2) := by decide +kernel
theorem dX2_keepLight_92 : decode cX2_keepLight 92 = .ok (.aload_n 0, 1) := by decide +kernel
theorem dX2_keepLight_93 : decode cX2_keepLight 93 = .ok (.getfield 31, 3) := by decide +kernel
theorem dX2_keepLight_96 : decode cX2_keepLight 96 = .ok (.getfield 35, 3) := by decide +kernel
theorem dX2_keepLight_99 : decode cX2_keepLight 99 = .ok (.if_icmp .ge 24, 3) := by decide +kernel
theorem dX2_keepLight_102 : decode cX2_keepLight 102 = .ok (.aload_n 0, 1) := by decide +kernel
theorem dX2_keepLight_103 : decode cX2_keepLight 103 = .ok (.getfield 12, 3) := by decide +kernel
theorem dX2_keepLight_106 : decode cX2_keepLight 106 = .ok (.aload_n 0, 1) := by decide +kernel
theorem dX2_keepLight_107 : decode cX2_keepLight 107 = .ok (.getfield 22, 3) := by decide +kernel
theorem dX2_keepLight_110 : decode cX2_keepLight 110 = .ok (.iconst 3, 1) := by decide +kernel
theorem dX2_keepLight_111 : decode cX2_keepLight 111 = .ok (.iload 8, 2) := by decide +kernel
theorem dX2_keepLight_113 : decode cX2_keepLight 113 = .ok (.imul, 1) := by decide +kernel
theorem dX2_keepLight_114 : decode cX2_keepLight 114 = .ok (.invokevirtual 59, 3) := by decide +kernel
theorem dX2_keepLight_117 : decode cX2_keepLight 117 = .ok (.iinc 8 1, 3) := by decide +kernel
theorem dX2_keepLight_120 : decode cX2_keepLight 120 = .ok (.goto (-30), 3) := by decide +kernel
theorem dX2_keepLight_123 : decode cX2_keepLight 123 = .ok (.aload_n 0, 1) := by decide +kernel
theorem dX2_keepLight_124 : decode cX2_keepLight 124 = .ok (.getfield 12, 3) := by decide +kernel
theorem dX2_keepLight_127 : decode cX2_keepLight 127 = .ok (.invokevirtual 63, 3) := by decide +kernel
theorem dX2_keepLight_130 : decode cX2_keepLight 130 = .ok (.return_, 1) := by decide +kernel
theorem bX2_keepLight_0 {l : Launch} {D : va_G} {aI aL : ClassId} {ad : Nat → Nat} {P : sa_P} {I : sa_I} {J : sa_J} {x1 : Int64} {x3 : Int64} {v9 : Int32} {j17 : Nat} (e17 : v9 = nI j17) (h19 : j17 < 3) (f9 : (I 4 0) - (1 : Int32) = v9) (k : Sat (EC l D aI aL ad) M_X2_keepLight P 20 [(0, .ref (ad 13)), (3, .long x3), (5, .int v9)] [.long (J 20 j17), .long x1, .long x1] I J) : Sat (EC l D aI aL ad) M_X2_keepLight P 0 [(0, .ref (ad 13)), (1, .long x1), (3, .long x3)] [] I J := by
  refine s_aload_n 0 dX2_keepLight_0 rfl ?_
  refine g_X2_31 dX2_keepLight_1 rfl ?_
  refine g_X2_35 dX2_keepLight_4 rfl ?_
  refine s_iconst (v := 1) dX2_keepLight_7 rfl ?_
  refine s_isub dX2_keepLight_8 ?_
  refine s_eqi f9 ?_
  refine s_istore [(5, .int v9), (0, .ref (ad 13)), (1, .long x1), (3, .long x3)] dX2_keepLight_9 (Nat.lt_of_lt_of_le (Nat.lt_succ_self _) (Nat.le_of_ble_eq_true rfl)) rfl ?_
  refine s_lload_n 2 dX2_keepLight_11 rfl ?_
  refine s_lload_n 2 dX2_keepLight_12 rfl ?_
  refine s_aload_n 1 dX2_keepLight_13 rfl ?_
  refine g_X2_28 dX2_keepLight_14 rfl ?_
  refine s_iload 0 dX2_keepLight_17 rfl ?_
  refine s_eqi e17 ?_
  refine s_laloadN aJ_C20 h19 (by decide) dX2_keepLight_19 ?_
  refine s_pick [1, 3, 0] [(0, .ref (ad 13)), (3, .long x3), (5, .int v9)] rfl ?_; exact k
theorem bX2_keepLight_26 {l : Launch} {D : va_G} {aI aL : ClassId} {ad : Nat → Nat} {P : sa_P} {I : sa_I} {J : sa_J} {x3 : Int64} {x5 : Int32} {s0 : Int64} {v32 : Int32}  (f32 : (3 : Int32) * x5 = v32) (k : Sat (EC l D aI aL ad) M_X2_keepLight P 34 [(0, .ref (ad 13)), (3, .long x3), (5, .int x5), (6, .long s0), (8, .int v32)] [] I J) : Sat (EC l D aI aL ad) M_X2_keepLight P 26 [(0, .ref (ad 13)), (3, .long x3), (5, .int x5)] [.long s0] I J := by
  refine s_lstore [(6, .long s0), (0, .ref (ad 13)), (3, .long x3), (5, .int x5)] dX2_keepLight_26 (Nat.lt_of_lt_of_le (Nat.lt_succ_self _) (Nat.le_of_ble_eq_true rfl)) rfl ?_
  refine s_iconst (v := 3) dX2_keepLight_28 rfl ?_
  refine s_iload 3 dX2_keepLight_29 rfl ?_
  refine s_imul dX2_keepLight_31 ?_
  refine s_eqi f32 ?_
  refine s_istore [(8, .int v32), (6, .long s0), (0, .ref (ad 13)), (3, .long x3), (5, .int x5)] dX2_keepLight_32 (Nat.lt_of_lt_of_le (Nat.lt_succ_self _) (Nat.le_of_ble_eq_true rfl)) rfl ?_
  refine s_pick [2, 3, 4, 1, 0] [(0, .ref (ad 13)), (3, .long x3), (5, .int x5), (6, .long s0), (8, .int v32)] rfl ?_; exact k
theorem bX2_keepLight_34 {l : Launch} {D : va_G} {aI aL : ClassId} {ad : Nat → Nat} {P : sa_P} {I : sa_I} {J : sa_J} {x3 : Int64} {x5 : Int32} {x6 : Int64} {x8 : Int32}   (kt : ((3 : Int32) * x5) + (3 : Int32) ≤ x8 → Sat (EC l D aI aL ad) M_X2_keepLight P 72 [(0, .ref (ad 13)), (3, .long x3)] [] I J) (kf : ¬ ((3 : Int32) * x5) + (3 : Int32) ≤ x8 → Sat (EC l D aI aL ad) M_X2_keepLight P 45 [(0, .ref (ad 13)), (3, .long x3), (5, .int x5), (6, .long x6), (8, .int x8)] [] I J) : Sat (EC l D aI aL ad) M_X2_keepLight P 34 [(0, .ref (ad 13)), (3, .long x3), (5, .int x5), (6, .long x6), (8, .int x8)] [] I J := by
  refine s_iload 4 dX2_keepLight_34 rfl ?_
  refine s_iconst (v := 3) dX2_keepLight_36 rfl ?_
  refine s_iload 2 dX2_keepLight_37 rfl ?_
  refine s_imul dX2_keepLight_39 ?_
  refine s_iconst (v := 3) dX2_keepLight_40 rfl ?_
  refine s_iadd dX2_keepLight_41 ?_
  refine s_icmp_ge (tgt := 72) dX2_keepLight_42 (by decide) (fun c => ?_) (fun c => ?_)
  · refine s_pick [0, 1] [(0, .ref (ad 13)), (3, .long x3)] rfl ?_; exact kt c
  · exact kf c
theorem bX2_keepLight_45 {l : Launch} {D : va_G} {aI aL : ClassId} {ad : Nat → Nat} {P : sa_P} {I : sa_I} {J : sa_J} {x3 : Int64} {x5 : Int32} {x6 : Int64} {x8 : Int32} {j55 : Nat} (e55 : x8 = nI j55) (h57 : j55 < 9)  (k : Sat (EC l D aI aL ad) M_X2_keepLight P 62 [(0, .ref (ad 13)), (3, .long x3), (5, .int x5), (6, .long x6), (8, .int x8)] [.long x3, .long ((J 18 j55) * x6), .int x8, .ref (ad 18)] I J) : Sat (EC l D aI aL ad) M_X2_keepLight P 45 [(0, .ref (ad 13)), (3, .long x3), (5, .int x5), (6, .long x6), (8, .int x8)] [] I J := by
  refine s_aload_n 0 dX2_keepLight_45 rfl ?_
  refine g_X2_22 dX2_keepLight_46 rfl ?_
  refine s_iload 4 dX2_keepLight_49 rfl ?_
  refine s_aload_n 0 dX2_keepLight_51 rfl ?_
  refine g_X2_22 dX2_keepLight_52 rfl ?_
  refine s_iload 4 dX2_keepLight_55 rfl ?_
  refine s_eqi e55 ?_
  refine s_laloadN aJ_C18 h57 (by decide) dX2_keepLight_57 ?_
  refine s_lload 3 dX2_keepLight_58 rfl ?_
  refine s_lmul dX2_keepLight_60 ?_
  refine s_lload_n 1 dX2_keepLight_61 rfl ?_
  exact k
theorem bX2_keepLight_65 {l : Launch} {D : va_G} {aI aL : ClassId} {ad : Nat → Nat} {P : sa_P} {I : sa_I} {J : sa_J} {x3 : Int64} {x5 : Int32} {x6 : Int64} {x8 : Int32} {s1 : Nat} {s2 : Int64} {v66 : Int32} (h65 : s1 < 9) (f66 : x8 + 1 = v66) (k : Sat (EC l D aI aL ad) M_X2_keepLight P 34 [(0, .ref (ad 13)), (3, .long x3), (5, .int x5), (6, .long x6), (8, .int v66)] [] I (sa_uJ J 18 s1 s2)) : Sat (EC l D aI aL ad) M_X2_keepLight P 65 [(0, .ref (ad 13)), (3, .long x3), (5, .int x5), (6, .long x6), (8, .int x8)] [.long s2, .int (nI s1), .ref (ad 18)] I J := by
  refine s_lastoreN aJ_C18 h65 (by decide) dX2_keepLight_65 ?_
  refine s_iinc 4 v66 [(8, .int v66), (0, .ref (ad 13)), (3, .long x3), (5, .int x5), (6, .long x6)] dX2_keepLight_66 rfl f66 (Nat.lt_of_lt_of_le (Nat.lt_succ_self _) (Nat.le_of_ble_eq_true rfl)) rfl ?_
  refine s_goto (tgt := 34) dX2_keepLight_69 (by decide) ?_
  refine s_pick [1, 2, 3, 4, 0] [(0, .ref (ad 13)), (3, .long x3), (5, .int x5), (6, .long x6), (8, .int v66)] rfl ?_; exact k
theorem bX2_keepLight_72 {l : Launch} {D : va_G} {aI aL : ClassId} {ad : Nat → Nat} {P : sa_P} {I : sa_I} {J : sa_J} {x3 : Int64}   (k : Sat (EC l D aI aL ad) M_X2_keepLight P 84 [(0, .ref (ad 13))] [.long x3, .int (I 4 0), .ref (ad 14)] I J) : Sat (EC l D aI aL ad) M_X2_keepLight P 72 [(0, .ref (ad 13)), (3, .long x3)] [] I J := by
  refine s_aload_n 0 dX2_keepLight_72 rfl ?_
  refine g_X2_12 dX2_keepLight_73 rfl ?_
  refine s_aload_n 0 dX2_keepLight_76 rfl ?_
  refine g_X2_31 dX2_keepLight_77 rfl ?_
  refine g_X2_35 dX2_keepLight_80 rfl ?_
  refine s_lload_n 1 dX2_keepLight_83 rfl ?_
  refine s_pick [0] [(0, .ref (ad 13))] rfl ?_; exact k
theorem bX2_keepLight_87 {l : Launch} {D : va_G} {aI aL : ClassId} {ad : Nat → Nat} {P : sa_P} {I : sa_I} {J : sa_J} {v88 : Int32}  (f88 : (0 : Int32) = v88) (k : Sat (EC l D aI aL ad) M_X2_keepLight P 90 [(0, .ref (ad 13)), (8, .int v88)] [] I J) : Sat (EC l D aI aL ad) M_X2_keepLight P 87 [(0, .ref (ad 13))] [] I J := by
  refine s_iconst (v := 0) dX2_keepLight_87 rfl ?_
  refine s_eqi f88 ?_
  refine s_istore [(8, .int v88), (0, .ref (ad 13))] dX2_keepLight_88 (Nat.lt_of_lt_of_le (Nat.lt_succ_self _) (Nat.le_of_ble_eq_true rfl)) rfl ?_
  refine s_pick [1, 0] [(0, .ref (ad 13)), (8, .int v88)] rfl ?_; exact k
theorem bX2_keepLight_90 {l : Launch} {D : va_G} {aI aL : ClassId} {ad : Nat → Nat} {P : sa_P} {I : sa_I} {J : sa_J} {x8 : Int32}   (kt : I 4 0 ≤ x8 → Sat (EC l D aI aL ad) M_X2_keepLight P 123 [(0, .ref (ad 13))] [] I J) (kf : ¬ I 4 0 ≤ x8 → Sat (EC l D aI aL ad) M_X2_keepLight P 102 [(0, .ref (ad 13)), (8, .int x8)] [] I J) : Sat (EC l D aI aL ad) M_X2_keepLight P 90 [(0, .ref (ad 13)), (8, .int x8)] [] I J := by
  refine s_iload 1 dX2_keepLight_90 rfl ?_
  refine s_aload_n 0 dX2_keepLight_92 rfl ?_
  refine g_X2_31 dX2_keepLight_93 rfl ?_
  refine g_X2_35 dX2_keepLight_96 rfl ?_
  refine s_icmp_ge (tgt := 123) dX2_keepLight_99 (by decide) (fun c => ?_) (fun c => ?_)
  · refine s_pick [0] [(0, .ref (ad 13))] rfl ?_; exact kt c
  · exact kf c
theorem bX2_keepLight_102 {l : Launch} {D : va_G} {aI aL : ClassId} {ad : Nat → Nat} {P : sa_P} {I : sa_I} {J : sa_J} {x8 : Int32}   (k : Sat (EC l D aI aL ad) M_X2_keepLight P 114 [(0, .ref (ad 13)), (8, .int x8)] [.int ((3 : Int32) * x8), .ref (ad 18), .ref (ad 14)] I J) : Sat (EC l D aI aL ad) M_X2_keepLight P 102 [(0, .ref (ad 13)), (8, .int x8)] [] I J := by
  refine s_aload_n 0 dX2_keepLight_102 rfl ?_
  refine g_X2_12 dX2_keepLight_103 rfl ?_
  refine s_aload_n 0 dX2_keepLight_106 rfl ?_
  refine g_X2_22 dX2_keepLight_107 rfl ?_
  refine s_iconst (v := 3) dX2_keepLight_110 rfl ?_
  refine s_iload 1 dX2_keepLight_111 rfl ?_
  refine s_imul dX2_keepLight_113 ?_
  exact k
theorem bX2_keepLight_117 {l : Launch} {D : va_G} {aI aL : ClassId} {ad : Nat → Nat} {P : sa_P} {I : sa_I} {J : sa_J} {x8 : Int32} {v117 : Int32}  (f117 : x8 + 1 = v117) (k : Sat (EC l D aI aL ad) M_X2_keepLight P 90 [(0, .ref (ad 13)), (8, .int v117)] [] I J) : Sat (EC l D aI aL ad) M_X2_keepLight P 117 [(0, .ref (ad 13)), (8, .int x8)] [] I J := by
  refine s_iinc 1 v117 [(8, .int v117), (0, .ref (ad 13))] dX2_keepLight_117 rfl f117 (Nat.lt_of_lt_of_le (Nat.lt_succ_self _) (Nat.le_of_ble_eq_true rfl)) rfl ?_
  refine s_goto (tgt := 90) dX2_keepLight_120 (by decide) ?_
  refine s_pick [1, 0] [(0, .ref (ad 13)), (8, .int v117)] rfl ?_; exact k
theorem bX2_keepLight_123 {l : Launch} {D : va_G} {aI aL : ClassId} {ad : Nat → Nat} {P : sa_P} {I : sa_I} {J : sa_J}    (k : Sat (EC l D aI aL ad) M_X2_keepLight P 127 [] [.ref (ad 14)] I J) : Sat (EC l D aI aL ad) M_X2_keepLight P 123 [(0, .ref (ad 13))] [] I J := by
  refine s_aload_n 0 dX2_keepLight_123 rfl ?_
  refine g_X2_12 dX2_keepLight_124 rfl ?_
  refine s_pick [] [] rfl ?_; exact k
theorem bX2_keepLight_130 {l : Launch} {D : va_G} {aI aL : ClassId} {ad : Nat → Nat} {P : sa_P} {I : sa_I} {J : sa_J}    (k : P (none) I J) : Sat (EC l D aI aL ad) M_X2_keepLight P 130 [] [] I J := by
  exact s_vret rfl dX2_keepLight_130 k
/-! X2_lessen -/
theorem dX2_lessen_0 : decode cX2_lessen 0 = .ok (.aload_n 3, 1) := by decide +kernel
theorem dX2_lessen_1 : decode cX2_lessen 1 = .ok (.iload 4, 2) := by decide +kernel
theorem dX2_lessen_3 : decode cX2_lessen 3 = .ok (.aload_n 0, 1) := by decide +kernel
theorem dX2_lessen_4 : decode cX2_lessen 4 = .ok (.getfield 18, 3) := by decide +kernel
theorem dX2_lessen_7 : decode cX2_lessen 7 = .ok (.iconst 0, 1) := by decide +kernel
theorem dX2_lessen_8 : decode cX2_lessen 8 = .ok (.iconst 3, 1) := by decide +kernel
theorem dX2_lessen_9 : decode cX2_lessen 9 = .ok (.invokestatic 92, 3) := by decide +kernel
theorem dX2_lessen_12 : decode cX2_lessen 12 = .ok (.aload_n 0, 1) := by decide +kernel
theorem dX2_lessen_13 : decode cX2_lessen 13 = .ok (.getfield 31, 3) := by decide +kernel
theorem dX2_lessen_16 : decode cX2_lessen 16 = .ok (.getfield 35, 3) := by decide +kernel
theorem dX2_lessen_19 : decode cX2_lessen 19 = .ok (.iconst 1, 1) := by decide +kernel
theorem dX2_lessen_20 : decode cX2_lessen 20 = .ok (.isub, 1) := by decide +kernel
theorem dX2_lessen_21 : decode cX2_lessen 21 = .ok (.istore 5, 2) := by decide +kernel
theorem dX2_lessen_23 : decode cX2_lessen 23 = .ok (.iload 5, 2) := by decide +kernel
theorem dX2_lessen_25 : decode cX2_lessen 25 = .ok (.ifCond .lt 80, 3) := by decide +kernel
theorem dX2_lessen_28 : decode cX2_lessen 28 = .ok (.aload_n 1, 1) := by decide +kernel
theorem dX2_lessen_29 : decode cX2_lessen 29 = .ok (.iload_n 2, 1) := by decide +kernel
theorem dX2_lessen_30 : decode cX2_lessen 30 = .ok (.iconst 4, 1) := by decide +kernel
theorem dX2_lessen_31 : decode cX2_lessen 31 = .ok (.iload 5, 2) := by decide +kernel
theorem dX2_lessen_33 : decode cX2_lessen 33 = .ok (.imul, 1) := by decide +kernel
theorem dX2_lessen_34 : decode cX2_lessen 34 = .ok (.iadd, 1) := by decide +kernel
theorem dX2_lessen_35 : decode cX2_lessen 35 = .ok (.laload, 1) := by decide +kernel
theorem dX2_lessen_36 : decode cX2_lessen 36 = .ok (.lstore 6, 2) := by decide +kernel
theorem dX2_lessen_38 : decode cX2_lessen 38 = .ok (.lload 6, 2) := by decide +kernel
theorem dX2_lessen_40 : decode cX2_lessen 40 = .ok (.lconst 0, 1) := by decide +kernel
theorem dX2_lessen_41 : decode cX2_lessen 41 = .ok (.lcmp, 1) := by decide +kernel
theorem dX2_lessen_42 : decode cX2_lessen 42 = .ok (.ifCond .le 57, 3) := by decide +kernel
theorem dX2_lessen_45 : decode cX2_lessen 45 = .ok (.aload_n 0, 1) := by decide +kernel
theorem dX2_lessen_46 : decode cX2_lessen 46 = .ok (.getfield 18, 3) := by decide +kernel
theorem dX2_lessen_49 : decode cX2_lessen 49 = .ok (.iload 5, 2) := by decide +kernel
theorem dX2_lessen_51 : decode cX2_lessen 51 = .ok (.laload, 1) := by decide +kernel
theorem dX2_lessen_52 : decode cX2_lessen 52 = .ok (.lload 6, 2) := by decide +kernel
theorem dX2_lessen_54 : decode cX2_lessen 54 = .ok (.invokestatic 104, 3) := by decide +kernel
theorem dX2_lessen_57 : decode cX2_lessen 57 = .ok (.lstore 8, 2) := by decide +kernel
theorem dX2_lessen_59 : decode cX2_lessen 59 = .ok (.iconst 0, 1) := by decide +kernel
theorem dX2_lessen_60 : decode cX2_lessen 60 = .ok (.istore 10, 2) := by decide +kernel
theorem dX2_lessen_62 : decode cX2_lessen 62 = .ok (.iload 10, 2) := by decide +kernel
theorem dX2_lessen_64 : decode cX2_lessen 64 = .ok (.iload 5, 2) := by decide +kernel
theorem dX2_lessen_66 : decode cX2_lessen 66 = .ok (.if_icmp .gt 33, 3) := by decide +kernel
theorem dX2_lessen_69 : decode cX2_lessen 69 = .ok (.aload_n 0, 1) := by decide +kernel
theorem dX2_lessen_70 : decode cX2_lessen 70 = .ok (.getfield 18, 3) := by decide +kernel
theorem dX2_lessen_73 : decode cX2_lessen 73 = .ok (.iload 10, 2) := by decide +kernel
theorem dX2_lessen_75 : decode cX2_lessen 75 = .ok (.dup2, 1) := by decide +kernel
theorem dX2_lessen_76 : decode cX2_lessen 76 = .ok (.laload, 1) := by decide +kernel
theorem dX2_lessen_77 : decode cX2_lessen 77 = .ok (.lload 8, 2) := by decide +kernel
theorem dX2_lessen_79 : decode cX2_lessen 79 = .ok (.aload_n 1, 1) := by decide +kernel
theorem dX2_lessen_80 : decode cX2_lessen 80 = .ok (.iload_n 2, 1) := by decide +kernel
theorem dX2_lessen_81 : decode cX2_lessen 81 = .ok (.iconst 3, 1) := by decide +kernel
theorem dX2_lessen_82 : decode cX2_lessen 82 = .ok (.iload 5, 2) := by decide +kernel
theorem dX2_lessen_84 : decode cX2_lessen 84 = .ok (.imul, 1) := by decide +kernel
theorem dX2_lessen_85 : decode cX2_lessen 85 = .ok (.iadd, 1) := by decide +kernel
theorem dX2_lessen_86 : decode cX2_lessen 86 = .ok (.iload 10, 2) := by decide +kernel
theorem dX2_lessen_88 : decode cX2_lessen 88 = .ok (.iadd, 1) := by decide +kernel
theorem dX2_lessen_89 : decode cX2_lessen 89 = .ok (.laload, 1) := by decide +kernel
theorem dX2_lessen_90 : decode cX2_lessen 90 = .ok (.lmul, 1) := by decide +kernel
theorem dX2_lessen_91 : decode cX2_lessen 91 = .ok (.lsub, 1) := by decide +kernel
theorem dX2_lessen_92 : decode cX2_lessen 92 = .ok (.lastore, 1) := by decide +kernel
theorem dX2_lessen_93 : decode cX2_lessen 93 = .ok (.iinc 10 1, 3) := by decide +kernel
theorem dX2_lessen_96 : decode cX2_lessen 96 = .ok (.goto (-34), 3) := by decide +kernel
theorem dX2_lessen_99 : decode cX2_lessen 99 = .ok (.iinc 5 (-1), 3) := by decide +kernel
theorem dX2_lessen_102 : decode cX2_lessen 102 = .ok (.goto (-79), 3) := by decide +kernel
theorem dX2_lessen_105 : decode cX2_lessen 105 = .ok (.return_, 1) := by decide +kernel
theorem bX2_lessen_0 {l : Launch} {D : va_G} {aI aL : ClassId} {ad : Nat → Nat} {P : sa_P} {I : sa_I} {J : sa_J} {a1 q1 n1 : Nat} {x2 : Int32} {a3 q3 n3 : Nat} {x4 : Int32} (hq1 : sa_iJ (EC l D aI aL ad) a1 q1 n1) (hn1 : n1 < 2 ^ 31) (hq3 : sa_iJ (EC l D aI aL ad) a3 q3 n3) (hn3 : n3 < 2 ^ 31)  (k : Sat (EC l D aI aL ad) M_X2_lessen P 9 [(0, .ref (ad 13)), (1, .ref a1), (2, .int x2)] [.int (3 : Int32), .int (0 : Int32), .ref (ad 17), .int x4, .ref a3] I J) : Sat (EC l D aI aL ad) M_X2_lessen P 0 [(0, .ref (ad 13)), (1, .ref a1), (2, .int x2), (3, .ref a3), (4, .int x4)] [] I J := by
  refine s_aload_n 3 dX2_lessen_0 rfl ?_
  refine s_iload 4 dX2_lessen_1 rfl ?_
  refine s_aload_n 0 dX2_lessen_3 rfl ?_
  refine g_X2_18 dX2_lessen_4 rfl ?_
  refine s_iconst (v := 0) dX2_lessen_7 rfl ?_
  refine s_iconst (v := 3) dX2_lessen_8 rfl ?_
  refine s_pick [0, 1, 2] [(0, .ref (ad 13)), (1, .ref a1), (2, .int x2)] rfl ?_; exact k
theorem bX2_lessen_12 {l : Launch} {D : va_G} {aI aL : ClassId} {ad : Nat → Nat} {P : sa_P} {I : sa_I} {J : sa_J} {a1 q1 n1 : Nat} {x2 : Int32} {v21 : Int32} (hq1 : sa_iJ (EC l D aI aL ad) a1 q1 n1) (hn1 : n1 < 2 ^ 31) (f21 : (I 4 0) - (1 : Int32) = v21) (k : Sat (EC l D aI aL ad) M_X2_lessen P 23 [(0, .ref (ad 13)), (1, .ref a1), (2, .int x2), (5, .int v21)] [] I J) : Sat (EC l D aI aL ad) M_X2_lessen P 12 [(0, .ref (ad 13)), (1, .ref a1), (2, .int x2)] [] I J := by
  refine s_aload_n 0 dX2_lessen_12 rfl ?_
  refine g_X2_31 dX2_lessen_13 rfl ?_
  refine g_X2_35 dX2_lessen_16 rfl ?_
  refine s_iconst (v := 1) dX2_lessen_19 rfl ?_
  refine s_isub dX2_lessen_20 ?_
  refine s_eqi f21 ?_
  refine s_istore [(5, .int v21), (0, .ref (ad 13)), (1, .ref a1), (2, .int x2)] dX2_lessen_21 (Nat.lt_of_lt_of_le (Nat.lt_succ_self _) (Nat.le_of_ble_eq_true rfl)) rfl ?_
  refine s_pick [1, 2, 3, 0] [(0, .ref (ad 13)), (1, .ref a1), (2, .int x2), (5, .int v21)] rfl ?_; exact k
theorem bX2_lessen_23 {l : Launch} {D : va_G} {aI aL : ClassId} {ad : Nat → Nat} {P : sa_P} {I : sa_I} {J : sa_J} {a1 q1 n1 : Nat} {x2 : Int32} {x5 : Int32} (hq1 : sa_iJ (EC l D aI aL ad) a1 q1 n1) (hn1 : n1 < 2 ^ 31)  (kt : x5 < 0 → Sat (EC l D aI aL ad) M_X2_lessen P 105 [] [] I J) (kf : ¬ x5 < 0 → Sat (EC l D aI aL ad) M_X2_lessen P 28 [(0, .ref (ad 13)), (1, .ref a1), (2, .int x2), (5, .int x5)] [] I J) : Sat (EC l D aI aL ad) M_X2_lessen P 23 [(0, .ref (ad 13)), (1, .ref a1), (2, .int x2), (5, .int x5)] [] I J := by
  refine s_iload 3 dX2_lessen_23 rfl ?_
  refine s_if_lt (tgt := 105) dX2_lessen_25 (by decide) (fun c => ?_) (fun c => ?_)
  · refine s_pick [] [] rfl ?_; exact kt c
  · exact kf c
theorem bX2_lessen_28 {l : Launch} {D : va_G} {aI aL : ClassId} {ad : Nat → Nat} {P : sa_P} {I : sa_I} {J : sa_J} {a1 q1 n1 : Nat} {x2 : Int32} {x5 : Int32} {j34 : Nat} {v36 : Int64} (hq1 : sa_iJ (EC l D aI aL ad) a1 q1 n1) (hn1 : n1 < 2 ^ 31) (e34 : x2 + ((4 : Int32) * x5) = nI j34) (h35 : j34 < n1) (f36 : J q1 j34 = v36) (kt : v36 ≤ (0 : Int64) → Sat (EC l D aI aL ad) M_X2_lessen P 99 [(0, .ref (ad 13)), (1, .ref a1), (2, .int x2), (5, .int x5)] [] I J) (kf : ¬ v36 ≤ (0 : Int64) → Sat (EC l D aI aL ad) M_X2_lessen P 45 [(0, .ref (ad 13)), (1, .ref a1), (2, .int x2), (5, .int x5), (6, .long v36)] [] I J) : Sat (EC l D aI aL ad) M_X2_lessen P 28 [(0, .ref (ad 13)), (1, .ref a1), (2, .int x2), (5, .int x5)] [] I J := by
  refine s_aload_n 1 dX2_lessen_28 rfl ?_
  refine s_iload_n 2 dX2_lessen_29 rfl ?_
  refine s_iconst (v := 4) dX2_lessen_30 rfl ?_
  refine s_iload 3 dX2_lessen_31 rfl ?_
  refine s_imul dX2_lessen_33 ?_
  refine s_iadd dX2_lessen_34 ?_
  refine s_eqi e34 ?_
  refine s_laloadN hq1 h35 hn1 dX2_lessen_35 ?_
  refine s_eql f36 ?_
  refine s_lstore [(6, .long v36), (0, .ref (ad 13)), (1, .ref a1), (2, .int x2), (5, .int x5)] dX2_lessen_36 (Nat.lt_of_lt_of_le (Nat.lt_succ_self _) (Nat.le_of_ble_eq_true rfl)) rfl ?_
  refine s_lload 0 dX2_lessen_38 rfl ?_
  refine s_lconst (v := 0) dX2_lessen_40 rfl ?_
  refine s_lif_le (tgt := 99) dX2_lessen_41 dX2_lessen_42 (by decide) (fun c => ?_) (fun c => ?_)
  · refine s_pick [1, 2, 3, 4] [(0, .ref (ad 13)), (1, .ref a1), (2, .int x2), (5, .int x5)] rfl ?_; exact kt c
  · refine s_pick [1, 2, 3, 4, 0] [(0, .ref (ad 13)), (1, .ref a1), (2, .int x2), (5, .int x5), (6, .long v36)] rfl ?_; exact kf c
theorem bX2_lessen_45 {l : Launch} {D : va_G} {aI aL : ClassId} {ad : Nat → Nat} {P : sa_P} {I : sa_I} {J : sa_J} {a1 q1 n1 : Nat} {x2 : Int32} {x5 : Int32} {x6 : Int64} {j49 : Nat} (hq1 : sa_iJ (EC l D aI aL ad) a1 q1 n1) (hn1 : n1 < 2 ^ 31) (e49 : x5 = nI j49) (h51 : j49 < 3)  (k : Sat (EC l D aI aL ad) M_X2_lessen P 54 [(0, .ref (ad 13)), (1, .ref a1), (2, .int x2), (5, .int x5)] [.long x6, .long (J 17 j49)] I J) : Sat (EC l D aI aL ad) M_X2_lessen P 45 [(0, .ref (ad 13)), (1, .ref a1), (2, .int x2), (5, .int x5), (6, .long x6)] [] I J := by
  refine s_aload_n 0 dX2_lessen_45 rfl ?_
  refine g_X2_18 dX2_lessen_46 rfl ?_
  refine s_iload 3 dX2_lessen_49 rfl ?_
  refine s_eqi e49 ?_
  refine s_laloadN aJ_C17 h51 (by decide) dX2_lessen_51 ?_
  refine s_lload 4 dX2_lessen_52 rfl ?_
  refine s_pick [0, 1, 2, 3] [(0, .ref (ad 13)), (1, .ref a1), (2, .int x2), (5, .int x5)] rfl ?_; exact k
theorem bX2_lessen_57 {l : Launch} {D : va_G} {aI aL : ClassId} {ad : Nat → Nat} {P : sa_P} {I : sa_I} {J : sa_J} {a1 q1 n1 : Nat} {x2 : Int32} {x5 : Int32} {s0 : Int64} {v60 : Int32} (hq1 : sa_iJ (EC l D aI aL ad) a1 q1 n1) (hn1 : n1 < 2 ^ 31) (f60 : (0 : Int32) = v60) (k : Sat (EC l D aI aL ad) M_X2_lessen P 62 [(0, .ref (ad 13)), (1, .ref a1), (2, .int x2), (5, .int x5), (8, .long s0), (10, .int v60)] [] I J) : Sat (EC l D aI aL ad) M_X2_lessen P 57 [(0, .ref (ad 13)), (1, .ref a1), (2, .int x2), (5, .int x5)] [.long s0] I J := by
  refine s_lstore [(8, .long s0), (0, .ref (ad 13)), (1, .ref a1), (2, .int x2), (5, .int x5)] dX2_lessen_57 (Nat.lt_of_lt_of_le (Nat.lt_succ_self _) (Nat.le_of_ble_eq_true rfl)) rfl ?_
  refine s_iconst (v := 0) dX2_lessen_59 rfl ?_
  refine s_eqi f60 ?_
  refine s_istore [(10, .int v60), (8, .long s0), (0, .ref (ad 13)), (1, .ref a1), (2, .int x2), (5, .int x5)] dX2_lessen_60 (Nat.lt_of_lt_of_le (Nat.lt_succ_self _) (Nat.le_of_ble_eq_true rfl)) rfl ?_
  refine s_pick [2, 3, 4, 5, 1, 0] [(0, .ref (ad 13)), (1, .ref a1), (2, .int x2), (5, .int x5), (8, .long s0), (10, .int v60)] rfl ?_; exact k
theorem bX2_lessen_62 {l : Launch} {D : va_G} {aI aL : ClassId} {ad : Nat → Nat} {P : sa_P} {I : sa_I} {J : sa_J} {a1 q1 n1 : Nat} {x2 : Int32} {x5 : Int32} {x8 : Int64} {x10 : Int32} (hq1 : sa_iJ (EC l D aI aL ad) a1 q1 n1) (hn1 : n1 < 2 ^ 31)  (kt : x5 < x10 → Sat (EC l D aI aL ad) M_X2_lessen P 99 [(0, .ref (ad 13)), (1, .ref a1), (2, .int x2), (5, .int x5)] [] I J) (kf : ¬ x5 < x10 → Sat (EC l D aI aL ad) M_X2_lessen P 69 [(0, .ref (ad 13)), (1, .ref a1), (2, .int x2), (5, .int x5), (8, .long x8), (10, .int x10)] [] I J) : Sat (EC l D aI aL ad) M_X2_lessen P 62 [(0, .ref (ad 13)), (1, .ref a1), (2, .int x2), (5, .int x5), (8, .long x8), (10, .int x10)] [] I J := by
  refine s_iload 5 dX2_lessen_62 rfl ?_
  refine s_iload 3 dX2_lessen_64 rfl ?_
  refine s_icmp_gt (tgt := 99) dX2_lessen_66 (by decide) (fun c => ?_) (fun c => ?_)
  · refine s_pick [0, 1, 2, 3] [(0, .ref (ad 13)), (1, .ref a1), (2, .int x2), (5, .int x5)] rfl ?_; exact kt c
  · exact kf c
theorem bX2_lessen_69 {l : Launch} {D : va_G} {aI aL : ClassId} {ad : Nat → Nat} {P : sa_P} {I : sa_I} {J : sa_J} {a1 q1 n1 : Nat} {x2 : Int32} {x5 : Int32} {x8 : Int64} {x10 : Int32} {j73 : Nat} {j88 : Nat} {v92 : Int64} {v93 : Int32} (hq1 : sa_iJ (EC l D aI aL ad) a1 q1 n1) (hn1 : n1 < 2 ^ 31) (e73 : x10 = nI j73) (h76 : j73 < 3) (e88 : (x2 + ((3 : Int32) * x5)) + x10 = nI j88) (h89 : j88 < n1) (h92 : j73 < 3) (f92 : (J 17 j73) - (x8 * (J q1 j88)) = v92) (f93 : x10 + 1 = v93) (k : Sat (EC l D aI aL ad) M_X2_lessen P 62 [(0, .ref (ad 13)), (1, .ref a1), (2, .int x2), (5, .int x5), (8, .long x8), (10, .int v93)] [] I (sa_uJ J 17 j73 v92)) : Sat (EC l D aI aL ad) M_X2_lessen P 69 [(0, .ref (ad 13)), (1, .ref a1), (2, .int x2), (5, .int x5), (8, .long x8), (10, .int x10)] [] I J := by
  refine s_aload_n 0 dX2_lessen_69 rfl ?_
  refine g_X2_18 dX2_lessen_70 rfl ?_
  refine s_iload 5 dX2_lessen_73 rfl ?_
  refine s_eqi e73 ?_
  refine s_dup2_11 dX2_lessen_75 rfl rfl ?_
  refine s_laloadN aJ_C17 h76 (by decide) dX2_lessen_76 ?_
  refine s_lload 4 dX2_lessen_77 rfl ?_
  refine s_aload_n 1 dX2_lessen_79 rfl ?_
  refine s_iload_n 2 dX2_lessen_80 rfl ?_
  refine s_iconst (v := 3) dX2_lessen_81 rfl ?_
  refine s_iload 3 dX2_lessen_82 rfl ?_
  refine s_imul dX2_lessen_84 ?_
  refine s_iadd dX2_lessen_85 ?_
  refine s_iload 5 dX2_lessen_86 rfl ?_
  refine s_iadd dX2_lessen_88 ?_
  refine s_eqi e88 ?_
  refine s_laloadN hq1 h89 hn1 dX2_lessen_89 ?_
  refine s_lmul dX2_lessen_90 ?_
  refine s_lsub dX2_lessen_91 ?_
  refine s_eql f92 ?_
  refine s_lastoreN aJ_C17 h92 (by decide) dX2_lessen_92 ?_
  refine s_iinc 5 v93 [(10, .int v93), (0, .ref (ad 13)), (1, .ref a1), (2, .int x2), (5, .int x5), (8, .long x8)] dX2_lessen_93 rfl f93 (Nat.lt_of_lt_of_le (Nat.lt_succ_self _) (Nat.le_of_ble_eq_true rfl)) rfl ?_
  refine s_goto (tgt := 62) dX2_lessen_96 (by decide) ?_
  refine s_pick [1, 2, 3, 4, 5, 0] [(0, .ref (ad 13)), (1, .ref a1), (2, .int x2), (5, .int x5), (8, .long x8), (10, .int v93)] rfl ?_; exact k
theorem bX2_lessen_99 {l : Launch} {D : va_G} {aI aL : ClassId} {ad : Nat → Nat} {P : sa_P} {I : sa_I} {J : sa_J} {a1 q1 n1 : Nat} {x2 : Int32} {x5 : Int32} {v99 : Int32} (hq1 : sa_iJ (EC l D aI aL ad) a1 q1 n1) (hn1 : n1 < 2 ^ 31) (f99 : x5 + (-1) = v99) (k : Sat (EC l D aI aL ad) M_X2_lessen P 23 [(0, .ref (ad 13)), (1, .ref a1), (2, .int x2), (5, .int v99)] [] I J) : Sat (EC l D aI aL ad) M_X2_lessen P 99 [(0, .ref (ad 13)), (1, .ref a1), (2, .int x2), (5, .int x5)] [] I J := by
  refine s_iinc 3 v99 [(5, .int v99), (0, .ref (ad 13)), (1, .ref a1), (2, .int x2)] dX2_lessen_99 rfl f99 (Nat.lt_of_lt_of_le (Nat.lt_succ_self _) (Nat.le_of_ble_eq_true rfl)) rfl ?_
  refine s_goto (tgt := 23) dX2_lessen_102 (by decide) ?_
  refine s_pick [1, 2, 3, 0] [(0, .ref (ad 13)), (1, .ref a1), (2, .int x2), (5, .int v99)] rfl ?_; exact k
theorem bX2_lessen_105 {l : Launch} {D : va_G} {aI aL : ClassId} {ad : Nat → Nat} {P : sa_P} {I : sa_I} {J : sa_J}    (k : P (none) I J) : Sat (EC l D aI aL ad) M_X2_lessen P 105 [] [] I J := by
  exact s_vret rfl dX2_lessen_105 k
/-! X2_has -/
theorem dX2_has_0 : decode cX2_has 0 = .ok (.aload_n 0, 1) := by decide +kernel
theorem dX2_has_1 : decode cX2_has 1 = .ok (.aload_n 1, 1) := by decide +kernel
theorem dX2_has_2 : decode cX2_has 2 = .ok (.iload_n 2, 1) := by decide +kernel
theorem dX2_has_3 : decode cX2_has 3 = .ok (.aload_n 3, 1) := by decide +kernel
theorem dX2_has_4 : decode cX2_has 4 = .ok (.iload 4, 2) := by decide +kernel
theorem dX2_has_6 : decode cX2_has 6 = .ok (.invokevirtual 109, 3) := by decide +kernel
theorem dX2_has_9 : decode cX2_has 9 = .ok (.iconst 0, 1) := by decide +kernel
theorem dX2_has_10 : decode cX2_has 10 = .ok (.istore 5, 2) := by decide +kernel
theorem dX2_has_12 : decode cX2_has 12 = .ok (.iload 5, 2) := by decide +kernel
theorem dX2_has_14 : decode cX2_has 14 = .ok (.aload_n 0, 1) := by decide +kernel
theorem dX2_has_15 : decode cX2_has 15 = .ok (.getfield 31, 3) := by decide +kernel
theorem dX2_has_18 : decode cX2_has 18 = .ok (.getfield 35, 3) := by decide +kernel
theorem dX2_has_21 : decode cX2_has 21 = .ok (.if_icmp .ge 23, 3) := by decide +kernel
theorem dX2_has_24 : decode cX2_has 24 = .ok (.aload_n 0, 1) := by decide +kernel
theorem dX2_has_25 : decode cX2_has 25 = .ok (.getfield 18, 3) := by decide +kernel
theorem dX2_has_28 : decode cX2_has 28 = .ok (.iload 5, 2) := by decide +kernel
theorem dX2_has_30 : decode cX2_has 30 = .ok (.laload, 1) := by decide +kernel
theorem dX2_has_31 : decode cX2_has 31 = .ok (.lconst 0, 1) := by decide +kernel
theorem dX2_has_32 : decode cX2_has 32 = .ok (.lcmp, 1) := by decide +kernel
theorem dX2_has_33 : decode cX2_has 33 = .ok (.ifCond .eq 5, 3) := by decide +kernel
theorem dX2_has_36 : decode cX2_has 36 = .ok (.iconst 0, 1) := by decide +kernel
theorem dX2_has_37 : decode cX2_has 37 = .ok (.ireturn, 1) := by decide +kernel
theorem dX2_has_38 : decode cX2_has 38 = .ok (.iinc 5 1, 3) := by decide +kernel
theorem dX2_has_41 : decode cX2_has 41 = .ok (.goto (-29), 3) := by decide +kernel
theorem dX2_has_44 : decode cX2_has 44 = .ok (.iconst 1, 1) := by decide +kernel
theorem dX2_has_45 : decode cX2_has 45 = .ok (.ireturn, 1) := by decide +kernel
theorem bX2_has_0 {l : Launch} {D : va_G} {aI aL : ClassId} {ad : Nat → Nat} {P : sa_P} {I : sa_I} {J : sa_J} {a1 q1 n1 : Nat} {x2 : Int32} {a3 q3 n3 : Nat} {x4 : Int32} (hq1 : sa_iJ (EC l D aI aL ad) a1 q1 n1) (hn1 : n1 < 2 ^ 31) (hq3 : sa_iJ (EC l D aI aL ad) a3 q3 n3) (hn3 : n3 < 2 ^ 31)  (k : Sat (EC l D aI aL ad) M_X2_has P 6 [(0, .ref (ad 13))] [.int x4, .ref a3, .int x2, .ref a1, .ref (ad 13)] I J) : Sat (EC l D aI aL ad) M_X2_has P 0 [(0, .ref (ad 13)), (1, .ref a1), (2, .int x2), (3, .ref a3), (4, .int x4)] [] I J := by
  refine s_aload_n 0 dX2_has_0 rfl ?_
  refine s_aload_n 1 dX2_has_1 rfl ?_
  refine s_iload_n 2 dX2_has_2 rfl ?_
  refine s_aload_n 3 dX2_has_3 rfl ?_
  refine s_iload 4 dX2_has_4 rfl ?_
  refine s_pick [0] [(0, .ref (ad 13))] rfl ?_; exact k
theorem bX2_has_9 {l : Launch} {D : va_G} {aI aL : ClassId} {ad : Nat → Nat} {P : sa_P} {I : sa_I} {J : sa_J} {v10 : Int32}  (f10 : (0 : Int32) = v10) (k : Sat (EC l D aI aL ad) M_X2_has P 12 [(0, .ref (ad 13)), (5, .int v10)] [] I J) : Sat (EC l D aI aL ad) M_X2_has P 9 [(0, .ref (ad 13))] [] I J := by
  refine s_iconst (v := 0) dX2_has_9 rfl ?_
  refine s_eqi f10 ?_
  refine s_istore [(5, .int v10), (0, .ref (ad 13))] dX2_has_10 (Nat.lt_of_lt_of_le (Nat.lt_succ_self _) (Nat.le_of_ble_eq_true rfl)) rfl ?_
  refine s_pick [1, 0] [(0, .ref (ad 13)), (5, .int v10)] rfl ?_; exact k
theorem bX2_has_12 {l : Launch} {D : va_G} {aI aL : ClassId} {ad : Nat → Nat} {P : sa_P} {I : sa_I} {J : sa_J} {x5 : Int32}   (kt : I 4 0 ≤ x5 → Sat (EC l D aI aL ad) M_X2_has P 44 [] [] I J) (kf : ¬ I 4 0 ≤ x5 → Sat (EC l D aI aL ad) M_X2_has P 24 [(0, .ref (ad 13)), (5, .int x5)] [] I J) : Sat (EC l D aI aL ad) M_X2_has P 12 [(0, .ref (ad 13)), (5, .int x5)] [] I J := by
  refine s_iload 1 dX2_has_12 rfl ?_
  refine s_aload_n 0 dX2_has_14 rfl ?_
  refine g_X2_31 dX2_has_15 rfl ?_
  refine g_X2_35 dX2_has_18 rfl ?_
  refine s_icmp_ge (tgt := 44) dX2_has_21 (by decide) (fun c => ?_) (fun c => ?_)
  · refine s_pick [] [] rfl ?_; exact kt c
  · exact kf c
theorem bX2_has_24 {l : Launch} {D : va_G} {aI aL : ClassId} {ad : Nat → Nat} {P : sa_P} {I : sa_I} {J : sa_J} {x5 : Int32} {j28 : Nat} (e28 : x5 = nI j28) (h30 : j28 < 3)  (kt : J 17 j28 = (0 : Int64) → Sat (EC l D aI aL ad) M_X2_has P 38 [(0, .ref (ad 13)), (5, .int x5)] [] I J) (kf : ¬ J 17 j28 = (0 : Int64) → Sat (EC l D aI aL ad) M_X2_has P 36 [] [] I J) : Sat (EC l D aI aL ad) M_X2_has P 24 [(0, .ref (ad 13)), (5, .int x5)] [] I J := by
  refine s_aload_n 0 dX2_has_24 rfl ?_
  refine g_X2_18 dX2_has_25 rfl ?_
  refine s_iload 1 dX2_has_28 rfl ?_
  refine s_eqi e28 ?_
  refine s_laloadN aJ_C17 h30 (by decide) dX2_has_30 ?_
  refine s_lconst (v := 0) dX2_has_31 rfl ?_
  refine s_lif_eq (tgt := 38) dX2_has_32 dX2_has_33 (by decide) (fun c => ?_) (fun c => ?_)
  · exact kt c
  · refine s_pick [] [] rfl ?_; exact kf c
theorem bX2_has_36 {l : Launch} {D : va_G} {aI aL : ClassId} {ad : Nat → Nat} {P : sa_P} {I : sa_I} {J : sa_J}    (k : P (some (.int (0 : Int32))) I J) : Sat (EC l D aI aL ad) M_X2_has P 36 [] [] I J := by
  refine s_iconst (v := 0) dX2_has_36 rfl ?_
  exact s_zret rfl rfl dX2_has_37 k
theorem bX2_has_38 {l : Launch} {D : va_G} {aI aL : ClassId} {ad : Nat → Nat} {P : sa_P} {I : sa_I} {J : sa_J} {x5 : Int32} {v38 : Int32}  (f38 : x5 + 1 = v38) (k : Sat (EC l D aI aL ad) M_X2_has P 12 [(0, .ref (ad 13)), (5, .int v38)] [] I J) : Sat (EC l D aI aL ad) M_X2_has P 38 [(0, .ref (ad 13)), (5, .int x5)] [] I J := by
  refine s_iinc 1 v38 [(5, .int v38), (0, .ref (ad 13))] dX2_has_38 rfl f38 (Nat.lt_of_lt_of_le (Nat.lt_succ_self _) (Nat.le_of_ble_eq_true rfl)) rfl ?_
  refine s_goto (tgt := 12) dX2_has_41 (by decide) ?_
  refine s_pick [1, 0] [(0, .ref (ad 13)), (5, .int v38)] rfl ?_; exact k
theorem bX2_has_44 {l : Launch} {D : va_G} {aI aL : ClassId} {ad : Nat → Nat} {P : sa_P} {I : sa_I} {J : sa_J}    (k : P (some (.int (1 : Int32))) I J) : Sat (EC l D aI aL ad) M_X2_has P 44 [] [] I J := by
  refine s_iconst (v := 1) dX2_has_44 rfl ?_
  exact s_zret rfl rfl dX2_has_45 k
/-! X2_hasAll -/
theorem dX2_hasAll_0 : decode cX2_hasAll 0 = .ok (.iconst 0, 1) := by decide +kernel
theorem dX2_hasAll_1 : decode cX2_hasAll 1 = .ok (.istore 5, 2) := by decide +kernel
theorem dX2_hasAll_3 : decode cX2_hasAll 3 = .ok (.iload 5, 2) := by decide +kernel
theorem dX2_hasAll_5 : decode cX2_hasAll 5 = .ok (.aload_n 0, 1) := by decide +kernel
theorem dX2_hasAll_6 : decode cX2_hasAll 6 = .ok (.getfield 31, 3) := by decide +kernel
theorem dX2_hasAll_9 : decode cX2_hasAll 9 = .ok (.getfield 35, 3) := by decide +kernel
theorem dX2_hasAll_12 : decode cX2_hasAll 12 = .ok (.if_icmp .ge 28, 3) := by decide +kernel
theorem dX2_hasAll_15 : decode cX2_hasAll 15 = .ok (.aload_n 0, 1) := by decide +kernel
theorem dX2_hasAll_16 : decode cX2_hasAll 16 = .ok (.aload_n 1, 1) := by decide +kernel
theorem dX2_hasAll_17 : decode cX2_hasAll 17 = .ok (.iload_n 2, 1) := by decide +kernel
theorem dX2_hasAll_18 : decode cX2_hasAll 18 = .ok (.aload_n 3, 1) := by decide +kernel
theorem dX2_hasAll_19 : decode cX2_hasAll 19 = .ok (.iload 4, 2) := by decide +kernel
theorem dX2_hasAll_21 : decode cX2_hasAll 21 = .ok (.iconst 3, 1) := by decide +kernel
theorem dX2_hasAll_22 : decode cX2_hasAll 22 = .ok (.iload 5, 2) := by decide +kernel
theorem dX2_hasAll_24 : decode cX2_hasAll 24 = .ok (.imul, 1) := by decide +kernel
theorem dX2_hasAll_25 : decode cX2_hasAll 25 = .ok (.iadd, 1) := by decide +kernel
theorem dX2_hasAll_26 : decode cX2_hasAll 26 = .ok (.invokevirtual 112, 3) := by decide +kernel
theorem dX2_hasAll_29 : decode cX2_hasAll 29 = .ok (.ifCond .ne 5, 3) := by decide +kernel
theorem dX2_hasAll_32 : decode cX2_hasAll 32 = .ok (.iconst 0, 1) := by decide +kernel
theorem dX2_hasAll_33 : decode cX2_hasAll 33 = .ok (.ireturn, 1) := by decide +kernel
theorem dX2_hasAll_34 : decode cX2_hasAll 34 = .ok (.iinc 5 1, 3) := by decide +kernel
theorem dX2_hasAll_37 : decode cX2_hasAll 37 = .ok (.goto (-34), 3) := by decide +kernel
theorem dX2_hasAll_40 : decode cX2_hasAll 40 = .ok (.iconst 1, 1) := by decide +kernel
theorem dX2_hasAll_41 : decode cX2_hasAll 41 = .ok (.ireturn, 1) := by decide +kernel
theorem bX2_hasAll_0 {l : Launch} {D : va_G} {aI aL : ClassId} {ad : Nat → Nat} {P : sa_P} {I : sa_I} {J : sa_J} {a1 q1 n1 : Nat} {x2 : Int32} {a3 q3 n3 : Nat} {x4 : Int32} {v1 : Int32} (hq1 : sa_iJ (EC l D aI aL ad) a1 q1 n1) (hn1 : n1 < 2 ^ 31) (hq3 : sa_iJ (EC l D aI aL ad) a3 q3 n3) (hn3 : n3 < 2 ^ 31) (f1 : (0 : Int32) = v1) (k : Sat (EC l D aI aL ad) M_X2_hasAll P 3 [(0, .ref (ad 13)), (1, .ref a1), (2, .int x2), (3, .ref a3), (4, .int x4), (5, .int v1)] [] I J) : Sat (EC l D aI aL ad) M_X2_hasAll P 0 [(0, .ref (ad 13)), (1, .ref a1), (2, .int x2), (3, .ref a3), (4, .int x4)] [] I J := by
  refine s_iconst (v := 0) dX2_hasAll_0 rfl ?_
  refine s_eqi f1 ?_
  refine s_istore [(5, .int v1), (0, .ref (ad 13)), (1, .ref a1), (2, .int x2), (3, .ref a3), (4, .int x4)] dX2_hasAll_1 (Nat.lt_of_lt_of_le (Nat.lt_succ_self _) (Nat.le_of_ble_eq_true rfl)) rfl ?_
  refine s_pick [1, 2, 3, 4, 5, 0] [(0, .ref (ad 13)), (1, .ref a1), (2, .int x2), (3, .ref a3), (4, .int x4), (5, .int v1)] rfl ?_; exact k
theorem bX2_hasAll_3 {l : Launch} {D : va_G} {aI aL : ClassId} {ad : Nat → Nat} {P : sa_P} {I : sa_I} {J : sa_J} {a1 q1 n1 : Nat} {x2 : Int32} {a3 q3 n3 : Nat} {x4 : Int32} {x5 : Int32} (hq1 : sa_iJ (EC l D aI aL ad) a1 q1 n1) (hn1 : n1 < 2 ^ 31) (hq3 : sa_iJ (EC l D aI aL ad) a3 q3 n3) (hn3 : n3 < 2 ^ 31)  (kt : I 4 0 ≤ x5 → Sat (EC l D aI aL ad) M_X2_hasAll P 40 [] [] I J) (kf : ¬ I 4 0 ≤ x5 → Sat (EC l D aI aL ad) M_X2_hasAll P 15 [(0, .ref (ad 13)), (1, .ref a1), (2, .int x2), (3, .ref a3), (4, .int x4), (5, .int x5)] [] I J) : Sat (EC l D aI aL ad) M_X2_hasAll P 3 [(0, .ref (ad 13)), (1, .ref a1), (2, .int x2), (3, .ref a3), (4, .int x4), (5, .int x5)] [] I J := by
  refine s_iload 5 dX2_hasAll_3 rfl ?_
  refine s_aload_n 0 dX2_hasAll_5 rfl ?_
  refine g_X2_31 dX2_hasAll_6 rfl ?_
  refine g_X2_35 dX2_hasAll_9 rfl ?_
  refine s_icmp_ge (tgt := 40) dX2_hasAll_12 (by decide) (fun c => ?_) (fun c => ?_)
  · refine s_pick [] [] rfl ?_; exact kt c
  · exact kf c
theorem bX2_hasAll_15 {l : Launch} {D : va_G} {aI aL : ClassId} {ad : Nat → Nat} {P : sa_P} {I : sa_I} {J : sa_J} {a1 q1 n1 : Nat} {x2 : Int32} {a3 q3 n3 : Nat} {x4 : Int32} {x5 : Int32} (hq1 : sa_iJ (EC l D aI aL ad) a1 q1 n1) (hn1 : n1 < 2 ^ 31) (hq3 : sa_iJ (EC l D aI aL ad) a3 q3 n3) (hn3 : n3 < 2 ^ 31)  (k : Sat (EC l D aI aL ad) M_X2_hasAll P 26 [(0, .ref (ad 13)), (1, .ref a1), (2, .int x2), (3, .ref a3), (4, .int x4), (5, .int x5)] [.int (x4 + ((3 : Int32) * x5)), .ref a3, .int x2, .ref a1, .ref (ad 13)] I J) : Sat (EC l D aI aL ad) M_X2_hasAll P 15 [(0, .ref (ad 13)), (1, .ref a1), (2, .int x2), (3, .ref a3), (4, .int x4), (5, .int x5)] [] I J := by
  refine s_aload_n 0 dX2_hasAll_15 rfl ?_
  refine s_aload_n 1 dX2_hasAll_16 rfl ?_
  refine s_iload_n 2 dX2_hasAll_17 rfl ?_
  refine s_aload_n 3 dX2_hasAll_18 rfl ?_
  refine s_iload 4 dX2_hasAll_19 rfl ?_
  refine s_iconst (v := 3) dX2_hasAll_21 rfl ?_
  refine s_iload 5 dX2_hasAll_22 rfl ?_
  refine s_imul dX2_hasAll_24 ?_
  refine s_iadd dX2_hasAll_25 ?_
  exact k
theorem bX2_hasAll_29 {l : Launch} {D : va_G} {aI aL : ClassId} {ad : Nat → Nat} {P : sa_P} {I : sa_I} {J : sa_J} {a1 q1 n1 : Nat} {x2 : Int32} {a3 q3 n3 : Nat} {x4 : Int32} {x5 : Int32} {s0 : Int32} (hq1 : sa_iJ (EC l D aI aL ad) a1 q1 n1) (hn1 : n1 < 2 ^ 31) (hq3 : sa_iJ (EC l D aI aL ad) a3 q3 n3) (hn3 : n3 < 2 ^ 31)  (kt : ¬ s0 = 0 → Sat (EC l D aI aL ad) M_X2_hasAll P 34 [(0, .ref (ad 13)), (1, .ref a1), (2, .int x2), (3, .ref a3), (4, .int x4), (5, .int x5)] [] I J) (kf : s0 = 0 → Sat (EC l D aI aL ad) M_X2_hasAll P 32 [] [] I J) : Sat (EC l D aI aL ad) M_X2_hasAll P 29 [(0, .ref (ad 13)), (1, .ref a1), (2, .int x2), (3, .ref a3), (4, .int x4), (5, .int x5)] [.int s0] I J := by
  refine s_if_ne (tgt := 34) dX2_hasAll_29 (by decide) (fun c => ?_) (fun c => ?_)
  · exact kt c
  · refine s_pick [] [] rfl ?_; exact kf (by first | exact c | exact Classical.not_not.mp c)
theorem bX2_hasAll_32 {l : Launch} {D : va_G} {aI aL : ClassId} {ad : Nat → Nat} {P : sa_P} {I : sa_I} {J : sa_J}    (k : P (some (.int (0 : Int32))) I J) : Sat (EC l D aI aL ad) M_X2_hasAll P 32 [] [] I J := by
  refine s_iconst (v := 0) dX2_hasAll_32 rfl ?_
  exact s_zret rfl rfl dX2_hasAll_33 k
theorem bX2_hasAll_34 {l : Launch} {D : va_G} {aI aL : ClassId} {ad : Nat → Nat} {P : sa_P} {I : sa_I} {J : sa_J} {a1 q1 n1 : Nat} {x2 : Int32} {a3 q3 n3 : Nat} {x4 : Int32} {x5 : Int32} {v34 : Int32} (hq1 : sa_iJ (EC l D aI aL ad) a1 q1 n1) (hn1 : n1 < 2 ^ 31) (hq3 : sa_iJ (EC l D aI aL ad) a3 q3 n3) (hn3 : n3 < 2 ^ 31) (f34 : x5 + 1 = v34) (k : Sat (EC l D aI aL ad) M_X2_hasAll P 3 [(0, .ref (ad 13)), (1, .ref a1), (2, .int x2), (3, .ref a3), (4, .int x4), (5, .int v34)] [] I J) : Sat (EC l D aI aL ad) M_X2_hasAll P 34 [(0, .ref (ad 13)), (1, .ref a1), (2, .int x2), (3, .ref a3), (4, .int x4), (5, .int x5)] [] I J := by
  refine s_iinc 5 v34 [(5, .int v34), (0, .ref (ad 13)), (1, .ref a1), (2, .int x2), (3, .ref a3), (4, .int x4)] dX2_hasAll_34 rfl f34 (Nat.lt_of_lt_of_le (Nat.lt_succ_self _) (Nat.le_of_ble_eq_true rfl)) rfl ?_
  refine s_goto (tgt := 3) dX2_hasAll_37 (by decide) ?_
  refine s_pick [1, 2, 3, 4, 5, 0] [(0, .ref (ad 13)), (1, .ref a1), (2, .int x2), (3, .ref a3), (4, .int x4), (5, .int v34)] rfl ?_; exact k
theorem bX2_hasAll_40 {l : Launch} {D : va_G} {aI aL : ClassId} {ad : Nat → Nat} {P : sa_P} {I : sa_I} {J : sa_J}    (k : P (some (.int (1 : Int32))) I J) : Sat (EC l D aI aL ad) M_X2_hasAll P 40 [] [] I J := by
  refine s_iconst (v := 1) dX2_hasAll_40 rfl ?_
  exact s_zret rfl rfl dX2_hasAll_41 k
/-! X2_timesIn -/
theorem dX2_timesIn_0 : decode cX2_timesIn 0 = .ok (.aload_n 3, 1) := by decide +kernel
theorem dX2_timesIn_1 : decode cX2_timesIn 1 = .ok (.iload 4, 2) := by decide +kernel
theorem dX2_timesIn_3 : decode cX2_timesIn 3 = .ok (.invokestatic 69, 3) := by decide +kernel
theorem dX2_timesIn_6 : decode cX2_timesIn 6 = .ok (.lstore 5, 2) := by decide +kernel
theorem dX2_timesIn_8 : decode cX2_timesIn 8 = .ok (.aload_n 1, 1) := by decide +kernel
theorem dX2_timesIn_9 : decode cX2_timesIn 9 = .ok (.iload_n 2, 1) := by decide +kernel
theorem dX2_timesIn_10 : decode cX2_timesIn 10 = .ok (.invokestatic 69, 3) := by decide +kernel
theorem dX2_timesIn_13 : decode cX2_timesIn 13 = .ok (.lstore 7, 2) := by decide +kernel
theorem dX2_timesIn_15 : decode cX2_timesIn 15 = .ok (.aload_n 0, 1) := by decide +kernel
theorem dX2_timesIn_16 : decode cX2_timesIn 16 = .ok (.aload_n 1, 1) := by decide +kernel
theorem dX2_timesIn_17 : decode cX2_timesIn 17 = .ok (.iload_n 2, 1) := by decide +kernel
theorem dX2_timesIn_18 : decode cX2_timesIn 18 = .ok (.invokevirtual 116, 3) := by decide +kernel
theorem dX2_timesIn_21 : decode cX2_timesIn 21 = .ok (.lload 7, 2) := by decide +kernel
theorem dX2_timesIn_23 : decode cX2_timesIn 23 = .ok (.lstore 9, 2) := by decide +kernel
theorem dX2_timesIn_25 : decode cX2_timesIn 25 = .ok (.iconst 0, 1) := by decide +kernel
theorem dX2_timesIn_26 : decode cX2_timesIn 26 = .ok (.istore 11, 2) := by decide +kernel
theorem dX2_timesIn_28 : decode cX2_timesIn 28 = .ok (.iload 11, 2) := by decide +kernel
theorem dX2_timesIn_30 : decode cX2_timesIn 30 = .ok (.sipush 1000, 3) := by decide +kernel
theorem dX2_timesIn_33 : decode cX2_timesIn 33 = .ok (.if_icmp .ge 86, 3) := by decide +kernel
theorem dX2_timesIn_36 : decode cX2_timesIn 36 = .ok (.lload 9, 2) := by decide +kernel
theorem dX2_timesIn_38 : decode cX2_timesIn 38 = .ok (.lconst 1, 1) := by decide +kernel
theorem dX2_timesIn_39 : decode cX2_timesIn 39 = .ok (.lcmp, 1) := by decide +kernel
theorem dX2_timesIn_40 : decode cX2_timesIn 40 = .ok (.ifCond .le 79, 3) := by decide +kernel
theorem dX2_timesIn_43 : decode cX2_timesIn 43 = .ok (.lload 9, 2) := by decide +kernel
theorem dX2_timesIn_45 : decode cX2_timesIn 45 = .ok (.lload 5, 2) := by decide +kernel
theorem dX2_timesIn_47 : decode cX2_timesIn 47 = .ok (.lcmp, 1) := by decide +kernel
theorem dX2_timesIn_48 : decode cX2_timesIn 48 = .ok (.ifCond .gt 71, 3) := by decide +kernel
theorem dX2_timesIn_51 : decode cX2_timesIn 51 = .ok (.aload_n 0, 1) := by decide +kernel
theorem dX2_timesIn_52 : decode cX2_timesIn 52 = .ok (.aload_n 0, 1) := by decide +kernel
theorem dX2_timesIn_53 : decode cX2_timesIn 53 = .ok (.getfield 12, 3) := by decide +kernel
theorem dX2_timesIn_56 : decode cX2_timesIn 56 = .ok (.getfield 85, 3) := by decide +kernel
theorem dX2_timesIn_59 : decode cX2_timesIn 59 = .ok (.iconst 0, 1) := by decide +kernel
theorem dX2_timesIn_60 : decode cX2_timesIn 60 = .ok (.aload_n 3, 1) := by decide +kernel
theorem dX2_timesIn_61 : decode cX2_timesIn 61 = .ok (.iload 4, 2) := by decide +kernel
theorem dX2_timesIn_63 : decode cX2_timesIn 63 = .ok (.invokevirtual 119, 3) := by decide +kernel
theorem dX2_timesIn_66 : decode cX2_timesIn 66 = .ok (.ifCond .eq 53, 3) := by decide +kernel
theorem dX2_timesIn_69 : decode cX2_timesIn 69 = .ok (.iinc 11 1, 3) := by decide +kernel
theorem dX2_timesIn_72 : decode cX2_timesIn 72 = .ok (.lload 9, 2) := by decide +kernel
theorem dX2_timesIn_74 : decode cX2_timesIn 74 = .ok (.lload 7, 2) := by decide +kernel
theorem dX2_timesIn_76 : decode cX2_timesIn 76 = .ok (.lmul, 1) := by decide +kernel
theorem dX2_timesIn_77 : decode cX2_timesIn 77 = .ok (.lstore 9, 2) := by decide +kernel
theorem dX2_timesIn_79 : decode cX2_timesIn 79 = .ok (.lload 9, 2) := by decide +kernel
theorem dX2_timesIn_81 : decode cX2_timesIn 81 = .ok (.lload 5, 2) := by decide +kernel
theorem dX2_timesIn_83 : decode cX2_timesIn 83 = .ok (.lcmp, 1) := by decide +kernel
theorem dX2_timesIn_84 : decode cX2_timesIn 84 = .ok (.ifCond .gt (-56), 3) := by decide +kernel
theorem dX2_timesIn_87 : decode cX2_timesIn 87 = .ok (.aload_n 0, 1) := by decide +kernel
theorem dX2_timesIn_88 : decode cX2_timesIn 88 = .ok (.getfield 12, 3) := by decide +kernel
theorem dX2_timesIn_91 : decode cX2_timesIn 91 = .ok (.getfield 85, 3) := by decide +kernel
theorem dX2_timesIn_94 : decode cX2_timesIn 94 = .ok (.iconst 0, 1) := by decide +kernel
theorem dX2_timesIn_95 : decode cX2_timesIn 95 = .ok (.aload_n 0, 1) := by decide +kernel
theorem dX2_timesIn_96 : decode cX2_timesIn 96 = .ok (.getfield 22, 3) := by decide +kernel
theorem dX2_timesIn_99 : decode cX2_timesIn 99 = .ok (.iconst 0, 1) := by decide +kernel
theorem dX2_timesIn_100 : decode cX2_timesIn 100 = .ok (.bipush 9, 2) := by decide +kernel
theorem dX2_timesIn_102 : decode cX2_timesIn 102 = .ok (.invokestatic 92, 3) := by decide +kernel
theorem dX2_timesIn_105 : decode cX2_timesIn 105 = .ok (.aload_n 0, 1) := by decide +kernel
theorem dX2_timesIn_106 : decode cX2_timesIn 106 = .ok (.aload_n 0, 1) := by decide +kernel
theorem dX2_timesIn_107 : decode cX2_timesIn 107 = .ok (.getfield 22, 3) := by decide +kernel
theorem dX2_timesIn_110 : decode cX2_timesIn 110 = .ok (.iconst 0, 1) := by decide +kernel
theorem dX2_timesIn_111 : decode cX2_timesIn 111 = .ok (.aload_n 1, 1) := by decide +kernel
theorem dX2_timesIn_112 : decode cX2_timesIn 112 = .ok (.iload_n 2, 1) := by decide +kernel
theorem dX2_timesIn_113 : decode cX2_timesIn 113 = .ok (.invokevirtual 122, 3) := by decide +kernel
theorem dX2_timesIn_116 : decode cX2_timesIn 116 = .ok (.goto (-88), 3) := by decide +kernel
theorem dX2_timesIn_119 : decode cX2_timesIn 119 = .ok (.iload 11, 2) := by decide +kernel
theorem dX2_timesIn_121 : decode cX2_timesIn 121 = .ok (.ireturn, 1) := by decide +kernel
theorem bX2_timesIn_0 {l : Launch} {D : va_G} {aI aL : ClassId} {ad : Nat → Nat} {P : sa_P} {I : sa_I} {J : sa_J} {a1 q1 n1 : Nat} {x2 : Int32} {a3 q3 n3 : Nat} {x4 : Int32} (hq1 : sa_iJ (EC l D aI aL ad) a1 q1 n1) (hn1 : n1 < 2 ^ 31) (hq3 : sa_iJ (EC l D aI aL ad) a3 q3 n3) (hn3 : n3 < 2 ^ 31)  (k : Sat (EC l D aI aL ad) M_X2_timesIn P 3 [(0, .ref (ad 13)), (1, .ref a1), (2, .int x2), (3, .ref a3), (4, .int x4)] [.int x4, .ref a3] I J) : Sat (EC l D aI aL ad) M_X2_timesIn P 0 [(0, .ref (ad 13)), (1, .ref a1), (2, .int x2), (3, .ref a3), (4, .int x4)] [] I J := by
  refine s_aload_n 3 dX2_timesIn_0 rfl ?_
  refine s_iload 4 dX2_timesIn_1 rfl ?_
  exact k
theorem bX2_timesIn_6 {l : Launch} {D : va_G} {aI aL : ClassId} {ad : Nat → Nat} {P : sa_P} {I : sa_I} {J : sa_J} {a1 q1 n1 : Nat} {x2 : Int32} {a3 q3 n3 : Nat} {x4 : Int32} {s0 : Int64} (hq1 : sa_iJ (EC l D aI aL ad) a1 q1 n1) (hn1 : n1 < 2 ^ 31) (hq3 : sa_iJ (EC l D aI aL ad) a3 q3 n3) (hn3 : n3 < 2 ^ 31)  (k : Sat (EC l D aI aL ad) M_X2_timesIn P 10 [(0, .ref (ad 13)), (1, .ref a1), (2, .int x2), (3, .ref a3), (4, .int x4), (5, .long s0)] [.int x2, .ref a1] I J) : Sat (EC l D aI aL ad) M_X2_timesIn P 6 [(0, .ref (ad 13)), (1, .ref a1), (2, .int x2), (3, .ref a3), (4, .int x4)] [.long s0] I J := by
  refine s_lstore [(5, .long s0), (0, .ref (ad 13)), (1, .ref a1), (2, .int x2), (3, .ref a3), (4, .int x4)] dX2_timesIn_6 (Nat.lt_of_lt_of_le (Nat.lt_succ_self _) (Nat.le_of_ble_eq_true rfl)) rfl ?_
  refine s_aload_n 2 dX2_timesIn_8 rfl ?_
  refine s_iload_n 3 dX2_timesIn_9 rfl ?_
  refine s_pick [1, 2, 3, 4, 5, 0] [(0, .ref (ad 13)), (1, .ref a1), (2, .int x2), (3, .ref a3), (4, .int x4), (5, .long s0)] rfl ?_; exact k
theorem bX2_timesIn_13 {l : Launch} {D : va_G} {aI aL : ClassId} {ad : Nat → Nat} {P : sa_P} {I : sa_I} {J : sa_J} {a1 q1 n1 : Nat} {x2 : Int32} {a3 q3 n3 : Nat} {x4 : Int32} {x5 : Int64} {s0 : Int64} (hq1 : sa_iJ (EC l D aI aL ad) a1 q1 n1) (hn1 : n1 < 2 ^ 31) (hq3 : sa_iJ (EC l D aI aL ad) a3 q3 n3) (hn3 : n3 < 2 ^ 31)  (k : Sat (EC l D aI aL ad) M_X2_timesIn P 18 [(0, .ref (ad 13)), (1, .ref a1), (2, .int x2), (3, .ref a3), (4, .int x4), (5, .long x5), (7, .long s0)] [.int x2, .ref a1, .ref (ad 13)] I J) : Sat (EC l D aI aL ad) M_X2_timesIn P 13 [(0, .ref (ad 13)), (1, .ref a1), (2, .int x2), (3, .ref a3), (4, .int x4), (5, .long x5)] [.long s0] I J := by
  refine s_lstore [(7, .long s0), (0, .ref (ad 13)), (1, .ref a1), (2, .int x2), (3, .ref a3), (4, .int x4), (5, .long x5)] dX2_timesIn_13 (Nat.lt_of_lt_of_le (Nat.lt_succ_self _) (Nat.le_of_ble_eq_true rfl)) rfl ?_
  refine s_aload_n 1 dX2_timesIn_15 rfl ?_
  refine s_aload_n 2 dX2_timesIn_16 rfl ?_
  refine s_iload_n 3 dX2_timesIn_17 rfl ?_
  refine s_pick [1, 2, 3, 4, 5, 6, 0] [(0, .ref (ad 13)), (1, .ref a1), (2, .int x2), (3, .ref a3), (4, .int x4), (5, .long x5), (7, .long s0)] rfl ?_; exact k
theorem bX2_timesIn_21 {l : Launch} {D : va_G} {aI aL : ClassId} {ad : Nat → Nat} {P : sa_P} {I : sa_I} {J : sa_J} {a1 q1 n1 : Nat} {x2 : Int32} {a3 q3 n3 : Nat} {x4 : Int32} {x5 : Int64} {x7 : Int64} {v26 : Int32} (hq1 : sa_iJ (EC l D aI aL ad) a1 q1 n1) (hn1 : n1 < 2 ^ 31) (hq3 : sa_iJ (EC l D aI aL ad) a3 q3 n3) (hn3 : n3 < 2 ^ 31) (f26 : (0 : Int32) = v26) (k : Sat (EC l D aI aL ad) M_X2_timesIn P 28 [(0, .ref (ad 13)), (1, .ref a1), (2, .int x2), (3, .ref a3), (4, .int x4), (5, .long x5), (7, .long x7), (9, .long x7), (11, .int v26)] [] I J) : Sat (EC l D aI aL ad) M_X2_timesIn P 21 [(0, .ref (ad 13)), (1, .ref a1), (2, .int x2), (3, .ref a3), (4, .int x4), (5, .long x5), (7, .long x7)] [] I J := by
  refine s_lload 6 dX2_timesIn_21 rfl ?_
  refine s_lstore [(9, .long x7), (0, .ref (ad 13)), (1, .ref a1), (2, .int x2), (3, .ref a3), (4, .int x4), (5, .long x5), (7, .long x7)] dX2_timesIn_23 (Nat.lt_of_lt_of_le (Nat.lt_succ_self _) (Nat.le_of_ble_eq_true rfl)) rfl ?_
  refine s_iconst (v := 0) dX2_timesIn_25 rfl ?_
  refine s_eqi f26 ?_
  refine s_istore [(11, .int v26), (9, .long x7), (0, .ref (ad 13)), (1, .ref a1), (2, .int x2), (3, .ref a3), (4, .int x4), (5, .long x5), (7, .long x7)] dX2_timesIn_26 (Nat.lt_of_lt_of_le (Nat.lt_succ_self _) (Nat.le_of_ble_eq_true rfl)) rfl ?_
  refine s_pick [2, 3, 4, 5, 6, 7, 8, 1, 0] [(0, .ref (ad 13)), (1, .ref a1), (2, .int x2), (3, .ref a3), (4, .int x4), (5, .long x5), (7, .long x7), (9, .long x7), (11, .int v26)] rfl ?_; exact k
theorem bX2_timesIn_28 {l : Launch} {D : va_G} {aI aL : ClassId} {ad : Nat → Nat} {P : sa_P} {I : sa_I} {J : sa_J} {a1 q1 n1 : Nat} {x2 : Int32} {a3 q3 n3 : Nat} {x4 : Int32} {x5 : Int64} {x7 : Int64} {x9 : Int64} {x11 : Int32} (hq1 : sa_iJ (EC l D aI aL ad) a1 q1 n1) (hn1 : n1 < 2 ^ 31) (hq3 : sa_iJ (EC l D aI aL ad) a3 q3 n3) (hn3 : n3 < 2 ^ 31)  (kt : (1000 : Int32) ≤ x11 → Sat (EC l D aI aL ad) M_X2_timesIn P 119 [(11, .int x11)] [] I J) (kf : ¬ (1000 : Int32) ≤ x11 → Sat (EC l D aI aL ad) M_X2_timesIn P 36 [(0, .ref (ad 13)), (1, .ref a1), (2, .int x2), (3, .ref a3), (4, .int x4), (5, .long x5), (7, .long x7), (9, .long x9), (11, .int x11)] [] I J) : Sat (EC l D aI aL ad) M_X2_timesIn P 28 [(0, .ref (ad 13)), (1, .ref a1), (2, .int x2), (3, .ref a3), (4, .int x4), (5, .long x5), (7, .long x7), (9, .long x9), (11, .int x11)] [] I J := by
  refine s_iload 8 dX2_timesIn_28 rfl ?_
  refine s_sipush (v := 1000) dX2_timesIn_30 rfl ?_
  refine s_icmp_ge (tgt := 119) dX2_timesIn_33 (by decide) (fun c => ?_) (fun c => ?_)
  · refine s_pick [8] [(11, .int x11)] rfl ?_; exact kt c
  · exact kf c
theorem bX2_timesIn_36 {l : Launch} {D : va_G} {aI aL : ClassId} {ad : Nat → Nat} {P : sa_P} {I : sa_I} {J : sa_J} {a1 q1 n1 : Nat} {x2 : Int32} {a3 q3 n3 : Nat} {x4 : Int32} {x5 : Int64} {x7 : Int64} {x9 : Int64} {x11 : Int32} (hq1 : sa_iJ (EC l D aI aL ad) a1 q1 n1) (hn1 : n1 < 2 ^ 31) (hq3 : sa_iJ (EC l D aI aL ad) a3 q3 n3) (hn3 : n3 < 2 ^ 31)  (kt : x9 ≤ (1 : Int64) → Sat (EC l D aI aL ad) M_X2_timesIn P 119 [(11, .int x11)] [] I J) (kf : ¬ x9 ≤ (1 : Int64) → Sat (EC l D aI aL ad) M_X2_timesIn P 43 [(0, .ref (ad 13)), (1, .ref a1), (2, .int x2), (3, .ref a3), (4, .int x4), (5, .long x5), (7, .long x7), (9, .long x9), (11, .int x11)] [] I J) : Sat (EC l D aI aL ad) M_X2_timesIn P 36 [(0, .ref (ad 13)), (1, .ref a1), (2, .int x2), (3, .ref a3), (4, .int x4), (5, .long x5), (7, .long x7), (9, .long x9), (11, .int x11)] [] I J := by
  refine s_lload 7 dX2_timesIn_36 rfl ?_
  refine s_lconst (v := 1) dX2_timesIn_38 rfl ?_
  refine s_lif_le (tgt := 119) dX2_timesIn_39 dX2_timesIn_40 (by decide) (fun c => ?_) (fun c => ?_)
  · refine s_pick [8] [(11, .int x11)] rfl ?_; exact kt c
  · exact kf c
theorem bX2_timesIn_43 {l : Launch} {D : va_G} {aI aL : ClassId} {ad : Nat → Nat} {P : sa_P} {I : sa_I} {J : sa_J} {a1 q1 n1 : Nat} {x2 : Int32} {a3 q3 n3 : Nat} {x4 : Int32} {x5 : Int64} {x7 : Int64} {x9 : Int64} {x11 : Int32} (hq1 : sa_iJ (EC l D aI aL ad) a1 q1 n1) (hn1 : n1 < 2 ^ 31) (hq3 : sa_iJ (EC l D aI aL ad) a3 q3 n3) (hn3 : n3 < 2 ^ 31)  (kt : x5 < x9 → Sat (EC l D aI aL ad) M_X2_timesIn P 119 [(11, .int x11)] [] I J) (kf : ¬ x5 < x9 → Sat (EC l D aI aL ad) M_X2_timesIn P 51 [(0, .ref (ad 13)), (1, .ref a1), (2, .int x2), (3, .ref a3), (4, .int x4), (5, .long x5), (7, .long x7), (9, .long x9), (11, .int x11)] [] I J) : Sat (EC l D aI aL ad) M_X2_timesIn P 43 [(0, .ref (ad 13)), (1, .ref a1), (2, .int x2), (3, .ref a3), (4, .int x4), (5, .long x5), (7, .long x7), (9, .long x9), (11, .int x11)] [] I J := by
  refine s_lload 7 dX2_timesIn_43 rfl ?_
  refine s_lload 5 dX2_timesIn_45 rfl ?_
  refine s_lif_gt (tgt := 119) dX2_timesIn_47 dX2_timesIn_48 (by decide) (fun c => ?_) (fun c => ?_)
  · refine s_pick [8] [(11, .int x11)] rfl ?_; exact kt c
  · exact kf c
theorem bX2_timesIn_51 {l : Launch} {D : va_G} {aI aL : ClassId} {ad : Nat → Nat} {P : sa_P} {I : sa_I} {J : sa_J} {a1 q1 n1 : Nat} {x2 : Int32} {a3 q3 n3 : Nat} {x4 : Int32} {x5 : Int64} {x7 : Int64} {x9 : Int64} {x11 : Int32} (hq1 : sa_iJ (EC l D aI aL ad) a1 q1 n1) (hn1 : n1 < 2 ^ 31) (hq3 : sa_iJ (EC l D aI aL ad) a3 q3 n3) (hn3 : n3 < 2 ^ 31)  (k : Sat (EC l D aI aL ad) M_X2_timesIn P 63 [(0, .ref (ad 13)), (1, .ref a1), (2, .int x2), (3, .ref a3), (4, .int x4), (5, .long x5), (7, .long x7), (9, .long x9), (11, .int x11)] [.int x4, .ref a3, .int (0 : Int32), .ref (ad 15), .ref (ad 13)] I J) : Sat (EC l D aI aL ad) M_X2_timesIn P 51 [(0, .ref (ad 13)), (1, .ref a1), (2, .int x2), (3, .ref a3), (4, .int x4), (5, .long x5), (7, .long x7), (9, .long x9), (11, .int x11)] [] I J := by
  refine s_aload_n 0 dX2_timesIn_51 rfl ?_
  refine s_aload_n 0 dX2_timesIn_52 rfl ?_
  refine g_X2_12 dX2_timesIn_53 rfl ?_
  refine g_X2_85 dX2_timesIn_56 rfl ?_
  refine s_iconst (v := 0) dX2_timesIn_59 rfl ?_
  refine s_aload_n 3 dX2_timesIn_60 rfl ?_
  refine s_iload 4 dX2_timesIn_61 rfl ?_
  exact k
theorem bX2_timesIn_66 {l : Launch} {D : va_G} {aI aL : ClassId} {ad : Nat → Nat} {P : sa_P} {I : sa_I} {J : sa_J} {a1 q1 n1 : Nat} {x2 : Int32} {a3 q3 n3 : Nat} {x4 : Int32} {x5 : Int64} {x7 : Int64} {x9 : Int64} {x11 : Int32} {s0 : Int32} (hq1 : sa_iJ (EC l D aI aL ad) a1 q1 n1) (hn1 : n1 < 2 ^ 31) (hq3 : sa_iJ (EC l D aI aL ad) a3 q3 n3) (hn3 : n3 < 2 ^ 31)  (kt : s0 = 0 → Sat (EC l D aI aL ad) M_X2_timesIn P 119 [(11, .int x11)] [] I J) (kf : ¬ s0 = 0 → Sat (EC l D aI aL ad) M_X2_timesIn P 69 [(0, .ref (ad 13)), (1, .ref a1), (2, .int x2), (3, .ref a3), (4, .int x4), (5, .long x5), (7, .long x7), (9, .long x9), (11, .int x11)] [] I J) : Sat (EC l D aI aL ad) M_X2_timesIn P 66 [(0, .ref (ad 13)), (1, .ref a1), (2, .int x2), (3, .ref a3), (4, .int x4), (5, .long x5), (7, .long x7), (9, .long x9), (11, .int x11)] [.int s0] I J := by
  refine s_if_eq (tgt := 119) dX2_timesIn_66 (by decide) (fun c => ?_) (fun c => ?_)
  · refine s_pick [8] [(11, .int x11)] rfl ?_; exact kt c
  · exact kf c
theorem bX2_timesIn_69 {l : Launch} {D : va_G} {aI aL : ClassId} {ad : Nat → Nat} {P : sa_P} {I : sa_I} {J : sa_J} {a1 q1 n1 : Nat} {x2 : Int32} {a3 q3 n3 : Nat} {x4 : Int32} {x5 : Int64} {x7 : Int64} {x9 : Int64} {x11 : Int32} {v69 : Int32} {v77 : Int64} (hq1 : sa_iJ (EC l D aI aL ad) a1 q1 n1) (hn1 : n1 < 2 ^ 31) (hq3 : sa_iJ (EC l D aI aL ad) a3 q3 n3) (hn3 : n3 < 2 ^ 31) (f69 : x11 + 1 = v69) (f77 : x9 * x7 = v77) (kt : x5 < v77 → Sat (EC l D aI aL ad) M_X2_timesIn P 28 [(0, .ref (ad 13)), (1, .ref a1), (2, .int x2), (3, .ref a3), (4, .int x4), (5, .long x5), (7, .long x7), (9, .long v77), (11, .int v69)] [] I J) (kf : ¬ x5 < v77 → Sat (EC l D aI aL ad) M_X2_timesIn P 87 [(0, .ref (ad 13)), (1, .ref a1), (2, .int x2), (3, .ref a3), (4, .int x4), (5, .long x5), (7, .long x7), (9, .long v77), (11, .int v69)] [] I J) : Sat (EC l D aI aL ad) M_X2_timesIn P 69 [(0, .ref (ad 13)), (1, .ref a1), (2, .int x2), (3, .ref a3), (4, .int x4), (5, .long x5), (7, .long x7), (9, .long x9), (11, .int x11)] [] I J := by
  refine s_iinc 8 v69 [(11, .int v69), (0, .ref (ad 13)), (1, .ref a1), (2, .int x2), (3, .ref a3), (4, .int x4), (5, .long x5), (7, .long x7), (9, .long x9)] dX2_timesIn_69 rfl f69 (Nat.lt_of_lt_of_le (Nat.lt_succ_self _) (Nat.le_of_ble_eq_true rfl)) rfl ?_
  refine s_lload 8 dX2_timesIn_72 rfl ?_
  refine s_lload 7 dX2_timesIn_74 rfl ?_
  refine s_lmul dX2_timesIn_76 ?_
  refine s_eql f77 ?_
  refine s_lstore [(9, .long v77), (11, .int v69), (0, .ref (ad 13)), (1, .ref a1), (2, .int x2), (3, .ref a3), (4, .int x4), (5, .long x5), (7, .long x7)] dX2_timesIn_77 (Nat.lt_of_lt_of_le (Nat.lt_succ_self _) (Nat.le_of_ble_eq_true rfl)) rfl ?_
  refine s_lload 0 dX2_timesIn_79 rfl ?_
  refine s_lload 7 dX2_timesIn_81 rfl ?_
  refine s_lif_gt (tgt := 28) dX2_timesIn_83 dX2_timesIn_84 (by decide) (fun c => ?_) (fun c => ?_)
  · refine s_pick [2, 3, 4, 5, 6, 7, 8, 0, 1] [(0, .ref (ad 13)), (1, .ref a1), (2, .int x2), (3, .ref a3), (4, .int x4), (5, .long x5), (7, .long x7), (9, .long v77), (11, .int v69)] rfl ?_; exact kt c
  · refine s_pick [2, 3, 4, 5, 6, 7, 8, 0, 1] [(0, .ref (ad 13)), (1, .ref a1), (2, .int x2), (3, .ref a3), (4, .int x4), (5, .long x5), (7, .long x7), (9, .long v77), (11, .int v69)] rfl ?_; exact kf c
theorem bX2_timesIn_87 {l : Launch} {D : va_G} {aI aL : ClassId} {ad : Nat → Nat} {P : sa_P} {I : sa_I} {J : sa_J} {a1 q1 n1 : Nat} {x2 : Int32} {a3 q3 n3 : Nat} {x4 : Int32} {x5 : Int64} {x7 : Int64} {x9 : Int64} {x11 : Int32} (hq1 : sa_iJ (EC l D aI aL ad) a1 q1 n1) (hn1 : n1 < 2 ^ 31) (hq3 : sa_iJ (EC l D aI aL ad) a3 q3 n3) (hn3 : n3 < 2 ^ 31)  (k : Sat (EC l D aI aL ad) M_X2_timesIn P 102 [(0, .ref (ad 13)), (1, .ref a1), (2, .int x2), (3, .ref a3), (4, .int x4), (5, .long x5), (7, .long x7), (9, .long x9), (11, .int x11)] [.int (9 : Int32), .int (0 : Int32), .ref (ad 18), .int (0 : Int32), .ref (ad 15)] I J) : Sat (EC l D aI aL ad) M_X2_timesIn P 87 [(0, .ref (ad 13)), (1, .ref a1), (2, .int x2), (3, .ref a3), (4, .int x4), (5, .long x5), (7, .long x7), (9, .long x9), (11, .int x11)] [] I J := by
  refine s_aload_n 0 dX2_timesIn_87 rfl ?_
  refine g_X2_12 dX2_timesIn_88 rfl ?_
  refine g_X2_85 dX2_timesIn_91 rfl ?_
  refine s_iconst (v := 0) dX2_timesIn_94 rfl ?_
  refine s_aload_n 0 dX2_timesIn_95 rfl ?_
  refine g_X2_22 dX2_timesIn_96 rfl ?_
  refine s_iconst (v := 0) dX2_timesIn_99 rfl ?_
  refine s_bipush (v := 9) dX2_timesIn_100 rfl ?_
  exact k
theorem bX2_timesIn_105 {l : Launch} {D : va_G} {aI aL : ClassId} {ad : Nat → Nat} {P : sa_P} {I : sa_I} {J : sa_J} {a1 q1 n1 : Nat} {x2 : Int32} {a3 q3 n3 : Nat} {x4 : Int32} {x5 : Int64} {x7 : Int64} {x9 : Int64} {x11 : Int32} (hq1 : sa_iJ (EC l D aI aL ad) a1 q1 n1) (hn1 : n1 < 2 ^ 31) (hq3 : sa_iJ (EC l D aI aL ad) a3 q3 n3) (hn3 : n3 < 2 ^ 31)  (k : Sat (EC l D aI aL ad) M_X2_timesIn P 113 [(0, .ref (ad 13)), (1, .ref a1), (2, .int x2), (3, .ref a3), (4, .int x4), (5, .long x5), (7, .long x7), (9, .long x9), (11, .int x11)] [.int x2, .ref a1, .int (0 : Int32), .ref (ad 18), .ref (ad 13)] I J) : Sat (EC l D aI aL ad) M_X2_timesIn P 105 [(0, .ref (ad 13)), (1, .ref a1), (2, .int x2), (3, .ref a3), (4, .int x4), (5, .long x5), (7, .long x7), (9, .long x9), (11, .int x11)] [] I J := by
  refine s_aload_n 0 dX2_timesIn_105 rfl ?_
  refine s_aload_n 0 dX2_timesIn_106 rfl ?_
  refine g_X2_22 dX2_timesIn_107 rfl ?_
  refine s_iconst (v := 0) dX2_timesIn_110 rfl ?_
  refine s_aload_n 1 dX2_timesIn_111 rfl ?_
  refine s_iload_n 2 dX2_timesIn_112 rfl ?_
  exact k
theorem bX2_timesIn_116 {l : Launch} {D : va_G} {aI aL : ClassId} {ad : Nat → Nat} {P : sa_P} {I : sa_I} {J : sa_J} {a1 q1 n1 : Nat} {x2 : Int32} {a3 q3 n3 : Nat} {x4 : Int32} {x5 : Int64} {x7 : Int64} {x9 : Int64} {x11 : Int32} (hq1 : sa_iJ (EC l D aI aL ad) a1 q1 n1) (hn1 : n1 < 2 ^ 31) (hq3 : sa_iJ (EC l D aI aL ad) a3 q3 n3) (hn3 : n3 < 2 ^ 31)  (k : Sat (EC l D aI aL ad) M_X2_timesIn P 28 [(0, .ref (ad 13)), (1, .ref a1), (2, .int x2), (3, .ref a3), (4, .int x4), (5, .long x5), (7, .long x7), (9, .long x9), (11, .int x11)] [] I J) : Sat (EC l D aI aL ad) M_X2_timesIn P 116 [(0, .ref (ad 13)), (1, .ref a1), (2, .int x2), (3, .ref a3), (4, .int x4), (5, .long x5), (7, .long x7), (9, .long x9), (11, .int x11)] [] I J := by
  refine s_goto (tgt := 28) dX2_timesIn_116 (by decide) ?_
  exact k
theorem bX2_timesIn_119 {l : Launch} {D : va_G} {aI aL : ClassId} {ad : Nat → Nat} {P : sa_P} {I : sa_I} {J : sa_J} {x11 : Int32}   (k : P (some (.int x11)) I J) : Sat (EC l D aI aL ad) M_X2_timesIn P 119 [(11, .int x11)] [] I J := by
  refine s_iload 0 dX2_timesIn_119 rfl ?_
  exact s_iret rfl dX2_timesIn_121 k
/-! X3_startMultiples -/
theorem dX3_startMultiples_0 : decode cX3_startMultiples 0 = .ok (.aload_n 0, 1) := by decide +kernel
theorem dX3_startMultiples_1 : decode cX3_startMultiples 1 = .ok (.iload_n 1, 1) := by decide +kernel
theorem dX3_startMultiples_2 : decode cX3_startMultiples 2 = .ok (.putfield 18, 3) := by decide +kernel
theorem dX3_startMultiples_5 : decode cX3_startMultiples 5 = .ok (.aload_n 0, 1) := by decide +kernel
theorem dX3_startMultiples_6 : decode cX3_startMultiples 6 = .ok (.lload_n 2, 1) := by decide +kernel
theorem dX3_startMultiples_7 : decode cX3_startMultiples 7 = .ok (.putfield 22, 3) := by decide +kernel
theorem dX3_startMultiples_10 : decode cX3_startMultiples 10 = .ok (.iconst 0, 1) := by decide +kernel
theorem dX3_startMultiples_11 : decode cX3_startMultiples 11 = .ok (.istore 4, 2) := by decide +kernel
theorem dX3_startMultiples_13 : decode cX3_startMultiples 13 = .ok (.iload 4, 2) := by decide +kernel
theorem dX3_startMultiples_15 : decode cX3_startMultiples 15 = .ok (.bipush 9, 2) := by decide +kernel
theorem dX3_startMultiples_17 : decode cX3_startMultiples 17 = .ok (.if_icmp .ge 28, 3) := by decide +kernel
theorem dX3_startMultiples_20 : decode cX3_startMultiples 20 = .ok (.aload_n 0, 1) := by decide +kernel
theorem dX3_startMultiples_21 : decode cX3_startMultiples 21 = .ok (.getfield 9, 3) := by decide +kernel
theorem dX3_startMultiples_24 : decode cX3_startMultiples 24 = .ok (.iload 4, 2) := by decide +kernel
theorem dX3_startMultiples_26 : decode cX3_startMultiples 26 = .ok (.iload 4, 2) := by decide +kernel
theorem dX3_startMultiples_28 : decode cX3_startMultiples 28 = .ok (.iconst 4, 1) := by decide +kernel
theorem dX3_startMultiples_29 : decode cX3_startMultiples 29 = .ok (.irem, 1) := by decide +kernel
theorem dX3_startMultiples_30 : decode cX3_startMultiples 30 = .ok (.ifCond .ne 7, 3) := by decide +kernel
theorem dX3_startMultiples_33 : decode cX3_startMultiples 33 = .ok (.lload_n 2, 1) := by decide +kernel
theorem dX3_startMultiples_34 : decode cX3_startMultiples 34 = .ok (.goto 4, 3) := by decide +kernel
theorem dX3_startMultiples_37 : decode cX3_startMultiples 37 = .ok (.lconst 0, 1) := by decide +kernel
theorem dX3_startMultiples_38 : decode cX3_startMultiples 38 = .ok (.lastore, 1) := by decide +kernel
theorem dX3_startMultiples_39 : decode cX3_startMultiples 39 = .ok (.iinc 4 1, 3) := by decide +kernel
theorem dX3_startMultiples_42 : decode cX3_startMultiples 42 = .ok (.goto (-29), 3) := by decide +kernel
theorem dX3_startMultiples_45 : decode cX3_startMultiples 45 = .ok (.iload_n 1, 1) := by decide +kernel
theorem dX3_startMultiples_46 : decode cX3_startMultiples 46 = .ok (.iconst 2, 1) := by decide +kernel
theorem dX3_startMultiples_47 : decode cX3_startMultiples 47 = .ok (.if_icmp .ne 11, 3) := by decide +kernel
theorem dX3_startMultiples_50 : decode cX3_startMultiples 50 = .ok (.aload_n 0, 1) := by decide +kernel
theorem dX3_startMultiples_51 : decode cX3_startMultiples 51 = .ok (.getfield 9, 3) := by decide +kernel
theorem dX3_startMultiples_54 : decode cX3_startMultiples 54 = .ok (.bipush 8, 2) := by decide +kernel
theorem dX3_startMultiples_56 : decode cX3_startMultiples 56 = .ok (.lconst 1, 1) := by decide +kernel
theorem dX3_startMultiples_57 : decode cX3_startMultiples 57 = .ok (.lastore, 1) := by decide +kernel
theorem dX3_startMultiples_58 : decode cX3_startMultiples 58 = .ok (.return_, 1) := by decide +kernel
theorem bX3_startMultiples_0 {l : Launch} {D : va_G} {aI aL : ClassId} {ad : Nat → Nat} {P : sa_P} {I : sa_I} {J : sa_J} {x1 : Int32} {x2 : Int64} {v11 : Int32}  (f11 : (0 : Int32) = v11) (k : Sat (EC l D aI aL ad) M_X3_startMultiples P 13 [(0, .ref (ad 14)), (1, .int x1), (2, .long x2), (4, .int v11)] [] (sa_uI I 14 2 x1) (sa_uJ J 14 3 x2)) : Sat (EC l D aI aL ad) M_X3_startMultiples P 0 [(0, .ref (ad 14)), (1, .int x1), (2, .long x2)] [] I J := by
  refine s_aload_n 0 dX3_startMultiples_0 rfl ?_
  refine s_iload_n 1 dX3_startMultiples_1 rfl ?_
  refine p_X3_18 dX3_startMultiples_2 rfl ?_
  refine s_aload_n 0 dX3_startMultiples_5 rfl ?_
  refine s_lload_n 2 dX3_startMultiples_6 rfl ?_
  refine p_X3_22 dX3_startMultiples_7 rfl ?_
  refine s_iconst (v := 0) dX3_startMultiples_10 rfl ?_
  refine s_eqi f11 ?_
  refine s_istore [(4, .int v11), (0, .ref (ad 14)), (1, .int x1), (2, .long x2)] dX3_startMultiples_11 (Nat.lt_of_lt_of_le (Nat.lt_succ_self _) (Nat.le_of_ble_eq_true rfl)) rfl ?_
  refine s_pick [1, 2, 3, 0] [(0, .ref (ad 14)), (1, .int x1), (2, .long x2), (4, .int v11)] rfl ?_; exact k
theorem bX3_startMultiples_13 {l : Launch} {D : va_G} {aI aL : ClassId} {ad : Nat → Nat} {P : sa_P} {I : sa_I} {J : sa_J} {x1 : Int32} {x2 : Int64} {x4 : Int32}   (kt : (9 : Int32) ≤ x4 → Sat (EC l D aI aL ad) M_X3_startMultiples P 45 [(0, .ref (ad 14)), (1, .int x1)] [] I J) (kf : ¬ (9 : Int32) ≤ x4 → Sat (EC l D aI aL ad) M_X3_startMultiples P 20 [(0, .ref (ad 14)), (1, .int x1), (2, .long x2), (4, .int x4)] [] I J) : Sat (EC l D aI aL ad) M_X3_startMultiples P 13 [(0, .ref (ad 14)), (1, .int x1), (2, .long x2), (4, .int x4)] [] I J := by
  refine s_iload 3 dX3_startMultiples_13 rfl ?_
  refine s_bipush (v := 9) dX3_startMultiples_15 rfl ?_
  refine s_icmp_ge (tgt := 45) dX3_startMultiples_17 (by decide) (fun c => ?_) (fun c => ?_)
  · refine s_pick [0, 1] [(0, .ref (ad 14)), (1, .int x1)] rfl ?_; exact kt c
  · exact kf c
theorem bX3_startMultiples_20 {l : Launch} {D : va_G} {aI aL : ClassId} {ad : Nat → Nat} {P : sa_P} {I : sa_I} {J : sa_J} {x1 : Int32} {x2 : Int64} {x4 : Int32}   (kt : ¬ x4 - x4 / (4 : Int32) * (4 : Int32) = 0 → Sat (EC l D aI aL ad) M_X3_startMultiples P 37 [(0, .ref (ad 14)), (1, .int x1), (2, .long x2), (4, .int x4)] [.int x4, .ref (ad 15)] I J) (kf : x4 - x4 / (4 : Int32) * (4 : Int32) = 0 → Sat (EC l D aI aL ad) M_X3_startMultiples P 33 [(0, .ref (ad 14)), (1, .int x1), (2, .long x2), (4, .int x4)] [.int x4, .ref (ad 15)] I J) : Sat (EC l D aI aL ad) M_X3_startMultiples P 20 [(0, .ref (ad 14)), (1, .int x1), (2, .long x2), (4, .int x4)] [] I J := by
  refine s_aload_n 0 dX3_startMultiples_20 rfl ?_
  refine g_X3_9 dX3_startMultiples_21 rfl ?_
  refine s_iload 3 dX3_startMultiples_24 rfl ?_
  refine s_iload 3 dX3_startMultiples_26 rfl ?_
  refine s_iconst (v := 4) dX3_startMultiples_28 rfl ?_
  refine s_irem dX3_startMultiples_29 (by decide) ?_
  refine s_if_ne (tgt := 37) dX3_startMultiples_30 (by decide) (fun c => ?_) (fun c => ?_)
  · exact kt c
  · exact kf (by first | exact c | exact Classical.not_not.mp c)
theorem bX3_startMultiples_33 {l : Launch} {D : va_G} {aI aL : ClassId} {ad : Nat → Nat} {P : sa_P} {I : sa_I} {J : sa_J} {x1 : Int32} {x2 : Int64} {x4 : Int32} {s1 : Int32}   (k : Sat (EC l D aI aL ad) M_X3_startMultiples P 38 [(0, .ref (ad 14)), (1, .int x1), (2, .long x2), (4, .int x4)] [.long x2, .int s1, .ref (ad 15)] I J) : Sat (EC l D aI aL ad) M_X3_startMultiples P 33 [(0, .ref (ad 14)), (1, .int x1), (2, .long x2), (4, .int x4)] [.int s1, .ref (ad 15)] I J := by
  refine s_lload_n 2 dX3_startMultiples_33 rfl ?_
  refine s_goto (tgt := 38) dX3_startMultiples_34 (by decide) ?_
  exact k
theorem bX3_startMultiples_37 {l : Launch} {D : va_G} {aI aL : ClassId} {ad : Nat → Nat} {P : sa_P} {I : sa_I} {J : sa_J} {x1 : Int32} {x2 : Int64} {x4 : Int32} {s1 : Int32}   (k : Sat (EC l D aI aL ad) M_X3_startMultiples P 38 [(0, .ref (ad 14)), (1, .int x1), (2, .long x2), (4, .int x4)] [.long (0 : Int64), .int s1, .ref (ad 15)] I J) : Sat (EC l D aI aL ad) M_X3_startMultiples P 37 [(0, .ref (ad 14)), (1, .int x1), (2, .long x2), (4, .int x4)] [.int s1, .ref (ad 15)] I J := by
  refine s_lconst (v := 0) dX3_startMultiples_37 rfl ?_
  exact k
theorem bX3_startMultiples_38 {l : Launch} {D : va_G} {aI aL : ClassId} {ad : Nat → Nat} {P : sa_P} {I : sa_I} {J : sa_J} {x1 : Int32} {x2 : Int64} {x4 : Int32} {s1 : Nat} {s2 : Int64} {v39 : Int32} (h38 : s1 < 9) (f39 : x4 + 1 = v39) (k : Sat (EC l D aI aL ad) M_X3_startMultiples P 13 [(0, .ref (ad 14)), (1, .int x1), (2, .long x2), (4, .int v39)] [] I (sa_uJ J 15 s1 s2)) : Sat (EC l D aI aL ad) M_X3_startMultiples P 38 [(0, .ref (ad 14)), (1, .int x1), (2, .long x2), (4, .int x4)] [.long s2, .int (nI s1), .ref (ad 15)] I J := by
  refine s_lastoreN aJ_C15 h38 (by decide) dX3_startMultiples_38 ?_
  refine s_iinc 3 v39 [(4, .int v39), (0, .ref (ad 14)), (1, .int x1), (2, .long x2)] dX3_startMultiples_39 rfl f39 (Nat.lt_of_lt_of_le (Nat.lt_succ_self _) (Nat.le_of_ble_eq_true rfl)) rfl ?_
  refine s_goto (tgt := 13) dX3_startMultiples_42 (by decide) ?_
  refine s_pick [1, 2, 3, 0] [(0, .ref (ad 14)), (1, .int x1), (2, .long x2), (4, .int v39)] rfl ?_; exact k
theorem bX3_startMultiples_45 {l : Launch} {D : va_G} {aI aL : ClassId} {ad : Nat → Nat} {P : sa_P} {I : sa_I} {J : sa_J} {x1 : Int32}   (kt : ¬ x1 = (2 : Int32) → Sat (EC l D aI aL ad) M_X3_startMultiples P 58 [] [] I J) (kf : x1 = (2 : Int32) → Sat (EC l D aI aL ad) M_X3_startMultiples P 50 [(0, .ref (ad 14))] [] I J) : Sat (EC l D aI aL ad) M_X3_startMultiples P 45 [(0, .ref (ad 14)), (1, .int x1)] [] I J := by
  refine s_iload_n 1 dX3_startMultiples_45 rfl ?_
  refine s_iconst (v := 2) dX3_startMultiples_46 rfl ?_
  refine s_icmp_ne (tgt := 58) dX3_startMultiples_47 (by decide) (fun c => ?_) (fun c => ?_)
  · refine s_pick [] [] rfl ?_; exact kt c
  · refine s_pick [0] [(0, .ref (ad 14))] rfl ?_; exact kf (by first | exact c | exact Classical.not_not.mp c)
theorem bX3_startMultiples_50 {l : Launch} {D : va_G} {aI aL : ClassId} {ad : Nat → Nat} {P : sa_P} {I : sa_I} {J : sa_J} {v57 : Int64}  (f57 : (1 : Int64) = v57) (k : Sat (EC l D aI aL ad) M_X3_startMultiples P 58 [] [] I (sa_uJ J 15 8 v57)) : Sat (EC l D aI aL ad) M_X3_startMultiples P 50 [(0, .ref (ad 14))] [] I J := by
  refine s_aload_n 0 dX3_startMultiples_50 rfl ?_
  refine g_X3_9 dX3_startMultiples_51 rfl ?_
  refine s_bipush (v := 8) dX3_startMultiples_54 rfl ?_
  refine s_eqi (y := nI 8) rfl ?_
  refine s_lconst (v := 1) dX3_startMultiples_56 rfl ?_
  refine s_eql f57 ?_
  refine s_lastoreN aJ_C15 (by decide) (by decide) dX3_startMultiples_57 ?_
  refine s_pick [] [] rfl ?_; exact k
theorem bX3_startMultiples_58 {l : Launch} {D : va_G} {aI aL : ClassId} {ad : Nat → Nat} {P : sa_P} {I : sa_I} {J : sa_J}    (k : P (none) I J) : Sat (EC l D aI aL ad) M_X3_startMultiples P 58 [] [] I J := by
  exact s_vret rfl dX3_startMultiples_58 k
/-! X3_startRows -/
theorem dX3_startRows_0 : decode cX3_startRows 0 = .ok (.aload_n 0, 1) := by decide +kernel
theorem dX3_startRows_1 : decode cX3_startRows 1 = .ok (.iload_n 1, 1) := by decide +kernel
theorem dX3_startRows_2 : decode cX3_startRows 2 = .ok (.putfield 18, 3) := by decide +kernel
theorem dX3_startRows_5 : decode cX3_startRows 5 = .ok (.aload_n 0, 1) := by decide +kernel
theorem dX3_startRows_6 : decode cX3_startRows 6 = .ok (.aload_n 2, 1) := by decide +kernel
theorem dX3_startRows_7 : decode cX3_startRows 7 = .ok (.iload_n 3, 1) := by decide +kernel
theorem dX3_startRows_8 : decode cX3_startRows 8 = .ok (.laload, 1) := by decide +kernel
theorem dX3_startRows_9 : decode cX3_startRows 9 = .ok (.putfield 22, 3) := by decide +kernel
theorem dX3_startRows_12 : decode cX3_startRows 12 = .ok (.aload_n 2, 1) := by decide +kernel
theorem dX3_startRows_13 : decode cX3_startRows 13 = .ok (.iload_n 3, 1) := by decide +kernel
theorem dX3_startRows_14 : decode cX3_startRows 14 = .ok (.aload_n 0, 1) := by decide +kernel
theorem dX3_startRows_15 : decode cX3_startRows 15 = .ok (.getfield 9, 3) := by decide +kernel
theorem dX3_startRows_18 : decode cX3_startRows 18 = .ok (.iconst 0, 1) := by decide +kernel
theorem dX3_startRows_19 : decode cX3_startRows 19 = .ok (.bipush 9, 2) := by decide +kernel
theorem dX3_startRows_21 : decode cX3_startRows 21 = .ok (.invokestatic 26, 3) := by decide +kernel
theorem dX3_startRows_24 : decode cX3_startRows 24 = .ok (.return_, 1) := by decide +kernel
theorem bX3_startRows_0 {l : Launch} {D : va_G} {aI aL : ClassId} {ad : Nat → Nat} {P : sa_P} {I : sa_I} {J : sa_J} {x1 : Int32} {a2 q2 n2 : Nat} {x3 : Int32} {j7 : Nat} {v9 : Int64} (hq2 : sa_iJ (EC l D aI aL ad) a2 q2 n2) (hn2 : n2 < 2 ^ 31) (e7 : x3 = nI j7) (h8 : j7 < n2) (f9 : J q2 j7 = v9) (k : Sat (EC l D aI aL ad) M_X3_startRows P 21 [] [.int (9 : Int32), .int (0 : Int32), .ref (ad 15), .int x3, .ref a2] (sa_uI I 14 2 x1) (sa_uJ J 14 3 v9)) : Sat (EC l D aI aL ad) M_X3_startRows P 0 [(0, .ref (ad 14)), (1, .int x1), (2, .ref a2), (3, .int x3)] [] I J := by
  refine s_aload_n 0 dX3_startRows_0 rfl ?_
  refine s_iload_n 1 dX3_startRows_1 rfl ?_
  refine p_X3_18 dX3_startRows_2 rfl ?_
  refine s_aload_n 0 dX3_startRows_5 rfl ?_
  refine s_aload_n 2 dX3_startRows_6 rfl ?_
  refine s_iload_n 3 dX3_startRows_7 rfl ?_
  refine s_eqi e7 ?_
  refine s_laloadN hq2 h8 hn2 dX3_startRows_8 ?_
  refine s_eql f9 ?_
  refine p_X3_22 dX3_startRows_9 rfl ?_
  refine s_aload_n 2 dX3_startRows_12 rfl ?_
  refine s_iload_n 3 dX3_startRows_13 rfl ?_
  refine s_aload_n 0 dX3_startRows_14 rfl ?_
  refine g_X3_9 dX3_startRows_15 rfl ?_
  refine s_iconst (v := 0) dX3_startRows_18 rfl ?_
  refine s_bipush (v := 9) dX3_startRows_19 rfl ?_
  refine s_pick [] [] rfl ?_; exact k
theorem bX3_startRows_24 {l : Launch} {D : va_G} {aI aL : ClassId} {ad : Nat → Nat} {P : sa_P} {I : sa_I} {J : sa_J}    (k : P (none) I J) : Sat (EC l D aI aL ad) M_X3_startRows P 24 [] [] I J := by
  exact s_vret rfl dX3_startRows_24 k
/-! X3_include -/
theorem dX3_include_0 : decode cX3_include 0 = .ok (.aload_n 0, 1) := by decide +kernel
theorem dX3_include_1 : decode cX3_include 1 = .ok (.getfield 22, 3) := by decide +kernel
theorem dX3_include_4 : decode cX3_include 4 = .ok (.lconst 0, 1) := by decide +kernel
theorem dX3_include_5 : decode cX3_include 5 = .ok (.lcmp, 1) := by decide +kernel
theorem dX3_include_6 : decode cX3_include 6 = .ok (.ifCond .gt 4, 3) := by decide +kernel
theorem dX3_include_9 : decode cX3_include 9 = .ok (.return_, 1) := by decide +kernel
theorem dX3_include_10 : decode cX3_include 10 = .ok (.iconst 0, 1) := by decide +kernel
theorem dX3_include_11 : decode cX3_include 11 = .ok (.istore_n 3, 1) := by decide +kernel
theorem dX3_include_12 : decode cX3_include 12 = .ok (.iload_n 3, 1) := by decide +kernel
theorem dX3_include_13 : decode cX3_include 13 = .ok (.aload_n 0, 1) := by decide +kernel
theorem dX3_include_14 : decode cX3_include 14 = .ok (.getfield 18, 3) := by decide +kernel
theorem dX3_include_17 : decode cX3_include 17 = .ok (.if_icmp .ge 27, 3) := by decide +kernel
theorem dX3_include_20 : decode cX3_include 20 = .ok (.aload_n 0, 1) := by decide +kernel
theorem dX3_include_21 : decode cX3_include 21 = .ok (.getfield 15, 3) := by decide +kernel
theorem dX3_include_24 : decode cX3_include 24 = .ok (.iload_n 3, 1) := by decide +kernel
theorem dX3_include_25 : decode cX3_include 25 = .ok (.aload_n 1, 1) := by decide +kernel
theorem dX3_include_26 : decode cX3_include 26 = .ok (.iload_n 2, 1) := by decide +kernel
theorem dX3_include_27 : decode cX3_include 27 = .ok (.iload_n 3, 1) := by decide +kernel
theorem dX3_include_28 : decode cX3_include 28 = .ok (.iadd, 1) := by decide +kernel
theorem dX3_include_29 : decode cX3_include 29 = .ok (.laload, 1) := by decide +kernel
theorem dX3_include_30 : decode cX3_include 30 = .ok (.aload_n 0, 1) := by decide +kernel
theorem dX3_include_31 : decode cX3_include 31 = .ok (.getfield 22, 3) := by decide +kernel
theorem dX3_include_34 : decode cX3_include 34 = .ok (.invokestatic 32, 3) := by decide +kernel
theorem dX3_include_37 : decode cX3_include 37 = .ok (.lastore, 1) := by decide +kernel
theorem dX3_include_38 : decode cX3_include 38 = .ok (.iinc 3 1, 3) := by decide +kernel
theorem dX3_include_41 : decode cX3_include 41 = .ok (.goto (-29), 3) := by decide +kernel
theorem dX3_include_44 : decode cX3_include 44 = .ok (.aload_n 0, 1) := by decide +kernel
theorem dX3_include_45 : decode cX3_include 45 = .ok (.getfield 18, 3) := by decide +kernel
theorem dX3_include_48 : decode cX3_include 48 = .ok (.iconst 1, 1) := by decide +kernel
theorem dX3_include_49 : decode cX3_include 49 = .ok (.isub, 1) := by decide +kernel
theorem dX3_include_50 : decode cX3_include 50 = .ok (.istore_n 3, 1) := by decide +kernel
theorem dX3_include_51 : decode cX3_include 51 = .ok (.iload_n 3, 1) := by decide +kernel
theorem dX3_include_52 : decode cX3_include 52 = .ok (.ifCond .lt 166, 3) := by decide +kernel
theorem dX3_include_55 : decode cX3_include 55 = .ok (.iconst 3, 1) := by decide +kernel
theorem dX3_include_56 : decode cX3_include 56 = .ok (.iload_n 3, 1) := by decide +kernel
theorem dX3_include_57 : decode cX3_include 57 = .ok (.imul, 1) := by decide +kernel
theorem dX3_include_58 : decode cX3_include 58 = .ok (.istore 4, 2) := by decide +kernel
theorem dX3_include_60 : decode cX3_include 60 = .ok (.iconst 0, 1) := by decide +kernel
theorem dX3_include_61 : decode cX3_include 61 = .ok (.istore 5, 2) := by decide +kernel
theorem dX3_include_63 : decode cX3_include 63 = .ok (.iload 5, 2) := by decide +kernel
theorem dX3_include_65 : decode cX3_include 65 = .ok (.sipush 1000, 3) := by decide +kernel
theorem dX3_include_68 : decode cX3_include 68 = .ok (.if_icmp .ge 144, 3) := by decide +kernel
theorem dX3_include_71 : decode cX3_include 71 = .ok (.aload_n 0, 1) := by decide +kernel
theorem dX3_include_72 : decode cX3_include 72 = .ok (.getfield 15, 3) := by decide +kernel
theorem dX3_include_75 : decode cX3_include 75 = .ok (.iload_n 3, 1) := by decide +kernel
theorem dX3_include_76 : decode cX3_include 76 = .ok (.laload, 1) := by decide +kernel
theorem dX3_include_77 : decode cX3_include 77 = .ok (.lconst 0, 1) := by decide +kernel
theorem dX3_include_78 : decode cX3_include 78 = .ok (.lcmp, 1) := by decide +kernel
theorem dX3_include_79 : decode cX3_include 79 = .ok (.ifCond .eq 133, 3) := by decide +kernel
theorem dX3_include_82 : decode cX3_include 82 = .ok (.aload_n 0, 1) := by decide +kernel
theorem dX3_include_83 : decode cX3_include 83 = .ok (.getfield 9, 3) := by decide +kernel
theorem dX3_include_86 : decode cX3_include 86 = .ok (.iload 4, 2) := by decide +kernel
theorem dX3_include_88 : decode cX3_include 88 = .ok (.iload_n 3, 1) := by decide +kernel
theorem dX3_include_89 : decode cX3_include 89 = .ok (.iadd, 1) := by decide +kernel
theorem dX3_include_90 : decode cX3_include 90 = .ok (.laload, 1) := by decide +kernel
theorem dX3_include_91 : decode cX3_include 91 = .ok (.aload_n 0, 1) := by decide +kernel
theorem dX3_include_92 : decode cX3_include 92 = .ok (.getfield 15, 3) := by decide +kernel
theorem dX3_include_95 : decode cX3_include 95 = .ok (.iload_n 3, 1) := by decide +kernel
theorem dX3_include_96 : decode cX3_include 96 = .ok (.laload, 1) := by decide +kernel
theorem dX3_include_97 : decode cX3_include 97 = .ok (.ldiv, 1) := by decide +kernel
theorem dX3_include_98 : decode cX3_include 98 = .ok (.lstore 6, 2) := by decide +kernel
theorem dX3_include_100 : decode cX3_include 100 = .ok (.iconst 0, 1) := by decide +kernel
theorem dX3_include_101 : decode cX3_include 101 = .ok (.istore 8, 2) := by decide +kernel
theorem dX3_include_103 : decode cX3_include 103 = .ok (.iload 8, 2) := by decide +kernel
theorem dX3_include_105 : decode cX3_include 105 = .ok (.iload_n 3, 1) := by decide +kernel
theorem dX3_include_106 : decode cX3_include 106 = .ok (.if_icmp .ge 60, 3) := by decide +kernel
theorem dX3_include_109 : decode cX3_include 109 = .ok (.aload_n 0, 1) := by decide +kernel
theorem dX3_include_110 : decode cX3_include 110 = .ok (.getfield 15, 3) := by decide +kernel
theorem dX3_include_113 : decode cX3_include 113 = .ok (.iload 8, 2) := by decide +kernel
theorem dX3_include_115 : decode cX3_include 115 = .ok (.laload, 1) := by decide +kernel
theorem dX3_include_116 : decode cX3_include 116 = .ok (.lstore 9, 2) := by decide +kernel
theorem dX3_include_118 : decode cX3_include 118 = .ok (.aload_n 0, 1) := by decide +kernel
theorem dX3_include_119 : decode cX3_include 119 = .ok (.getfield 15, 3) := by decide +kernel
theorem dX3_include_122 : decode cX3_include 122 = .ok (.iload 8, 2) := by decide +kernel
theorem dX3_include_124 : decode cX3_include 124 = .ok (.aload_n 0, 1) := by decide +kernel
theorem dX3_include_125 : decode cX3_include 125 = .ok (.getfield 9, 3) := by decide +kernel
theorem dX3_include_128 : decode cX3_include 128 = .ok (.iload 4, 2) := by decide +kernel
theorem dX3_include_130 : decode cX3_include 130 = .ok (.iload 8, 2) := by decide +kernel
theorem dX3_include_132 : decode cX3_include 132 = .ok (.iadd, 1) := by decide +kernel
theorem dX3_include_133 : decode cX3_include 133 = .ok (.laload, 1) := by decide +kernel
theorem dX3_include_134 : decode cX3_include 134 = .ok (.lload 6, 2) := by decide +kernel
theorem dX3_include_136 : decode cX3_include 136 = .ok (.lload 9, 2) := by decide +kernel
theorem dX3_include_138 : decode cX3_include 138 = .ok (.lmul, 1) := by decide +kernel
theorem dX3_include_139 : decode cX3_include 139 = .ok (.lsub, 1) := by decide +kernel
theorem dX3_include_140 : decode cX3_include 140 = .ok (.aload_n 0, 1) := by decide +kernel
theorem dX3_include_141 : decode cX3_include 141 = .ok (.getfield 22, 3) := by decide +kernel
theorem dX3_include_144 : decode cX3_include 144 = .ok (.invokestatic 32, 3) := by decide +kernel
theorem dX3_include_147 : decode cX3_include 147 = .ok (.lastore, 1) := by decide +kernel
theorem dX3_include_148 : decode cX3_include 148 = .ok (.aload_n 0, 1) := by decide +kernel
theorem dX3_include_149 : decode cX3_include 149 = .ok (.getfield 9, 3) := by decide +kernel
theorem dX3_include_152 : decode cX3_include 152 = .ok (.iload 4, 2) := by decide +kernel
theorem dX3_include_154 : decode cX3_include 154 = .ok (.iload 8, 2) := by decide +kernel
theorem dX3_include_156 : decode cX3_include 156 = .ok (.iadd, 1) := by decide +kernel
theorem dX3_include_157 : decode cX3_include 157 = .ok (.lload 9, 2) := by decide +kernel
theorem dX3_include_159 : decode cX3_include 159 = .ok (.lastore, 1) := by decide +kernel
theorem dX3_include_160 : decode cX3_include 160 = .ok (.iinc 8 1, 3) := by decide +kernel
theorem dX3_include_163 : decode cX3_include 163 = .ok (.goto (-60), 3) := by decide +kernel
theorem dX3_include_166 : decode cX3_include 166 = .ok (.aload_n 0, 1) := by decide +kernel
theorem dX3_include_167 : decode cX3_include 167 = .ok (.getfield 15, 3) := by decide +kernel
theorem dX3_include_170 : decode cX3_include 170 = .ok (.iload_n 3, 1) := by decide +kernel
theorem dX3_include_171 : decode cX3_include 171 = .ok (.laload, 1) := by decide +kernel
theorem dX3_include_172 : decode cX3_include 172 = .ok (.lstore 8, 2) := by decide +kernel
theorem dX3_include_174 : decode cX3_include 174 = .ok (.aload_n 0, 1) := by decide +kernel
theorem dX3_include_175 : decode cX3_include 175 = .ok (.getfield 15, 3) := by decide +kernel
theorem dX3_include_178 : decode cX3_include 178 = .ok (.iload_n 3, 1) := by decide +kernel
theorem dX3_include_179 : decode cX3_include 179 = .ok (.aload_n 0, 1) := by decide +kernel
theorem dX3_include_180 : decode cX3_include 180 = .ok (.getfield 9, 3) := by decide +kernel
theorem dX3_include_183 : decode cX3_include 183 = .ok (.iload 4, 2) := by decide +kernel
theorem dX3_include_185 : decode cX3_include 185 = .ok (.iload_n 3, 1) := by decide +kernel
theorem dX3_include_186 : decode cX3_include 186 = .ok (.iadd, 1) := by decide +kernel
theorem dX3_include_187 : decode cX3_include 187 = .ok (.laload, 1) := by decide +kernel
theorem dX3_include_188 : decode cX3_include 188 = .ok (.lload 6, 2) := by decide +kernel
theorem dX3_include_190 : decode cX3_include 190 = .ok (.lload 8, 2) := by decide +kernel
theorem dX3_include_192 : decode cX3_include 192 = .ok (.lmul, 1) := by decide +kernel
theorem dX3_include_193 : decode cX3_include 193 = .ok (.lsub, 1) := by decide +kernel
theorem dX3_include_194 : decode cX3_include 194 = .ok (.lastore, 1) := by decide +kernel
theorem dX3_include_195 : decode cX3_include 195 = .ok (.aload_n 0, 1) := by decide +kernel
theorem dX3_include_196 : decode cX3_include 196 = .ok (.getfield 9, 3) := by decide +kernel
theorem dX3_include_199 : decode cX3_include 199 = .ok (.iload 4, 2) := by decide +kernel
theorem dX3_include_201 : decode cX3_include 201 = .ok (.iload_n 3, 1) := by decide +kernel
theorem dX3_include_202 : decode cX3_include 202 = .ok (.iadd, 1) := by decide +kernel
theorem dX3_include_203 : decode cX3_include 203 = .ok (.lload 8, 2) := by decide +kernel
theorem dX3_include_205 : decode cX3_include 205 = .ok (.lastore, 1) := by decide +kernel
theorem dX3_include_206 : decode cX3_include 206 = .ok (.iinc 5 1, 3) := by decide +kernel
theorem dX3_include_209 : decode cX3_include 209 = .ok (.goto (-146), 3) := by decide +kernel
theorem dX3_include_212 : decode cX3_include 212 = .ok (.iinc 3 (-1), 3) := by decide +kernel
theorem dX3_include_215 : decode cX3_include 215 = .ok (.goto (-164), 3) := by decide +kernel
theorem dX3_include_218 : decode cX3_include 218 = .ok (.return_, 1) := by decide +kernel
theorem bX3_include_0 {l : Launch} {D : va_G} {aI aL : ClassId} {ad : Nat → Nat} {P : sa_P} {I : sa_I} {J : sa_J} {a1 q1 n1 : Nat} {x2 : Int32} (hq1 : sa_iJ (EC l D aI aL ad) a1 q1 n1) (hn1 : n1 < 2 ^ 31)  (kt : (0 : Int64) < J 14 3 → Sat (EC l D aI aL ad) M_X3_include P 10 [(0, .ref (ad 14)), (1, .ref a1), (2, .int x2)] [] I J) (kf : ¬ (0 : Int64) < J 14 3 → Sat (EC l D aI aL ad) M_X3_include P 9 [] [] I J) : Sat (EC l D aI aL ad) M_X3_include P 0 [(0, .ref (ad 14)), (1, .ref a1), (2, .int x2)] [] I J := by
  refine s_aload_n 0 dX3_include_0 rfl ?_
  refine g_X3_22 dX3_include_1 rfl ?_
  refine s_lconst (v := 0) dX3_include_4 rfl ?_
  refine s_lif_gt (tgt := 10) dX3_include_5 dX3_include_6 (by decide) (fun c => ?_) (fun c => ?_)
  · exact kt c
  · refine s_pick [] [] rfl ?_; exact kf c
theorem bX3_include_9 {l : Launch} {D : va_G} {aI aL : ClassId} {ad : Nat → Nat} {P : sa_P} {I : sa_I} {J : sa_J}    (k : P (none) I J) : Sat (EC l D aI aL ad) M_X3_include P 9 [] [] I J := by
  exact s_vret rfl dX3_include_9 k
theorem bX3_include_10 {l : Launch} {D : va_G} {aI aL : ClassId} {ad : Nat → Nat} {P : sa_P} {I : sa_I} {J : sa_J} {a1 q1 n1 : Nat} {x2 : Int32} {v11 : Int32} (hq1 : sa_iJ (EC l D aI aL ad) a1 q1 n1) (hn1 : n1 < 2 ^ 31) (f11 : (0 : Int32) = v11) (k : Sat (EC l D aI aL ad) M_X3_include P 12 [(0, .ref (ad 14)), (1, .ref a1), (2, .int x2), (3, .int v11)] [] I J) : Sat (EC l D aI aL ad) M_X3_include P 10 [(0, .ref (ad 14)), (1, .ref a1), (2, .int x2)] [] I J := by
  refine s_iconst (v := 0) dX3_include_10 rfl ?_
  refine s_eqi f11 ?_
  refine s_istore_n [(3, .int v11), (0, .ref (ad 14)), (1, .ref a1), (2, .int x2)] dX3_include_11 (Nat.lt_of_lt_of_le (Nat.lt_succ_self _) (Nat.le_of_ble_eq_true rfl)) rfl ?_
  refine s_pick [1, 2, 3, 0] [(0, .ref (ad 14)), (1, .ref a1), (2, .int x2), (3, .int v11)] rfl ?_; exact k
theorem bX3_include_12 {l : Launch} {D : va_G} {aI aL : ClassId} {ad : Nat → Nat} {P : sa_P} {I : sa_I} {J : sa_J} {a1 q1 n1 : Nat} {x2 : Int32} {x3 : Int32} (hq1 : sa_iJ (EC l D aI aL ad) a1 q1 n1) (hn1 : n1 < 2 ^ 31)  (kt : I 14 2 ≤ x3 → Sat (EC l D aI aL ad) M_X3_include P 44 [(0, .ref (ad 14))] [] I J) (kf : ¬ I 14 2 ≤ x3 → Sat (EC l D aI aL ad) M_X3_include P 20 [(0, .ref (ad 14)), (1, .ref a1), (2, .int x2), (3, .int x3)] [] I J) : Sat (EC l D aI aL ad) M_X3_include P 12 [(0, .ref (ad 14)), (1, .ref a1), (2, .int x2), (3, .int x3)] [] I J := by
  refine s_iload_n 3 dX3_include_12 rfl ?_
  refine s_aload_n 0 dX3_include_13 rfl ?_
  refine g_X3_18 dX3_include_14 rfl ?_
  refine s_icmp_ge (tgt := 44) dX3_include_17 (by decide) (fun c => ?_) (fun c => ?_)
  · refine s_pick [0] [(0, .ref (ad 14))] rfl ?_; exact kt c
  · exact kf c
theorem bX3_include_20 {l : Launch} {D : va_G} {aI aL : ClassId} {ad : Nat → Nat} {P : sa_P} {I : sa_I} {J : sa_J} {a1 q1 n1 : Nat} {x2 : Int32} {x3 : Int32} {j28 : Nat} (hq1 : sa_iJ (EC l D aI aL ad) a1 q1 n1) (hn1 : n1 < 2 ^ 31) (e28 : x2 + x3 = nI j28) (h29 : j28 < n1)  (k : Sat (EC l D aI aL ad) M_X3_include P 34 [(0, .ref (ad 14)), (1, .ref a1), (2, .int x2), (3, .int x3)] [.long (J 14 3), .long (J q1 j28), .int x3, .ref (ad 16)] I J) : Sat (EC l D aI aL ad) M_X3_include P 20 [(0, .ref (ad 14)), (1, .ref a1), (2, .int x2), (3, .int x3)] [] I J := by
  refine s_aload_n 0 dX3_include_20 rfl ?_
  refine g_X3_15 dX3_include_21 rfl ?_
  refine s_iload_n 3 dX3_include_24 rfl ?_
  refine s_aload_n 1 dX3_include_25 rfl ?_
  refine s_iload_n 2 dX3_include_26 rfl ?_
  refine s_iload_n 3 dX3_include_27 rfl ?_
  refine s_iadd dX3_include_28 ?_
  refine s_eqi e28 ?_
  refine s_laloadN hq1 h29 hn1 dX3_include_29 ?_
  refine s_aload_n 0 dX3_include_30 rfl ?_
  refine g_X3_22 dX3_include_31 rfl ?_
  exact k
theorem bX3_include_37 {l : Launch} {D : va_G} {aI aL : ClassId} {ad : Nat → Nat} {P : sa_P} {I : sa_I} {J : sa_J} {a1 q1 n1 : Nat} {x2 : Int32} {x3 : Int32} {s1 : Nat} {s2 : Int64} {v38 : Int32} (hq1 : sa_iJ (EC l D aI aL ad) a1 q1 n1) (hn1 : n1 < 2 ^ 31) (h37 : s1 < 3) (f38 : x3 + 1 = v38) (k : Sat (EC l D aI aL ad) M_X3_include P 12 [(0, .ref (ad 14)), (1, .ref a1), (2, .int x2), (3, .int v38)] [] I (sa_uJ J 16 s1 s2)) : Sat (EC l D aI aL ad) M_X3_include P 37 [(0, .ref (ad 14)), (1, .ref a1), (2, .int x2), (3, .int x3)] [.long s2, .int (nI s1), .ref (ad 16)] I J := by
  refine s_lastoreN aJ_C16 h37 (by decide) dX3_include_37 ?_
  refine s_iinc 3 v38 [(3, .int v38), (0, .ref (ad 14)), (1, .ref a1), (2, .int x2)] dX3_include_38 rfl f38 (Nat.lt_of_lt_of_le (Nat.lt_succ_self _) (Nat.le_of_ble_eq_true rfl)) rfl ?_
  refine s_goto (tgt := 12) dX3_include_41 (by decide) ?_
  refine s_pick [1, 2, 3, 0] [(0, .ref (ad 14)), (1, .ref a1), (2, .int x2), (3, .int v38)] rfl ?_; exact k
theorem bX3_include_44 {l : Launch} {D : va_G} {aI aL : ClassId} {ad : Nat → Nat} {P : sa_P} {I : sa_I} {J : sa_J} {v50 : Int32}  (f50 : (I 14 2) - (1 : Int32) = v50) (k : Sat (EC l D aI aL ad) M_X3_include P 51 [(0, .ref (ad 14)), (3, .int v50)] [] I J) : Sat (EC l D aI aL ad) M_X3_include P 44 [(0, .ref (ad 14))] [] I J := by
  refine s_aload_n 0 dX3_include_44 rfl ?_
  refine g_X3_18 dX3_include_45 rfl ?_
  refine s_iconst (v := 1) dX3_include_48 rfl ?_
  refine s_isub dX3_include_49 ?_
  refine s_eqi f50 ?_
  refine s_istore_n [(3, .int v50), (0, .ref (ad 14))] dX3_include_50 (Nat.lt_of_lt_of_le (Nat.lt_succ_self _) (Nat.le_of_ble_eq_true rfl)) rfl ?_
  refine s_pick [1, 0] [(0, .ref (ad 14)), (3, .int v50)] rfl ?_; exact k
theorem bX3_include_51 {l : Launch} {D : va_G} {aI aL : ClassId} {ad : Nat → Nat} {P : sa_P} {I : sa_I} {J : sa_J} {x3 : Int32}   (kt : x3 < 0 → Sat (EC l D aI aL ad) M_X3_include P 218 [] [] I J) (kf : ¬ x3 < 0 → Sat (EC l D aI aL ad) M_X3_include P 55 [(0, .ref (ad 14)), (3, .int x3)] [] I J) : Sat (EC l D aI aL ad) M_X3_include P 51 [(0, .ref (ad 14)), (3, .int x3)] [] I J := by
  refine s_iload_n 1 dX3_include_51 rfl ?_
  refine s_if_lt (tgt := 218) dX3_include_52 (by decide) (fun c => ?_) (fun c => ?_)
  · refine s_pick [] [] rfl ?_; exact kt c
  · exact kf c
theorem bX3_include_55 {l : Launch} {D : va_G} {aI aL : ClassId} {ad : Nat → Nat} {P : sa_P} {I : sa_I} {J : sa_J} {x3 : Int32} {v58 : Int32} {v61 : Int32}  (f58 : (3 : Int32) * x3 = v58) (f61 : (0 : Int32) = v61) (k : Sat (EC l D aI aL ad) M_X3_include P 63 [(0, .ref (ad 14)), (3, .int x3), (4, .int v58), (5, .int v61)] [] I J) : Sat (EC l D aI aL ad) M_X3_include P 55 [(0, .ref (ad 14)), (3, .int x3)] [] I J := by
  refine s_iconst (v := 3) dX3_include_55 rfl ?_
  refine s_iload_n 1 dX3_include_56 rfl ?_
  refine s_imul dX3_include_57 ?_
  refine s_eqi f58 ?_
  refine s_istore [(4, .int v58), (0, .ref (ad 14)), (3, .int x3)] dX3_include_58 (Nat.lt_of_lt_of_le (Nat.lt_succ_self _) (Nat.le_of_ble_eq_true rfl)) rfl ?_
  refine s_iconst (v := 0) dX3_include_60 rfl ?_
  refine s_eqi f61 ?_
  refine s_istore [(5, .int v61), (4, .int v58), (0, .ref (ad 14)), (3, .int x3)] dX3_include_61 (Nat.lt_of_lt_of_le (Nat.lt_succ_self _) (Nat.le_of_ble_eq_true rfl)) rfl ?_
  refine s_pick [2, 3, 1, 0] [(0, .ref (ad 14)), (3, .int x3), (4, .int v58), (5, .int v61)] rfl ?_; exact k
theorem bX3_include_63 {l : Launch} {D : va_G} {aI aL : ClassId} {ad : Nat → Nat} {P : sa_P} {I : sa_I} {J : sa_J} {x3 : Int32} {x4 : Int32} {x5 : Int32}   (kt : (1000 : Int32) ≤ x5 → Sat (EC l D aI aL ad) M_X3_include P 212 [(0, .ref (ad 14)), (3, .int x3)] [] I J) (kf : ¬ (1000 : Int32) ≤ x5 → Sat (EC l D aI aL ad) M_X3_include P 71 [(0, .ref (ad 14)), (3, .int x3), (4, .int x4), (5, .int x5)] [] I J) : Sat (EC l D aI aL ad) M_X3_include P 63 [(0, .ref (ad 14)), (3, .int x3), (4, .int x4), (5, .int x5)] [] I J := by
  refine s_iload 3 dX3_include_63 rfl ?_
  refine s_sipush (v := 1000) dX3_include_65 rfl ?_
  refine s_icmp_ge (tgt := 212) dX3_include_68 (by decide) (fun c => ?_) (fun c => ?_)
  · refine s_pick [0, 1] [(0, .ref (ad 14)), (3, .int x3)] rfl ?_; exact kt c
  · exact kf c
theorem bX3_include_71 {l : Launch} {D : va_G} {aI aL : ClassId} {ad : Nat → Nat} {P : sa_P} {I : sa_I} {J : sa_J} {x3 : Int32} {x4 : Int32} {x5 : Int32} {j75 : Nat} (e75 : x3 = nI j75) (h76 : j75 < 3)  (kt : J 16 j75 = (0 : Int64) → Sat (EC l D aI aL ad) M_X3_include P 212 [(0, .ref (ad 14)), (3, .int x3)] [] I J) (kf : ¬ J 16 j75 = (0 : Int64) → Sat (EC l D aI aL ad) M_X3_include P 82 [(0, .ref (ad 14)), (3, .int x3), (4, .int x4), (5, .int x5)] [] I J) : Sat (EC l D aI aL ad) M_X3_include P 71 [(0, .ref (ad 14)), (3, .int x3), (4, .int x4), (5, .int x5)] [] I J := by
  refine s_aload_n 0 dX3_include_71 rfl ?_
  refine g_X3_15 dX3_include_72 rfl ?_
  refine s_iload_n 1 dX3_include_75 rfl ?_
  refine s_eqi e75 ?_
  refine s_laloadN aJ_C16 h76 (by decide) dX3_include_76 ?_
  refine s_lconst (v := 0) dX3_include_77 rfl ?_
  refine s_lif_eq (tgt := 212) dX3_include_78 dX3_include_79 (by decide) (fun c => ?_) (fun c => ?_)
  · refine s_pick [0, 1] [(0, .ref (ad 14)), (3, .int x3)] rfl ?_; exact kt c
  · exact kf c
theorem bX3_include_82 {l : Launch} {D : va_G} {aI aL : ClassId} {ad : Nat → Nat} {P : sa_P} {I : sa_I} {J : sa_J} {x3 : Int32} {x4 : Int32} {x5 : Int32} {j89 : Nat} {j95 : Nat} {v98 : Int64} {v101 : Int32} (e89 : x4 + x3 = nI j89) (h90 : j89 < 9) (e95 : x3 = nI j95) (h96 : j95 < 3) (z97 : ¬ J 16 j95 = 0) (f98 : (J 15 j89) / (J 16 j95) = v98) (f101 : (0 : Int32) = v101) (k : Sat (EC l D aI aL ad) M_X3_include P 103 [(0, .ref (ad 14)), (3, .int x3), (4, .int x4), (5, .int x5), (6, .long v98), (8, .int v101)] [] I J) : Sat (EC l D aI aL ad) M_X3_include P 82 [(0, .ref (ad 14)), (3, .int x3), (4, .int x4), (5, .int x5)] [] I J := by
  refine s_aload_n 0 dX3_include_82 rfl ?_
  refine g_X3_9 dX3_include_83 rfl ?_
  refine s_iload 2 dX3_include_86 rfl ?_
  refine s_iload_n 1 dX3_include_88 rfl ?_
  refine s_iadd dX3_include_89 ?_
  refine s_eqi e89 ?_
  refine s_laloadN aJ_C15 h90 (by decide) dX3_include_90 ?_
  refine s_aload_n 0 dX3_include_91 rfl ?_
  refine g_X3_15 dX3_include_92 rfl ?_
  refine s_iload_n 1 dX3_include_95 rfl ?_
  refine s_eqi e95 ?_
  refine s_laloadN aJ_C16 h96 (by decide) dX3_include_96 ?_
  refine s_ldiv dX3_include_97 z97 ?_
  refine s_eql f98 ?_
  refine s_lstore [(6, .long v98), (0, .ref (ad 14)), (3, .int x3), (4, .int x4), (5, .int x5)] dX3_include_98 (Nat.lt_of_lt_of_le (Nat.lt_succ_self _) (Nat.le_of_ble_eq_true rfl)) rfl ?_
  refine s_iconst (v := 0) dX3_include_100 rfl ?_
  refine s_eqi f101 ?_
  refine s_istore [(8, .int v101), (6, .long v98), (0, .ref (ad 14)), (3, .int x3), (4, .int x4), (5, .int x5)] dX3_include_101 (Nat.lt_of_lt_of_le (Nat.lt_succ_self _) (Nat.le_of_ble_eq_true rfl)) rfl ?_
  refine s_pick [2, 3, 4, 5, 1, 0] [(0, .ref (ad 14)), (3, .int x3), (4, .int x4), (5, .int x5), (6, .long v98), (8, .int v101)] rfl ?_; exact k
theorem bX3_include_103 {l : Launch} {D : va_G} {aI aL : ClassId} {ad : Nat → Nat} {P : sa_P} {I : sa_I} {J : sa_J} {x3 : Int32} {x4 : Int32} {x5 : Int32} {x6 : Int64} {x8 : Int32}   (kt : x3 ≤ x8 → Sat (EC l D aI aL ad) M_X3_include P 166 [(0, .ref (ad 14)), (3, .int x3), (4, .int x4), (5, .int x5), (6, .long x6)] [] I J) (kf : ¬ x3 ≤ x8 → Sat (EC l D aI aL ad) M_X3_include P 109 [(0, .ref (ad 14)), (3, .int x3), (4, .int x4), (5, .int x5), (6, .long x6), (8, .int x8)] [] I J) : Sat (EC l D aI aL ad) M_X3_include P 103 [(0, .ref (ad 14)), (3, .int x3), (4, .int x4), (5, .int x5), (6, .long x6), (8, .int x8)] [] I J := by
  refine s_iload 5 dX3_include_103 rfl ?_
  refine s_iload_n 1 dX3_include_105 rfl ?_
  refine s_icmp_ge (tgt := 166) dX3_include_106 (by decide) (fun c => ?_) (fun c => ?_)
  · refine s_pick [0, 1, 2, 3, 4] [(0, .ref (ad 14)), (3, .int x3), (4, .int x4), (5, .int x5), (6, .long x6)] rfl ?_; exact kt c
  · exact kf c
theorem bX3_include_109 {l : Launch} {D : va_G} {aI aL : ClassId} {ad : Nat → Nat} {P : sa_P} {I : sa_I} {J : sa_J} {x3 : Int32} {x4 : Int32} {x5 : Int32} {x6 : Int64} {x8 : Int32} {j113 : Nat} {v116 : Int64} {j132 : Nat} (e113 : x8 = nI j113) (h115 : j113 < 3) (e132 : x4 + x8 = nI j132) (h133 : j132 < 9) (f116 : J 16 j113 = v116) (k : Sat (EC l D aI aL ad) M_X3_include P 144 [(0, .ref (ad 14)), (3, .int x3), (4, .int x4), (5, .int x5), (6, .long x6), (8, .int x8), (9, .long v116)] [.long (J 14 3), .long ((J 15 j132) - (x6 * v116)), .int x8, .ref (ad 16)] I J) : Sat (EC l D aI aL ad) M_X3_include P 109 [(0, .ref (ad 14)), (3, .int x3), (4, .int x4), (5, .int x5), (6, .long x6), (8, .int x8)] [] I J := by
  refine s_aload_n 0 dX3_include_109 rfl ?_
  refine g_X3_15 dX3_include_110 rfl ?_
  refine s_iload 5 dX3_include_113 rfl ?_
  refine s_eqi e113 ?_
  refine s_laloadN aJ_C16 h115 (by decide) dX3_include_115 ?_
  refine s_eql f116 ?_
  refine s_lstore [(9, .long v116), (0, .ref (ad 14)), (3, .int x3), (4, .int x4), (5, .int x5), (6, .long x6), (8, .int x8)] dX3_include_116 (Nat.lt_of_lt_of_le (Nat.lt_succ_self _) (Nat.le_of_ble_eq_true rfl)) rfl ?_
  refine s_aload_n 1 dX3_include_118 rfl ?_
  refine g_X3_15 dX3_include_119 rfl ?_
  refine s_iload 6 dX3_include_122 rfl ?_
  refine s_aload_n 1 dX3_include_124 rfl ?_
  refine g_X3_9 dX3_include_125 rfl ?_
  refine s_iload 3 dX3_include_128 rfl ?_
  refine s_iload 6 dX3_include_130 rfl ?_
  refine s_iadd dX3_include_132 ?_
  refine s_eqi e132 ?_
  refine s_laloadN aJ_C15 h133 (by decide) dX3_include_133 ?_
  refine s_lload 5 dX3_include_134 rfl ?_
  refine s_lload 0 dX3_include_136 rfl ?_
  refine s_lmul dX3_include_138 ?_
  refine s_lsub dX3_include_139 ?_
  refine s_aload_n 1 dX3_include_140 rfl ?_
  refine g_X3_22 dX3_include_141 rfl ?_
  refine s_pick [1, 2, 3, 4, 5, 6, 0] [(0, .ref (ad 14)), (3, .int x3), (4, .int x4), (5, .int x5), (6, .long x6), (8, .int x8), (9, .long v116)] rfl ?_; exact k
theorem bX3_include_147 {l : Launch} {D : va_G} {aI aL : ClassId} {ad : Nat → Nat} {P : sa_P} {I : sa_I} {J : sa_J} {x3 : Int32} {x4 : Int32} {x5 : Int32} {x6 : Int64} {x8 : Int32} {x9 : Int64} {s1 : Nat} {s2 : Int64} {j156 : Nat} {v160 : Int32} (h147 : s1 < 3) (e156 : x4 + x8 = nI j156) (h159 : j156 < 9) (f160 : x8 + 1 = v160) (k : Sat (EC l D aI aL ad) M_X3_include P 103 [(0, .ref (ad 14)), (3, .int x3), (4, .int x4), (5, .int x5), (6, .long x6), (8, .int v160)] [] I (sa_uJ (sa_uJ J 16 s1 s2) 15 j156 x9)) : Sat (EC l D aI aL ad) M_X3_include P 147 [(0, .ref (ad 14)), (3, .int x3), (4, .int x4), (5, .int x5), (6, .long x6), (8, .int x8), (9, .long x9)] [.long s2, .int (nI s1), .ref (ad 16)] I J := by
  refine s_lastoreN aJ_C16 h147 (by decide) dX3_include_147 ?_
  refine s_aload_n 0 dX3_include_148 rfl ?_
  refine g_X3_9 dX3_include_149 rfl ?_
  refine s_iload 2 dX3_include_152 rfl ?_
  refine s_iload 5 dX3_include_154 rfl ?_
  refine s_iadd dX3_include_156 ?_
  refine s_eqi e156 ?_
  refine s_lload 6 dX3_include_157 rfl ?_
  refine s_lastoreN aJ_C15 h159 (by decide) dX3_include_159 ?_
  refine s_iinc 5 v160 [(8, .int v160), (0, .ref (ad 14)), (3, .int x3), (4, .int x4), (5, .int x5), (6, .long x6), (9, .long x9)] dX3_include_160 rfl f160 (Nat.lt_of_lt_of_le (Nat.lt_succ_self _) (Nat.le_of_ble_eq_true rfl)) rfl ?_
  refine s_goto (tgt := 103) dX3_include_163 (by decide) ?_
  refine s_pick [1, 2, 3, 4, 5, 0] [(0, .ref (ad 14)), (3, .int x3), (4, .int x4), (5, .int x5), (6, .long x6), (8, .int v160)] rfl ?_; exact k
theorem bX3_include_166 {l : Launch} {D : va_G} {aI aL : ClassId} {ad : Nat → Nat} {P : sa_P} {I : sa_I} {J : sa_J} {x3 : Int32} {x4 : Int32} {x5 : Int32} {x6 : Int64} {j170 : Nat} {v172 : Int64} {j178 : Nat} {j186 : Nat} {v194 : Int64} {j202 : Nat} {v206 : Int32} (e170 : x3 = nI j170) (h171 : j170 < 3) (e178 : x3 = nI j178) (e186 : x4 + x3 = nI j186) (h187 : j186 < 9) (h194 : j178 < 3) (e202 : x4 + x3 = nI j202) (h205 : j202 < 9) (f172 : J 16 j170 = v172) (f194 : (J 15 j186) - (x6 * v172) = v194) (f206 : x5 + 1 = v206) (k : Sat (EC l D aI aL ad) M_X3_include P 63 [(0, .ref (ad 14)), (3, .int x3), (4, .int x4), (5, .int v206)] [] I (sa_uJ (sa_uJ J 16 j178 v194) 15 j202 v172)) : Sat (EC l D aI aL ad) M_X3_include P 166 [(0, .ref (ad 14)), (3, .int x3), (4, .int x4), (5, .int x5), (6, .long x6)] [] I J := by
  refine s_aload_n 0 dX3_include_166 rfl ?_
  refine g_X3_15 dX3_include_167 rfl ?_
  refine s_iload_n 1 dX3_include_170 rfl ?_
  refine s_eqi e170 ?_
  refine s_laloadN aJ_C16 h171 (by decide) dX3_include_171 ?_
  refine s_eql f172 ?_
  refine s_lstore [(8, .long v172), (0, .ref (ad 14)), (3, .int x3), (4, .int x4), (5, .int x5), (6, .long x6)] dX3_include_172 (Nat.lt_of_lt_of_le (Nat.lt_succ_self _) (Nat.le_of_ble_eq_true rfl)) rfl ?_
  refine s_aload_n 1 dX3_include_174 rfl ?_
  refine g_X3_15 dX3_include_175 rfl ?_
  refine s_iload_n 2 dX3_include_178 rfl ?_
  refine s_eqi e178 ?_
  refine s_aload_n 1 dX3_include_179 rfl ?_
  refine g_X3_9 dX3_include_180 rfl ?_
  refine s_iload 3 dX3_include_183 rfl ?_
  refine s_iload_n 2 dX3_include_185 rfl ?_
  refine s_iadd dX3_include_186 ?_
  refine s_eqi e186 ?_
  refine s_laloadN aJ_C15 h187 (by decide) dX3_include_187 ?_
  refine s_lload 5 dX3_include_188 rfl ?_
  refine s_lload 0 dX3_include_190 rfl ?_
  refine s_lmul dX3_include_192 ?_
  refine s_lsub dX3_include_193 ?_
  refine s_eql f194 ?_
  refine s_lastoreN aJ_C16 h194 (by decide) dX3_include_194 ?_
  refine s_aload_n 1 dX3_include_195 rfl ?_
  refine g_X3_9 dX3_include_196 rfl ?_
  refine s_iload 3 dX3_include_199 rfl ?_
  refine s_iload_n 2 dX3_include_201 rfl ?_
  refine s_iadd dX3_include_202 ?_
  refine s_eqi e202 ?_
  refine s_lload 0 dX3_include_203 rfl ?_
  refine s_lastoreN aJ_C15 h205 (by decide) dX3_include_205 ?_
  refine s_iinc 4 v206 [(5, .int v206), (8, .long v172), (0, .ref (ad 14)), (3, .int x3), (4, .int x4), (6, .long x6)] dX3_include_206 rfl f206 (Nat.lt_of_lt_of_le (Nat.lt_succ_self _) (Nat.le_of_ble_eq_true rfl)) rfl ?_
  refine s_goto (tgt := 63) dX3_include_209 (by decide) ?_
  refine s_pick [2, 3, 4, 0] [(0, .ref (ad 14)), (3, .int x3), (4, .int x4), (5, .int v206)] rfl ?_; exact k
theorem bX3_include_212 {l : Launch} {D : va_G} {aI aL : ClassId} {ad : Nat → Nat} {P : sa_P} {I : sa_I} {J : sa_J} {x3 : Int32} {v212 : Int32}  (f212 : x3 + (-1) = v212) (k : Sat (EC l D aI aL ad) M_X3_include P 51 [(0, .ref (ad 14)), (3, .int v212)] [] I J) : Sat (EC l D aI aL ad) M_X3_include P 212 [(0, .ref (ad 14)), (3, .int x3)] [] I J := by
  refine s_iinc 1 v212 [(3, .int v212), (0, .ref (ad 14))] dX3_include_212 rfl f212 (Nat.lt_of_lt_of_le (Nat.lt_succ_self _) (Nat.le_of_ble_eq_true rfl)) rfl ?_
  refine s_goto (tgt := 51) dX3_include_215 (by decide) ?_
  refine s_pick [1, 0] [(0, .ref (ad 14)), (3, .int v212)] rfl ?_; exact k
theorem bX3_include_218 {l : Launch} {D : va_G} {aI aL : ClassId} {ad : Nat → Nat} {P : sa_P} {I : sa_I} {J : sa_J}    (k : P (none) I J) : Sat (EC l D aI aL ad) M_X3_include P 218 [] [] I J := by
  exact s_vret rfl dX3_include_218 k
/-! X3_settle -/
theorem dX3_settle_0 : decode cX3_settle 0 = .ok (.iconst 1, 1) := by decide +kernel
theorem dX3_settle_1 : decode cX3_settle 1 = .ok (.istore_n 1, 1) := by decide +kernel
theorem dX3_settle_2 : decode cX3_settle 2 = .ok (.iload_n 1, 1) := by decide +kernel
theorem dX3_settle_3 : decode cX3_settle 3 = .ok (.aload_n 0, 1) := by decide +kernel
theorem dX3_settle_4 : decode cX3_settle 4 = .ok (.getfield 18, 3) := by decide +kernel
theorem dX3_settle_7 : decode cX3_settle 7 = .ok (.if_icmp .ge 97, 3) := by decide +kernel
theorem dX3_settle_10 : decode cX3_settle 10 = .ok (.iload_n 1, 1) := by decide +kernel
theorem dX3_settle_11 : decode cX3_settle 11 = .ok (.iconst 1, 1) := by decide +kernel
theorem dX3_settle_12 : decode cX3_settle 12 = .ok (.isub, 1) := by decide +kernel
theorem dX3_settle_13 : decode cX3_settle 13 = .ok (.istore_n 2, 1) := by decide +kernel
theorem dX3_settle_14 : decode cX3_settle 14 = .ok (.iload_n 2, 1) := by decide +kernel
theorem dX3_settle_15 : decode cX3_settle 15 = .ok (.ifCond .lt 83, 3) := by decide +kernel
theorem dX3_settle_18 : decode cX3_settle 18 = .ok (.aload_n 0, 1) := by decide +kernel
theorem dX3_settle_19 : decode cX3_settle 19 = .ok (.getfield 9, 3) := by decide +kernel
theorem dX3_settle_22 : decode cX3_settle 22 = .ok (.iconst 4, 1) := by decide +kernel
theorem dX3_settle_23 : decode cX3_settle 23 = .ok (.iload_n 2, 1) := by decide +kernel
theorem dX3_settle_24 : decode cX3_settle 24 = .ok (.imul, 1) := by decide +kernel
theorem dX3_settle_25 : decode cX3_settle 25 = .ok (.laload, 1) := by decide +kernel
theorem dX3_settle_26 : decode cX3_settle 26 = .ok (.lstore_n 3, 1) := by decide +kernel
theorem dX3_settle_27 : decode cX3_settle 27 = .ok (.lload_n 3, 1) := by decide +kernel
theorem dX3_settle_28 : decode cX3_settle 28 = .ok (.lconst 0, 1) := by decide +kernel
theorem dX3_settle_29 : decode cX3_settle 29 = .ok (.lcmp, 1) := by decide +kernel
theorem dX3_settle_30 : decode cX3_settle 30 = .ok (.ifCond .le 62, 3) := by decide +kernel
theorem dX3_settle_33 : decode cX3_settle 33 = .ok (.aload_n 0, 1) := by decide +kernel
theorem dX3_settle_34 : decode cX3_settle 34 = .ok (.getfield 9, 3) := by decide +kernel
theorem dX3_settle_37 : decode cX3_settle 37 = .ok (.iconst 3, 1) := by decide +kernel
theorem dX3_settle_38 : decode cX3_settle 38 = .ok (.iload_n 1, 1) := by decide +kernel
theorem dX3_settle_39 : decode cX3_settle 39 = .ok (.imul, 1) := by decide +kernel
theorem dX3_settle_40 : decode cX3_settle 40 = .ok (.iload_n 2, 1) := by decide +kernel
theorem dX3_settle_41 : decode cX3_settle 41 = .ok (.iadd, 1) := by decide +kernel
theorem dX3_settle_42 : decode cX3_settle 42 = .ok (.laload, 1) := by decide +kernel
theorem dX3_settle_43 : decode cX3_settle 43 = .ok (.lload_n 3, 1) := by decide +kernel
theorem dX3_settle_44 : decode cX3_settle 44 = .ok (.invokestatic 38, 3) := by decide +kernel
theorem dX3_settle_47 : decode cX3_settle 47 = .ok (.lstore 5, 2) := by decide +kernel
theorem dX3_settle_49 : decode cX3_settle 49 = .ok (.iconst 0, 1) := by decide +kernel
theorem dX3_settle_50 : decode cX3_settle 50 = .ok (.istore 7, 2) := by decide +kernel
theorem dX3_settle_52 : decode cX3_settle 52 = .ok (.iload 7, 2) := by decide +kernel
theorem dX3_settle_54 : decode cX3_settle 54 = .ok (.iload_n 2, 1) := by decide +kernel
theorem dX3_settle_55 : decode cX3_settle 55 = .ok (.if_icmp .gt 37, 3) := by decide +kernel
theorem dX3_settle_58 : decode cX3_settle 58 = .ok (.aload_n 0, 1) := by decide +kernel
theorem dX3_settle_59 : decode cX3_settle 59 = .ok (.getfield 9, 3) := by decide +kernel
theorem dX3_settle_62 : decode cX3_settle 62 = .ok (.iconst 3, 1) := by decide +kernel
theorem dX3_settle_63 : decode cX3_settle 63 = .ok (.iload_n 1, 1) := by decide +kernel
theorem dX3_settle_64 : decode cX3_settle 64 = .ok (.imul, 1) := by decide +kernel
theorem dX3_settle_65 : decode cX3_settle 65 = .ok (.iload 7, 2) := by decide +kernel
theorem dX3_settle_67 : decode cX3_settle 67 = .ok (.iadd, 1) := by decide +kernel
theorem dX3_settle_68 : decode cX3_settle 68 = .ok (.dup2, 1) := by decide +kernel
theorem dX3_settle_69 : decode cX3_settle 69 = .ok (.laload, 1) := by decide +kernel
theorem dX3_settle_70 : decode cX3_settle 70 = .ok (.lload 5, 2) := by decide +kernel
theorem dX3_settle_72 : decode cX3_settle 72 = .ok (.aload_n 0, 1) := by decide +kernel
theorem dX3_settle_73 : decode cX3_settle 73 = .ok (.getfield 9, 3) := by decide +kernel
theorem dX3_settle_76 : decode cX3_settle 76 = .ok (.iconst 3, 1) := by decide +kernel
theorem dX3_settle_77 : decode cX3_settle 77 = .ok (.iload_n 2, 1) := by decide +kernel
theorem dX3_settle_78 : decode cX3_settle 78 = .ok (.imul, 1) := by decide +kernel
theorem dX3_settle_79 : decode cX3_settle 79 = .ok (.iload 7, 2) := by decide +kernel
theorem dX3_settle_81 : decode cX3_settle 81 = .ok (.iadd, 1) := by decide +kernel
theorem dX3_settle_82 : decode cX3_settle 82 = .ok (.laload, 1) := by decide +kernel
theorem dX3_settle_83 : decode cX3_settle 83 = .ok (.lmul, 1) := by decide +kernel
theorem dX3_settle_84 : decode cX3_settle 84 = .ok (.lsub, 1) := by decide +kernel
theorem dX3_settle_85 : decode cX3_settle 85 = .ok (.lastore, 1) := by decide +kernel
theorem dX3_settle_86 : decode cX3_settle 86 = .ok (.iinc 7 1, 3) := by decide +kernel
theorem dX3_settle_89 : decode cX3_settle 89 = .ok (.goto (-37), 3) := by decide +kernel
theorem dX3_settle_92 : decode cX3_settle 92 = .ok (.iinc 2 (-1), 3) := by decide +kernel
theorem dX3_settle_95 : decode cX3_settle 95 = .ok (.goto (-81), 3) := by decide +kernel
theorem dX3_settle_98 : decode cX3_settle 98 = .ok (.iinc 1 1, 3) := by decide +kernel
theorem dX3_settle_101 : decode cX3_settle 101 = .ok (.goto (-99), 3) := by decide +kernel
theorem dX3_settle_104 : decode cX3_settle 104 = .ok (.return_, 1) := by decide +kernel
theorem bX3_settle_0 {l : Launch} {D : va_G} {aI aL : ClassId} {ad : Nat → Nat} {P : sa_P} {I : sa_I} {J : sa_J} {v1 : Int32}  (f1 : (1 : Int32) = v1) (k : Sat (EC l D aI aL ad) M_X3_settle P 2 [(0, .ref (ad 14)), (1, .int v1)] [] I J) : Sat (EC l D aI aL ad) M_X3_settle P 0 [(0, .ref (ad 14))] [] I J := by
  refine s_iconst (v := 1) dX3_settle_0 rfl ?_
  refine s_eqi f1 ?_
  refine s_istore_n [(1, .int v1), (0, .ref (ad 14))] dX3_settle_1 (Nat.lt_of_lt_of_le (Nat.lt_succ_self _) (Nat.le_of_ble_eq_true rfl)) rfl ?_
  refine s_pick [1, 0] [(0, .ref (ad 14)), (1, .int v1)] rfl ?_; exact k
theorem bX3_settle_2 {l : Launch} {D : va_G} {aI aL : ClassId} {ad : Nat → Nat} {P : sa_P} {I : sa_I} {J : sa_J} {x1 : Int32}   (kt : I 14 2 ≤ x1 → Sat (EC l D aI aL ad) M_X3_settle P 104 [] [] I J) (kf : ¬ I 14 2 ≤ x1 → Sat (EC l D aI aL ad) M_X3_settle P 10 [(0, .ref (ad 14)), (1, .int x1)] [] I J) : Sat (EC l D aI aL ad) M_X3_settle P 2 [(0, .ref (ad 14)), (1, .int x1)] [] I J := by
  refine s_iload_n 1 dX3_settle_2 rfl ?_
  refine s_aload_n 0 dX3_settle_3 rfl ?_
  refine g_X3_18 dX3_settle_4 rfl ?_
  refine s_icmp_ge (tgt := 104) dX3_settle_7 (by decide) (fun c => ?_) (fun c => ?_)
  · refine s_pick [] [] rfl ?_; exact kt c
  · exact kf c
theorem bX3_settle_10 {l : Launch} {D : va_G} {aI aL : ClassId} {ad : Nat → Nat} {P : sa_P} {I : sa_I} {J : sa_J} {x1 : Int32} {v13 : Int32}  (f13 : x1 - (1 : Int32) = v13) (k : Sat (EC l D aI aL ad) M_X3_settle P 14 [(0, .ref (ad 14)), (1, .int x1), (2, .int v13)] [] I J) : Sat (EC l D aI aL ad) M_X3_settle P 10 [(0, .ref (ad 14)), (1, .int x1)] [] I J := by
  refine s_iload_n 1 dX3_settle_10 rfl ?_
  refine s_iconst (v := 1) dX3_settle_11 rfl ?_
  refine s_isub dX3_settle_12 ?_
  refine s_eqi f13 ?_
  refine s_istore_n [(2, .int v13), (0, .ref (ad 14)), (1, .int x1)] dX3_settle_13 (Nat.lt_of_lt_of_le (Nat.lt_succ_self _) (Nat.le_of_ble_eq_true rfl)) rfl ?_
  refine s_pick [1, 2, 0] [(0, .ref (ad 14)), (1, .int x1), (2, .int v13)] rfl ?_; exact k
theorem bX3_settle_14 {l : Launch} {D : va_G} {aI aL : ClassId} {ad : Nat → Nat} {P : sa_P} {I : sa_I} {J : sa_J} {x1 : Int32} {x2 : Int32}   (kt : x2 < 0 → Sat (EC l D aI aL ad) M_X3_settle P 98 [(0, .ref (ad 14)), (1, .int x1)] [] I J) (kf : ¬ x2 < 0 → Sat (EC l D aI aL ad) M_X3_settle P 18 [(0, .ref (ad 14)), (1, .int x1), (2, .int x2)] [] I J) : Sat (EC l D aI aL ad) M_X3_settle P 14 [(0, .ref (ad 14)), (1, .int x1), (2, .int x2)] [] I J := by
  refine s_iload_n 2 dX3_settle_14 rfl ?_
  refine s_if_lt (tgt := 98) dX3_settle_15 (by decide) (fun c => ?_) (fun c => ?_)
  · refine s_pick [0, 1] [(0, .ref (ad 14)), (1, .int x1)] rfl ?_; exact kt c
  · exact kf c
theorem bX3_settle_18 {l : Launch} {D : va_G} {aI aL : ClassId} {ad : Nat → Nat} {P : sa_P} {I : sa_I} {J : sa_J} {x1 : Int32} {x2 : Int32} {j24 : Nat} {v26 : Int64} (e24 : (4 : Int32) * x2 = nI j24) (h25 : j24 < 9) (f26 : J 15 j24 = v26) (kt : v26 ≤ (0 : Int64) → Sat (EC l D aI aL ad) M_X3_settle P 92 [(0, .ref (ad 14)), (1, .int x1), (2, .int x2)] [] I J) (kf : ¬ v26 ≤ (0 : Int64) → Sat (EC l D aI aL ad) M_X3_settle P 33 [(0, .ref (ad 14)), (1, .int x1), (2, .int x2), (3, .long v26)] [] I J) : Sat (EC l D aI aL ad) M_X3_settle P 18 [(0, .ref (ad 14)), (1, .int x1), (2, .int x2)] [] I J := by
  refine s_aload_n 0 dX3_settle_18 rfl ?_
  refine g_X3_9 dX3_settle_19 rfl ?_
  refine s_iconst (v := 4) dX3_settle_22 rfl ?_
  refine s_iload_n 2 dX3_settle_23 rfl ?_
  refine s_imul dX3_settle_24 ?_
  refine s_eqi e24 ?_
  refine s_laloadN aJ_C15 h25 (by decide) dX3_settle_25 ?_
  refine s_eql f26 ?_
  refine s_lstore_n [(3, .long v26), (0, .ref (ad 14)), (1, .int x1), (2, .int x2)] dX3_settle_26 (Nat.lt_of_lt_of_le (Nat.lt_succ_self _) (Nat.le_of_ble_eq_true rfl)) rfl ?_
  refine s_lload_n 0 dX3_settle_27 rfl ?_
  refine s_lconst (v := 0) dX3_settle_28 rfl ?_
  refine s_lif_le (tgt := 92) dX3_settle_29 dX3_settle_30 (by decide) (fun c => ?_) (fun c => ?_)
  · refine s_pick [1, 2, 3] [(0, .ref (ad 14)), (1, .int x1), (2, .int x2)] rfl ?_; exact kt c
  · refine s_pick [1, 2, 3, 0] [(0, .ref (ad 14)), (1, .int x1), (2, .int x2), (3, .long v26)] rfl ?_; exact kf c
theorem bX3_settle_33 {l : Launch} {D : va_G} {aI aL : ClassId} {ad : Nat → Nat} {P : sa_P} {I : sa_I} {J : sa_J} {x1 : Int32} {x2 : Int32} {x3 : Int64} {j41 : Nat} (e41 : ((3 : Int32) * x1) + x2 = nI j41) (h42 : j41 < 9)  (k : Sat (EC l D aI aL ad) M_X3_settle P 44 [(0, .ref (ad 14)), (1, .int x1), (2, .int x2)] [.long x3, .long (J 15 j41)] I J) : Sat (EC l D aI aL ad) M_X3_settle P 33 [(0, .ref (ad 14)), (1, .int x1), (2, .int x2), (3, .long x3)] [] I J := by
  refine s_aload_n 0 dX3_settle_33 rfl ?_
  refine g_X3_9 dX3_settle_34 rfl ?_
  refine s_iconst (v := 3) dX3_settle_37 rfl ?_
  refine s_iload_n 1 dX3_settle_38 rfl ?_
  refine s_imul dX3_settle_39 ?_
  refine s_iload_n 2 dX3_settle_40 rfl ?_
  refine s_iadd dX3_settle_41 ?_
  refine s_eqi e41 ?_
  refine s_laloadN aJ_C15 h42 (by decide) dX3_settle_42 ?_
  refine s_lload_n 3 dX3_settle_43 rfl ?_
  refine s_pick [0, 1, 2] [(0, .ref (ad 14)), (1, .int x1), (2, .int x2)] rfl ?_; exact k
theorem bX3_settle_47 {l : Launch} {D : va_G} {aI aL : ClassId} {ad : Nat → Nat} {P : sa_P} {I : sa_I} {J : sa_J} {x1 : Int32} {x2 : Int32} {s0 : Int64} {v50 : Int32}  (f50 : (0 : Int32) = v50) (k : Sat (EC l D aI aL ad) M_X3_settle P 52 [(0, .ref (ad 14)), (1, .int x1), (2, .int x2), (5, .long s0), (7, .int v50)] [] I J) : Sat (EC l D aI aL ad) M_X3_settle P 47 [(0, .ref (ad 14)), (1, .int x1), (2, .int x2)] [.long s0] I J := by
  refine s_lstore [(5, .long s0), (0, .ref (ad 14)), (1, .int x1), (2, .int x2)] dX3_settle_47 (Nat.lt_of_lt_of_le (Nat.lt_succ_self _) (Nat.le_of_ble_eq_true rfl)) rfl ?_
  refine s_iconst (v := 0) dX3_settle_49 rfl ?_
  refine s_eqi f50 ?_
  refine s_istore [(7, .int v50), (5, .long s0), (0, .ref (ad 14)), (1, .int x1), (2, .int x2)] dX3_settle_50 (Nat.lt_of_lt_of_le (Nat.lt_succ_self _) (Nat.le_of_ble_eq_true rfl)) rfl ?_
  refine s_pick [2, 3, 4, 1, 0] [(0, .ref (ad 14)), (1, .int x1), (2, .int x2), (5, .long s0), (7, .int v50)] rfl ?_; exact k
theorem bX3_settle_52 {l : Launch} {D : va_G} {aI aL : ClassId} {ad : Nat → Nat} {P : sa_P} {I : sa_I} {J : sa_J} {x1 : Int32} {x2 : Int32} {x5 : Int64} {x7 : Int32}   (kt : x2 < x7 → Sat (EC l D aI aL ad) M_X3_settle P 92 [(0, .ref (ad 14)), (1, .int x1), (2, .int x2)] [] I J) (kf : ¬ x2 < x7 → Sat (EC l D aI aL ad) M_X3_settle P 58 [(0, .ref (ad 14)), (1, .int x1), (2, .int x2), (5, .long x5), (7, .int x7)] [] I J) : Sat (EC l D aI aL ad) M_X3_settle P 52 [(0, .ref (ad 14)), (1, .int x1), (2, .int x2), (5, .long x5), (7, .int x7)] [] I J := by
  refine s_iload 4 dX3_settle_52 rfl ?_
  refine s_iload_n 2 dX3_settle_54 rfl ?_
  refine s_icmp_gt (tgt := 92) dX3_settle_55 (by decide) (fun c => ?_) (fun c => ?_)
  · refine s_pick [0, 1, 2] [(0, .ref (ad 14)), (1, .int x1), (2, .int x2)] rfl ?_; exact kt c
  · exact kf c
theorem bX3_settle_58 {l : Launch} {D : va_G} {aI aL : ClassId} {ad : Nat → Nat} {P : sa_P} {I : sa_I} {J : sa_J} {x1 : Int32} {x2 : Int32} {x5 : Int64} {x7 : Int32} {j67 : Nat} {j81 : Nat} {v85 : Int64} {v86 : Int32} (e67 : ((3 : Int32) * x1) + x7 = nI j67) (h69 : j67 < 9) (e81 : ((3 : Int32) * x2) + x7 = nI j81) (h82 : j81 < 9) (h85 : j67 < 9) (f85 : (J 15 j67) - (x5 * (J 15 j81)) = v85) (f86 : x7 + 1 = v86) (k : Sat (EC l D aI aL ad) M_X3_settle P 52 [(0, .ref (ad 14)), (1, .int x1), (2, .int x2), (5, .long x5), (7, .int v86)] [] I (sa_uJ J 15 j67 v85)) : Sat (EC l D aI aL ad) M_X3_settle P 58 [(0, .ref (ad 14)), (1, .int x1), (2, .int x2), (5, .long x5), (7, .int x7)] [] I J := by
  refine s_aload_n 0 dX3_settle_58 rfl ?_
  refine g_X3_9 dX3_settle_59 rfl ?_
  refine s_iconst (v := 3) dX3_settle_62 rfl ?_
  refine s_iload_n 1 dX3_settle_63 rfl ?_
  refine s_imul dX3_settle_64 ?_
  refine s_iload 4 dX3_settle_65 rfl ?_
  refine s_iadd dX3_settle_67 ?_
  refine s_eqi e67 ?_
  refine s_dup2_11 dX3_settle_68 rfl rfl ?_
  refine s_laloadN aJ_C15 h69 (by decide) dX3_settle_69 ?_
  refine s_lload 3 dX3_settle_70 rfl ?_
  refine s_aload_n 0 dX3_settle_72 rfl ?_
  refine g_X3_9 dX3_settle_73 rfl ?_
  refine s_iconst (v := 3) dX3_settle_76 rfl ?_
  refine s_iload_n 2 dX3_settle_77 rfl ?_
  refine s_imul dX3_settle_78 ?_
  refine s_iload 4 dX3_settle_79 rfl ?_
  refine s_iadd dX3_settle_81 ?_
  refine s_eqi e81 ?_
  refine s_laloadN aJ_C15 h82 (by decide) dX3_settle_82 ?_
  refine s_lmul dX3_settle_83 ?_
  refine s_lsub dX3_settle_84 ?_
  refine s_eql f85 ?_
  refine s_lastoreN aJ_C15 h85 (by decide) dX3_settle_85 ?_
  refine s_iinc 4 v86 [(7, .int v86), (0, .ref (ad 14)), (1, .int x1), (2, .int x2), (5, .long x5)] dX3_settle_86 rfl f86 (Nat.lt_of_lt_of_le (Nat.lt_succ_self _) (Nat.le_of_ble_eq_true rfl)) rfl ?_
  refine s_goto (tgt := 52) dX3_settle_89 (by decide) ?_
  refine s_pick [1, 2, 3, 4, 0] [(0, .ref (ad 14)), (1, .int x1), (2, .int x2), (5, .long x5), (7, .int v86)] rfl ?_; exact k
theorem bX3_settle_92 {l : Launch} {D : va_G} {aI aL : ClassId} {ad : Nat → Nat} {P : sa_P} {I : sa_I} {J : sa_J} {x1 : Int32} {x2 : Int32} {v92 : Int32}  (f92 : x2 + (-1) = v92) (k : Sat (EC l D aI aL ad) M_X3_settle P 14 [(0, .ref (ad 14)), (1, .int x1), (2, .int v92)] [] I J) : Sat (EC l D aI aL ad) M_X3_settle P 92 [(0, .ref (ad 14)), (1, .int x1), (2, .int x2)] [] I J := by
  refine s_iinc 2 v92 [(2, .int v92), (0, .ref (ad 14)), (1, .int x1)] dX3_settle_92 rfl f92 (Nat.lt_of_lt_of_le (Nat.lt_succ_self _) (Nat.le_of_ble_eq_true rfl)) rfl ?_
  refine s_goto (tgt := 14) dX3_settle_95 (by decide) ?_
  refine s_pick [1, 2, 0] [(0, .ref (ad 14)), (1, .int x1), (2, .int v92)] rfl ?_; exact k
theorem bX3_settle_98 {l : Launch} {D : va_G} {aI aL : ClassId} {ad : Nat → Nat} {P : sa_P} {I : sa_I} {J : sa_J} {x1 : Int32} {v98 : Int32}  (f98 : x1 + 1 = v98) (k : Sat (EC l D aI aL ad) M_X3_settle P 2 [(0, .ref (ad 14)), (1, .int v98)] [] I J) : Sat (EC l D aI aL ad) M_X3_settle P 98 [(0, .ref (ad 14)), (1, .int x1)] [] I J := by
  refine s_iinc 1 v98 [(1, .int v98), (0, .ref (ad 14))] dX3_settle_98 rfl f98 (Nat.lt_of_lt_of_le (Nat.lt_succ_self _) (Nat.le_of_ble_eq_true rfl)) rfl ?_
  refine s_goto (tgt := 2) dX3_settle_101 (by decide) ?_
  refine s_pick [1, 0] [(0, .ref (ad 14)), (1, .int v98)] rfl ?_; exact k
theorem bX3_settle_104 {l : Launch} {D : va_G} {aI aL : ClassId} {ad : Nat → Nat} {P : sa_P} {I : sa_I} {J : sa_J}    (k : P (none) I J) : Sat (EC l D aI aL ad) M_X3_settle P 104 [] [] I J := by
  exact s_vret rfl dX3_settle_104 k
