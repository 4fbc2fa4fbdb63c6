/-! X7_element -/
theorem dX7_element_0 : decode cX7_element 0 = .ok (.aload_n 0, 1) := by decide +kernel
theorem dX7_element_1 : decode cX7_element 1 = .ok (.invokevirtual 203, 3) := by decide +kernel
theorem dX7_element_4 : decode cX7_element 4 = .ok (.ifCond .ne 10, 3) := by decide +kernel
theorem dX7_element_7 : decode cX7_element 7 = .ok (.aload_n 0, 1) := by decide +kernel
theorem dX7_element_8 : decode cX7_element 8 = .ok (.bipush (-3), 2) := by decide +kernel
theorem dX7_element_10 : decode cX7_element 10 = .ok (.invokevirtual 84, 3) := by decide +kernel
theorem dX7_element_13 : decode cX7_element 13 = .ok (.ireturn, 1) := by decide +kernel
theorem dX7_element_14 : decode cX7_element 14 = .ok (.aload_n 0, 1) := by decide +kernel
theorem dX7_element_15 : decode cX7_element 15 = .ok (.getfield 101, 3) := by decide +kernel
theorem dX7_element_18 : decode cX7_element 18 = .ok (.iconst 2, 1) := by decide +kernel
theorem dX7_element_19 : decode cX7_element 19 = .ok (.if_icmp .ne 15, 3) := by decide +kernel
theorem dX7_element_22 : decode cX7_element 22 = .ok (.iload_n 3, 1) := by decide +kernel
theorem dX7_element_23 : decode cX7_element 23 = .ok (.ifCond .eq 11, 3) := by decide +kernel
theorem dX7_element_26 : decode cX7_element 26 = .ok (.aload_n 0, 1) := by decide +kernel
theorem dX7_element_27 : decode cX7_element 27 = .ok (.iconst (-1), 1) := by decide +kernel
theorem dX7_element_28 : decode cX7_element 28 = .ok (.invokevirtual 84, 3) := by decide +kernel
theorem dX7_element_31 : decode cX7_element 31 = .ok (.goto 13, 3) := by decide +kernel
theorem dX7_element_34 : decode cX7_element 34 = .ok (.aload_n 0, 1) := by decide +kernel
theorem dX7_element_35 : decode cX7_element 35 = .ok (.iload_n 1, 1) := by decide +kernel
theorem dX7_element_36 : decode cX7_element 36 = .ok (.i2l, 1) := by decide +kernel
theorem dX7_element_37 : decode cX7_element 37 = .ok (.iload_n 2, 1) := by decide +kernel
theorem dX7_element_38 : decode cX7_element 38 = .ok (.i2l, 1) := by decide +kernel
theorem dX7_element_39 : decode cX7_element 39 = .ok (.iload_n 3, 1) := by decide +kernel
theorem dX7_element_40 : decode cX7_element 40 = .ok (.i2l, 1) := by decide +kernel
theorem dX7_element_41 : decode cX7_element 41 = .ok (.invokevirtual 221, 3) := by decide +kernel
theorem dX7_element_44 : decode cX7_element 44 = .ok (.ireturn, 1) := by decide +kernel
theorem bX7_element_0 {l : Launch} {D : va_G} {aI aL : ClassId} {ad : Nat → Nat} {P : sa_P} {I : sa_I} {J : sa_J} {x1 : Int32} {x2 : Int32} {x3 : Int32}   (k : Sat (ER l D aI aL ad) M_X7_element P 1 [(0, .ref (ad 0)), (1, .int x1), (2, .int x2), (3, .int x3)] [.ref (ad 0)] I J) : Sat (ER l D aI aL ad) M_X7_element P 0 [(0, .ref (ad 0)), (1, .int x1), (2, .int x2), (3, .int x3)] [] I J := by
  refine s_aload_n 0 dX7_element_0 rfl ?_
  exact k
theorem bX7_element_4 {l : Launch} {D : va_G} {aI aL : ClassId} {ad : Nat → Nat} {P : sa_P} {I : sa_I} {J : sa_J} {x1 : Int32} {x2 : Int32} {x3 : Int32} {s0 : Int32}   (kt : ¬ s0 = 0 → Sat (ER l D aI aL ad) M_X7_element P 14 [(0, .ref (ad 0)), (1, .int x1), (2, .int x2), (3, .int x3)] [] I J) (kf : s0 = 0 → Sat (ER l D aI aL ad) M_X7_element P 7 [(0, .ref (ad 0))] [] I J) : Sat (ER l D aI aL ad) M_X7_element P 4 [(0, .ref (ad 0)), (1, .int x1), (2, .int x2), (3, .int x3)] [.int s0] I J := by
  refine s_if_ne (tgt := 14) dX7_element_4 (by decide) (fun c => ?_) (fun c => ?_)
  · exact kt c
  · refine s_pick [0] [(0, .ref (ad 0))] rfl ?_; exact kf (by first | exact c | exact Classical.not_not.mp c)
theorem bX7_element_7 {l : Launch} {D : va_G} {aI aL : ClassId} {ad : Nat → Nat} {P : sa_P} {I : sa_I} {J : sa_J}    (k : Sat (ER l D aI aL ad) M_X7_element P 10 [] [.int (-3 : Int32), .ref (ad 0)] I J) : Sat (ER l D aI aL ad) M_X7_element P 7 [(0, .ref (ad 0))] [] I J := by
  refine s_aload_n 0 dX7_element_7 rfl ?_
  refine s_bipush (v := -3) dX7_element_8 rfl ?_
  refine s_pick [] [] rfl ?_; exact k
theorem bX7_element_13 {l : Launch} {D : va_G} {aI aL : ClassId} {ad : Nat → Nat} {P : sa_P} {I : sa_I} {J : sa_J} {s0 : Int32}   (k : P (some (.int s0)) I J) : Sat (ER l D aI aL ad) M_X7_element P 13 [] [.int s0] I J := by
  exact s_iret rfl dX7_element_13 k
theorem bX7_element_14 {l : Launch} {D : va_G} {aI aL : ClassId} {ad : Nat → Nat} {P : sa_P} {I : sa_I} {J : sa_J} {x1 : Int32} {x2 : Int32} {x3 : Int32}   (kt : ¬ I 0 1 = (2 : Int32) → Sat (ER l D aI aL ad) M_X7_element P 34 [(0, .ref (ad 0)), (1, .int x1), (2, .int x2), (3, .int x3)] [] I J) (kf : I 0 1 = (2 : Int32) → Sat (ER l D aI aL ad) M_X7_element P 22 [(0, .ref (ad 0)), (1, .int x1), (2, .int x2), (3, .int x3)] [] I J) : Sat (ER l D aI aL ad) M_X7_element P 14 [(0, .ref (ad 0)), (1, .int x1), (2, .int x2), (3, .int x3)] [] I J := by
  refine s_aload_n 0 dX7_element_14 rfl ?_
  refine g_X7_101 dX7_element_15 rfl ?_
  refine s_iconst (v := 2) dX7_element_18 rfl ?_
  refine s_icmp_ne (tgt := 34) dX7_element_19 (by decide) (fun c => ?_) (fun c => ?_)
  · exact kt c
  · exact kf (by first | exact c | exact Classical.not_not.mp c)
theorem bX7_element_22 {l : Launch} {D : va_G} {aI aL : ClassId} {ad : Nat → Nat} {P : sa_P} {I : sa_I} {J : sa_J} {x1 : Int32} {x2 : Int32} {x3 : Int32}   (kt : x3 = 0 → Sat (ER l D aI aL ad) M_X7_element P 34 [(0, .ref (ad 0)), (1, .int x1), (2, .int x2), (3, .int x3)] [] I J) (kf : ¬ x3 = 0 → Sat (ER l D aI aL ad) M_X7_element P 26 [(0, .ref (ad 0))] [] I J) : Sat (ER l D aI aL ad) M_X7_element P 22 [(0, .ref (ad 0)), (1, .int x1), (2, .int x2), (3, .int x3)] [] I J := by
  refine s_iload_n 3 dX7_element_22 rfl ?_
  refine s_if_eq (tgt := 34) dX7_element_23 (by decide) (fun c => ?_) (fun c => ?_)
  · exact kt c
  · refine s_pick [0] [(0, .ref (ad 0))] rfl ?_; exact kf c
theorem bX7_element_26 {l : Launch} {D : va_G} {aI aL : ClassId} {ad : Nat → Nat} {P : sa_P} {I : sa_I} {J : sa_J}    (k : Sat (ER l D aI aL ad) M_X7_element P 28 [] [.int (-1 : Int32), .ref (ad 0)] I J) : Sat (ER l D aI aL ad) M_X7_element P 26 [(0, .ref (ad 0))] [] I J := by
  refine s_aload_n 0 dX7_element_26 rfl ?_
  refine s_iconst (v := -1) dX7_element_27 rfl ?_
  refine s_pick [] [] rfl ?_; exact k
theorem bX7_element_31 {l : Launch} {D : va_G} {aI aL : ClassId} {ad : Nat → Nat} {P : sa_P} {I : sa_I} {J : sa_J} {s0 : Int32}   (k : Sat (ER l D aI aL ad) M_X7_element P 44 [] [.int s0] I J) : Sat (ER l D aI aL ad) M_X7_element P 31 [] [.int s0] I J := by
  refine s_goto (tgt := 44) dX7_element_31 (by decide) ?_
  exact k
theorem bX7_element_34 {l : Launch} {D : va_G} {aI aL : ClassId} {ad : Nat → Nat} {P : sa_P} {I : sa_I} {J : sa_J} {x1 : Int32} {x2 : Int32} {x3 : Int32}   (k : Sat (ER l D aI aL ad) M_X7_element P 41 [] [.long x3.toInt64, .long x2.toInt64, .long x1.toInt64, .ref (ad 0)] I J) : Sat (ER l D aI aL ad) M_X7_element P 34 [(0, .ref (ad 0)), (1, .int x1), (2, .int x2), (3, .int x3)] [] I J := by
  refine s_aload_n 0 dX7_element_34 rfl ?_
  refine s_iload_n 1 dX7_element_35 rfl ?_
  refine s_i2l dX7_element_36 ?_
  refine s_iload_n 2 dX7_element_37 rfl ?_
  refine s_i2l dX7_element_38 ?_
  refine s_iload_n 3 dX7_element_39 rfl ?_
  refine s_i2l dX7_element_40 ?_
  refine s_pick [] [] rfl ?_; exact k
theorem bX7_element_44 {l : Launch} {D : va_G} {aI aL : ClassId} {ad : Nat → Nat} {P : sa_P} {I : sa_I} {J : sa_J} {s0 : Int32}   (k : P (some (.int s0)) I J) : Sat (ER l D aI aL ad) M_X7_element P 44 [] [.int s0] I J := by
  exact s_iret rfl dX7_element_44 k
/-! X7_divide -/
theorem dX7_divide_0 : decode cX7_divide 0 = .ok (.aload_n 0, 1) := by decide +kernel
theorem dX7_divide_1 : decode cX7_divide 1 = .ok (.aload_n 0, 1) := by decide +kernel
theorem dX7_divide_2 : decode cX7_divide 2 = .ok (.getfield 41, 3) := by decide +kernel
theorem dX7_divide_5 : decode cX7_divide 5 = .ok (.invokevirtual 225, 3) := by decide +kernel
theorem dX7_divide_8 : decode cX7_divide 8 = .ok (.aload_n 0, 1) := by decide +kernel
theorem dX7_divide_9 : decode cX7_divide 9 = .ok (.invokevirtual 193, 3) := by decide +kernel
theorem dX7_divide_12 : decode cX7_divide 12 = .ok (.lstore_n 1, 1) := by decide +kernel
theorem dX7_divide_13 : decode cX7_divide 13 = .ok (.lload_n 1, 1) := by decide +kernel
theorem dX7_divide_14 : decode cX7_divide 14 = .ok (.lconst 0, 1) := by decide +kernel
theorem dX7_divide_15 : decode cX7_divide 15 = .ok (.lcmp, 1) := by decide +kernel
theorem dX7_divide_16 : decode cX7_divide 16 = .ok (.ifCond .ne 5, 3) := by decide +kernel
theorem dX7_divide_19 : decode cX7_divide 19 = .ok (.iconst 0, 1) := by decide +kernel
theorem dX7_divide_20 : decode cX7_divide 20 = .ok (.ireturn, 1) := by decide +kernel
theorem dX7_divide_21 : decode cX7_divide 21 = .ok (.aload_n 0, 1) := by decide +kernel
theorem dX7_divide_22 : decode cX7_divide 22 = .ok (.invokevirtual 189, 3) := by decide +kernel
theorem dX7_divide_25 : decode cX7_divide 25 = .ok (.lstore_n 3, 1) := by decide +kernel
theorem dX7_divide_26 : decode cX7_divide 26 = .ok (.aload_n 0, 1) := by decide +kernel
theorem dX7_divide_27 : decode cX7_divide 27 = .ok (.invokevirtual 196, 3) := by decide +kernel
theorem dX7_divide_30 : decode cX7_divide 30 = .ok (.lstore 5, 2) := by decide +kernel
theorem dX7_divide_32 : decode cX7_divide 32 = .ok (.aload_n 0, 1) := by decide +kernel
theorem dX7_divide_33 : decode cX7_divide 33 = .ok (.getfield 38, 3) := by decide +kernel
theorem dX7_divide_36 : decode cX7_divide 36 = .ok (.iconst 0, 1) := by decide +kernel
theorem dX7_divide_37 : decode cX7_divide 37 = .ok (.laload, 1) := by decide +kernel
theorem dX7_divide_38 : decode cX7_divide 38 = .ok (.lstore 7, 2) := by decide +kernel
theorem dX7_divide_40 : decode cX7_divide 40 = .ok (.aload_n 0, 1) := by decide +kernel
theorem dX7_divide_41 : decode cX7_divide 41 = .ok (.getfield 38, 3) := by decide +kernel
theorem dX7_divide_44 : decode cX7_divide 44 = .ok (.iconst 1, 1) := by decide +kernel
theorem dX7_divide_45 : decode cX7_divide 45 = .ok (.laload, 1) := by decide +kernel
theorem dX7_divide_46 : decode cX7_divide 46 = .ok (.lstore 9, 2) := by decide +kernel
theorem dX7_divide_48 : decode cX7_divide 48 = .ok (.aload_n 0, 1) := by decide +kernel
theorem dX7_divide_49 : decode cX7_divide 49 = .ok (.getfield 38, 3) := by decide +kernel
theorem dX7_divide_52 : decode cX7_divide 52 = .ok (.iconst 2, 1) := by decide +kernel
theorem dX7_divide_53 : decode cX7_divide 53 = .ok (.laload, 1) := by decide +kernel
theorem dX7_divide_54 : decode cX7_divide 54 = .ok (.lstore 11, 2) := by decide +kernel
theorem dX7_divide_56 : decode cX7_divide 56 = .ok (.aload_n 0, 1) := by decide +kernel
theorem dX7_divide_57 : decode cX7_divide 57 = .ok (.getfield 101, 3) := by decide +kernel
theorem dX7_divide_60 : decode cX7_divide 60 = .ok (.iconst 2, 1) := by decide +kernel
theorem dX7_divide_61 : decode cX7_divide 61 = .ok (.if_icmp .ne 33, 3) := by decide +kernel
theorem dX7_divide_64 : decode cX7_divide 64 = .ok (.aload_n 0, 1) := by decide +kernel
theorem dX7_divide_65 : decode cX7_divide 65 = .ok (.getfield 41, 3) := by decide +kernel
theorem dX7_divide_68 : decode cX7_divide 68 = .ok (.iconst 0, 1) := by decide +kernel
theorem dX7_divide_69 : decode cX7_divide 69 = .ok (.lload_n 3, 1) := by decide +kernel
theorem dX7_divide_70 : decode cX7_divide 70 = .ok (.aload_n 0, 1) := by decide +kernel
theorem dX7_divide_71 : decode cX7_divide 71 = .ok (.getfield 41, 3) := by decide +kernel
theorem dX7_divide_74 : decode cX7_divide 74 = .ok (.iconst 0, 1) := by decide +kernel
theorem dX7_divide_75 : decode cX7_divide 75 = .ok (.laload, 1) := by decide +kernel
theorem dX7_divide_76 : decode cX7_divide 76 = .ok (.lsub, 1) := by decide +kernel
theorem dX7_divide_77 : decode cX7_divide 77 = .ok (.lastore, 1) := by decide +kernel
theorem dX7_divide_78 : decode cX7_divide 78 = .ok (.aload_n 0, 1) := by decide +kernel
theorem dX7_divide_79 : decode cX7_divide 79 = .ok (.getfield 41, 3) := by decide +kernel
theorem dX7_divide_82 : decode cX7_divide 82 = .ok (.iconst 1, 1) := by decide +kernel
theorem dX7_divide_83 : decode cX7_divide 83 = .ok (.aload_n 0, 1) := by decide +kernel
theorem dX7_divide_84 : decode cX7_divide 84 = .ok (.getfield 41, 3) := by decide +kernel
theorem dX7_divide_87 : decode cX7_divide 87 = .ok (.iconst 1, 1) := by decide +kernel
theorem dX7_divide_88 : decode cX7_divide 88 = .ok (.laload, 1) := by decide +kernel
theorem dX7_divide_89 : decode cX7_divide 89 = .ok (.lneg, 1) := by decide +kernel
theorem dX7_divide_90 : decode cX7_divide 90 = .ok (.lastore, 1) := by decide +kernel
theorem dX7_divide_91 : decode cX7_divide 91 = .ok (.goto 87, 3) := by decide +kernel
theorem dX7_divide_94 : decode cX7_divide 94 = .ok (.iconst 0, 1) := by decide +kernel
theorem dX7_divide_95 : decode cX7_divide 95 = .ok (.istore 13, 2) := by decide +kernel
theorem dX7_divide_97 : decode cX7_divide 97 = .ok (.iload 13, 2) := by decide +kernel
theorem dX7_divide_99 : decode cX7_divide 99 = .ok (.iconst 3, 1) := by decide +kernel
theorem dX7_divide_100 : decode cX7_divide 100 = .ok (.if_icmp .ge 23, 3) := by decide +kernel
theorem dX7_divide_103 : decode cX7_divide 103 = .ok (.aload_n 0, 1) := by decide +kernel
theorem dX7_divide_104 : decode cX7_divide 104 = .ok (.getfield 38, 3) := by decide +kernel
theorem dX7_divide_107 : decode cX7_divide 107 = .ok (.iload 13, 2) := by decide +kernel
theorem dX7_divide_109 : decode cX7_divide 109 = .ok (.aload_n 0, 1) := by decide +kernel
theorem dX7_divide_110 : decode cX7_divide 110 = .ok (.getfield 41, 3) := by decide +kernel
theorem dX7_divide_113 : decode cX7_divide 113 = .ok (.iload 13, 2) := by decide +kernel
theorem dX7_divide_115 : decode cX7_divide 115 = .ok (.laload, 1) := by decide +kernel
theorem dX7_divide_116 : decode cX7_divide 116 = .ok (.lastore, 1) := by decide +kernel
theorem dX7_divide_117 : decode cX7_divide 117 = .ok (.iinc 13 1, 3) := by decide +kernel
theorem dX7_divide_120 : decode cX7_divide 120 = .ok (.goto (-23), 3) := by decide +kernel
theorem dX7_divide_123 : decode cX7_divide 123 = .ok (.aload_n 0, 1) := by decide +kernel
theorem dX7_divide_124 : decode cX7_divide 124 = .ok (.invokevirtual 229, 3) := by decide +kernel
theorem dX7_divide_127 : decode cX7_divide 127 = .ok (.iconst 0, 1) := by decide +kernel
theorem dX7_divide_128 : decode cX7_divide 128 = .ok (.istore 13, 2) := by decide +kernel
theorem dX7_divide_130 : decode cX7_divide 130 = .ok (.iload 13, 2) := by decide +kernel
theorem dX7_divide_132 : decode cX7_divide 132 = .ok (.iconst 3, 1) := by decide +kernel
theorem dX7_divide_133 : decode cX7_divide 133 = .ok (.if_icmp .ge 45, 3) := by decide +kernel
theorem dX7_divide_136 : decode cX7_divide 136 = .ok (.aload_n 0, 1) := by decide +kernel
theorem dX7_divide_137 : decode cX7_divide 137 = .ok (.getfield 41, 3) := by decide +kernel
theorem dX7_divide_140 : decode cX7_divide 140 = .ok (.iload 13, 2) := by decide +kernel
theorem dX7_divide_142 : decode cX7_divide 142 = .ok (.aload_n 0, 1) := by decide +kernel
theorem dX7_divide_143 : decode cX7_divide 143 = .ok (.getfield 44, 3) := by decide +kernel
theorem dX7_divide_146 : decode cX7_divide 146 = .ok (.iload 13, 2) := by decide +kernel
theorem dX7_divide_148 : decode cX7_divide 148 = .ok (.laload, 1) := by decide +kernel
theorem dX7_divide_149 : decode cX7_divide 149 = .ok (.lload_n 3, 1) := by decide +kernel
theorem dX7_divide_150 : decode cX7_divide 150 = .ok (.aload_n 0, 1) := by decide +kernel
theorem dX7_divide_151 : decode cX7_divide 151 = .ok (.getfield 41, 3) := by decide +kernel
theorem dX7_divide_154 : decode cX7_divide 154 = .ok (.iload 13, 2) := by decide +kernel
theorem dX7_divide_156 : decode cX7_divide 156 = .ok (.laload, 1) := by decide +kernel
theorem dX7_divide_157 : decode cX7_divide 157 = .ok (.lmul, 1) := by decide +kernel
theorem dX7_divide_158 : decode cX7_divide 158 = .ok (.lsub, 1) := by decide +kernel
theorem dX7_divide_159 : decode cX7_divide 159 = .ok (.iload 13, 2) := by decide +kernel
theorem dX7_divide_161 : decode cX7_divide 161 = .ok (.ifCond .ne 8, 3) := by decide +kernel
theorem dX7_divide_164 : decode cX7_divide 164 = .ok (.lload 5, 2) := by decide +kernel
theorem dX7_divide_166 : decode cX7_divide 166 = .ok (.goto 4, 3) := by decide +kernel
theorem dX7_divide_169 : decode cX7_divide 169 = .ok (.lconst 0, 1) := by decide +kernel
theorem dX7_divide_170 : decode cX7_divide 170 = .ok (.ladd, 1) := by decide +kernel
theorem dX7_divide_171 : decode cX7_divide 171 = .ok (.lastore, 1) := by decide +kernel
theorem dX7_divide_172 : decode cX7_divide 172 = .ok (.iinc 13 1, 3) := by decide +kernel
theorem dX7_divide_175 : decode cX7_divide 175 = .ok (.goto (-45), 3) := by decide +kernel
theorem dX7_divide_178 : decode cX7_divide 178 = .ok (.aload_n 0, 1) := by decide +kernel
theorem dX7_divide_179 : decode cX7_divide 179 = .ok (.getfield 38, 3) := by decide +kernel
theorem dX7_divide_182 : decode cX7_divide 182 = .ok (.iconst 0, 1) := by decide +kernel
theorem dX7_divide_183 : decode cX7_divide 183 = .ok (.lload 7, 2) := by decide +kernel
theorem dX7_divide_185 : decode cX7_divide 185 = .ok (.lastore, 1) := by decide +kernel
theorem dX7_divide_186 : decode cX7_divide 186 = .ok (.aload_n 0, 1) := by decide +kernel
theorem dX7_divide_187 : decode cX7_divide 187 = .ok (.getfield 38, 3) := by decide +kernel
theorem dX7_divide_190 : decode cX7_divide 190 = .ok (.iconst 1, 1) := by decide +kernel
theorem dX7_divide_191 : decode cX7_divide 191 = .ok (.lload 9, 2) := by decide +kernel
theorem dX7_divide_193 : decode cX7_divide 193 = .ok (.lastore, 1) := by decide +kernel
theorem dX7_divide_194 : decode cX7_divide 194 = .ok (.aload_n 0, 1) := by decide +kernel
theorem dX7_divide_195 : decode cX7_divide 195 = .ok (.getfield 38, 3) := by decide +kernel
theorem dX7_divide_198 : decode cX7_divide 198 = .ok (.iconst 2, 1) := by decide +kernel
theorem dX7_divide_199 : decode cX7_divide 199 = .ok (.lload 11, 2) := by decide +kernel
theorem dX7_divide_201 : decode cX7_divide 201 = .ok (.lastore, 1) := by decide +kernel
theorem dX7_divide_202 : decode cX7_divide 202 = .ok (.aload_n 0, 1) := by decide +kernel
theorem dX7_divide_203 : decode cX7_divide 203 = .ok (.invokevirtual 229, 3) := by decide +kernel
theorem dX7_divide_206 : decode cX7_divide 206 = .ok (.iconst 1, 1) := by decide +kernel
theorem dX7_divide_207 : decode cX7_divide 207 = .ok (.istore 13, 2) := by decide +kernel
theorem dX7_divide_209 : decode cX7_divide 209 = .ok (.iconst 0, 1) := by decide +kernel
theorem dX7_divide_210 : decode cX7_divide 210 = .ok (.istore 14, 2) := by decide +kernel
theorem dX7_divide_212 : decode cX7_divide 212 = .ok (.iload 14, 2) := by decide +kernel
theorem dX7_divide_214 : decode cX7_divide 214 = .ok (.aload_n 0, 1) := by decide +kernel
theorem dX7_divide_215 : decode cX7_divide 215 = .ok (.getfield 101, 3) := by decide +kernel
theorem dX7_divide_218 : decode cX7_divide 218 = .ok (.if_icmp .ge 46, 3) := by decide +kernel
theorem dX7_divide_221 : decode cX7_divide 221 = .ok (.iload 13, 2) := by decide +kernel
theorem dX7_divide_223 : decode cX7_divide 223 = .ok (.ifCond .eq 21, 3) := by decide +kernel
theorem dX7_divide_226 : decode cX7_divide 226 = .ok (.aload_n 0, 1) := by decide +kernel
theorem dX7_divide_227 : decode cX7_divide 227 = .ok (.getfield 44, 3) := by decide +kernel
theorem dX7_divide_230 : decode cX7_divide 230 = .ok (.iload 14, 2) := by decide +kernel
theorem dX7_divide_232 : decode cX7_divide 232 = .ok (.laload, 1) := by decide +kernel
theorem dX7_divide_233 : decode cX7_divide 233 = .ok (.lload_n 1, 1) := by decide +kernel
theorem dX7_divide_234 : decode cX7_divide 234 = .ok (.lrem, 1) := by decide +kernel
theorem dX7_divide_235 : decode cX7_divide 235 = .ok (.lconst 0, 1) := by decide +kernel
theorem dX7_divide_236 : decode cX7_divide 236 = .ok (.lcmp, 1) := by decide +kernel
theorem dX7_divide_237 : decode cX7_divide 237 = .ok (.ifCond .ne 7, 3) := by decide +kernel
theorem dX7_divide_240 : decode cX7_divide 240 = .ok (.iconst 1, 1) := by decide +kernel
theorem dX7_divide_241 : decode cX7_divide 241 = .ok (.goto 4, 3) := by decide +kernel
theorem dX7_divide_244 : decode cX7_divide 244 = .ok (.iconst 0, 1) := by decide +kernel
theorem dX7_divide_245 : decode cX7_divide 245 = .ok (.istore 13, 2) := by decide +kernel
theorem dX7_divide_247 : decode cX7_divide 247 = .ok (.aload_n 0, 1) := by decide +kernel
theorem dX7_divide_248 : decode cX7_divide 248 = .ok (.getfield 44, 3) := by decide +kernel
theorem dX7_divide_251 : decode cX7_divide 251 = .ok (.iload 14, 2) := by decide +kernel
theorem dX7_divide_253 : decode cX7_divide 253 = .ok (.dup2, 1) := by decide +kernel
theorem dX7_divide_254 : decode cX7_divide 254 = .ok (.laload, 1) := by decide +kernel
theorem dX7_divide_255 : decode cX7_divide 255 = .ok (.lload_n 1, 1) := by decide +kernel
theorem dX7_divide_256 : decode cX7_divide 256 = .ok (.ldiv, 1) := by decide +kernel
theorem dX7_divide_257 : decode cX7_divide 257 = .ok (.lastore, 1) := by decide +kernel
theorem dX7_divide_258 : decode cX7_divide 258 = .ok (.iinc 14 1, 3) := by decide +kernel
theorem dX7_divide_261 : decode cX7_divide 261 = .ok (.goto (-49), 3) := by decide +kernel
theorem dX7_divide_264 : decode cX7_divide 264 = .ok (.iload 13, 2) := by decide +kernel
theorem dX7_divide_266 : decode cX7_divide 266 = .ok (.ireturn, 1) := by decide +kernel
theorem bX7_divide_0 {l : Launch} {D : va_G} {aI aL : ClassId} {ad : Nat → Nat} {P : sa_P} {I : sa_I} {J : sa_J}    (k : Sat (ER l D aI aL ad) M_X7_divide P 5 [(0, .ref (ad 0))] [.ref (ad 11), .ref (ad 0)] I J) : Sat (ER l D aI aL ad) M_X7_divide P 0 [(0, .ref (ad 0))] [] I J := by
  refine s_aload_n 0 dX7_divide_0 rfl ?_
  refine s_aload_n 0 dX7_divide_1 rfl ?_
  refine g_X7_41 dX7_divide_2 rfl ?_
  exact k
theorem bX7_divide_8 {l : Launch} {D : va_G} {aI aL : ClassId} {ad : Nat → Nat} {P : sa_P} {I : sa_I} {J : sa_J}    (k : Sat (ER l D aI aL ad) M_X7_divide P 9 [(0, .ref (ad 0))] [.ref (ad 0)] I J) : Sat (ER l D aI aL ad) M_X7_divide P 8 [(0, .ref (ad 0))] [] I J := by
  refine s_aload_n 0 dX7_divide_8 rfl ?_
  exact k
theorem bX7_divide_12 {l : Launch} {D : va_G} {aI aL : ClassId} {ad : Nat → Nat} {P : sa_P} {I : sa_I} {J : sa_J} {s0 : Int64}   (kt : ¬ s0 = (0 : Int64) → Sat (ER l D aI aL ad) M_X7_divide P 21 [(0, .ref (ad 0)), (1, .long s0)] [] I J) (kf : s0 = (0 : Int64) → Sat (ER l D aI aL ad) M_X7_divide P 19 [] [] I J) : Sat (ER l D aI aL ad) M_X7_divide P 12 [(0, .ref (ad 0))] [.long s0] I J := by
  refine s_lstore_n [(1, .long s0), (0, .ref (ad 0))] dX7_divide_12 (Nat.lt_of_lt_of_le (Nat.lt_succ_self _) (Nat.le_of_ble_eq_true rfl)) rfl ?_
  refine s_lload_n 0 dX7_divide_13 rfl ?_
  refine s_lconst (v := 0) dX7_divide_14 rfl ?_
  refine s_lif_ne (tgt := 21) dX7_divide_15 dX7_divide_16 (by decide) (fun c => ?_) (fun c => ?_)
  · refine s_pick [1, 0] [(0, .ref (ad 0)), (1, .long s0)] rfl ?_; exact kt c
  · refine s_pick [] [] rfl ?_; exact kf (by first | exact c | exact Classical.not_not.mp c)
theorem bX7_divide_19 {l : Launch} {D : va_G} {aI aL : ClassId} {ad : Nat → Nat} {P : sa_P} {I : sa_I} {J : sa_J}    (k : P (some (.int (0 : Int32))) I J) : Sat (ER l D aI aL ad) M_X7_divide P 19 [] [] I J := by
  refine s_iconst (v := 0) dX7_divide_19 rfl ?_
  exact s_zret rfl rfl dX7_divide_20 k
theorem bX7_divide_21 {l : Launch} {D : va_G} {aI aL : ClassId} {ad : Nat → Nat} {P : sa_P} {I : sa_I} {J : sa_J} {x1 : Int64}   (k : Sat (ER l D aI aL ad) M_X7_divide P 22 [(0, .ref (ad 0)), (1, .long x1)] [.ref (ad 0)] I J) : Sat (ER l D aI aL ad) M_X7_divide P 21 [(0, .ref (ad 0)), (1, .long x1)] [] I J := by
  refine s_aload_n 0 dX7_divide_21 rfl ?_
  exact k
theorem bX7_divide_25 {l : Launch} {D : va_G} {aI aL : ClassId} {ad : Nat → Nat} {P : sa_P} {I : sa_I} {J : sa_J} {x1 : Int64} {s0 : Int64}   (k : Sat (ER l D aI aL ad) M_X7_divide P 27 [(0, .ref (ad 0)), (1, .long x1), (3, .long s0)] [.ref (ad 0)] I J) : Sat (ER l D aI aL ad) M_X7_divide P 25 [(0, .ref (ad 0)), (1, .long x1)] [.long s0] I J := by
  refine s_lstore_n [(3, .long s0), (0, .ref (ad 0)), (1, .long x1)] dX7_divide_25 (Nat.lt_of_lt_of_le (Nat.lt_succ_self _) (Nat.le_of_ble_eq_true rfl)) rfl ?_
  refine s_aload_n 1 dX7_divide_26 rfl ?_
  refine s_pick [1, 2, 0] [(0, .ref (ad 0)), (1, .long x1), (3, .long s0)] rfl ?_; exact k
theorem bX7_divide_30 {l : Launch} {D : va_G} {aI aL : ClassId} {ad : Nat → Nat} {P : sa_P} {I : sa_I} {J : sa_J} {x1 : Int64} {x3 : Int64} {s0 : Int64} {v38 : Int64} {v46 : Int64} {v54 : Int64}  (f38 : J 10 0 = v38) (f46 : J 10 1 = v46) (f54 : J 10 2 = v54) (kt : ¬ I 0 1 = (2 : Int32) → Sat (ER l D aI aL ad) M_X7_divide P 94 [(0, .ref (ad 0)), (1, .long x1), (3, .long x3), (5, .long s0), (7, .long v38), (9, .long v46), (11, .long v54)] [] I J) (kf : I 0 1 = (2 : Int32) → Sat (ER l D aI aL ad) M_X7_divide P 64 [(0, .ref (ad 0)), (1, .long x1), (3, .long x3), (7, .long v38), (9, .long v46), (11, .long v54)] [] I J) : Sat (ER l D aI aL ad) M_X7_divide P 30 [(0, .ref (ad 0)), (1, .long x1), (3, .long x3)] [.long s0] I J := by
  refine s_lstore [(5, .long s0), (0, .ref (ad 0)), (1, .long x1), (3, .long x3)] dX7_divide_30 (Nat.lt_of_lt_of_le (Nat.lt_succ_self _) (Nat.le_of_ble_eq_true rfl)) rfl ?_
  refine s_aload_n 1 dX7_divide_32 rfl ?_
  refine g_X7_38 dX7_divide_33 rfl ?_
  refine s_iconst (v := 0) dX7_divide_36 rfl ?_
  refine s_eqi (y := nI 0) rfl ?_
  refine s_laloadN aJ_R10 (by decide) (by decide) dX7_divide_37 ?_
  refine s_eql f38 ?_
  refine s_lstore [(7, .long v38), (5, .long s0), (0, .ref (ad 0)), (1, .long x1), (3, .long x3)] dX7_divide_38 (Nat.lt_of_lt_of_le (Nat.lt_succ_self _) (Nat.le_of_ble_eq_true rfl)) rfl ?_
  refine s_aload_n 2 dX7_divide_40 rfl ?_
  refine g_X7_38 dX7_divide_41 rfl ?_
  refine s_iconst (v := 1) dX7_divide_44 rfl ?_
  refine s_eqi (y := nI 1) rfl ?_
  refine s_laloadN aJ_R10 (by decide) (by decide) dX7_divide_45 ?_
  refine s_eql f46 ?_
  refine s_lstore [(9, .long v46), (7, .long v38), (5, .long s0), (0, .ref (ad 0)), (1, .long x1), (3, .long x3)] dX7_divide_46 (Nat.lt_of_lt_of_le (Nat.lt_succ_self _) (Nat.le_of_ble_eq_true rfl)) rfl ?_
  refine s_aload_n 3 dX7_divide_48 rfl ?_
  refine g_X7_38 dX7_divide_49 rfl ?_
  refine s_iconst (v := 2) dX7_divide_52 rfl ?_
  refine s_eqi (y := nI 2) rfl ?_
  refine s_laloadN aJ_R10 (by decide) (by decide) dX7_divide_53 ?_
  refine s_eql f54 ?_
  refine s_lstore [(11, .long v54), (9, .long v46), (7, .long v38), (5, .long s0), (0, .ref (ad 0)), (1, .long x1), (3, .long x3)] dX7_divide_54 (Nat.lt_of_lt_of_le (Nat.lt_succ_self _) (Nat.le_of_ble_eq_true rfl)) rfl ?_
  refine s_aload_n 4 dX7_divide_56 rfl ?_
  refine g_X7_101 dX7_divide_57 rfl ?_
  refine s_iconst (v := 2) dX7_divide_60 rfl ?_
  refine s_icmp_ne (tgt := 94) dX7_divide_61 (by decide) (fun c => ?_) (fun c => ?_)
  · refine s_pick [4, 5, 6, 3, 2, 1, 0] [(0, .ref (ad 0)), (1, .long x1), (3, .long x3), (5, .long s0), (7, .long v38), (9, .long v46), (11, .long v54)] rfl ?_; exact kt c
  · refine s_pick [4, 5, 6, 2, 1, 0] [(0, .ref (ad 0)), (1, .long x1), (3, .long x3), (7, .long v38), (9, .long v46), (11, .long v54)] rfl ?_; exact kf (by first | exact c | exact Classical.not_not.mp c)
theorem bX7_divide_64 {l : Launch} {D : va_G} {aI aL : ClassId} {ad : Nat → Nat} {P : sa_P} {I : sa_I} {J : sa_J} {x1 : Int64} {x3 : Int64} {x7 : Int64} {x9 : Int64} {x11 : Int64} {v77 : Int64} {v90 : Int64}  (f77 : x3 - (J 11 0) = v77) (f90 : -((sa_uJ J 11 0 v77) 11 1) = v90) (k : Sat (ER l D aI aL ad) M_X7_divide P 178 [(0, .ref (ad 0)), (1, .long x1), (7, .long x7), (9, .long x9), (11, .long x11)] [] I (sa_uJ (sa_uJ J 11 0 v77) 11 1 v90)) : Sat (ER l D aI aL ad) M_X7_divide P 64 [(0, .ref (ad 0)), (1, .long x1), (3, .long x3), (7, .long x7), (9, .long x9), (11, .long x11)] [] I J := by
  refine s_aload_n 0 dX7_divide_64 rfl ?_
  refine g_X7_41 dX7_divide_65 rfl ?_
  refine s_iconst (v := 0) dX7_divide_68 rfl ?_
  refine s_eqi (y := nI 0) rfl ?_
  refine s_lload_n 2 dX7_divide_69 rfl ?_
  refine s_aload_n 0 dX7_divide_70 rfl ?_
  refine g_X7_41 dX7_divide_71 rfl ?_
  refine s_iconst (v := 0) dX7_divide_74 rfl ?_
  refine s_eqi (y := nI 0) rfl ?_
  refine s_laloadN aJ_R11 (by decide) (by decide) dX7_divide_75 ?_
  refine s_lsub dX7_divide_76 ?_
  refine s_eql f77 ?_
  refine s_lastoreN aJ_R11 (by decide) (by decide) dX7_divide_77 ?_
  refine s_aload_n 0 dX7_divide_78 rfl ?_
  refine g_X7_41 dX7_divide_79 rfl ?_
  refine s_iconst (v := 1) dX7_divide_82 rfl ?_
  refine s_eqi (y := nI 1) rfl ?_
  refine s_aload_n 0 dX7_divide_83 rfl ?_
  refine g_X7_41 dX7_divide_84 rfl ?_
  refine s_iconst (v := 1) dX7_divide_87 rfl ?_
  refine s_eqi (y := nI 1) rfl ?_
  refine s_laloadN aJ_R11 (by decide) (by decide) dX7_divide_88 ?_
  refine s_lneg dX7_divide_89 ?_
  refine s_eql f90 ?_
  refine s_lastoreN aJ_R11 (by decide) (by decide) dX7_divide_90 ?_
  refine s_goto (tgt := 178) dX7_divide_91 (by decide) ?_
  refine s_pick [0, 1, 3, 4, 5] [(0, .ref (ad 0)), (1, .long x1), (7, .long x7), (9, .long x9), (11, .long x11)] rfl ?_; exact k
theorem bX7_divide_94 {l : Launch} {D : va_G} {aI aL : ClassId} {ad : Nat → Nat} {P : sa_P} {I : sa_I} {J : sa_J} {x1 : Int64} {x3 : Int64} {x5 : Int64} {x7 : Int64} {x9 : Int64} {x11 : Int64} {v95 : Int32}  (f95 : (0 : Int32) = v95) (k : Sat (ER l D aI aL ad) M_X7_divide P 97 [(0, .ref (ad 0)), (1, .long x1), (3, .long x3), (5, .long x5), (7, .long x7), (9, .long x9), (11, .long x11), (13, .int v95)] [] I J) : Sat (ER l D aI aL ad) M_X7_divide P 94 [(0, .ref (ad 0)), (1, .long x1), (3, .long x3), (5, .long x5), (7, .long x7), (9, .long x9), (11, .long x11)] [] I J := by
  refine s_iconst (v := 0) dX7_divide_94 rfl ?_
  refine s_eqi f95 ?_
  refine s_istore [(13, .int v95), (0, .ref (ad 0)), (1, .long x1), (3, .long x3), (5, .long x5), (7, .long x7), (9, .long x9), (11, .long x11)] dX7_divide_95 (Nat.lt_of_lt_of_le (Nat.lt_succ_self _) (Nat.le_of_ble_eq_true rfl)) rfl ?_
  refine s_pick [1, 2, 3, 4, 5, 6, 7, 0] [(0, .ref (ad 0)), (1, .long x1), (3, .long x3), (5, .long x5), (7, .long x7), (9, .long x9), (11, .long x11), (13, .int v95)] rfl ?_; exact k
theorem bX7_divide_97 {l : Launch} {D : va_G} {aI aL : ClassId} {ad : Nat → Nat} {P : sa_P} {I : sa_I} {J : sa_J} {x1 : Int64} {x3 : Int64} {x5 : Int64} {x7 : Int64} {x9 : Int64} {x11 : Int64} {x13 : Int32}   (kt : (3 : Int32) ≤ x13 → Sat (ER l D aI aL ad) M_X7_divide P 123 [(0, .ref (ad 0)), (1, .long x1), (3, .long x3), (5, .long x5), (7, .long x7), (9, .long x9), (11, .long x11)] [] I J) (kf : ¬ (3 : Int32) ≤ x13 → Sat (ER l D aI aL ad) M_X7_divide P 103 [(0, .ref (ad 0)), (1, .long x1), (3, .long x3), (5, .long x5), (7, .long x7), (9, .long x9), (11, .long x11), (13, .int x13)] [] I J) : Sat (ER l D aI aL ad) M_X7_divide P 97 [(0, .ref (ad 0)), (1, .long x1), (3, .long x3), (5, .long x5), (7, .long x7), (9, .long x9), (11, .long x11), (13, .int x13)] [] I J := by
  refine s_iload 7 dX7_divide_97 rfl ?_
  refine s_iconst (v := 3) dX7_divide_99 rfl ?_
  refine s_icmp_ge (tgt := 123) dX7_divide_100 (by decide) (fun c => ?_) (fun c => ?_)
  · refine s_pick [0, 1, 2, 3, 4, 5, 6] [(0, .ref (ad 0)), (1, .long x1), (3, .long x3), (5, .long x5), (7, .long x7), (9, .long x9), (11, .long x11)] rfl ?_; exact kt c
  · exact kf c
theorem bX7_divide_103 {l : Launch} {D : va_G} {aI aL : ClassId} {ad : Nat → Nat} {P : sa_P} {I : sa_I} {J : sa_J} {x1 : Int64} {x3 : Int64} {x5 : Int64} {x7 : Int64} {x9 : Int64} {x11 : Int64} {x13 : Int32} {j107 : Nat} {j113 : Nat} {v116 : Int64} {v117 : Int32} (e107 : x13 = nI j107) (e113 : x13 = nI j113) (h115 : j113 < 3) (h116 : j107 < 3) (f116 : J 11 j113 = v116) (f117 : x13 + 1 = v117) (k : Sat (ER l D aI aL ad) M_X7_divide P 97 [(0, .ref (ad 0)), (1, .long x1), (3, .long x3), (5, .long x5), (7, .long x7), (9, .long x9), (11, .long x11), (13, .int v117)] [] I (sa_uJ J 10 j107 v116)) : Sat (ER l D aI aL ad) M_X7_divide P 103 [(0, .ref (ad 0)), (1, .long x1), (3, .long x3), (5, .long x5), (7, .long x7), (9, .long x9), (11, .long x11), (13, .int x13)] [] I J := by
  refine s_aload_n 0 dX7_divide_103 rfl ?_
  refine g_X7_38 dX7_divide_104 rfl ?_
  refine s_iload 7 dX7_divide_107 rfl ?_
  refine s_eqi e107 ?_
  refine s_aload_n 0 dX7_divide_109 rfl ?_
  refine g_X7_41 dX7_divide_110 rfl ?_
  refine s_iload 7 dX7_divide_113 rfl ?_
  refine s_eqi e113 ?_
  refine s_laloadN aJ_R11 h115 (by decide) dX7_divide_115 ?_
  refine s_eql f116 ?_
  refine s_lastoreN aJ_R10 h116 (by decide) dX7_divide_116 ?_
  refine s_iinc 7 v117 [(13, .int v117), (0, .ref (ad 0)), (1, .long x1), (3, .long x3), (5, .long x5), (7, .long x7), (9, .long x9), (11, .long x11)] dX7_divide_117 rfl f117 (Nat.lt_of_lt_of_le (Nat.lt_succ_self _) (Nat.le_of_ble_eq_true rfl)) rfl ?_
  refine s_goto (tgt := 97) dX7_divide_120 (by decide) ?_
  refine s_pick [1, 2, 3, 4, 5, 6, 7, 0] [(0, .ref (ad 0)), (1, .long x1), (3, .long x3), (5, .long x5), (7, .long x7), (9, .long x9), (11, .long x11), (13, .int v117)] rfl ?_; exact k
theorem bX7_divide_123 {l : Launch} {D : va_G} {aI aL : ClassId} {ad : Nat → Nat} {P : sa_P} {I : sa_I} {J : sa_J} {x1 : Int64} {x3 : Int64} {x5 : Int64} {x7 : Int64} {x9 : Int64} {x11 : Int64}   (k : Sat (ER l D aI aL ad) M_X7_divide P 124 [(0, .ref (ad 0)), (1, .long x1), (3, .long x3), (5, .long x5), (7, .long x7), (9, .long x9), (11, .long x11)] [.ref (ad 0)] I J) : Sat (ER l D aI aL ad) M_X7_divide P 123 [(0, .ref (ad 0)), (1, .long x1), (3, .long x3), (5, .long x5), (7, .long x7), (9, .long x9), (11, .long x11)] [] I J := by
  refine s_aload_n 0 dX7_divide_123 rfl ?_
  exact k
theorem bX7_divide_127 {l : Launch} {D : va_G} {aI aL : ClassId} {ad : Nat → Nat} {P : sa_P} {I : sa_I} {J : sa_J} {x1 : Int64} {x3 : Int64} {x5 : Int64} {x7 : Int64} {x9 : Int64} {x11 : Int64} {v128 : Int32}  (f128 : (0 : Int32) = v128) (k : Sat (ER l D aI aL ad) M_X7_divide P 130 [(0, .ref (ad 0)), (1, .long x1), (3, .long x3), (5, .long x5), (7, .long x7), (9, .long x9), (11, .long x11), (13, .int v128)] [] I J) : Sat (ER l D aI aL ad) M_X7_divide P 127 [(0, .ref (ad 0)), (1, .long x1), (3, .long x3), (5, .long x5), (7, .long x7), (9, .long x9), (11, .long x11)] [] I J := by
  refine s_iconst (v := 0) dX7_divide_127 rfl ?_
  refine s_eqi f128 ?_
  refine s_istore [(13, .int v128), (0, .ref (ad 0)), (1, .long x1), (3, .long x3), (5, .long x5), (7, .long x7), (9, .long x9), (11, .long x11)] dX7_divide_128 (Nat.lt_of_lt_of_le (Nat.lt_succ_self _) (Nat.le_of_ble_eq_true rfl)) rfl ?_
  refine s_pick [1, 2, 3, 4, 5, 6, 7, 0] [(0, .ref (ad 0)), (1, .long x1), (3, .long x3), (5, .long x5), (7, .long x7), (9, .long x9), (11, .long x11), (13, .int v128)] rfl ?_; exact k
theorem bX7_divide_130 {l : Launch} {D : va_G} {aI aL : ClassId} {ad : Nat → Nat} {P : sa_P} {I : sa_I} {J : sa_J} {x1 : Int64} {x3 : Int64} {x5 : Int64} {x7 : Int64} {x9 : Int64} {x11 : Int64} {x13 : Int32}   (kt : (3 : Int32) ≤ x13 → Sat (ER l D aI aL ad) M_X7_divide P 178 [(0, .ref (ad 0)), (1, .long x1), (7, .long x7), (9, .long x9), (11, .long x11)] [] I J) (kf : ¬ (3 : Int32) ≤ x13 → Sat (ER l D aI aL ad) M_X7_divide P 136 [(0, .ref (ad 0)), (1, .long x1), (3, .long x3), (5, .long x5), (7, .long x7), (9, .long x9), (11, .long x11), (13, .int x13)] [] I J) : Sat (ER l D aI aL ad) M_X7_divide P 130 [(0, .ref (ad 0)), (1, .long x1), (3, .long x3), (5, .long x5), (7, .long x7), (9, .long x9), (11, .long x11), (13, .int x13)] [] I J := by
  refine s_iload 7 dX7_divide_130 rfl ?_
  refine s_iconst (v := 3) dX7_divide_132 rfl ?_
  refine s_icmp_ge (tgt := 178) dX7_divide_133 (by decide) (fun c => ?_) (fun c => ?_)
  · refine s_pick [0, 1, 4, 5, 6] [(0, .ref (ad 0)), (1, .long x1), (7, .long x7), (9, .long x9), (11, .long x11)] rfl ?_; exact kt c
  · exact kf c
theorem bX7_divide_136 {l : Launch} {D : va_G} {aI aL : ClassId} {ad : Nat → Nat} {P : sa_P} {I : sa_I} {J : sa_J} {x1 : Int64} {x3 : Int64} {x5 : Int64} {x7 : Int64} {x9 : Int64} {x11 : Int64} {x13 : Int32} {j146 : Nat} {j154 : Nat} (e146 : x13 = nI j146) (h148 : j146 < 3) (e154 : x13 = nI j154) (h156 : j154 < 3)  (kt : ¬ x13 = 0 → Sat (ER l D aI aL ad) M_X7_divide P 169 [(0, .ref (ad 0)), (1, .long x1), (3, .long x3), (5, .long x5), (7, .long x7), (9, .long x9), (11, .long x11), (13, .int x13)] [.long ((J 12 j146) - (x3 * (J 11 j154))), .int x13, .ref (ad 11)] I J) (kf : x13 = 0 → Sat (ER l D aI aL ad) M_X7_divide P 164 [(0, .ref (ad 0)), (1, .long x1), (3, .long x3), (5, .long x5), (7, .long x7), (9, .long x9), (11, .long x11), (13, .int x13)] [.long ((J 12 j146) - (x3 * (J 11 j154))), .int x13, .ref (ad 11)] I J) : Sat (ER l D aI aL ad) M_X7_divide P 136 [(0, .ref (ad 0)), (1, .long x1), (3, .long x3), (5, .long x5), (7, .long x7), (9, .long x9), (11, .long x11), (13, .int x13)] [] I J := by
  refine s_aload_n 0 dX7_divide_136 rfl ?_
  refine g_X7_41 dX7_divide_137 rfl ?_
  refine s_iload 7 dX7_divide_140 rfl ?_
  refine s_aload_n 0 dX7_divide_142 rfl ?_
  refine g_X7_44 dX7_divide_143 rfl ?_
  refine s_iload 7 dX7_divide_146 rfl ?_
  refine s_eqi e146 ?_
  refine s_laloadN aJ_R12 h148 (by decide) dX7_divide_148 ?_
  refine s_lload_n 2 dX7_divide_149 rfl ?_
  refine s_aload_n 0 dX7_divide_150 rfl ?_
  refine g_X7_41 dX7_divide_151 rfl ?_
  refine s_iload 7 dX7_divide_154 rfl ?_
  refine s_eqi e154 ?_
  refine s_laloadN aJ_R11 h156 (by decide) dX7_divide_156 ?_
  refine s_lmul dX7_divide_157 ?_
  refine s_lsub dX7_divide_158 ?_
  refine s_iload 7 dX7_divide_159 rfl ?_
  refine s_if_ne (tgt := 169) dX7_divide_161 (by decide) (fun c => ?_) (fun c => ?_)
  · exact kt c
  · exact kf (by first | exact c | exact Classical.not_not.mp c)
theorem bX7_divide_164 {l : Launch} {D : va_G} {aI aL : ClassId} {ad : Nat → Nat} {P : sa_P} {I : sa_I} {J : sa_J} {x1 : Int64} {x3 : Int64} {x5 : Int64} {x7 : Int64} {x9 : Int64} {x11 : Int64} {x13 : Int32} {s1 : Int32} {s2 : Int64}   (k : Sat (ER l D aI aL ad) M_X7_divide P 170 [(0, .ref (ad 0)), (1, .long x1), (3, .long x3), (5, .long x5), (7, .long x7), (9, .long x9), (11, .long x11), (13, .int x13)] [.long x5, .long s2, .int s1, .ref (ad 11)] I J) : Sat (ER l D aI aL ad) M_X7_divide P 164 [(0, .ref (ad 0)), (1, .long x1), (3, .long x3), (5, .long x5), (7, .long x7), (9, .long x9), (11, .long x11), (13, .int x13)] [.long s2, .int s1, .ref (ad 11)] I J := by
  refine s_lload 3 dX7_divide_164 rfl ?_
  refine s_goto (tgt := 170) dX7_divide_166 (by decide) ?_
  exact k
theorem bX7_divide_169 {l : Launch} {D : va_G} {aI aL : ClassId} {ad : Nat → Nat} {P : sa_P} {I : sa_I} {J : sa_J} {x1 : Int64} {x3 : Int64} {x5 : Int64} {x7 : Int64} {x9 : Int64} {x11 : Int64} {x13 : Int32} {s1 : Int32} {s2 : Int64}   (k : Sat (ER l D aI aL ad) M_X7_divide P 170 [(0, .ref (ad 0)), (1, .long x1), (3, .long x3), (5, .long x5), (7, .long x7), (9, .long x9), (11, .long x11), (13, .int x13)] [.long (0 : Int64), .long s2, .int s1, .ref (ad 11)] I J) : Sat (ER l D aI aL ad) M_X7_divide P 169 [(0, .ref (ad 0)), (1, .long x1), (3, .long x3), (5, .long x5), (7, .long x7), (9, .long x9), (11, .long x11), (13, .int x13)] [.long s2, .int s1, .ref (ad 11)] I J := by
  refine s_lconst (v := 0) dX7_divide_169 rfl ?_
  exact k
theorem bX7_divide_170 {l : Launch} {D : va_G} {aI aL : ClassId} {ad : Nat → Nat} {P : sa_P} {I : sa_I} {J : sa_J} {x1 : Int64} {x3 : Int64} {x5 : Int64} {x7 : Int64} {x9 : Int64} {x11 : Int64} {x13 : Int32} {s1 : Nat} {s2 : Int64} {s3 : Int64} {v171 : Int64} {v172 : Int32} (h171 : s1 < 3) (f171 : s2 + s3 = v171) (f172 : x13 + 1 = v172) (k : Sat (ER l D aI aL ad) M_X7_divide P 130 [(0, .ref (ad 0)), (1, .long x1), (3, .long x3), (5, .long x5), (7, .long x7), (9, .long x9), (11, .long x11), (13, .int v172)] [] I (sa_uJ J 11 s1 v171)) : Sat (ER l D aI aL ad) M_X7_divide P 170 [(0, .ref (ad 0)), (1, .long x1), (3, .long x3), (5, .long x5), (7, .long x7), (9, .long x9), (11, .long x11), (13, .int x13)] [.long s3, .long s2, .int (nI s1), .ref (ad 11)] I J := by
  refine s_ladd dX7_divide_170 ?_
  refine s_eql f171 ?_
  refine s_lastoreN aJ_R11 h171 (by decide) dX7_divide_171 ?_
  refine s_iinc 7 v172 [(13, .int v172), (0, .ref (ad 0)), (1, .long x1), (3, .long x3), (5, .long x5), (7, .long x7), (9, .long x9), (11, .long x11)] dX7_divide_172 rfl f172 (Nat.lt_of_lt_of_le (Nat.lt_succ_self _) (Nat.le_of_ble_eq_true rfl)) rfl ?_
  refine s_goto (tgt := 130) dX7_divide_175 (by decide) ?_
  refine s_pick [1, 2, 3, 4, 5, 6, 7, 0] [(0, .ref (ad 0)), (1, .long x1), (3, .long x3), (5, .long x5), (7, .long x7), (9, .long x9), (11, .long x11), (13, .int v172)] rfl ?_; exact k
theorem bX7_divide_178 {l : Launch} {D : va_G} {aI aL : ClassId} {ad : Nat → Nat} {P : sa_P} {I : sa_I} {J : sa_J} {x1 : Int64} {x7 : Int64} {x9 : Int64} {x11 : Int64}   (k : Sat (ER l D aI aL ad) M_X7_divide P 203 [(0, .ref (ad 0)), (1, .long x1)] [.ref (ad 0)] I (sa_uJ (sa_uJ (sa_uJ J 10 0 x7) 10 1 x9) 10 2 x11)) : Sat (ER l D aI aL ad) M_X7_divide P 178 [(0, .ref (ad 0)), (1, .long x1), (7, .long x7), (9, .long x9), (11, .long x11)] [] I J := by
  refine s_aload_n 0 dX7_divide_178 rfl ?_
  refine g_X7_38 dX7_divide_179 rfl ?_
  refine s_iconst (v := 0) dX7_divide_182 rfl ?_
  refine s_eqi (y := nI 0) rfl ?_
  refine s_lload 2 dX7_divide_183 rfl ?_
  refine s_lastoreN aJ_R10 (by decide) (by decide) dX7_divide_185 ?_
  refine s_aload_n 0 dX7_divide_186 rfl ?_
  refine g_X7_38 dX7_divide_187 rfl ?_
  refine s_iconst (v := 1) dX7_divide_190 rfl ?_
  refine s_eqi (y := nI 1) rfl ?_
  refine s_lload 3 dX7_divide_191 rfl ?_
  refine s_lastoreN aJ_R10 (by decide) (by decide) dX7_divide_193 ?_
  refine s_aload_n 0 dX7_divide_194 rfl ?_
  refine g_X7_38 dX7_divide_195 rfl ?_
  refine s_iconst (v := 2) dX7_divide_198 rfl ?_
  refine s_eqi (y := nI 2) rfl ?_
  refine s_lload 4 dX7_divide_199 rfl ?_
  refine s_lastoreN aJ_R10 (by decide) (by decide) dX7_divide_201 ?_
  refine s_aload_n 0 dX7_divide_202 rfl ?_
  refine s_pick [0, 1] [(0, .ref (ad 0)), (1, .long x1)] rfl ?_; exact k
theorem bX7_divide_206 {l : Launch} {D : va_G} {aI aL : ClassId} {ad : Nat → Nat} {P : sa_P} {I : sa_I} {J : sa_J} {x1 : Int64} {v207 : Int32} {v210 : Int32}  (f207 : (1 : Int32) = v207) (f210 : (0 : Int32) = v210) (k : Sat (ER l D aI aL ad) M_X7_divide P 212 [(0, .ref (ad 0)), (1, .long x1), (13, .int v207), (14, .int v210)] [] I J) : Sat (ER l D aI aL ad) M_X7_divide P 206 [(0, .ref (ad 0)), (1, .long x1)] [] I J := by
  refine s_iconst (v := 1) dX7_divide_206 rfl ?_
  refine s_eqi f207 ?_
  refine s_istore [(13, .int v207), (0, .ref (ad 0)), (1, .long x1)] dX7_divide_207 (Nat.lt_of_lt_of_le (Nat.lt_succ_self _) (Nat.le_of_ble_eq_true rfl)) rfl ?_
  refine s_iconst (v := 0) dX7_divide_209 rfl ?_
  refine s_eqi f210 ?_
  refine s_istore [(14, .int v210), (13, .int v207), (0, .ref (ad 0)), (1, .long x1)] dX7_divide_210 (Nat.lt_of_lt_of_le (Nat.lt_succ_self _) (Nat.le_of_ble_eq_true rfl)) rfl ?_
  refine s_pick [2, 3, 1, 0] [(0, .ref (ad 0)), (1, .long x1), (13, .int v207), (14, .int v210)] rfl ?_; exact k
theorem bX7_divide_212 {l : Launch} {D : va_G} {aI aL : ClassId} {ad : Nat → Nat} {P : sa_P} {I : sa_I} {J : sa_J} {x1 : Int64} {x13 : Int32} {x14 : Int32}   (kt : I 0 1 ≤ x14 → Sat (ER l D aI aL ad) M_X7_divide P 264 [(13, .int x13)] [] I J) (kf : ¬ I 0 1 ≤ x14 → Sat (ER l D aI aL ad) M_X7_divide P 221 [(0, .ref (ad 0)), (1, .long x1), (13, .int x13), (14, .int x14)] [] I J) : Sat (ER l D aI aL ad) M_X7_divide P 212 [(0, .ref (ad 0)), (1, .long x1), (13, .int x13), (14, .int x14)] [] I J := by
  refine s_iload 3 dX7_divide_212 rfl ?_
  refine s_aload_n 0 dX7_divide_214 rfl ?_
  refine g_X7_101 dX7_divide_215 rfl ?_
  refine s_icmp_ge (tgt := 264) dX7_divide_218 (by decide) (fun c => ?_) (fun c => ?_)
  · refine s_pick [2] [(13, .int x13)] rfl ?_; exact kt c
  · exact kf c
theorem bX7_divide_221 {l : Launch} {D : va_G} {aI aL : ClassId} {ad : Nat → Nat} {P : sa_P} {I : sa_I} {J : sa_J} {x1 : Int64} {x13 : Int32} {x14 : Int32}   (kt : x13 = 0 → Sat (ER l D aI aL ad) M_X7_divide P 244 [(0, .ref (ad 0)), (1, .long x1), (14, .int x14)] [] I J) (kf : ¬ x13 = 0 → Sat (ER l D aI aL ad) M_X7_divide P 226 [(0, .ref (ad 0)), (1, .long x1), (14, .int x14)] [] I J) : Sat (ER l D aI aL ad) M_X7_divide P 221 [(0, .ref (ad 0)), (1, .long x1), (13, .int x13), (14, .int x14)] [] I J := by
  refine s_iload 2 dX7_divide_221 rfl ?_
  refine s_if_eq (tgt := 244) dX7_divide_223 (by decide) (fun c => ?_) (fun c => ?_)
  · refine s_pick [0, 1, 3] [(0, .ref (ad 0)), (1, .long x1), (14, .int x14)] rfl ?_; exact kt c
  · refine s_pick [0, 1, 3] [(0, .ref (ad 0)), (1, .long x1), (14, .int x14)] rfl ?_; exact kf c
theorem bX7_divide_226 {l : Launch} {D : va_G} {aI aL : ClassId} {ad : Nat → Nat} {P : sa_P} {I : sa_I} {J : sa_J} {x1 : Int64} {x14 : Int32} {j230 : Nat} (e230 : x14 = nI j230) (h232 : j230 < 3) (z234 : ¬ x1 = 0)  (kt : ¬ (J 12 j230) - (J 12 j230) / x1 * x1 = (0 : Int64) → Sat (ER l D aI aL ad) M_X7_divide P 244 [(0, .ref (ad 0)), (1, .long x1), (14, .int x14)] [] I J) (kf : (J 12 j230) - (J 12 j230) / x1 * x1 = (0 : Int64) → Sat (ER l D aI aL ad) M_X7_divide P 240 [(0, .ref (ad 0)), (1, .long x1), (14, .int x14)] [] I J) : Sat (ER l D aI aL ad) M_X7_divide P 226 [(0, .ref (ad 0)), (1, .long x1), (14, .int x14)] [] I J := by
  refine s_aload_n 0 dX7_divide_226 rfl ?_
  refine g_X7_44 dX7_divide_227 rfl ?_
  refine s_iload 2 dX7_divide_230 rfl ?_
  refine s_eqi e230 ?_
  refine s_laloadN aJ_R12 h232 (by decide) dX7_divide_232 ?_
  refine s_lload_n 1 dX7_divide_233 rfl ?_
  refine s_lrem dX7_divide_234 z234 ?_
  refine s_lconst (v := 0) dX7_divide_235 rfl ?_
  refine s_lif_ne (tgt := 244) dX7_divide_236 dX7_divide_237 (by decide) (fun c => ?_) (fun c => ?_)
  · exact kt c
  · exact kf (by first | exact c | exact Classical.not_not.mp c)
theorem bX7_divide_240 {l : Launch} {D : va_G} {aI aL : ClassId} {ad : Nat → Nat} {P : sa_P} {I : sa_I} {J : sa_J} {x1 : Int64} {x14 : Int32}   (k : Sat (ER l D aI aL ad) M_X7_divide P 245 [(0, .ref (ad 0)), (1, .long x1), (14, .int x14)] [.int (1 : Int32)] I J) : Sat (ER l D aI aL ad) M_X7_divide P 240 [(0, .ref (ad 0)), (1, .long x1), (14, .int x14)] [] I J := by
  refine s_iconst (v := 1) dX7_divide_240 rfl ?_
  refine s_goto (tgt := 245) dX7_divide_241 (by decide) ?_
  exact k
theorem bX7_divide_244 {l : Launch} {D : va_G} {aI aL : ClassId} {ad : Nat → Nat} {P : sa_P} {I : sa_I} {J : sa_J} {x1 : Int64} {x14 : Int32}   (k : Sat (ER l D aI aL ad) M_X7_divide P 245 [(0, .ref (ad 0)), (1, .long x1), (14, .int x14)] [.int (0 : Int32)] I J) : Sat (ER l D aI aL ad) M_X7_divide P 244 [(0, .ref (ad 0)), (1, .long x1), (14, .int x14)] [] I J := by
  refine s_iconst (v := 0) dX7_divide_244 rfl ?_
  exact k
theorem bX7_divide_245 {l : Launch} {D : va_G} {aI aL : ClassId} {ad : Nat → Nat} {P : sa_P} {I : sa_I} {J : sa_J} {x1 : Int64} {x14 : Int32} {s0 : Int32} {j251 : Nat} {v257 : Int64} {v258 : Int32} (e251 : x14 = nI j251) (h254 : j251 < 3) (z256 : ¬ x1 = 0) (h257 : j251 < 3) (f257 : (J 12 j251) / x1 = v257) (f258 : x14 + 1 = v258) (k : Sat (ER l D aI aL ad) M_X7_divide P 212 [(0, .ref (ad 0)), (1, .long x1), (13, .int s0), (14, .int v258)] [] I (sa_uJ J 12 j251 v257)) : Sat (ER l D aI aL ad) M_X7_divide P 245 [(0, .ref (ad 0)), (1, .long x1), (14, .int x14)] [.int s0] I J := by
  refine s_istore [(13, .int s0), (0, .ref (ad 0)), (1, .long x1), (14, .int x14)] dX7_divide_245 (Nat.lt_of_lt_of_le (Nat.lt_succ_self _) (Nat.le_of_ble_eq_true rfl)) rfl ?_
  refine s_aload_n 1 dX7_divide_247 rfl ?_
  refine g_X7_44 dX7_divide_248 rfl ?_
  refine s_iload 3 dX7_divide_251 rfl ?_
  refine s_eqi e251 ?_
  refine s_dup2_11 dX7_divide_253 rfl rfl ?_
  refine s_laloadN aJ_R12 h254 (by decide) dX7_divide_254 ?_
  refine s_lload_n 2 dX7_divide_255 rfl ?_
  refine s_ldiv dX7_divide_256 z256 ?_
  refine s_eql f257 ?_
  refine s_lastoreN aJ_R12 h257 (by decide) dX7_divide_257 ?_
  refine s_iinc 3 v258 [(14, .int v258), (13, .int s0), (0, .ref (ad 0)), (1, .long x1)] dX7_divide_258 rfl f258 (Nat.lt_of_lt_of_le (Nat.lt_succ_self _) (Nat.le_of_ble_eq_true rfl)) rfl ?_
  refine s_goto (tgt := 212) dX7_divide_261 (by decide) ?_
  refine s_pick [2, 3, 1, 0] [(0, .ref (ad 0)), (1, .long x1), (13, .int s0), (14, .int v258)] rfl ?_; exact k
theorem bX7_divide_264 {l : Launch} {D : va_G} {aI aL : ClassId} {ad : Nat → Nat} {P : sa_P} {I : sa_I} {J : sa_J} {x13 : Int32} (hz : narrow .boolean (.int x13) = .int x13)  (k : P (some (.int x13)) I J) : Sat (ER l D aI aL ad) M_X7_divide P 264 [(13, .int x13)] [] I J := by
  refine s_iload 0 dX7_divide_264 rfl ?_
  exact s_zret hz rfl dX7_divide_266 k
/-! X7_make -/
theorem dX7_make_0 : decode cX7_make 0 = .ok (.aload_n 0, 1) := by decide +kernel
theorem dX7_make_1 : decode cX7_make 1 = .ok (.invokevirtual 203, 3) := by decide +kernel
theorem dX7_make_4 : decode cX7_make 4 = .ok (.ifCond .ne 10, 3) := by decide +kernel
theorem dX7_make_7 : decode cX7_make 7 = .ok (.aload_n 0, 1) := by decide +kernel
theorem dX7_make_8 : decode cX7_make 8 = .ok (.bipush (-3), 2) := by decide +kernel
theorem dX7_make_10 : decode cX7_make 10 = .ok (.invokevirtual 84, 3) := by decide +kernel
theorem dX7_make_13 : decode cX7_make 13 = .ok (.ireturn, 1) := by decide +kernel
theorem dX7_make_14 : decode cX7_make 14 = .ok (.aload_n 0, 1) := by decide +kernel
theorem dX7_make_15 : decode cX7_make 15 = .ok (.iload_n 2, 1) := by decide +kernel
theorem dX7_make_16 : decode cX7_make 16 = .ok (.invokevirtual 232, 3) := by decide +kernel
theorem dX7_make_19 : decode cX7_make 19 = .ok (.ifCond .eq 11, 3) := by decide +kernel
theorem dX7_make_22 : decode cX7_make 22 = .ok (.aload_n 0, 1) := by decide +kernel
theorem dX7_make_23 : decode cX7_make 23 = .ok (.iload_n 3, 1) := by decide +kernel
theorem dX7_make_24 : decode cX7_make 24 = .ok (.invokevirtual 232, 3) := by decide +kernel
theorem dX7_make_27 : decode cX7_make 27 = .ok (.ifCond .ne 9, 3) := by decide +kernel
theorem dX7_make_30 : decode cX7_make 30 = .ok (.aload_n 0, 1) := by decide +kernel
theorem dX7_make_31 : decode cX7_make 31 = .ok (.iconst (-1), 1) := by decide +kernel
theorem dX7_make_32 : decode cX7_make 32 = .ok (.invokevirtual 84, 3) := by decide +kernel
theorem dX7_make_35 : decode cX7_make 35 = .ok (.ireturn, 1) := by decide +kernel
theorem dX7_make_36 : decode cX7_make 36 = .ok (.iload_n 1, 1) := by decide +kernel
theorem dX7_make_37 : decode cX7_make 37 = .ok (.iconst 4, 1) := by decide +kernel
theorem dX7_make_38 : decode cX7_make 38 = .ok (.invokestatic 210, 3) := by decide +kernel
theorem dX7_make_41 : decode cX7_make 41 = .ok (.ifCond .ne 10, 3) := by decide +kernel
theorem dX7_make_44 : decode cX7_make 44 = .ok (.aload_n 0, 1) := by decide +kernel
theorem dX7_make_45 : decode cX7_make 45 = .ok (.bipush (-2), 2) := by decide +kernel
theorem dX7_make_47 : decode cX7_make 47 = .ok (.invokevirtual 84, 3) := by decide +kernel
theorem dX7_make_50 : decode cX7_make 50 = .ok (.ireturn, 1) := by decide +kernel
theorem dX7_make_51 : decode cX7_make 51 = .ok (.aload_n 0, 1) := by decide +kernel
theorem dX7_make_52 : decode cX7_make 52 = .ok (.iload_n 2, 1) := by decide +kernel
theorem dX7_make_53 : decode cX7_make 53 = .ok (.aload_n 0, 1) := by decide +kernel
theorem dX7_make_54 : decode cX7_make 54 = .ok (.getfield 38, 3) := by decide +kernel
theorem dX7_make_57 : decode cX7_make 57 = .ok (.invokevirtual 235, 3) := by decide +kernel
theorem dX7_make_60 : decode cX7_make 60 = .ok (.aload_n 0, 1) := by decide +kernel
theorem dX7_make_61 : decode cX7_make 61 = .ok (.iload_n 3, 1) := by decide +kernel
theorem dX7_make_62 : decode cX7_make 62 = .ok (.aload_n 0, 1) := by decide +kernel
theorem dX7_make_63 : decode cX7_make 63 = .ok (.getfield 41, 3) := by decide +kernel
theorem dX7_make_66 : decode cX7_make 66 = .ok (.invokevirtual 235, 3) := by decide +kernel
theorem dX7_make_69 : decode cX7_make 69 = .ok (.iconst 0, 1) := by decide +kernel
theorem dX7_make_70 : decode cX7_make 70 = .ok (.istore 4, 2) := by decide +kernel
theorem dX7_make_72 : decode cX7_make 72 = .ok (.iload 4, 2) := by decide +kernel
theorem dX7_make_74 : decode cX7_make 74 = .ok (.iconst 3, 1) := by decide +kernel
theorem dX7_make_75 : decode cX7_make 75 = .ok (.if_icmp .ge 53, 3) := by decide +kernel
theorem dX7_make_78 : decode cX7_make 78 = .ok (.aload_n 0, 1) := by decide +kernel
theorem dX7_make_79 : decode cX7_make 79 = .ok (.getfield 44, 3) := by decide +kernel
theorem dX7_make_82 : decode cX7_make 82 = .ok (.iload 4, 2) := by decide +kernel
theorem dX7_make_84 : decode cX7_make 84 = .ok (.iload_n 1, 1) := by decide +kernel
theorem dX7_make_85 : decode cX7_make 85 = .ok (.ifCond .ne 21, 3) := by decide +kernel
theorem dX7_make_88 : decode cX7_make 88 = .ok (.aload_n 0, 1) := by decide +kernel
theorem dX7_make_89 : decode cX7_make 89 = .ok (.getfield 38, 3) := by decide +kernel
theorem dX7_make_92 : decode cX7_make 92 = .ok (.iload 4, 2) := by decide +kernel
theorem dX7_make_94 : decode cX7_make 94 = .ok (.laload, 1) := by decide +kernel
theorem dX7_make_95 : decode cX7_make 95 = .ok (.aload_n 0, 1) := by decide +kernel
theorem dX7_make_96 : decode cX7_make 96 = .ok (.getfield 41, 3) := by decide +kernel
theorem dX7_make_99 : decode cX7_make 99 = .ok (.iload 4, 2) := by decide +kernel
theorem dX7_make_101 : decode cX7_make 101 = .ok (.laload, 1) := by decide +kernel
theorem dX7_make_102 : decode cX7_make 102 = .ok (.ladd, 1) := by decide +kernel
theorem dX7_make_103 : decode cX7_make 103 = .ok (.goto 18, 3) := by decide +kernel
theorem dX7_make_106 : decode cX7_make 106 = .ok (.aload_n 0, 1) := by decide +kernel
theorem dX7_make_107 : decode cX7_make 107 = .ok (.getfield 38, 3) := by decide +kernel
theorem dX7_make_110 : decode cX7_make 110 = .ok (.iload 4, 2) := by decide +kernel
theorem dX7_make_112 : decode cX7_make 112 = .ok (.laload, 1) := by decide +kernel
theorem dX7_make_113 : decode cX7_make 113 = .ok (.aload_n 0, 1) := by decide +kernel
theorem dX7_make_114 : decode cX7_make 114 = .ok (.getfield 41, 3) := by decide +kernel
theorem dX7_make_117 : decode cX7_make 117 = .ok (.iload 4, 2) := by decide +kernel
theorem dX7_make_119 : decode cX7_make 119 = .ok (.laload, 1) := by decide +kernel
theorem dX7_make_120 : decode cX7_make 120 = .ok (.lsub, 1) := by decide +kernel
theorem dX7_make_121 : decode cX7_make 121 = .ok (.lastore, 1) := by decide +kernel
theorem dX7_make_122 : decode cX7_make 122 = .ok (.iinc 4 1, 3) := by decide +kernel
theorem dX7_make_125 : decode cX7_make 125 = .ok (.goto (-53), 3) := by decide +kernel
theorem dX7_make_128 : decode cX7_make 128 = .ok (.iload_n 1, 1) := by decide +kernel
theorem dX7_make_129 : decode cX7_make 129 = .ok (.iconst 2, 1) := by decide +kernel
theorem dX7_make_130 : decode cX7_make 130 = .ok (.if_icmp .ne 7, 3) := by decide +kernel
theorem dX7_make_133 : decode cX7_make 133 = .ok (.aload_n 0, 1) := by decide +kernel
theorem dX7_make_134 : decode cX7_make 134 = .ok (.invokevirtual 229, 3) := by decide +kernel
theorem dX7_make_137 : decode cX7_make 137 = .ok (.iload_n 1, 1) := by decide +kernel
theorem dX7_make_138 : decode cX7_make 138 = .ok (.iconst 3, 1) := by decide +kernel
theorem dX7_make_139 : decode cX7_make 139 = .ok (.if_icmp .ne 17, 3) := by decide +kernel
theorem dX7_make_142 : decode cX7_make 142 = .ok (.aload_n 0, 1) := by decide +kernel
theorem dX7_make_143 : decode cX7_make 143 = .ok (.invokevirtual 239, 3) := by decide +kernel
theorem dX7_make_146 : decode cX7_make 146 = .ok (.ifCond .ne 10, 3) := by decide +kernel
theorem dX7_make_149 : decode cX7_make 149 = .ok (.aload_n 0, 1) := by decide +kernel
theorem dX7_make_150 : decode cX7_make 150 = .ok (.bipush (-3), 2) := by decide +kernel
theorem dX7_make_152 : decode cX7_make 152 = .ok (.invokevirtual 84, 3) := by decide +kernel
theorem dX7_make_155 : decode cX7_make 155 = .ok (.ireturn, 1) := by decide +kernel
theorem dX7_make_156 : decode cX7_make 156 = .ok (.aload_n 0, 1) := by decide +kernel
theorem dX7_make_157 : decode cX7_make 157 = .ok (.aload_n 0, 1) := by decide +kernel
theorem dX7_make_158 : decode cX7_make 158 = .ok (.getfield 44, 3) := by decide +kernel
theorem dX7_make_161 : decode cX7_make 161 = .ok (.iconst 0, 1) := by decide +kernel
theorem dX7_make_162 : decode cX7_make 162 = .ok (.laload, 1) := by decide +kernel
theorem dX7_make_163 : decode cX7_make 163 = .ok (.aload_n 0, 1) := by decide +kernel
theorem dX7_make_164 : decode cX7_make 164 = .ok (.getfield 44, 3) := by decide +kernel
theorem dX7_make_167 : decode cX7_make 167 = .ok (.iconst 1, 1) := by decide +kernel
theorem dX7_make_168 : decode cX7_make 168 = .ok (.laload, 1) := by decide +kernel
theorem dX7_make_169 : decode cX7_make 169 = .ok (.aload_n 0, 1) := by decide +kernel
theorem dX7_make_170 : decode cX7_make 170 = .ok (.getfield 44, 3) := by decide +kernel
theorem dX7_make_173 : decode cX7_make 173 = .ok (.iconst 2, 1) := by decide +kernel
theorem dX7_make_174 : decode cX7_make 174 = .ok (.laload, 1) := by decide +kernel
theorem dX7_make_175 : decode cX7_make 175 = .ok (.invokevirtual 221, 3) := by decide +kernel
theorem dX7_make_178 : decode cX7_make 178 = .ok (.ireturn, 1) := by decide +kernel
theorem bX7_make_0 {l : Launch} {D : va_G} {aI aL : ClassId} {ad : Nat → Nat} {P : sa_P} {I : sa_I} {J : sa_J} {x1 : Int32} {x2 : Int32} {x3 : Int32}   (k : Sat (ER l D aI aL ad) M_X7_make P 1 [(0, .ref (ad 0)), (1, .int x1), (2, .int x2), (3, .int x3)] [.ref (ad 0)] I J) : Sat (ER l D aI aL ad) M_X7_make P 0 [(0, .ref (ad 0)), (1, .int x1), (2, .int x2), (3, .int x3)] [] I J := by
  refine s_aload_n 0 dX7_make_0 rfl ?_
  exact k
theorem bX7_make_4 {l : Launch} {D : va_G} {aI aL : ClassId} {ad : Nat → Nat} {P : sa_P} {I : sa_I} {J : sa_J} {x1 : Int32} {x2 : Int32} {x3 : Int32} {s0 : Int32}   (kt : ¬ s0 = 0 → Sat (ER l D aI aL ad) M_X7_make P 14 [(0, .ref (ad 0)), (1, .int x1), (2, .int x2), (3, .int x3)] [] I J) (kf : s0 = 0 → Sat (ER l D aI aL ad) M_X7_make P 7 [(0, .ref (ad 0))] [] I J) : Sat (ER l D aI aL ad) M_X7_make P 4 [(0, .ref (ad 0)), (1, .int x1), (2, .int x2), (3, .int x3)] [.int s0] I J := by
  refine s_if_ne (tgt := 14) dX7_make_4 (by decide) (fun c => ?_) (fun c => ?_)
  · exact kt c
  · refine s_pick [0] [(0, .ref (ad 0))] rfl ?_; exact kf (by first | exact c | exact Classical.not_not.mp c)
theorem bX7_make_7 {l : Launch} {D : va_G} {aI aL : ClassId} {ad : Nat → Nat} {P : sa_P} {I : sa_I} {J : sa_J}    (k : Sat (ER l D aI aL ad) M_X7_make P 10 [] [.int (-3 : Int32), .ref (ad 0)] I J) : Sat (ER l D aI aL ad) M_X7_make P 7 [(0, .ref (ad 0))] [] I J := by
  refine s_aload_n 0 dX7_make_7 rfl ?_
  refine s_bipush (v := -3) dX7_make_8 rfl ?_
  refine s_pick [] [] rfl ?_; exact k
theorem bX7_make_13 {l : Launch} {D : va_G} {aI aL : ClassId} {ad : Nat → Nat} {P : sa_P} {I : sa_I} {J : sa_J} {s0 : Int32}   (k : P (some (.int s0)) I J) : Sat (ER l D aI aL ad) M_X7_make P 13 [] [.int s0] I J := by
  exact s_iret rfl dX7_make_13 k
theorem bX7_make_14 {l : Launch} {D : va_G} {aI aL : ClassId} {ad : Nat → Nat} {P : sa_P} {I : sa_I} {J : sa_J} {x1 : Int32} {x2 : Int32} {x3 : Int32}   (k : Sat (ER l D aI aL ad) M_X7_make P 16 [(0, .ref (ad 0)), (1, .int x1), (2, .int x2), (3, .int x3)] [.int x2, .ref (ad 0)] I J) : Sat (ER l D aI aL ad) M_X7_make P 14 [(0, .ref (ad 0)), (1, .int x1), (2, .int x2), (3, .int x3)] [] I J := by
  refine s_aload_n 0 dX7_make_14 rfl ?_
  refine s_iload_n 2 dX7_make_15 rfl ?_
  exact k
theorem bX7_make_19 {l : Launch} {D : va_G} {aI aL : ClassId} {ad : Nat → Nat} {P : sa_P} {I : sa_I} {J : sa_J} {x1 : Int32} {x2 : Int32} {x3 : Int32} {s0 : Int32}   (kt : s0 = 0 → Sat (ER l D aI aL ad) M_X7_make P 30 [(0, .ref (ad 0))] [] I J) (kf : ¬ s0 = 0 → Sat (ER l D aI aL ad) M_X7_make P 22 [(0, .ref (ad 0)), (1, .int x1), (2, .int x2), (3, .int x3)] [] I J) : Sat (ER l D aI aL ad) M_X7_make P 19 [(0, .ref (ad 0)), (1, .int x1), (2, .int x2), (3, .int x3)] [.int s0] I J := by
  refine s_if_eq (tgt := 30) dX7_make_19 (by decide) (fun c => ?_) (fun c => ?_)
  · refine s_pick [0] [(0, .ref (ad 0))] rfl ?_; exact kt c
  · exact kf c
theorem bX7_make_22 {l : Launch} {D : va_G} {aI aL : ClassId} {ad : Nat → Nat} {P : sa_P} {I : sa_I} {J : sa_J} {x1 : Int32} {x2 : Int32} {x3 : Int32}   (k : Sat (ER l D aI aL ad) M_X7_make P 24 [(0, .ref (ad 0)), (1, .int x1), (2, .int x2), (3, .int x3)] [.int x3, .ref (ad 0)] I J) : Sat (ER l D aI aL ad) M_X7_make P 22 [(0, .ref (ad 0)), (1, .int x1), (2, .int x2), (3, .int x3)] [] I J := by
  refine s_aload_n 0 dX7_make_22 rfl ?_
  refine s_iload_n 3 dX7_make_23 rfl ?_
  exact k
theorem bX7_make_27 {l : Launch} {D : va_G} {aI aL : ClassId} {ad : Nat → Nat} {P : sa_P} {I : sa_I} {J : sa_J} {x1 : Int32} {x2 : Int32} {x3 : Int32} {s0 : Int32}   (kt : ¬ s0 = 0 → Sat (ER l D aI aL ad) M_X7_make P 36 [(0, .ref (ad 0)), (1, .int x1), (2, .int x2), (3, .int x3)] [] I J) (kf : s0 = 0 → Sat (ER l D aI aL ad) M_X7_make P 30 [(0, .ref (ad 0))] [] I J) : Sat (ER l D aI aL ad) M_X7_make P 27 [(0, .ref (ad 0)), (1, .int x1), (2, .int x2), (3, .int x3)] [.int s0] I J := by
  refine s_if_ne (tgt := 36) dX7_make_27 (by decide) (fun c => ?_) (fun c => ?_)
  · exact kt c
  · refine s_pick [0] [(0, .ref (ad 0))] rfl ?_; exact kf (by first | exact c | exact Classical.not_not.mp c)
theorem bX7_make_30 {l : Launch} {D : va_G} {aI aL : ClassId} {ad : Nat → Nat} {P : sa_P} {I : sa_I} {J : sa_J}    (k : Sat (ER l D aI aL ad) M_X7_make P 32 [] [.int (-1 : Int32), .ref (ad 0)] I J) : Sat (ER l D aI aL ad) M_X7_make P 30 [(0, .ref (ad 0))] [] I J := by
  refine s_aload_n 0 dX7_make_30 rfl ?_
  refine s_iconst (v := -1) dX7_make_31 rfl ?_
  refine s_pick [] [] rfl ?_; exact k
theorem bX7_make_35 {l : Launch} {D : va_G} {aI aL : ClassId} {ad : Nat → Nat} {P : sa_P} {I : sa_I} {J : sa_J} {s0 : Int32}   (k : P (some (.int s0)) I J) : Sat (ER l D aI aL ad) M_X7_make P 35 [] [.int s0] I J := by
  exact s_iret rfl dX7_make_35 k
theorem bX7_make_36 {l : Launch} {D : va_G} {aI aL : ClassId} {ad : Nat → Nat} {P : sa_P} {I : sa_I} {J : sa_J} {x1 : Int32} {x2 : Int32} {x3 : Int32}   (k : Sat (ER l D aI aL ad) M_X7_make P 38 [(0, .ref (ad 0)), (1, .int x1), (2, .int x2), (3, .int x3)] [.int (4 : Int32), .int x1] I J) : Sat (ER l D aI aL ad) M_X7_make P 36 [(0, .ref (ad 0)), (1, .int x1), (2, .int x2), (3, .int x3)] [] I J := by
  refine s_iload_n 1 dX7_make_36 rfl ?_
  refine s_iconst (v := 4) dX7_make_37 rfl ?_
  exact k
theorem bX7_make_41 {l : Launch} {D : va_G} {aI aL : ClassId} {ad : Nat → Nat} {P : sa_P} {I : sa_I} {J : sa_J} {x1 : Int32} {x2 : Int32} {x3 : Int32} {s0 : Int32}   (kt : ¬ s0 = 0 → Sat (ER l D aI aL ad) M_X7_make P 51 [(0, .ref (ad 0)), (1, .int x1), (2, .int x2), (3, .int x3)] [] I J) (kf : s0 = 0 → Sat (ER l D aI aL ad) M_X7_make P 44 [(0, .ref (ad 0))] [] I J) : Sat (ER l D aI aL ad) M_X7_make P 41 [(0, .ref (ad 0)), (1, .int x1), (2, .int x2), (3, .int x3)] [.int s0] I J := by
  refine s_if_ne (tgt := 51) dX7_make_41 (by decide) (fun c => ?_) (fun c => ?_)
  · exact kt c
  · refine s_pick [0] [(0, .ref (ad 0))] rfl ?_; exact kf (by first | exact c | exact Classical.not_not.mp c)
theorem bX7_make_44 {l : Launch} {D : va_G} {aI aL : ClassId} {ad : Nat → Nat} {P : sa_P} {I : sa_I} {J : sa_J}    (k : Sat (ER l D aI aL ad) M_X7_make P 47 [] [.int (-2 : Int32), .ref (ad 0)] I J) : Sat (ER l D aI aL ad) M_X7_make P 44 [(0, .ref (ad 0))] [] I J := by
  refine s_aload_n 0 dX7_make_44 rfl ?_
  refine s_bipush (v := -2) dX7_make_45 rfl ?_
  refine s_pick [] [] rfl ?_; exact k
theorem bX7_make_50 {l : Launch} {D : va_G} {aI aL : ClassId} {ad : Nat → Nat} {P : sa_P} {I : sa_I} {J : sa_J} {s0 : Int32}   (k : P (some (.int s0)) I J) : Sat (ER l D aI aL ad) M_X7_make P 50 [] [.int s0] I J := by
  exact s_iret rfl dX7_make_50 k
theorem bX7_make_51 {l : Launch} {D : va_G} {aI aL : ClassId} {ad : Nat → Nat} {P : sa_P} {I : sa_I} {J : sa_J} {x1 : Int32} {x2 : Int32} {x3 : Int32}   (k : Sat (ER l D aI aL ad) M_X7_make P 57 [(0, .ref (ad 0)), (1, .int x1), (3, .int x3)] [.ref (ad 10), .int x2, .ref (ad 0)] I J) : Sat (ER l D aI aL ad) M_X7_make P 51 [(0, .ref (ad 0)), (1, .int x1), (2, .int x2), (3, .int x3)] [] I J := by
  refine s_aload_n 0 dX7_make_51 rfl ?_
  refine s_iload_n 2 dX7_make_52 rfl ?_
  refine s_aload_n 0 dX7_make_53 rfl ?_
  refine g_X7_38 dX7_make_54 rfl ?_
  refine s_pick [0, 1, 3] [(0, .ref (ad 0)), (1, .int x1), (3, .int x3)] rfl ?_; exact k
theorem bX7_make_60 {l : Launch} {D : va_G} {aI aL : ClassId} {ad : Nat → Nat} {P : sa_P} {I : sa_I} {J : sa_J} {x1 : Int32} {x3 : Int32}   (k : Sat (ER l D aI aL ad) M_X7_make P 66 [(0, .ref (ad 0)), (1, .int x1)] [.ref (ad 11), .int x3, .ref (ad 0)] I J) : Sat (ER l D aI aL ad) M_X7_make P 60 [(0, .ref (ad 0)), (1, .int x1), (3, .int x3)] [] I J := by
  refine s_aload_n 0 dX7_make_60 rfl ?_
  refine s_iload_n 2 dX7_make_61 rfl ?_
  refine s_aload_n 0 dX7_make_62 rfl ?_
  refine g_X7_41 dX7_make_63 rfl ?_
  refine s_pick [0, 1] [(0, .ref (ad 0)), (1, .int x1)] rfl ?_; exact k
theorem bX7_make_69 {l : Launch} {D : va_G} {aI aL : ClassId} {ad : Nat → Nat} {P : sa_P} {I : sa_I} {J : sa_J} {x1 : Int32} {v70 : Int32}  (f70 : (0 : Int32) = v70) (k : Sat (ER l D aI aL ad) M_X7_make P 72 [(0, .ref (ad 0)), (1, .int x1), (4, .int v70)] [] I J) : Sat (ER l D aI aL ad) M_X7_make P 69 [(0, .ref (ad 0)), (1, .int x1)] [] I J := by
  refine s_iconst (v := 0) dX7_make_69 rfl ?_
  refine s_eqi f70 ?_
  refine s_istore [(4, .int v70), (0, .ref (ad 0)), (1, .int x1)] dX7_make_70 (Nat.lt_of_lt_of_le (Nat.lt_succ_self _) (Nat.le_of_ble_eq_true rfl)) rfl ?_
  refine s_pick [1, 2, 0] [(0, .ref (ad 0)), (1, .int x1), (4, .int v70)] rfl ?_; exact k
theorem bX7_make_72 {l : Launch} {D : va_G} {aI aL : ClassId} {ad : Nat → Nat} {P : sa_P} {I : sa_I} {J : sa_J} {x1 : Int32} {x4 : Int32}   (kt : (3 : Int32) ≤ x4 → Sat (ER l D aI aL ad) M_X7_make P 128 [(0, .ref (ad 0)), (1, .int x1)] [] I J) (kf : ¬ (3 : Int32) ≤ x4 → Sat (ER l D aI aL ad) M_X7_make P 78 [(0, .ref (ad 0)), (1, .int x1), (4, .int x4)] [] I J) : Sat (ER l D aI aL ad) M_X7_make P 72 [(0, .ref (ad 0)), (1, .int x1), (4, .int x4)] [] I J := by
  refine s_iload 2 dX7_make_72 rfl ?_
  refine s_iconst (v := 3) dX7_make_74 rfl ?_
  refine s_icmp_ge (tgt := 128) dX7_make_75 (by decide) (fun c => ?_) (fun c => ?_)
  · refine s_pick [0, 1] [(0, .ref (ad 0)), (1, .int x1)] rfl ?_; exact kt c
  · exact kf c
theorem bX7_make_78 {l : Launch} {D : va_G} {aI aL : ClassId} {ad : Nat → Nat} {P : sa_P} {I : sa_I} {J : sa_J} {x1 : Int32} {x4 : Int32}   (kt : ¬ x1 = 0 → Sat (ER l D aI aL ad) M_X7_make P 106 [(0, .ref (ad 0)), (1, .int x1), (4, .int x4)] [.int x4, .ref (ad 12)] I J) (kf : x1 = 0 → Sat (ER l D aI aL ad) M_X7_make P 88 [(0, .ref (ad 0)), (1, .int x1), (4, .int x4)] [.int x4, .ref (ad 12)] I J) : Sat (ER l D aI aL ad) M_X7_make P 78 [(0, .ref (ad 0)), (1, .int x1), (4, .int x4)] [] I J := by
  refine s_aload_n 0 dX7_make_78 rfl ?_
  refine g_X7_44 dX7_make_79 rfl ?_
  refine s_iload 2 dX7_make_82 rfl ?_
  refine s_iload_n 1 dX7_make_84 rfl ?_
  refine s_if_ne (tgt := 106) dX7_make_85 (by decide) (fun c => ?_) (fun c => ?_)
  · exact kt c
  · exact kf (by first | exact c | exact Classical.not_not.mp c)
theorem bX7_make_88 {l : Launch} {D : va_G} {aI aL : ClassId} {ad : Nat → Nat} {P : sa_P} {I : sa_I} {J : sa_J} {x1 : Int32} {x4 : Int32} {s1 : Int32} {j92 : Nat} {j99 : Nat} (e92 : x4 = nI j92) (h94 : j92 < 3) (e99 : x4 = nI j99) (h101 : j99 < 3)  (k : Sat (ER l D aI aL ad) M_X7_make P 121 [(0, .ref (ad 0)), (1, .int x1), (4, .int x4)] [.long ((J 10 j92) + (J 11 j99)), .int s1, .ref (ad 12)] I J) : Sat (ER l D aI aL ad) M_X7_make P 88 [(0, .ref (ad 0)), (1, .int x1), (4, .int x4)] [.int s1, .ref (ad 12)] I J := by
  refine s_aload_n 0 dX7_make_88 rfl ?_
  refine g_X7_38 dX7_make_89 rfl ?_
  refine s_iload 2 dX7_make_92 rfl ?_
  refine s_eqi e92 ?_
  refine s_laloadN aJ_R10 h94 (by decide) dX7_make_94 ?_
  refine s_aload_n 0 dX7_make_95 rfl ?_
  refine g_X7_41 dX7_make_96 rfl ?_
  refine s_iload 2 dX7_make_99 rfl ?_
  refine s_eqi e99 ?_
  refine s_laloadN aJ_R11 h101 (by decide) dX7_make_101 ?_
  refine s_ladd dX7_make_102 ?_
  refine s_goto (tgt := 121) dX7_make_103 (by decide) ?_
  exact k
theorem bX7_make_106 {l : Launch} {D : va_G} {aI aL : ClassId} {ad : Nat → Nat} {P : sa_P} {I : sa_I} {J : sa_J} {x1 : Int32} {x4 : Int32} {s1 : Int32} {j110 : Nat} {j117 : Nat} (e110 : x4 = nI j110) (h112 : j110 < 3) (e117 : x4 = nI j117) (h119 : j117 < 3)  (k : Sat (ER l D aI aL ad) M_X7_make P 121 [(0, .ref (ad 0)), (1, .int x1), (4, .int x4)] [.long ((J 10 j110) - (J 11 j117)), .int s1, .ref (ad 12)] I J) : Sat (ER l D aI aL ad) M_X7_make P 106 [(0, .ref (ad 0)), (1, .int x1), (4, .int x4)] [.int s1, .ref (ad 12)] I J := by
  refine s_aload_n 0 dX7_make_106 rfl ?_
  refine g_X7_38 dX7_make_107 rfl ?_
  refine s_iload 2 dX7_make_110 rfl ?_
  refine s_eqi e110 ?_
  refine s_laloadN aJ_R10 h112 (by decide) dX7_make_112 ?_
  refine s_aload_n 0 dX7_make_113 rfl ?_
  refine g_X7_41 dX7_make_114 rfl ?_
  refine s_iload 2 dX7_make_117 rfl ?_
  refine s_eqi e117 ?_
  refine s_laloadN aJ_R11 h119 (by decide) dX7_make_119 ?_
  refine s_lsub dX7_make_120 ?_
  exact k
theorem bX7_make_121 {l : Launch} {D : va_G} {aI aL : ClassId} {ad : Nat → Nat} {P : sa_P} {I : sa_I} {J : sa_J} {x1 : Int32} {x4 : Int32} {s1 : Nat} {s2 : Int64} {v122 : Int32} (h121 : s1 < 3) (f122 : x4 + 1 = v122) (k : Sat (ER l D aI aL ad) M_X7_make P 72 [(0, .ref (ad 0)), (1, .int x1), (4, .int v122)] [] I (sa_uJ J 12 s1 s2)) : Sat (ER l D aI aL ad) M_X7_make P 121 [(0, .ref (ad 0)), (1, .int x1), (4, .int x4)] [.long s2, .int (nI s1), .ref (ad 12)] I J := by
  refine s_lastoreN aJ_R12 h121 (by decide) dX7_make_121 ?_
  refine s_iinc 2 v122 [(4, .int v122), (0, .ref (ad 0)), (1, .int x1)] dX7_make_122 rfl f122 (Nat.lt_of_lt_of_le (Nat.lt_succ_self _) (Nat.le_of_ble_eq_true rfl)) rfl ?_
  refine s_goto (tgt := 72) dX7_make_125 (by decide) ?_
  refine s_pick [1, 2, 0] [(0, .ref (ad 0)), (1, .int x1), (4, .int v122)] rfl ?_; exact k
theorem bX7_make_128 {l : Launch} {D : va_G} {aI aL : ClassId} {ad : Nat → Nat} {P : sa_P} {I : sa_I} {J : sa_J} {x1 : Int32}   (kt : ¬ x1 = (2 : Int32) → Sat (ER l D aI aL ad) M_X7_make P 137 [(0, .ref (ad 0)), (1, .int x1)] [] I J) (kf : x1 = (2 : Int32) → Sat (ER l D aI aL ad) M_X7_make P 133 [(0, .ref (ad 0)), (1, .int x1)] [] I J) : Sat (ER l D aI aL ad) M_X7_make P 128 [(0, .ref (ad 0)), (1, .int x1)] [] I J := by
  refine s_iload_n 1 dX7_make_128 rfl ?_
  refine s_iconst (v := 2) dX7_make_129 rfl ?_
  refine s_icmp_ne (tgt := 137) dX7_make_130 (by decide) (fun c => ?_) (fun c => ?_)
  · exact kt c
  · exact kf (by first | exact c | exact Classical.not_not.mp c)
theorem bX7_make_133 {l : Launch} {D : va_G} {aI aL : ClassId} {ad : Nat → Nat} {P : sa_P} {I : sa_I} {J : sa_J} {x1 : Int32}   (k : Sat (ER l D aI aL ad) M_X7_make P 134 [(0, .ref (ad 0)), (1, .int x1)] [.ref (ad 0)] I J) : Sat (ER l D aI aL ad) M_X7_make P 133 [(0, .ref (ad 0)), (1, .int x1)] [] I J := by
  refine s_aload_n 0 dX7_make_133 rfl ?_
  exact k
theorem bX7_make_137 {l : Launch} {D : va_G} {aI aL : ClassId} {ad : Nat → Nat} {P : sa_P} {I : sa_I} {J : sa_J} {x1 : Int32}   (kt : ¬ x1 = (3 : Int32) → Sat (ER l D aI aL ad) M_X7_make P 156 [(0, .ref (ad 0))] [] I J) (kf : x1 = (3 : Int32) → Sat (ER l D aI aL ad) M_X7_make P 142 [(0, .ref (ad 0))] [] I J) : Sat (ER l D aI aL ad) M_X7_make P 137 [(0, .ref (ad 0)), (1, .int x1)] [] I J := by
  refine s_iload_n 1 dX7_make_137 rfl ?_
  refine s_iconst (v := 3) dX7_make_138 rfl ?_
  refine s_icmp_ne (tgt := 156) dX7_make_139 (by decide) (fun c => ?_) (fun c => ?_)
  · refine s_pick [0] [(0, .ref (ad 0))] rfl ?_; exact kt c
  · refine s_pick [0] [(0, .ref (ad 0))] rfl ?_; exact kf (by first | exact c | exact Classical.not_not.mp c)
theorem bX7_make_142 {l : Launch} {D : va_G} {aI aL : ClassId} {ad : Nat → Nat} {P : sa_P} {I : sa_I} {J : sa_J}    (k : Sat (ER l D aI aL ad) M_X7_make P 143 [(0, .ref (ad 0))] [.ref (ad 0)] I J) : Sat (ER l D aI aL ad) M_X7_make P 142 [(0, .ref (ad 0))] [] I J := by
  refine s_aload_n 0 dX7_make_142 rfl ?_
  exact k
theorem bX7_make_146 {l : Launch} {D : va_G} {aI aL : ClassId} {ad : Nat → Nat} {P : sa_P} {I : sa_I} {J : sa_J} {s0 : Int32}   (kt : ¬ s0 = 0 → Sat (ER l D aI aL ad) M_X7_make P 156 [(0, .ref (ad 0))] [] I J) (kf : s0 = 0 → Sat (ER l D aI aL ad) M_X7_make P 149 [(0, .ref (ad 0))] [] I J) : Sat (ER l D aI aL ad) M_X7_make P 146 [(0, .ref (ad 0))] [.int s0] I J := by
  refine s_if_ne (tgt := 156) dX7_make_146 (by decide) (fun c => ?_) (fun c => ?_)
  · exact kt c
  · exact kf (by first | exact c | exact Classical.not_not.mp c)
theorem bX7_make_149 {l : Launch} {D : va_G} {aI aL : ClassId} {ad : Nat → Nat} {P : sa_P} {I : sa_I} {J : sa_J}    (k : Sat (ER l D aI aL ad) M_X7_make P 152 [] [.int (-3 : Int32), .ref (ad 0)] I J) : Sat (ER l D aI aL ad) M_X7_make P 149 [(0, .ref (ad 0))] [] I J := by
  refine s_aload_n 0 dX7_make_149 rfl ?_
  refine s_bipush (v := -3) dX7_make_150 rfl ?_
  refine s_pick [] [] rfl ?_; exact k
theorem bX7_make_155 {l : Launch} {D : va_G} {aI aL : ClassId} {ad : Nat → Nat} {P : sa_P} {I : sa_I} {J : sa_J} {s0 : Int32}   (k : P (some (.int s0)) I J) : Sat (ER l D aI aL ad) M_X7_make P 155 [] [.int s0] I J := by
  exact s_iret rfl dX7_make_155 k
theorem bX7_make_156 {l : Launch} {D : va_G} {aI aL : ClassId} {ad : Nat → Nat} {P : sa_P} {I : sa_I} {J : sa_J}    (k : Sat (ER l D aI aL ad) M_X7_make P 175 [] [.long (J 12 2), .long (J 12 1), .long (J 12 0), .ref (ad 0)] I J) : Sat (ER l D aI aL ad) M_X7_make P 156 [(0, .ref (ad 0))] [] I J := by
  refine s_aload_n 0 dX7_make_156 rfl ?_
  refine s_aload_n 0 dX7_make_157 rfl ?_
  refine g_X7_44 dX7_make_158 rfl ?_
  refine s_iconst (v := 0) dX7_make_161 rfl ?_
  refine s_eqi (y := nI 0) rfl ?_
  refine s_laloadN aJ_R12 (by decide) (by decide) dX7_make_162 ?_
  refine s_aload_n 0 dX7_make_163 rfl ?_
  refine g_X7_44 dX7_make_164 rfl ?_
  refine s_iconst (v := 1) dX7_make_167 rfl ?_
  refine s_eqi (y := nI 1) rfl ?_
  refine s_laloadN aJ_R12 (by decide) (by decide) dX7_make_168 ?_
  refine s_aload_n 0 dX7_make_169 rfl ?_
  refine g_X7_44 dX7_make_170 rfl ?_
  refine s_iconst (v := 2) dX7_make_173 rfl ?_
  refine s_eqi (y := nI 2) rfl ?_
  refine s_laloadN aJ_R12 (by decide) (by decide) dX7_make_174 ?_
  refine s_pick [] [] rfl ?_; exact k
theorem bX7_make_178 {l : Launch} {D : va_G} {aI aL : ClassId} {ad : Nat → Nat} {P : sa_P} {I : sa_I} {J : sa_J} {s0 : Int32}   (k : P (some (.int s0)) I J) : Sat (ER l D aI aL ad) M_X7_make P 178 [] [.int s0] I J := by
  exact s_iret rfl dX7_make_178 k
/-! X7_coordinate -/
theorem dX7_coordinate_0 : decode cX7_coordinate 0 = .ok (.aload_n 0, 1) := by decide +kernel
theorem dX7_coordinate_1 : decode cX7_coordinate 1 = .ok (.invokevirtual 203, 3) := by decide +kernel
theorem dX7_coordinate_4 : decode cX7_coordinate 4 = .ok (.ifCond .ne 10, 3) := by decide +kernel
theorem dX7_coordinate_7 : decode cX7_coordinate 7 = .ok (.aload_n 0, 1) := by decide +kernel
theorem dX7_coordinate_8 : decode cX7_coordinate 8 = .ok (.bipush (-3), 2) := by decide +kernel
theorem dX7_coordinate_10 : decode cX7_coordinate 10 = .ok (.invokevirtual 214, 3) := by decide +kernel
theorem dX7_coordinate_13 : decode cX7_coordinate 13 = .ok (.ireturn, 1) := by decide +kernel
theorem dX7_coordinate_14 : decode cX7_coordinate 14 = .ok (.aload_n 0, 1) := by decide +kernel
theorem dX7_coordinate_15 : decode cX7_coordinate 15 = .ok (.iload_n 1, 1) := by decide +kernel
theorem dX7_coordinate_16 : decode cX7_coordinate 16 = .ok (.invokevirtual 232, 3) := by decide +kernel
theorem dX7_coordinate_19 : decode cX7_coordinate 19 = .ok (.ifCond .eq 27, 3) := by decide +kernel
theorem dX7_coordinate_22 : decode cX7_coordinate 22 = .ok (.iload_n 2, 1) := by decide +kernel
theorem dX7_coordinate_23 : decode cX7_coordinate 23 = .ok (.aload_n 0, 1) := by decide +kernel
theorem dX7_coordinate_24 : decode cX7_coordinate 24 = .ok (.getfield 101, 3) := by decide +kernel
theorem dX7_coordinate_27 : decode cX7_coordinate 27 = .ok (.invokestatic 210, 3) := by decide +kernel
theorem dX7_coordinate_30 : decode cX7_coordinate 30 = .ok (.ifCond .eq 16, 3) := by decide +kernel
theorem dX7_coordinate_33 : decode cX7_coordinate 33 = .ok (.aload_n 0, 1) := by decide +kernel
theorem dX7_coordinate_34 : decode cX7_coordinate 34 = .ok (.getfield 17, 3) := by decide +kernel
theorem dX7_coordinate_37 : decode cX7_coordinate 37 = .ok (.iconst 3, 1) := by decide +kernel
theorem dX7_coordinate_38 : decode cX7_coordinate 38 = .ok (.iload_n 1, 1) := by decide +kernel
theorem dX7_coordinate_39 : decode cX7_coordinate 39 = .ok (.imul, 1) := by decide +kernel
theorem dX7_coordinate_40 : decode cX7_coordinate 40 = .ok (.iload_n 2, 1) := by decide +kernel
theorem dX7_coordinate_41 : decode cX7_coordinate 41 = .ok (.iadd, 1) := by decide +kernel
theorem dX7_coordinate_42 : decode cX7_coordinate 42 = .ok (.iaload, 1) := by decide +kernel
theorem dX7_coordinate_43 : decode cX7_coordinate 43 = .ok (.goto 8, 3) := by decide +kernel
theorem dX7_coordinate_46 : decode cX7_coordinate 46 = .ok (.aload_n 0, 1) := by decide +kernel
theorem dX7_coordinate_47 : decode cX7_coordinate 47 = .ok (.iconst (-1), 1) := by decide +kernel
theorem dX7_coordinate_48 : decode cX7_coordinate 48 = .ok (.invokevirtual 214, 3) := by decide +kernel
theorem dX7_coordinate_51 : decode cX7_coordinate 51 = .ok (.ireturn, 1) := by decide +kernel
theorem bX7_coordinate_0 {l : Launch} {D : va_G} {aI aL : ClassId} {ad : Nat → Nat} {P : sa_P} {I : sa_I} {J : sa_J} {x1 : Int32} {x2 : Int32}   (k : Sat (ER l D aI aL ad) M_X7_coordinate P 1 [(0, .ref (ad 0)), (1, .int x1), (2, .int x2)] [.ref (ad 0)] I J) : Sat (ER l D aI aL ad) M_X7_coordinate P 0 [(0, .ref (ad 0)), (1, .int x1), (2, .int x2)] [] I J := by
  refine s_aload_n 0 dX7_coordinate_0 rfl ?_
  exact k
theorem bX7_coordinate_4 {l : Launch} {D : va_G} {aI aL : ClassId} {ad : Nat → Nat} {P : sa_P} {I : sa_I} {J : sa_J} {x1 : Int32} {x2 : Int32} {s0 : Int32}   (kt : ¬ s0 = 0 → Sat (ER l D aI aL ad) M_X7_coordinate P 14 [(0, .ref (ad 0)), (1, .int x1), (2, .int x2)] [] I J) (kf : s0 = 0 → Sat (ER l D aI aL ad) M_X7_coordinate P 7 [(0, .ref (ad 0))] [] I J) : Sat (ER l D aI aL ad) M_X7_coordinate P 4 [(0, .ref (ad 0)), (1, .int x1), (2, .int x2)] [.int s0] I J := by
  refine s_if_ne (tgt := 14) dX7_coordinate_4 (by decide) (fun c => ?_) (fun c => ?_)
  · exact kt c
  · refine s_pick [0] [(0, .ref (ad 0))] rfl ?_; exact kf (by first | exact c | exact Classical.not_not.mp c)
theorem bX7_coordinate_7 {l : Launch} {D : va_G} {aI aL : ClassId} {ad : Nat → Nat} {P : sa_P} {I : sa_I} {J : sa_J}    (k : Sat (ER l D aI aL ad) M_X7_coordinate P 10 [] [.int (-3 : Int32), .ref (ad 0)] I J) : Sat (ER l D aI aL ad) M_X7_coordinate P 7 [(0, .ref (ad 0))] [] I J := by
  refine s_aload_n 0 dX7_coordinate_7 rfl ?_
  refine s_bipush (v := -3) dX7_coordinate_8 rfl ?_
  refine s_pick [] [] rfl ?_; exact k
theorem bX7_coordinate_13 {l : Launch} {D : va_G} {aI aL : ClassId} {ad : Nat → Nat} {P : sa_P} {I : sa_I} {J : sa_J} {s0 : Int32}   (k : P (some (.int s0)) I J) : Sat (ER l D aI aL ad) M_X7_coordinate P 13 [] [.int s0] I J := by
  exact s_iret rfl dX7_coordinate_13 k
theorem bX7_coordinate_14 {l : Launch} {D : va_G} {aI aL : ClassId} {ad : Nat → Nat} {P : sa_P} {I : sa_I} {J : sa_J} {x1 : Int32} {x2 : Int32}   (k : Sat (ER l D aI aL ad) M_X7_coordinate P 16 [(0, .ref (ad 0)), (1, .int x1), (2, .int x2)] [.int x1, .ref (ad 0)] I J) : Sat (ER l D aI aL ad) M_X7_coordinate P 14 [(0, .ref (ad 0)), (1, .int x1), (2, .int x2)] [] I J := by
  refine s_aload_n 0 dX7_coordinate_14 rfl ?_
  refine s_iload_n 1 dX7_coordinate_15 rfl ?_
  exact k
theorem bX7_coordinate_19 {l : Launch} {D : va_G} {aI aL : ClassId} {ad : Nat → Nat} {P : sa_P} {I : sa_I} {J : sa_J} {x1 : Int32} {x2 : Int32} {s0 : Int32}   (kt : s0 = 0 → Sat (ER l D aI aL ad) M_X7_coordinate P 46 [(0, .ref (ad 0))] [] I J) (kf : ¬ s0 = 0 → Sat (ER l D aI aL ad) M_X7_coordinate P 22 [(0, .ref (ad 0)), (1, .int x1), (2, .int x2)] [] I J) : Sat (ER l D aI aL ad) M_X7_coordinate P 19 [(0, .ref (ad 0)), (1, .int x1), (2, .int x2)] [.int s0] I J := by
  refine s_if_eq (tgt := 46) dX7_coordinate_19 (by decide) (fun c => ?_) (fun c => ?_)
  · refine s_pick [0] [(0, .ref (ad 0))] rfl ?_; exact kt c
  · exact kf c
theorem bX7_coordinate_22 {l : Launch} {D : va_G} {aI aL : ClassId} {ad : Nat → Nat} {P : sa_P} {I : sa_I} {J : sa_J} {x1 : Int32} {x2 : Int32}   (k : Sat (ER l D aI aL ad) M_X7_coordinate P 27 [(0, .ref (ad 0)), (1, .int x1), (2, .int x2)] [.int (I 0 1), .int x2] I J) : Sat (ER l D aI aL ad) M_X7_coordinate P 22 [(0, .ref (ad 0)), (1, .int x1), (2, .int x2)] [] I J := by
  refine s_iload_n 2 dX7_coordinate_22 rfl ?_
  refine s_aload_n 0 dX7_coordinate_23 rfl ?_
  refine g_X7_101 dX7_coordinate_24 rfl ?_
  exact k
theorem bX7_coordinate_30 {l : Launch} {D : va_G} {aI aL : ClassId} {ad : Nat → Nat} {P : sa_P} {I : sa_I} {J : sa_J} {x1 : Int32} {x2 : Int32} {s0 : Int32}   (kt : s0 = 0 → Sat (ER l D aI aL ad) M_X7_coordinate P 46 [(0, .ref (ad 0))] [] I J) (kf : ¬ s0 = 0 → Sat (ER l D aI aL ad) M_X7_coordinate P 33 [(0, .ref (ad 0)), (1, .int x1), (2, .int x2)] [] I J) : Sat (ER l D aI aL ad) M_X7_coordinate P 30 [(0, .ref (ad 0)), (1, .int x1), (2, .int x2)] [.int s0] I J := by
  refine s_if_eq (tgt := 46) dX7_coordinate_30 (by decide) (fun c => ?_) (fun c => ?_)
  · refine s_pick [0] [(0, .ref (ad 0))] rfl ?_; exact kt c
  · exact kf c
theorem bX7_coordinate_33 {l : Launch} {D : va_G} {aI aL : ClassId} {ad : Nat → Nat} {P : sa_P} {I : sa_I} {J : sa_J} {x1 : Int32} {x2 : Int32} {j41 : Nat} (e41 : ((3 : Int32) * x1) + x2 = nI j41) (h42 : j41 < 300)  (k : Sat (ER l D aI aL ad) M_X7_coordinate P 51 [] [.int (I 3 j41)] I J) : Sat (ER l D aI aL ad) M_X7_coordinate P 33 [(0, .ref (ad 0)), (1, .int x1), (2, .int x2)] [] I J := by
  refine s_aload_n 0 dX7_coordinate_33 rfl ?_
  refine g_X7_17 dX7_coordinate_34 rfl ?_
  refine s_iconst (v := 3) dX7_coordinate_37 rfl ?_
  refine s_iload_n 1 dX7_coordinate_38 rfl ?_
  refine s_imul dX7_coordinate_39 ?_
  refine s_iload_n 2 dX7_coordinate_40 rfl ?_
  refine s_iadd dX7_coordinate_41 ?_
  refine s_eqi e41 ?_
  refine s_ialoadN aI_R3 h42 (by decide) dX7_coordinate_42 ?_
  refine s_goto (tgt := 51) dX7_coordinate_43 (by decide) ?_
  refine s_pick [] [] rfl ?_; exact k
theorem bX7_coordinate_46 {l : Launch} {D : va_G} {aI aL : ClassId} {ad : Nat → Nat} {P : sa_P} {I : sa_I} {J : sa_J}    (k : Sat (ER l D aI aL ad) M_X7_coordinate P 48 [] [.int (-1 : Int32), .ref (ad 0)] I J) : Sat (ER l D aI aL ad) M_X7_coordinate P 46 [(0, .ref (ad 0))] [] I J := by
  refine s_aload_n 0 dX7_coordinate_46 rfl ?_
  refine s_iconst (v := -1) dX7_coordinate_47 rfl ?_
  refine s_pick [] [] rfl ?_; exact k
theorem bX7_coordinate_51 {l : Launch} {D : va_G} {aI aL : ClassId} {ad : Nat → Nat} {P : sa_P} {I : sa_I} {J : sa_J} {s0 : Int32}   (k : P (some (.int s0)) I J) : Sat (ER l D aI aL ad) M_X7_coordinate P 51 [] [.int s0] I J := by
  exact s_iret rfl dX7_coordinate_51 k
/-! X7_norm -/
theorem dX7_norm_0 : decode cX7_norm 0 = .ok (.aload_n 0, 1) := by decide +kernel
theorem dX7_norm_1 : decode cX7_norm 1 = .ok (.invokevirtual 203, 3) := by decide +kernel
theorem dX7_norm_4 : decode cX7_norm 4 = .ok (.ifCond .ne 10, 3) := by decide +kernel
theorem dX7_norm_7 : decode cX7_norm 7 = .ok (.aload_n 0, 1) := by decide +kernel
theorem dX7_norm_8 : decode cX7_norm 8 = .ok (.bipush (-3), 2) := by decide +kernel
theorem dX7_norm_10 : decode cX7_norm 10 = .ok (.invokevirtual 206, 3) := by decide +kernel
theorem dX7_norm_13 : decode cX7_norm 13 = .ok (.lreturn, 1) := by decide +kernel
theorem dX7_norm_14 : decode cX7_norm 14 = .ok (.aload_n 0, 1) := by decide +kernel
theorem dX7_norm_15 : decode cX7_norm 15 = .ok (.iload_n 1, 1) := by decide +kernel
theorem dX7_norm_16 : decode cX7_norm 16 = .ok (.invokevirtual 232, 3) := by decide +kernel
theorem dX7_norm_19 : decode cX7_norm 19 = .ok (.ifCond .ne 9, 3) := by decide +kernel
theorem dX7_norm_22 : decode cX7_norm 22 = .ok (.aload_n 0, 1) := by decide +kernel
theorem dX7_norm_23 : decode cX7_norm 23 = .ok (.iconst (-1), 1) := by decide +kernel
theorem dX7_norm_24 : decode cX7_norm 24 = .ok (.invokevirtual 206, 3) := by decide +kernel
theorem dX7_norm_27 : decode cX7_norm 27 = .ok (.lreturn, 1) := by decide +kernel
theorem dX7_norm_28 : decode cX7_norm 28 = .ok (.aload_n 0, 1) := by decide +kernel
theorem dX7_norm_29 : decode cX7_norm 29 = .ok (.iload_n 1, 1) := by decide +kernel
theorem dX7_norm_30 : decode cX7_norm 30 = .ok (.aload_n 0, 1) := by decide +kernel
theorem dX7_norm_31 : decode cX7_norm 31 = .ok (.getfield 38, 3) := by decide +kernel
theorem dX7_norm_34 : decode cX7_norm 34 = .ok (.invokevirtual 235, 3) := by decide +kernel
theorem dX7_norm_37 : decode cX7_norm 37 = .ok (.aload_n 0, 1) := by decide +kernel
theorem dX7_norm_38 : decode cX7_norm 38 = .ok (.aload_n 0, 1) := by decide +kernel
theorem dX7_norm_39 : decode cX7_norm 39 = .ok (.getfield 38, 3) := by decide +kernel
theorem dX7_norm_42 : decode cX7_norm 42 = .ok (.invokevirtual 225, 3) := by decide +kernel
theorem dX7_norm_45 : decode cX7_norm 45 = .ok (.iload_n 2, 1) := by decide +kernel
theorem dX7_norm_46 : decode cX7_norm 46 = .ok (.tableswitch 57 0 2 #[26, 31, 36], 26) := by decide +kernel
theorem dX7_norm_72 : decode cX7_norm 72 = .ok (.aload_n 0, 1) := by decide +kernel
theorem dX7_norm_73 : decode cX7_norm 73 = .ok (.invokevirtual 193, 3) := by decide +kernel
theorem dX7_norm_76 : decode cX7_norm 76 = .ok (.lreturn, 1) := by decide +kernel
theorem dX7_norm_77 : decode cX7_norm 77 = .ok (.aload_n 0, 1) := by decide +kernel
theorem dX7_norm_78 : decode cX7_norm 78 = .ok (.invokevirtual 189, 3) := by decide +kernel
theorem dX7_norm_81 : decode cX7_norm 81 = .ok (.lreturn, 1) := by decide +kernel
theorem dX7_norm_82 : decode cX7_norm 82 = .ok (.aload_n 0, 1) := by decide +kernel
theorem dX7_norm_83 : decode cX7_norm 83 = .ok (.getfield 101, 3) := by decide +kernel
theorem dX7_norm_86 : decode cX7_norm 86 = .ok (.iconst 2, 1) := by decide +kernel
theorem dX7_norm_87 : decode cX7_norm 87 = .ok (.if_icmp .ne 11, 3) := by decide +kernel
theorem dX7_norm_90 : decode cX7_norm 90 = .ok (.aload_n 0, 1) := by decide +kernel
theorem dX7_norm_91 : decode cX7_norm 91 = .ok (.invokevirtual 189, 3) := by decide +kernel
theorem dX7_norm_94 : decode cX7_norm 94 = .ok (.lneg, 1) := by decide +kernel
theorem dX7_norm_95 : decode cX7_norm 95 = .ok (.goto 7, 3) := by decide +kernel
theorem dX7_norm_98 : decode cX7_norm 98 = .ok (.aload_n 0, 1) := by decide +kernel
theorem dX7_norm_99 : decode cX7_norm 99 = .ok (.invokevirtual 196, 3) := by decide +kernel
theorem dX7_norm_102 : decode cX7_norm 102 = .ok (.lreturn, 1) := by decide +kernel
theorem dX7_norm_103 : decode cX7_norm 103 = .ok (.aload_n 0, 1) := by decide +kernel
theorem dX7_norm_104 : decode cX7_norm 104 = .ok (.bipush (-2), 2) := by decide +kernel
theorem dX7_norm_106 : decode cX7_norm 106 = .ok (.invokevirtual 206, 3) := by decide +kernel
theorem dX7_norm_109 : decode cX7_norm 109 = .ok (.lreturn, 1) := by decide +kernel
theorem bX7_norm_0 {l : Launch} {D : va_G} {aI aL : ClassId} {ad : Nat → Nat} {P : sa_P} {I : sa_I} {J : sa_J} {x1 : Int32} {x2 : Int32}   (k : Sat (ER l D aI aL ad) M_X7_norm P 1 [(0, .ref (ad 0)), (1, .int x1), (2, .int x2)] [.ref (ad 0)] I J) : Sat (ER l D aI aL ad) M_X7_norm P 0 [(0, .ref (ad 0)), (1, .int x1), (2, .int x2)] [] I J := by
  refine s_aload_n 0 dX7_norm_0 rfl ?_
  exact k
theorem bX7_norm_4 {l : Launch} {D : va_G} {aI aL : ClassId} {ad : Nat → Nat} {P : sa_P} {I : sa_I} {J : sa_J} {x1 : Int32} {x2 : Int32} {s0 : Int32}   (kt : ¬ s0 = 0 → Sat (ER l D aI aL ad) M_X7_norm P 14 [(0, .ref (ad 0)), (1, .int x1), (2, .int x2)] [] I J) (kf : s0 = 0 → Sat (ER l D aI aL ad) M_X7_norm P 7 [(0, .ref (ad 0))] [] I J) : Sat (ER l D aI aL ad) M_X7_norm P 4 [(0, .ref (ad 0)), (1, .int x1), (2, .int x2)] [.int s0] I J := by
  refine s_if_ne (tgt := 14) dX7_norm_4 (by decide) (fun c => ?_) (fun c => ?_)
  · exact kt c
  · refine s_pick [0] [(0, .ref (ad 0))] rfl ?_; exact kf (by first | exact c | exact Classical.not_not.mp c)
theorem bX7_norm_7 {l : Launch} {D : va_G} {aI aL : ClassId} {ad : Nat → Nat} {P : sa_P} {I : sa_I} {J : sa_J}    (k : Sat (ER l D aI aL ad) M_X7_norm P 10 [] [.int (-3 : Int32), .ref (ad 0)] I J) : Sat (ER l D aI aL ad) M_X7_norm P 7 [(0, .ref (ad 0))] [] I J := by
  refine s_aload_n 0 dX7_norm_7 rfl ?_
  refine s_bipush (v := -3) dX7_norm_8 rfl ?_
  refine s_pick [] [] rfl ?_; exact k
theorem bX7_norm_13 {l : Launch} {D : va_G} {aI aL : ClassId} {ad : Nat → Nat} {P : sa_P} {I : sa_I} {J : sa_J} {s0 : Int64}   (k : P (some (.long s0)) I J) : Sat (ER l D aI aL ad) M_X7_norm P 13 [] [.long s0] I J := by
  exact s_lret rfl dX7_norm_13 k
theorem bX7_norm_14 {l : Launch} {D : va_G} {aI aL : ClassId} {ad : Nat → Nat} {P : sa_P} {I : sa_I} {J : sa_J} {x1 : Int32} {x2 : Int32}   (k : Sat (ER l D aI aL ad) M_X7_norm P 16 [(0, .ref (ad 0)), (1, .int x1), (2, .int x2)] [.int x1, .ref (ad 0)] I J) : Sat (ER l D aI aL ad) M_X7_norm P 14 [(0, .ref (ad 0)), (1, .int x1), (2, .int x2)] [] I J := by
  refine s_aload_n 0 dX7_norm_14 rfl ?_
  refine s_iload_n 1 dX7_norm_15 rfl ?_
  exact k
theorem bX7_norm_19 {l : Launch} {D : va_G} {aI aL : ClassId} {ad : Nat → Nat} {P : sa_P} {I : sa_I} {J : sa_J} {x1 : Int32} {x2 : Int32} {s0 : Int32}   (kt : ¬ s0 = 0 → Sat (ER l D aI aL ad) M_X7_norm P 28 [(0, .ref (ad 0)), (1, .int x1), (2, .int x2)] [] I J) (kf : s0 = 0 → Sat (ER l D aI aL ad) M_X7_norm P 22 [(0, .ref (ad 0))] [] I J) : Sat (ER l D aI aL ad) M_X7_norm P 19 [(0, .ref (ad 0)), (1, .int x1), (2, .int x2)] [.int s0] I J := by
  refine s_if_ne (tgt := 28) dX7_norm_19 (by decide) (fun c => ?_) (fun c => ?_)
  · exact kt c
  · refine s_pick [0] [(0, .ref (ad 0))] rfl ?_; exact kf (by first | exact c | exact Classical.not_not.mp c)
theorem bX7_norm_22 {l : Launch} {D : va_G} {aI aL : ClassId} {ad : Nat → Nat} {P : sa_P} {I : sa_I} {J : sa_J}    (k : Sat (ER l D aI aL ad) M_X7_norm P 24 [] [.int (-1 : Int32), .ref (ad 0)] I J) : Sat (ER l D aI aL ad) M_X7_norm P 22 [(0, .ref (ad 0))] [] I J := by
  refine s_aload_n 0 dX7_norm_22 rfl ?_
  refine s_iconst (v := -1) dX7_norm_23 rfl ?_
  refine s_pick [] [] rfl ?_; exact k
theorem bX7_norm_27 {l : Launch} {D : va_G} {aI aL : ClassId} {ad : Nat → Nat} {P : sa_P} {I : sa_I} {J : sa_J} {s0 : Int64}   (k : P (some (.long s0)) I J) : Sat (ER l D aI aL ad) M_X7_norm P 27 [] [.long s0] I J := by
  exact s_lret rfl dX7_norm_27 k
theorem bX7_norm_28 {l : Launch} {D : va_G} {aI aL : ClassId} {ad : Nat → Nat} {P : sa_P} {I : sa_I} {J : sa_J} {x1 : Int32} {x2 : Int32}   (k : Sat (ER l D aI aL ad) M_X7_norm P 34 [(0, .ref (ad 0)), (2, .int x2)] [.ref (ad 10), .int x1, .ref (ad 0)] I J) : Sat (ER l D aI aL ad) M_X7_norm P 28 [(0, .ref (ad 0)), (1, .int x1), (2, .int x2)] [] I J := by
  refine s_aload_n 0 dX7_norm_28 rfl ?_
  refine s_iload_n 1 dX7_norm_29 rfl ?_
  refine s_aload_n 0 dX7_norm_30 rfl ?_
  refine g_X7_38 dX7_norm_31 rfl ?_
  refine s_pick [0, 2] [(0, .ref (ad 0)), (2, .int x2)] rfl ?_; exact k
theorem bX7_norm_37 {l : Launch} {D : va_G} {aI aL : ClassId} {ad : Nat → Nat} {P : sa_P} {I : sa_I} {J : sa_J} {x2 : Int32}   (k : Sat (ER l D aI aL ad) M_X7_norm P 42 [(0, .ref (ad 0)), (2, .int x2)] [.ref (ad 10), .ref (ad 0)] I J) : Sat (ER l D aI aL ad) M_X7_norm P 37 [(0, .ref (ad 0)), (2, .int x2)] [] I J := by
  refine s_aload_n 0 dX7_norm_37 rfl ?_
  refine s_aload_n 0 dX7_norm_38 rfl ?_
  refine g_X7_38 dX7_norm_39 rfl ?_
  exact k
theorem bX7_norm_45 {l : Launch} {D : va_G} {aI aL : ClassId} {ad : Nat → Nat} {P : sa_P} {I : sa_I} {J : sa_J} {x2 : Int32}   (k0 : x2 = 0 → Sat (ER l D aI aL ad) M_X7_norm P 72 [(0, .ref (ad 0))] [] I J) (k1 : x2 = 1 → Sat (ER l D aI aL ad) M_X7_norm P 77 [(0, .ref (ad 0))] [] I J) (k2 : x2 = 2 → Sat (ER l D aI aL ad) M_X7_norm P 82 [(0, .ref (ad 0))] [] I J) (kd : (x2.toInt < 0 ∨ 2 < x2.toInt) → Sat (ER l D aI aL ad) M_X7_norm P 103 [(0, .ref (ad 0))] [] I J) : Sat (ER l D aI aL ad) M_X7_norm P 45 [(0, .ref (ad 0)), (2, .int x2)] [] I J := by
  refine s_iload_n 1 dX7_norm_45 rfl ?_
  by_cases hlo : (x2).toInt < 0
  · refine s_tableOut (tgt := 103) dX7_norm_46 (Or.inl hlo) (by decide) ?_; refine s_pick [0] [(0, .ref (ad 0))] rfl ?_; exact kd (Or.inl hlo)
  by_cases hhi : 2 < (x2).toInt
  · refine s_tableOut (tgt := 103) dX7_norm_46 (Or.inr hhi) (by decide) ?_; refine s_pick [0] [(0, .ref (ad 0))] rfl ?_; exact kd (Or.inr hhi)
  obtain hx | hx | hx : x2 = 0 ∨ x2 = 1 ∨ x2 = 2 := by
    have hh : (x2).toInt = 0 ∨ (x2).toInt = 1 ∨ (x2).toInt = 2 := by omega
    simpa [← Int32.toInt_inj] using hh
  · have e1 : (x2).toInt = 0 := by rw [hx]; rfl
    refine s_tableIn (tgt := 72) dX7_norm_46 hlo hhi (off := 26) (by rw [e1]; rfl) (by decide) ?_; refine s_pick [0] [(0, .ref (ad 0))] rfl ?_; exact k0 hx
  · have e1 : (x2).toInt = 1 := by rw [hx]; rfl
    refine s_tableIn (tgt := 77) dX7_norm_46 hlo hhi (off := 31) (by rw [e1]; rfl) (by decide) ?_; refine s_pick [0] [(0, .ref (ad 0))] rfl ?_; exact k1 hx
  · have e1 : (x2).toInt = 2 := by rw [hx]; rfl
    refine s_tableIn (tgt := 82) dX7_norm_46 hlo hhi (off := 36) (by rw [e1]; rfl) (by decide) ?_; refine s_pick [0] [(0, .ref (ad 0))] rfl ?_; exact k2 hx
theorem bX7_norm_72 {l : Launch} {D : va_G} {aI aL : ClassId} {ad : Nat → Nat} {P : sa_P} {I : sa_I} {J : sa_J}    (k : Sat (ER l D aI aL ad) M_X7_norm P 73 [] [.ref (ad 0)] I J) : Sat (ER l D aI aL ad) M_X7_norm P 72 [(0, .ref (ad 0))] [] I J := by
  refine s_aload_n 0 dX7_norm_72 rfl ?_
  refine s_pick [] [] rfl ?_; exact k
theorem bX7_norm_76 {l : Launch} {D : va_G} {aI aL : ClassId} {ad : Nat → Nat} {P : sa_P} {I : sa_I} {J : sa_J} {s0 : Int64}   (k : P (some (.long s0)) I J) : Sat (ER l D aI aL ad) M_X7_norm P 76 [] [.long s0] I J := by
  exact s_lret rfl dX7_norm_76 k
theorem bX7_norm_77 {l : Launch} {D : va_G} {aI aL : ClassId} {ad : Nat → Nat} {P : sa_P} {I : sa_I} {J : sa_J}    (k : Sat (ER l D aI aL ad) M_X7_norm P 78 [] [.ref (ad 0)] I J) : Sat (ER l D aI aL ad) M_X7_norm P 77 [(0, .ref (ad 0))] [] I J := by
  refine s_aload_n 0 dX7_norm_77 rfl ?_
  refine s_pick [] [] rfl ?_; exact k
theorem bX7_norm_81 {l : Launch} {D : va_G} {aI aL : ClassId} {ad : Nat → Nat} {P : sa_P} {I : sa_I} {J : sa_J} {s0 : Int64}   (k : P (some (.long s0)) I J) : Sat (ER l D aI aL ad) M_X7_norm P 81 [] [.long s0] I J := by
  exact s_lret rfl dX7_norm_81 k
theorem bX7_norm_82 {l : Launch} {D : va_G} {aI aL : ClassId} {ad : Nat → Nat} {P : sa_P} {I : sa_I} {J : sa_J}    (kt : ¬ I 0 1 = (2 : Int32) → Sat (ER l D aI aL ad) M_X7_norm P 98 [(0, .ref (ad 0))] [] I J) (kf : I 0 1 = (2 : Int32) → Sat (ER l D aI aL ad) M_X7_norm P 90 [(0, .ref (ad 0))] [] I J) : Sat (ER l D aI aL ad) M_X7_norm P 82 [(0, .ref (ad 0))] [] I J := by
  refine s_aload_n 0 dX7_norm_82 rfl ?_
  refine g_X7_101 dX7_norm_83 rfl ?_
  refine s_iconst (v := 2) dX7_norm_86 rfl ?_
  refine s_icmp_ne (tgt := 98) dX7_norm_87 (by decide) (fun c => ?_) (fun c => ?_)
  · exact kt c
  · exact kf (by first | exact c | exact Classical.not_not.mp c)
theorem bX7_norm_90 {l : Launch} {D : va_G} {aI aL : ClassId} {ad : Nat → Nat} {P : sa_P} {I : sa_I} {J : sa_J}    (k : Sat (ER l D aI aL ad) M_X7_norm P 91 [] [.ref (ad 0)] I J) : Sat (ER l D aI aL ad) M_X7_norm P 90 [(0, .ref (ad 0))] [] I J := by
  refine s_aload_n 0 dX7_norm_90 rfl ?_
  refine s_pick [] [] rfl ?_; exact k
theorem bX7_norm_94 {l : Launch} {D : va_G} {aI aL : ClassId} {ad : Nat → Nat} {P : sa_P} {I : sa_I} {J : sa_J} {s0 : Int64}   (k : Sat (ER l D aI aL ad) M_X7_norm P 102 [] [.long (-s0)] I J) : Sat (ER l D aI aL ad) M_X7_norm P 94 [] [.long s0] I J := by
  refine s_lneg dX7_norm_94 ?_
  refine s_goto (tgt := 102) dX7_norm_95 (by decide) ?_
  exact k
theorem bX7_norm_98 {l : Launch} {D : va_G} {aI aL : ClassId} {ad : Nat → Nat} {P : sa_P} {I : sa_I} {J : sa_J}    (k : Sat (ER l D aI aL ad) M_X7_norm P 99 [] [.ref (ad 0)] I J) : Sat (ER l D aI aL ad) M_X7_norm P 98 [(0, .ref (ad 0))] [] I J := by
  refine s_aload_n 0 dX7_norm_98 rfl ?_
  refine s_pick [] [] rfl ?_; exact k
theorem bX7_norm_102 {l : Launch} {D : va_G} {aI aL : ClassId} {ad : Nat → Nat} {P : sa_P} {I : sa_I} {J : sa_J} {s0 : Int64}   (k : P (some (.long s0)) I J) : Sat (ER l D aI aL ad) M_X7_norm P 102 [] [.long s0] I J := by
  exact s_lret rfl dX7_norm_102 k
theorem bX7_norm_103 {l : Launch} {D : va_G} {aI aL : ClassId} {ad : Nat → Nat} {P : sa_P} {I : sa_I} {J : sa_J}    (k : Sat (ER l D aI aL ad) M_X7_norm P 106 [] [.int (-2 : Int32), .ref (ad 0)] I J) : Sat (ER l D aI aL ad) M_X7_norm P 103 [(0, .ref (ad 0))] [] I J := by
  refine s_aload_n 0 dX7_norm_103 rfl ?_
  refine s_bipush (v := -2) dX7_norm_104 rfl ?_
  refine s_pick [] [] rfl ?_; exact k
theorem bX7_norm_109 {l : Launch} {D : va_G} {aI aL : ClassId} {ad : Nat → Nat} {P : sa_P} {I : sa_I} {J : sa_J} {s0 : Int64}   (k : P (some (.long s0)) I J) : Sat (ER l D aI aL ad) M_X7_norm P 109 [] [.long s0] I J := by
  exact s_lret rfl dX7_norm_109 k
/-! X7_unit -/
theorem dX7_unit_0 : decode cX7_unit 0 = .ok (.aload_n 0, 1) := by decide +kernel
theorem dX7_unit_1 : decode cX7_unit 1 = .ok (.invokevirtual 203, 3) := by decide +kernel
theorem dX7_unit_4 : decode cX7_unit 4 = .ok (.ifCond .ne 10, 3) := by decide +kernel
theorem dX7_unit_7 : decode cX7_unit 7 = .ok (.aload_n 0, 1) := by decide +kernel
theorem dX7_unit_8 : decode cX7_unit 8 = .ok (.bipush (-3), 2) := by decide +kernel
theorem dX7_unit_10 : decode cX7_unit 10 = .ok (.invokevirtual 84, 3) := by decide +kernel
theorem dX7_unit_13 : decode cX7_unit 13 = .ok (.ireturn, 1) := by decide +kernel
theorem dX7_unit_14 : decode cX7_unit 14 = .ok (.aload_n 0, 1) := by decide +kernel
theorem dX7_unit_15 : decode cX7_unit 15 = .ok (.iload_n 1, 1) := by decide +kernel
theorem dX7_unit_16 : decode cX7_unit 16 = .ok (.invokevirtual 232, 3) := by decide +kernel
theorem dX7_unit_19 : decode cX7_unit 19 = .ok (.ifCond .ne 9, 3) := by decide +kernel
theorem dX7_unit_22 : decode cX7_unit 22 = .ok (.aload_n 0, 1) := by decide +kernel
theorem dX7_unit_23 : decode cX7_unit 23 = .ok (.iconst (-1), 1) := by decide +kernel
theorem dX7_unit_24 : decode cX7_unit 24 = .ok (.invokevirtual 84, 3) := by decide +kernel
theorem dX7_unit_27 : decode cX7_unit 27 = .ok (.ireturn, 1) := by decide +kernel
theorem dX7_unit_28 : decode cX7_unit 28 = .ok (.aload_n 0, 1) := by decide +kernel
theorem dX7_unit_29 : decode cX7_unit 29 = .ok (.iload_n 1, 1) := by decide +kernel
theorem dX7_unit_30 : decode cX7_unit 30 = .ok (.aload_n 0, 1) := by decide +kernel
theorem dX7_unit_31 : decode cX7_unit 31 = .ok (.getfield 38, 3) := by decide +kernel
theorem dX7_unit_34 : decode cX7_unit 34 = .ok (.invokevirtual 235, 3) := by decide +kernel
theorem dX7_unit_37 : decode cX7_unit 37 = .ok (.aload_n 0, 1) := by decide +kernel
theorem dX7_unit_38 : decode cX7_unit 38 = .ok (.aload_n 0, 1) := by decide +kernel
theorem dX7_unit_39 : decode cX7_unit 39 = .ok (.getfield 38, 3) := by decide +kernel
theorem dX7_unit_42 : decode cX7_unit 42 = .ok (.invokevirtual 225, 3) := by decide +kernel
theorem dX7_unit_45 : decode cX7_unit 45 = .ok (.aload_n 0, 1) := by decide +kernel
theorem dX7_unit_46 : decode cX7_unit 46 = .ok (.invokevirtual 193, 3) := by decide +kernel
theorem dX7_unit_49 : decode cX7_unit 49 = .ok (.invokestatic 90, 3) := by decide +kernel
theorem dX7_unit_52 : decode cX7_unit 52 = .ok (.lconst 1, 1) := by decide +kernel
theorem dX7_unit_53 : decode cX7_unit 53 = .ok (.lcmp, 1) := by decide +kernel
theorem dX7_unit_54 : decode cX7_unit 54 = .ok (.ifCond .eq 5, 3) := by decide +kernel
theorem dX7_unit_57 : decode cX7_unit 57 = .ok (.iconst 0, 1) := by decide +kernel
theorem dX7_unit_58 : decode cX7_unit 58 = .ok (.ireturn, 1) := by decide +kernel
theorem dX7_unit_59 : decode cX7_unit 59 = .ok (.iconst 0, 1) := by decide +kernel
theorem dX7_unit_60 : decode cX7_unit 60 = .ok (.istore_n 2, 1) := by decide +kernel
theorem dX7_unit_61 : decode cX7_unit 61 = .ok (.iload_n 2, 1) := by decide +kernel
theorem dX7_unit_62 : decode cX7_unit 62 = .ok (.iconst 3, 1) := by decide +kernel
theorem dX7_unit_63 : decode cX7_unit 63 = .ok (.if_icmp .ge 24, 3) := by decide +kernel
theorem dX7_unit_66 : decode cX7_unit 66 = .ok (.aload_n 0, 1) := by decide +kernel
theorem dX7_unit_67 : decode cX7_unit 67 = .ok (.getfield 41, 3) := by decide +kernel
theorem dX7_unit_70 : decode cX7_unit 70 = .ok (.iload_n 2, 1) := by decide +kernel
theorem dX7_unit_71 : decode cX7_unit 71 = .ok (.iload_n 2, 1) := by decide +kernel
theorem dX7_unit_72 : decode cX7_unit 72 = .ok (.ifCond .ne 7, 3) := by decide +kernel
theorem dX7_unit_75 : decode cX7_unit 75 = .ok (.lconst 1, 1) := by decide +kernel
theorem dX7_unit_76 : decode cX7_unit 76 = .ok (.goto 4, 3) := by decide +kernel
theorem dX7_unit_79 : decode cX7_unit 79 = .ok (.lconst 0, 1) := by decide +kernel
theorem dX7_unit_80 : decode cX7_unit 80 = .ok (.lastore, 1) := by decide +kernel
theorem dX7_unit_81 : decode cX7_unit 81 = .ok (.iinc 2 1, 3) := by decide +kernel
theorem dX7_unit_84 : decode cX7_unit 84 = .ok (.goto (-23), 3) := by decide +kernel
theorem dX7_unit_87 : decode cX7_unit 87 = .ok (.iconst 1, 1) := by decide +kernel
theorem dX7_unit_88 : decode cX7_unit 88 = .ok (.istore_n 2, 1) := by decide +kernel
theorem dX7_unit_89 : decode cX7_unit 89 = .ok (.iconst 1, 1) := by decide +kernel
theorem dX7_unit_90 : decode cX7_unit 90 = .ok (.istore_n 3, 1) := by decide +kernel
theorem dX7_unit_91 : decode cX7_unit 91 = .ok (.iload_n 3, 1) := by decide +kernel
theorem dX7_unit_92 : decode cX7_unit 92 = .ok (.bipush 12, 2) := by decide +kernel
theorem dX7_unit_94 : decode cX7_unit 94 = .ok (.if_icmp .gt 108, 3) := by decide +kernel
theorem dX7_unit_97 : decode cX7_unit 97 = .ok (.iload_n 2, 1) := by decide +kernel
theorem dX7_unit_98 : decode cX7_unit 98 = .ok (.ifCond .eq 104, 3) := by decide +kernel
theorem dX7_unit_101 : decode cX7_unit 101 = .ok (.aload_n 0, 1) := by decide +kernel
theorem dX7_unit_102 : decode cX7_unit 102 = .ok (.invokevirtual 229, 3) := by decide +kernel
theorem dX7_unit_105 : decode cX7_unit 105 = .ok (.iconst 0, 1) := by decide +kernel
theorem dX7_unit_106 : decode cX7_unit 106 = .ok (.istore 4, 2) := by decide +kernel
theorem dX7_unit_108 : decode cX7_unit 108 = .ok (.iload 4, 2) := by decide +kernel
theorem dX7_unit_110 : decode cX7_unit 110 = .ok (.iconst 3, 1) := by decide +kernel
theorem dX7_unit_111 : decode cX7_unit 111 = .ok (.if_icmp .ge 50, 3) := by decide +kernel
theorem dX7_unit_114 : decode cX7_unit 114 = .ok (.aload_n 0, 1) := by decide +kernel
theorem dX7_unit_115 : decode cX7_unit 115 = .ok (.getfield 41, 3) := by decide +kernel
theorem dX7_unit_118 : decode cX7_unit 118 = .ok (.iload 4, 2) := by decide +kernel
theorem dX7_unit_120 : decode cX7_unit 120 = .ok (.aload_n 0, 1) := by decide +kernel
theorem dX7_unit_121 : decode cX7_unit 121 = .ok (.getfield 44, 3) := by decide +kernel
theorem dX7_unit_124 : decode cX7_unit 124 = .ok (.iload 4, 2) := by decide +kernel
theorem dX7_unit_126 : decode cX7_unit 126 = .ok (.laload, 1) := by decide +kernel
theorem dX7_unit_127 : decode cX7_unit 127 = .ok (.lastore, 1) := by decide +kernel
theorem dX7_unit_128 : decode cX7_unit 128 = .ok (.iload_n 2, 1) := by decide +kernel
theorem dX7_unit_129 : decode cX7_unit 129 = .ok (.ifCond .eq 24, 3) := by decide +kernel
theorem dX7_unit_132 : decode cX7_unit 132 = .ok (.aload_n 0, 1) := by decide +kernel
theorem dX7_unit_133 : decode cX7_unit 133 = .ok (.getfield 44, 3) := by decide +kernel
theorem dX7_unit_136 : decode cX7_unit 136 = .ok (.iload 4, 2) := by decide +kernel
theorem dX7_unit_138 : decode cX7_unit 138 = .ok (.laload, 1) := by decide +kernel
theorem dX7_unit_139 : decode cX7_unit 139 = .ok (.invokestatic 90, 3) := by decide +kernel
theorem dX7_unit_142 : decode cX7_unit 142 = .ok (.ldc2_w 242, 3) := by decide +kernel
theorem dX7_unit_145 : decode cX7_unit 145 = .ok (.lcmp, 1) := by decide +kernel
theorem dX7_unit_146 : decode cX7_unit 146 = .ok (.ifCond .ge 7, 3) := by decide +kernel
theorem dX7_unit_149 : decode cX7_unit 149 = .ok (.iconst 1, 1) := by decide +kernel
theorem dX7_unit_150 : decode cX7_unit 150 = .ok (.goto 4, 3) := by decide +kernel
theorem dX7_unit_153 : decode cX7_unit 153 = .ok (.iconst 0, 1) := by decide +kernel
theorem dX7_unit_154 : decode cX7_unit 154 = .ok (.istore_n 2, 1) := by decide +kernel
theorem dX7_unit_155 : decode cX7_unit 155 = .ok (.iinc 4 1, 3) := by decide +kernel
theorem dX7_unit_158 : decode cX7_unit 158 = .ok (.goto (-50), 3) := by decide +kernel
theorem dX7_unit_161 : decode cX7_unit 161 = .ok (.aload_n 0, 1) := by decide +kernel
theorem dX7_unit_162 : decode cX7_unit 162 = .ok (.getfield 41, 3) := by decide +kernel
theorem dX7_unit_165 : decode cX7_unit 165 = .ok (.iconst 0, 1) := by decide +kernel
theorem dX7_unit_166 : decode cX7_unit 166 = .ok (.laload, 1) := by decide +kernel
theorem dX7_unit_167 : decode cX7_unit 167 = .ok (.lconst 1, 1) := by decide +kernel
theorem dX7_unit_168 : decode cX7_unit 168 = .ok (.lcmp, 1) := by decide +kernel
theorem dX7_unit_169 : decode cX7_unit 169 = .ok (.ifCond .ne 27, 3) := by decide +kernel
theorem dX7_unit_172 : decode cX7_unit 172 = .ok (.aload_n 0, 1) := by decide +kernel
theorem dX7_unit_173 : decode cX7_unit 173 = .ok (.getfield 41, 3) := by decide +kernel
theorem dX7_unit_176 : decode cX7_unit 176 = .ok (.iconst 1, 1) := by decide +kernel
theorem dX7_unit_177 : decode cX7_unit 177 = .ok (.laload, 1) := by decide +kernel
theorem dX7_unit_178 : decode cX7_unit 178 = .ok (.lconst 0, 1) := by decide +kernel
theorem dX7_unit_179 : decode cX7_unit 179 = .ok (.lcmp, 1) := by decide +kernel
theorem dX7_unit_180 : decode cX7_unit 180 = .ok (.ifCond .ne 16, 3) := by decide +kernel
theorem dX7_unit_183 : decode cX7_unit 183 = .ok (.aload_n 0, 1) := by decide +kernel
theorem dX7_unit_184 : decode cX7_unit 184 = .ok (.getfield 41, 3) := by decide +kernel
theorem dX7_unit_187 : decode cX7_unit 187 = .ok (.iconst 2, 1) := by decide +kernel
theorem dX7_unit_188 : decode cX7_unit 188 = .ok (.laload, 1) := by decide +kernel
theorem dX7_unit_189 : decode cX7_unit 189 = .ok (.lconst 0, 1) := by decide +kernel
theorem dX7_unit_190 : decode cX7_unit 190 = .ok (.lcmp, 1) := by decide +kernel
theorem dX7_unit_191 : decode cX7_unit 191 = .ok (.ifCond .ne 5, 3) := by decide +kernel
theorem dX7_unit_194 : decode cX7_unit 194 = .ok (.iconst 2, 1) := by decide +kernel
theorem dX7_unit_195 : decode cX7_unit 195 = .ok (.ireturn, 1) := by decide +kernel
theorem dX7_unit_196 : decode cX7_unit 196 = .ok (.iinc 3 1, 3) := by decide +kernel
theorem dX7_unit_199 : decode cX7_unit 199 = .ok (.goto (-108), 3) := by decide +kernel
theorem dX7_unit_202 : decode cX7_unit 202 = .ok (.iconst 1, 1) := by decide +kernel
theorem dX7_unit_203 : decode cX7_unit 203 = .ok (.ireturn, 1) := by decide +kernel
theorem bX7_unit_0 {l : Launch} {D : va_G} {aI aL : ClassId} {ad : Nat → Nat} {P : sa_P} {I : sa_I} {J : sa_J} {x1 : Int32}   (k : Sat (ER l D aI aL ad) M_X7_unit P 1 [(0, .ref (ad 0)), (1, .int x1)] [.ref (ad 0)] I J) : Sat (ER l D aI aL ad) M_X7_unit P 0 [(0, .ref (ad 0)), (1, .int x1)] [] I J := by
  refine s_aload_n 0 dX7_unit_0 rfl ?_
  exact k
theorem bX7_unit_4 {l : Launch} {D : va_G} {aI aL : ClassId} {ad : Nat → Nat} {P : sa_P} {I : sa_I} {J : sa_J} {x1 : Int32} {s0 : Int32}   (kt : ¬ s0 = 0 → Sat (ER l D aI aL ad) M_X7_unit P 14 [(0, .ref (ad 0)), (1, .int x1)] [] I J) (kf : s0 = 0 → Sat (ER l D aI aL ad) M_X7_unit P 7 [(0, .ref (ad 0))] [] I J) : Sat (ER l D aI aL ad) M_X7_unit P 4 [(0, .ref (ad 0)), (1, .int x1)] [.int s0] I J := by
  refine s_if_ne (tgt := 14) dX7_unit_4 (by decide) (fun c => ?_) (fun c => ?_)
  · exact kt c
  · refine s_pick [0] [(0, .ref (ad 0))] rfl ?_; exact kf (by first | exact c | exact Classical.not_not.mp c)
theorem bX7_unit_7 {l : Launch} {D : va_G} {aI aL : ClassId} {ad : Nat → Nat} {P : sa_P} {I : sa_I} {J : sa_J}    (k : Sat (ER l D aI aL ad) M_X7_unit P 10 [] [.int (-3 : Int32), .ref (ad 0)] I J) : Sat (ER l D aI aL ad) M_X7_unit P 7 [(0, .ref (ad 0))] [] I J := by
  refine s_aload_n 0 dX7_unit_7 rfl ?_
  refine s_bipush (v := -3) dX7_unit_8 rfl ?_
  refine s_pick [] [] rfl ?_; exact k
theorem bX7_unit_13 {l : Launch} {D : va_G} {aI aL : ClassId} {ad : Nat → Nat} {P : sa_P} {I : sa_I} {J : sa_J} {s0 : Int32}   (k : P (some (.int s0)) I J) : Sat (ER l D aI aL ad) M_X7_unit P 13 [] [.int s0] I J := by
  exact s_iret rfl dX7_unit_13 k
theorem bX7_unit_14 {l : Launch} {D : va_G} {aI aL : ClassId} {ad : Nat → Nat} {P : sa_P} {I : sa_I} {J : sa_J} {x1 : Int32}   (k : Sat (ER l D aI aL ad) M_X7_unit P 16 [(0, .ref (ad 0)), (1, .int x1)] [.int x1, .ref (ad 0)] I J) : Sat (ER l D aI aL ad) M_X7_unit P 14 [(0, .ref (ad 0)), (1, .int x1)] [] I J := by
  refine s_aload_n 0 dX7_unit_14 rfl ?_
  refine s_iload_n 1 dX7_unit_15 rfl ?_
  exact k
theorem bX7_unit_19 {l : Launch} {D : va_G} {aI aL : ClassId} {ad : Nat → Nat} {P : sa_P} {I : sa_I} {J : sa_J} {x1 : Int32} {s0 : Int32}   (kt : ¬ s0 = 0 → Sat (ER l D aI aL ad) M_X7_unit P 28 [(0, .ref (ad 0)), (1, .int x1)] [] I J) (kf : s0 = 0 → Sat (ER l D aI aL ad) M_X7_unit P 22 [(0, .ref (ad 0))] [] I J) : Sat (ER l D aI aL ad) M_X7_unit P 19 [(0, .ref (ad 0)), (1, .int x1)] [.int s0] I J := by
  refine s_if_ne (tgt := 28) dX7_unit_19 (by decide) (fun c => ?_) (fun c => ?_)
  · exact kt c
  · refine s_pick [0] [(0, .ref (ad 0))] rfl ?_; exact kf (by first | exact c | exact Classical.not_not.mp c)
theorem bX7_unit_22 {l : Launch} {D : va_G} {aI aL : ClassId} {ad : Nat → Nat} {P : sa_P} {I : sa_I} {J : sa_J}    (k : Sat (ER l D aI aL ad) M_X7_unit P 24 [] [.int (-1 : Int32), .ref (ad 0)] I J) : Sat (ER l D aI aL ad) M_X7_unit P 22 [(0, .ref (ad 0))] [] I J := by
  refine s_aload_n 0 dX7_unit_22 rfl ?_
  refine s_iconst (v := -1) dX7_unit_23 rfl ?_
  refine s_pick [] [] rfl ?_; exact k
theorem bX7_unit_27 {l : Launch} {D : va_G} {aI aL : ClassId} {ad : Nat → Nat} {P : sa_P} {I : sa_I} {J : sa_J} {s0 : Int32}   (k : P (some (.int s0)) I J) : Sat (ER l D aI aL ad) M_X7_unit P 27 [] [.int s0] I J := by
  exact s_iret rfl dX7_unit_27 k
theorem bX7_unit_28 {l : Launch} {D : va_G} {aI aL : ClassId} {ad : Nat → Nat} {P : sa_P} {I : sa_I} {J : sa_J} {x1 : Int32}   (k : Sat (ER l D aI aL ad) M_X7_unit P 34 [(0, .ref (ad 0))] [.ref (ad 10), .int x1, .ref (ad 0)] I J) : Sat (ER l D aI aL ad) M_X7_unit P 28 [(0, .ref (ad 0)), (1, .int x1)] [] I J := by
  refine s_aload_n 0 dX7_unit_28 rfl ?_
  refine s_iload_n 1 dX7_unit_29 rfl ?_
  refine s_aload_n 0 dX7_unit_30 rfl ?_
  refine g_X7_38 dX7_unit_31 rfl ?_
  refine s_pick [0] [(0, .ref (ad 0))] rfl ?_; exact k
theorem bX7_unit_37 {l : Launch} {D : va_G} {aI aL : ClassId} {ad : Nat → Nat} {P : sa_P} {I : sa_I} {J : sa_J}    (k : Sat (ER l D aI aL ad) M_X7_unit P 42 [(0, .ref (ad 0))] [.ref (ad 10), .ref (ad 0)] I J) : Sat (ER l D aI aL ad) M_X7_unit P 37 [(0, .ref (ad 0))] [] I J := by
  refine s_aload_n 0 dX7_unit_37 rfl ?_
  refine s_aload_n 0 dX7_unit_38 rfl ?_
  refine g_X7_38 dX7_unit_39 rfl ?_
  exact k
theorem bX7_unit_45 {l : Launch} {D : va_G} {aI aL : ClassId} {ad : Nat → Nat} {P : sa_P} {I : sa_I} {J : sa_J}    (k : Sat (ER l D aI aL ad) M_X7_unit P 46 [(0, .ref (ad 0))] [.ref (ad 0)] I J) : Sat (ER l D aI aL ad) M_X7_unit P 45 [(0, .ref (ad 0))] [] I J := by
  refine s_aload_n 0 dX7_unit_45 rfl ?_
  exact k
theorem bX7_unit_52 {l : Launch} {D : va_G} {aI aL : ClassId} {ad : Nat → Nat} {P : sa_P} {I : sa_I} {J : sa_J} {s0 : Int64}   (kt : s0 = (1 : Int64) → Sat (ER l D aI aL ad) M_X7_unit P 59 [(0, .ref (ad 0))] [] I J) (kf : ¬ s0 = (1 : Int64) → Sat (ER l D aI aL ad) M_X7_unit P 57 [] [] I J) : Sat (ER l D aI aL ad) M_X7_unit P 52 [(0, .ref (ad 0))] [.long s0] I J := by
  refine s_lconst (v := 1) dX7_unit_52 rfl ?_
  refine s_lif_eq (tgt := 59) dX7_unit_53 dX7_unit_54 (by decide) (fun c => ?_) (fun c => ?_)
  · exact kt c
  · refine s_pick [] [] rfl ?_; exact kf c
theorem bX7_unit_57 {l : Launch} {D : va_G} {aI aL : ClassId} {ad : Nat → Nat} {P : sa_P} {I : sa_I} {J : sa_J}    (k : P (some (.int (0 : Int32))) I J) : Sat (ER l D aI aL ad) M_X7_unit P 57 [] [] I J := by
  refine s_iconst (v := 0) dX7_unit_57 rfl ?_
  exact s_iret rfl dX7_unit_58 k
theorem bX7_unit_59 {l : Launch} {D : va_G} {aI aL : ClassId} {ad : Nat → Nat} {P : sa_P} {I : sa_I} {J : sa_J} {v60 : Int32}  (f60 : (0 : Int32) = v60) (k : Sat (ER l D aI aL ad) M_X7_unit P 61 [(0, .ref (ad 0)), (2, .int v60)] [] I J) : Sat (ER l D aI aL ad) M_X7_unit P 59 [(0, .ref (ad 0))] [] I J := by
  refine s_iconst (v := 0) dX7_unit_59 rfl ?_
  refine s_eqi f60 ?_
  refine s_istore_n [(2, .int v60), (0, .ref (ad 0))] dX7_unit_60 (Nat.lt_of_lt_of_le (Nat.lt_succ_self _) (Nat.le_of_ble_eq_true rfl)) rfl ?_
  refine s_pick [1, 0] [(0, .ref (ad 0)), (2, .int v60)] rfl ?_; exact k
theorem bX7_unit_61 {l : Launch} {D : va_G} {aI aL : ClassId} {ad : Nat → Nat} {P : sa_P} {I : sa_I} {J : sa_J} {x2 : Int32}   (kt : (3 : Int32) ≤ x2 → Sat (ER l D aI aL ad) M_X7_unit P 87 [(0, .ref (ad 0))] [] I J) (kf : ¬ (3 : Int32) ≤ x2 → Sat (ER l D aI aL ad) M_X7_unit P 66 [(0, .ref (ad 0)), (2, .int x2)] [] I J) : Sat (ER l D aI aL ad) M_X7_unit P 61 [(0, .ref (ad 0)), (2, .int x2)] [] I J := by
  refine s_iload_n 1 dX7_unit_61 rfl ?_
  refine s_iconst (v := 3) dX7_unit_62 rfl ?_
  refine s_icmp_ge (tgt := 87) dX7_unit_63 (by decide) (fun c => ?_) (fun c => ?_)
  · refine s_pick [0] [(0, .ref (ad 0))] rfl ?_; exact kt c
  · exact kf c
theorem bX7_unit_66 {l : Launch} {D : va_G} {aI aL : ClassId} {ad : Nat → Nat} {P : sa_P} {I : sa_I} {J : sa_J} {x2 : Int32}   (kt : ¬ x2 = 0 → Sat (ER l D aI aL ad) M_X7_unit P 79 [(0, .ref (ad 0)), (2, .int x2)] [.int x2, .ref (ad 11)] I J) (kf : x2 = 0 → Sat (ER l D aI aL ad) M_X7_unit P 75 [(0, .ref (ad 0)), (2, .int x2)] [.int x2, .ref (ad 11)] I J) : Sat (ER l D aI aL ad) M_X7_unit P 66 [(0, .ref (ad 0)), (2, .int x2)] [] I J := by
  refine s_aload_n 0 dX7_unit_66 rfl ?_
  refine g_X7_41 dX7_unit_67 rfl ?_
  refine s_iload_n 1 dX7_unit_70 rfl ?_
  refine s_iload_n 1 dX7_unit_71 rfl ?_
  refine s_if_ne (tgt := 79) dX7_unit_72 (by decide) (fun c => ?_) (fun c => ?_)
  · exact kt c
  · exact kf (by first | exact c | exact Classical.not_not.mp c)
theorem bX7_unit_75 {l : Launch} {D : va_G} {aI aL : ClassId} {ad : Nat → Nat} {P : sa_P} {I : sa_I} {J : sa_J} {x2 : Int32} {s1 : Int32}   (k : Sat (ER l D aI aL ad) M_X7_unit P 80 [(0, .ref (ad 0)), (2, .int x2)] [.long (1 : Int64), .int s1, .ref (ad 11)] I J) : Sat (ER l D aI aL ad) M_X7_unit P 75 [(0, .ref (ad 0)), (2, .int x2)] [.int s1, .ref (ad 11)] I J := by
  refine s_lconst (v := 1) dX7_unit_75 rfl ?_
  refine s_goto (tgt := 80) dX7_unit_76 (by decide) ?_
  exact k
theorem bX7_unit_79 {l : Launch} {D : va_G} {aI aL : ClassId} {ad : Nat → Nat} {P : sa_P} {I : sa_I} {J : sa_J} {x2 : Int32} {s1 : Int32}   (k : Sat (ER l D aI aL ad) M_X7_unit P 80 [(0, .ref (ad 0)), (2, .int x2)] [.long (0 : Int64), .int s1, .ref (ad 11)] I J) : Sat (ER l D aI aL ad) M_X7_unit P 79 [(0, .ref (ad 0)), (2, .int x2)] [.int s1, .ref (ad 11)] I J := by
  refine s_lconst (v := 0) dX7_unit_79 rfl ?_
  exact k
theorem bX7_unit_80 {l : Launch} {D : va_G} {aI aL : ClassId} {ad : Nat → Nat} {P : sa_P} {I : sa_I} {J : sa_J} {x2 : Int32} {s1 : Nat} {s2 : Int64} {v81 : Int32} (h80 : s1 < 3) (f81 : x2 + 1 = v81) (k : Sat (ER l D aI aL ad) M_X7_unit P 61 [(0, .ref (ad 0)), (2, .int v81)] [] I (sa_uJ J 11 s1 s2)) : Sat (ER l D aI aL ad) M_X7_unit P 80 [(0, .ref (ad 0)), (2, .int x2)] [.long s2, .int (nI s1), .ref (ad 11)] I J := by
  refine s_lastoreN aJ_R11 h80 (by decide) dX7_unit_80 ?_
  refine s_iinc 1 v81 [(2, .int v81), (0, .ref (ad 0))] dX7_unit_81 rfl f81 (Nat.lt_of_lt_of_le (Nat.lt_succ_self _) (Nat.le_of_ble_eq_true rfl)) rfl ?_
  refine s_goto (tgt := 61) dX7_unit_84 (by decide) ?_
  refine s_pick [1, 0] [(0, .ref (ad 0)), (2, .int v81)] rfl ?_; exact k
theorem bX7_unit_87 {l : Launch} {D : va_G} {aI aL : ClassId} {ad : Nat → Nat} {P : sa_P} {I : sa_I} {J : sa_J} {v88 : Int32} {v90 : Int32}  (f88 : (1 : Int32) = v88) (f90 : (1 : Int32) = v90) (k : Sat (ER l D aI aL ad) M_X7_unit P 91 [(0, .ref (ad 0)), (2, .int v88), (3, .int v90)] [] I J) : Sat (ER l D aI aL ad) M_X7_unit P 87 [(0, .ref (ad 0))] [] I J := by
  refine s_iconst (v := 1) dX7_unit_87 rfl ?_
  refine s_eqi f88 ?_
  refine s_istore_n [(2, .int v88), (0, .ref (ad 0))] dX7_unit_88 (Nat.lt_of_lt_of_le (Nat.lt_succ_self _) (Nat.le_of_ble_eq_true rfl)) rfl ?_
  refine s_iconst (v := 1) dX7_unit_89 rfl ?_
  refine s_eqi f90 ?_
  refine s_istore_n [(3, .int v90), (2, .int v88), (0, .ref (ad 0))] dX7_unit_90 (Nat.lt_of_lt_of_le (Nat.lt_succ_self _) (Nat.le_of_ble_eq_true rfl)) rfl ?_
  refine s_pick [2, 1, 0] [(0, .ref (ad 0)), (2, .int v88), (3, .int v90)] rfl ?_; exact k
theorem bX7_unit_91 {l : Launch} {D : va_G} {aI aL : ClassId} {ad : Nat → Nat} {P : sa_P} {I : sa_I} {J : sa_J} {x2 : Int32} {x3 : Int32}   (kt : (12 : Int32) < x3 → Sat (ER l D aI aL ad) M_X7_unit P 202 [] [] I J) (kf : ¬ (12 : Int32) < x3 → Sat (ER l D aI aL ad) M_X7_unit P 97 [(0, .ref (ad 0)), (2, .int x2), (3, .int x3)] [] I J) : Sat (ER l D aI aL ad) M_X7_unit P 91 [(0, .ref (ad 0)), (2, .int x2), (3, .int x3)] [] I J := by
  refine s_iload_n 2 dX7_unit_91 rfl ?_
  refine s_bipush (v := 12) dX7_unit_92 rfl ?_
  refine s_icmp_gt (tgt := 202) dX7_unit_94 (by decide) (fun c => ?_) (fun c => ?_)
  · refine s_pick [] [] rfl ?_; exact kt c
  · exact kf c
theorem bX7_unit_97 {l : Launch} {D : va_G} {aI aL : ClassId} {ad : Nat → Nat} {P : sa_P} {I : sa_I} {J : sa_J} {x2 : Int32} {x3 : Int32}   (kt : x2 = 0 → Sat (ER l D aI aL ad) M_X7_unit P 202 [] [] I J) (kf : ¬ x2 = 0 → Sat (ER l D aI aL ad) M_X7_unit P 101 [(0, .ref (ad 0)), (2, .int x2), (3, .int x3)] [] I J) : Sat (ER l D aI aL ad) M_X7_unit P 97 [(0, .ref (ad 0)), (2, .int x2), (3, .int x3)] [] I J := by
  refine s_iload_n 1 dX7_unit_97 rfl ?_
  refine s_if_eq (tgt := 202) dX7_unit_98 (by decide) (fun c => ?_) (fun c => ?_)
  · refine s_pick [] [] rfl ?_; exact kt c
  · exact kf c
theorem bX7_unit_101 {l : Launch} {D : va_G} {aI aL : ClassId} {ad : Nat → Nat} {P : sa_P} {I : sa_I} {J : sa_J} {x2 : Int32} {x3 : Int32}   (k : Sat (ER l D aI aL ad) M_X7_unit P 102 [(0, .ref (ad 0)), (2, .int x2), (3, .int x3)] [.ref (ad 0)] I J) : Sat (ER l D aI aL ad) M_X7_unit P 101 [(0, .ref (ad 0)), (2, .int x2), (3, .int x3)] [] I J := by
  refine s_aload_n 0 dX7_unit_101 rfl ?_
  exact k
theorem bX7_unit_105 {l : Launch} {D : va_G} {aI aL : ClassId} {ad : Nat → Nat} {P : sa_P} {I : sa_I} {J : sa_J} {x2 : Int32} {x3 : Int32} {v106 : Int32}  (f106 : (0 : Int32) = v106) (k : Sat (ER l D aI aL ad) M_X7_unit P 108 [(0, .ref (ad 0)), (2, .int x2), (3, .int x3), (4, .int v106)] [] I J) : Sat (ER l D aI aL ad) M_X7_unit P 105 [(0, .ref (ad 0)), (2, .int x2), (3, .int x3)] [] I J := by
  refine s_iconst (v := 0) dX7_unit_105 rfl ?_
  refine s_eqi f106 ?_
  refine s_istore [(4, .int v106), (0, .ref (ad 0)), (2, .int x2), (3, .int x3)] dX7_unit_106 (Nat.lt_of_lt_of_le (Nat.lt_succ_self _) (Nat.le_of_ble_eq_true rfl)) rfl ?_
  refine s_pick [1, 2, 3, 0] [(0, .ref (ad 0)), (2, .int x2), (3, .int x3), (4, .int v106)] rfl ?_; exact k
theorem bX7_unit_108 {l : Launch} {D : va_G} {aI aL : ClassId} {ad : Nat → Nat} {P : sa_P} {I : sa_I} {J : sa_J} {x2 : Int32} {x3 : Int32} {x4 : Int32}   (kt : (3 : Int32) ≤ x4 → Sat (ER l D aI aL ad) M_X7_unit P 161 [(0, .ref (ad 0)), (2, .int x2), (3, .int x3)] [] I J) (kf : ¬ (3 : Int32) ≤ x4 → Sat (ER l D aI aL ad) M_X7_unit P 114 [(0, .ref (ad 0)), (2, .int x2), (3, .int x3), (4, .int x4)] [] I J) : Sat (ER l D aI aL ad) M_X7_unit P 108 [(0, .ref (ad 0)), (2, .int x2), (3, .int x3), (4, .int x4)] [] I J := by
  refine s_iload 3 dX7_unit_108 rfl ?_
  refine s_iconst (v := 3) dX7_unit_110 rfl ?_
  refine s_icmp_ge (tgt := 161) dX7_unit_111 (by decide) (fun c => ?_) (fun c => ?_)
  · refine s_pick [0, 1, 2] [(0, .ref (ad 0)), (2, .int x2), (3, .int x3)] rfl ?_; exact kt c
  · exact kf c
theorem bX7_unit_114 {l : Launch} {D : va_G} {aI aL : ClassId} {ad : Nat → Nat} {P : sa_P} {I : sa_I} {J : sa_J} {x2 : Int32} {x3 : Int32} {x4 : Int32} {j118 : Nat} {j124 : Nat} {v127 : Int64} (e118 : x4 = nI j118) (e124 : x4 = nI j124) (h126 : j124 < 3) (h127 : j118 < 3) (f127 : J 12 j124 = v127) (kt : x2 = 0 → Sat (ER l D aI aL ad) M_X7_unit P 153 [(0, .ref (ad 0)), (3, .int x3), (4, .int x4)] [] I (sa_uJ J 11 j118 v127)) (kf : ¬ x2 = 0 → Sat (ER l D aI aL ad) M_X7_unit P 132 [(0, .ref (ad 0)), (3, .int x3), (4, .int x4)] [] I (sa_uJ J 11 j118 v127)) : Sat (ER l D aI aL ad) M_X7_unit P 114 [(0, .ref (ad 0)), (2, .int x2), (3, .int x3), (4, .int x4)] [] I J := by
  refine s_aload_n 0 dX7_unit_114 rfl ?_
  refine g_X7_41 dX7_unit_115 rfl ?_
  refine s_iload 3 dX7_unit_118 rfl ?_
  refine s_eqi e118 ?_
  refine s_aload_n 0 dX7_unit_120 rfl ?_
  refine g_X7_44 dX7_unit_121 rfl ?_
  refine s_iload 3 dX7_unit_124 rfl ?_
  refine s_eqi e124 ?_
  refine s_laloadN aJ_R12 h126 (by decide) dX7_unit_126 ?_
  refine s_eql f127 ?_
  refine s_lastoreN aJ_R11 h127 (by decide) dX7_unit_127 ?_
  refine s_iload_n 1 dX7_unit_128 rfl ?_
  refine s_if_eq (tgt := 153) dX7_unit_129 (by decide) (fun c => ?_) (fun c => ?_)
  · refine s_pick [0, 2, 3] [(0, .ref (ad 0)), (3, .int x3), (4, .int x4)] rfl ?_; exact kt c
  · refine s_pick [0, 2, 3] [(0, .ref (ad 0)), (3, .int x3), (4, .int x4)] rfl ?_; exact kf c
theorem bX7_unit_132 {l : Launch} {D : va_G} {aI aL : ClassId} {ad : Nat → Nat} {P : sa_P} {I : sa_I} {J : sa_J} {x3 : Int32} {x4 : Int32} {j136 : Nat} (e136 : x4 = nI j136) (h138 : j136 < 3)  (k : Sat (ER l D aI aL ad) M_X7_unit P 139 [(0, .ref (ad 0)), (3, .int x3), (4, .int x4)] [.long (J 12 j136)] I J) : Sat (ER l D aI aL ad) M_X7_unit P 132 [(0, .ref (ad 0)), (3, .int x3), (4, .int x4)] [] I J := by
  refine s_aload_n 0 dX7_unit_132 rfl ?_
  refine g_X7_44 dX7_unit_133 rfl ?_
  refine s_iload 2 dX7_unit_136 rfl ?_
  refine s_eqi e136 ?_
  refine s_laloadN aJ_R12 h138 (by decide) dX7_unit_138 ?_
  exact k
theorem bX7_unit_142 {l : Launch} {D : va_G} {aI aL : ClassId} {ad : Nat → Nat} {P : sa_P} {I : sa_I} {J : sa_J} {x3 : Int32} {x4 : Int32} {s0 : Int64}   (kt : (1000000 : Int64) ≤ s0 → Sat (ER l D aI aL ad) M_X7_unit P 153 [(0, .ref (ad 0)), (3, .int x3), (4, .int x4)] [] I J) (kf : ¬ (1000000 : Int64) ≤ s0 → Sat (ER l D aI aL ad) M_X7_unit P 149 [(0, .ref (ad 0)), (3, .int x3), (4, .int x4)] [] I J) : Sat (ER l D aI aL ad) M_X7_unit P 142 [(0, .ref (ad 0)), (3, .int x3), (4, .int x4)] [.long s0] I J := by
  refine s_ldc2 wk_X7_242 dX7_unit_142 ?_
  refine s_lif_ge (tgt := 153) dX7_unit_145 dX7_unit_146 (by decide) (fun c => ?_) (fun c => ?_)
  · exact kt c
  · exact kf c
theorem bX7_unit_149 {l : Launch} {D : va_G} {aI aL : ClassId} {ad : Nat → Nat} {P : sa_P} {I : sa_I} {J : sa_J} {x3 : Int32} {x4 : Int32}   (k : Sat (ER l D aI aL ad) M_X7_unit P 154 [(0, .ref (ad 0)), (3, .int x3), (4, .int x4)] [.int (1 : Int32)] I J) : Sat (ER l D aI aL ad) M_X7_unit P 149 [(0, .ref (ad 0)), (3, .int x3), (4, .int x4)] [] I J := by
  refine s_iconst (v := 1) dX7_unit_149 rfl ?_
  refine s_goto (tgt := 154) dX7_unit_150 (by decide) ?_
  exact k
theorem bX7_unit_153 {l : Launch} {D : va_G} {aI aL : ClassId} {ad : Nat → Nat} {P : sa_P} {I : sa_I} {J : sa_J} {x3 : Int32} {x4 : Int32}   (k : Sat (ER l D aI aL ad) M_X7_unit P 154 [(0, .ref (ad 0)), (3, .int x3), (4, .int x4)] [.int (0 : Int32)] I J) : Sat (ER l D aI aL ad) M_X7_unit P 153 [(0, .ref (ad 0)), (3, .int x3), (4, .int x4)] [] I J := by
  refine s_iconst (v := 0) dX7_unit_153 rfl ?_
  exact k
theorem bX7_unit_154 {l : Launch} {D : va_G} {aI aL : ClassId} {ad : Nat → Nat} {P : sa_P} {I : sa_I} {J : sa_J} {x3 : Int32} {x4 : Int32} {s0 : Int32} {v155 : Int32}  (f155 : x4 + 1 = v155) (k : Sat (ER l D aI aL ad) M_X7_unit P 108 [(0, .ref (ad 0)), (2, .int s0), (3, .int x3), (4, .int v155)] [] I J) : Sat (ER l D aI aL ad) M_X7_unit P 154 [(0, .ref (ad 0)), (3, .int x3), (4, .int x4)] [.int s0] I J := by
  refine s_istore_n [(2, .int s0), (0, .ref (ad 0)), (3, .int x3), (4, .int x4)] dX7_unit_154 (Nat.lt_of_lt_of_le (Nat.lt_succ_self _) (Nat.le_of_ble_eq_true rfl)) rfl ?_
  refine s_iinc 3 v155 [(4, .int v155), (2, .int s0), (0, .ref (ad 0)), (3, .int x3)] dX7_unit_155 rfl f155 (Nat.lt_of_lt_of_le (Nat.lt_succ_self _) (Nat.le_of_ble_eq_true rfl)) rfl ?_
  refine s_goto (tgt := 108) dX7_unit_158 (by decide) ?_
  refine s_pick [2, 1, 3, 0] [(0, .ref (ad 0)), (2, .int s0), (3, .int x3), (4, .int v155)] rfl ?_; exact k
theorem bX7_unit_161 {l : Launch} {D : va_G} {aI aL : ClassId} {ad : Nat → Nat} {P : sa_P} {I : sa_I} {J : sa_J} {x2 : Int32} {x3 : Int32}   (kt : ¬ J 11 0 = (1 : Int64) → Sat (ER l D aI aL ad) M_X7_unit P 196 [(0, .ref (ad 0)), (2, .int x2), (3, .int x3)] [] I J) (kf : J 11 0 = (1 : Int64) → Sat (ER l D aI aL ad) M_X7_unit P 172 [(0, .ref (ad 0)), (2, .int x2), (3, .int x3)] [] I J) : Sat (ER l D aI aL ad) M_X7_unit P 161 [(0, .ref (ad 0)), (2, .int x2), (3, .int x3)] [] I J := by
  refine s_aload_n 0 dX7_unit_161 rfl ?_
  refine g_X7_41 dX7_unit_162 rfl ?_
  refine s_iconst (v := 0) dX7_unit_165 rfl ?_
  refine s_eqi (y := nI 0) rfl ?_
  refine s_laloadN aJ_R11 (by decide) (by decide) dX7_unit_166 ?_
  refine s_lconst (v := 1) dX7_unit_167 rfl ?_
  refine s_lif_ne (tgt := 196) dX7_unit_168 dX7_unit_169 (by decide) (fun c => ?_) (fun c => ?_)
  · exact kt c
  · exact kf (by first | exact c | exact Classical.not_not.mp c)
theorem bX7_unit_172 {l : Launch} {D : va_G} {aI aL : ClassId} {ad : Nat → Nat} {P : sa_P} {I : sa_I} {J : sa_J} {x2 : Int32} {x3 : Int32}   (kt : ¬ J 11 1 = (0 : Int64) → Sat (ER l D aI aL ad) M_X7_unit P 196 [(0, .ref (ad 0)), (2, .int x2), (3, .int x3)] [] I J) (kf : J 11 1 = (0 : Int64) → Sat (ER l D aI aL ad) M_X7_unit P 183 [(0, .ref (ad 0)), (2, .int x2), (3, .int x3)] [] I J) : Sat (ER l D aI aL ad) M_X7_unit P 172 [(0, .ref (ad 0)), (2, .int x2), (3, .int x3)] [] I J := by
  refine s_aload_n 0 dX7_unit_172 rfl ?_
  refine g_X7_41 dX7_unit_173 rfl ?_
  refine s_iconst (v := 1) dX7_unit_176 rfl ?_
  refine s_eqi (y := nI 1) rfl ?_
  refine s_laloadN aJ_R11 (by decide) (by decide) dX7_unit_177 ?_
  refine s_lconst (v := 0) dX7_unit_178 rfl ?_
  refine s_lif_ne (tgt := 196) dX7_unit_179 dX7_unit_180 (by decide) (fun c => ?_) (fun c => ?_)
  · exact kt c
  · exact kf (by first | exact c | exact Classical.not_not.mp c)
theorem bX7_unit_183 {l : Launch} {D : va_G} {aI aL : ClassId} {ad : Nat → Nat} {P : sa_P} {I : sa_I} {J : sa_J} {x2 : Int32} {x3 : Int32}   (kt : ¬ J 11 2 = (0 : Int64) → Sat (ER l D aI aL ad) M_X7_unit P 196 [(0, .ref (ad 0)), (2, .int x2), (3, .int x3)] [] I J) (kf : J 11 2 = (0 : Int64) → Sat (ER l D aI aL ad) M_X7_unit P 194 [] [] I J) : Sat (ER l D aI aL ad) M_X7_unit P 183 [(0, .ref (ad 0)), (2, .int x2), (3, .int x3)] [] I J := by
  refine s_aload_n 0 dX7_unit_183 rfl ?_
  refine g_X7_41 dX7_unit_184 rfl ?_
  refine s_iconst (v := 2) dX7_unit_187 rfl ?_
  refine s_eqi (y := nI 2) rfl ?_
  refine s_laloadN aJ_R11 (by decide) (by decide) dX7_unit_188 ?_
  refine s_lconst (v := 0) dX7_unit_189 rfl ?_
  refine s_lif_ne (tgt := 196) dX7_unit_190 dX7_unit_191 (by decide) (fun c => ?_) (fun c => ?_)
  · exact kt c
  · refine s_pick [] [] rfl ?_; exact kf (by first | exact c | exact Classical.not_not.mp c)
theorem bX7_unit_194 {l : Launch} {D : va_G} {aI aL : ClassId} {ad : Nat → Nat} {P : sa_P} {I : sa_I} {J : sa_J}    (k : P (some (.int (2 : Int32))) I J) : Sat (ER l D aI aL ad) M_X7_unit P 194 [] [] I J := by
  refine s_iconst (v := 2) dX7_unit_194 rfl ?_
  exact s_iret rfl dX7_unit_195 k
theorem bX7_unit_196 {l : Launch} {D : va_G} {aI aL : ClassId} {ad : Nat → Nat} {P : sa_P} {I : sa_I} {J : sa_J} {x2 : Int32} {x3 : Int32} {v196 : Int32}  (f196 : x3 + 1 = v196) (k : Sat (ER l D aI aL ad) M_X7_unit P 91 [(0, .ref (ad 0)), (2, .int x2), (3, .int v196)] [] I J) : Sat (ER l D aI aL ad) M_X7_unit P 196 [(0, .ref (ad 0)), (2, .int x2), (3, .int x3)] [] I J := by
  refine s_iinc 2 v196 [(3, .int v196), (0, .ref (ad 0)), (2, .int x2)] dX7_unit_196 rfl f196 (Nat.lt_of_lt_of_le (Nat.lt_succ_self _) (Nat.le_of_ble_eq_true rfl)) rfl ?_
  refine s_goto (tgt := 91) dX7_unit_199 (by decide) ?_
  refine s_pick [1, 2, 0] [(0, .ref (ad 0)), (2, .int x2), (3, .int v196)] rfl ?_; exact k
theorem bX7_unit_202 {l : Launch} {D : va_G} {aI aL : ClassId} {ad : Nat → Nat} {P : sa_P} {I : sa_I} {J : sa_J}    (k : P (some (.int (1 : Int32))) I J) : Sat (ER l D aI aL ad) M_X7_unit P 202 [] [] I J := by
  refine s_iconst (v := 1) dX7_unit_202 rfl ?_
  exact s_iret rfl dX7_unit_203 k
/-! X7_gives -/
theorem dX7_gives_0 : decode cX7_gives 0 = .ok (.aload_n 0, 1) := by decide +kernel
theorem dX7_gives_1 : decode cX7_gives 1 = .ok (.getfield 47, 3) := by decide +kernel
theorem dX7_gives_4 : decode cX7_gives 4 = .ok (.iconst 3, 1) := by decide +kernel
theorem dX7_gives_5 : decode cX7_gives 5 = .ok (.aload_n 0, 1) := by decide +kernel
theorem dX7_gives_6 : decode cX7_gives 6 = .ok (.getfield 244, 3) := by decide +kernel
theorem dX7_gives_9 : decode cX7_gives 9 = .ok (.imul, 1) := by decide +kernel
theorem dX7_gives_10 : decode cX7_gives 10 = .ok (.lload_n 1, 1) := by decide +kernel
theorem dX7_gives_11 : decode cX7_gives 11 = .ok (.lastore, 1) := by decide +kernel
theorem dX7_gives_12 : decode cX7_gives 12 = .ok (.aload_n 0, 1) := by decide +kernel
theorem dX7_gives_13 : decode cX7_gives 13 = .ok (.getfield 47, 3) := by decide +kernel
theorem dX7_gives_16 : decode cX7_gives 16 = .ok (.iconst 3, 1) := by decide +kernel
theorem dX7_gives_17 : decode cX7_gives 17 = .ok (.aload_n 0, 1) := by decide +kernel
theorem dX7_gives_18 : decode cX7_gives 18 = .ok (.getfield 244, 3) := by decide +kernel
theorem dX7_gives_21 : decode cX7_gives 21 = .ok (.imul, 1) := by decide +kernel
theorem dX7_gives_22 : decode cX7_gives 22 = .ok (.iconst 1, 1) := by decide +kernel
theorem dX7_gives_23 : decode cX7_gives 23 = .ok (.iadd, 1) := by decide +kernel
theorem dX7_gives_24 : decode cX7_gives 24 = .ok (.lload_n 3, 1) := by decide +kernel
theorem dX7_gives_25 : decode cX7_gives 25 = .ok (.lastore, 1) := by decide +kernel
theorem dX7_gives_26 : decode cX7_gives 26 = .ok (.aload_n 0, 1) := by decide +kernel
theorem dX7_gives_27 : decode cX7_gives 27 = .ok (.getfield 47, 3) := by decide +kernel
theorem dX7_gives_30 : decode cX7_gives 30 = .ok (.iconst 3, 1) := by decide +kernel
theorem dX7_gives_31 : decode cX7_gives 31 = .ok (.aload_n 0, 1) := by decide +kernel
theorem dX7_gives_32 : decode cX7_gives 32 = .ok (.getfield 244, 3) := by decide +kernel
theorem dX7_gives_35 : decode cX7_gives 35 = .ok (.imul, 1) := by decide +kernel
theorem dX7_gives_36 : decode cX7_gives 36 = .ok (.iconst 2, 1) := by decide +kernel
theorem dX7_gives_37 : decode cX7_gives 37 = .ok (.iadd, 1) := by decide +kernel
theorem dX7_gives_38 : decode cX7_gives 38 = .ok (.lload 5, 2) := by decide +kernel
theorem dX7_gives_40 : decode cX7_gives 40 = .ok (.lastore, 1) := by decide +kernel
theorem dX7_gives_41 : decode cX7_gives 41 = .ok (.aload_n 0, 1) := by decide +kernel
theorem dX7_gives_42 : decode cX7_gives 42 = .ok (.dup, 1) := by decide +kernel
theorem dX7_gives_43 : decode cX7_gives 43 = .ok (.getfield 244, 3) := by decide +kernel
theorem dX7_gives_46 : decode cX7_gives 46 = .ok (.iconst 1, 1) := by decide +kernel
theorem dX7_gives_47 : decode cX7_gives 47 = .ok (.iadd, 1) := by decide +kernel
theorem dX7_gives_48 : decode cX7_gives 48 = .ok (.putfield 244, 3) := by decide +kernel
theorem dX7_gives_51 : decode cX7_gives 51 = .ok (.return_, 1) := by decide +kernel
theorem bX7_gives_0 {l : Launch} {D : va_G} {aI aL : ClassId} {ad : Nat → Nat} {P : sa_P} {I : sa_I} {J : sa_J} {x1 : Int64} {x3 : Int64} {x5 : Int64} {j9 : Nat} {j23 : Nat} {j37 : Nat} {v48 : Int32} (e9 : (3 : Int32) * (I 0 27) = nI j9) (h11 : j9 < 60) (e23 : ((3 : Int32) * (I 0 27)) + (1 : Int32) = nI j23) (h25 : j23 < 60) (e37 : ((3 : Int32) * (I 0 27)) + (2 : Int32) = nI j37) (h40 : j37 < 60) (f48 : (I 0 27) + (1 : Int32) = v48) (k : P (none) (sa_uI I 0 27 v48) (sa_uJ (sa_uJ (sa_uJ J 13 j9 x1) 13 j23 x3) 13 j37 x5)) : Sat (ER l D aI aL ad) M_X7_gives P 0 [(0, .ref (ad 0)), (1, .long x1), (3, .long x3), (5, .long x5)] [] I J := by
  refine s_aload_n 0 dX7_gives_0 rfl ?_
  refine g_X7_47 dX7_gives_1 rfl ?_
  refine s_iconst (v := 3) dX7_gives_4 rfl ?_
  refine s_aload_n 0 dX7_gives_5 rfl ?_
  refine g_X7_244 dX7_gives_6 rfl ?_
  refine s_imul dX7_gives_9 ?_
  refine s_eqi e9 ?_
  refine s_lload_n 1 dX7_gives_10 rfl ?_
  refine s_lastoreN aJ_R13 h11 (by decide) dX7_gives_11 ?_
  refine s_aload_n 0 dX7_gives_12 rfl ?_
  refine g_X7_47 dX7_gives_13 rfl ?_
  refine s_iconst (v := 3) dX7_gives_16 rfl ?_
  refine s_aload_n 0 dX7_gives_17 rfl ?_
  refine g_X7_244 dX7_gives_18 rfl ?_
  refine s_imul dX7_gives_21 ?_
  refine s_iconst (v := 1) dX7_gives_22 rfl ?_
  refine s_iadd dX7_gives_23 ?_
  refine s_eqi e23 ?_
  refine s_lload_n 2 dX7_gives_24 rfl ?_
  refine s_lastoreN aJ_R13 h25 (by decide) dX7_gives_25 ?_
  refine s_aload_n 0 dX7_gives_26 rfl ?_
  refine g_X7_47 dX7_gives_27 rfl ?_
  refine s_iconst (v := 3) dX7_gives_30 rfl ?_
  refine s_aload_n 0 dX7_gives_31 rfl ?_
  refine g_X7_244 dX7_gives_32 rfl ?_
  refine s_imul dX7_gives_35 ?_
  refine s_iconst (v := 2) dX7_gives_36 rfl ?_
  refine s_iadd dX7_gives_37 ?_
  refine s_eqi e37 ?_
  refine s_lload 3 dX7_gives_38 rfl ?_
  refine s_lastoreN aJ_R13 h40 (by decide) dX7_gives_40 ?_
  refine s_aload_n 0 dX7_gives_41 rfl ?_
  refine s_dup dX7_gives_42 rfl ?_
  refine g_X7_244 dX7_gives_43 rfl ?_
  refine s_iconst (v := 1) dX7_gives_46 rfl ?_
  refine s_iadd dX7_gives_47 ?_
  refine s_eqi f48 ?_
  refine p_X7_244 dX7_gives_48 rfl ?_
  exact s_vret rfl dX7_gives_51 k
/-! X7_triangle -/
theorem dX7_triangle_0 : decode cX7_triangle 0 = .ok (.iconst 0, 1) := by decide +kernel
theorem dX7_triangle_1 : decode cX7_triangle 1 = .ok (.istore_n 3, 1) := by decide +kernel
theorem dX7_triangle_2 : decode cX7_triangle 2 = .ok (.iload_n 3, 1) := by decide +kernel
theorem dX7_triangle_3 : decode cX7_triangle 3 = .ok (.aload_n 0, 1) := by decide +kernel
theorem dX7_triangle_4 : decode cX7_triangle 4 = .ok (.getfield 244, 3) := by decide +kernel
theorem dX7_triangle_7 : decode cX7_triangle 7 = .ok (.if_icmp .ge 50, 3) := by decide +kernel
theorem dX7_triangle_10 : decode cX7_triangle 10 = .ok (.iconst 0, 1) := by decide +kernel
theorem dX7_triangle_11 : decode cX7_triangle 11 = .ok (.istore 4, 2) := by decide +kernel
theorem dX7_triangle_13 : decode cX7_triangle 13 = .ok (.iload 4, 2) := by decide +kernel
theorem dX7_triangle_15 : decode cX7_triangle 15 = .ok (.iconst 3, 1) := by decide +kernel
theorem dX7_triangle_16 : decode cX7_triangle 16 = .ok (.if_icmp .ge 35, 3) := by decide +kernel
theorem dX7_triangle_19 : decode cX7_triangle 19 = .ok (.aload_n 0, 1) := by decide +kernel
theorem dX7_triangle_20 : decode cX7_triangle 20 = .ok (.getfield 47, 3) := by decide +kernel
theorem dX7_triangle_23 : decode cX7_triangle 23 = .ok (.iconst 3, 1) := by decide +kernel
theorem dX7_triangle_24 : decode cX7_triangle 24 = .ok (.iload_n 3, 1) := by decide +kernel
theorem dX7_triangle_25 : decode cX7_triangle 25 = .ok (.imul, 1) := by decide +kernel
theorem dX7_triangle_26 : decode cX7_triangle 26 = .ok (.iload 4, 2) := by decide +kernel
theorem dX7_triangle_28 : decode cX7_triangle 28 = .ok (.iadd, 1) := by decide +kernel
theorem dX7_triangle_29 : decode cX7_triangle 29 = .ok (.aload_n 0, 1) := by decide +kernel
theorem dX7_triangle_30 : decode cX7_triangle 30 = .ok (.getfield 47, 3) := by decide +kernel
theorem dX7_triangle_33 : decode cX7_triangle 33 = .ok (.iconst 3, 1) := by decide +kernel
theorem dX7_triangle_34 : decode cX7_triangle 34 = .ok (.iload_n 3, 1) := by decide +kernel
theorem dX7_triangle_35 : decode cX7_triangle 35 = .ok (.imul, 1) := by decide +kernel
theorem dX7_triangle_36 : decode cX7_triangle 36 = .ok (.iload 4, 2) := by decide +kernel
theorem dX7_triangle_38 : decode cX7_triangle 38 = .ok (.iadd, 1) := by decide +kernel
theorem dX7_triangle_39 : decode cX7_triangle 39 = .ok (.laload, 1) := by decide +kernel
theorem dX7_triangle_40 : decode cX7_triangle 40 = .ok (.lload_n 1, 1) := by decide +kernel
theorem dX7_triangle_41 : decode cX7_triangle 41 = .ok (.invokestatic 155, 3) := by decide +kernel
theorem dX7_triangle_44 : decode cX7_triangle 44 = .ok (.lastore, 1) := by decide +kernel
theorem dX7_triangle_45 : decode cX7_triangle 45 = .ok (.iinc 4 1, 3) := by decide +kernel
theorem dX7_triangle_48 : decode cX7_triangle 48 = .ok (.goto (-35), 3) := by decide +kernel
theorem dX7_triangle_51 : decode cX7_triangle 51 = .ok (.iinc 3 1, 3) := by decide +kernel
theorem dX7_triangle_54 : decode cX7_triangle 54 = .ok (.goto (-52), 3) := by decide +kernel
theorem dX7_triangle_57 : decode cX7_triangle 57 = .ok (.aload_n 0, 1) := by decide +kernel
theorem dX7_triangle_58 : decode cX7_triangle 58 = .ok (.getfield 101, 3) := by decide +kernel
theorem dX7_triangle_61 : decode cX7_triangle 61 = .ok (.iconst 1, 1) := by decide +kernel
theorem dX7_triangle_62 : decode cX7_triangle 62 = .ok (.isub, 1) := by decide +kernel
theorem dX7_triangle_63 : decode cX7_triangle 63 = .ok (.istore_n 3, 1) := by decide +kernel
theorem dX7_triangle_64 : decode cX7_triangle 64 = .ok (.iload_n 3, 1) := by decide +kernel
theorem dX7_triangle_65 : decode cX7_triangle 65 = .ok (.ifCond .lt 77, 3) := by decide +kernel
theorem dX7_triangle_68 : decode cX7_triangle 68 = .ok (.iconst 0, 1) := by decide +kernel
theorem dX7_triangle_69 : decode cX7_triangle 69 = .ok (.istore 4, 2) := by decide +kernel
theorem dX7_triangle_71 : decode cX7_triangle 71 = .ok (.iload 4, 2) := by decide +kernel
theorem dX7_triangle_73 : decode cX7_triangle 73 = .ok (.iconst 3, 1) := by decide +kernel
theorem dX7_triangle_74 : decode cX7_triangle 74 = .ok (.if_icmp .ge 31, 3) := by decide +kernel
theorem dX7_triangle_77 : decode cX7_triangle 77 = .ok (.aload_n 0, 1) := by decide +kernel
theorem dX7_triangle_78 : decode cX7_triangle 78 = .ok (.getfield 50, 3) := by decide +kernel
theorem dX7_triangle_81 : decode cX7_triangle 81 = .ok (.iconst 3, 1) := by decide +kernel
theorem dX7_triangle_82 : decode cX7_triangle 82 = .ok (.iload_n 3, 1) := by decide +kernel
theorem dX7_triangle_83 : decode cX7_triangle 83 = .ok (.imul, 1) := by decide +kernel
theorem dX7_triangle_84 : decode cX7_triangle 84 = .ok (.iload 4, 2) := by decide +kernel
theorem dX7_triangle_86 : decode cX7_triangle 86 = .ok (.iadd, 1) := by decide +kernel
theorem dX7_triangle_87 : decode cX7_triangle 87 = .ok (.iload 4, 2) := by decide +kernel
theorem dX7_triangle_89 : decode cX7_triangle 89 = .ok (.iload_n 3, 1) := by decide +kernel
theorem dX7_triangle_90 : decode cX7_triangle 90 = .ok (.if_icmp .ne 7, 3) := by decide +kernel
theorem dX7_triangle_93 : decode cX7_triangle 93 = .ok (.lload_n 1, 1) := by decide +kernel
theorem dX7_triangle_94 : decode cX7_triangle 94 = .ok (.goto 4, 3) := by decide +kernel
theorem dX7_triangle_97 : decode cX7_triangle 97 = .ok (.lconst 0, 1) := by decide +kernel
theorem dX7_triangle_98 : decode cX7_triangle 98 = .ok (.lastore, 1) := by decide +kernel
theorem dX7_triangle_99 : decode cX7_triangle 99 = .ok (.iinc 4 1, 3) := by decide +kernel
theorem dX7_triangle_102 : decode cX7_triangle 102 = .ok (.goto (-31), 3) := by decide +kernel
theorem dX7_triangle_105 : decode cX7_triangle 105 = .ok (.iconst 0, 1) := by decide +kernel
theorem dX7_triangle_106 : decode cX7_triangle 106 = .ok (.istore 4, 2) := by decide +kernel
theorem dX7_triangle_108 : decode cX7_triangle 108 = .ok (.iload 4, 2) := by decide +kernel
theorem dX7_triangle_110 : decode cX7_triangle 110 = .ok (.aload_n 0, 1) := by decide +kernel
theorem dX7_triangle_111 : decode cX7_triangle 111 = .ok (.getfield 244, 3) := by decide +kernel
theorem dX7_triangle_114 : decode cX7_triangle 114 = .ok (.if_icmp .ge 22, 3) := by decide +kernel
theorem dX7_triangle_117 : decode cX7_triangle 117 = .ok (.aload_n 0, 1) := by decide +kernel
theorem dX7_triangle_118 : decode cX7_triangle 118 = .ok (.iconst 3, 1) := by decide +kernel
theorem dX7_triangle_119 : decode cX7_triangle 119 = .ok (.iload_n 3, 1) := by decide +kernel
theorem dX7_triangle_120 : decode cX7_triangle 120 = .ok (.imul, 1) := by decide +kernel
theorem dX7_triangle_121 : decode cX7_triangle 121 = .ok (.iconst 3, 1) := by decide +kernel
theorem dX7_triangle_122 : decode cX7_triangle 122 = .ok (.iload 4, 2) := by decide +kernel
theorem dX7_triangle_124 : decode cX7_triangle 124 = .ok (.imul, 1) := by decide +kernel
theorem dX7_triangle_125 : decode cX7_triangle 125 = .ok (.iload_n 3, 1) := by decide +kernel
theorem dX7_triangle_126 : decode cX7_triangle 126 = .ok (.lload_n 1, 1) := by decide +kernel
theorem dX7_triangle_127 : decode cX7_triangle 127 = .ok (.invokevirtual 247, 3) := by decide +kernel
theorem dX7_triangle_130 : decode cX7_triangle 130 = .ok (.iinc 4 1, 3) := by decide +kernel
theorem dX7_triangle_133 : decode cX7_triangle 133 = .ok (.goto (-25), 3) := by decide +kernel
theorem dX7_triangle_136 : decode cX7_triangle 136 = .ok (.iinc 3 (-1), 3) := by decide +kernel
theorem dX7_triangle_139 : decode cX7_triangle 139 = .ok (.goto (-75), 3) := by decide +kernel
theorem dX7_triangle_142 : decode cX7_triangle 142 = .ok (.iconst 1, 1) := by decide +kernel
theorem dX7_triangle_143 : decode cX7_triangle 143 = .ok (.istore_n 3, 1) := by decide +kernel
theorem dX7_triangle_144 : decode cX7_triangle 144 = .ok (.iload_n 3, 1) := by decide +kernel
theorem dX7_triangle_145 : decode cX7_triangle 145 = .ok (.aload_n 0, 1) := by decide +kernel
theorem dX7_triangle_146 : decode cX7_triangle 146 = .ok (.getfield 101, 3) := by decide +kernel
theorem dX7_triangle_149 : decode cX7_triangle 149 = .ok (.if_icmp .ge 98, 3) := by decide +kernel
theorem dX7_triangle_152 : decode cX7_triangle 152 = .ok (.iload_n 3, 1) := by decide +kernel
theorem dX7_triangle_153 : decode cX7_triangle 153 = .ok (.iconst 1, 1) := by decide +kernel
theorem dX7_triangle_154 : decode cX7_triangle 154 = .ok (.isub, 1) := by decide +kernel
theorem dX7_triangle_155 : decode cX7_triangle 155 = .ok (.istore 4, 2) := by decide +kernel
theorem dX7_triangle_157 : decode cX7_triangle 157 = .ok (.iload 4, 2) := by decide +kernel
theorem dX7_triangle_159 : decode cX7_triangle 159 = .ok (.ifCond .lt 82, 3) := by decide +kernel
theorem dX7_triangle_162 : decode cX7_triangle 162 = .ok (.aload_n 0, 1) := by decide +kernel
theorem dX7_triangle_163 : decode cX7_triangle 163 = .ok (.getfield 50, 3) := by decide +kernel
theorem dX7_triangle_166 : decode cX7_triangle 166 = .ok (.iconst 3, 1) := by decide +kernel
theorem dX7_triangle_167 : decode cX7_triangle 167 = .ok (.iload_n 3, 1) := by decide +kernel
theorem dX7_triangle_168 : decode cX7_triangle 168 = .ok (.imul, 1) := by decide +kernel
theorem dX7_triangle_169 : decode cX7_triangle 169 = .ok (.iload 4, 2) := by decide +kernel
theorem dX7_triangle_171 : decode cX7_triangle 171 = .ok (.iadd, 1) := by decide +kernel
theorem dX7_triangle_172 : decode cX7_triangle 172 = .ok (.laload, 1) := by decide +kernel
theorem dX7_triangle_173 : decode cX7_triangle 173 = .ok (.aload_n 0, 1) := by decide +kernel
theorem dX7_triangle_174 : decode cX7_triangle 174 = .ok (.getfield 50, 3) := by decide +kernel
theorem dX7_triangle_177 : decode cX7_triangle 177 = .ok (.iconst 3, 1) := by decide +kernel
theorem dX7_triangle_178 : decode cX7_triangle 178 = .ok (.iload 4, 2) := by decide +kernel
theorem dX7_triangle_180 : decode cX7_triangle 180 = .ok (.imul, 1) := by decide +kernel
theorem dX7_triangle_181 : decode cX7_triangle 181 = .ok (.iload 4, 2) := by decide +kernel
theorem dX7_triangle_183 : decode cX7_triangle 183 = .ok (.iadd, 1) := by decide +kernel
theorem dX7_triangle_184 : decode cX7_triangle 184 = .ok (.laload, 1) := by decide +kernel
theorem dX7_triangle_185 : decode cX7_triangle 185 = .ok (.invokestatic 151, 3) := by decide +kernel
theorem dX7_triangle_188 : decode cX7_triangle 188 = .ok (.lstore 5, 2) := by decide +kernel
theorem dX7_triangle_190 : decode cX7_triangle 190 = .ok (.iconst 0, 1) := by decide +kernel
theorem dX7_triangle_191 : decode cX7_triangle 191 = .ok (.istore 7, 2) := by decide +kernel
theorem dX7_triangle_193 : decode cX7_triangle 193 = .ok (.iload 7, 2) := by decide +kernel
theorem dX7_triangle_195 : decode cX7_triangle 195 = .ok (.iload 4, 2) := by decide +kernel
theorem dX7_triangle_197 : decode cX7_triangle 197 = .ok (.if_icmp .gt 38, 3) := by decide +kernel
theorem dX7_triangle_200 : decode cX7_triangle 200 = .ok (.aload_n 0, 1) := by decide +kernel
theorem dX7_triangle_201 : decode cX7_triangle 201 = .ok (.getfield 50, 3) := by decide +kernel
theorem dX7_triangle_204 : decode cX7_triangle 204 = .ok (.iconst 3, 1) := by decide +kernel
theorem dX7_triangle_205 : decode cX7_triangle 205 = .ok (.iload_n 3, 1) := by decide +kernel
theorem dX7_triangle_206 : decode cX7_triangle 206 = .ok (.imul, 1) := by decide +kernel
theorem dX7_triangle_207 : decode cX7_triangle 207 = .ok (.iload 7, 2) := by decide +kernel
theorem dX7_triangle_209 : decode cX7_triangle 209 = .ok (.iadd, 1) := by decide +kernel
theorem dX7_triangle_210 : decode cX7_triangle 210 = .ok (.dup2, 1) := by decide +kernel
theorem dX7_triangle_211 : decode cX7_triangle 211 = .ok (.laload, 1) := by decide +kernel
theorem dX7_triangle_212 : decode cX7_triangle 212 = .ok (.lload 5, 2) := by decide +kernel
theorem dX7_triangle_214 : decode cX7_triangle 214 = .ok (.aload_n 0, 1) := by decide +kernel
theorem dX7_triangle_215 : decode cX7_triangle 215 = .ok (.getfield 50, 3) := by decide +kernel
theorem dX7_triangle_218 : decode cX7_triangle 218 = .ok (.iconst 3, 1) := by decide +kernel
theorem dX7_triangle_219 : decode cX7_triangle 219 = .ok (.iload 4, 2) := by decide +kernel
theorem dX7_triangle_221 : decode cX7_triangle 221 = .ok (.imul, 1) := by decide +kernel
theorem dX7_triangle_222 : decode cX7_triangle 222 = .ok (.iload 7, 2) := by decide +kernel
theorem dX7_triangle_224 : decode cX7_triangle 224 = .ok (.iadd, 1) := by decide +kernel
theorem dX7_triangle_225 : decode cX7_triangle 225 = .ok (.laload, 1) := by decide +kernel
theorem dX7_triangle_226 : decode cX7_triangle 226 = .ok (.lmul, 1) := by decide +kernel
theorem dX7_triangle_227 : decode cX7_triangle 227 = .ok (.lsub, 1) := by decide +kernel
theorem dX7_triangle_228 : decode cX7_triangle 228 = .ok (.lastore, 1) := by decide +kernel
theorem dX7_triangle_229 : decode cX7_triangle 229 = .ok (.iinc 7 1, 3) := by decide +kernel
theorem dX7_triangle_232 : decode cX7_triangle 232 = .ok (.goto (-39), 3) := by decide +kernel
theorem dX7_triangle_235 : decode cX7_triangle 235 = .ok (.iinc 4 (-1), 3) := by decide +kernel
theorem dX7_triangle_238 : decode cX7_triangle 238 = .ok (.goto (-81), 3) := by decide +kernel
theorem dX7_triangle_241 : decode cX7_triangle 241 = .ok (.iinc 3 1, 3) := by decide +kernel
theorem dX7_triangle_244 : decode cX7_triangle 244 = .ok (.goto (-100), 3) := by decide +kernel
theorem dX7_triangle_247 : decode cX7_triangle 247 = .ok (.return_, 1) := by decide +kernel
theorem bX7_triangle_0 {l : Launch} {D : va_G} {aI aL : ClassId} {ad : Nat → Nat} {P : sa_P} {I : sa_I} {J : sa_J} {x1 : Int64} {v1 : Int32}  (f1 : (0 : Int32) = v1) (k : Sat (ER l D aI aL ad) M_X7_triangle P 2 [(0, .ref (ad 0)), (1, .long x1), (3, .int v1)] [] I J) : Sat (ER l D aI aL ad) M_X7_triangle P 0 [(0, .ref (ad 0)), (1, .long x1)] [] I J := by
  refine s_iconst (v := 0) dX7_triangle_0 rfl ?_
  refine s_eqi f1 ?_
  refine s_istore_n [(3, .int v1), (0, .ref (ad 0)), (1, .long x1)] dX7_triangle_1 (Nat.lt_of_lt_of_le (Nat.lt_succ_self _) (Nat.le_of_ble_eq_true rfl)) rfl ?_
  refine s_pick [1, 2, 0] [(0, .ref (ad 0)), (1, .long x1), (3, .int v1)] rfl ?_; exact k
theorem bX7_triangle_2 {l : Launch} {D : va_G} {aI aL : ClassId} {ad : Nat → Nat} {P : sa_P} {I : sa_I} {J : sa_J} {x1 : Int64} {x3 : Int32}   (kt : I 0 27 ≤ x3 → Sat (ER l D aI aL ad) M_X7_triangle P 57 [(0, .ref (ad 0)), (1, .long x1)] [] I J) (kf : ¬ I 0 27 ≤ x3 → Sat (ER l D aI aL ad) M_X7_triangle P 10 [(0, .ref (ad 0)), (1, .long x1), (3, .int x3)] [] I J) : Sat (ER l D aI aL ad) M_X7_triangle P 2 [(0, .ref (ad 0)), (1, .long x1), (3, .int x3)] [] I J := by
  refine s_iload_n 2 dX7_triangle_2 rfl ?_
  refine s_aload_n 0 dX7_triangle_3 rfl ?_
  refine g_X7_244 dX7_triangle_4 rfl ?_
  refine s_icmp_ge (tgt := 57) dX7_triangle_7 (by decide) (fun c => ?_) (fun c => ?_)
  · refine s_pick [0, 1] [(0, .ref (ad 0)), (1, .long x1)] rfl ?_; exact kt c
  · exact kf c
theorem bX7_triangle_10 {l : Launch} {D : va_G} {aI aL : ClassId} {ad : Nat → Nat} {P : sa_P} {I : sa_I} {J : sa_J} {x1 : Int64} {x3 : Int32} {v11 : Int32}  (f11 : (0 : Int32) = v11) (k : Sat (ER l D aI aL ad) M_X7_triangle P 13 [(0, .ref (ad 0)), (1, .long x1), (3, .int x3), (4, .int v11)] [] I J) : Sat (ER l D aI aL ad) M_X7_triangle P 10 [(0, .ref (ad 0)), (1, .long x1), (3, .int x3)] [] I J := by
  refine s_iconst (v := 0) dX7_triangle_10 rfl ?_
  refine s_eqi f11 ?_
  refine s_istore [(4, .int v11), (0, .ref (ad 0)), (1, .long x1), (3, .int x3)] dX7_triangle_11 (Nat.lt_of_lt_of_le (Nat.lt_succ_self _) (Nat.le_of_ble_eq_true rfl)) rfl ?_
  refine s_pick [1, 2, 3, 0] [(0, .ref (ad 0)), (1, .long x1), (3, .int x3), (4, .int v11)] rfl ?_; exact k
theorem bX7_triangle_13 {l : Launch} {D : va_G} {aI aL : ClassId} {ad : Nat → Nat} {P : sa_P} {I : sa_I} {J : sa_J} {x1 : Int64} {x3 : Int32} {x4 : Int32}   (kt : (3 : Int32) ≤ x4 → Sat (ER l D aI aL ad) M_X7_triangle P 51 [(0, .ref (ad 0)), (1, .long x1), (3, .int x3)] [] I J) (kf : ¬ (3 : Int32) ≤ x4 → Sat (ER l D aI aL ad) M_X7_triangle P 19 [(0, .ref (ad 0)), (1, .long x1), (3, .int x3), (4, .int x4)] [] I J) : Sat (ER l D aI aL ad) M_X7_triangle P 13 [(0, .ref (ad 0)), (1, .long x1), (3, .int x3), (4, .int x4)] [] I J := by
  refine s_iload 3 dX7_triangle_13 rfl ?_
  refine s_iconst (v := 3) dX7_triangle_15 rfl ?_
  refine s_icmp_ge (tgt := 51) dX7_triangle_16 (by decide) (fun c => ?_) (fun c => ?_)
  · refine s_pick [0, 1, 2] [(0, .ref (ad 0)), (1, .long x1), (3, .int x3)] rfl ?_; exact kt c
  · exact kf c
theorem bX7_triangle_19 {l : Launch} {D : va_G} {aI aL : ClassId} {ad : Nat → Nat} {P : sa_P} {I : sa_I} {J : sa_J} {x1 : Int64} {x3 : Int32} {x4 : Int32} {j38 : Nat} (e38 : ((3 : Int32) * x3) + x4 = nI j38) (h39 : j38 < 60)  (k : Sat (ER l D aI aL ad) M_X7_triangle P 41 [(0, .ref (ad 0)), (1, .long x1), (3, .int x3), (4, .int x4)] [.long x1, .long (J 13 j38), .int (((3 : Int32) * x3) + x4), .ref (ad 13)] I J) : Sat (ER l D aI aL ad) M_X7_triangle P 19 [(0, .ref (ad 0)), (1, .long x1), (3, .int x3), (4, .int x4)] [] I J := by
  refine s_aload_n 0 dX7_triangle_19 rfl ?_
  refine g_X7_47 dX7_triangle_20 rfl ?_
  refine s_iconst (v := 3) dX7_triangle_23 rfl ?_
  refine s_iload_n 2 dX7_triangle_24 rfl ?_
  refine s_imul dX7_triangle_25 ?_
  refine s_iload 3 dX7_triangle_26 rfl ?_
  refine s_iadd dX7_triangle_28 ?_
  refine s_aload_n 0 dX7_triangle_29 rfl ?_
  refine g_X7_47 dX7_triangle_30 rfl ?_
  refine s_iconst (v := 3) dX7_triangle_33 rfl ?_
  refine s_iload_n 2 dX7_triangle_34 rfl ?_
  refine s_imul dX7_triangle_35 ?_
  refine s_iload 3 dX7_triangle_36 rfl ?_
  refine s_iadd dX7_triangle_38 ?_
  refine s_eqi e38 ?_
  refine s_laloadN aJ_R13 h39 (by decide) dX7_triangle_39 ?_
  refine s_lload_n 1 dX7_triangle_40 rfl ?_
  exact k
theorem bX7_triangle_44 {l : Launch} {D : va_G} {aI aL : ClassId} {ad : Nat → Nat} {P : sa_P} {I : sa_I} {J : sa_J} {x1 : Int64} {x3 : Int32} {x4 : Int32} {s1 : Nat} {s2 : Int64} {v45 : Int32} (h44 : s1 < 60) (f45 : x4 + 1 = v45) (k : Sat (ER l D aI aL ad) M_X7_triangle P 13 [(0, .ref (ad 0)), (1, .long x1), (3, .int x3), (4, .int v45)] [] I (sa_uJ J 13 s1 s2)) : Sat (ER l D aI aL ad) M_X7_triangle P 44 [(0, .ref (ad 0)), (1, .long x1), (3, .int x3), (4, .int x4)] [.long s2, .int (nI s1), .ref (ad 13)] I J := by
  refine s_lastoreN aJ_R13 h44 (by decide) dX7_triangle_44 ?_
  refine s_iinc 3 v45 [(4, .int v45), (0, .ref (ad 0)), (1, .long x1), (3, .int x3)] dX7_triangle_45 rfl f45 (Nat.lt_of_lt_of_le (Nat.lt_succ_self _) (Nat.le_of_ble_eq_true rfl)) rfl ?_
  refine s_goto (tgt := 13) dX7_triangle_48 (by decide) ?_
  refine s_pick [1, 2, 3, 0] [(0, .ref (ad 0)), (1, .long x1), (3, .int x3), (4, .int v45)] rfl ?_; exact k
theorem bX7_triangle_51 {l : Launch} {D : va_G} {aI aL : ClassId} {ad : Nat → Nat} {P : sa_P} {I : sa_I} {J : sa_J} {x1 : Int64} {x3 : Int32} {v51 : Int32}  (f51 : x3 + 1 = v51) (k : Sat (ER l D aI aL ad) M_X7_triangle P 2 [(0, .ref (ad 0)), (1, .long x1), (3, .int v51)] [] I J) : Sat (ER l D aI aL ad) M_X7_triangle P 51 [(0, .ref (ad 0)), (1, .long x1), (3, .int x3)] [] I J := by
  refine s_iinc 2 v51 [(3, .int v51), (0, .ref (ad 0)), (1, .long x1)] dX7_triangle_51 rfl f51 (Nat.lt_of_lt_of_le (Nat.lt_succ_self _) (Nat.le_of_ble_eq_true rfl)) rfl ?_
  refine s_goto (tgt := 2) dX7_triangle_54 (by decide) ?_
  refine s_pick [1, 2, 0] [(0, .ref (ad 0)), (1, .long x1), (3, .int v51)] rfl ?_; exact k
theorem bX7_triangle_57 {l : Launch} {D : va_G} {aI aL : ClassId} {ad : Nat → Nat} {P : sa_P} {I : sa_I} {J : sa_J} {x1 : Int64} {v63 : Int32}  (f63 : (I 0 1) - (1 : Int32) = v63) (k : Sat (ER l D aI aL ad) M_X7_triangle P 64 [(0, .ref (ad 0)), (1, .long x1), (3, .int v63)] [] I J) : Sat (ER l D aI aL ad) M_X7_triangle P 57 [(0, .ref (ad 0)), (1, .long x1)] [] I J := by
  refine s_aload_n 0 dX7_triangle_57 rfl ?_
  refine g_X7_101 dX7_triangle_58 rfl ?_
  refine s_iconst (v := 1) dX7_triangle_61 rfl ?_
  refine s_isub dX7_triangle_62 ?_
  refine s_eqi f63 ?_
  refine s_istore_n [(3, .int v63), (0, .ref (ad 0)), (1, .long x1)] dX7_triangle_63 (Nat.lt_of_lt_of_le (Nat.lt_succ_self _) (Nat.le_of_ble_eq_true rfl)) rfl ?_
  refine s_pick [1, 2, 0] [(0, .ref (ad 0)), (1, .long x1), (3, .int v63)] rfl ?_; exact k
theorem bX7_triangle_64 {l : Launch} {D : va_G} {aI aL : ClassId} {ad : Nat → Nat} {P : sa_P} {I : sa_I} {J : sa_J} {x1 : Int64} {x3 : Int32}   (kt : x3 < 0 → Sat (ER l D aI aL ad) M_X7_triangle P 142 [(0, .ref (ad 0))] [] I J) (kf : ¬ x3 < 0 → Sat (ER l D aI aL ad) M_X7_triangle P 68 [(0, .ref (ad 0)), (1, .long x1), (3, .int x3)] [] I J) : Sat (ER l D aI aL ad) M_X7_triangle P 64 [(0, .ref (ad 0)), (1, .long x1), (3, .int x3)] [] I J := by
  refine s_iload_n 2 dX7_triangle_64 rfl ?_
  refine s_if_lt (tgt := 142) dX7_triangle_65 (by decide) (fun c => ?_) (fun c => ?_)
  · refine s_pick [0] [(0, .ref (ad 0))] rfl ?_; exact kt c
  · exact kf c
theorem bX7_triangle_68 {l : Launch} {D : va_G} {aI aL : ClassId} {ad : Nat → Nat} {P : sa_P} {I : sa_I} {J : sa_J} {x1 : Int64} {x3 : Int32} {v69 : Int32}  (f69 : (0 : Int32) = v69) (k : Sat (ER l D aI aL ad) M_X7_triangle P 71 [(0, .ref (ad 0)), (1, .long x1), (3, .int x3), (4, .int v69)] [] I J) : Sat (ER l D aI aL ad) M_X7_triangle P 68 [(0, .ref (ad 0)), (1, .long x1), (3, .int x3)] [] I J := by
  refine s_iconst (v := 0) dX7_triangle_68 rfl ?_
  refine s_eqi f69 ?_
  refine s_istore [(4, .int v69), (0, .ref (ad 0)), (1, .long x1), (3, .int x3)] dX7_triangle_69 (Nat.lt_of_lt_of_le (Nat.lt_succ_self _) (Nat.le_of_ble_eq_true rfl)) rfl ?_
  refine s_pick [1, 2, 3, 0] [(0, .ref (ad 0)), (1, .long x1), (3, .int x3), (4, .int v69)] rfl ?_; exact k
theorem bX7_triangle_71 {l : Launch} {D : va_G} {aI aL : ClassId} {ad : Nat → Nat} {P : sa_P} {I : sa_I} {J : sa_J} {x1 : Int64} {x3 : Int32} {x4 : Int32}   (kt : (3 : Int32) ≤ x4 → Sat (ER l D aI aL ad) M_X7_triangle P 105 [(0, .ref (ad 0)), (1, .long x1), (3, .int x3)] [] I J) (kf : ¬ (3 : Int32) ≤ x4 → Sat (ER l D aI aL ad) M_X7_triangle P 77 [(0, .ref (ad 0)), (1, .long x1), (3, .int x3), (4, .int x4)] [] I J) : Sat (ER l D aI aL ad) M_X7_triangle P 71 [(0, .ref (ad 0)), (1, .long x1), (3, .int x3), (4, .int x4)] [] I J := by
  refine s_iload 3 dX7_triangle_71 rfl ?_
  refine s_iconst (v := 3) dX7_triangle_73 rfl ?_
  refine s_icmp_ge (tgt := 105) dX7_triangle_74 (by decide) (fun c => ?_) (fun c => ?_)
  · refine s_pick [0, 1, 2] [(0, .ref (ad 0)), (1, .long x1), (3, .int x3)] rfl ?_; exact kt c
  · exact kf c
theorem bX7_triangle_77 {l : Launch} {D : va_G} {aI aL : ClassId} {ad : Nat → Nat} {P : sa_P} {I : sa_I} {J : sa_J} {x1 : Int64} {x3 : Int32} {x4 : Int32}   (kt : ¬ x4 = x3 → Sat (ER l D aI aL ad) M_X7_triangle P 97 [(0, .ref (ad 0)), (1, .long x1), (3, .int x3), (4, .int x4)] [.int (((3 : Int32) * x3) + x4), .ref (ad 14)] I J) (kf : x4 = x3 → Sat (ER l D aI aL ad) M_X7_triangle P 93 [(0, .ref (ad 0)), (1, .long x1), (3, .int x3), (4, .int x4)] [.int (((3 : Int32) * x3) + x4), .ref (ad 14)] I J) : Sat (ER l D aI aL ad) M_X7_triangle P 77 [(0, .ref (ad 0)), (1, .long x1), (3, .int x3), (4, .int x4)] [] I J := by
  refine s_aload_n 0 dX7_triangle_77 rfl ?_
  refine g_X7_50 dX7_triangle_78 rfl ?_
  refine s_iconst (v := 3) dX7_triangle_81 rfl ?_
  refine s_iload_n 2 dX7_triangle_82 rfl ?_
  refine s_imul dX7_triangle_83 ?_
  refine s_iload 3 dX7_triangle_84 rfl ?_
  refine s_iadd dX7_triangle_86 ?_
  refine s_iload 3 dX7_triangle_87 rfl ?_
  refine s_iload_n 2 dX7_triangle_89 rfl ?_
  refine s_icmp_ne (tgt := 97) dX7_triangle_90 (by decide) (fun c => ?_) (fun c => ?_)
  · exact kt c
  · exact kf (by first | exact c | exact Classical.not_not.mp c)
theorem bX7_triangle_93 {l : Launch} {D : va_G} {aI aL : ClassId} {ad : Nat → Nat} {P : sa_P} {I : sa_I} {J : sa_J} {x1 : Int64} {x3 : Int32} {x4 : Int32} {s1 : Int32}   (k : Sat (ER l D aI aL ad) M_X7_triangle P 98 [(0, .ref (ad 0)), (1, .long x1), (3, .int x3), (4, .int x4)] [.long x1, .int s1, .ref (ad 14)] I J) : Sat (ER l D aI aL ad) M_X7_triangle P 93 [(0, .ref (ad 0)), (1, .long x1), (3, .int x3), (4, .int x4)] [.int s1, .ref (ad 14)] I J := by
  refine s_lload_n 1 dX7_triangle_93 rfl ?_
  refine s_goto (tgt := 98) dX7_triangle_94 (by decide) ?_
  exact k
theorem bX7_triangle_97 {l : Launch} {D : va_G} {aI aL : ClassId} {ad : Nat → Nat} {P : sa_P} {I : sa_I} {J : sa_J} {x1 : Int64} {x3 : Int32} {x4 : Int32} {s1 : Int32}   (k : Sat (ER l D aI aL ad) M_X7_triangle P 98 [(0, .ref (ad 0)), (1, .long x1), (3, .int x3), (4, .int x4)] [.long (0 : Int64), .int s1, .ref (ad 14)] I J) : Sat (ER l D aI aL ad) M_X7_triangle P 97 [(0, .ref (ad 0)), (1, .long x1), (3, .int x3), (4, .int x4)] [.int s1, .ref (ad 14)] I J := by
  refine s_lconst (v := 0) dX7_triangle_97 rfl ?_
  exact k
theorem bX7_triangle_98 {l : Launch} {D : va_G} {aI aL : ClassId} {ad : Nat → Nat} {P : sa_P} {I : sa_I} {J : sa_J} {x1 : Int64} {x3 : Int32} {x4 : Int32} {s1 : Nat} {s2 : Int64} {v99 : Int32} (h98 : s1 < 9) (f99 : x4 + 1 = v99) (k : Sat (ER l D aI aL ad) M_X7_triangle P 71 [(0, .ref (ad 0)), (1, .long x1), (3, .int x3), (4, .int v99)] [] I (sa_uJ J 14 s1 s2)) : Sat (ER l D aI aL ad) M_X7_triangle P 98 [(0, .ref (ad 0)), (1, .long x1), (3, .int x3), (4, .int x4)] [.long s2, .int (nI s1), .ref (ad 14)] I J := by
  refine s_lastoreN aJ_R14 h98 (by decide) dX7_triangle_98 ?_
  refine s_iinc 3 v99 [(4, .int v99), (0, .ref (ad 0)), (1, .long x1), (3, .int x3)] dX7_triangle_99 rfl f99 (Nat.lt_of_lt_of_le (Nat.lt_succ_self _) (Nat.le_of_ble_eq_true rfl)) rfl ?_
  refine s_goto (tgt := 71) dX7_triangle_102 (by decide) ?_
  refine s_pick [1, 2, 3, 0] [(0, .ref (ad 0)), (1, .long x1), (3, .int x3), (4, .int v99)] rfl ?_; exact k
theorem bX7_triangle_105 {l : Launch} {D : va_G} {aI aL : ClassId} {ad : Nat → Nat} {P : sa_P} {I : sa_I} {J : sa_J} {x1 : Int64} {x3 : Int32} {v106 : Int32}  (f106 : (0 : Int32) = v106) (k : Sat (ER l D aI aL ad) M_X7_triangle P 108 [(0, .ref (ad 0)), (1, .long x1), (3, .int x3), (4, .int v106)] [] I J) : Sat (ER l D aI aL ad) M_X7_triangle P 105 [(0, .ref (ad 0)), (1, .long x1), (3, .int x3)] [] I J := by
  refine s_iconst (v := 0) dX7_triangle_105 rfl ?_
  refine s_eqi f106 ?_
  refine s_istore [(4, .int v106), (0, .ref (ad 0)), (1, .long x1), (3, .int x3)] dX7_triangle_106 (Nat.lt_of_lt_of_le (Nat.lt_succ_self _) (Nat.le_of_ble_eq_true rfl)) rfl ?_
  refine s_pick [1, 2, 3, 0] [(0, .ref (ad 0)), (1, .long x1), (3, .int x3), (4, .int v106)] rfl ?_; exact k
theorem bX7_triangle_108 {l : Launch} {D : va_G} {aI aL : ClassId} {ad : Nat → Nat} {P : sa_P} {I : sa_I} {J : sa_J} {x1 : Int64} {x3 : Int32} {x4 : Int32}   (kt : I 0 27 ≤ x4 → Sat (ER l D aI aL ad) M_X7_triangle P 136 [(0, .ref (ad 0)), (1, .long x1), (3, .int x3)] [] I J) (kf : ¬ I 0 27 ≤ x4 → Sat (ER l D aI aL ad) M_X7_triangle P 117 [(0, .ref (ad 0)), (1, .long x1), (3, .int x3), (4, .int x4)] [] I J) : Sat (ER l D aI aL ad) M_X7_triangle P 108 [(0, .ref (ad 0)), (1, .long x1), (3, .int x3), (4, .int x4)] [] I J := by
  refine s_iload 3 dX7_triangle_108 rfl ?_
  refine s_aload_n 0 dX7_triangle_110 rfl ?_
  refine g_X7_244 dX7_triangle_111 rfl ?_
  refine s_icmp_ge (tgt := 136) dX7_triangle_114 (by decide) (fun c => ?_) (fun c => ?_)
  · refine s_pick [0, 1, 2] [(0, .ref (ad 0)), (1, .long x1), (3, .int x3)] rfl ?_; exact kt c
  · exact kf c
theorem bX7_triangle_117 {l : Launch} {D : va_G} {aI aL : ClassId} {ad : Nat → Nat} {P : sa_P} {I : sa_I} {J : sa_J} {x1 : Int64} {x3 : Int32} {x4 : Int32}   (k : Sat (ER l D aI aL ad) M_X7_triangle P 127 [(0, .ref (ad 0)), (1, .long x1), (3, .int x3), (4, .int x4)] [.long x1, .int x3, .int ((3 : Int32) * x4), .int ((3 : Int32) * x3), .ref (ad 0)] I J) : Sat (ER l D aI aL ad) M_X7_triangle P 117 [(0, .ref (ad 0)), (1, .long x1), (3, .int x3), (4, .int x4)] [] I J := by
  refine s_aload_n 0 dX7_triangle_117 rfl ?_
  refine s_iconst (v := 3) dX7_triangle_118 rfl ?_
  refine s_iload_n 2 dX7_triangle_119 rfl ?_
  refine s_imul dX7_triangle_120 ?_
  refine s_iconst (v := 3) dX7_triangle_121 rfl ?_
  refine s_iload 3 dX7_triangle_122 rfl ?_
  refine s_imul dX7_triangle_124 ?_
  refine s_iload_n 2 dX7_triangle_125 rfl ?_
  refine s_lload_n 1 dX7_triangle_126 rfl ?_
  exact k
theorem bX7_triangle_130 {l : Launch} {D : va_G} {aI aL : ClassId} {ad : Nat → Nat} {P : sa_P} {I : sa_I} {J : sa_J} {x1 : Int64} {x3 : Int32} {x4 : Int32} {v130 : Int32}  (f130 : x4 + 1 = v130) (k : Sat (ER l D aI aL ad) M_X7_triangle P 108 [(0, .ref (ad 0)), (1, .long x1), (3, .int x3), (4, .int v130)] [] I J) : Sat (ER l D aI aL ad) M_X7_triangle P 130 [(0, .ref (ad 0)), (1, .long x1), (3, .int x3), (4, .int x4)] [] I J := by
  refine s_iinc 3 v130 [(4, .int v130), (0, .ref (ad 0)), (1, .long x1), (3, .int x3)] dX7_triangle_130 rfl f130 (Nat.lt_of_lt_of_le (Nat.lt_succ_self _) (Nat.le_of_ble_eq_true rfl)) rfl ?_
  refine s_goto (tgt := 108) dX7_triangle_133 (by decide) ?_
  refine s_pick [1, 2, 3, 0] [(0, .ref (ad 0)), (1, .long x1), (3, .int x3), (4, .int v130)] rfl ?_; exact k
theorem bX7_triangle_136 {l : Launch} {D : va_G} {aI aL : ClassId} {ad : Nat → Nat} {P : sa_P} {I : sa_I} {J : sa_J} {x1 : Int64} {x3 : Int32} {v136 : Int32}  (f136 : x3 + (-1) = v136) (k : Sat (ER l D aI aL ad) M_X7_triangle P 64 [(0, .ref (ad 0)), (1, .long x1), (3, .int v136)] [] I J) : Sat (ER l D aI aL ad) M_X7_triangle P 136 [(0, .ref (ad 0)), (1, .long x1), (3, .int x3)] [] I J := by
  refine s_iinc 2 v136 [(3, .int v136), (0, .ref (ad 0)), (1, .long x1)] dX7_triangle_136 rfl f136 (Nat.lt_of_lt_of_le (Nat.lt_succ_self _) (Nat.le_of_ble_eq_true rfl)) rfl ?_
  refine s_goto (tgt := 64) dX7_triangle_139 (by decide) ?_
  refine s_pick [1, 2, 0] [(0, .ref (ad 0)), (1, .long x1), (3, .int v136)] rfl ?_; exact k
theorem bX7_triangle_142 {l : Launch} {D : va_G} {aI aL : ClassId} {ad : Nat → Nat} {P : sa_P} {I : sa_I} {J : sa_J} {v143 : Int32}  (f143 : (1 : Int32) = v143) (k : Sat (ER l D aI aL ad) M_X7_triangle P 144 [(0, .ref (ad 0)), (3, .int v143)] [] I J) : Sat (ER l D aI aL ad) M_X7_triangle P 142 [(0, .ref (ad 0))] [] I J := by
  refine s_iconst (v := 1) dX7_triangle_142 rfl ?_
  refine s_eqi f143 ?_
  refine s_istore_n [(3, .int v143), (0, .ref (ad 0))] dX7_triangle_143 (Nat.lt_of_lt_of_le (Nat.lt_succ_self _) (Nat.le_of_ble_eq_true rfl)) rfl ?_
  refine s_pick [1, 0] [(0, .ref (ad 0)), (3, .int v143)] rfl ?_; exact k
theorem bX7_triangle_144 {l : Launch} {D : va_G} {aI aL : ClassId} {ad : Nat → Nat} {P : sa_P} {I : sa_I} {J : sa_J} {x3 : Int32}   (kt : I 0 1 ≤ x3 → Sat (ER l D aI aL ad) M_X7_triangle P 247 [] [] I J) (kf : ¬ I 0 1 ≤ x3 → Sat (ER l D aI aL ad) M_X7_triangle P 152 [(0, .ref (ad 0)), (3, .int x3)] [] I J) : Sat (ER l D aI aL ad) M_X7_triangle P 144 [(0, .ref (ad 0)), (3, .int x3)] [] I J := by
  refine s_iload_n 1 dX7_triangle_144 rfl ?_
  refine s_aload_n 0 dX7_triangle_145 rfl ?_
  refine g_X7_101 dX7_triangle_146 rfl ?_
  refine s_icmp_ge (tgt := 247) dX7_triangle_149 (by decide) (fun c => ?_) (fun c => ?_)
  · refine s_pick [] [] rfl ?_; exact kt c
  · exact kf c
theorem bX7_triangle_152 {l : Launch} {D : va_G} {aI aL : ClassId} {ad : Nat → Nat} {P : sa_P} {I : sa_I} {J : sa_J} {x3 : Int32} {v155 : Int32}  (f155 : x3 - (1 : Int32) = v155) (k : Sat (ER l D aI aL ad) M_X7_triangle P 157 [(0, .ref (ad 0)), (3, .int x3), (4, .int v155)] [] I J) : Sat (ER l D aI aL ad) M_X7_triangle P 152 [(0, .ref (ad 0)), (3, .int x3)] [] I J := by
  refine s_iload_n 1 dX7_triangle_152 rfl ?_
  refine s_iconst (v := 1) dX7_triangle_153 rfl ?_
  refine s_isub dX7_triangle_154 ?_
  refine s_eqi f155 ?_
  refine s_istore [(4, .int v155), (0, .ref (ad 0)), (3, .int x3)] dX7_triangle_155 (Nat.lt_of_lt_of_le (Nat.lt_succ_self _) (Nat.le_of_ble_eq_true rfl)) rfl ?_
  refine s_pick [1, 2, 0] [(0, .ref (ad 0)), (3, .int x3), (4, .int v155)] rfl ?_; exact k
theorem bX7_triangle_157 {l : Launch} {D : va_G} {aI aL : ClassId} {ad : Nat → Nat} {P : sa_P} {I : sa_I} {J : sa_J} {x3 : Int32} {x4 : Int32}   (kt : x4 < 0 → Sat (ER l D aI aL ad) M_X7_triangle P 241 [(0, .ref (ad 0)), (3, .int x3)] [] I J) (kf : ¬ x4 < 0 → Sat (ER l D aI aL ad) M_X7_triangle P 162 [(0, .ref (ad 0)), (3, .int x3), (4, .int x4)] [] I J) : Sat (ER l D aI aL ad) M_X7_triangle P 157 [(0, .ref (ad 0)), (3, .int x3), (4, .int x4)] [] I J := by
  refine s_iload 2 dX7_triangle_157 rfl ?_
  refine s_if_lt (tgt := 241) dX7_triangle_159 (by decide) (fun c => ?_) (fun c => ?_)
  · refine s_pick [0, 1] [(0, .ref (ad 0)), (3, .int x3)] rfl ?_; exact kt c
  · exact kf c
theorem bX7_triangle_162 {l : Launch} {D : va_G} {aI aL : ClassId} {ad : Nat → Nat} {P : sa_P} {I : sa_I} {J : sa_J} {x3 : Int32} {x4 : Int32} {j171 : Nat} {j183 : Nat} (e171 : ((3 : Int32) * x3) + x4 = nI j171) (h172 : j171 < 9) (e183 : ((3 : Int32) * x4) + x4 = nI j183) (h184 : j183 < 9)  (k : Sat (ER l D aI aL ad) M_X7_triangle P 185 [(0, .ref (ad 0)), (3, .int x3), (4, .int x4)] [.long (J 14 j183), .long (J 14 j171)] I J) : Sat (ER l D aI aL ad) M_X7_triangle P 162 [(0, .ref (ad 0)), (3, .int x3), (4, .int x4)] [] I J := by
  refine s_aload_n 0 dX7_triangle_162 rfl ?_
  refine g_X7_50 dX7_triangle_163 rfl ?_
  refine s_iconst (v := 3) dX7_triangle_166 rfl ?_
  refine s_iload_n 1 dX7_triangle_167 rfl ?_
  refine s_imul dX7_triangle_168 ?_
  refine s_iload 2 dX7_triangle_169 rfl ?_
  refine s_iadd dX7_triangle_171 ?_
  refine s_eqi e171 ?_
  refine s_laloadN aJ_R14 h172 (by decide) dX7_triangle_172 ?_
  refine s_aload_n 0 dX7_triangle_173 rfl ?_
  refine g_X7_50 dX7_triangle_174 rfl ?_
  refine s_iconst (v := 3) dX7_triangle_177 rfl ?_
  refine s_iload 2 dX7_triangle_178 rfl ?_
  refine s_imul dX7_triangle_180 ?_
  refine s_iload 2 dX7_triangle_181 rfl ?_
  refine s_iadd dX7_triangle_183 ?_
  refine s_eqi e183 ?_
  refine s_laloadN aJ_R14 h184 (by decide) dX7_triangle_184 ?_
  exact k
theorem bX7_triangle_188 {l : Launch} {D : va_G} {aI aL : ClassId} {ad : Nat → Nat} {P : sa_P} {I : sa_I} {J : sa_J} {x3 : Int32} {x4 : Int32} {s0 : Int64} {v191 : Int32}  (f191 : (0 : Int32) = v191) (k : Sat (ER l D aI aL ad) M_X7_triangle P 193 [(0, .ref (ad 0)), (3, .int x3), (4, .int x4), (5, .long s0), (7, .int v191)] [] I J) : Sat (ER l D aI aL ad) M_X7_triangle P 188 [(0, .ref (ad 0)), (3, .int x3), (4, .int x4)] [.long s0] I J := by
  refine s_lstore [(5, .long s0), (0, .ref (ad 0)), (3, .int x3), (4, .int x4)] dX7_triangle_188 (Nat.lt_of_lt_of_le (Nat.lt_succ_self _) (Nat.le_of_ble_eq_true rfl)) rfl ?_
  refine s_iconst (v := 0) dX7_triangle_190 rfl ?_
  refine s_eqi f191 ?_
  refine s_istore [(7, .int v191), (5, .long s0), (0, .ref (ad 0)), (3, .int x3), (4, .int x4)] dX7_triangle_191 (Nat.lt_of_lt_of_le (Nat.lt_succ_self _) (Nat.le_of_ble_eq_true rfl)) rfl ?_
  refine s_pick [2, 3, 4, 1, 0] [(0, .ref (ad 0)), (3, .int x3), (4, .int x4), (5, .long s0), (7, .int v191)] rfl ?_; exact k
theorem bX7_triangle_193 {l : Launch} {D : va_G} {aI aL : ClassId} {ad : Nat → Nat} {P : sa_P} {I : sa_I} {J : sa_J} {x3 : Int32} {x4 : Int32} {x5 : Int64} {x7 : Int32}   (kt : x4 < x7 → Sat (ER l D aI aL ad) M_X7_triangle P 235 [(0, .ref (ad 0)), (3, .int x3), (4, .int x4)] [] I J) (kf : ¬ x4 < x7 → Sat (ER l D aI aL ad) M_X7_triangle P 200 [(0, .ref (ad 0)), (3, .int x3), (4, .int x4), (5, .long x5), (7, .int x7)] [] I J) : Sat (ER l D aI aL ad) M_X7_triangle P 193 [(0, .ref (ad 0)), (3, .int x3), (4, .int x4), (5, .long x5), (7, .int x7)] [] I J := by
  refine s_iload 4 dX7_triangle_193 rfl ?_
  refine s_iload 2 dX7_triangle_195 rfl ?_
  refine s_icmp_gt (tgt := 235) dX7_triangle_197 (by decide) (fun c => ?_) (fun c => ?_)
  · refine s_pick [0, 1, 2] [(0, .ref (ad 0)), (3, .int x3), (4, .int x4)] rfl ?_; exact kt c
  · exact kf c
theorem bX7_triangle_200 {l : Launch} {D : va_G} {aI aL : ClassId} {ad : Nat → Nat} {P : sa_P} {I : sa_I} {J : sa_J} {x3 : Int32} {x4 : Int32} {x5 : Int64} {x7 : Int32} {j209 : Nat} {j224 : Nat} {v228 : Int64} {v229 : Int32} (e209 : ((3 : Int32) * x3) + x7 = nI j209) (h211 : j209 < 9) (e224 : ((3 : Int32) * x4) + x7 = nI j224) (h225 : j224 < 9) (h228 : j209 < 9) (f228 : (J 14 j209) - (x5 * (J 14 j224)) = v228) (f229 : x7 + 1 = v229) (k : Sat (ER l D aI aL ad) M_X7_triangle P 193 [(0, .ref (ad 0)), (3, .int x3), (4, .int x4), (5, .long x5), (7, .int v229)] [] I (sa_uJ J 14 j209 v228)) : Sat (ER l D aI aL ad) M_X7_triangle P 200 [(0, .ref (ad 0)), (3, .int x3), (4, .int x4), (5, .long x5), (7, .int x7)] [] I J := by
  refine s_aload_n 0 dX7_triangle_200 rfl ?_
  refine g_X7_50 dX7_triangle_201 rfl ?_
  refine s_iconst (v := 3) dX7_triangle_204 rfl ?_
  refine s_iload_n 1 dX7_triangle_205 rfl ?_
  refine s_imul dX7_triangle_206 ?_
  refine s_iload 4 dX7_triangle_207 rfl ?_
  refine s_iadd dX7_triangle_209 ?_
  refine s_eqi e209 ?_
  refine s_dup2_11 dX7_triangle_210 rfl rfl ?_
  refine s_laloadN aJ_R14 h211 (by decide) dX7_triangle_211 ?_
  refine s_lload 3 dX7_triangle_212 rfl ?_
  refine s_aload_n 0 dX7_triangle_214 rfl ?_
  refine g_X7_50 dX7_triangle_215 rfl ?_
  refine s_iconst (v := 3) dX7_triangle_218 rfl ?_
  refine s_iload 2 dX7_triangle_219 rfl ?_
  refine s_imul dX7_triangle_221 ?_
  refine s_iload 4 dX7_triangle_222 rfl ?_
  refine s_iadd dX7_triangle_224 ?_
  refine s_eqi e224 ?_
  refine s_laloadN aJ_R14 h225 (by decide) dX7_triangle_225 ?_
  refine s_lmul dX7_triangle_226 ?_
  refine s_lsub dX7_triangle_227 ?_
  refine s_eql f228 ?_
  refine s_lastoreN aJ_R14 h228 (by decide) dX7_triangle_228 ?_
  refine s_iinc 4 v229 [(7, .int v229), (0, .ref (ad 0)), (3, .int x3), (4, .int x4), (5, .long x5)] dX7_triangle_229 rfl f229 (Nat.lt_of_lt_of_le (Nat.lt_succ_self _) (Nat.le_of_ble_eq_true rfl)) rfl ?_
  refine s_goto (tgt := 193) dX7_triangle_232 (by decide) ?_
  refine s_pick [1, 2, 3, 4, 0] [(0, .ref (ad 0)), (3, .int x3), (4, .int x4), (5, .long x5), (7, .int v229)] rfl ?_; exact k
theorem bX7_triangle_235 {l : Launch} {D : va_G} {aI aL : ClassId} {ad : Nat → Nat} {P : sa_P} {I : sa_I} {J : sa_J} {x3 : Int32} {x4 : Int32} {v235 : Int32}  (f235 : x4 + (-1) = v235) (k : Sat (ER l D aI aL ad) M_X7_triangle P 157 [(0, .ref (ad 0)), (3, .int x3), (4, .int v235)] [] I J) : Sat (ER l D aI aL ad) M_X7_triangle P 235 [(0, .ref (ad 0)), (3, .int x3), (4, .int x4)] [] I J := by
  refine s_iinc 2 v235 [(4, .int v235), (0, .ref (ad 0)), (3, .int x3)] dX7_triangle_235 rfl f235 (Nat.lt_of_lt_of_le (Nat.lt_succ_self _) (Nat.le_of_ble_eq_true rfl)) rfl ?_
  refine s_goto (tgt := 157) dX7_triangle_238 (by decide) ?_
  refine s_pick [1, 2, 0] [(0, .ref (ad 0)), (3, .int x3), (4, .int v235)] rfl ?_; exact k
theorem bX7_triangle_241 {l : Launch} {D : va_G} {aI aL : ClassId} {ad : Nat → Nat} {P : sa_P} {I : sa_I} {J : sa_J} {x3 : Int32} {v241 : Int32}  (f241 : x3 + 1 = v241) (k : Sat (ER l D aI aL ad) M_X7_triangle P 144 [(0, .ref (ad 0)), (3, .int v241)] [] I J) : Sat (ER l D aI aL ad) M_X7_triangle P 241 [(0, .ref (ad 0)), (3, .int x3)] [] I J := by
  refine s_iinc 1 v241 [(3, .int v241), (0, .ref (ad 0))] dX7_triangle_241 rfl f241 (Nat.lt_of_lt_of_le (Nat.lt_succ_self _) (Nat.le_of_ble_eq_true rfl)) rfl ?_
  refine s_goto (tgt := 144) dX7_triangle_244 (by decide) ?_
  refine s_pick [1, 0] [(0, .ref (ad 0)), (3, .int v241)] rfl ?_; exact k
theorem bX7_triangle_247 {l : Launch} {D : va_G} {aI aL : ClassId} {ad : Nat → Nat} {P : sa_P} {I : sa_I} {J : sa_J}    (k : P (none) I J) : Sat (ER l D aI aL ad) M_X7_triangle P 247 [] [] I J := by
  exact s_vret rfl dX7_triangle_247 k
/-! X7_meet -/
theorem dX7_meet_0 : decode cX7_meet 0 = .ok (.aload_n 0, 1) := by decide +kernel
theorem dX7_meet_1 : decode cX7_meet 1 = .ok (.getfield 47, 3) := by decide +kernel
theorem dX7_meet_4 : decode cX7_meet 4 = .ok (.iload_n 2, 1) := by decide +kernel
theorem dX7_meet_5 : decode cX7_meet 5 = .ok (.iload_n 3, 1) := by decide +kernel
theorem dX7_meet_6 : decode cX7_meet 6 = .ok (.iadd, 1) := by decide +kernel
theorem dX7_meet_7 : decode cX7_meet 7 = .ok (.laload, 1) := by decide +kernel
theorem dX7_meet_8 : decode cX7_meet 8 = .ok (.lconst 0, 1) := by decide +kernel
theorem dX7_meet_9 : decode cX7_meet 9 = .ok (.lcmp, 1) := by decide +kernel
theorem dX7_meet_10 : decode cX7_meet 10 = .ok (.ifCond .eq 109, 3) := by decide +kernel
theorem dX7_meet_13 : decode cX7_meet 13 = .ok (.aload_n 0, 1) := by decide +kernel
theorem dX7_meet_14 : decode cX7_meet 14 = .ok (.getfield 50, 3) := by decide +kernel
theorem dX7_meet_17 : decode cX7_meet 17 = .ok (.iload_n 1, 1) := by decide +kernel
theorem dX7_meet_18 : decode cX7_meet 18 = .ok (.iload_n 3, 1) := by decide +kernel
theorem dX7_meet_19 : decode cX7_meet 19 = .ok (.iadd, 1) := by decide +kernel
theorem dX7_meet_20 : decode cX7_meet 20 = .ok (.laload, 1) := by decide +kernel
theorem dX7_meet_21 : decode cX7_meet 21 = .ok (.aload_n 0, 1) := by decide +kernel
theorem dX7_meet_22 : decode cX7_meet 22 = .ok (.getfield 47, 3) := by decide +kernel
theorem dX7_meet_25 : decode cX7_meet 25 = .ok (.iload_n 2, 1) := by decide +kernel
theorem dX7_meet_26 : decode cX7_meet 26 = .ok (.iload_n 3, 1) := by decide +kernel
theorem dX7_meet_27 : decode cX7_meet 27 = .ok (.iadd, 1) := by decide +kernel
theorem dX7_meet_28 : decode cX7_meet 28 = .ok (.laload, 1) := by decide +kernel
theorem dX7_meet_29 : decode cX7_meet 29 = .ok (.ldiv, 1) := by decide +kernel
theorem dX7_meet_30 : decode cX7_meet 30 = .ok (.lstore 6, 2) := by decide +kernel
theorem dX7_meet_32 : decode cX7_meet 32 = .ok (.iconst 0, 1) := by decide +kernel
theorem dX7_meet_33 : decode cX7_meet 33 = .ok (.istore 8, 2) := by decide +kernel
theorem dX7_meet_35 : decode cX7_meet 35 = .ok (.iload 8, 2) := by decide +kernel
theorem dX7_meet_37 : decode cX7_meet 37 = .ok (.iload_n 3, 1) := by decide +kernel
theorem dX7_meet_38 : decode cX7_meet 38 = .ok (.if_icmp .gt 78, 3) := by decide +kernel
theorem dX7_meet_41 : decode cX7_meet 41 = .ok (.aload_n 0, 1) := by decide +kernel
theorem dX7_meet_42 : decode cX7_meet 42 = .ok (.getfield 50, 3) := by decide +kernel
theorem dX7_meet_45 : decode cX7_meet 45 = .ok (.iload_n 1, 1) := by decide +kernel
theorem dX7_meet_46 : decode cX7_meet 46 = .ok (.iload 8, 2) := by decide +kernel
theorem dX7_meet_48 : decode cX7_meet 48 = .ok (.iadd, 1) := by decide +kernel
theorem dX7_meet_49 : decode cX7_meet 49 = .ok (.laload, 1) := by decide +kernel
theorem dX7_meet_50 : decode cX7_meet 50 = .ok (.lload 6, 2) := by decide +kernel
theorem dX7_meet_52 : decode cX7_meet 52 = .ok (.aload_n 0, 1) := by decide +kernel
theorem dX7_meet_53 : decode cX7_meet 53 = .ok (.getfield 47, 3) := by decide +kernel
theorem dX7_meet_56 : decode cX7_meet 56 = .ok (.iload_n 2, 1) := by decide +kernel
theorem dX7_meet_57 : decode cX7_meet 57 = .ok (.iload 8, 2) := by decide +kernel
theorem dX7_meet_59 : decode cX7_meet 59 = .ok (.iadd, 1) := by decide +kernel
theorem dX7_meet_60 : decode cX7_meet 60 = .ok (.laload, 1) := by decide +kernel
theorem dX7_meet_61 : decode cX7_meet 61 = .ok (.lmul, 1) := by decide +kernel
theorem dX7_meet_62 : decode cX7_meet 62 = .ok (.lsub, 1) := by decide +kernel
theorem dX7_meet_63 : decode cX7_meet 63 = .ok (.lstore 9, 2) := by decide +kernel
theorem dX7_meet_65 : decode cX7_meet 65 = .ok (.aload_n 0, 1) := by decide +kernel
theorem dX7_meet_66 : decode cX7_meet 66 = .ok (.getfield 50, 3) := by decide +kernel
theorem dX7_meet_69 : decode cX7_meet 69 = .ok (.iload_n 1, 1) := by decide +kernel
theorem dX7_meet_70 : decode cX7_meet 70 = .ok (.iload 8, 2) := by decide +kernel
theorem dX7_meet_72 : decode cX7_meet 72 = .ok (.iadd, 1) := by decide +kernel
theorem dX7_meet_73 : decode cX7_meet 73 = .ok (.aload_n 0, 1) := by decide +kernel
theorem dX7_meet_74 : decode cX7_meet 74 = .ok (.getfield 47, 3) := by decide +kernel
theorem dX7_meet_77 : decode cX7_meet 77 = .ok (.iload_n 2, 1) := by decide +kernel
theorem dX7_meet_78 : decode cX7_meet 78 = .ok (.iload 8, 2) := by decide +kernel
theorem dX7_meet_80 : decode cX7_meet 80 = .ok (.iadd, 1) := by decide +kernel
theorem dX7_meet_81 : decode cX7_meet 81 = .ok (.laload, 1) := by decide +kernel
theorem dX7_meet_82 : decode cX7_meet 82 = .ok (.lastore, 1) := by decide +kernel
theorem dX7_meet_83 : decode cX7_meet 83 = .ok (.aload_n 0, 1) := by decide +kernel
theorem dX7_meet_84 : decode cX7_meet 84 = .ok (.getfield 47, 3) := by decide +kernel
theorem dX7_meet_87 : decode cX7_meet 87 = .ok (.iload_n 2, 1) := by decide +kernel
theorem dX7_meet_88 : decode cX7_meet 88 = .ok (.iload 8, 2) := by decide +kernel
theorem dX7_meet_90 : decode cX7_meet 90 = .ok (.iadd, 1) := by decide +kernel
theorem dX7_meet_91 : decode cX7_meet 91 = .ok (.iload 8, 2) := by decide +kernel
theorem dX7_meet_93 : decode cX7_meet 93 = .ok (.iload_n 3, 1) := by decide +kernel
theorem dX7_meet_94 : decode cX7_meet 94 = .ok (.if_icmp .ne 8, 3) := by decide +kernel
theorem dX7_meet_97 : decode cX7_meet 97 = .ok (.lload 9, 2) := by decide +kernel
theorem dX7_meet_99 : decode cX7_meet 99 = .ok (.goto 10, 3) := by decide +kernel
theorem dX7_meet_102 : decode cX7_meet 102 = .ok (.lload 9, 2) := by decide +kernel
theorem dX7_meet_104 : decode cX7_meet 104 = .ok (.lload 4, 2) := by decide +kernel
theorem dX7_meet_106 : decode cX7_meet 106 = .ok (.invokestatic 155, 3) := by decide +kernel
theorem dX7_meet_109 : decode cX7_meet 109 = .ok (.lastore, 1) := by decide +kernel
theorem dX7_meet_110 : decode cX7_meet 110 = .ok (.iinc 8 1, 3) := by decide +kernel
theorem dX7_meet_113 : decode cX7_meet 113 = .ok (.goto (-78), 3) := by decide +kernel
theorem dX7_meet_116 : decode cX7_meet 116 = .ok (.goto (-116), 3) := by decide +kernel
theorem dX7_meet_119 : decode cX7_meet 119 = .ok (.return_, 1) := by decide +kernel
theorem bX7_meet_0 {l : Launch} {D : va_G} {aI aL : ClassId} {ad : Nat → Nat} {P : sa_P} {I : sa_I} {J : sa_J} {x1 : Int32} {x2 : Int32} {x3 : Int32} {x4 : Int64} {j6 : Nat} (e6 : x2 + x3 = nI j6) (h7 : j6 < 60)  (kt : J 13 j6 = (0 : Int64) → Sat (ER l D aI aL ad) M_X7_meet P 119 [] [] I J) (kf : ¬ J 13 j6 = (0 : Int64) → Sat (ER l D aI aL ad) M_X7_meet P 13 [(0, .ref (ad 0)), (1, .int x1), (2, .int x2), (3, .int x3), (4, .long x4)] [] I J) : Sat (ER l D aI aL ad) M_X7_meet P 0 [(0, .ref (ad 0)), (1, .int x1), (2, .int x2), (3, .int x3), (4, .long x4)] [] I J := by
  refine s_aload_n 0 dX7_meet_0 rfl ?_
  refine g_X7_47 dX7_meet_1 rfl ?_
  refine s_iload_n 2 dX7_meet_4 rfl ?_
  refine s_iload_n 3 dX7_meet_5 rfl ?_
  refine s_iadd dX7_meet_6 ?_
  refine s_eqi e6 ?_
  refine s_laloadN aJ_R13 h7 (by decide) dX7_meet_7 ?_
  refine s_lconst (v := 0) dX7_meet_8 rfl ?_
  refine s_lif_eq (tgt := 119) dX7_meet_9 dX7_meet_10 (by decide) (fun c => ?_) (fun c => ?_)
  · refine s_pick [] [] rfl ?_; exact kt c
  · exact kf c
theorem bX7_meet_13 {l : Launch} {D : va_G} {aI aL : ClassId} {ad : Nat → Nat} {P : sa_P} {I : sa_I} {J : sa_J} {x1 : Int32} {x2 : Int32} {x3 : Int32} {x4 : Int64} {j19 : Nat} {j27 : Nat} {v30 : Int64} {v33 : Int32} (e19 : x1 + x3 = nI j19) (h20 : j19 < 9) (e27 : x2 + x3 = nI j27) (h28 : j27 < 60) (z29 : ¬ J 13 j27 = 0) (f30 : (J 14 j19) / (J 13 j27) = v30) (f33 : (0 : Int32) = v33) (k : Sat (ER l D aI aL ad) M_X7_meet P 35 [(0, .ref (ad 0)), (1, .int x1), (2, .int x2), (3, .int x3), (4, .long x4), (6, .long v30), (8, .int v33)] [] I J) : Sat (ER l D aI aL ad) M_X7_meet P 13 [(0, .ref (ad 0)), (1, .int x1), (2, .int x2), (3, .int x3), (4, .long x4)] [] I J := by
  refine s_aload_n 0 dX7_meet_13 rfl ?_
  refine g_X7_50 dX7_meet_14 rfl ?_
  refine s_iload_n 1 dX7_meet_17 rfl ?_
  refine s_iload_n 3 dX7_meet_18 rfl ?_
  refine s_iadd dX7_meet_19 ?_
  refine s_eqi e19 ?_
  refine s_laloadN aJ_R14 h20 (by decide) dX7_meet_20 ?_
  refine s_aload_n 0 dX7_meet_21 rfl ?_
  refine g_X7_47 dX7_meet_22 rfl ?_
  refine s_iload_n 2 dX7_meet_25 rfl ?_
  refine s_iload_n 3 dX7_meet_26 rfl ?_
  refine s_iadd dX7_meet_27 ?_
  refine s_eqi e27 ?_
  refine s_laloadN aJ_R13 h28 (by decide) dX7_meet_28 ?_
  refine s_ldiv dX7_meet_29 z29 ?_
  refine s_eql f30 ?_
  refine s_lstore [(6, .long v30), (0, .ref (ad 0)), (1, .int x1), (2, .int x2), (3, .int x3), (4, .long x4)] dX7_meet_30 (Nat.lt_of_lt_of_le (Nat.lt_succ_self _) (Nat.le_of_ble_eq_true rfl)) rfl ?_
  refine s_iconst (v := 0) dX7_meet_32 rfl ?_
  refine s_eqi f33 ?_
  refine s_istore [(8, .int v33), (6, .long v30), (0, .ref (ad 0)), (1, .int x1), (2, .int x2), (3, .int x3), (4, .long x4)] dX7_meet_33 (Nat.lt_of_lt_of_le (Nat.lt_succ_self _) (Nat.le_of_ble_eq_true rfl)) rfl ?_
  refine s_pick [2, 3, 4, 5, 6, 1, 0] [(0, .ref (ad 0)), (1, .int x1), (2, .int x2), (3, .int x3), (4, .long x4), (6, .long v30), (8, .int v33)] rfl ?_; exact k
theorem bX7_meet_35 {l : Launch} {D : va_G} {aI aL : ClassId} {ad : Nat → Nat} {P : sa_P} {I : sa_I} {J : sa_J} {x1 : Int32} {x2 : Int32} {x3 : Int32} {x4 : Int64} {x6 : Int64} {x8 : Int32}   (kt : x3 < x8 → Sat (ER l D aI aL ad) M_X7_meet P 116 [(0, .ref (ad 0)), (1, .int x1), (2, .int x2), (3, .int x3), (4, .long x4)] [] I J) (kf : ¬ x3 < x8 → Sat (ER l D aI aL ad) M_X7_meet P 41 [(0, .ref (ad 0)), (1, .int x1), (2, .int x2), (3, .int x3), (4, .long x4), (6, .long x6), (8, .int x8)] [] I J) : Sat (ER l D aI aL ad) M_X7_meet P 35 [(0, .ref (ad 0)), (1, .int x1), (2, .int x2), (3, .int x3), (4, .long x4), (6, .long x6), (8, .int x8)] [] I J := by
  refine s_iload 6 dX7_meet_35 rfl ?_
  refine s_iload_n 3 dX7_meet_37 rfl ?_
  refine s_icmp_gt (tgt := 116) dX7_meet_38 (by decide) (fun c => ?_) (fun c => ?_)
  · refine s_pick [0, 1, 2, 3, 4] [(0, .ref (ad 0)), (1, .int x1), (2, .int x2), (3, .int x3), (4, .long x4)] rfl ?_; exact kt c
  · exact kf c
theorem bX7_meet_41 {l : Launch} {D : va_G} {aI aL : ClassId} {ad : Nat → Nat} {P : sa_P} {I : sa_I} {J : sa_J} {x1 : Int32} {x2 : Int32} {x3 : Int32} {x4 : Int64} {x6 : Int64} {x8 : Int32} {j48 : Nat} {j59 : Nat} {v63 : Int64} {j72 : Nat} {j80 : Nat} {v82 : Int64} (e48 : x1 + x8 = nI j48) (h49 : j48 < 9) (e59 : x2 + x8 = nI j59) (h60 : j59 < 60) (e72 : x1 + x8 = nI j72) (e80 : x2 + x8 = nI j80) (h81 : j80 < 60) (h82 : j72 < 9) (f63 : (J 14 j48) - (x6 * (J 13 j59)) = v63) (f82 : J 13 j80 = v82) (kt : ¬ x8 = x3 → Sat (ER l D aI aL ad) M_X7_meet P 102 [(0, .ref (ad 0)), (1, .int x1), (2, .int x2), (3, .int x3), (4, .long x4), (6, .long x6), (8, .int x8), (9, .long v63)] [.int (x2 + x8), .ref (ad 13)] I (sa_uJ J 14 j72 v82)) (kf : x8 = x3 → Sat (ER l D aI aL ad) M_X7_meet P 97 [(0, .ref (ad 0)), (1, .int x1), (2, .int x2), (3, .int x3), (4, .long x4), (6, .long x6), (8, .int x8), (9, .long v63)] [.int (x2 + x8), .ref (ad 13)] I (sa_uJ J 14 j72 v82)) : Sat (ER l D aI aL ad) M_X7_meet P 41 [(0, .ref (ad 0)), (1, .int x1), (2, .int x2), (3, .int x3), (4, .long x4), (6, .long x6), (8, .int x8)] [] I J := by
  refine s_aload_n 0 dX7_meet_41 rfl ?_
  refine g_X7_50 dX7_meet_42 rfl ?_
  refine s_iload_n 1 dX7_meet_45 rfl ?_
  refine s_iload 6 dX7_meet_46 rfl ?_
  refine s_iadd dX7_meet_48 ?_
  refine s_eqi e48 ?_
  refine s_laloadN aJ_R14 h49 (by decide) dX7_meet_49 ?_
  refine s_lload 5 dX7_meet_50 rfl ?_
  refine s_aload_n 0 dX7_meet_52 rfl ?_
  refine g_X7_47 dX7_meet_53 rfl ?_
  refine s_iload_n 2 dX7_meet_56 rfl ?_
  refine s_iload 6 dX7_meet_57 rfl ?_
  refine s_iadd dX7_meet_59 ?_
  refine s_eqi e59 ?_
  refine s_laloadN aJ_R13 h60 (by decide) dX7_meet_60 ?_
  refine s_lmul dX7_meet_61 ?_
  refine s_lsub dX7_meet_62 ?_
  refine s_eql f63 ?_
  refine s_lstore [(9, .long v63), (0, .ref (ad 0)), (1, .int x1), (2, .int x2), (3, .int x3), (4, .long x4), (6, .long x6), (8, .int x8)] dX7_meet_63 (Nat.lt_of_lt_of_le (Nat.lt_succ_self _) (Nat.le_of_ble_eq_true rfl)) rfl ?_
  refine s_aload_n 1 dX7_meet_65 rfl ?_
  refine g_X7_50 dX7_meet_66 rfl ?_
  refine s_iload_n 2 dX7_meet_69 rfl ?_
  refine s_iload 7 dX7_meet_70 rfl ?_
  refine s_iadd dX7_meet_72 ?_
  refine s_eqi e72 ?_
  refine s_aload_n 1 dX7_meet_73 rfl ?_
  refine g_X7_47 dX7_meet_74 rfl ?_
  refine s_iload_n 3 dX7_meet_77 rfl ?_
  refine s_iload 7 dX7_meet_78 rfl ?_
  refine s_iadd dX7_meet_80 ?_
  refine s_eqi e80 ?_
  refine s_laloadN aJ_R13 h81 (by decide) dX7_meet_81 ?_
  refine s_eql f82 ?_
  refine s_lastoreN aJ_R14 h82 (by decide) dX7_meet_82 ?_
  refine s_aload_n 1 dX7_meet_83 rfl ?_
  refine g_X7_47 dX7_meet_84 rfl ?_
  refine s_iload_n 3 dX7_meet_87 rfl ?_
  refine s_iload 7 dX7_meet_88 rfl ?_
  refine s_iadd dX7_meet_90 ?_
  refine s_iload 7 dX7_meet_91 rfl ?_
  refine s_iload_n 4 dX7_meet_93 rfl ?_
  refine s_icmp_ne (tgt := 102) dX7_meet_94 (by decide) (fun c => ?_) (fun c => ?_)
  · refine s_pick [1, 2, 3, 4, 5, 6, 7, 0] [(0, .ref (ad 0)), (1, .int x1), (2, .int x2), (3, .int x3), (4, .long x4), (6, .long x6), (8, .int x8), (9, .long v63)] rfl ?_; exact kt c
  · refine s_pick [1, 2, 3, 4, 5, 6, 7, 0] [(0, .ref (ad 0)), (1, .int x1), (2, .int x2), (3, .int x3), (4, .long x4), (6, .long x6), (8, .int x8), (9, .long v63)] rfl ?_; exact kf (by first | exact c | exact Classical.not_not.mp c)
theorem bX7_meet_97 {l : Launch} {D : va_G} {aI aL : ClassId} {ad : Nat → Nat} {P : sa_P} {I : sa_I} {J : sa_J} {x1 : Int32} {x2 : Int32} {x3 : Int32} {x4 : Int64} {x6 : Int64} {x8 : Int32} {x9 : Int64} {s1 : Int32}   (k : Sat (ER l D aI aL ad) M_X7_meet P 109 [(0, .ref (ad 0)), (1, .int x1), (2, .int x2), (3, .int x3), (4, .long x4), (6, .long x6), (8, .int x8)] [.long x9, .int s1, .ref (ad 13)] I J) : Sat (ER l D aI aL ad) M_X7_meet P 97 [(0, .ref (ad 0)), (1, .int x1), (2, .int x2), (3, .int x3), (4, .long x4), (6, .long x6), (8, .int x8), (9, .long x9)] [.int s1, .ref (ad 13)] I J := by
  refine s_lload 7 dX7_meet_97 rfl ?_
  refine s_goto (tgt := 109) dX7_meet_99 (by decide) ?_
  refine s_pick [0, 1, 2, 3, 4, 5, 6] [(0, .ref (ad 0)), (1, .int x1), (2, .int x2), (3, .int x3), (4, .long x4), (6, .long x6), (8, .int x8)] rfl ?_; exact k
theorem bX7_meet_102 {l : Launch} {D : va_G} {aI aL : ClassId} {ad : Nat → Nat} {P : sa_P} {I : sa_I} {J : sa_J} {x1 : Int32} {x2 : Int32} {x3 : Int32} {x4 : Int64} {x6 : Int64} {x8 : Int32} {x9 : Int64} {s1 : Int32}   (k : Sat (ER l D aI aL ad) M_X7_meet P 106 [(0, .ref (ad 0)), (1, .int x1), (2, .int x2), (3, .int x3), (4, .long x4), (6, .long x6), (8, .int x8)] [.long x4, .long x9, .int s1, .ref (ad 13)] I J) : Sat (ER l D aI aL ad) M_X7_meet P 102 [(0, .ref (ad 0)), (1, .int x1), (2, .int x2), (3, .int x3), (4, .long x4), (6, .long x6), (8, .int x8), (9, .long x9)] [.int s1, .ref (ad 13)] I J := by
  refine s_lload 7 dX7_meet_102 rfl ?_
  refine s_lload 4 dX7_meet_104 rfl ?_
  refine s_pick [0, 1, 2, 3, 4, 5, 6] [(0, .ref (ad 0)), (1, .int x1), (2, .int x2), (3, .int x3), (4, .long x4), (6, .long x6), (8, .int x8)] rfl ?_; exact k
theorem bX7_meet_109 {l : Launch} {D : va_G} {aI aL : ClassId} {ad : Nat → Nat} {P : sa_P} {I : sa_I} {J : sa_J} {x1 : Int32} {x2 : Int32} {x3 : Int32} {x4 : Int64} {x6 : Int64} {x8 : Int32} {s1 : Nat} {s2 : Int64} {v110 : Int32} (h109 : s1 < 60) (f110 : x8 + 1 = v110) (k : Sat (ER l D aI aL ad) M_X7_meet P 35 [(0, .ref (ad 0)), (1, .int x1), (2, .int x2), (3, .int x3), (4, .long x4), (6, .long x6), (8, .int v110)] [] I (sa_uJ J 13 s1 s2)) : Sat (ER l D aI aL ad) M_X7_meet P 109 [(0, .ref (ad 0)), (1, .int x1), (2, .int x2), (3, .int x3), (4, .long x4), (6, .long x6), (8, .int x8)] [.long s2, .int (nI s1), .ref (ad 13)] I J := by
  refine s_lastoreN aJ_R13 h109 (by decide) dX7_meet_109 ?_
  refine s_iinc 6 v110 [(8, .int v110), (0, .ref (ad 0)), (1, .int x1), (2, .int x2), (3, .int x3), (4, .long x4), (6, .long x6)] dX7_meet_110 rfl f110 (Nat.lt_of_lt_of_le (Nat.lt_succ_self _) (Nat.le_of_ble_eq_true rfl)) rfl ?_
  refine s_goto (tgt := 35) dX7_meet_113 (by decide) ?_
  refine s_pick [1, 2, 3, 4, 5, 6, 0] [(0, .ref (ad 0)), (1, .int x1), (2, .int x2), (3, .int x3), (4, .long x4), (6, .long x6), (8, .int v110)] rfl ?_; exact k
theorem bX7_meet_116 {l : Launch} {D : va_G} {aI aL : ClassId} {ad : Nat → Nat} {P : sa_P} {I : sa_I} {J : sa_J} {x1 : Int32} {x2 : Int32} {x3 : Int32} {x4 : Int64}   (k : Sat (ER l D aI aL ad) M_X7_meet P 0 [(0, .ref (ad 0)), (1, .int x1), (2, .int x2), (3, .int x3), (4, .long x4)] [] I J) : Sat (ER l D aI aL ad) M_X7_meet P 116 [(0, .ref (ad 0)), (1, .int x1), (2, .int x2), (3, .int x3), (4, .long x4)] [] I J := by
  refine s_goto (tgt := 0) dX7_meet_116 (by decide) ?_
  exact k
theorem bX7_meet_119 {l : Launch} {D : va_G} {aI aL : ClassId} {ad : Nat → Nat} {P : sa_P} {I : sa_I} {J : sa_J}    (k : P (none) I J) : Sat (ER l D aI aL ad) M_X7_meet P 119 [] [] I J := by
  exact s_vret rfl dX7_meet_119 k
/-! X7_normOfRows -/
theorem dX7_normOfRows_0 : decode cX7_normOfRows 0 = .ok (.lconst 1, 1) := by decide +kernel
theorem dX7_normOfRows_1 : decode cX7_normOfRows 1 = .ok (.lstore_n 1, 1) := by decide +kernel
theorem dX7_normOfRows_2 : decode cX7_normOfRows 2 = .ok (.iconst 0, 1) := by decide +kernel
theorem dX7_normOfRows_3 : decode cX7_normOfRows 3 = .ok (.istore_n 3, 1) := by decide +kernel
theorem dX7_normOfRows_4 : decode cX7_normOfRows 4 = .ok (.iload_n 3, 1) := by decide +kernel
theorem dX7_normOfRows_5 : decode cX7_normOfRows 5 = .ok (.aload_n 0, 1) := by decide +kernel
theorem dX7_normOfRows_6 : decode cX7_normOfRows 6 = .ok (.getfield 101, 3) := by decide +kernel
theorem dX7_normOfRows_9 : decode cX7_normOfRows 9 = .ok (.if_icmp .ge 20, 3) := by decide +kernel
theorem dX7_normOfRows_12 : decode cX7_normOfRows 12 = .ok (.lload_n 1, 1) := by decide +kernel
theorem dX7_normOfRows_13 : decode cX7_normOfRows 13 = .ok (.aload_n 0, 1) := by decide +kernel
theorem dX7_normOfRows_14 : decode cX7_normOfRows 14 = .ok (.getfield 50, 3) := by decide +kernel
theorem dX7_normOfRows_17 : decode cX7_normOfRows 17 = .ok (.iconst 4, 1) := by decide +kernel
theorem dX7_normOfRows_18 : decode cX7_normOfRows 18 = .ok (.iload_n 3, 1) := by decide +kernel
theorem dX7_normOfRows_19 : decode cX7_normOfRows 19 = .ok (.imul, 1) := by decide +kernel
theorem dX7_normOfRows_20 : decode cX7_normOfRows 20 = .ok (.laload, 1) := by decide +kernel
theorem dX7_normOfRows_21 : decode cX7_normOfRows 21 = .ok (.lmul, 1) := by decide +kernel
theorem dX7_normOfRows_22 : decode cX7_normOfRows 22 = .ok (.lstore_n 1, 1) := by decide +kernel
theorem dX7_normOfRows_23 : decode cX7_normOfRows 23 = .ok (.iinc 3 1, 3) := by decide +kernel
theorem dX7_normOfRows_26 : decode cX7_normOfRows 26 = .ok (.goto (-22), 3) := by decide +kernel
theorem dX7_normOfRows_29 : decode cX7_normOfRows 29 = .ok (.lload_n 1, 1) := by decide +kernel
theorem dX7_normOfRows_30 : decode cX7_normOfRows 30 = .ok (.lreturn, 1) := by decide +kernel
theorem bX7_normOfRows_0 {l : Launch} {D : va_G} {aI aL : ClassId} {ad : Nat → Nat} {P : sa_P} {I : sa_I} {J : sa_J} {v1 : Int64} {v3 : Int32}  (f1 : (1 : Int64) = v1) (f3 : (0 : Int32) = v3) (k : Sat (ER l D aI aL ad) M_X7_normOfRows P 4 [(0, .ref (ad 0)), (1, .long v1), (3, .int v3)] [] I J) : Sat (ER l D aI aL ad) M_X7_normOfRows P 0 [(0, .ref (ad 0))] [] I J := by
  refine s_lconst (v := 1) dX7_normOfRows_0 rfl ?_
  refine s_eql f1 ?_
  refine s_lstore_n [(1, .long v1), (0, .ref (ad 0))] dX7_normOfRows_1 (Nat.lt_of_lt_of_le (Nat.lt_succ_self _) (Nat.le_of_ble_eq_true rfl)) rfl ?_
  refine s_iconst (v := 0) dX7_normOfRows_2 rfl ?_
  refine s_eqi f3 ?_
  refine s_istore_n [(3, .int v3), (1, .long v1), (0, .ref (ad 0))] dX7_normOfRows_3 (Nat.lt_of_lt_of_le (Nat.lt_succ_self _) (Nat.le_of_ble_eq_true rfl)) rfl ?_
  refine s_pick [2, 1, 0] [(0, .ref (ad 0)), (1, .long v1), (3, .int v3)] rfl ?_; exact k
theorem bX7_normOfRows_4 {l : Launch} {D : va_G} {aI aL : ClassId} {ad : Nat → Nat} {P : sa_P} {I : sa_I} {J : sa_J} {x1 : Int64} {x3 : Int32}   (kt : I 0 1 ≤ x3 → Sat (ER l D aI aL ad) M_X7_normOfRows P 29 [(1, .long x1)] [] I J) (kf : ¬ I 0 1 ≤ x3 → Sat (ER l D aI aL ad) M_X7_normOfRows P 12 [(0, .ref (ad 0)), (1, .long x1), (3, .int x3)] [] I J) : Sat (ER l D aI aL ad) M_X7_normOfRows P 4 [(0, .ref (ad 0)), (1, .long x1), (3, .int x3)] [] I J := by
  refine s_iload_n 2 dX7_normOfRows_4 rfl ?_
  refine s_aload_n 0 dX7_normOfRows_5 rfl ?_
  refine g_X7_101 dX7_normOfRows_6 rfl ?_
  refine s_icmp_ge (tgt := 29) dX7_normOfRows_9 (by decide) (fun c => ?_) (fun c => ?_)
  · refine s_pick [1] [(1, .long x1)] rfl ?_; exact kt c
  · exact kf c
theorem bX7_normOfRows_12 {l : Launch} {D : va_G} {aI aL : ClassId} {ad : Nat → Nat} {P : sa_P} {I : sa_I} {J : sa_J} {x1 : Int64} {x3 : Int32} {j19 : Nat} {v22 : Int64} {v23 : Int32} (e19 : (4 : Int32) * x3 = nI j19) (h20 : j19 < 9) (f22 : x1 * (J 14 j19) = v22) (f23 : x3 + 1 = v23) (k : Sat (ER l D aI aL ad) M_X7_normOfRows P 4 [(0, .ref (ad 0)), (1, .long v22), (3, .int v23)] [] I J) : Sat (ER l D aI aL ad) M_X7_normOfRows P 12 [(0, .ref (ad 0)), (1, .long x1), (3, .int x3)] [] I J := by
  refine s_lload_n 1 dX7_normOfRows_12 rfl ?_
  refine s_aload_n 0 dX7_normOfRows_13 rfl ?_
  refine g_X7_50 dX7_normOfRows_14 rfl ?_
  refine s_iconst (v := 4) dX7_normOfRows_17 rfl ?_
  refine s_iload_n 2 dX7_normOfRows_18 rfl ?_
  refine s_imul dX7_normOfRows_19 ?_
  refine s_eqi e19 ?_
  refine s_laloadN aJ_R14 h20 (by decide) dX7_normOfRows_20 ?_
  refine s_lmul dX7_normOfRows_21 ?_
  refine s_eql f22 ?_
  refine s_lstore_n [(1, .long v22), (0, .ref (ad 0)), (3, .int x3)] dX7_normOfRows_22 (Nat.lt_of_lt_of_le (Nat.lt_succ_self _) (Nat.le_of_ble_eq_true rfl)) rfl ?_
  refine s_iinc 2 v23 [(3, .int v23), (1, .long v22), (0, .ref (ad 0))] dX7_normOfRows_23 rfl f23 (Nat.lt_of_lt_of_le (Nat.lt_succ_self _) (Nat.le_of_ble_eq_true rfl)) rfl ?_
  refine s_goto (tgt := 4) dX7_normOfRows_26 (by decide) ?_
  refine s_pick [2, 1, 0] [(0, .ref (ad 0)), (1, .long v22), (3, .int v23)] rfl ?_; exact k
theorem bX7_normOfRows_29 {l : Launch} {D : va_G} {aI aL : ClassId} {ad : Nat → Nat} {P : sa_P} {I : sa_I} {J : sa_J} {x1 : Int64}   (k : P (some (.long x1)) I J) : Sat (ER l D aI aL ad) M_X7_normOfRows P 29 [(1, .long x1)] [] I J := by
  refine s_lload_n 0 dX7_normOfRows_29 rfl ?_
  exact s_lret rfl dX7_normOfRows_30 k
/-! X7_load -/
theorem dX7_load_0 : decode cX7_load 0 = .ok (.iconst 0, 1) := by decide +kernel
theorem dX7_load_1 : decode cX7_load 1 = .ok (.istore_n 3, 1) := by decide +kernel
theorem dX7_load_2 : decode cX7_load 2 = .ok (.iload_n 3, 1) := by decide +kernel
theorem dX7_load_3 : decode cX7_load 3 = .ok (.bipush 9, 2) := by decide +kernel
theorem dX7_load_5 : decode cX7_load 5 = .ok (.if_icmp .ge 24, 3) := by decide +kernel
theorem dX7_load_8 : decode cX7_load 8 = .ok (.aload_n 2, 1) := by decide +kernel
theorem dX7_load_9 : decode cX7_load 9 = .ok (.iload_n 3, 1) := by decide +kernel
theorem dX7_load_10 : decode cX7_load 10 = .ok (.aload_n 0, 1) := by decide +kernel
theorem dX7_load_11 : decode cX7_load 11 = .ok (.getfield 20, 3) := by decide +kernel
theorem dX7_load_14 : decode cX7_load 14 = .ok (.bipush 9, 2) := by decide +kernel
theorem dX7_load_16 : decode cX7_load 16 = .ok (.iload_n 1, 1) := by decide +kernel
theorem dX7_load_17 : decode cX7_load 17 = .ok (.imul, 1) := by decide +kernel
theorem dX7_load_18 : decode cX7_load 18 = .ok (.iload_n 3, 1) := by decide +kernel
theorem dX7_load_19 : decode cX7_load 19 = .ok (.iadd, 1) := by decide +kernel
theorem dX7_load_20 : decode cX7_load 20 = .ok (.iaload, 1) := by decide +kernel
theorem dX7_load_21 : decode cX7_load 21 = .ok (.i2l, 1) := by decide +kernel
theorem dX7_load_22 : decode cX7_load 22 = .ok (.lastore, 1) := by decide +kernel
theorem dX7_load_23 : decode cX7_load 23 = .ok (.iinc 3 1, 3) := by decide +kernel
theorem dX7_load_26 : decode cX7_load 26 = .ok (.goto (-24), 3) := by decide +kernel
theorem dX7_load_29 : decode cX7_load 29 = .ok (.return_, 1) := by decide +kernel
theorem bX7_load_0 {l : Launch} {D : va_G} {aI aL : ClassId} {ad : Nat → Nat} {P : sa_P} {I : sa_I} {J : sa_J} {x1 : Int32} {a2 q2 n2 : Nat} {v1 : Int32} (hq2 : sa_iJ (ER l D aI aL ad) a2 q2 n2) (hn2 : n2 < 2 ^ 31) (f1 : (0 : Int32) = v1) (k : Sat (ER l D aI aL ad) M_X7_load P 2 [(0, .ref (ad 0)), (1, .int x1), (2, .ref a2), (3, .int v1)] [] I J) : Sat (ER l D aI aL ad) M_X7_load P 0 [(0, .ref (ad 0)), (1, .int x1), (2, .ref a2)] [] I J := by
  refine s_iconst (v := 0) dX7_load_0 rfl ?_
  refine s_eqi f1 ?_
  refine s_istore_n [(3, .int v1), (0, .ref (ad 0)), (1, .int x1), (2, .ref a2)] dX7_load_1 (Nat.lt_of_lt_of_le (Nat.lt_succ_self _) (Nat.le_of_ble_eq_true rfl)) rfl ?_
  refine s_pick [1, 2, 3, 0] [(0, .ref (ad 0)), (1, .int x1), (2, .ref a2), (3, .int v1)] rfl ?_; exact k
theorem bX7_load_2 {l : Launch} {D : va_G} {aI aL : ClassId} {ad : Nat → Nat} {P : sa_P} {I : sa_I} {J : sa_J} {x1 : Int32} {a2 q2 n2 : Nat} {x3 : Int32} (hq2 : sa_iJ (ER l D aI aL ad) a2 q2 n2) (hn2 : n2 < 2 ^ 31)  (kt : (9 : Int32) ≤ x3 → Sat (ER l D aI aL ad) M_X7_load P 29 [] [] I J) (kf : ¬ (9 : Int32) ≤ x3 → Sat (ER l D aI aL ad) M_X7_load P 8 [(0, .ref (ad 0)), (1, .int x1), (2, .ref a2), (3, .int x3)] [] I J) : Sat (ER l D aI aL ad) M_X7_load P 2 [(0, .ref (ad 0)), (1, .int x1), (2, .ref a2), (3, .int x3)] [] I J := by
  refine s_iload_n 3 dX7_load_2 rfl ?_
  refine s_bipush (v := 9) dX7_load_3 rfl ?_
  refine s_icmp_ge (tgt := 29) dX7_load_5 (by decide) (fun c => ?_) (fun c => ?_)
  · refine s_pick [] [] rfl ?_; exact kt c
  · exact kf c
theorem bX7_load_8 {l : Launch} {D : va_G} {aI aL : ClassId} {ad : Nat → Nat} {P : sa_P} {I : sa_I} {J : sa_J} {x1 : Int32} {a2 q2 n2 : Nat} {x3 : Int32} {j9 : Nat} {j19 : Nat} {v22 : Int64} {v23 : Int32} (hq2 : sa_iJ (ER l D aI aL ad) a2 q2 n2) (hn2 : n2 < 2 ^ 31) (e9 : x3 = nI j9) (e19 : ((9 : Int32) * x1) + x3 = nI j19) (h20 : j19 < 720) (h22 : j9 < n2) (f22 : (I 4 j19).toInt64 = v22) (f23 : x3 + 1 = v23) (k : Sat (ER l D aI aL ad) M_X7_load P 2 [(0, .ref (ad 0)), (1, .int x1), (2, .ref a2), (3, .int v23)] [] I (sa_uJ J q2 j9 v22)) : Sat (ER l D aI aL ad) M_X7_load P 8 [(0, .ref (ad 0)), (1, .int x1), (2, .ref a2), (3, .int x3)] [] I J := by
  refine s_aload_n 2 dX7_load_8 rfl ?_
  refine s_iload_n 3 dX7_load_9 rfl ?_
  refine s_eqi e9 ?_
  refine s_aload_n 0 dX7_load_10 rfl ?_
  refine g_X7_20 dX7_load_11 rfl ?_
  refine s_bipush (v := 9) dX7_load_14 rfl ?_
  refine s_iload_n 1 dX7_load_16 rfl ?_
  refine s_imul dX7_load_17 ?_
  refine s_iload_n 3 dX7_load_18 rfl ?_
  refine s_iadd dX7_load_19 ?_
  refine s_eqi e19 ?_
  refine s_ialoadN aI_R4 h20 (by decide) dX7_load_20 ?_
  refine s_i2l dX7_load_21 ?_
  refine s_eql f22 ?_
  refine s_lastoreN hq2 h22 hn2 dX7_load_22 ?_
  refine s_iinc 3 v23 [(3, .int v23), (0, .ref (ad 0)), (1, .int x1), (2, .ref a2)] dX7_load_23 rfl f23 (Nat.lt_of_lt_of_le (Nat.lt_succ_self _) (Nat.le_of_ble_eq_true rfl)) rfl ?_
  refine s_goto (tgt := 2) dX7_load_26 (by decide) ?_
  refine s_pick [1, 2, 3, 0] [(0, .ref (ad 0)), (1, .int x1), (2, .ref a2), (3, .int v23)] rfl ?_; exact k
theorem bX7_load_29 {l : Launch} {D : va_G} {aI aL : ClassId} {ad : Nat → Nat} {P : sa_P} {I : sa_I} {J : sa_J}    (k : P (none) I J) : Sat (ER l D aI aL ad) M_X7_load P 29 [] [] I J := by
  exact s_vret rfl dX7_load_29 k
/-! X7_normOfAll -/
theorem dX7_normOfAll_0 : decode cX7_normOfAll 0 = .ok (.lconst 1, 1) := by decide +kernel
theorem dX7_normOfAll_1 : decode cX7_normOfAll 1 = .ok (.lstore_n 2, 1) := by decide +kernel
theorem dX7_normOfAll_2 : decode cX7_normOfAll 2 = .ok (.iconst 0, 1) := by decide +kernel
theorem dX7_normOfAll_3 : decode cX7_normOfAll 3 = .ok (.istore 4, 2) := by decide +kernel
theorem dX7_normOfAll_5 : decode cX7_normOfAll 5 = .ok (.iload 4, 2) := by decide +kernel
theorem dX7_normOfAll_7 : decode cX7_normOfAll 7 = .ok (.iload_n 1, 1) := by decide +kernel
theorem dX7_normOfAll_8 : decode cX7_normOfAll 8 = .ok (.if_icmp .ge 18, 3) := by decide +kernel
theorem dX7_normOfAll_11 : decode cX7_normOfAll 11 = .ok (.lload_n 2, 1) := by decide +kernel
theorem dX7_normOfAll_12 : decode cX7_normOfAll 12 = .ok (.aload_n 0, 1) := by decide +kernel
theorem dX7_normOfAll_13 : decode cX7_normOfAll 13 = .ok (.iconst 4, 1) := by decide +kernel
theorem dX7_normOfAll_14 : decode cX7_normOfAll 14 = .ok (.iload 4, 2) := by decide +kernel
theorem dX7_normOfAll_16 : decode cX7_normOfAll 16 = .ok (.imul, 1) := by decide +kernel
theorem dX7_normOfAll_17 : decode cX7_normOfAll 17 = .ok (.laload, 1) := by decide +kernel
theorem dX7_normOfAll_18 : decode cX7_normOfAll 18 = .ok (.lmul, 1) := by decide +kernel
theorem dX7_normOfAll_19 : decode cX7_normOfAll 19 = .ok (.lstore_n 2, 1) := by decide +kernel
theorem dX7_normOfAll_20 : decode cX7_normOfAll 20 = .ok (.iinc 4 1, 3) := by decide +kernel
theorem dX7_normOfAll_23 : decode cX7_normOfAll 23 = .ok (.goto (-18), 3) := by decide +kernel
theorem dX7_normOfAll_26 : decode cX7_normOfAll 26 = .ok (.lload_n 2, 1) := by decide +kernel
theorem dX7_normOfAll_27 : decode cX7_normOfAll 27 = .ok (.lreturn, 1) := by decide +kernel
theorem bX7_normOfAll_0 {E : sa_E} {P : sa_P} {I : sa_I} {J : sa_J} {a0 q0 n0 : Nat} {x1 : Int32} {v1 : Int64} {v3 : Int32} (hq0 : sa_iJ E a0 q0 n0) (hn0 : n0 < 2 ^ 31) (f1 : (1 : Int64) = v1) (f3 : (0 : Int32) = v3) (k : Sat E M_X7_normOfAll P 5 [(0, .ref a0), (1, .int x1), (2, .long v1), (4, .int v3)] [] I J) : Sat E M_X7_normOfAll P 0 [(0, .ref a0), (1, .int x1)] [] I J := by
  refine s_lconst (v := 1) dX7_normOfAll_0 rfl ?_
  refine s_eql f1 ?_
  refine s_lstore_n [(2, .long v1), (0, .ref a0), (1, .int x1)] dX7_normOfAll_1 (Nat.lt_of_lt_of_le (Nat.lt_succ_self _) (Nat.le_of_ble_eq_true rfl)) rfl ?_
  refine s_iconst (v := 0) dX7_normOfAll_2 rfl ?_
  refine s_eqi f3 ?_
  refine s_istore [(4, .int v3), (2, .long v1), (0, .ref a0), (1, .int x1)] dX7_normOfAll_3 (Nat.lt_of_lt_of_le (Nat.lt_succ_self _) (Nat.le_of_ble_eq_true rfl)) rfl ?_
  refine s_pick [2, 3, 1, 0] [(0, .ref a0), (1, .int x1), (2, .long v1), (4, .int v3)] rfl ?_; exact k
theorem bX7_normOfAll_5 {E : sa_E} {P : sa_P} {I : sa_I} {J : sa_J} {a0 q0 n0 : Nat} {x1 : Int32} {x2 : Int64} {x4 : Int32} (hq0 : sa_iJ E a0 q0 n0) (hn0 : n0 < 2 ^ 31)  (kt : x1 ≤ x4 → Sat E M_X7_normOfAll P 26 [(2, .long x2)] [] I J) (kf : ¬ x1 ≤ x4 → Sat E M_X7_normOfAll P 11 [(0, .ref a0), (1, .int x1), (2, .long x2), (4, .int x4)] [] I J) : Sat E M_X7_normOfAll P 5 [(0, .ref a0), (1, .int x1), (2, .long x2), (4, .int x4)] [] I J := by
  refine s_iload 3 dX7_normOfAll_5 rfl ?_
  refine s_iload_n 1 dX7_normOfAll_7 rfl ?_
  refine s_icmp_ge (tgt := 26) dX7_normOfAll_8 (by decide) (fun c => ?_) (fun c => ?_)
  · refine s_pick [2] [(2, .long x2)] rfl ?_; exact kt c
  · exact kf c
theorem bX7_normOfAll_11 {E : sa_E} {P : sa_P} {I : sa_I} {J : sa_J} {a0 q0 n0 : Nat} {x1 : Int32} {x2 : Int64} {x4 : Int32} {j16 : Nat} {v19 : Int64} {v20 : Int32} (hq0 : sa_iJ E a0 q0 n0) (hn0 : n0 < 2 ^ 31) (e16 : (4 : Int32) * x4 = nI j16) (h17 : j16 < n0) (f19 : x2 * (J q0 j16) = v19) (f20 : x4 + 1 = v20) (k : Sat E M_X7_normOfAll P 5 [(0, .ref a0), (1, .int x1), (2, .long v19), (4, .int v20)] [] I J) : Sat E M_X7_normOfAll P 11 [(0, .ref a0), (1, .int x1), (2, .long x2), (4, .int x4)] [] I J := by
  refine s_lload_n 2 dX7_normOfAll_11 rfl ?_
  refine s_aload_n 0 dX7_normOfAll_12 rfl ?_
  refine s_iconst (v := 4) dX7_normOfAll_13 rfl ?_
  refine s_iload 3 dX7_normOfAll_14 rfl ?_
  refine s_imul dX7_normOfAll_16 ?_
  refine s_eqi e16 ?_
  refine s_laloadN hq0 h17 hn0 dX7_normOfAll_17 ?_
  refine s_lmul dX7_normOfAll_18 ?_
  refine s_eql f19 ?_
  refine s_lstore_n [(2, .long v19), (0, .ref a0), (1, .int x1), (4, .int x4)] dX7_normOfAll_19 (Nat.lt_of_lt_of_le (Nat.lt_succ_self _) (Nat.le_of_ble_eq_true rfl)) rfl ?_
  refine s_iinc 3 v20 [(4, .int v20), (2, .long v19), (0, .ref a0), (1, .int x1)] dX7_normOfAll_20 rfl f20 (Nat.lt_of_lt_of_le (Nat.lt_succ_self _) (Nat.le_of_ble_eq_true rfl)) rfl ?_
  refine s_goto (tgt := 5) dX7_normOfAll_23 (by decide) ?_
  refine s_pick [2, 3, 1, 0] [(0, .ref a0), (1, .int x1), (2, .long v19), (4, .int v20)] rfl ?_; exact k
theorem bX7_normOfAll_26 {E : sa_E} {P : sa_P} {I : sa_I} {J : sa_J} {x2 : Int64}   (k : P (some (.long x2)) I J) : Sat E M_X7_normOfAll P 26 [(2, .long x2)] [] I J := by
  refine s_lload_n 0 dX7_normOfAll_26 rfl ?_
  exact s_lret rfl dX7_normOfAll_27 k
/-! X7_keeps -/
theorem dX7_keeps_0 : decode cX7_keeps 0 = .ok (.aload_n 0, 1) := by decide +kernel
theorem dX7_keeps_1 : decode cX7_keeps 1 = .ok (.invokevirtual 251, 3) := by decide +kernel
theorem dX7_keeps_4 : decode cX7_keeps 4 = .ok (.ldc2_w 242, 3) := by decide +kernel
theorem dX7_keeps_7 : decode cX7_keeps 7 = .ok (.lcmp, 1) := by decide +kernel
theorem dX7_keeps_8 : decode cX7_keeps 8 = .ok (.ifCond .gt 12, 3) := by decide +kernel
theorem dX7_keeps_11 : decode cX7_keeps 11 = .ok (.aload_n 0, 1) := by decide +kernel
theorem dX7_keeps_12 : decode cX7_keeps 12 = .ok (.getfield 166, 3) := by decide +kernel
theorem dX7_keeps_15 : decode cX7_keeps 15 = .ok (.bipush 80, 2) := by decide +kernel
theorem dX7_keeps_17 : decode cX7_keeps 17 = .ok (.if_icmp .ne 10, 3) := by decide +kernel
theorem dX7_keeps_20 : decode cX7_keeps 20 = .ok (.aload_n 0, 1) := by decide +kernel
theorem dX7_keeps_21 : decode cX7_keeps 21 = .ok (.bipush (-6), 2) := by decide +kernel
theorem dX7_keeps_23 : decode cX7_keeps 23 = .ok (.invokevirtual 84, 3) := by decide +kernel
theorem dX7_keeps_26 : decode cX7_keeps 26 = .ok (.ireturn, 1) := by decide +kernel
theorem dX7_keeps_27 : decode cX7_keeps 27 = .ok (.iconst 0, 1) := by decide +kernel
theorem dX7_keeps_28 : decode cX7_keeps 28 = .ok (.istore_n 1, 1) := by decide +kernel
theorem dX7_keeps_29 : decode cX7_keeps 29 = .ok (.iload_n 1, 1) := by decide +kernel
theorem dX7_keeps_30 : decode cX7_keeps 30 = .ok (.bipush 9, 2) := by decide +kernel
theorem dX7_keeps_32 : decode cX7_keeps 32 = .ok (.if_icmp .ge 30, 3) := by decide +kernel
theorem dX7_keeps_35 : decode cX7_keeps 35 = .ok (.aload_n 0, 1) := by decide +kernel
theorem dX7_keeps_36 : decode cX7_keeps 36 = .ok (.getfield 20, 3) := by decide +kernel
theorem dX7_keeps_39 : decode cX7_keeps 39 = .ok (.bipush 9, 2) := by decide +kernel
theorem dX7_keeps_41 : decode cX7_keeps 41 = .ok (.aload_n 0, 1) := by decide +kernel
theorem dX7_keeps_42 : decode cX7_keeps 42 = .ok (.getfield 166, 3) := by decide +kernel
theorem dX7_keeps_45 : decode cX7_keeps 45 = .ok (.imul, 1) := by decide +kernel
theorem dX7_keeps_46 : decode cX7_keeps 46 = .ok (.iload_n 1, 1) := by decide +kernel
theorem dX7_keeps_47 : decode cX7_keeps 47 = .ok (.iadd, 1) := by decide +kernel
theorem dX7_keeps_48 : decode cX7_keeps 48 = .ok (.aload_n 0, 1) := by decide +kernel
theorem dX7_keeps_49 : decode cX7_keeps 49 = .ok (.getfield 50, 3) := by decide +kernel
theorem dX7_keeps_52 : decode cX7_keeps 52 = .ok (.iload_n 1, 1) := by decide +kernel
theorem dX7_keeps_53 : decode cX7_keeps 53 = .ok (.laload, 1) := by decide +kernel
theorem dX7_keeps_54 : decode cX7_keeps 54 = .ok (.l2i, 1) := by decide +kernel
theorem dX7_keeps_55 : decode cX7_keeps 55 = .ok (.iastore, 1) := by decide +kernel
theorem dX7_keeps_56 : decode cX7_keeps 56 = .ok (.iinc 1 1, 3) := by decide +kernel
theorem dX7_keeps_59 : decode cX7_keeps 59 = .ok (.goto (-30), 3) := by decide +kernel
theorem dX7_keeps_62 : decode cX7_keeps 62 = .ok (.aload_n 0, 1) := by decide +kernel
theorem dX7_keeps_63 : decode cX7_keeps 63 = .ok (.dup, 1) := by decide +kernel
theorem dX7_keeps_64 : decode cX7_keeps 64 = .ok (.getfield 166, 3) := by decide +kernel
theorem dX7_keeps_67 : decode cX7_keeps 67 = .ok (.iconst 1, 1) := by decide +kernel
theorem dX7_keeps_68 : decode cX7_keeps 68 = .ok (.iadd, 1) := by decide +kernel
theorem dX7_keeps_69 : decode cX7_keeps 69 = .ok (.putfield 166, 3) := by decide +kernel
theorem dX7_keeps_72 : decode cX7_keeps 72 = .ok (.aload_n 0, 1) := by decide +kernel
theorem dX7_keeps_73 : decode cX7_keeps 73 = .ok (.getfield 166, 3) := by decide +kernel
theorem dX7_keeps_76 : decode cX7_keeps 76 = .ok (.iconst 1, 1) := by decide +kernel
theorem dX7_keeps_77 : decode cX7_keeps 77 = .ok (.isub, 1) := by decide +kernel
theorem dX7_keeps_78 : decode cX7_keeps 78 = .ok (.ireturn, 1) := by decide +kernel
theorem bX7_keeps_0 {l : Launch} {D : va_G} {aI aL : ClassId} {ad : Nat → Nat} {P : sa_P} {I : sa_I} {J : sa_J}    (k : Sat (ER l D aI aL ad) M_X7_keeps P 1 [(0, .ref (ad 0))] [.ref (ad 0)] I J) : Sat (ER l D aI aL ad) M_X7_keeps P 0 [(0, .ref (ad 0))] [] I J := by
  refine s_aload_n 0 dX7_keeps_0 rfl ?_
  exact k
theorem bX7_keeps_4 {l : Launch} {D : va_G} {aI aL : ClassId} {ad : Nat → Nat} {P : sa_P} {I : sa_I} {J : sa_J} {s0 : Int64}   (kt : (1000000 : Int64) < s0 → Sat (ER l D aI aL ad) M_X7_keeps P 20 [(0, .ref (ad 0))] [] I J) (kf : ¬ (1000000 : Int64) < s0 → Sat (ER l D aI aL ad) M_X7_keeps P 11 [(0, .ref (ad 0))] [] I J) : Sat (ER l D aI aL ad) M_X7_keeps P 4 [(0, .ref (ad 0))] [.long s0] I J := by
  refine s_ldc2 wk_X7_242 dX7_keeps_4 ?_
  refine s_lif_gt (tgt := 20) dX7_keeps_7 dX7_keeps_8 (by decide) (fun c => ?_) (fun c => ?_)
  · exact kt c
  · exact kf c
theorem bX7_keeps_11 {l : Launch} {D : va_G} {aI aL : ClassId} {ad : Nat → Nat} {P : sa_P} {I : sa_I} {J : sa_J}    (kt : ¬ I 0 14 = (80 : Int32) → Sat (ER l D aI aL ad) M_X7_keeps P 27 [(0, .ref (ad 0))] [] I J) (kf : I 0 14 = (80 : Int32) → Sat (ER l D aI aL ad) M_X7_keeps P 20 [(0, .ref (ad 0))] [] I J) : Sat (ER l D aI aL ad) M_X7_keeps P 11 [(0, .ref (ad 0))] [] I J := by
  refine s_aload_n 0 dX7_keeps_11 rfl ?_
  refine g_X7_166 dX7_keeps_12 rfl ?_
  refine s_bipush (v := 80) dX7_keeps_15 rfl ?_
  refine s_icmp_ne (tgt := 27) dX7_keeps_17 (by decide) (fun c => ?_) (fun c => ?_)
  · exact kt c
  · exact kf (by first | exact c | exact Classical.not_not.mp c)
theorem bX7_keeps_20 {l : Launch} {D : va_G} {aI aL : ClassId} {ad : Nat → Nat} {P : sa_P} {I : sa_I} {J : sa_J}    (k : Sat (ER l D aI aL ad) M_X7_keeps P 23 [] [.int (-6 : Int32), .ref (ad 0)] I J) : Sat (ER l D aI aL ad) M_X7_keeps P 20 [(0, .ref (ad 0))] [] I J := by
  refine s_aload_n 0 dX7_keeps_20 rfl ?_
  refine s_bipush (v := -6) dX7_keeps_21 rfl ?_
  refine s_pick [] [] rfl ?_; exact k
theorem bX7_keeps_26 {l : Launch} {D : va_G} {aI aL : ClassId} {ad : Nat → Nat} {P : sa_P} {I : sa_I} {J : sa_J} {s0 : Int32}   (k : P (some (.int s0)) I J) : Sat (ER l D aI aL ad) M_X7_keeps P 26 [] [.int s0] I J := by
  exact s_iret rfl dX7_keeps_26 k
theorem bX7_keeps_27 {l : Launch} {D : va_G} {aI aL : ClassId} {ad : Nat → Nat} {P : sa_P} {I : sa_I} {J : sa_J} {v28 : Int32}  (f28 : (0 : Int32) = v28) (k : Sat (ER l D aI aL ad) M_X7_keeps P 29 [(0, .ref (ad 0)), (1, .int v28)] [] I J) : Sat (ER l D aI aL ad) M_X7_keeps P 27 [(0, .ref (ad 0))] [] I J := by
  refine s_iconst (v := 0) dX7_keeps_27 rfl ?_
  refine s_eqi f28 ?_
  refine s_istore_n [(1, .int v28), (0, .ref (ad 0))] dX7_keeps_28 (Nat.lt_of_lt_of_le (Nat.lt_succ_self _) (Nat.le_of_ble_eq_true rfl)) rfl ?_
  refine s_pick [1, 0] [(0, .ref (ad 0)), (1, .int v28)] rfl ?_; exact k
theorem bX7_keeps_29 {l : Launch} {D : va_G} {aI aL : ClassId} {ad : Nat → Nat} {P : sa_P} {I : sa_I} {J : sa_J} {x1 : Int32}   (kt : (9 : Int32) ≤ x1 → Sat (ER l D aI aL ad) M_X7_keeps P 62 [(0, .ref (ad 0))] [] I J) (kf : ¬ (9 : Int32) ≤ x1 → Sat (ER l D aI aL ad) M_X7_keeps P 35 [(0, .ref (ad 0)), (1, .int x1)] [] I J) : Sat (ER l D aI aL ad) M_X7_keeps P 29 [(0, .ref (ad 0)), (1, .int x1)] [] I J := by
  refine s_iload_n 1 dX7_keeps_29 rfl ?_
  refine s_bipush (v := 9) dX7_keeps_30 rfl ?_
  refine s_icmp_ge (tgt := 62) dX7_keeps_32 (by decide) (fun c => ?_) (fun c => ?_)
  · refine s_pick [0] [(0, .ref (ad 0))] rfl ?_; exact kt c
  · exact kf c
theorem bX7_keeps_35 {l : Launch} {D : va_G} {aI aL : ClassId} {ad : Nat → Nat} {P : sa_P} {I : sa_I} {J : sa_J} {x1 : Int32} {j47 : Nat} {j52 : Nat} {v55 : Int32} {v56 : Int32} (e47 : ((9 : Int32) * (I 0 14)) + x1 = nI j47) (e52 : x1 = nI j52) (h53 : j52 < 9) (h55 : j47 < 720) (f55 : (J 14 j52).toInt32 = v55) (f56 : x1 + 1 = v56) (k : Sat (ER l D aI aL ad) M_X7_keeps P 29 [(0, .ref (ad 0)), (1, .int v56)] [] (sa_uI I 4 j47 v55) J) : Sat (ER l D aI aL ad) M_X7_keeps P 35 [(0, .ref (ad 0)), (1, .int x1)] [] I J := by
  refine s_aload_n 0 dX7_keeps_35 rfl ?_
  refine g_X7_20 dX7_keeps_36 rfl ?_
  refine s_bipush (v := 9) dX7_keeps_39 rfl ?_
  refine s_aload_n 0 dX7_keeps_41 rfl ?_
  refine g_X7_166 dX7_keeps_42 rfl ?_
  refine s_imul dX7_keeps_45 ?_
  refine s_iload_n 1 dX7_keeps_46 rfl ?_
  refine s_iadd dX7_keeps_47 ?_
  refine s_eqi e47 ?_
  refine s_aload_n 0 dX7_keeps_48 rfl ?_
  refine g_X7_50 dX7_keeps_49 rfl ?_
  refine s_iload_n 1 dX7_keeps_52 rfl ?_
  refine s_eqi e52 ?_
  refine s_laloadN aJ_R14 h53 (by decide) dX7_keeps_53 ?_
  refine s_l2i dX7_keeps_54 ?_
  refine s_eqi f55 ?_
  refine s_iastoreN aI_R4 h55 (by decide) dX7_keeps_55 ?_
  refine s_iinc 1 v56 [(1, .int v56), (0, .ref (ad 0))] dX7_keeps_56 rfl f56 (Nat.lt_of_lt_of_le (Nat.lt_succ_self _) (Nat.le_of_ble_eq_true rfl)) rfl ?_
  refine s_goto (tgt := 29) dX7_keeps_59 (by decide) ?_
  refine s_pick [1, 0] [(0, .ref (ad 0)), (1, .int v56)] rfl ?_; exact k
theorem bX7_keeps_62 {l : Launch} {D : va_G} {aI aL : ClassId} {ad : Nat → Nat} {P : sa_P} {I : sa_I} {J : sa_J} {v69 : Int32}  (f69 : (I 0 14) + (1 : Int32) = v69) (k : P (some (.int (((sa_uI I 0 14 v69) 0 14) - (1 : Int32)))) (sa_uI I 0 14 v69) J) : Sat (ER l D aI aL ad) M_X7_keeps P 62 [(0, .ref (ad 0))] [] I J := by
  refine s_aload_n 0 dX7_keeps_62 rfl ?_
  refine s_dup dX7_keeps_63 rfl ?_
  refine g_X7_166 dX7_keeps_64 rfl ?_
  refine s_iconst (v := 1) dX7_keeps_67 rfl ?_
  refine s_iadd dX7_keeps_68 ?_
  refine s_eqi f69 ?_
  refine p_X7_166 dX7_keeps_69 rfl ?_
  refine s_aload_n 0 dX7_keeps_72 rfl ?_
  refine g_X7_166 dX7_keeps_73 rfl ?_
  refine s_iconst (v := 1) dX7_keeps_76 rfl ?_
  refine s_isub dX7_keeps_77 ?_
  exact s_iret rfl dX7_keeps_78 k
/-! X7_isIdeal -/
theorem dX7_isIdeal_0 : decode cX7_isIdeal 0 = .ok (.iload_n 1, 1) := by decide +kernel
theorem dX7_isIdeal_1 : decode cX7_isIdeal 1 = .ok (.aload_n 0, 1) := by decide +kernel
theorem dX7_isIdeal_2 : decode cX7_isIdeal 2 = .ok (.getfield 166, 3) := by decide +kernel
theorem dX7_isIdeal_5 : decode cX7_isIdeal 5 = .ok (.invokestatic 210, 3) := by decide +kernel
theorem dX7_isIdeal_8 : decode cX7_isIdeal 8 = .ok (.ireturn, 1) := by decide +kernel
theorem bX7_isIdeal_0 {l : Launch} {D : va_G} {aI aL : ClassId} {ad : Nat → Nat} {P : sa_P} {I : sa_I} {J : sa_J} {x1 : Int32}   (k : Sat (ER l D aI aL ad) M_X7_isIdeal P 5 [] [.int (I 0 14), .int x1] I J) : Sat (ER l D aI aL ad) M_X7_isIdeal P 0 [(0, .ref (ad 0)), (1, .int x1)] [] I J := by
  refine s_iload_n 1 dX7_isIdeal_0 rfl ?_
  refine s_aload_n 0 dX7_isIdeal_1 rfl ?_
  refine g_X7_166 dX7_isIdeal_2 rfl ?_
  refine s_pick [] [] rfl ?_; exact k
theorem bX7_isIdeal_8 {l : Launch} {D : va_G} {aI aL : ClassId} {ad : Nat → Nat} {P : sa_P} {I : sa_I} {J : sa_J} {s0 : Int32} (hz : narrow .boolean (.int s0) = .int s0)  (k : P (some (.int s0)) I J) : Sat (ER l D aI aL ad) M_X7_isIdeal P 8 [] [.int s0] I J := by
  exact s_zret hz rfl dX7_isIdeal_8 k
/-! X7_ideal -/
theorem dX7_ideal_0 : decode cX7_ideal 0 = .ok (.aload_n 0, 1) := by decide +kernel
theorem dX7_ideal_1 : decode cX7_ideal 1 = .ok (.invokevirtual 203, 3) := by decide +kernel
theorem dX7_ideal_4 : decode cX7_ideal 4 = .ok (.ifCond .ne 10, 3) := by decide +kernel
theorem dX7_ideal_7 : decode cX7_ideal 7 = .ok (.aload_n 0, 1) := by decide +kernel
theorem dX7_ideal_8 : decode cX7_ideal 8 = .ok (.bipush (-3), 2) := by decide +kernel
theorem dX7_ideal_10 : decode cX7_ideal 10 = .ok (.invokevirtual 84, 3) := by decide +kernel
theorem dX7_ideal_13 : decode cX7_ideal 13 = .ok (.ireturn, 1) := by decide +kernel
theorem dX7_ideal_14 : decode cX7_ideal 14 = .ok (.aload_n 0, 1) := by decide +kernel
theorem dX7_ideal_15 : decode cX7_ideal 15 = .ok (.iload_n 2, 1) := by decide +kernel
theorem dX7_ideal_16 : decode cX7_ideal 16 = .ok (.invokevirtual 232, 3) := by decide +kernel
theorem dX7_ideal_19 : decode cX7_ideal 19 = .ok (.ifCond .ne 9, 3) := by decide +kernel
theorem dX7_ideal_22 : decode cX7_ideal 22 = .ok (.aload_n 0, 1) := by decide +kernel
theorem dX7_ideal_23 : decode cX7_ideal 23 = .ok (.iconst (-1), 1) := by decide +kernel
theorem dX7_ideal_24 : decode cX7_ideal 24 = .ok (.invokevirtual 84, 3) := by decide +kernel
theorem dX7_ideal_27 : decode cX7_ideal 27 = .ok (.ireturn, 1) := by decide +kernel
theorem dX7_ideal_28 : decode cX7_ideal 28 = .ok (.iload_n 1, 1) := by decide +kernel
theorem dX7_ideal_29 : decode cX7_ideal 29 = .ok (.iconst 1, 1) := by decide +kernel
theorem dX7_ideal_30 : decode cX7_ideal 30 = .ok (.if_icmp .ge 10, 3) := by decide +kernel
theorem dX7_ideal_33 : decode cX7_ideal 33 = .ok (.aload_n 0, 1) := by decide +kernel
theorem dX7_ideal_34 : decode cX7_ideal 34 = .ok (.bipush (-4), 2) := by decide +kernel
theorem dX7_ideal_36 : decode cX7_ideal 36 = .ok (.invokevirtual 84, 3) := by decide +kernel
theorem dX7_ideal_39 : decode cX7_ideal 39 = .ok (.ireturn, 1) := by decide +kernel
theorem dX7_ideal_40 : decode cX7_ideal 40 = .ok (.iload_n 1, 1) := by decide +kernel
theorem dX7_ideal_41 : decode cX7_ideal 41 = .ok (.ldc 254, 2) := by decide +kernel
theorem dX7_ideal_43 : decode cX7_ideal 43 = .ok (.if_icmp .le 10, 3) := by decide +kernel
theorem dX7_ideal_46 : decode cX7_ideal 46 = .ok (.aload_n 0, 1) := by decide +kernel
theorem dX7_ideal_47 : decode cX7_ideal 47 = .ok (.bipush (-6), 2) := by decide +kernel
theorem dX7_ideal_49 : decode cX7_ideal 49 = .ok (.invokevirtual 84, 3) := by decide +kernel
theorem dX7_ideal_52 : decode cX7_ideal 52 = .ok (.ireturn, 1) := by decide +kernel
theorem dX7_ideal_53 : decode cX7_ideal 53 = .ok (.aload_n 0, 1) := by decide +kernel
theorem dX7_ideal_54 : decode cX7_ideal 54 = .ok (.iload_n 2, 1) := by decide +kernel
theorem dX7_ideal_55 : decode cX7_ideal 55 = .ok (.aload_n 0, 1) := by decide +kernel
theorem dX7_ideal_56 : decode cX7_ideal 56 = .ok (.getfield 38, 3) := by decide +kernel
theorem dX7_ideal_59 : decode cX7_ideal 59 = .ok (.invokevirtual 235, 3) := by decide +kernel
theorem dX7_ideal_62 : decode cX7_ideal 62 = .ok (.aload_n 0, 1) := by decide +kernel
theorem dX7_ideal_63 : decode cX7_ideal 63 = .ok (.aload_n 0, 1) := by decide +kernel
theorem dX7_ideal_64 : decode cX7_ideal 64 = .ok (.getfield 38, 3) := by decide +kernel
theorem dX7_ideal_67 : decode cX7_ideal 67 = .ok (.invokevirtual 225, 3) := by decide +kernel
theorem dX7_ideal_70 : decode cX7_ideal 70 = .ok (.aload_n 0, 1) := by decide +kernel
theorem dX7_ideal_71 : decode cX7_ideal 71 = .ok (.iconst 0, 1) := by decide +kernel
theorem dX7_ideal_72 : decode cX7_ideal 72 = .ok (.putfield 244, 3) := by decide +kernel
theorem dX7_ideal_75 : decode cX7_ideal 75 = .ok (.iconst 0, 1) := by decide +kernel
theorem dX7_ideal_76 : decode cX7_ideal 76 = .ok (.istore_n 3, 1) := by decide +kernel
theorem dX7_ideal_77 : decode cX7_ideal 77 = .ok (.iload_n 3, 1) := by decide +kernel
theorem dX7_ideal_78 : decode cX7_ideal 78 = .ok (.aload_n 0, 1) := by decide +kernel
theorem dX7_ideal_79 : decode cX7_ideal 79 = .ok (.getfield 101, 3) := by decide +kernel
theorem dX7_ideal_82 : decode cX7_ideal 82 = .ok (.if_icmp .ge 53, 3) := by decide +kernel
theorem dX7_ideal_85 : decode cX7_ideal 85 = .ok (.aload_n 0, 1) := by decide +kernel
theorem dX7_ideal_86 : decode cX7_ideal 86 = .ok (.aload_n 0, 1) := by decide +kernel
theorem dX7_ideal_87 : decode cX7_ideal 87 = .ok (.getfield 35, 3) := by decide +kernel
theorem dX7_ideal_90 : decode cX7_ideal 90 = .ok (.iconst 3, 1) := by decide +kernel
theorem dX7_ideal_91 : decode cX7_ideal 91 = .ok (.iload_n 3, 1) := by decide +kernel
theorem dX7_ideal_92 : decode cX7_ideal 92 = .ok (.imul, 1) := by decide +kernel
theorem dX7_ideal_93 : decode cX7_ideal 93 = .ok (.laload, 1) := by decide +kernel
theorem dX7_ideal_94 : decode cX7_ideal 94 = .ok (.aload_n 0, 1) := by decide +kernel
theorem dX7_ideal_95 : decode cX7_ideal 95 = .ok (.getfield 35, 3) := by decide +kernel
theorem dX7_ideal_98 : decode cX7_ideal 98 = .ok (.iconst 3, 1) := by decide +kernel
theorem dX7_ideal_99 : decode cX7_ideal 99 = .ok (.iload_n 3, 1) := by decide +kernel
theorem dX7_ideal_100 : decode cX7_ideal 100 = .ok (.imul, 1) := by decide +kernel
theorem dX7_ideal_101 : decode cX7_ideal 101 = .ok (.iconst 1, 1) := by decide +kernel
theorem dX7_ideal_102 : decode cX7_ideal 102 = .ok (.iadd, 1) := by decide +kernel
theorem dX7_ideal_103 : decode cX7_ideal 103 = .ok (.laload, 1) := by decide +kernel
theorem dX7_ideal_104 : decode cX7_ideal 104 = .ok (.aload_n 0, 1) := by decide +kernel
theorem dX7_ideal_105 : decode cX7_ideal 105 = .ok (.getfield 101, 3) := by decide +kernel
theorem dX7_ideal_108 : decode cX7_ideal 108 = .ok (.iconst 3, 1) := by decide +kernel
theorem dX7_ideal_109 : decode cX7_ideal 109 = .ok (.if_icmp .ne 16, 3) := by decide +kernel
theorem dX7_ideal_112 : decode cX7_ideal 112 = .ok (.aload_n 0, 1) := by decide +kernel
theorem dX7_ideal_113 : decode cX7_ideal 113 = .ok (.getfield 35, 3) := by decide +kernel
theorem dX7_ideal_116 : decode cX7_ideal 116 = .ok (.iconst 3, 1) := by decide +kernel
theorem dX7_ideal_117 : decode cX7_ideal 117 = .ok (.iload_n 3, 1) := by decide +kernel
theorem dX7_ideal_118 : decode cX7_ideal 118 = .ok (.imul, 1) := by decide +kernel
theorem dX7_ideal_119 : decode cX7_ideal 119 = .ok (.iconst 2, 1) := by decide +kernel
theorem dX7_ideal_120 : decode cX7_ideal 120 = .ok (.iadd, 1) := by decide +kernel
theorem dX7_ideal_121 : decode cX7_ideal 121 = .ok (.laload, 1) := by decide +kernel
theorem dX7_ideal_122 : decode cX7_ideal 122 = .ok (.goto 4, 3) := by decide +kernel
theorem dX7_ideal_125 : decode cX7_ideal 125 = .ok (.lconst 0, 1) := by decide +kernel
theorem dX7_ideal_126 : decode cX7_ideal 126 = .ok (.invokevirtual 255, 3) := by decide +kernel
theorem dX7_ideal_129 : decode cX7_ideal 129 = .ok (.iinc 3 1, 3) := by decide +kernel
theorem dX7_ideal_132 : decode cX7_ideal 132 = .ok (.goto (-55), 3) := by decide +kernel
theorem dX7_ideal_135 : decode cX7_ideal 135 = .ok (.aload_n 0, 1) := by decide +kernel
theorem dX7_ideal_136 : decode cX7_ideal 136 = .ok (.iload_n 1, 1) := by decide +kernel
theorem dX7_ideal_137 : decode cX7_ideal 137 = .ok (.i2l, 1) := by decide +kernel
theorem dX7_ideal_138 : decode cX7_ideal 138 = .ok (.invokevirtual 259, 3) := by decide +kernel
theorem dX7_ideal_141 : decode cX7_ideal 141 = .ok (.aload_n 0, 1) := by decide +kernel
theorem dX7_ideal_142 : decode cX7_ideal 142 = .ok (.invokevirtual 263, 3) := by decide +kernel
theorem dX7_ideal_145 : decode cX7_ideal 145 = .ok (.ireturn, 1) := by decide +kernel
theorem bX7_ideal_0 {l : Launch} {D : va_G} {aI aL : ClassId} {ad : Nat → Nat} {P : sa_P} {I : sa_I} {J : sa_J} {x1 : Int32} {x2 : Int32}   (k : Sat (ER l D aI aL ad) M_X7_ideal P 1 [(0, .ref (ad 0)), (1, .int x1), (2, .int x2)] [.ref (ad 0)] I J) : Sat (ER l D aI aL ad) M_X7_ideal P 0 [(0, .ref (ad 0)), (1, .int x1), (2, .int x2)] [] I J := by
  refine s_aload_n 0 dX7_ideal_0 rfl ?_
  exact k
theorem bX7_ideal_4 {l : Launch} {D : va_G} {aI aL : ClassId} {ad : Nat → Nat} {P : sa_P} {I : sa_I} {J : sa_J} {x1 : Int32} {x2 : Int32} {s0 : Int32}   (kt : ¬ s0 = 0 → Sat (ER l D aI aL ad) M_X7_ideal P 14 [(0, .ref (ad 0)), (1, .int x1), (2, .int x2)] [] I J) (kf : s0 = 0 → Sat (ER l D aI aL ad) M_X7_ideal P 7 [(0, .ref (ad 0))] [] I J) : Sat (ER l D aI aL ad) M_X7_ideal P 4 [(0, .ref (ad 0)), (1, .int x1), (2, .int x2)] [.int s0] I J := by
  refine s_if_ne (tgt := 14) dX7_ideal_4 (by decide) (fun c => ?_) (fun c => ?_)
  · exact kt c
  · refine s_pick [0] [(0, .ref (ad 0))] rfl ?_; exact kf (by first | exact c | exact Classical.not_not.mp c)
theorem bX7_ideal_7 {l : Launch} {D : va_G} {aI aL : ClassId} {ad : Nat → Nat} {P : sa_P} {I : sa_I} {J : sa_J}    (k : Sat (ER l D aI aL ad) M_X7_ideal P 10 [] [.int (-3 : Int32), .ref (ad 0)] I J) : Sat (ER l D aI aL ad) M_X7_ideal P 7 [(0, .ref (ad 0))] [] I J := by
  refine s_aload_n 0 dX7_ideal_7 rfl ?_
  refine s_bipush (v := -3) dX7_ideal_8 rfl ?_
  refine s_pick [] [] rfl ?_; exact k
theorem bX7_ideal_13 {l : Launch} {D : va_G} {aI aL : ClassId} {ad : Nat → Nat} {P : sa_P} {I : sa_I} {J : sa_J} {s0 : Int32}   (k : P (some (.int s0)) I J) : Sat (ER l D aI aL ad) M_X7_ideal P 13 [] [.int s0] I J := by
  exact s_iret rfl dX7_ideal_13 k
theorem bX7_ideal_14 {l : Launch} {D : va_G} {aI aL : ClassId} {ad : Nat → Nat} {P : sa_P} {I : sa_I} {J : sa_J} {x1 : Int32} {x2 : Int32}   (k : Sat (ER l D aI aL ad) M_X7_ideal P 16 [(0, .ref (ad 0)), (1, .int x1), (2, .int x2)] [.int x2, .ref (ad 0)] I J) : Sat (ER l D aI aL ad) M_X7_ideal P 14 [(0, .ref (ad 0)), (1, .int x1), (2, .int x2)] [] I J := by
  refine s_aload_n 0 dX7_ideal_14 rfl ?_
  refine s_iload_n 2 dX7_ideal_15 rfl ?_
  exact k
theorem bX7_ideal_19 {l : Launch} {D : va_G} {aI aL : ClassId} {ad : Nat → Nat} {P : sa_P} {I : sa_I} {J : sa_J} {x1 : Int32} {x2 : Int32} {s0 : Int32}   (kt : ¬ s0 = 0 → Sat (ER l D aI aL ad) M_X7_ideal P 28 [(0, .ref (ad 0)), (1, .int x1), (2, .int x2)] [] I J) (kf : s0 = 0 → Sat (ER l D aI aL ad) M_X7_ideal P 22 [(0, .ref (ad 0))] [] I J) : Sat (ER l D aI aL ad) M_X7_ideal P 19 [(0, .ref (ad 0)), (1, .int x1), (2, .int x2)] [.int s0] I J := by
  refine s_if_ne (tgt := 28) dX7_ideal_19 (by decide) (fun c => ?_) (fun c => ?_)
  · exact kt c
  · refine s_pick [0] [(0, .ref (ad 0))] rfl ?_; exact kf (by first | exact c | exact Classical.not_not.mp c)
theorem bX7_ideal_22 {l : Launch} {D : va_G} {aI aL : ClassId} {ad : Nat → Nat} {P : sa_P} {I : sa_I} {J : sa_J}    (k : Sat (ER l D aI aL ad) M_X7_ideal P 24 [] [.int (-1 : Int32), .ref (ad 0)] I J) : Sat (ER l D aI aL ad) M_X7_ideal P 22 [(0, .ref (ad 0))] [] I J := by
  refine s_aload_n 0 dX7_ideal_22 rfl ?_
  refine s_iconst (v := -1) dX7_ideal_23 rfl ?_
  refine s_pick [] [] rfl ?_; exact k
theorem bX7_ideal_27 {l : Launch} {D : va_G} {aI aL : ClassId} {ad : Nat → Nat} {P : sa_P} {I : sa_I} {J : sa_J} {s0 : Int32}   (k : P (some (.int s0)) I J) : Sat (ER l D aI aL ad) M_X7_ideal P 27 [] [.int s0] I J := by
  exact s_iret rfl dX7_ideal_27 k
theorem bX7_ideal_28 {l : Launch} {D : va_G} {aI aL : ClassId} {ad : Nat → Nat} {P : sa_P} {I : sa_I} {J : sa_J} {x1 : Int32} {x2 : Int32}   (kt : (1 : Int32) ≤ x1 → Sat (ER l D aI aL ad) M_X7_ideal P 40 [(0, .ref (ad 0)), (1, .int x1), (2, .int x2)] [] I J) (kf : ¬ (1 : Int32) ≤ x1 → Sat (ER l D aI aL ad) M_X7_ideal P 33 [(0, .ref (ad 0))] [] I J) : Sat (ER l D aI aL ad) M_X7_ideal P 28 [(0, .ref (ad 0)), (1, .int x1), (2, .int x2)] [] I J := by
  refine s_iload_n 1 dX7_ideal_28 rfl ?_
  refine s_iconst (v := 1) dX7_ideal_29 rfl ?_
  refine s_icmp_ge (tgt := 40) dX7_ideal_30 (by decide) (fun c => ?_) (fun c => ?_)
  · exact kt c
  · refine s_pick [0] [(0, .ref (ad 0))] rfl ?_; exact kf c
theorem bX7_ideal_33 {l : Launch} {D : va_G} {aI aL : ClassId} {ad : Nat → Nat} {P : sa_P} {I : sa_I} {J : sa_J}    (k : Sat (ER l D aI aL ad) M_X7_ideal P 36 [] [.int (-4 : Int32), .ref (ad 0)] I J) : Sat (ER l D aI aL ad) M_X7_ideal P 33 [(0, .ref (ad 0))] [] I J := by
  refine s_aload_n 0 dX7_ideal_33 rfl ?_
  refine s_bipush (v := -4) dX7_ideal_34 rfl ?_
  refine s_pick [] [] rfl ?_; exact k
theorem bX7_ideal_39 {l : Launch} {D : va_G} {aI aL : ClassId} {ad : Nat → Nat} {P : sa_P} {I : sa_I} {J : sa_J} {s0 : Int32}   (k : P (some (.int s0)) I J) : Sat (ER l D aI aL ad) M_X7_ideal P 39 [] [.int s0] I J := by
  exact s_iret rfl dX7_ideal_39 k
theorem bX7_ideal_40 {l : Launch} {D : va_G} {aI aL : ClassId} {ad : Nat → Nat} {P : sa_P} {I : sa_I} {J : sa_J} {x1 : Int32} {x2 : Int32}   (kt : x1 ≤ (1000000 : Int32) → Sat (ER l D aI aL ad) M_X7_ideal P 53 [(0, .ref (ad 0)), (1, .int x1), (2, .int x2)] [] I J) (kf : ¬ x1 ≤ (1000000 : Int32) → Sat (ER l D aI aL ad) M_X7_ideal P 46 [(0, .ref (ad 0))] [] I J) : Sat (ER l D aI aL ad) M_X7_ideal P 40 [(0, .ref (ad 0)), (1, .int x1), (2, .int x2)] [] I J := by
  refine s_iload_n 1 dX7_ideal_40 rfl ?_
  refine s_ldc wk_X7_254 dX7_ideal_41 ?_
  refine s_icmp_le (tgt := 53) dX7_ideal_43 (by decide) (fun c => ?_) (fun c => ?_)
  · exact kt c
  · refine s_pick [0] [(0, .ref (ad 0))] rfl ?_; exact kf c
theorem bX7_ideal_46 {l : Launch} {D : va_G} {aI aL : ClassId} {ad : Nat → Nat} {P : sa_P} {I : sa_I} {J : sa_J}    (k : Sat (ER l D aI aL ad) M_X7_ideal P 49 [] [.int (-6 : Int32), .ref (ad 0)] I J) : Sat (ER l D aI aL ad) M_X7_ideal P 46 [(0, .ref (ad 0))] [] I J := by
  refine s_aload_n 0 dX7_ideal_46 rfl ?_
  refine s_bipush (v := -6) dX7_ideal_47 rfl ?_
  refine s_pick [] [] rfl ?_; exact k
theorem bX7_ideal_52 {l : Launch} {D : va_G} {aI aL : ClassId} {ad : Nat → Nat} {P : sa_P} {I : sa_I} {J : sa_J} {s0 : Int32}   (k : P (some (.int s0)) I J) : Sat (ER l D aI aL ad) M_X7_ideal P 52 [] [.int s0] I J := by
  exact s_iret rfl dX7_ideal_52 k
theorem bX7_ideal_53 {l : Launch} {D : va_G} {aI aL : ClassId} {ad : Nat → Nat} {P : sa_P} {I : sa_I} {J : sa_J} {x1 : Int32} {x2 : Int32}   (k : Sat (ER l D aI aL ad) M_X7_ideal P 59 [(0, .ref (ad 0)), (1, .int x1)] [.ref (ad 10), .int x2, .ref (ad 0)] I J) : Sat (ER l D aI aL ad) M_X7_ideal P 53 [(0, .ref (ad 0)), (1, .int x1), (2, .int x2)] [] I J := by
  refine s_aload_n 0 dX7_ideal_53 rfl ?_
  refine s_iload_n 2 dX7_ideal_54 rfl ?_
  refine s_aload_n 0 dX7_ideal_55 rfl ?_
  refine g_X7_38 dX7_ideal_56 rfl ?_
  refine s_pick [0, 1] [(0, .ref (ad 0)), (1, .int x1)] rfl ?_; exact k
theorem bX7_ideal_62 {l : Launch} {D : va_G} {aI aL : ClassId} {ad : Nat → Nat} {P : sa_P} {I : sa_I} {J : sa_J} {x1 : Int32}   (k : Sat (ER l D aI aL ad) M_X7_ideal P 67 [(0, .ref (ad 0)), (1, .int x1)] [.ref (ad 10), .ref (ad 0)] I J) : Sat (ER l D aI aL ad) M_X7_ideal P 62 [(0, .ref (ad 0)), (1, .int x1)] [] I J := by
  refine s_aload_n 0 dX7_ideal_62 rfl ?_
  refine s_aload_n 0 dX7_ideal_63 rfl ?_
  refine g_X7_38 dX7_ideal_64 rfl ?_
  exact k
theorem bX7_ideal_70 {l : Launch} {D : va_G} {aI aL : ClassId} {ad : Nat → Nat} {P : sa_P} {I : sa_I} {J : sa_J} {x1 : Int32} {v72 : Int32} {v76 : Int32}  (f72 : (0 : Int32) = v72) (f76 : (0 : Int32) = v76) (k : Sat (ER l D aI aL ad) M_X7_ideal P 77 [(0, .ref (ad 0)), (1, .int x1), (3, .int v76)] [] (sa_uI I 0 27 v72) J) : Sat (ER l D aI aL ad) M_X7_ideal P 70 [(0, .ref (ad 0)), (1, .int x1)] [] I J := by
  refine s_aload_n 0 dX7_ideal_70 rfl ?_
  refine s_iconst (v := 0) dX7_ideal_71 rfl ?_
  refine s_eqi f72 ?_
  refine p_X7_244 dX7_ideal_72 rfl ?_
  refine s_iconst (v := 0) dX7_ideal_75 rfl ?_
  refine s_eqi f76 ?_
  refine s_istore_n [(3, .int v76), (0, .ref (ad 0)), (1, .int x1)] dX7_ideal_76 (Nat.lt_of_lt_of_le (Nat.lt_succ_self _) (Nat.le_of_ble_eq_true rfl)) rfl ?_
  refine s_pick [1, 2, 0] [(0, .ref (ad 0)), (1, .int x1), (3, .int v76)] rfl ?_; exact k
theorem bX7_ideal_77 {l : Launch} {D : va_G} {aI aL : ClassId} {ad : Nat → Nat} {P : sa_P} {I : sa_I} {J : sa_J} {x1 : Int32} {x3 : Int32}   (kt : I 0 1 ≤ x3 → Sat (ER l D aI aL ad) M_X7_ideal P 135 [(0, .ref (ad 0)), (1, .int x1)] [] I J) (kf : ¬ I 0 1 ≤ x3 → Sat (ER l D aI aL ad) M_X7_ideal P 85 [(0, .ref (ad 0)), (1, .int x1), (3, .int x3)] [] I J) : Sat (ER l D aI aL ad) M_X7_ideal P 77 [(0, .ref (ad 0)), (1, .int x1), (3, .int x3)] [] I J := by
  refine s_iload_n 2 dX7_ideal_77 rfl ?_
  refine s_aload_n 0 dX7_ideal_78 rfl ?_
  refine g_X7_101 dX7_ideal_79 rfl ?_
  refine s_icmp_ge (tgt := 135) dX7_ideal_82 (by decide) (fun c => ?_) (fun c => ?_)
  · refine s_pick [0, 1] [(0, .ref (ad 0)), (1, .int x1)] rfl ?_; exact kt c
  · exact kf c
theorem bX7_ideal_85 {l : Launch} {D : va_G} {aI aL : ClassId} {ad : Nat → Nat} {P : sa_P} {I : sa_I} {J : sa_J} {x1 : Int32} {x3 : Int32} {j92 : Nat} {j102 : Nat} (e92 : (3 : Int32) * x3 = nI j92) (h93 : j92 < 9) (e102 : ((3 : Int32) * x3) + (1 : Int32) = nI j102) (h103 : j102 < 9)  (kt : ¬ I 0 1 = (3 : Int32) → Sat (ER l D aI aL ad) M_X7_ideal P 125 [(0, .ref (ad 0)), (1, .int x1), (3, .int x3)] [.long (J 9 j102), .long (J 9 j92), .ref (ad 0)] I J) (kf : I 0 1 = (3 : Int32) → Sat (ER l D aI aL ad) M_X7_ideal P 112 [(0, .ref (ad 0)), (1, .int x1), (3, .int x3)] [.long (J 9 j102), .long (J 9 j92), .ref (ad 0)] I J) : Sat (ER l D aI aL ad) M_X7_ideal P 85 [(0, .ref (ad 0)), (1, .int x1), (3, .int x3)] [] I J := by
  refine s_aload_n 0 dX7_ideal_85 rfl ?_
  refine s_aload_n 0 dX7_ideal_86 rfl ?_
  refine g_X7_35 dX7_ideal_87 rfl ?_
  refine s_iconst (v := 3) dX7_ideal_90 rfl ?_
  refine s_iload_n 2 dX7_ideal_91 rfl ?_
  refine s_imul dX7_ideal_92 ?_
  refine s_eqi e92 ?_
  refine s_laloadN aJ_R9 h93 (by decide) dX7_ideal_93 ?_
  refine s_aload_n 0 dX7_ideal_94 rfl ?_
  refine g_X7_35 dX7_ideal_95 rfl ?_
  refine s_iconst (v := 3) dX7_ideal_98 rfl ?_
  refine s_iload_n 2 dX7_ideal_99 rfl ?_
  refine s_imul dX7_ideal_100 ?_
  refine s_iconst (v := 1) dX7_ideal_101 rfl ?_
  refine s_iadd dX7_ideal_102 ?_
  refine s_eqi e102 ?_
  refine s_laloadN aJ_R9 h103 (by decide) dX7_ideal_103 ?_
  refine s_aload_n 0 dX7_ideal_104 rfl ?_
  refine g_X7_101 dX7_ideal_105 rfl ?_
  refine s_iconst (v := 3) dX7_ideal_108 rfl ?_
  refine s_icmp_ne (tgt := 125) dX7_ideal_109 (by decide) (fun c => ?_) (fun c => ?_)
  · exact kt c
  · exact kf (by first | exact c | exact Classical.not_not.mp c)
theorem bX7_ideal_112 {l : Launch} {D : va_G} {aI aL : ClassId} {ad : Nat → Nat} {P : sa_P} {I : sa_I} {J : sa_J} {x1 : Int32} {x3 : Int32} {s1 : Int64} {s2 : Int64} {j120 : Nat} (e120 : ((3 : Int32) * x3) + (2 : Int32) = nI j120) (h121 : j120 < 9)  (k : Sat (ER l D aI aL ad) M_X7_ideal P 126 [(0, .ref (ad 0)), (1, .int x1), (3, .int x3)] [.long (J 9 j120), .long s2, .long s1, .ref (ad 0)] I J) : Sat (ER l D aI aL ad) M_X7_ideal P 112 [(0, .ref (ad 0)), (1, .int x1), (3, .int x3)] [.long s2, .long s1, .ref (ad 0)] I J := by
  refine s_aload_n 0 dX7_ideal_112 rfl ?_
  refine g_X7_35 dX7_ideal_113 rfl ?_
  refine s_iconst (v := 3) dX7_ideal_116 rfl ?_
  refine s_iload_n 2 dX7_ideal_117 rfl ?_
  refine s_imul dX7_ideal_118 ?_
  refine s_iconst (v := 2) dX7_ideal_119 rfl ?_
  refine s_iadd dX7_ideal_120 ?_
  refine s_eqi e120 ?_
  refine s_laloadN aJ_R9 h121 (by decide) dX7_ideal_121 ?_
  refine s_goto (tgt := 126) dX7_ideal_122 (by decide) ?_
  exact k
theorem bX7_ideal_125 {l : Launch} {D : va_G} {aI aL : ClassId} {ad : Nat → Nat} {P : sa_P} {I : sa_I} {J : sa_J} {x1 : Int32} {x3 : Int32} {s1 : Int64} {s2 : Int64}   (k : Sat (ER l D aI aL ad) M_X7_ideal P 126 [(0, .ref (ad 0)), (1, .int x1), (3, .int x3)] [.long (0 : Int64), .long s2, .long s1, .ref (ad 0)] I J) : Sat (ER l D aI aL ad) M_X7_ideal P 125 [(0, .ref (ad 0)), (1, .int x1), (3, .int x3)] [.long s2, .long s1, .ref (ad 0)] I J := by
  refine s_lconst (v := 0) dX7_ideal_125 rfl ?_
  exact k
theorem bX7_ideal_129 {l : Launch} {D : va_G} {aI aL : ClassId} {ad : Nat → Nat} {P : sa_P} {I : sa_I} {J : sa_J} {x1 : Int32} {x3 : Int32} {v129 : Int32}  (f129 : x3 + 1 = v129) (k : Sat (ER l D aI aL ad) M_X7_ideal P 77 [(0, .ref (ad 0)), (1, .int x1), (3, .int v129)] [] I J) : Sat (ER l D aI aL ad) M_X7_ideal P 129 [(0, .ref (ad 0)), (1, .int x1), (3, .int x3)] [] I J := by
  refine s_iinc 2 v129 [(3, .int v129), (0, .ref (ad 0)), (1, .int x1)] dX7_ideal_129 rfl f129 (Nat.lt_of_lt_of_le (Nat.lt_succ_self _) (Nat.le_of_ble_eq_true rfl)) rfl ?_
  refine s_goto (tgt := 77) dX7_ideal_132 (by decide) ?_
  refine s_pick [1, 2, 0] [(0, .ref (ad 0)), (1, .int x1), (3, .int v129)] rfl ?_; exact k
theorem bX7_ideal_135 {l : Launch} {D : va_G} {aI aL : ClassId} {ad : Nat → Nat} {P : sa_P} {I : sa_I} {J : sa_J} {x1 : Int32}   (k : Sat (ER l D aI aL ad) M_X7_ideal P 138 [(0, .ref (ad 0))] [.long x1.toInt64, .ref (ad 0)] I J) : Sat (ER l D aI aL ad) M_X7_ideal P 135 [(0, .ref (ad 0)), (1, .int x1)] [] I J := by
  refine s_aload_n 0 dX7_ideal_135 rfl ?_
  refine s_iload_n 1 dX7_ideal_136 rfl ?_
  refine s_i2l dX7_ideal_137 ?_
  refine s_pick [0] [(0, .ref (ad 0))] rfl ?_; exact k
theorem bX7_ideal_141 {l : Launch} {D : va_G} {aI aL : ClassId} {ad : Nat → Nat} {P : sa_P} {I : sa_I} {J : sa_J}    (k : Sat (ER l D aI aL ad) M_X7_ideal P 142 [] [.ref (ad 0)] I J) : Sat (ER l D aI aL ad) M_X7_ideal P 141 [(0, .ref (ad 0))] [] I J := by
  refine s_aload_n 0 dX7_ideal_141 rfl ?_
  refine s_pick [] [] rfl ?_; exact k
theorem bX7_ideal_145 {l : Launch} {D : va_G} {aI aL : ClassId} {ad : Nat → Nat} {P : sa_P} {I : sa_I} {J : sa_J} {s0 : Int32}   (k : P (some (.int s0)) I J) : Sat (ER l D aI aL ad) M_X7_ideal P 145 [] [.int s0] I J := by
  exact s_iret rfl dX7_ideal_145 k
/-! X7_multiplies -/
theorem dX7_multiplies_0 : decode cX7_multiplies 0 = .ok (.aload_n 0, 1) := by decide +kernel
theorem dX7_multiplies_1 : decode cX7_multiplies 1 = .ok (.iconst 0, 1) := by decide +kernel
theorem dX7_multiplies_2 : decode cX7_multiplies 2 = .ok (.putfield 244, 3) := by decide +kernel
theorem dX7_multiplies_5 : decode cX7_multiplies 5 = .ok (.iconst 0, 1) := by decide +kernel
theorem dX7_multiplies_6 : decode cX7_multiplies 6 = .ok (.istore_n 1, 1) := by decide +kernel
theorem dX7_multiplies_7 : decode cX7_multiplies 7 = .ok (.iload_n 1, 1) := by decide +kernel
theorem dX7_multiplies_8 : decode cX7_multiplies 8 = .ok (.aload_n 0, 1) := by decide +kernel
theorem dX7_multiplies_9 : decode cX7_multiplies 9 = .ok (.getfield 101, 3) := by decide +kernel
theorem dX7_multiplies_12 : decode cX7_multiplies 12 = .ok (.if_icmp .ge 96, 3) := by decide +kernel
theorem dX7_multiplies_15 : decode cX7_multiplies 15 = .ok (.iconst 0, 1) := by decide +kernel
theorem dX7_multiplies_16 : decode cX7_multiplies 16 = .ok (.istore_n 2, 1) := by decide +kernel
theorem dX7_multiplies_17 : decode cX7_multiplies 17 = .ok (.iload_n 2, 1) := by decide +kernel
theorem dX7_multiplies_18 : decode cX7_multiplies 18 = .ok (.aload_n 0, 1) := by decide +kernel
theorem dX7_multiplies_19 : decode cX7_multiplies 19 = .ok (.getfield 101, 3) := by decide +kernel
theorem dX7_multiplies_22 : decode cX7_multiplies 22 = .ok (.if_icmp .ge 80, 3) := by decide +kernel
theorem dX7_multiplies_25 : decode cX7_multiplies 25 = .ok (.iconst 0, 1) := by decide +kernel
theorem dX7_multiplies_26 : decode cX7_multiplies 26 = .ok (.istore_n 3, 1) := by decide +kernel
theorem dX7_multiplies_27 : decode cX7_multiplies 27 = .ok (.iload_n 3, 1) := by decide +kernel
theorem dX7_multiplies_28 : decode cX7_multiplies 28 = .ok (.iconst 3, 1) := by decide +kernel
theorem dX7_multiplies_29 : decode cX7_multiplies 29 = .ok (.if_icmp .ge 41, 3) := by decide +kernel
theorem dX7_multiplies_32 : decode cX7_multiplies 32 = .ok (.aload_n 0, 1) := by decide +kernel
theorem dX7_multiplies_33 : decode cX7_multiplies 33 = .ok (.getfield 38, 3) := by decide +kernel
theorem dX7_multiplies_36 : decode cX7_multiplies 36 = .ok (.iload_n 3, 1) := by decide +kernel
theorem dX7_multiplies_37 : decode cX7_multiplies 37 = .ok (.aload_n 0, 1) := by decide +kernel
theorem dX7_multiplies_38 : decode cX7_multiplies 38 = .ok (.getfield 53, 3) := by decide +kernel
theorem dX7_multiplies_41 : decode cX7_multiplies 41 = .ok (.iconst 3, 1) := by decide +kernel
theorem dX7_multiplies_42 : decode cX7_multiplies 42 = .ok (.iload_n 1, 1) := by decide +kernel
theorem dX7_multiplies_43 : decode cX7_multiplies 43 = .ok (.imul, 1) := by decide +kernel
theorem dX7_multiplies_44 : decode cX7_multiplies 44 = .ok (.iload_n 3, 1) := by decide +kernel
theorem dX7_multiplies_45 : decode cX7_multiplies 45 = .ok (.iadd, 1) := by decide +kernel
theorem dX7_multiplies_46 : decode cX7_multiplies 46 = .ok (.laload, 1) := by decide +kernel
theorem dX7_multiplies_47 : decode cX7_multiplies 47 = .ok (.lastore, 1) := by decide +kernel
theorem dX7_multiplies_48 : decode cX7_multiplies 48 = .ok (.aload_n 0, 1) := by decide +kernel
theorem dX7_multiplies_49 : decode cX7_multiplies 49 = .ok (.getfield 41, 3) := by decide +kernel
theorem dX7_multiplies_52 : decode cX7_multiplies 52 = .ok (.iload_n 3, 1) := by decide +kernel
theorem dX7_multiplies_53 : decode cX7_multiplies 53 = .ok (.aload_n 0, 1) := by decide +kernel
theorem dX7_multiplies_54 : decode cX7_multiplies 54 = .ok (.getfield 56, 3) := by decide +kernel
theorem dX7_multiplies_57 : decode cX7_multiplies 57 = .ok (.iconst 3, 1) := by decide +kernel
theorem dX7_multiplies_58 : decode cX7_multiplies 58 = .ok (.iload_n 2, 1) := by decide +kernel
theorem dX7_multiplies_59 : decode cX7_multiplies 59 = .ok (.imul, 1) := by decide +kernel
theorem dX7_multiplies_60 : decode cX7_multiplies 60 = .ok (.iload_n 3, 1) := by decide +kernel
theorem dX7_multiplies_61 : decode cX7_multiplies 61 = .ok (.iadd, 1) := by decide +kernel
theorem dX7_multiplies_62 : decode cX7_multiplies 62 = .ok (.laload, 1) := by decide +kernel
theorem dX7_multiplies_63 : decode cX7_multiplies 63 = .ok (.lastore, 1) := by decide +kernel
theorem dX7_multiplies_64 : decode cX7_multiplies 64 = .ok (.iinc 3 1, 3) := by decide +kernel
theorem dX7_multiplies_67 : decode cX7_multiplies 67 = .ok (.goto (-40), 3) := by decide +kernel
theorem dX7_multiplies_70 : decode cX7_multiplies 70 = .ok (.aload_n 0, 1) := by decide +kernel
theorem dX7_multiplies_71 : decode cX7_multiplies 71 = .ok (.invokevirtual 229, 3) := by decide +kernel
theorem dX7_multiplies_74 : decode cX7_multiplies 74 = .ok (.aload_n 0, 1) := by decide +kernel
theorem dX7_multiplies_75 : decode cX7_multiplies 75 = .ok (.aload_n 0, 1) := by decide +kernel
theorem dX7_multiplies_76 : decode cX7_multiplies 76 = .ok (.getfield 44, 3) := by decide +kernel
theorem dX7_multiplies_79 : decode cX7_multiplies 79 = .ok (.iconst 0, 1) := by decide +kernel
theorem dX7_multiplies_80 : decode cX7_multiplies 80 = .ok (.laload, 1) := by decide +kernel
theorem dX7_multiplies_81 : decode cX7_multiplies 81 = .ok (.aload_n 0, 1) := by decide +kernel
theorem dX7_multiplies_82 : decode cX7_multiplies 82 = .ok (.getfield 44, 3) := by decide +kernel
theorem dX7_multiplies_85 : decode cX7_multiplies 85 = .ok (.iconst 1, 1) := by decide +kernel
theorem dX7_multiplies_86 : decode cX7_multiplies 86 = .ok (.laload, 1) := by decide +kernel
theorem dX7_multiplies_87 : decode cX7_multiplies 87 = .ok (.aload_n 0, 1) := by decide +kernel
theorem dX7_multiplies_88 : decode cX7_multiplies 88 = .ok (.getfield 44, 3) := by decide +kernel
theorem dX7_multiplies_91 : decode cX7_multiplies 91 = .ok (.iconst 2, 1) := by decide +kernel
theorem dX7_multiplies_92 : decode cX7_multiplies 92 = .ok (.laload, 1) := by decide +kernel
theorem dX7_multiplies_93 : decode cX7_multiplies 93 = .ok (.invokevirtual 255, 3) := by decide +kernel
theorem dX7_multiplies_96 : decode cX7_multiplies 96 = .ok (.iinc 2 1, 3) := by decide +kernel
theorem dX7_multiplies_99 : decode cX7_multiplies 99 = .ok (.goto (-82), 3) := by decide +kernel
theorem dX7_multiplies_102 : decode cX7_multiplies 102 = .ok (.iinc 1 1, 3) := by decide +kernel
theorem dX7_multiplies_105 : decode cX7_multiplies 105 = .ok (.goto (-98), 3) := by decide +kernel
theorem dX7_multiplies_108 : decode cX7_multiplies 108 = .ok (.aload_n 0, 1) := by decide +kernel
theorem dX7_multiplies_109 : decode cX7_multiplies 109 = .ok (.aload_n 0, 1) := by decide +kernel
theorem dX7_multiplies_110 : decode cX7_multiplies 110 = .ok (.getfield 53, 3) := by decide +kernel
theorem dX7_multiplies_113 : decode cX7_multiplies 113 = .ok (.aload_n 0, 1) := by decide +kernel
theorem dX7_multiplies_114 : decode cX7_multiplies 114 = .ok (.getfield 101, 3) := by decide +kernel
theorem dX7_multiplies_117 : decode cX7_multiplies 117 = .ok (.invokestatic 267, 3) := by decide +kernel
theorem dX7_multiplies_120 : decode cX7_multiplies 120 = .ok (.aload_n 0, 1) := by decide +kernel
theorem dX7_multiplies_121 : decode cX7_multiplies 121 = .ok (.getfield 56, 3) := by decide +kernel
theorem dX7_multiplies_124 : decode cX7_multiplies 124 = .ok (.aload_n 0, 1) := by decide +kernel
theorem dX7_multiplies_125 : decode cX7_multiplies 125 = .ok (.getfield 101, 3) := by decide +kernel
theorem dX7_multiplies_128 : decode cX7_multiplies 128 = .ok (.invokestatic 267, 3) := by decide +kernel
theorem dX7_multiplies_131 : decode cX7_multiplies 131 = .ok (.lmul, 1) := by decide +kernel
theorem dX7_multiplies_132 : decode cX7_multiplies 132 = .ok (.invokevirtual 259, 3) := by decide +kernel
theorem dX7_multiplies_135 : decode cX7_multiplies 135 = .ok (.return_, 1) := by decide +kernel
theorem bX7_multiplies_0 {l : Launch} {D : va_G} {aI aL : ClassId} {ad : Nat → Nat} {P : sa_P} {I : sa_I} {J : sa_J} {v2 : Int32} {v6 : Int32}  (f2 : (0 : Int32) = v2) (f6 : (0 : Int32) = v6) (k : Sat (ER l D aI aL ad) M_X7_multiplies P 7 [(0, .ref (ad 0)), (1, .int v6)] [] (sa_uI I 0 27 v2) J) : Sat (ER l D aI aL ad) M_X7_multiplies P 0 [(0, .ref (ad 0))] [] I J := by
  refine s_aload_n 0 dX7_multiplies_0 rfl ?_
  refine s_iconst (v := 0) dX7_multiplies_1 rfl ?_
  refine s_eqi f2 ?_
  refine p_X7_244 dX7_multiplies_2 rfl ?_
  refine s_iconst (v := 0) dX7_multiplies_5 rfl ?_
  refine s_eqi f6 ?_
  refine s_istore_n [(1, .int v6), (0, .ref (ad 0))] dX7_multiplies_6 (Nat.lt_of_lt_of_le (Nat.lt_succ_self _) (Nat.le_of_ble_eq_true rfl)) rfl ?_
  refine s_pick [1, 0] [(0, .ref (ad 0)), (1, .int v6)] rfl ?_; exact k
theorem bX7_multiplies_7 {l : Launch} {D : va_G} {aI aL : ClassId} {ad : Nat → Nat} {P : sa_P} {I : sa_I} {J : sa_J} {x1 : Int32}   (kt : I 0 1 ≤ x1 → Sat (ER l D aI aL ad) M_X7_multiplies P 108 [(0, .ref (ad 0))] [] I J) (kf : ¬ I 0 1 ≤ x1 → Sat (ER l D aI aL ad) M_X7_multiplies P 15 [(0, .ref (ad 0)), (1, .int x1)] [] I J) : Sat (ER l D aI aL ad) M_X7_multiplies P 7 [(0, .ref (ad 0)), (1, .int x1)] [] I J := by
  refine s_iload_n 1 dX7_multiplies_7 rfl ?_
  refine s_aload_n 0 dX7_multiplies_8 rfl ?_
  refine g_X7_101 dX7_multiplies_9 rfl ?_
  refine s_icmp_ge (tgt := 108) dX7_multiplies_12 (by decide) (fun c => ?_) (fun c => ?_)
  · refine s_pick [0] [(0, .ref (ad 0))] rfl ?_; exact kt c
  · exact kf c
theorem bX7_multiplies_15 {l : Launch} {D : va_G} {aI aL : ClassId} {ad : Nat → Nat} {P : sa_P} {I : sa_I} {J : sa_J} {x1 : Int32} {v16 : Int32}  (f16 : (0 : Int32) = v16) (k : Sat (ER l D aI aL ad) M_X7_multiplies P 17 [(0, .ref (ad 0)), (1, .int x1), (2, .int v16)] [] I J) : Sat (ER l D aI aL ad) M_X7_multiplies P 15 [(0, .ref (ad 0)), (1, .int x1)] [] I J := by
  refine s_iconst (v := 0) dX7_multiplies_15 rfl ?_
  refine s_eqi f16 ?_
  refine s_istore_n [(2, .int v16), (0, .ref (ad 0)), (1, .int x1)] dX7_multiplies_16 (Nat.lt_of_lt_of_le (Nat.lt_succ_self _) (Nat.le_of_ble_eq_true rfl)) rfl ?_
  refine s_pick [1, 2, 0] [(0, .ref (ad 0)), (1, .int x1), (2, .int v16)] rfl ?_; exact k
theorem bX7_multiplies_17 {l : Launch} {D : va_G} {aI aL : ClassId} {ad : Nat → Nat} {P : sa_P} {I : sa_I} {J : sa_J} {x1 : Int32} {x2 : Int32}   (kt : I 0 1 ≤ x2 → Sat (ER l D aI aL ad) M_X7_multiplies P 102 [(0, .ref (ad 0)), (1, .int x1)] [] I J) (kf : ¬ I 0 1 ≤ x2 → Sat (ER l D aI aL ad) M_X7_multiplies P 25 [(0, .ref (ad 0)), (1, .int x1), (2, .int x2)] [] I J) : Sat (ER l D aI aL ad) M_X7_multiplies P 17 [(0, .ref (ad 0)), (1, .int x1), (2, .int x2)] [] I J := by
  refine s_iload_n 2 dX7_multiplies_17 rfl ?_
  refine s_aload_n 0 dX7_multiplies_18 rfl ?_
  refine g_X7_101 dX7_multiplies_19 rfl ?_
  refine s_icmp_ge (tgt := 102) dX7_multiplies_22 (by decide) (fun c => ?_) (fun c => ?_)
  · refine s_pick [0, 1] [(0, .ref (ad 0)), (1, .int x1)] rfl ?_; exact kt c
  · exact kf c
theorem bX7_multiplies_25 {l : Launch} {D : va_G} {aI aL : ClassId} {ad : Nat → Nat} {P : sa_P} {I : sa_I} {J : sa_J} {x1 : Int32} {x2 : Int32} {v26 : Int32}  (f26 : (0 : Int32) = v26) (k : Sat (ER l D aI aL ad) M_X7_multiplies P 27 [(0, .ref (ad 0)), (1, .int x1), (2, .int x2), (3, .int v26)] [] I J) : Sat (ER l D aI aL ad) M_X7_multiplies P 25 [(0, .ref (ad 0)), (1, .int x1), (2, .int x2)] [] I J := by
  refine s_iconst (v := 0) dX7_multiplies_25 rfl ?_
  refine s_eqi f26 ?_
  refine s_istore_n [(3, .int v26), (0, .ref (ad 0)), (1, .int x1), (2, .int x2)] dX7_multiplies_26 (Nat.lt_of_lt_of_le (Nat.lt_succ_self _) (Nat.le_of_ble_eq_true rfl)) rfl ?_
  refine s_pick [1, 2, 3, 0] [(0, .ref (ad 0)), (1, .int x1), (2, .int x2), (3, .int v26)] rfl ?_; exact k
theorem bX7_multiplies_27 {l : Launch} {D : va_G} {aI aL : ClassId} {ad : Nat → Nat} {P : sa_P} {I : sa_I} {J : sa_J} {x1 : Int32} {x2 : Int32} {x3 : Int32}   (kt : (3 : Int32) ≤ x3 → Sat (ER l D aI aL ad) M_X7_multiplies P 70 [(0, .ref (ad 0)), (1, .int x1), (2, .int x2)] [] I J) (kf : ¬ (3 : Int32) ≤ x3 → Sat (ER l D aI aL ad) M_X7_multiplies P 32 [(0, .ref (ad 0)), (1, .int x1), (2, .int x2), (3, .int x3)] [] I J) : Sat (ER l D aI aL ad) M_X7_multiplies P 27 [(0, .ref (ad 0)), (1, .int x1), (2, .int x2), (3, .int x3)] [] I J := by
  refine s_iload_n 3 dX7_multiplies_27 rfl ?_
  refine s_iconst (v := 3) dX7_multiplies_28 rfl ?_
  refine s_icmp_ge (tgt := 70) dX7_multiplies_29 (by decide) (fun c => ?_) (fun c => ?_)
  · refine s_pick [0, 1, 2] [(0, .ref (ad 0)), (1, .int x1), (2, .int x2)] rfl ?_; exact kt c
  · exact kf c
theorem bX7_multiplies_32 {l : Launch} {D : va_G} {aI aL : ClassId} {ad : Nat → Nat} {P : sa_P} {I : sa_I} {J : sa_J} {x1 : Int32} {x2 : Int32} {x3 : Int32} {j36 : Nat} {j45 : Nat} {v47 : Int64} {j52 : Nat} {j61 : Nat} {v63 : Int64} {v64 : Int32} (e36 : x3 = nI j36) (e45 : ((3 : Int32) * x1) + x3 = nI j45) (h46 : j45 < 9) (h47 : j36 < 3) (e52 : x3 = nI j52) (e61 : ((3 : Int32) * x2) + x3 = nI j61) (h62 : j61 < 9) (h63 : j52 < 3) (f47 : J 15 j45 = v47) (f63 : (sa_uJ J 10 j36 v47) 16 j61 = v63) (f64 : x3 + 1 = v64) (k : Sat (ER l D aI aL ad) M_X7_multiplies P 27 [(0, .ref (ad 0)), (1, .int x1), (2, .int x2), (3, .int v64)] [] I (sa_uJ (sa_uJ J 10 j36 v47) 11 j52 v63)) : Sat (ER l D aI aL ad) M_X7_multiplies P 32 [(0, .ref (ad 0)), (1, .int x1), (2, .int x2), (3, .int x3)] [] I J := by
  refine s_aload_n 0 dX7_multiplies_32 rfl ?_
  refine g_X7_38 dX7_multiplies_33 rfl ?_
  refine s_iload_n 3 dX7_multiplies_36 rfl ?_
  refine s_eqi e36 ?_
  refine s_aload_n 0 dX7_multiplies_37 rfl ?_
  refine g_X7_53 dX7_multiplies_38 rfl ?_
  refine s_iconst (v := 3) dX7_multiplies_41 rfl ?_
  refine s_iload_n 1 dX7_multiplies_42 rfl ?_
  refine s_imul dX7_multiplies_43 ?_
  refine s_iload_n 3 dX7_multiplies_44 rfl ?_
  refine s_iadd dX7_multiplies_45 ?_
  refine s_eqi e45 ?_
  refine s_laloadN aJ_R15 h46 (by decide) dX7_multiplies_46 ?_
  refine s_eql f47 ?_
  refine s_lastoreN aJ_R10 h47 (by decide) dX7_multiplies_47 ?_
  refine s_aload_n 0 dX7_multiplies_48 rfl ?_
  refine g_X7_41 dX7_multiplies_49 rfl ?_
  refine s_iload_n 3 dX7_multiplies_52 rfl ?_
  refine s_eqi e52 ?_
  refine s_aload_n 0 dX7_multiplies_53 rfl ?_
  refine g_X7_56 dX7_multiplies_54 rfl ?_
  refine s_iconst (v := 3) dX7_multiplies_57 rfl ?_
  refine s_iload_n 2 dX7_multiplies_58 rfl ?_
  refine s_imul dX7_multiplies_59 ?_
  refine s_iload_n 3 dX7_multiplies_60 rfl ?_
  refine s_iadd dX7_multiplies_61 ?_
  refine s_eqi e61 ?_
  refine s_laloadN aJ_R16 h62 (by decide) dX7_multiplies_62 ?_
  refine s_eql f63 ?_
  refine s_lastoreN aJ_R11 h63 (by decide) dX7_multiplies_63 ?_
  refine s_iinc 3 v64 [(3, .int v64), (0, .ref (ad 0)), (1, .int x1), (2, .int x2)] dX7_multiplies_64 rfl f64 (Nat.lt_of_lt_of_le (Nat.lt_succ_self _) (Nat.le_of_ble_eq_true rfl)) rfl ?_
  refine s_goto (tgt := 27) dX7_multiplies_67 (by decide) ?_
  refine s_pick [1, 2, 3, 0] [(0, .ref (ad 0)), (1, .int x1), (2, .int x2), (3, .int v64)] rfl ?_; exact k
theorem bX7_multiplies_70 {l : Launch} {D : va_G} {aI aL : ClassId} {ad : Nat → Nat} {P : sa_P} {I : sa_I} {J : sa_J} {x1 : Int32} {x2 : Int32}   (k : Sat (ER l D aI aL ad) M_X7_multiplies P 71 [(0, .ref (ad 0)), (1, .int x1), (2, .int x2)] [.ref (ad 0)] I J) : Sat (ER l D aI aL ad) M_X7_multiplies P 70 [(0, .ref (ad 0)), (1, .int x1), (2, .int x2)] [] I J := by
  refine s_aload_n 0 dX7_multiplies_70 rfl ?_
  exact k
theorem bX7_multiplies_74 {l : Launch} {D : va_G} {aI aL : ClassId} {ad : Nat → Nat} {P : sa_P} {I : sa_I} {J : sa_J} {x1 : Int32} {x2 : Int32}   (k : Sat (ER l D aI aL ad) M_X7_multiplies P 93 [(0, .ref (ad 0)), (1, .int x1), (2, .int x2)] [.long (J 12 2), .long (J 12 1), .long (J 12 0), .ref (ad 0)] I J) : Sat (ER l D aI aL ad) M_X7_multiplies P 74 [(0, .ref (ad 0)), (1, .int x1), (2, .int x2)] [] I J := by
  refine s_aload_n 0 dX7_multiplies_74 rfl ?_
  refine s_aload_n 0 dX7_multiplies_75 rfl ?_
  refine g_X7_44 dX7_multiplies_76 rfl ?_
  refine s_iconst (v := 0) dX7_multiplies_79 rfl ?_
  refine s_eqi (y := nI 0) rfl ?_
  refine s_laloadN aJ_R12 (by decide) (by decide) dX7_multiplies_80 ?_
  refine s_aload_n 0 dX7_multiplies_81 rfl ?_
  refine g_X7_44 dX7_multiplies_82 rfl ?_
  refine s_iconst (v := 1) dX7_multiplies_85 rfl ?_
  refine s_eqi (y := nI 1) rfl ?_
  refine s_laloadN aJ_R12 (by decide) (by decide) dX7_multiplies_86 ?_
  refine s_aload_n 0 dX7_multiplies_87 rfl ?_
  refine g_X7_44 dX7_multiplies_88 rfl ?_
  refine s_iconst (v := 2) dX7_multiplies_91 rfl ?_
  refine s_eqi (y := nI 2) rfl ?_
  refine s_laloadN aJ_R12 (by decide) (by decide) dX7_multiplies_92 ?_
  exact k
theorem bX7_multiplies_96 {l : Launch} {D : va_G} {aI aL : ClassId} {ad : Nat → Nat} {P : sa_P} {I : sa_I} {J : sa_J} {x1 : Int32} {x2 : Int32} {v96 : Int32}  (f96 : x2 + 1 = v96) (k : Sat (ER l D aI aL ad) M_X7_multiplies P 17 [(0, .ref (ad 0)), (1, .int x1), (2, .int v96)] [] I J) : Sat (ER l D aI aL ad) M_X7_multiplies P 96 [(0, .ref (ad 0)), (1, .int x1), (2, .int x2)] [] I J := by
  refine s_iinc 2 v96 [(2, .int v96), (0, .ref (ad 0)), (1, .int x1)] dX7_multiplies_96 rfl f96 (Nat.lt_of_lt_of_le (Nat.lt_succ_self _) (Nat.le_of_ble_eq_true rfl)) rfl ?_
  refine s_goto (tgt := 17) dX7_multiplies_99 (by decide) ?_
  refine s_pick [1, 2, 0] [(0, .ref (ad 0)), (1, .int x1), (2, .int v96)] rfl ?_; exact k
theorem bX7_multiplies_102 {l : Launch} {D : va_G} {aI aL : ClassId} {ad : Nat → Nat} {P : sa_P} {I : sa_I} {J : sa_J} {x1 : Int32} {v102 : Int32}  (f102 : x1 + 1 = v102) (k : Sat (ER l D aI aL ad) M_X7_multiplies P 7 [(0, .ref (ad 0)), (1, .int v102)] [] I J) : Sat (ER l D aI aL ad) M_X7_multiplies P 102 [(0, .ref (ad 0)), (1, .int x1)] [] I J := by
  refine s_iinc 1 v102 [(1, .int v102), (0, .ref (ad 0))] dX7_multiplies_102 rfl f102 (Nat.lt_of_lt_of_le (Nat.lt_succ_self _) (Nat.le_of_ble_eq_true rfl)) rfl ?_
  refine s_goto (tgt := 7) dX7_multiplies_105 (by decide) ?_
  refine s_pick [1, 0] [(0, .ref (ad 0)), (1, .int v102)] rfl ?_; exact k
theorem bX7_multiplies_108 {l : Launch} {D : va_G} {aI aL : ClassId} {ad : Nat → Nat} {P : sa_P} {I : sa_I} {J : sa_J}    (k : Sat (ER l D aI aL ad) M_X7_multiplies P 117 [(0, .ref (ad 0))] [.int (I 0 1), .ref (ad 15), .ref (ad 0)] I J) : Sat (ER l D aI aL ad) M_X7_multiplies P 108 [(0, .ref (ad 0))] [] I J := by
  refine s_aload_n 0 dX7_multiplies_108 rfl ?_
  refine s_aload_n 0 dX7_multiplies_109 rfl ?_
  refine g_X7_53 dX7_multiplies_110 rfl ?_
  refine s_aload_n 0 dX7_multiplies_113 rfl ?_
  refine g_X7_101 dX7_multiplies_114 rfl ?_
  exact k
theorem bX7_multiplies_120 {l : Launch} {D : va_G} {aI aL : ClassId} {ad : Nat → Nat} {P : sa_P} {I : sa_I} {J : sa_J} {s1 : Int64}   (k : Sat (ER l D aI aL ad) M_X7_multiplies P 128 [] [.int (I 0 1), .ref (ad 16), .long s1, .ref (ad 0)] I J) : Sat (ER l D aI aL ad) M_X7_multiplies P 120 [(0, .ref (ad 0))] [.long s1, .ref (ad 0)] I J := by
  refine s_aload_n 0 dX7_multiplies_120 rfl ?_
  refine g_X7_56 dX7_multiplies_121 rfl ?_
  refine s_aload_n 0 dX7_multiplies_124 rfl ?_
  refine g_X7_101 dX7_multiplies_125 rfl ?_
  refine s_pick [] [] rfl ?_; exact k
theorem bX7_multiplies_131 {l : Launch} {D : va_G} {aI aL : ClassId} {ad : Nat → Nat} {P : sa_P} {I : sa_I} {J : sa_J} {s1 : Int64} {s2 : Int64}   (k : Sat (ER l D aI aL ad) M_X7_multiplies P 132 [] [.long (s1 * s2), .ref (ad 0)] I J) : Sat (ER l D aI aL ad) M_X7_multiplies P 131 [] [.long s2, .long s1, .ref (ad 0)] I J := by
  refine s_lmul dX7_multiplies_131 ?_
  exact k
theorem bX7_multiplies_135 {l : Launch} {D : va_G} {aI aL : ClassId} {ad : Nat → Nat} {P : sa_P} {I : sa_I} {J : sa_J}    (k : P (none) I J) : Sat (ER l D aI aL ad) M_X7_multiplies P 135 [] [] I J := by
  exact s_vret rfl dX7_multiplies_135 k
/-! X7_isInside -/
theorem dX7_isInside_0 : decode cX7_isInside 0 = .ok (.aload_n 1, 1) := by decide +kernel
theorem dX7_isInside_1 : decode cX7_isInside 1 = .ok (.iload_n 2, 1) := by decide +kernel
theorem dX7_isInside_2 : decode cX7_isInside 2 = .ok (.laload, 1) := by decide +kernel
theorem dX7_isInside_3 : decode cX7_isInside 3 = .ok (.lstore 4, 2) := by decide +kernel
theorem dX7_isInside_5 : decode cX7_isInside 5 = .ok (.aload_n 1, 1) := by decide +kernel
theorem dX7_isInside_6 : decode cX7_isInside 6 = .ok (.iload_n 2, 1) := by decide +kernel
theorem dX7_isInside_7 : decode cX7_isInside 7 = .ok (.iconst 1, 1) := by decide +kernel
theorem dX7_isInside_8 : decode cX7_isInside 8 = .ok (.iadd, 1) := by decide +kernel
theorem dX7_isInside_9 : decode cX7_isInside 9 = .ok (.laload, 1) := by decide +kernel
theorem dX7_isInside_10 : decode cX7_isInside 10 = .ok (.lstore 6, 2) := by decide +kernel
theorem dX7_isInside_12 : decode cX7_isInside 12 = .ok (.aload_n 0, 1) := by decide +kernel
theorem dX7_isInside_13 : decode cX7_isInside 13 = .ok (.getfield 101, 3) := by decide +kernel
theorem dX7_isInside_16 : decode cX7_isInside 16 = .ok (.iconst 3, 1) := by decide +kernel
theorem dX7_isInside_17 : decode cX7_isInside 17 = .ok (.if_icmp .ne 11, 3) := by decide +kernel
theorem dX7_isInside_20 : decode cX7_isInside 20 = .ok (.aload_n 1, 1) := by decide +kernel
theorem dX7_isInside_21 : decode cX7_isInside 21 = .ok (.iload_n 2, 1) := by decide +kernel
theorem dX7_isInside_22 : decode cX7_isInside 22 = .ok (.iconst 2, 1) := by decide +kernel
theorem dX7_isInside_23 : decode cX7_isInside 23 = .ok (.iadd, 1) := by decide +kernel
theorem dX7_isInside_24 : decode cX7_isInside 24 = .ok (.laload, 1) := by decide +kernel
theorem dX7_isInside_25 : decode cX7_isInside 25 = .ok (.goto 4, 3) := by decide +kernel
theorem dX7_isInside_28 : decode cX7_isInside 28 = .ok (.lconst 0, 1) := by decide +kernel
theorem dX7_isInside_29 : decode cX7_isInside 29 = .ok (.lstore 8, 2) := by decide +kernel
theorem dX7_isInside_31 : decode cX7_isInside 31 = .ok (.aload_n 0, 1) := by decide +kernel
theorem dX7_isInside_32 : decode cX7_isInside 32 = .ok (.getfield 101, 3) := by decide +kernel
theorem dX7_isInside_35 : decode cX7_isInside 35 = .ok (.iconst 3, 1) := by decide +kernel
theorem dX7_isInside_36 : decode cX7_isInside 36 = .ok (.if_icmp .ne 50, 3) := by decide +kernel
theorem dX7_isInside_39 : decode cX7_isInside 39 = .ok (.lload 8, 2) := by decide +kernel
theorem dX7_isInside_41 : decode cX7_isInside 41 = .ok (.aload_n 3, 1) := by decide +kernel
theorem dX7_isInside_42 : decode cX7_isInside 42 = .ok (.bipush 8, 2) := by decide +kernel
theorem dX7_isInside_44 : decode cX7_isInside 44 = .ok (.laload, 1) := by decide +kernel
theorem dX7_isInside_45 : decode cX7_isInside 45 = .ok (.lrem, 1) := by decide +kernel
theorem dX7_isInside_46 : decode cX7_isInside 46 = .ok (.lconst 0, 1) := by decide +kernel
theorem dX7_isInside_47 : decode cX7_isInside 47 = .ok (.lcmp, 1) := by decide +kernel
theorem dX7_isInside_48 : decode cX7_isInside 48 = .ok (.ifCond .eq 5, 3) := by decide +kernel
theorem dX7_isInside_51 : decode cX7_isInside 51 = .ok (.iconst 0, 1) := by decide +kernel
theorem dX7_isInside_52 : decode cX7_isInside 52 = .ok (.ireturn, 1) := by decide +kernel
theorem dX7_isInside_53 : decode cX7_isInside 53 = .ok (.lload 8, 2) := by decide +kernel
theorem dX7_isInside_55 : decode cX7_isInside 55 = .ok (.aload_n 3, 1) := by decide +kernel
theorem dX7_isInside_56 : decode cX7_isInside 56 = .ok (.bipush 8, 2) := by decide +kernel
theorem dX7_isInside_58 : decode cX7_isInside 58 = .ok (.laload, 1) := by decide +kernel
theorem dX7_isInside_59 : decode cX7_isInside 59 = .ok (.ldiv, 1) := by decide +kernel
theorem dX7_isInside_60 : decode cX7_isInside 60 = .ok (.lstore 10, 2) := by decide +kernel
theorem dX7_isInside_62 : decode cX7_isInside 62 = .ok (.lload 4, 2) := by decide +kernel
theorem dX7_isInside_64 : decode cX7_isInside 64 = .ok (.lload 10, 2) := by decide +kernel
theorem dX7_isInside_66 : decode cX7_isInside 66 = .ok (.aload_n 3, 1) := by decide +kernel
theorem dX7_isInside_67 : decode cX7_isInside 67 = .ok (.bipush 6, 2) := by decide +kernel
theorem dX7_isInside_69 : decode cX7_isInside 69 = .ok (.laload, 1) := by decide +kernel
theorem dX7_isInside_70 : decode cX7_isInside 70 = .ok (.lmul, 1) := by decide +kernel
theorem dX7_isInside_71 : decode cX7_isInside 71 = .ok (.lsub, 1) := by decide +kernel
theorem dX7_isInside_72 : decode cX7_isInside 72 = .ok (.lstore 4, 2) := by decide +kernel
theorem dX7_isInside_74 : decode cX7_isInside 74 = .ok (.lload 6, 2) := by decide +kernel
theorem dX7_isInside_76 : decode cX7_isInside 76 = .ok (.lload 10, 2) := by decide +kernel
theorem dX7_isInside_78 : decode cX7_isInside 78 = .ok (.aload_n 3, 1) := by decide +kernel
theorem dX7_isInside_79 : decode cX7_isInside 79 = .ok (.bipush 7, 2) := by decide +kernel
theorem dX7_isInside_81 : decode cX7_isInside 81 = .ok (.laload, 1) := by decide +kernel
theorem dX7_isInside_82 : decode cX7_isInside 82 = .ok (.lmul, 1) := by decide +kernel
theorem dX7_isInside_83 : decode cX7_isInside 83 = .ok (.lsub, 1) := by decide +kernel
theorem dX7_isInside_84 : decode cX7_isInside 84 = .ok (.lstore 6, 2) := by decide +kernel
theorem dX7_isInside_86 : decode cX7_isInside 86 = .ok (.lload 6, 2) := by decide +kernel
theorem dX7_isInside_88 : decode cX7_isInside 88 = .ok (.aload_n 3, 1) := by decide +kernel
theorem dX7_isInside_89 : decode cX7_isInside 89 = .ok (.iconst 4, 1) := by decide +kernel
theorem dX7_isInside_90 : decode cX7_isInside 90 = .ok (.laload, 1) := by decide +kernel
theorem dX7_isInside_91 : decode cX7_isInside 91 = .ok (.lrem, 1) := by decide +kernel
theorem dX7_isInside_92 : decode cX7_isInside 92 = .ok (.lconst 0, 1) := by decide +kernel
theorem dX7_isInside_93 : decode cX7_isInside 93 = .ok (.lcmp, 1) := by decide +kernel
theorem dX7_isInside_94 : decode cX7_isInside 94 = .ok (.ifCond .eq 5, 3) := by decide +kernel
theorem dX7_isInside_97 : decode cX7_isInside 97 = .ok (.iconst 0, 1) := by decide +kernel
theorem dX7_isInside_98 : decode cX7_isInside 98 = .ok (.ireturn, 1) := by decide +kernel
theorem dX7_isInside_99 : decode cX7_isInside 99 = .ok (.lload 4, 2) := by decide +kernel
theorem dX7_isInside_101 : decode cX7_isInside 101 = .ok (.lload 6, 2) := by decide +kernel
theorem dX7_isInside_103 : decode cX7_isInside 103 = .ok (.aload_n 3, 1) := by decide +kernel
theorem dX7_isInside_104 : decode cX7_isInside 104 = .ok (.iconst 4, 1) := by decide +kernel
theorem dX7_isInside_105 : decode cX7_isInside 105 = .ok (.laload, 1) := by decide +kernel
theorem dX7_isInside_106 : decode cX7_isInside 106 = .ok (.ldiv, 1) := by decide +kernel
theorem dX7_isInside_107 : decode cX7_isInside 107 = .ok (.aload_n 3, 1) := by decide +kernel
theorem dX7_isInside_108 : decode cX7_isInside 108 = .ok (.iconst 3, 1) := by decide +kernel
theorem dX7_isInside_109 : decode cX7_isInside 109 = .ok (.laload, 1) := by decide +kernel
theorem dX7_isInside_110 : decode cX7_isInside 110 = .ok (.lmul, 1) := by decide +kernel
theorem dX7_isInside_111 : decode cX7_isInside 111 = .ok (.lsub, 1) := by decide +kernel
theorem dX7_isInside_112 : decode cX7_isInside 112 = .ok (.aload_n 3, 1) := by decide +kernel
theorem dX7_isInside_113 : decode cX7_isInside 113 = .ok (.iconst 0, 1) := by decide +kernel
theorem dX7_isInside_114 : decode cX7_isInside 114 = .ok (.laload, 1) := by decide +kernel
theorem dX7_isInside_115 : decode cX7_isInside 115 = .ok (.lrem, 1) := by decide +kernel
theorem dX7_isInside_116 : decode cX7_isInside 116 = .ok (.lconst 0, 1) := by decide +kernel
theorem dX7_isInside_117 : decode cX7_isInside 117 = .ok (.lcmp, 1) := by decide +kernel
theorem dX7_isInside_118 : decode cX7_isInside 118 = .ok (.ifCond .ne 7, 3) := by decide +kernel
theorem dX7_isInside_121 : decode cX7_isInside 121 = .ok (.iconst 1, 1) := by decide +kernel
theorem dX7_isInside_122 : decode cX7_isInside 122 = .ok (.goto 4, 3) := by decide +kernel
theorem dX7_isInside_125 : decode cX7_isInside 125 = .ok (.iconst 0, 1) := by decide +kernel
theorem dX7_isInside_126 : decode cX7_isInside 126 = .ok (.ireturn, 1) := by decide +kernel
theorem bX7_isInside_0 {l : Launch} {D : va_G} {aI aL : ClassId} {ad : Nat → Nat} {P : sa_P} {I : sa_I} {J : sa_J} {a1 q1 n1 : Nat} {x2 : Int32} {a3 q3 n3 : Nat} {j1 : Nat} {v3 : Int64} {j8 : Nat} {v10 : Int64} (hq1 : sa_iJ (ER l D aI aL ad) a1 q1 n1) (hn1 : n1 < 2 ^ 31) (hq3 : sa_iJ (ER l D aI aL ad) a3 q3 n3) (hn3 : n3 < 2 ^ 31) (e1 : x2 = nI j1) (h2 : j1 < n1) (e8 : x2 + (1 : Int32) = nI j8) (h9 : j8 < n1) (f3 : J q1 j1 = v3) (f10 : J q1 j8 = v10) (kt : ¬ I 0 1 = (3 : Int32) → Sat (ER l D aI aL ad) M_X7_isInside P 28 [(0, .ref (ad 0)), (3, .ref a3), (4, .long v3), (6, .long v10)] [] I J) (kf : I 0 1 = (3 : Int32) → Sat (ER l D aI aL ad) M_X7_isInside P 20 [(0, .ref (ad 0)), (1, .ref a1), (2, .int x2), (3, .ref a3), (4, .long v3), (6, .long v10)] [] I J) : Sat (ER l D aI aL ad) M_X7_isInside P 0 [(0, .ref (ad 0)), (1, .ref a1), (2, .int x2), (3, .ref a3)] [] I J := by
  refine s_aload_n 1 dX7_isInside_0 rfl ?_
  refine s_iload_n 2 dX7_isInside_1 rfl ?_
  refine s_eqi e1 ?_
  refine s_laloadN hq1 h2 hn1 dX7_isInside_2 ?_
  refine s_eql f3 ?_
  refine s_lstore [(4, .long v3), (0, .ref (ad 0)), (1, .ref a1), (2, .int x2), (3, .ref a3)] dX7_isInside_3 (Nat.lt_of_lt_of_le (Nat.lt_succ_self _) (Nat.le_of_ble_eq_true rfl)) rfl ?_
  refine s_aload_n 2 dX7_isInside_5 rfl ?_
  refine s_iload_n 3 dX7_isInside_6 rfl ?_
  refine s_iconst (v := 1) dX7_isInside_7 rfl ?_
  refine s_iadd dX7_isInside_8 ?_
  refine s_eqi e8 ?_
  refine s_laloadN hq1 h9 hn1 dX7_isInside_9 ?_
  refine s_eql f10 ?_
  refine s_lstore [(6, .long v10), (4, .long v3), (0, .ref (ad 0)), (1, .ref a1), (2, .int x2), (3, .ref a3)] dX7_isInside_10 (Nat.lt_of_lt_of_le (Nat.lt_succ_self _) (Nat.le_of_ble_eq_true rfl)) rfl ?_
  refine s_aload_n 2 dX7_isInside_12 rfl ?_
  refine g_X7_101 dX7_isInside_13 rfl ?_
  refine s_iconst (v := 3) dX7_isInside_16 rfl ?_
  refine s_icmp_ne (tgt := 28) dX7_isInside_17 (by decide) (fun c => ?_) (fun c => ?_)
  · refine s_pick [2, 5, 1, 0] [(0, .ref (ad 0)), (3, .ref a3), (4, .long v3), (6, .long v10)] rfl ?_; exact kt c
  · refine s_pick [2, 3, 4, 5, 1, 0] [(0, .ref (ad 0)), (1, .ref a1), (2, .int x2), (3, .ref a3), (4, .long v3), (6, .long v10)] rfl ?_; exact kf (by first | exact c | exact Classical.not_not.mp c)
theorem bX7_isInside_20 {l : Launch} {D : va_G} {aI aL : ClassId} {ad : Nat → Nat} {P : sa_P} {I : sa_I} {J : sa_J} {a1 q1 n1 : Nat} {x2 : Int32} {a3 q3 n3 : Nat} {x4 : Int64} {x6 : Int64} {j23 : Nat} (hq1 : sa_iJ (ER l D aI aL ad) a1 q1 n1) (hn1 : n1 < 2 ^ 31) (hq3 : sa_iJ (ER l D aI aL ad) a3 q3 n3) (hn3 : n3 < 2 ^ 31) (e23 : x2 + (2 : Int32) = nI j23) (h24 : j23 < n1)  (k : Sat (ER l D aI aL ad) M_X7_isInside P 29 [(0, .ref (ad 0)), (3, .ref a3), (4, .long x4), (6, .long x6)] [.long (J q1 j23)] I J) : Sat (ER l D aI aL ad) M_X7_isInside P 20 [(0, .ref (ad 0)), (1, .ref a1), (2, .int x2), (3, .ref a3), (4, .long x4), (6, .long x6)] [] I J := by
  refine s_aload_n 1 dX7_isInside_20 rfl ?_
  refine s_iload_n 2 dX7_isInside_21 rfl ?_
  refine s_iconst (v := 2) dX7_isInside_22 rfl ?_
  refine s_iadd dX7_isInside_23 ?_
  refine s_eqi e23 ?_
  refine s_laloadN hq1 h24 hn1 dX7_isInside_24 ?_
  refine s_goto (tgt := 29) dX7_isInside_25 (by decide) ?_
  refine s_pick [0, 3, 4, 5] [(0, .ref (ad 0)), (3, .ref a3), (4, .long x4), (6, .long x6)] rfl ?_; exact k
theorem bX7_isInside_28 {l : Launch} {D : va_G} {aI aL : ClassId} {ad : Nat → Nat} {P : sa_P} {I : sa_I} {J : sa_J} {a3 q3 n3 : Nat} {x4 : Int64} {x6 : Int64} (hq3 : sa_iJ (ER l D aI aL ad) a3 q3 n3) (hn3 : n3 < 2 ^ 31)  (k : Sat (ER l D aI aL ad) M_X7_isInside P 29 [(0, .ref (ad 0)), (3, .ref a3), (4, .long x4), (6, .long x6)] [.long (0 : Int64)] I J) : Sat (ER l D aI aL ad) M_X7_isInside P 28 [(0, .ref (ad 0)), (3, .ref a3), (4, .long x4), (6, .long x6)] [] I J := by
  refine s_lconst (v := 0) dX7_isInside_28 rfl ?_
  exact k
theorem bX7_isInside_29 {l : Launch} {D : va_G} {aI aL : ClassId} {ad : Nat → Nat} {P : sa_P} {I : sa_I} {J : sa_J} {a3 q3 n3 : Nat} {x4 : Int64} {x6 : Int64} {s0 : Int64} (hq3 : sa_iJ (ER l D aI aL ad) a3 q3 n3) (hn3 : n3 < 2 ^ 31)  (kt : ¬ I 0 1 = (3 : Int32) → Sat (ER l D aI aL ad) M_X7_isInside P 86 [(3, .ref a3), (4, .long x4), (6, .long x6)] [] I J) (kf : I 0 1 = (3 : Int32) → Sat (ER l D aI aL ad) M_X7_isInside P 39 [(3, .ref a3), (4, .long x4), (6, .long x6), (8, .long s0)] [] I J) : Sat (ER l D aI aL ad) M_X7_isInside P 29 [(0, .ref (ad 0)), (3, .ref a3), (4, .long x4), (6, .long x6)] [.long s0] I J := by
  refine s_lstore [(8, .long s0), (0, .ref (ad 0)), (3, .ref a3), (4, .long x4), (6, .long x6)] dX7_isInside_29 (Nat.lt_of_lt_of_le (Nat.lt_succ_self _) (Nat.le_of_ble_eq_true rfl)) rfl ?_
  refine s_aload_n 1 dX7_isInside_31 rfl ?_
  refine g_X7_101 dX7_isInside_32 rfl ?_
  refine s_iconst (v := 3) dX7_isInside_35 rfl ?_
  refine s_icmp_ne (tgt := 86) dX7_isInside_36 (by decide) (fun c => ?_) (fun c => ?_)
  · refine s_pick [2, 3, 4] [(3, .ref a3), (4, .long x4), (6, .long x6)] rfl ?_; exact kt c
  · refine s_pick [2, 3, 4, 0] [(3, .ref a3), (4, .long x4), (6, .long x6), (8, .long s0)] rfl ?_; exact kf (by first | exact c | exact Classical.not_not.mp c)
theorem bX7_isInside_39 {l : Launch} {D : va_G} {aI aL : ClassId} {ad : Nat → Nat} {P : sa_P} {I : sa_I} {J : sa_J} {a3 q3 n3 : Nat} {x4 : Int64} {x6 : Int64} {x8 : Int64} (hq3 : sa_iJ (ER l D aI aL ad) a3 q3 n3) (hn3 : n3 < 2 ^ 31) (h44 : 8 < n3) (z45 : ¬ J q3 8 = 0)  (kt : x8 - x8 / (J q3 8) * (J q3 8) = (0 : Int64) → Sat (ER l D aI aL ad) M_X7_isInside P 53 [(3, .ref a3), (4, .long x4), (6, .long x6), (8, .long x8)] [] I J) (kf : ¬ x8 - x8 / (J q3 8) * (J q3 8) = (0 : Int64) → Sat (ER l D aI aL ad) M_X7_isInside P 51 [] [] I J) : Sat (ER l D aI aL ad) M_X7_isInside P 39 [(3, .ref a3), (4, .long x4), (6, .long x6), (8, .long x8)] [] I J := by
  refine s_lload 3 dX7_isInside_39 rfl ?_
  refine s_aload_n 0 dX7_isInside_41 rfl ?_
  refine s_bipush (v := 8) dX7_isInside_42 rfl ?_
  refine s_eqi (y := nI 8) rfl ?_
  refine s_laloadN hq3 h44 hn3 dX7_isInside_44 ?_
  refine s_lrem dX7_isInside_45 z45 ?_
  refine s_lconst (v := 0) dX7_isInside_46 rfl ?_
  refine s_lif_eq (tgt := 53) dX7_isInside_47 dX7_isInside_48 (by decide) (fun c => ?_) (fun c => ?_)
  · exact kt c
  · refine s_pick [] [] rfl ?_; exact kf c
theorem bX7_isInside_51 {l : Launch} {D : va_G} {aI aL : ClassId} {ad : Nat → Nat} {P : sa_P} {I : sa_I} {J : sa_J}    (k : P (some (.int (0 : Int32))) I J) : Sat (ER l D aI aL ad) M_X7_isInside P 51 [] [] I J := by
  refine s_iconst (v := 0) dX7_isInside_51 rfl ?_
  exact s_zret rfl rfl dX7_isInside_52 k
theorem bX7_isInside_53 {l : Launch} {D : va_G} {aI aL : ClassId} {ad : Nat → Nat} {P : sa_P} {I : sa_I} {J : sa_J} {a3 q3 n3 : Nat} {x4 : Int64} {x6 : Int64} {x8 : Int64} {v60 : Int64} {v72 : Int64} {v84 : Int64} (hq3 : sa_iJ (ER l D aI aL ad) a3 q3 n3) (hn3 : n3 < 2 ^ 31) (h58 : 8 < n3) (z59 : ¬ J q3 8 = 0) (h69 : 6 < n3) (h81 : 7 < n3) (f60 : x8 / (J q3 8) = v60) (f72 : x4 - (v60 * (J q3 6)) = v72) (f84 : x6 - (v60 * (J q3 7)) = v84) (k : Sat (ER l D aI aL ad) M_X7_isInside P 86 [(3, .ref a3), (4, .long v72), (6, .long v84)] [] I J) : Sat (ER l D aI aL ad) M_X7_isInside P 53 [(3, .ref a3), (4, .long x4), (6, .long x6), (8, .long x8)] [] I J := by
  refine s_lload 3 dX7_isInside_53 rfl ?_
  refine s_aload_n 0 dX7_isInside_55 rfl ?_
  refine s_bipush (v := 8) dX7_isInside_56 rfl ?_
  refine s_eqi (y := nI 8) rfl ?_
  refine s_laloadN hq3 h58 hn3 dX7_isInside_58 ?_
  refine s_ldiv dX7_isInside_59 z59 ?_
  refine s_eql f60 ?_
  refine s_lstore [(10, .long v60), (3, .ref a3), (4, .long x4), (6, .long x6), (8, .long x8)] dX7_isInside_60 (Nat.lt_of_lt_of_le (Nat.lt_succ_self _) (Nat.le_of_ble_eq_true rfl)) rfl ?_
  refine s_lload 2 dX7_isInside_62 rfl ?_
  refine s_lload 0 dX7_isInside_64 rfl ?_
  refine s_aload_n 1 dX7_isInside_66 rfl ?_
  refine s_bipush (v := 6) dX7_isInside_67 rfl ?_
  refine s_eqi (y := nI 6) rfl ?_
  refine s_laloadN hq3 h69 hn3 dX7_isInside_69 ?_
  refine s_lmul dX7_isInside_70 ?_
  refine s_lsub dX7_isInside_71 ?_
  refine s_eql f72 ?_
  refine s_lstore [(4, .long v72), (10, .long v60), (3, .ref a3), (6, .long x6), (8, .long x8)] dX7_isInside_72 (Nat.lt_of_lt_of_le (Nat.lt_succ_self _) (Nat.le_of_ble_eq_true rfl)) rfl ?_
  refine s_lload 3 dX7_isInside_74 rfl ?_
  refine s_lload 1 dX7_isInside_76 rfl ?_
  refine s_aload_n 2 dX7_isInside_78 rfl ?_
  refine s_bipush (v := 7) dX7_isInside_79 rfl ?_
  refine s_eqi (y := nI 7) rfl ?_
  refine s_laloadN hq3 h81 hn3 dX7_isInside_81 ?_
  refine s_lmul dX7_isInside_82 ?_
  refine s_lsub dX7_isInside_83 ?_
  refine s_eql f84 ?_
  refine s_lstore [(6, .long v84), (4, .long v72), (10, .long v60), (3, .ref a3), (8, .long x8)] dX7_isInside_84 (Nat.lt_of_lt_of_le (Nat.lt_succ_self _) (Nat.le_of_ble_eq_true rfl)) rfl ?_
  refine s_pick [3, 1, 0] [(3, .ref a3), (4, .long v72), (6, .long v84)] rfl ?_; exact k
theorem bX7_isInside_86 {l : Launch} {D : va_G} {aI aL : ClassId} {ad : Nat → Nat} {P : sa_P} {I : sa_I} {J : sa_J} {a3 q3 n3 : Nat} {x4 : Int64} {x6 : Int64} (hq3 : sa_iJ (ER l D aI aL ad) a3 q3 n3) (hn3 : n3 < 2 ^ 31) (h90 : 4 < n3) (z91 : ¬ J q3 4 = 0)  (kt : x6 - x6 / (J q3 4) * (J q3 4) = (0 : Int64) → Sat (ER l D aI aL ad) M_X7_isInside P 99 [(3, .ref a3), (4, .long x4), (6, .long x6)] [] I J) (kf : ¬ x6 - x6 / (J q3 4) * (J q3 4) = (0 : Int64) → Sat (ER l D aI aL ad) M_X7_isInside P 97 [] [] I J) : Sat (ER l D aI aL ad) M_X7_isInside P 86 [(3, .ref a3), (4, .long x4), (6, .long x6)] [] I J := by
  refine s_lload 2 dX7_isInside_86 rfl ?_
  refine s_aload_n 0 dX7_isInside_88 rfl ?_
  refine s_iconst (v := 4) dX7_isInside_89 rfl ?_
  refine s_eqi (y := nI 4) rfl ?_
  refine s_laloadN hq3 h90 hn3 dX7_isInside_90 ?_
  refine s_lrem dX7_isInside_91 z91 ?_
  refine s_lconst (v := 0) dX7_isInside_92 rfl ?_
  refine s_lif_eq (tgt := 99) dX7_isInside_93 dX7_isInside_94 (by decide) (fun c => ?_) (fun c => ?_)
  · exact kt c
  · refine s_pick [] [] rfl ?_; exact kf c
theorem bX7_isInside_97 {l : Launch} {D : va_G} {aI aL : ClassId} {ad : Nat → Nat} {P : sa_P} {I : sa_I} {J : sa_J}    (k : P (some (.int (0 : Int32))) I J) : Sat (ER l D aI aL ad) M_X7_isInside P 97 [] [] I J := by
  refine s_iconst (v := 0) dX7_isInside_97 rfl ?_
  exact s_zret rfl rfl dX7_isInside_98 k
theorem bX7_isInside_99 {l : Launch} {D : va_G} {aI aL : ClassId} {ad : Nat → Nat} {P : sa_P} {I : sa_I} {J : sa_J} {a3 q3 n3 : Nat} {x4 : Int64} {x6 : Int64} (hq3 : sa_iJ (ER l D aI aL ad) a3 q3 n3) (hn3 : n3 < 2 ^ 31) (h105 : 4 < n3) (z106 : ¬ J q3 4 = 0) (h109 : 3 < n3) (h114 : 0 < n3) (z115 : ¬ J q3 0 = 0)  (kt : ¬ (x4 - ((x6 / (J q3 4)) * (J q3 3))) - (x4 - ((x6 / (J q3 4)) * (J q3 3))) / (J q3 0) * (J q3 0) = (0 : Int64) → Sat (ER l D aI aL ad) M_X7_isInside P 125 [] [] I J) (kf : (x4 - ((x6 / (J q3 4)) * (J q3 3))) - (x4 - ((x6 / (J q3 4)) * (J q3 3))) / (J q3 0) * (J q3 0) = (0 : Int64) → Sat (ER l D aI aL ad) M_X7_isInside P 121 [] [] I J) : Sat (ER l D aI aL ad) M_X7_isInside P 99 [(3, .ref a3), (4, .long x4), (6, .long x6)] [] I J := by
  refine s_lload 1 dX7_isInside_99 rfl ?_
  refine s_lload 2 dX7_isInside_101 rfl ?_
  refine s_aload_n 0 dX7_isInside_103 rfl ?_
  refine s_iconst (v := 4) dX7_isInside_104 rfl ?_
  refine s_eqi (y := nI 4) rfl ?_
  refine s_laloadN hq3 h105 hn3 dX7_isInside_105 ?_
  refine s_ldiv dX7_isInside_106 z106 ?_
  refine s_aload_n 0 dX7_isInside_107 rfl ?_
  refine s_iconst (v := 3) dX7_isInside_108 rfl ?_
  refine s_eqi (y := nI 3) rfl ?_
  refine s_laloadN hq3 h109 hn3 dX7_isInside_109 ?_
  refine s_lmul dX7_isInside_110 ?_
  refine s_lsub dX7_isInside_111 ?_
  refine s_aload_n 0 dX7_isInside_112 rfl ?_
  refine s_iconst (v := 0) dX7_isInside_113 rfl ?_
  refine s_eqi (y := nI 0) rfl ?_
  refine s_laloadN hq3 h114 hn3 dX7_isInside_114 ?_
  refine s_lrem dX7_isInside_115 z115 ?_
  refine s_lconst (v := 0) dX7_isInside_116 rfl ?_
  refine s_lif_ne (tgt := 125) dX7_isInside_117 dX7_isInside_118 (by decide) (fun c => ?_) (fun c => ?_)
  · refine s_pick [] [] rfl ?_; exact kt c
  · refine s_pick [] [] rfl ?_; exact kf (by first | exact c | exact Classical.not_not.mp c)
theorem bX7_isInside_121 {l : Launch} {D : va_G} {aI aL : ClassId} {ad : Nat → Nat} {P : sa_P} {I : sa_I} {J : sa_J}    (k : Sat (ER l D aI aL ad) M_X7_isInside P 126 [] [.int (1 : Int32)] I J) : Sat (ER l D aI aL ad) M_X7_isInside P 121 [] [] I J := by
  refine s_iconst (v := 1) dX7_isInside_121 rfl ?_
  refine s_goto (tgt := 126) dX7_isInside_122 (by decide) ?_
  exact k
theorem bX7_isInside_125 {l : Launch} {D : va_G} {aI aL : ClassId} {ad : Nat → Nat} {P : sa_P} {I : sa_I} {J : sa_J}    (k : Sat (ER l D aI aL ad) M_X7_isInside P 126 [] [.int (0 : Int32)] I J) : Sat (ER l D aI aL ad) M_X7_isInside P 125 [] [] I J := by
  refine s_iconst (v := 0) dX7_isInside_125 rfl ?_
  exact k
theorem bX7_isInside_126 {l : Launch} {D : va_G} {aI aL : ClassId} {ad : Nat → Nat} {P : sa_P} {I : sa_I} {J : sa_J} {s0 : Int32} (hz : narrow .boolean (.int s0) = .int s0)  (k : P (some (.int s0)) I J) : Sat (ER l D aI aL ad) M_X7_isInside P 126 [] [.int s0] I J := by
  exact s_zret hz rfl dX7_isInside_126 k
/-! X7_isWithin -/
theorem dX7_isWithin_0 : decode cX7_isWithin 0 = .ok (.iconst 1, 1) := by decide +kernel
theorem dX7_isWithin_1 : decode cX7_isWithin 1 = .ok (.istore_n 1, 1) := by decide +kernel
theorem dX7_isWithin_2 : decode cX7_isWithin 2 = .ok (.iconst 0, 1) := by decide +kernel
theorem dX7_isWithin_3 : decode cX7_isWithin 3 = .ok (.istore_n 2, 1) := by decide +kernel
theorem dX7_isWithin_4 : decode cX7_isWithin 4 = .ok (.iload_n 2, 1) := by decide +kernel
theorem dX7_isWithin_5 : decode cX7_isWithin 5 = .ok (.aload_n 0, 1) := by decide +kernel
theorem dX7_isWithin_6 : decode cX7_isWithin 6 = .ok (.getfield 101, 3) := by decide +kernel
theorem dX7_isWithin_9 : decode cX7_isWithin 9 = .ok (.if_icmp .ge 29, 3) := by decide +kernel
theorem dX7_isWithin_12 : decode cX7_isWithin 12 = .ok (.iload_n 1, 1) := by decide +kernel
theorem dX7_isWithin_13 : decode cX7_isWithin 13 = .ok (.ifCond .eq 25, 3) := by decide +kernel
theorem dX7_isWithin_16 : decode cX7_isWithin 16 = .ok (.aload_n 0, 1) := by decide +kernel
theorem dX7_isWithin_17 : decode cX7_isWithin 17 = .ok (.aload_n 0, 1) := by decide +kernel
theorem dX7_isWithin_18 : decode cX7_isWithin 18 = .ok (.getfield 53, 3) := by decide +kernel
theorem dX7_isWithin_21 : decode cX7_isWithin 21 = .ok (.iconst 3, 1) := by decide +kernel
theorem dX7_isWithin_22 : decode cX7_isWithin 22 = .ok (.iload_n 2, 1) := by decide +kernel
theorem dX7_isWithin_23 : decode cX7_isWithin 23 = .ok (.imul, 1) := by decide +kernel
theorem dX7_isWithin_24 : decode cX7_isWithin 24 = .ok (.aload_n 0, 1) := by decide +kernel
theorem dX7_isWithin_25 : decode cX7_isWithin 25 = .ok (.getfield 56, 3) := by decide +kernel
theorem dX7_isWithin_28 : decode cX7_isWithin 28 = .ok (.invokevirtual 271, 3) := by decide +kernel
theorem dX7_isWithin_31 : decode cX7_isWithin 31 = .ok (.istore_n 1, 1) := by decide +kernel
theorem dX7_isWithin_32 : decode cX7_isWithin 32 = .ok (.iinc 2 1, 3) := by decide +kernel
theorem dX7_isWithin_35 : decode cX7_isWithin 35 = .ok (.goto (-31), 3) := by decide +kernel
theorem dX7_isWithin_38 : decode cX7_isWithin 38 = .ok (.iload_n 1, 1) := by decide +kernel
theorem dX7_isWithin_39 : decode cX7_isWithin 39 = .ok (.ireturn, 1) := by decide +kernel
theorem bX7_isWithin_0 {l : Launch} {D : va_G} {aI aL : ClassId} {ad : Nat → Nat} {P : sa_P} {I : sa_I} {J : sa_J} {v1 : Int32} {v3 : Int32}  (f1 : (1 : Int32) = v1) (f3 : (0 : Int32) = v3) (k : Sat (ER l D aI aL ad) M_X7_isWithin P 4 [(0, .ref (ad 0)), (1, .int v1), (2, .int v3)] [] I J) : Sat (ER l D aI aL ad) M_X7_isWithin P 0 [(0, .ref (ad 0))] [] I J := by
  refine s_iconst (v := 1) dX7_isWithin_0 rfl ?_
  refine s_eqi f1 ?_
  refine s_istore_n [(1, .int v1), (0, .ref (ad 0))] dX7_isWithin_1 (Nat.lt_of_lt_of_le (Nat.lt_succ_self _) (Nat.le_of_ble_eq_true rfl)) rfl ?_
  refine s_iconst (v := 0) dX7_isWithin_2 rfl ?_
  refine s_eqi f3 ?_
  refine s_istore_n [(2, .int v3), (1, .int v1), (0, .ref (ad 0))] dX7_isWithin_3 (Nat.lt_of_lt_of_le (Nat.lt_succ_self _) (Nat.le_of_ble_eq_true rfl)) rfl ?_
  refine s_pick [2, 1, 0] [(0, .ref (ad 0)), (1, .int v1), (2, .int v3)] rfl ?_; exact k
theorem bX7_isWithin_4 {l : Launch} {D : va_G} {aI aL : ClassId} {ad : Nat → Nat} {P : sa_P} {I : sa_I} {J : sa_J} {x1 : Int32} {x2 : Int32}   (kt : I 0 1 ≤ x2 → Sat (ER l D aI aL ad) M_X7_isWithin P 38 [(1, .int x1)] [] I J) (kf : ¬ I 0 1 ≤ x2 → Sat (ER l D aI aL ad) M_X7_isWithin P 12 [(0, .ref (ad 0)), (1, .int x1), (2, .int x2)] [] I J) : Sat (ER l D aI aL ad) M_X7_isWithin P 4 [(0, .ref (ad 0)), (1, .int x1), (2, .int x2)] [] I J := by
  refine s_iload_n 2 dX7_isWithin_4 rfl ?_
  refine s_aload_n 0 dX7_isWithin_5 rfl ?_
  refine g_X7_101 dX7_isWithin_6 rfl ?_
  refine s_icmp_ge (tgt := 38) dX7_isWithin_9 (by decide) (fun c => ?_) (fun c => ?_)
  · refine s_pick [1] [(1, .int x1)] rfl ?_; exact kt c
  · exact kf c
theorem bX7_isWithin_12 {l : Launch} {D : va_G} {aI aL : ClassId} {ad : Nat → Nat} {P : sa_P} {I : sa_I} {J : sa_J} {x1 : Int32} {x2 : Int32}   (kt : x1 = 0 → Sat (ER l D aI aL ad) M_X7_isWithin P 38 [(1, .int x1)] [] I J) (kf : ¬ x1 = 0 → Sat (ER l D aI aL ad) M_X7_isWithin P 16 [(0, .ref (ad 0)), (2, .int x2)] [] I J) : Sat (ER l D aI aL ad) M_X7_isWithin P 12 [(0, .ref (ad 0)), (1, .int x1), (2, .int x2)] [] I J := by
  refine s_iload_n 1 dX7_isWithin_12 rfl ?_
  refine s_if_eq (tgt := 38) dX7_isWithin_13 (by decide) (fun c => ?_) (fun c => ?_)
  · refine s_pick [1] [(1, .int x1)] rfl ?_; exact kt c
  · refine s_pick [0, 2] [(0, .ref (ad 0)), (2, .int x2)] rfl ?_; exact kf c
theorem bX7_isWithin_16 {l : Launch} {D : va_G} {aI aL : ClassId} {ad : Nat → Nat} {P : sa_P} {I : sa_I} {J : sa_J} {x2 : Int32}   (k : Sat (ER l D aI aL ad) M_X7_isWithin P 28 [(0, .ref (ad 0)), (2, .int x2)] [.ref (ad 16), .int ((3 : Int32) * x2), .ref (ad 15), .ref (ad 0)] I J) : Sat (ER l D aI aL ad) M_X7_isWithin P 16 [(0, .ref (ad 0)), (2, .int x2)] [] I J := by
  refine s_aload_n 0 dX7_isWithin_16 rfl ?_
  refine s_aload_n 0 dX7_isWithin_17 rfl ?_
  refine g_X7_53 dX7_isWithin_18 rfl ?_
  refine s_iconst (v := 3) dX7_isWithin_21 rfl ?_
  refine s_iload_n 1 dX7_isWithin_22 rfl ?_
  refine s_imul dX7_isWithin_23 ?_
  refine s_aload_n 0 dX7_isWithin_24 rfl ?_
  refine g_X7_56 dX7_isWithin_25 rfl ?_
  exact k
theorem bX7_isWithin_31 {l : Launch} {D : va_G} {aI aL : ClassId} {ad : Nat → Nat} {P : sa_P} {I : sa_I} {J : sa_J} {x2 : Int32} {s0 : Int32} {v32 : Int32}  (f32 : x2 + 1 = v32) (k : Sat (ER l D aI aL ad) M_X7_isWithin P 4 [(0, .ref (ad 0)), (1, .int s0), (2, .int v32)] [] I J) : Sat (ER l D aI aL ad) M_X7_isWithin P 31 [(0, .ref (ad 0)), (2, .int x2)] [.int s0] I J := by
  refine s_istore_n [(1, .int s0), (0, .ref (ad 0)), (2, .int x2)] dX7_isWithin_31 (Nat.lt_of_lt_of_le (Nat.lt_succ_self _) (Nat.le_of_ble_eq_true rfl)) rfl ?_
  refine s_iinc 2 v32 [(2, .int v32), (1, .int s0), (0, .ref (ad 0))] dX7_isWithin_32 rfl f32 (Nat.lt_of_lt_of_le (Nat.lt_succ_self _) (Nat.le_of_ble_eq_true rfl)) rfl ?_
  refine s_goto (tgt := 4) dX7_isWithin_35 (by decide) ?_
  refine s_pick [2, 1, 0] [(0, .ref (ad 0)), (1, .int s0), (2, .int v32)] rfl ?_; exact k
theorem bX7_isWithin_38 {l : Launch} {D : va_G} {aI aL : ClassId} {ad : Nat → Nat} {P : sa_P} {I : sa_I} {J : sa_J} {x1 : Int32} (hz : narrow .boolean (.int x1) = .int x1)  (k : P (some (.int x1)) I J) : Sat (ER l D aI aL ad) M_X7_isWithin P 38 [(1, .int x1)] [] I J := by
  refine s_iload_n 0 dX7_isWithin_38 rfl ?_
  exact s_zret hz rfl dX7_isWithin_39 k
/-! X7_turns -/
theorem dX7_turns_0 : decode cX7_turns 0 = .ok (.iconst 0, 1) := by decide +kernel
theorem dX7_turns_1 : decode cX7_turns 1 = .ok (.istore_n 2, 1) := by decide +kernel
theorem dX7_turns_2 : decode cX7_turns 2 = .ok (.iload_n 2, 1) := by decide +kernel
theorem dX7_turns_3 : decode cX7_turns 3 = .ok (.bipush 9, 2) := by decide +kernel
theorem dX7_turns_5 : decode cX7_turns 5 = .ok (.if_icmp .ge 16, 3) := by decide +kernel
theorem dX7_turns_8 : decode cX7_turns 8 = .ok (.aload_n 0, 1) := by decide +kernel
theorem dX7_turns_9 : decode cX7_turns 9 = .ok (.getfield 59, 3) := by decide +kernel
theorem dX7_turns_12 : decode cX7_turns 12 = .ok (.iload_n 2, 1) := by decide +kernel
theorem dX7_turns_13 : decode cX7_turns 13 = .ok (.lconst 0, 1) := by decide +kernel
theorem dX7_turns_14 : decode cX7_turns 14 = .ok (.lastore, 1) := by decide +kernel
theorem dX7_turns_15 : decode cX7_turns 15 = .ok (.iinc 2 1, 3) := by decide +kernel
theorem dX7_turns_18 : decode cX7_turns 18 = .ok (.goto (-16), 3) := by decide +kernel
theorem dX7_turns_21 : decode cX7_turns 21 = .ok (.aload_n 0, 1) := by decide +kernel
theorem dX7_turns_22 : decode cX7_turns 22 = .ok (.getfield 101, 3) := by decide +kernel
theorem dX7_turns_25 : decode cX7_turns 25 = .ok (.iconst 2, 1) := by decide +kernel
theorem dX7_turns_26 : decode cX7_turns 26 = .ok (.if_icmp .ne 32, 3) := by decide +kernel
theorem dX7_turns_29 : decode cX7_turns 29 = .ok (.aload_n 0, 1) := by decide +kernel
theorem dX7_turns_30 : decode cX7_turns 30 = .ok (.getfield 59, 3) := by decide +kernel
theorem dX7_turns_33 : decode cX7_turns 33 = .ok (.iconst 0, 1) := by decide +kernel
theorem dX7_turns_34 : decode cX7_turns 34 = .ok (.aload_n 1, 1) := by decide +kernel
theorem dX7_turns_35 : decode cX7_turns 35 = .ok (.iconst 4, 1) := by decide +kernel
theorem dX7_turns_36 : decode cX7_turns 36 = .ok (.laload, 1) := by decide +kernel
theorem dX7_turns_37 : decode cX7_turns 37 = .ok (.lastore, 1) := by decide +kernel
theorem dX7_turns_38 : decode cX7_turns 38 = .ok (.aload_n 0, 1) := by decide +kernel
theorem dX7_turns_39 : decode cX7_turns 39 = .ok (.getfield 59, 3) := by decide +kernel
theorem dX7_turns_42 : decode cX7_turns 42 = .ok (.iconst 3, 1) := by decide +kernel
theorem dX7_turns_43 : decode cX7_turns 43 = .ok (.aload_n 1, 1) := by decide +kernel
theorem dX7_turns_44 : decode cX7_turns 44 = .ok (.iconst 3, 1) := by decide +kernel
theorem dX7_turns_45 : decode cX7_turns 45 = .ok (.laload, 1) := by decide +kernel
theorem dX7_turns_46 : decode cX7_turns 46 = .ok (.lneg, 1) := by decide +kernel
theorem dX7_turns_47 : decode cX7_turns 47 = .ok (.lastore, 1) := by decide +kernel
theorem dX7_turns_48 : decode cX7_turns 48 = .ok (.aload_n 0, 1) := by decide +kernel
theorem dX7_turns_49 : decode cX7_turns 49 = .ok (.getfield 59, 3) := by decide +kernel
theorem dX7_turns_52 : decode cX7_turns 52 = .ok (.iconst 4, 1) := by decide +kernel
theorem dX7_turns_53 : decode cX7_turns 53 = .ok (.aload_n 1, 1) := by decide +kernel
theorem dX7_turns_54 : decode cX7_turns 54 = .ok (.iconst 0, 1) := by decide +kernel
theorem dX7_turns_55 : decode cX7_turns 55 = .ok (.laload, 1) := by decide +kernel
theorem dX7_turns_56 : decode cX7_turns 56 = .ok (.lastore, 1) := by decide +kernel
theorem dX7_turns_57 : decode cX7_turns 57 = .ok (.return_, 1) := by decide +kernel
theorem dX7_turns_58 : decode cX7_turns 58 = .ok (.aload_n 0, 1) := by decide +kernel
theorem dX7_turns_59 : decode cX7_turns 59 = .ok (.getfield 59, 3) := by decide +kernel
theorem dX7_turns_62 : decode cX7_turns 62 = .ok (.iconst 0, 1) := by decide +kernel
theorem dX7_turns_63 : decode cX7_turns 63 = .ok (.aload_n 1, 1) := by decide +kernel
theorem dX7_turns_64 : decode cX7_turns 64 = .ok (.iconst 4, 1) := by decide +kernel
theorem dX7_turns_65 : decode cX7_turns 65 = .ok (.laload, 1) := by decide +kernel
theorem dX7_turns_66 : decode cX7_turns 66 = .ok (.aload_n 1, 1) := by decide +kernel
theorem dX7_turns_67 : decode cX7_turns 67 = .ok (.bipush 8, 2) := by decide +kernel
theorem dX7_turns_69 : decode cX7_turns 69 = .ok (.laload, 1) := by decide +kernel
theorem dX7_turns_70 : decode cX7_turns 70 = .ok (.lmul, 1) := by decide +kernel
theorem dX7_turns_71 : decode cX7_turns 71 = .ok (.lastore, 1) := by decide +kernel
theorem dX7_turns_72 : decode cX7_turns 72 = .ok (.aload_n 0, 1) := by decide +kernel
theorem dX7_turns_73 : decode cX7_turns 73 = .ok (.getfield 59, 3) := by decide +kernel
theorem dX7_turns_76 : decode cX7_turns 76 = .ok (.iconst 3, 1) := by decide +kernel
theorem dX7_turns_77 : decode cX7_turns 77 = .ok (.aload_n 1, 1) := by decide +kernel
theorem dX7_turns_78 : decode cX7_turns 78 = .ok (.iconst 3, 1) := by decide +kernel
theorem dX7_turns_79 : decode cX7_turns 79 = .ok (.laload, 1) := by decide +kernel
theorem dX7_turns_80 : decode cX7_turns 80 = .ok (.lneg, 1) := by decide +kernel
theorem dX7_turns_81 : decode cX7_turns 81 = .ok (.aload_n 1, 1) := by decide +kernel
theorem dX7_turns_82 : decode cX7_turns 82 = .ok (.bipush 8, 2) := by decide +kernel
theorem dX7_turns_84 : decode cX7_turns 84 = .ok (.laload, 1) := by decide +kernel
theorem dX7_turns_85 : decode cX7_turns 85 = .ok (.lmul, 1) := by decide +kernel
theorem dX7_turns_86 : decode cX7_turns 86 = .ok (.lastore, 1) := by decide +kernel
theorem dX7_turns_87 : decode cX7_turns 87 = .ok (.aload_n 0, 1) := by decide +kernel
theorem dX7_turns_88 : decode cX7_turns 88 = .ok (.getfield 59, 3) := by decide +kernel
theorem dX7_turns_91 : decode cX7_turns 91 = .ok (.iconst 4, 1) := by decide +kernel
theorem dX7_turns_92 : decode cX7_turns 92 = .ok (.aload_n 1, 1) := by decide +kernel
theorem dX7_turns_93 : decode cX7_turns 93 = .ok (.iconst 0, 1) := by decide +kernel
theorem dX7_turns_94 : decode cX7_turns 94 = .ok (.laload, 1) := by decide +kernel
theorem dX7_turns_95 : decode cX7_turns 95 = .ok (.aload_n 1, 1) := by decide +kernel
theorem dX7_turns_96 : decode cX7_turns 96 = .ok (.bipush 8, 2) := by decide +kernel
theorem dX7_turns_98 : decode cX7_turns 98 = .ok (.laload, 1) := by decide +kernel
theorem dX7_turns_99 : decode cX7_turns 99 = .ok (.lmul, 1) := by decide +kernel
theorem dX7_turns_100 : decode cX7_turns 100 = .ok (.lastore, 1) := by decide +kernel
theorem dX7_turns_101 : decode cX7_turns 101 = .ok (.aload_n 0, 1) := by decide +kernel
theorem dX7_turns_102 : decode cX7_turns 102 = .ok (.getfield 59, 3) := by decide +kernel
theorem dX7_turns_105 : decode cX7_turns 105 = .ok (.bipush 6, 2) := by decide +kernel
theorem dX7_turns_107 : decode cX7_turns 107 = .ok (.aload_n 1, 1) := by decide +kernel
theorem dX7_turns_108 : decode cX7_turns 108 = .ok (.iconst 3, 1) := by decide +kernel
theorem dX7_turns_109 : decode cX7_turns 109 = .ok (.laload, 1) := by decide +kernel
theorem dX7_turns_110 : decode cX7_turns 110 = .ok (.aload_n 1, 1) := by decide +kernel
theorem dX7_turns_111 : decode cX7_turns 111 = .ok (.bipush 7, 2) := by decide +kernel
theorem dX7_turns_113 : decode cX7_turns 113 = .ok (.laload, 1) := by decide +kernel
theorem dX7_turns_114 : decode cX7_turns 114 = .ok (.lmul, 1) := by decide +kernel
theorem dX7_turns_115 : decode cX7_turns 115 = .ok (.aload_n 1, 1) := by decide +kernel
theorem dX7_turns_116 : decode cX7_turns 116 = .ok (.iconst 4, 1) := by decide +kernel
theorem dX7_turns_117 : decode cX7_turns 117 = .ok (.laload, 1) := by decide +kernel
theorem dX7_turns_118 : decode cX7_turns 118 = .ok (.aload_n 1, 1) := by decide +kernel
theorem dX7_turns_119 : decode cX7_turns 119 = .ok (.bipush 6, 2) := by decide +kernel
theorem dX7_turns_121 : decode cX7_turns 121 = .ok (.laload, 1) := by decide +kernel
theorem dX7_turns_122 : decode cX7_turns 122 = .ok (.lmul, 1) := by decide +kernel
theorem dX7_turns_123 : decode cX7_turns 123 = .ok (.lsub, 1) := by decide +kernel
theorem dX7_turns_124 : decode cX7_turns 124 = .ok (.lastore, 1) := by decide +kernel
theorem dX7_turns_125 : decode cX7_turns 125 = .ok (.aload_n 0, 1) := by decide +kernel
theorem dX7_turns_126 : decode cX7_turns 126 = .ok (.getfield 59, 3) := by decide +kernel
theorem dX7_turns_129 : decode cX7_turns 129 = .ok (.bipush 7, 2) := by decide +kernel
theorem dX7_turns_131 : decode cX7_turns 131 = .ok (.aload_n 1, 1) := by decide +kernel
theorem dX7_turns_132 : decode cX7_turns 132 = .ok (.iconst 0, 1) := by decide +kernel
theorem dX7_turns_133 : decode cX7_turns 133 = .ok (.laload, 1) := by decide +kernel
theorem dX7_turns_134 : decode cX7_turns 134 = .ok (.lneg, 1) := by decide +kernel
theorem dX7_turns_135 : decode cX7_turns 135 = .ok (.aload_n 1, 1) := by decide +kernel
theorem dX7_turns_136 : decode cX7_turns 136 = .ok (.bipush 7, 2) := by decide +kernel
theorem dX7_turns_138 : decode cX7_turns 138 = .ok (.laload, 1) := by decide +kernel
theorem dX7_turns_139 : decode cX7_turns 139 = .ok (.lmul, 1) := by decide +kernel
theorem dX7_turns_140 : decode cX7_turns 140 = .ok (.lastore, 1) := by decide +kernel
theorem dX7_turns_141 : decode cX7_turns 141 = .ok (.aload_n 0, 1) := by decide +kernel
theorem dX7_turns_142 : decode cX7_turns 142 = .ok (.getfield 59, 3) := by decide +kernel
theorem dX7_turns_145 : decode cX7_turns 145 = .ok (.bipush 8, 2) := by decide +kernel
theorem dX7_turns_147 : decode cX7_turns 147 = .ok (.aload_n 1, 1) := by decide +kernel
theorem dX7_turns_148 : decode cX7_turns 148 = .ok (.iconst 0, 1) := by decide +kernel
theorem dX7_turns_149 : decode cX7_turns 149 = .ok (.laload, 1) := by decide +kernel
theorem dX7_turns_150 : decode cX7_turns 150 = .ok (.aload_n 1, 1) := by decide +kernel
theorem dX7_turns_151 : decode cX7_turns 151 = .ok (.iconst 4, 1) := by decide +kernel
theorem dX7_turns_152 : decode cX7_turns 152 = .ok (.laload, 1) := by decide +kernel
theorem dX7_turns_153 : decode cX7_turns 153 = .ok (.lmul, 1) := by decide +kernel
theorem dX7_turns_154 : decode cX7_turns 154 = .ok (.lastore, 1) := by decide +kernel
theorem dX7_turns_155 : decode cX7_turns 155 = .ok (.return_, 1) := by decide +kernel
theorem bX7_turns_0 {l : Launch} {D : va_G} {aI aL : ClassId} {ad : Nat → Nat} {P : sa_P} {I : sa_I} {J : sa_J} {a1 q1 n1 : Nat} {v1 : Int32} (hq1 : sa_iJ (ER l D aI aL ad) a1 q1 n1) (hn1 : n1 < 2 ^ 31) (f1 : (0 : Int32) = v1) (k : Sat (ER l D aI aL ad) M_X7_turns P 2 [(0, .ref (ad 0)), (1, .ref a1), (2, .int v1)] [] I J) : Sat (ER l D aI aL ad) M_X7_turns P 0 [(0, .ref (ad 0)), (1, .ref a1)] [] I J := by
  refine s_iconst (v := 0) dX7_turns_0 rfl ?_
  refine s_eqi f1 ?_
  refine s_istore_n [(2, .int v1), (0, .ref (ad 0)), (1, .ref a1)] dX7_turns_1 (Nat.lt_of_lt_of_le (Nat.lt_succ_self _) (Nat.le_of_ble_eq_true rfl)) rfl ?_
  refine s_pick [1, 2, 0] [(0, .ref (ad 0)), (1, .ref a1), (2, .int v1)] rfl ?_; exact k
theorem bX7_turns_2 {l : Launch} {D : va_G} {aI aL : ClassId} {ad : Nat → Nat} {P : sa_P} {I : sa_I} {J : sa_J} {a1 q1 n1 : Nat} {x2 : Int32} (hq1 : sa_iJ (ER l D aI aL ad) a1 q1 n1) (hn1 : n1 < 2 ^ 31)  (kt : (9 : Int32) ≤ x2 → Sat (ER l D aI aL ad) M_X7_turns P 21 [(0, .ref (ad 0)), (1, .ref a1)] [] I J) (kf : ¬ (9 : Int32) ≤ x2 → Sat (ER l D aI aL ad) M_X7_turns P 8 [(0, .ref (ad 0)), (1, .ref a1), (2, .int x2)] [] I J) : Sat (ER l D aI aL ad) M_X7_turns P 2 [(0, .ref (ad 0)), (1, .ref a1), (2, .int x2)] [] I J := by
  refine s_iload_n 2 dX7_turns_2 rfl ?_
  refine s_bipush (v := 9) dX7_turns_3 rfl ?_
  refine s_icmp_ge (tgt := 21) dX7_turns_5 (by decide) (fun c => ?_) (fun c => ?_)
  · refine s_pick [0, 1] [(0, .ref (ad 0)), (1, .ref a1)] rfl ?_; exact kt c
  · exact kf c
theorem bX7_turns_8 {l : Launch} {D : va_G} {aI aL : ClassId} {ad : Nat → Nat} {P : sa_P} {I : sa_I} {J : sa_J} {a1 q1 n1 : Nat} {x2 : Int32} {j12 : Nat} {v14 : Int64} {v15 : Int32} (hq1 : sa_iJ (ER l D aI aL ad) a1 q1 n1) (hn1 : n1 < 2 ^ 31) (e12 : x2 = nI j12) (h14 : j12 < 9) (f14 : (0 : Int64) = v14) (f15 : x2 + 1 = v15) (k : Sat (ER l D aI aL ad) M_X7_turns P 2 [(0, .ref (ad 0)), (1, .ref a1), (2, .int v15)] [] I (sa_uJ J 17 j12 v14)) : Sat (ER l D aI aL ad) M_X7_turns P 8 [(0, .ref (ad 0)), (1, .ref a1), (2, .int x2)] [] I J := by
  refine s_aload_n 0 dX7_turns_8 rfl ?_
  refine g_X7_59 dX7_turns_9 rfl ?_
  refine s_iload_n 2 dX7_turns_12 rfl ?_
  refine s_eqi e12 ?_
  refine s_lconst (v := 0) dX7_turns_13 rfl ?_
  refine s_eql f14 ?_
  refine s_lastoreN aJ_R17 h14 (by decide) dX7_turns_14 ?_
  refine s_iinc 2 v15 [(2, .int v15), (0, .ref (ad 0)), (1, .ref a1)] dX7_turns_15 rfl f15 (Nat.lt_of_lt_of_le (Nat.lt_succ_self _) (Nat.le_of_ble_eq_true rfl)) rfl ?_
  refine s_goto (tgt := 2) dX7_turns_18 (by decide) ?_
  refine s_pick [1, 2, 0] [(0, .ref (ad 0)), (1, .ref a1), (2, .int v15)] rfl ?_; exact k
theorem bX7_turns_21 {l : Launch} {D : va_G} {aI aL : ClassId} {ad : Nat → Nat} {P : sa_P} {I : sa_I} {J : sa_J} {a1 q1 n1 : Nat} (hq1 : sa_iJ (ER l D aI aL ad) a1 q1 n1) (hn1 : n1 < 2 ^ 31)  (kt : ¬ I 0 1 = (2 : Int32) → Sat (ER l D aI aL ad) M_X7_turns P 58 [(0, .ref (ad 0)), (1, .ref a1)] [] I J) (kf : I 0 1 = (2 : Int32) → Sat (ER l D aI aL ad) M_X7_turns P 29 [(0, .ref (ad 0)), (1, .ref a1)] [] I J) : Sat (ER l D aI aL ad) M_X7_turns P 21 [(0, .ref (ad 0)), (1, .ref a1)] [] I J := by
  refine s_aload_n 0 dX7_turns_21 rfl ?_
  refine g_X7_101 dX7_turns_22 rfl ?_
  refine s_iconst (v := 2) dX7_turns_25 rfl ?_
  refine s_icmp_ne (tgt := 58) dX7_turns_26 (by decide) (fun c => ?_) (fun c => ?_)
  · exact kt c
  · exact kf (by first | exact c | exact Classical.not_not.mp c)
theorem bX7_turns_29 {l : Launch} {D : va_G} {aI aL : ClassId} {ad : Nat → Nat} {P : sa_P} {I : sa_I} {J : sa_J} {a1 q1 n1 : Nat} {v37 : Int64} {v47 : Int64} {v56 : Int64} (hq1 : sa_iJ (ER l D aI aL ad) a1 q1 n1) (hn1 : n1 < 2 ^ 31) (h36 : 4 < n1) (h45 : 3 < n1) (h55 : 0 < n1) (f37 : J q1 4 = v37) (f47 : -((sa_uJ J 17 0 v37) q1 3) = v47) (f56 : (sa_uJ (sa_uJ J 17 0 v37) 17 3 v47) q1 0 = v56) (k : P (none) I (sa_uJ (sa_uJ (sa_uJ J 17 0 v37) 17 3 v47) 17 4 v56)) : Sat (ER l D aI aL ad) M_X7_turns P 29 [(0, .ref (ad 0)), (1, .ref a1)] [] I J := by
  refine s_aload_n 0 dX7_turns_29 rfl ?_
  refine g_X7_59 dX7_turns_30 rfl ?_
  refine s_iconst (v := 0) dX7_turns_33 rfl ?_
  refine s_eqi (y := nI 0) rfl ?_
  refine s_aload_n 1 dX7_turns_34 rfl ?_
  refine s_iconst (v := 4) dX7_turns_35 rfl ?_
  refine s_eqi (y := nI 4) rfl ?_
  refine s_laloadN hq1 h36 hn1 dX7_turns_36 ?_
  refine s_eql f37 ?_
  refine s_lastoreN aJ_R17 (by decide) (by decide) dX7_turns_37 ?_
  refine s_aload_n 0 dX7_turns_38 rfl ?_
  refine g_X7_59 dX7_turns_39 rfl ?_
  refine s_iconst (v := 3) dX7_turns_42 rfl ?_
  refine s_eqi (y := nI 3) rfl ?_
  refine s_aload_n 1 dX7_turns_43 rfl ?_
  refine s_iconst (v := 3) dX7_turns_44 rfl ?_
  refine s_eqi (y := nI 3) rfl ?_
  refine s_laloadN hq1 h45 hn1 dX7_turns_45 ?_
  refine s_lneg dX7_turns_46 ?_
  refine s_eql f47 ?_
  refine s_lastoreN aJ_R17 (by decide) (by decide) dX7_turns_47 ?_
  refine s_aload_n 0 dX7_turns_48 rfl ?_
  refine g_X7_59 dX7_turns_49 rfl ?_
  refine s_iconst (v := 4) dX7_turns_52 rfl ?_
  refine s_eqi (y := nI 4) rfl ?_
  refine s_aload_n 1 dX7_turns_53 rfl ?_
  refine s_iconst (v := 0) dX7_turns_54 rfl ?_
  refine s_eqi (y := nI 0) rfl ?_
  refine s_laloadN hq1 h55 hn1 dX7_turns_55 ?_
  refine s_eql f56 ?_
  refine s_lastoreN aJ_R17 (by decide) (by decide) dX7_turns_56 ?_
  exact s_vret rfl dX7_turns_57 k
theorem bX7_turns_58 {l : Launch} {D : va_G} {aI aL : ClassId} {ad : Nat → Nat} {P : sa_P} {I : sa_I} {J : sa_J} {a1 q1 n1 : Nat} {v71 : Int64} {v86 : Int64} {v100 : Int64} {v124 : Int64} {v140 : Int64} {v154 : Int64} (hq1 : sa_iJ (ER l D aI aL ad) a1 q1 n1) (hn1 : n1 < 2 ^ 31) (h65 : 4 < n1) (h69 : 8 < n1) (h79 : 3 < n1) (h84 : 8 < n1) (h94 : 0 < n1) (h98 : 8 < n1) (h109 : 3 < n1) (h113 : 7 < n1) (h117 : 4 < n1) (h121 : 6 < n1) (h133 : 0 < n1) (h138 : 7 < n1) (h149 : 0 < n1) (h152 : 4 < n1) (f71 : (J q1 4) * (J q1 8) = v71) (f86 : (-((sa_uJ J 17 0 v71) q1 3)) * ((sa_uJ J 17 0 v71) q1 8) = v86) (f100 : ((sa_uJ (sa_uJ J 17 0 v71) 17 3 v86) q1 0) * ((sa_uJ (sa_uJ J 17 0 v71) 17 3 v86) q1 8) = v100) (f124 : (((sa_uJ (sa_uJ (sa_uJ J 17 0 v71) 17 3 v86) 17 4 v100) q1 3) * ((sa_uJ (sa_uJ (sa_uJ J 17 0 v71) 17 3 v86) 17 4 v100) q1 7)) - (((sa_uJ (sa_uJ (sa_uJ J 17 0 v71) 17 3 v86) 17 4 v100) q1 4) * ((sa_uJ (sa_uJ (sa_uJ J 17 0 v71) 17 3 v86) 17 4 v100) q1 6)) = v124) (f140 : (-((sa_uJ (sa_uJ (sa_uJ (sa_uJ J 17 0 v71) 17 3 v86) 17 4 v100) 17 6 v124) q1 0)) * ((sa_uJ (sa_uJ (sa_uJ (sa_uJ J 17 0 v71) 17 3 v86) 17 4 v100) 17 6 v124) q1 7) = v140) (f154 : ((sa_uJ (sa_uJ (sa_uJ (sa_uJ (sa_uJ J 17 0 v71) 17 3 v86) 17 4 v100) 17 6 v124) 17 7 v140) q1 0) * ((sa_uJ (sa_uJ (sa_uJ (sa_uJ (sa_uJ J 17 0 v71) 17 3 v86) 17 4 v100) 17 6 v124) 17 7 v140) q1 4) = v154) (k : P (none) I (sa_uJ (sa_uJ (sa_uJ (sa_uJ (sa_uJ (sa_uJ J 17 0 v71) 17 3 v86) 17 4 v100) 17 6 v124) 17 7 v140) 17 8 v154)) : Sat (ER l D aI aL ad) M_X7_turns P 58 [(0, .ref (ad 0)), (1, .ref a1)] [] I J := by
  refine s_aload_n 0 dX7_turns_58 rfl ?_
  refine g_X7_59 dX7_turns_59 rfl ?_
  refine s_iconst (v := 0) dX7_turns_62 rfl ?_
  refine s_eqi (y := nI 0) rfl ?_
  refine s_aload_n 1 dX7_turns_63 rfl ?_
  refine s_iconst (v := 4) dX7_turns_64 rfl ?_
  refine s_eqi (y := nI 4) rfl ?_
  refine s_laloadN hq1 h65 hn1 dX7_turns_65 ?_
  refine s_aload_n 1 dX7_turns_66 rfl ?_
  refine s_bipush (v := 8) dX7_turns_67 rfl ?_
  refine s_eqi (y := nI 8) rfl ?_
  refine s_laloadN hq1 h69 hn1 dX7_turns_69 ?_
  refine s_lmul dX7_turns_70 ?_
  refine s_eql f71 ?_
  refine s_lastoreN aJ_R17 (by decide) (by decide) dX7_turns_71 ?_
  refine s_aload_n 0 dX7_turns_72 rfl ?_
  refine g_X7_59 dX7_turns_73 rfl ?_
  refine s_iconst (v := 3) dX7_turns_76 rfl ?_
  refine s_eqi (y := nI 3) rfl ?_
  refine s_aload_n 1 dX7_turns_77 rfl ?_
  refine s_iconst (v := 3) dX7_turns_78 rfl ?_
  refine s_eqi (y := nI 3) rfl ?_
  refine s_laloadN hq1 h79 hn1 dX7_turns_79 ?_
  refine s_lneg dX7_turns_80 ?_
  refine s_aload_n 1 dX7_turns_81 rfl ?_
  refine s_bipush (v := 8) dX7_turns_82 rfl ?_
  refine s_eqi (y := nI 8) rfl ?_
  refine s_laloadN hq1 h84 hn1 dX7_turns_84 ?_
  refine s_lmul dX7_turns_85 ?_
  refine s_eql f86 ?_
  refine s_lastoreN aJ_R17 (by decide) (by decide) dX7_turns_86 ?_
  refine s_aload_n 0 dX7_turns_87 rfl ?_
  refine g_X7_59 dX7_turns_88 rfl ?_
  refine s_iconst (v := 4) dX7_turns_91 rfl ?_
  refine s_eqi (y := nI 4) rfl ?_
  refine s_aload_n 1 dX7_turns_92 rfl ?_
  refine s_iconst (v := 0) dX7_turns_93 rfl ?_
  refine s_eqi (y := nI 0) rfl ?_
  refine s_laloadN hq1 h94 hn1 dX7_turns_94 ?_
  refine s_aload_n 1 dX7_turns_95 rfl ?_
  refine s_bipush (v := 8) dX7_turns_96 rfl ?_
  refine s_eqi (y := nI 8) rfl ?_
  refine s_laloadN hq1 h98 hn1 dX7_turns_98 ?_
  refine s_lmul dX7_turns_99 ?_
  refine s_eql f100 ?_
  refine s_lastoreN aJ_R17 (by decide) (by decide) dX7_turns_100 ?_
  refine s_aload_n 0 dX7_turns_101 rfl ?_
  refine g_X7_59 dX7_turns_102 rfl ?_
  refine s_bipush (v := 6) dX7_turns_105 rfl ?_
  refine s_eqi (y := nI 6) rfl ?_
  refine s_aload_n 1 dX7_turns_107 rfl ?_
  refine s_iconst (v := 3) dX7_turns_108 rfl ?_
  refine s_eqi (y := nI 3) rfl ?_
  refine s_laloadN hq1 h109 hn1 dX7_turns_109 ?_
  refine s_aload_n 1 dX7_turns_110 rfl ?_
  refine s_bipush (v := 7) dX7_turns_111 rfl ?_
  refine s_eqi (y := nI 7) rfl ?_
  refine s_laloadN hq1 h113 hn1 dX7_turns_113 ?_
  refine s_lmul dX7_turns_114 ?_
  refine s_aload_n 1 dX7_turns_115 rfl ?_
  refine s_iconst (v := 4) dX7_turns_116 rfl ?_
  refine s_eqi (y := nI 4) rfl ?_
  refine s_laloadN hq1 h117 hn1 dX7_turns_117 ?_
  refine s_aload_n 1 dX7_turns_118 rfl ?_
  refine s_bipush (v := 6) dX7_turns_119 rfl ?_
  refine s_eqi (y := nI 6) rfl ?_
  refine s_laloadN hq1 h121 hn1 dX7_turns_121 ?_
  refine s_lmul dX7_turns_122 ?_
  refine s_lsub dX7_turns_123 ?_
  refine s_eql f124 ?_
  refine s_lastoreN aJ_R17 (by decide) (by decide) dX7_turns_124 ?_
  refine s_aload_n 0 dX7_turns_125 rfl ?_
  refine g_X7_59 dX7_turns_126 rfl ?_
  refine s_bipush (v := 7) dX7_turns_129 rfl ?_
  refine s_eqi (y := nI 7) rfl ?_
  refine s_aload_n 1 dX7_turns_131 rfl ?_
  refine s_iconst (v := 0) dX7_turns_132 rfl ?_
  refine s_eqi (y := nI 0) rfl ?_
  refine s_laloadN hq1 h133 hn1 dX7_turns_133 ?_
  refine s_lneg dX7_turns_134 ?_
  refine s_aload_n 1 dX7_turns_135 rfl ?_
  refine s_bipush (v := 7) dX7_turns_136 rfl ?_
  refine s_eqi (y := nI 7) rfl ?_
  refine s_laloadN hq1 h138 hn1 dX7_turns_138 ?_
  refine s_lmul dX7_turns_139 ?_
  refine s_eql f140 ?_
  refine s_lastoreN aJ_R17 (by decide) (by decide) dX7_turns_140 ?_
  refine s_aload_n 0 dX7_turns_141 rfl ?_
  refine g_X7_59 dX7_turns_142 rfl ?_
  refine s_bipush (v := 8) dX7_turns_145 rfl ?_
  refine s_eqi (y := nI 8) rfl ?_
  refine s_aload_n 1 dX7_turns_147 rfl ?_
  refine s_iconst (v := 0) dX7_turns_148 rfl ?_
  refine s_eqi (y := nI 0) rfl ?_
  refine s_laloadN hq1 h149 hn1 dX7_turns_149 ?_
  refine s_aload_n 1 dX7_turns_150 rfl ?_
  refine s_iconst (v := 4) dX7_turns_151 rfl ?_
  refine s_eqi (y := nI 4) rfl ?_
  refine s_laloadN hq1 h152 hn1 dX7_turns_152 ?_
  refine s_lmul dX7_turns_153 ?_
  refine s_eql f154 ?_
  refine s_lastoreN aJ_R17 (by decide) (by decide) dX7_turns_154 ?_
  exact s_vret rfl dX7_turns_155 k
/-! X7_quotient -/
theorem dX7_quotient_0 : decode cX7_quotient 0 = .ok (.aload_n 0, 1) := by decide +kernel
theorem dX7_quotient_1 : decode cX7_quotient 1 = .ok (.getfield 53, 3) := by decide +kernel
theorem dX7_quotient_4 : decode cX7_quotient 4 = .ok (.aload_n 0, 1) := by decide +kernel
theorem dX7_quotient_5 : decode cX7_quotient 5 = .ok (.getfield 101, 3) := by decide +kernel
theorem dX7_quotient_8 : decode cX7_quotient 8 = .ok (.invokestatic 267, 3) := by decide +kernel
theorem dX7_quotient_11 : decode cX7_quotient 11 = .ok (.lstore_n 1, 1) := by decide +kernel
theorem dX7_quotient_12 : decode cX7_quotient 12 = .ok (.aload_n 0, 1) := by decide +kernel
theorem dX7_quotient_13 : decode cX7_quotient 13 = .ok (.aload_n 0, 1) := by decide +kernel
theorem dX7_quotient_14 : decode cX7_quotient 14 = .ok (.getfield 53, 3) := by decide +kernel
theorem dX7_quotient_17 : decode cX7_quotient 17 = .ok (.invokevirtual 275, 3) := by decide +kernel
theorem dX7_quotient_20 : decode cX7_quotient 20 = .ok (.aload_n 0, 1) := by decide +kernel
theorem dX7_quotient_21 : decode cX7_quotient 21 = .ok (.iconst 0, 1) := by decide +kernel
theorem dX7_quotient_22 : decode cX7_quotient 22 = .ok (.putfield 244, 3) := by decide +kernel
theorem dX7_quotient_25 : decode cX7_quotient 25 = .ok (.iconst 0, 1) := by decide +kernel
theorem dX7_quotient_26 : decode cX7_quotient 26 = .ok (.istore_n 3, 1) := by decide +kernel
theorem dX7_quotient_27 : decode cX7_quotient 27 = .ok (.iload_n 3, 1) := by decide +kernel
theorem dX7_quotient_28 : decode cX7_quotient 28 = .ok (.aload_n 0, 1) := by decide +kernel
theorem dX7_quotient_29 : decode cX7_quotient 29 = .ok (.getfield 101, 3) := by decide +kernel
theorem dX7_quotient_32 : decode cX7_quotient 32 = .ok (.if_icmp .ge 107, 3) := by decide +kernel
theorem dX7_quotient_35 : decode cX7_quotient 35 = .ok (.iconst 0, 1) := by decide +kernel
theorem dX7_quotient_36 : decode cX7_quotient 36 = .ok (.istore 4, 2) := by decide +kernel
theorem dX7_quotient_38 : decode cX7_quotient 38 = .ok (.iload 4, 2) := by decide +kernel
theorem dX7_quotient_40 : decode cX7_quotient 40 = .ok (.aload_n 0, 1) := by decide +kernel
theorem dX7_quotient_41 : decode cX7_quotient 41 = .ok (.getfield 101, 3) := by decide +kernel
theorem dX7_quotient_44 : decode cX7_quotient 44 = .ok (.if_icmp .ge 89, 3) := by decide +kernel
theorem dX7_quotient_47 : decode cX7_quotient 47 = .ok (.iconst 0, 1) := by decide +kernel
theorem dX7_quotient_48 : decode cX7_quotient 48 = .ok (.istore 5, 2) := by decide +kernel
theorem dX7_quotient_50 : decode cX7_quotient 50 = .ok (.iload 5, 2) := by decide +kernel
theorem dX7_quotient_52 : decode cX7_quotient 52 = .ok (.iconst 3, 1) := by decide +kernel
theorem dX7_quotient_53 : decode cX7_quotient 53 = .ok (.if_icmp .ge 17, 3) := by decide +kernel
theorem dX7_quotient_56 : decode cX7_quotient 56 = .ok (.aload_n 0, 1) := by decide +kernel
theorem dX7_quotient_57 : decode cX7_quotient 57 = .ok (.getfield 44, 3) := by decide +kernel
theorem dX7_quotient_60 : decode cX7_quotient 60 = .ok (.iload 5, 2) := by decide +kernel
theorem dX7_quotient_62 : decode cX7_quotient 62 = .ok (.lconst 0, 1) := by decide +kernel
theorem dX7_quotient_63 : decode cX7_quotient 63 = .ok (.lastore, 1) := by decide +kernel
theorem dX7_quotient_64 : decode cX7_quotient 64 = .ok (.iinc 5 1, 3) := by decide +kernel
theorem dX7_quotient_67 : decode cX7_quotient 67 = .ok (.goto (-17), 3) := by decide +kernel
theorem dX7_quotient_70 : decode cX7_quotient 70 = .ok (.iconst 0, 1) := by decide +kernel
theorem dX7_quotient_71 : decode cX7_quotient 71 = .ok (.istore 5, 2) := by decide +kernel
theorem dX7_quotient_73 : decode cX7_quotient 73 = .ok (.iload 5, 2) := by decide +kernel
theorem dX7_quotient_75 : decode cX7_quotient 75 = .ok (.aload_n 0, 1) := by decide +kernel
theorem dX7_quotient_76 : decode cX7_quotient 76 = .ok (.getfield 101, 3) := by decide +kernel
theorem dX7_quotient_79 : decode cX7_quotient 79 = .ok (.if_icmp .ge 26, 3) := by decide +kernel
theorem dX7_quotient_82 : decode cX7_quotient 82 = .ok (.aload_n 0, 1) := by decide +kernel
theorem dX7_quotient_83 : decode cX7_quotient 83 = .ok (.getfield 44, 3) := by decide +kernel
theorem dX7_quotient_86 : decode cX7_quotient 86 = .ok (.iload 5, 2) := by decide +kernel
theorem dX7_quotient_88 : decode cX7_quotient 88 = .ok (.aload_n 0, 1) := by decide +kernel
theorem dX7_quotient_89 : decode cX7_quotient 89 = .ok (.iload_n 3, 1) := by decide +kernel
theorem dX7_quotient_90 : decode cX7_quotient 90 = .ok (.iload 5, 2) := by decide +kernel
theorem dX7_quotient_92 : decode cX7_quotient 92 = .ok (.iload 4, 2) := by decide +kernel
theorem dX7_quotient_94 : decode cX7_quotient 94 = .ok (.lload_n 1, 1) := by decide +kernel
theorem dX7_quotient_95 : decode cX7_quotient 95 = .ok (.invokevirtual 278, 3) := by decide +kernel
theorem dX7_quotient_98 : decode cX7_quotient 98 = .ok (.lastore, 1) := by decide +kernel
theorem dX7_quotient_99 : decode cX7_quotient 99 = .ok (.iinc 5 1, 3) := by decide +kernel
theorem dX7_quotient_102 : decode cX7_quotient 102 = .ok (.goto (-29), 3) := by decide +kernel
theorem dX7_quotient_105 : decode cX7_quotient 105 = .ok (.aload_n 0, 1) := by decide +kernel
theorem dX7_quotient_106 : decode cX7_quotient 106 = .ok (.aload_n 0, 1) := by decide +kernel
theorem dX7_quotient_107 : decode cX7_quotient 107 = .ok (.getfield 44, 3) := by decide +kernel
theorem dX7_quotient_110 : decode cX7_quotient 110 = .ok (.iconst 0, 1) := by decide +kernel
theorem dX7_quotient_111 : decode cX7_quotient 111 = .ok (.laload, 1) := by decide +kernel
theorem dX7_quotient_112 : decode cX7_quotient 112 = .ok (.aload_n 0, 1) := by decide +kernel
theorem dX7_quotient_113 : decode cX7_quotient 113 = .ok (.getfield 44, 3) := by decide +kernel
theorem dX7_quotient_116 : decode cX7_quotient 116 = .ok (.iconst 1, 1) := by decide +kernel
theorem dX7_quotient_117 : decode cX7_quotient 117 = .ok (.laload, 1) := by decide +kernel
theorem dX7_quotient_118 : decode cX7_quotient 118 = .ok (.aload_n 0, 1) := by decide +kernel
theorem dX7_quotient_119 : decode cX7_quotient 119 = .ok (.getfield 44, 3) := by decide +kernel
theorem dX7_quotient_122 : decode cX7_quotient 122 = .ok (.iconst 2, 1) := by decide +kernel
theorem dX7_quotient_123 : decode cX7_quotient 123 = .ok (.laload, 1) := by decide +kernel
theorem dX7_quotient_124 : decode cX7_quotient 124 = .ok (.invokevirtual 255, 3) := by decide +kernel
theorem dX7_quotient_127 : decode cX7_quotient 127 = .ok (.iinc 4 1, 3) := by decide +kernel
theorem dX7_quotient_130 : decode cX7_quotient 130 = .ok (.goto (-92), 3) := by decide +kernel
theorem dX7_quotient_133 : decode cX7_quotient 133 = .ok (.iinc 3 1, 3) := by decide +kernel
theorem dX7_quotient_136 : decode cX7_quotient 136 = .ok (.goto (-109), 3) := by decide +kernel
theorem dX7_quotient_139 : decode cX7_quotient 139 = .ok (.aload_n 0, 1) := by decide +kernel
theorem dX7_quotient_140 : decode cX7_quotient 140 = .ok (.lload_n 1, 1) := by decide +kernel
theorem dX7_quotient_141 : decode cX7_quotient 141 = .ok (.invokevirtual 259, 3) := by decide +kernel
theorem dX7_quotient_144 : decode cX7_quotient 144 = .ok (.aload_n 0, 1) := by decide +kernel
theorem dX7_quotient_145 : decode cX7_quotient 145 = .ok (.aload_n 0, 1) := by decide +kernel
theorem dX7_quotient_146 : decode cX7_quotient 146 = .ok (.getfield 50, 3) := by decide +kernel
theorem dX7_quotient_149 : decode cX7_quotient 149 = .ok (.invokevirtual 275, 3) := by decide +kernel
theorem dX7_quotient_152 : decode cX7_quotient 152 = .ok (.aload_n 0, 1) := by decide +kernel
theorem dX7_quotient_153 : decode cX7_quotient 153 = .ok (.invokevirtual 251, 3) := by decide +kernel
theorem dX7_quotient_156 : decode cX7_quotient 156 = .ok (.lstore_n 3, 1) := by decide +kernel
theorem dX7_quotient_157 : decode cX7_quotient 157 = .ok (.aload_n 0, 1) := by decide +kernel
theorem dX7_quotient_158 : decode cX7_quotient 158 = .ok (.iconst 0, 1) := by decide +kernel
theorem dX7_quotient_159 : decode cX7_quotient 159 = .ok (.putfield 244, 3) := by decide +kernel
theorem dX7_quotient_162 : decode cX7_quotient 162 = .ok (.iconst 0, 1) := by decide +kernel
theorem dX7_quotient_163 : decode cX7_quotient 163 = .ok (.istore 5, 2) := by decide +kernel
theorem dX7_quotient_165 : decode cX7_quotient 165 = .ok (.iload 5, 2) := by decide +kernel
theorem dX7_quotient_167 : decode cX7_quotient 167 = .ok (.aload_n 0, 1) := by decide +kernel
theorem dX7_quotient_168 : decode cX7_quotient 168 = .ok (.getfield 101, 3) := by decide +kernel
theorem dX7_quotient_171 : decode cX7_quotient 171 = .ok (.if_icmp .ge 63, 3) := by decide +kernel
theorem dX7_quotient_174 : decode cX7_quotient 174 = .ok (.aload_n 0, 1) := by decide +kernel
theorem dX7_quotient_175 : decode cX7_quotient 175 = .ok (.lload_n 1, 1) := by decide +kernel
theorem dX7_quotient_176 : decode cX7_quotient 176 = .ok (.aload_n 0, 1) := by decide +kernel
theorem dX7_quotient_177 : decode cX7_quotient 177 = .ok (.getfield 59, 3) := by decide +kernel
theorem dX7_quotient_180 : decode cX7_quotient 180 = .ok (.iload 5, 2) := by decide +kernel
theorem dX7_quotient_182 : decode cX7_quotient 182 = .ok (.laload, 1) := by decide +kernel
theorem dX7_quotient_183 : decode cX7_quotient 183 = .ok (.lmul, 1) := by decide +kernel
theorem dX7_quotient_184 : decode cX7_quotient 184 = .ok (.lload_n 3, 1) := by decide +kernel
theorem dX7_quotient_185 : decode cX7_quotient 185 = .ok (.ldiv, 1) := by decide +kernel
theorem dX7_quotient_186 : decode cX7_quotient 186 = .ok (.lload_n 1, 1) := by decide +kernel
theorem dX7_quotient_187 : decode cX7_quotient 187 = .ok (.aload_n 0, 1) := by decide +kernel
theorem dX7_quotient_188 : decode cX7_quotient 188 = .ok (.getfield 59, 3) := by decide +kernel
theorem dX7_quotient_191 : decode cX7_quotient 191 = .ok (.iconst 3, 1) := by decide +kernel
theorem dX7_quotient_192 : decode cX7_quotient 192 = .ok (.iload 5, 2) := by decide +kernel
theorem dX7_quotient_194 : decode cX7_quotient 194 = .ok (.iadd, 1) := by decide +kernel
theorem dX7_quotient_195 : decode cX7_quotient 195 = .ok (.laload, 1) := by decide +kernel
theorem dX7_quotient_196 : decode cX7_quotient 196 = .ok (.lmul, 1) := by decide +kernel
theorem dX7_quotient_197 : decode cX7_quotient 197 = .ok (.lload_n 3, 1) := by decide +kernel
theorem dX7_quotient_198 : decode cX7_quotient 198 = .ok (.ldiv, 1) := by decide +kernel
theorem dX7_quotient_199 : decode cX7_quotient 199 = .ok (.aload_n 0, 1) := by decide +kernel
theorem dX7_quotient_200 : decode cX7_quotient 200 = .ok (.getfield 101, 3) := by decide +kernel
theorem dX7_quotient_203 : decode cX7_quotient 203 = .ok (.iconst 3, 1) := by decide +kernel
theorem dX7_quotient_204 : decode cX7_quotient 204 = .ok (.if_icmp .ne 20, 3) := by decide +kernel
theorem dX7_quotient_207 : decode cX7_quotient 207 = .ok (.lload_n 1, 1) := by decide +kernel
theorem dX7_quotient_208 : decode cX7_quotient 208 = .ok (.aload_n 0, 1) := by decide +kernel
theorem dX7_quotient_209 : decode cX7_quotient 209 = .ok (.getfield 59, 3) := by decide +kernel
theorem dX7_quotient_212 : decode cX7_quotient 212 = .ok (.bipush 6, 2) := by decide +kernel
theorem dX7_quotient_214 : decode cX7_quotient 214 = .ok (.iload 5, 2) := by decide +kernel
theorem dX7_quotient_216 : decode cX7_quotient 216 = .ok (.iadd, 1) := by decide +kernel
theorem dX7_quotient_217 : decode cX7_quotient 217 = .ok (.laload, 1) := by decide +kernel
theorem dX7_quotient_218 : decode cX7_quotient 218 = .ok (.lmul, 1) := by decide +kernel
theorem dX7_quotient_219 : decode cX7_quotient 219 = .ok (.lload_n 3, 1) := by decide +kernel
theorem dX7_quotient_220 : decode cX7_quotient 220 = .ok (.ldiv, 1) := by decide +kernel
theorem dX7_quotient_221 : decode cX7_quotient 221 = .ok (.goto 4, 3) := by decide +kernel
theorem dX7_quotient_224 : decode cX7_quotient 224 = .ok (.lconst 0, 1) := by decide +kernel
theorem dX7_quotient_225 : decode cX7_quotient 225 = .ok (.invokevirtual 255, 3) := by decide +kernel
theorem dX7_quotient_228 : decode cX7_quotient 228 = .ok (.iinc 5 1, 3) := by decide +kernel
theorem dX7_quotient_231 : decode cX7_quotient 231 = .ok (.goto (-66), 3) := by decide +kernel
theorem dX7_quotient_234 : decode cX7_quotient 234 = .ok (.aload_n 0, 1) := by decide +kernel
theorem dX7_quotient_235 : decode cX7_quotient 235 = .ok (.lload_n 1, 1) := by decide +kernel
theorem dX7_quotient_236 : decode cX7_quotient 236 = .ok (.invokevirtual 259, 3) := by decide +kernel
theorem dX7_quotient_239 : decode cX7_quotient 239 = .ok (.return_, 1) := by decide +kernel
theorem bX7_quotient_0 {l : Launch} {D : va_G} {aI aL : ClassId} {ad : Nat → Nat} {P : sa_P} {I : sa_I} {J : sa_J}    (k : Sat (ER l D aI aL ad) M_X7_quotient P 8 [(0, .ref (ad 0))] [.int (I 0 1), .ref (ad 15)] I J) : Sat (ER l D aI aL ad) M_X7_quotient P 0 [(0, .ref (ad 0))] [] I J := by
  refine s_aload_n 0 dX7_quotient_0 rfl ?_
  refine g_X7_53 dX7_quotient_1 rfl ?_
  refine s_aload_n 0 dX7_quotient_4 rfl ?_
  refine g_X7_101 dX7_quotient_5 rfl ?_
  exact k
theorem bX7_quotient_11 {l : Launch} {D : va_G} {aI aL : ClassId} {ad : Nat → Nat} {P : sa_P} {I : sa_I} {J : sa_J} {s0 : Int64}   (k : Sat (ER l D aI aL ad) M_X7_quotient P 17 [(0, .ref (ad 0)), (1, .long s0)] [.ref (ad 15), .ref (ad 0)] I J) : Sat (ER l D aI aL ad) M_X7_quotient P 11 [(0, .ref (ad 0))] [.long s0] I J := by
  refine s_lstore_n [(1, .long s0), (0, .ref (ad 0))] dX7_quotient_11 (Nat.lt_of_lt_of_le (Nat.lt_succ_self _) (Nat.le_of_ble_eq_true rfl)) rfl ?_
  refine s_aload_n 1 dX7_quotient_12 rfl ?_
  refine s_aload_n 1 dX7_quotient_13 rfl ?_
  refine g_X7_53 dX7_quotient_14 rfl ?_
  refine s_pick [1, 0] [(0, .ref (ad 0)), (1, .long s0)] rfl ?_; exact k
theorem bX7_quotient_20 {l : Launch} {D : va_G} {aI aL : ClassId} {ad : Nat → Nat} {P : sa_P} {I : sa_I} {J : sa_J} {x1 : Int64} {v22 : Int32} {v26 : Int32}  (f22 : (0 : Int32) = v22) (f26 : (0 : Int32) = v26) (k : Sat (ER l D aI aL ad) M_X7_quotient P 27 [(0, .ref (ad 0)), (1, .long x1), (3, .int v26)] [] (sa_uI I 0 27 v22) J) : Sat (ER l D aI aL ad) M_X7_quotient P 20 [(0, .ref (ad 0)), (1, .long x1)] [] I J := by
  refine s_aload_n 0 dX7_quotient_20 rfl ?_
  refine s_iconst (v := 0) dX7_quotient_21 rfl ?_
  refine s_eqi f22 ?_
  refine p_X7_244 dX7_quotient_22 rfl ?_
  refine s_iconst (v := 0) dX7_quotient_25 rfl ?_
  refine s_eqi f26 ?_
  refine s_istore_n [(3, .int v26), (0, .ref (ad 0)), (1, .long x1)] dX7_quotient_26 (Nat.lt_of_lt_of_le (Nat.lt_succ_self _) (Nat.le_of_ble_eq_true rfl)) rfl ?_
  refine s_pick [1, 2, 0] [(0, .ref (ad 0)), (1, .long x1), (3, .int v26)] rfl ?_; exact k
theorem bX7_quotient_27 {l : Launch} {D : va_G} {aI aL : ClassId} {ad : Nat → Nat} {P : sa_P} {I : sa_I} {J : sa_J} {x1 : Int64} {x3 : Int32}   (kt : I 0 1 ≤ x3 → Sat (ER l D aI aL ad) M_X7_quotient P 139 [(0, .ref (ad 0)), (1, .long x1)] [] I J) (kf : ¬ I 0 1 ≤ x3 → Sat (ER l D aI aL ad) M_X7_quotient P 35 [(0, .ref (ad 0)), (1, .long x1), (3, .int x3)] [] I J) : Sat (ER l D aI aL ad) M_X7_quotient P 27 [(0, .ref (ad 0)), (1, .long x1), (3, .int x3)] [] I J := by
  refine s_iload_n 2 dX7_quotient_27 rfl ?_
  refine s_aload_n 0 dX7_quotient_28 rfl ?_
  refine g_X7_101 dX7_quotient_29 rfl ?_
  refine s_icmp_ge (tgt := 139) dX7_quotient_32 (by decide) (fun c => ?_) (fun c => ?_)
  · refine s_pick [0, 1] [(0, .ref (ad 0)), (1, .long x1)] rfl ?_; exact kt c
  · exact kf c
theorem bX7_quotient_35 {l : Launch} {D : va_G} {aI aL : ClassId} {ad : Nat → Nat} {P : sa_P} {I : sa_I} {J : sa_J} {x1 : Int64} {x3 : Int32} {v36 : Int32}  (f36 : (0 : Int32) = v36) (k : Sat (ER l D aI aL ad) M_X7_quotient P 38 [(0, .ref (ad 0)), (1, .long x1), (3, .int x3), (4, .int v36)] [] I J) : Sat (ER l D aI aL ad) M_X7_quotient P 35 [(0, .ref (ad 0)), (1, .long x1), (3, .int x3)] [] I J := by
  refine s_iconst (v := 0) dX7_quotient_35 rfl ?_
  refine s_eqi f36 ?_
  refine s_istore [(4, .int v36), (0, .ref (ad 0)), (1, .long x1), (3, .int x3)] dX7_quotient_36 (Nat.lt_of_lt_of_le (Nat.lt_succ_self _) (Nat.le_of_ble_eq_true rfl)) rfl ?_
  refine s_pick [1, 2, 3, 0] [(0, .ref (ad 0)), (1, .long x1), (3, .int x3), (4, .int v36)] rfl ?_; exact k
theorem bX7_quotient_38 {l : Launch} {D : va_G} {aI aL : ClassId} {ad : Nat → Nat} {P : sa_P} {I : sa_I} {J : sa_J} {x1 : Int64} {x3 : Int32} {x4 : Int32}   (kt : I 0 1 ≤ x4 → Sat (ER l D aI aL ad) M_X7_quotient P 133 [(0, .ref (ad 0)), (1, .long x1), (3, .int x3)] [] I J) (kf : ¬ I 0 1 ≤ x4 → Sat (ER l D aI aL ad) M_X7_quotient P 47 [(0, .ref (ad 0)), (1, .long x1), (3, .int x3), (4, .int x4)] [] I J) : Sat (ER l D aI aL ad) M_X7_quotient P 38 [(0, .ref (ad 0)), (1, .long x1), (3, .int x3), (4, .int x4)] [] I J := by
  refine s_iload 3 dX7_quotient_38 rfl ?_
  refine s_aload_n 0 dX7_quotient_40 rfl ?_
  refine g_X7_101 dX7_quotient_41 rfl ?_
  refine s_icmp_ge (tgt := 133) dX7_quotient_44 (by decide) (fun c => ?_) (fun c => ?_)
  · refine s_pick [0, 1, 2] [(0, .ref (ad 0)), (1, .long x1), (3, .int x3)] rfl ?_; exact kt c
  · exact kf c
theorem bX7_quotient_47 {l : Launch} {D : va_G} {aI aL : ClassId} {ad : Nat → Nat} {P : sa_P} {I : sa_I} {J : sa_J} {x1 : Int64} {x3 : Int32} {x4 : Int32} {v48 : Int32}  (f48 : (0 : Int32) = v48) (k : Sat (ER l D aI aL ad) M_X7_quotient P 50 [(0, .ref (ad 0)), (1, .long x1), (3, .int x3), (4, .int x4), (5, .int v48)] [] I J) : Sat (ER l D aI aL ad) M_X7_quotient P 47 [(0, .ref (ad 0)), (1, .long x1), (3, .int x3), (4, .int x4)] [] I J := by
  refine s_iconst (v := 0) dX7_quotient_47 rfl ?_
  refine s_eqi f48 ?_
  refine s_istore [(5, .int v48), (0, .ref (ad 0)), (1, .long x1), (3, .int x3), (4, .int x4)] dX7_quotient_48 (Nat.lt_of_lt_of_le (Nat.lt_succ_self _) (Nat.le_of_ble_eq_true rfl)) rfl ?_
  refine s_pick [1, 2, 3, 4, 0] [(0, .ref (ad 0)), (1, .long x1), (3, .int x3), (4, .int x4), (5, .int v48)] rfl ?_; exact k
theorem bX7_quotient_50 {l : Launch} {D : va_G} {aI aL : ClassId} {ad : Nat → Nat} {P : sa_P} {I : sa_I} {J : sa_J} {x1 : Int64} {x3 : Int32} {x4 : Int32} {x5 : Int32}   (kt : (3 : Int32) ≤ x5 → Sat (ER l D aI aL ad) M_X7_quotient P 70 [(0, .ref (ad 0)), (1, .long x1), (3, .int x3), (4, .int x4)] [] I J) (kf : ¬ (3 : Int32) ≤ x5 → Sat (ER l D aI aL ad) M_X7_quotient P 56 [(0, .ref (ad 0)), (1, .long x1), (3, .int x3), (4, .int x4), (5, .int x5)] [] I J) : Sat (ER l D aI aL ad) M_X7_quotient P 50 [(0, .ref (ad 0)), (1, .long x1), (3, .int x3), (4, .int x4), (5, .int x5)] [] I J := by
  refine s_iload 4 dX7_quotient_50 rfl ?_
  refine s_iconst (v := 3) dX7_quotient_52 rfl ?_
  refine s_icmp_ge (tgt := 70) dX7_quotient_53 (by decide) (fun c => ?_) (fun c => ?_)
  · refine s_pick [0, 1, 2, 3] [(0, .ref (ad 0)), (1, .long x1), (3, .int x3), (4, .int x4)] rfl ?_; exact kt c
  · exact kf c
theorem bX7_quotient_56 {l : Launch} {D : va_G} {aI aL : ClassId} {ad : Nat → Nat} {P : sa_P} {I : sa_I} {J : sa_J} {x1 : Int64} {x3 : Int32} {x4 : Int32} {x5 : Int32} {j60 : Nat} {v63 : Int64} {v64 : Int32} (e60 : x5 = nI j60) (h63 : j60 < 3) (f63 : (0 : Int64) = v63) (f64 : x5 + 1 = v64) (k : Sat (ER l D aI aL ad) M_X7_quotient P 50 [(0, .ref (ad 0)), (1, .long x1), (3, .int x3), (4, .int x4), (5, .int v64)] [] I (sa_uJ J 12 j60 v63)) : Sat (ER l D aI aL ad) M_X7_quotient P 56 [(0, .ref (ad 0)), (1, .long x1), (3, .int x3), (4, .int x4), (5, .int x5)] [] I J := by
  refine s_aload_n 0 dX7_quotient_56 rfl ?_
  refine g_X7_44 dX7_quotient_57 rfl ?_
  refine s_iload 4 dX7_quotient_60 rfl ?_
  refine s_eqi e60 ?_
  refine s_lconst (v := 0) dX7_quotient_62 rfl ?_
  refine s_eql f63 ?_
  refine s_lastoreN aJ_R12 h63 (by decide) dX7_quotient_63 ?_
  refine s_iinc 4 v64 [(5, .int v64), (0, .ref (ad 0)), (1, .long x1), (3, .int x3), (4, .int x4)] dX7_quotient_64 rfl f64 (Nat.lt_of_lt_of_le (Nat.lt_succ_self _) (Nat.le_of_ble_eq_true rfl)) rfl ?_
  refine s_goto (tgt := 50) dX7_quotient_67 (by decide) ?_
  refine s_pick [1, 2, 3, 4, 0] [(0, .ref (ad 0)), (1, .long x1), (3, .int x3), (4, .int x4), (5, .int v64)] rfl ?_; exact k
theorem bX7_quotient_70 {l : Launch} {D : va_G} {aI aL : ClassId} {ad : Nat → Nat} {P : sa_P} {I : sa_I} {J : sa_J} {x1 : Int64} {x3 : Int32} {x4 : Int32} {v71 : Int32}  (f71 : (0 : Int32) = v71) (k : Sat (ER l D aI aL ad) M_X7_quotient P 73 [(0, .ref (ad 0)), (1, .long x1), (3, .int x3), (4, .int x4), (5, .int v71)] [] I J) : Sat (ER l D aI aL ad) M_X7_quotient P 70 [(0, .ref (ad 0)), (1, .long x1), (3, .int x3), (4, .int x4)] [] I J := by
  refine s_iconst (v := 0) dX7_quotient_70 rfl ?_
  refine s_eqi f71 ?_
  refine s_istore [(5, .int v71), (0, .ref (ad 0)), (1, .long x1), (3, .int x3), (4, .int x4)] dX7_quotient_71 (Nat.lt_of_lt_of_le (Nat.lt_succ_self _) (Nat.le_of_ble_eq_true rfl)) rfl ?_
  refine s_pick [1, 2, 3, 4, 0] [(0, .ref (ad 0)), (1, .long x1), (3, .int x3), (4, .int x4), (5, .int v71)] rfl ?_; exact k
theorem bX7_quotient_73 {l : Launch} {D : va_G} {aI aL : ClassId} {ad : Nat → Nat} {P : sa_P} {I : sa_I} {J : sa_J} {x1 : Int64} {x3 : Int32} {x4 : Int32} {x5 : Int32}   (kt : I 0 1 ≤ x5 → Sat (ER l D aI aL ad) M_X7_quotient P 105 [(0, .ref (ad 0)), (1, .long x1), (3, .int x3), (4, .int x4)] [] I J) (kf : ¬ I 0 1 ≤ x5 → Sat (ER l D aI aL ad) M_X7_quotient P 82 [(0, .ref (ad 0)), (1, .long x1), (3, .int x3), (4, .int x4), (5, .int x5)] [] I J) : Sat (ER l D aI aL ad) M_X7_quotient P 73 [(0, .ref (ad 0)), (1, .long x1), (3, .int x3), (4, .int x4), (5, .int x5)] [] I J := by
  refine s_iload 4 dX7_quotient_73 rfl ?_
  refine s_aload_n 0 dX7_quotient_75 rfl ?_
  refine g_X7_101 dX7_quotient_76 rfl ?_
  refine s_icmp_ge (tgt := 105) dX7_quotient_79 (by decide) (fun c => ?_) (fun c => ?_)
  · refine s_pick [0, 1, 2, 3] [(0, .ref (ad 0)), (1, .long x1), (3, .int x3), (4, .int x4)] rfl ?_; exact kt c
  · exact kf c
theorem bX7_quotient_82 {l : Launch} {D : va_G} {aI aL : ClassId} {ad : Nat → Nat} {P : sa_P} {I : sa_I} {J : sa_J} {x1 : Int64} {x3 : Int32} {x4 : Int32} {x5 : Int32}   (k : Sat (ER l D aI aL ad) M_X7_quotient P 95 [(0, .ref (ad 0)), (1, .long x1), (3, .int x3), (4, .int x4), (5, .int x5)] [.long x1, .int x4, .int x5, .int x3, .ref (ad 0), .int x5, .ref (ad 12)] I J) : Sat (ER l D aI aL ad) M_X7_quotient P 82 [(0, .ref (ad 0)), (1, .long x1), (3, .int x3), (4, .int x4), (5, .int x5)] [] I J := by
  refine s_aload_n 0 dX7_quotient_82 rfl ?_
  refine g_X7_44 dX7_quotient_83 rfl ?_
  refine s_iload 4 dX7_quotient_86 rfl ?_
  refine s_aload_n 0 dX7_quotient_88 rfl ?_
  refine s_iload_n 2 dX7_quotient_89 rfl ?_
  refine s_iload 4 dX7_quotient_90 rfl ?_
  refine s_iload 3 dX7_quotient_92 rfl ?_
  refine s_lload_n 1 dX7_quotient_94 rfl ?_
  exact k
theorem bX7_quotient_98 {l : Launch} {D : va_G} {aI aL : ClassId} {ad : Nat → Nat} {P : sa_P} {I : sa_I} {J : sa_J} {x1 : Int64} {x3 : Int32} {x4 : Int32} {x5 : Int32} {s1 : Nat} {s2 : Int64} {v99 : Int32} (h98 : s1 < 3) (f99 : x5 + 1 = v99) (k : Sat (ER l D aI aL ad) M_X7_quotient P 73 [(0, .ref (ad 0)), (1, .long x1), (3, .int x3), (4, .int x4), (5, .int v99)] [] I (sa_uJ J 12 s1 s2)) : Sat (ER l D aI aL ad) M_X7_quotient P 98 [(0, .ref (ad 0)), (1, .long x1), (3, .int x3), (4, .int x4), (5, .int x5)] [.long s2, .int (nI s1), .ref (ad 12)] I J := by
  refine s_lastoreN aJ_R12 h98 (by decide) dX7_quotient_98 ?_
  refine s_iinc 4 v99 [(5, .int v99), (0, .ref (ad 0)), (1, .long x1), (3, .int x3), (4, .int x4)] dX7_quotient_99 rfl f99 (Nat.lt_of_lt_of_le (Nat.lt_succ_self _) (Nat.le_of_ble_eq_true rfl)) rfl ?_
  refine s_goto (tgt := 73) dX7_quotient_102 (by decide) ?_
  refine s_pick [1, 2, 3, 4, 0] [(0, .ref (ad 0)), (1, .long x1), (3, .int x3), (4, .int x4), (5, .int v99)] rfl ?_; exact k
theorem bX7_quotient_105 {l : Launch} {D : va_G} {aI aL : ClassId} {ad : Nat → Nat} {P : sa_P} {I : sa_I} {J : sa_J} {x1 : Int64} {x3 : Int32} {x4 : Int32}   (k : Sat (ER l D aI aL ad) M_X7_quotient P 124 [(0, .ref (ad 0)), (1, .long x1), (3, .int x3), (4, .int x4)] [.long (J 12 2), .long (J 12 1), .long (J 12 0), .ref (ad 0)] I J) : Sat (ER l D aI aL ad) M_X7_quotient P 105 [(0, .ref (ad 0)), (1, .long x1), (3, .int x3), (4, .int x4)] [] I J := by
  refine s_aload_n 0 dX7_quotient_105 rfl ?_
  refine s_aload_n 0 dX7_quotient_106 rfl ?_
  refine g_X7_44 dX7_quotient_107 rfl ?_
  refine s_iconst (v := 0) dX7_quotient_110 rfl ?_
  refine s_eqi (y := nI 0) rfl ?_
  refine s_laloadN aJ_R12 (by decide) (by decide) dX7_quotient_111 ?_
  refine s_aload_n 0 dX7_quotient_112 rfl ?_
  refine g_X7_44 dX7_quotient_113 rfl ?_
  refine s_iconst (v := 1) dX7_quotient_116 rfl ?_
  refine s_eqi (y := nI 1) rfl ?_
  refine s_laloadN aJ_R12 (by decide) (by decide) dX7_quotient_117 ?_
  refine s_aload_n 0 dX7_quotient_118 rfl ?_
  refine g_X7_44 dX7_quotient_119 rfl ?_
  refine s_iconst (v := 2) dX7_quotient_122 rfl ?_
  refine s_eqi (y := nI 2) rfl ?_
  refine s_laloadN aJ_R12 (by decide) (by decide) dX7_quotient_123 ?_
  exact k
theorem bX7_quotient_127 {l : Launch} {D : va_G} {aI aL : ClassId} {ad : Nat → Nat} {P : sa_P} {I : sa_I} {J : sa_J} {x1 : Int64} {x3 : Int32} {x4 : Int32} {v127 : Int32}  (f127 : x4 + 1 = v127) (k : Sat (ER l D aI aL ad) M_X7_quotient P 38 [(0, .ref (ad 0)), (1, .long x1), (3, .int x3), (4, .int v127)] [] I J) : Sat (ER l D aI aL ad) M_X7_quotient P 127 [(0, .ref (ad 0)), (1, .long x1), (3, .int x3), (4, .int x4)] [] I J := by
  refine s_iinc 3 v127 [(4, .int v127), (0, .ref (ad 0)), (1, .long x1), (3, .int x3)] dX7_quotient_127 rfl f127 (Nat.lt_of_lt_of_le (Nat.lt_succ_self _) (Nat.le_of_ble_eq_true rfl)) rfl ?_
  refine s_goto (tgt := 38) dX7_quotient_130 (by decide) ?_
  refine s_pick [1, 2, 3, 0] [(0, .ref (ad 0)), (1, .long x1), (3, .int x3), (4, .int v127)] rfl ?_; exact k
theorem bX7_quotient_133 {l : Launch} {D : va_G} {aI aL : ClassId} {ad : Nat → Nat} {P : sa_P} {I : sa_I} {J : sa_J} {x1 : Int64} {x3 : Int32} {v133 : Int32}  (f133 : x3 + 1 = v133) (k : Sat (ER l D aI aL ad) M_X7_quotient P 27 [(0, .ref (ad 0)), (1, .long x1), (3, .int v133)] [] I J) : Sat (ER l D aI aL ad) M_X7_quotient P 133 [(0, .ref (ad 0)), (1, .long x1), (3, .int x3)] [] I J := by
  refine s_iinc 2 v133 [(3, .int v133), (0, .ref (ad 0)), (1, .long x1)] dX7_quotient_133 rfl f133 (Nat.lt_of_lt_of_le (Nat.lt_succ_self _) (Nat.le_of_ble_eq_true rfl)) rfl ?_
  refine s_goto (tgt := 27) dX7_quotient_136 (by decide) ?_
  refine s_pick [1, 2, 0] [(0, .ref (ad 0)), (1, .long x1), (3, .int v133)] rfl ?_; exact k
theorem bX7_quotient_139 {l : Launch} {D : va_G} {aI aL : ClassId} {ad : Nat → Nat} {P : sa_P} {I : sa_I} {J : sa_J} {x1 : Int64}   (k : Sat (ER l D aI aL ad) M_X7_quotient P 141 [(0, .ref (ad 0)), (1, .long x1)] [.long x1, .ref (ad 0)] I J) : Sat (ER l D aI aL ad) M_X7_quotient P 139 [(0, .ref (ad 0)), (1, .long x1)] [] I J := by
  refine s_aload_n 0 dX7_quotient_139 rfl ?_
  refine s_lload_n 1 dX7_quotient_140 rfl ?_
  exact k
theorem bX7_quotient_144 {l : Launch} {D : va_G} {aI aL : ClassId} {ad : Nat → Nat} {P : sa_P} {I : sa_I} {J : sa_J} {x1 : Int64}   (k : Sat (ER l D aI aL ad) M_X7_quotient P 149 [(0, .ref (ad 0)), (1, .long x1)] [.ref (ad 14), .ref (ad 0)] I J) : Sat (ER l D aI aL ad) M_X7_quotient P 144 [(0, .ref (ad 0)), (1, .long x1)] [] I J := by
  refine s_aload_n 0 dX7_quotient_144 rfl ?_
  refine s_aload_n 0 dX7_quotient_145 rfl ?_
  refine g_X7_50 dX7_quotient_146 rfl ?_
  exact k
theorem bX7_quotient_152 {l : Launch} {D : va_G} {aI aL : ClassId} {ad : Nat → Nat} {P : sa_P} {I : sa_I} {J : sa_J} {x1 : Int64}   (k : Sat (ER l D aI aL ad) M_X7_quotient P 153 [(0, .ref (ad 0)), (1, .long x1)] [.ref (ad 0)] I J) : Sat (ER l D aI aL ad) M_X7_quotient P 152 [(0, .ref (ad 0)), (1, .long x1)] [] I J := by
  refine s_aload_n 0 dX7_quotient_152 rfl ?_
  exact k
theorem bX7_quotient_156 {l : Launch} {D : va_G} {aI aL : ClassId} {ad : Nat → Nat} {P : sa_P} {I : sa_I} {J : sa_J} {x1 : Int64} {s0 : Int64} {v159 : Int32} {v163 : Int32}  (f159 : (0 : Int32) = v159) (f163 : (0 : Int32) = v163) (k : Sat (ER l D aI aL ad) M_X7_quotient P 165 [(0, .ref (ad 0)), (1, .long x1), (3, .long s0), (5, .int v163)] [] (sa_uI I 0 27 v159) J) : Sat (ER l D aI aL ad) M_X7_quotient P 156 [(0, .ref (ad 0)), (1, .long x1)] [.long s0] I J := by
  refine s_lstore_n [(3, .long s0), (0, .ref (ad 0)), (1, .long x1)] dX7_quotient_156 (Nat.lt_of_lt_of_le (Nat.lt_succ_self _) (Nat.le_of_ble_eq_true rfl)) rfl ?_
  refine s_aload_n 1 dX7_quotient_157 rfl ?_
  refine s_iconst (v := 0) dX7_quotient_158 rfl ?_
  refine s_eqi f159 ?_
  refine p_X7_244 dX7_quotient_159 rfl ?_
  refine s_iconst (v := 0) dX7_quotient_162 rfl ?_
  refine s_eqi f163 ?_
  refine s_istore [(5, .int v163), (3, .long s0), (0, .ref (ad 0)), (1, .long x1)] dX7_quotient_163 (Nat.lt_of_lt_of_le (Nat.lt_succ_self _) (Nat.le_of_ble_eq_true rfl)) rfl ?_
  refine s_pick [2, 3, 1, 0] [(0, .ref (ad 0)), (1, .long x1), (3, .long s0), (5, .int v163)] rfl ?_; exact k
theorem bX7_quotient_165 {l : Launch} {D : va_G} {aI aL : ClassId} {ad : Nat → Nat} {P : sa_P} {I : sa_I} {J : sa_J} {x1 : Int64} {x3 : Int64} {x5 : Int32}   (kt : I 0 1 ≤ x5 → Sat (ER l D aI aL ad) M_X7_quotient P 234 [(0, .ref (ad 0)), (1, .long x1)] [] I J) (kf : ¬ I 0 1 ≤ x5 → Sat (ER l D aI aL ad) M_X7_quotient P 174 [(0, .ref (ad 0)), (1, .long x1), (3, .long x3), (5, .int x5)] [] I J) : Sat (ER l D aI aL ad) M_X7_quotient P 165 [(0, .ref (ad 0)), (1, .long x1), (3, .long x3), (5, .int x5)] [] I J := by
  refine s_iload 3 dX7_quotient_165 rfl ?_
  refine s_aload_n 0 dX7_quotient_167 rfl ?_
  refine g_X7_101 dX7_quotient_168 rfl ?_
  refine s_icmp_ge (tgt := 234) dX7_quotient_171 (by decide) (fun c => ?_) (fun c => ?_)
  · refine s_pick [0, 1] [(0, .ref (ad 0)), (1, .long x1)] rfl ?_; exact kt c
  · exact kf c
theorem bX7_quotient_174 {l : Launch} {D : va_G} {aI aL : ClassId} {ad : Nat → Nat} {P : sa_P} {I : sa_I} {J : sa_J} {x1 : Int64} {x3 : Int64} {x5 : Int32} {j180 : Nat} {j194 : Nat} (e180 : x5 = nI j180) (h182 : j180 < 9) (z185 : ¬ x3 = 0) (e194 : (3 : Int32) + x5 = nI j194) (h195 : j194 < 9) (z198 : ¬ x3 = 0)  (kt : ¬ I 0 1 = (3 : Int32) → Sat (ER l D aI aL ad) M_X7_quotient P 224 [(0, .ref (ad 0)), (1, .long x1), (3, .long x3), (5, .int x5)] [.long ((x1 * (J 17 j194)) / x3), .long ((x1 * (J 17 j180)) / x3), .ref (ad 0)] I J) (kf : I 0 1 = (3 : Int32) → Sat (ER l D aI aL ad) M_X7_quotient P 207 [(0, .ref (ad 0)), (1, .long x1), (3, .long x3), (5, .int x5)] [.long ((x1 * (J 17 j194)) / x3), .long ((x1 * (J 17 j180)) / x3), .ref (ad 0)] I J) : Sat (ER l D aI aL ad) M_X7_quotient P 174 [(0, .ref (ad 0)), (1, .long x1), (3, .long x3), (5, .int x5)] [] I J := by
  refine s_aload_n 0 dX7_quotient_174 rfl ?_
  refine s_lload_n 1 dX7_quotient_175 rfl ?_
  refine s_aload_n 0 dX7_quotient_176 rfl ?_
  refine g_X7_59 dX7_quotient_177 rfl ?_
  refine s_iload 3 dX7_quotient_180 rfl ?_
  refine s_eqi e180 ?_
  refine s_laloadN aJ_R17 h182 (by decide) dX7_quotient_182 ?_
  refine s_lmul dX7_quotient_183 ?_
  refine s_lload_n 2 dX7_quotient_184 rfl ?_
  refine s_ldiv dX7_quotient_185 z185 ?_
  refine s_lload_n 1 dX7_quotient_186 rfl ?_
  refine s_aload_n 0 dX7_quotient_187 rfl ?_
  refine g_X7_59 dX7_quotient_188 rfl ?_
  refine s_iconst (v := 3) dX7_quotient_191 rfl ?_
  refine s_iload 3 dX7_quotient_192 rfl ?_
  refine s_iadd dX7_quotient_194 ?_
  refine s_eqi e194 ?_
  refine s_laloadN aJ_R17 h195 (by decide) dX7_quotient_195 ?_
  refine s_lmul dX7_quotient_196 ?_
  refine s_lload_n 2 dX7_quotient_197 rfl ?_
  refine s_ldiv dX7_quotient_198 z198 ?_
  refine s_aload_n 0 dX7_quotient_199 rfl ?_
  refine g_X7_101 dX7_quotient_200 rfl ?_
  refine s_iconst (v := 3) dX7_quotient_203 rfl ?_
  refine s_icmp_ne (tgt := 224) dX7_quotient_204 (by decide) (fun c => ?_) (fun c => ?_)
  · exact kt c
  · exact kf (by first | exact c | exact Classical.not_not.mp c)
theorem bX7_quotient_207 {l : Launch} {D : va_G} {aI aL : ClassId} {ad : Nat → Nat} {P : sa_P} {I : sa_I} {J : sa_J} {x1 : Int64} {x3 : Int64} {x5 : Int32} {s1 : Int64} {s2 : Int64} {j216 : Nat} (e216 : (6 : Int32) + x5 = nI j216) (h217 : j216 < 9) (z220 : ¬ x3 = 0)  (k : Sat (ER l D aI aL ad) M_X7_quotient P 225 [(0, .ref (ad 0)), (1, .long x1), (3, .long x3), (5, .int x5)] [.long ((x1 * (J 17 j216)) / x3), .long s2, .long s1, .ref (ad 0)] I J) : Sat (ER l D aI aL ad) M_X7_quotient P 207 [(0, .ref (ad 0)), (1, .long x1), (3, .long x3), (5, .int x5)] [.long s2, .long s1, .ref (ad 0)] I J := by
  refine s_lload_n 1 dX7_quotient_207 rfl ?_
  refine s_aload_n 0 dX7_quotient_208 rfl ?_
  refine g_X7_59 dX7_quotient_209 rfl ?_
  refine s_bipush (v := 6) dX7_quotient_212 rfl ?_
  refine s_iload 3 dX7_quotient_214 rfl ?_
  refine s_iadd dX7_quotient_216 ?_
  refine s_eqi e216 ?_
  refine s_laloadN aJ_R17 h217 (by decide) dX7_quotient_217 ?_
  refine s_lmul dX7_quotient_218 ?_
  refine s_lload_n 2 dX7_quotient_219 rfl ?_
  refine s_ldiv dX7_quotient_220 z220 ?_
  refine s_goto (tgt := 225) dX7_quotient_221 (by decide) ?_
  exact k
theorem bX7_quotient_224 {l : Launch} {D : va_G} {aI aL : ClassId} {ad : Nat → Nat} {P : sa_P} {I : sa_I} {J : sa_J} {x1 : Int64} {x3 : Int64} {x5 : Int32} {s1 : Int64} {s2 : Int64}   (k : Sat (ER l D aI aL ad) M_X7_quotient P 225 [(0, .ref (ad 0)), (1, .long x1), (3, .long x3), (5, .int x5)] [.long (0 : Int64), .long s2, .long s1, .ref (ad 0)] I J) : Sat (ER l D aI aL ad) M_X7_quotient P 224 [(0, .ref (ad 0)), (1, .long x1), (3, .long x3), (5, .int x5)] [.long s2, .long s1, .ref (ad 0)] I J := by
  refine s_lconst (v := 0) dX7_quotient_224 rfl ?_
  exact k
theorem bX7_quotient_228 {l : Launch} {D : va_G} {aI aL : ClassId} {ad : Nat → Nat} {P : sa_P} {I : sa_I} {J : sa_J} {x1 : Int64} {x3 : Int64} {x5 : Int32} {v228 : Int32}  (f228 : x5 + 1 = v228) (k : Sat (ER l D aI aL ad) M_X7_quotient P 165 [(0, .ref (ad 0)), (1, .long x1), (3, .long x3), (5, .int v228)] [] I J) : Sat (ER l D aI aL ad) M_X7_quotient P 228 [(0, .ref (ad 0)), (1, .long x1), (3, .long x3), (5, .int x5)] [] I J := by
  refine s_iinc 3 v228 [(5, .int v228), (0, .ref (ad 0)), (1, .long x1), (3, .long x3)] dX7_quotient_228 rfl f228 (Nat.lt_of_lt_of_le (Nat.lt_succ_self _) (Nat.le_of_ble_eq_true rfl)) rfl ?_
  refine s_goto (tgt := 165) dX7_quotient_231 (by decide) ?_
  refine s_pick [1, 2, 3, 0] [(0, .ref (ad 0)), (1, .long x1), (3, .long x3), (5, .int v228)] rfl ?_; exact k
theorem bX7_quotient_234 {l : Launch} {D : va_G} {aI aL : ClassId} {ad : Nat → Nat} {P : sa_P} {I : sa_I} {J : sa_J} {x1 : Int64}   (k : Sat (ER l D aI aL ad) M_X7_quotient P 236 [] [.long x1, .ref (ad 0)] I J) : Sat (ER l D aI aL ad) M_X7_quotient P 234 [(0, .ref (ad 0)), (1, .long x1)] [] I J := by
  refine s_aload_n 0 dX7_quotient_234 rfl ?_
  refine s_lload_n 1 dX7_quotient_235 rfl ?_
  refine s_pick [] [] rfl ?_; exact k
theorem bX7_quotient_239 {l : Launch} {D : va_G} {aI aL : ClassId} {ad : Nat → Nat} {P : sa_P} {I : sa_I} {J : sa_J}    (k : P (none) I J) : Sat (ER l D aI aL ad) M_X7_quotient P 239 [] [] I J := by
  exact s_vret rfl dX7_quotient_239 k
/-! X7_asked -/
theorem dX7_asked_0 : decode cX7_asked 0 = .ok (.lconst 0, 1) := by decide +kernel
theorem dX7_asked_1 : decode cX7_asked 1 = .ok (.lstore 6, 2) := by decide +kernel
theorem dX7_asked_3 : decode cX7_asked 3 = .ok (.iconst 0, 1) := by decide +kernel
theorem dX7_asked_4 : decode cX7_asked 4 = .ok (.istore 8, 2) := by decide +kernel
theorem dX7_asked_6 : decode cX7_asked 6 = .ok (.iload 8, 2) := by decide +kernel
theorem dX7_asked_8 : decode cX7_asked 8 = .ok (.aload_n 0, 1) := by decide +kernel
theorem dX7_asked_9 : decode cX7_asked 9 = .ok (.getfield 101, 3) := by decide +kernel
theorem dX7_asked_12 : decode cX7_asked 12 = .ok (.if_icmp .ge 98, 3) := by decide +kernel
theorem dX7_asked_15 : decode cX7_asked 15 = .ok (.lconst 0, 1) := by decide +kernel
theorem dX7_asked_16 : decode cX7_asked 16 = .ok (.lstore 9, 2) := by decide +kernel
theorem dX7_asked_18 : decode cX7_asked 18 = .ok (.iconst 0, 1) := by decide +kernel
theorem dX7_asked_19 : decode cX7_asked 19 = .ok (.istore 11, 2) := by decide +kernel
theorem dX7_asked_21 : decode cX7_asked 21 = .ok (.iload 11, 2) := by decide +kernel
theorem dX7_asked_23 : decode cX7_asked 23 = .ok (.aload_n 0, 1) := by decide +kernel
theorem dX7_asked_24 : decode cX7_asked 24 = .ok (.getfield 101, 3) := by decide +kernel
theorem dX7_asked_27 : decode cX7_asked 27 = .ok (.if_icmp .ge 43, 3) := by decide +kernel
theorem dX7_asked_30 : decode cX7_asked 30 = .ok (.lload 9, 2) := by decide +kernel
theorem dX7_asked_32 : decode cX7_asked 32 = .ok (.aload_n 0, 1) := by decide +kernel
theorem dX7_asked_33 : decode cX7_asked 33 = .ok (.getfield 56, 3) := by decide +kernel
theorem dX7_asked_36 : decode cX7_asked 36 = .ok (.iconst 3, 1) := by decide +kernel
theorem dX7_asked_37 : decode cX7_asked 37 = .ok (.iload_n 1, 1) := by decide +kernel
theorem dX7_asked_38 : decode cX7_asked 38 = .ok (.imul, 1) := by decide +kernel
theorem dX7_asked_39 : decode cX7_asked 39 = .ok (.iload 11, 2) := by decide +kernel
theorem dX7_asked_41 : decode cX7_asked 41 = .ok (.iadd, 1) := by decide +kernel
theorem dX7_asked_42 : decode cX7_asked 42 = .ok (.laload, 1) := by decide +kernel
theorem dX7_asked_43 : decode cX7_asked 43 = .ok (.aload_n 0, 1) := by decide +kernel
theorem dX7_asked_44 : decode cX7_asked 44 = .ok (.getfield 13, 3) := by decide +kernel
theorem dX7_asked_47 : decode cX7_asked 47 = .ok (.bipush 9, 2) := by decide +kernel
theorem dX7_asked_49 : decode cX7_asked 49 = .ok (.iload_n 2, 1) := by decide +kernel
theorem dX7_asked_50 : decode cX7_asked 50 = .ok (.imul, 1) := by decide +kernel
theorem dX7_asked_51 : decode cX7_asked 51 = .ok (.iconst 3, 1) := by decide +kernel
theorem dX7_asked_52 : decode cX7_asked 52 = .ok (.iload 11, 2) := by decide +kernel
theorem dX7_asked_54 : decode cX7_asked 54 = .ok (.imul, 1) := by decide +kernel
theorem dX7_asked_55 : decode cX7_asked 55 = .ok (.iadd, 1) := by decide +kernel
theorem dX7_asked_56 : decode cX7_asked 56 = .ok (.iload 8, 2) := by decide +kernel
theorem dX7_asked_58 : decode cX7_asked 58 = .ok (.iadd, 1) := by decide +kernel
theorem dX7_asked_59 : decode cX7_asked 59 = .ok (.laload, 1) := by decide +kernel
theorem dX7_asked_60 : decode cX7_asked 60 = .ok (.lmul, 1) := by decide +kernel
theorem dX7_asked_61 : decode cX7_asked 61 = .ok (.ladd, 1) := by decide +kernel
theorem dX7_asked_62 : decode cX7_asked 62 = .ok (.lstore 9, 2) := by decide +kernel
theorem dX7_asked_64 : decode cX7_asked 64 = .ok (.iinc 11 1, 3) := by decide +kernel
theorem dX7_asked_67 : decode cX7_asked 67 = .ok (.goto (-46), 3) := by decide +kernel
theorem dX7_asked_70 : decode cX7_asked 70 = .ok (.lload 6, 2) := by decide +kernel
theorem dX7_asked_72 : decode cX7_asked 72 = .ok (.lload 9, 2) := by decide +kernel
theorem dX7_asked_74 : decode cX7_asked 74 = .ok (.lload 4, 2) := by decide +kernel
theorem dX7_asked_76 : decode cX7_asked 76 = .ok (.invokestatic 155, 3) := by decide +kernel
theorem dX7_asked_79 : decode cX7_asked 79 = .ok (.aload_n 0, 1) := by decide +kernel
theorem dX7_asked_80 : decode cX7_asked 80 = .ok (.getfield 59, 3) := by decide +kernel
theorem dX7_asked_83 : decode cX7_asked 83 = .ok (.iconst 3, 1) := by decide +kernel
theorem dX7_asked_84 : decode cX7_asked 84 = .ok (.iload 8, 2) := by decide +kernel
theorem dX7_asked_86 : decode cX7_asked 86 = .ok (.imul, 1) := by decide +kernel
theorem dX7_asked_87 : decode cX7_asked 87 = .ok (.iload_n 3, 1) := by decide +kernel
theorem dX7_asked_88 : decode cX7_asked 88 = .ok (.iadd, 1) := by decide +kernel
theorem dX7_asked_89 : decode cX7_asked 89 = .ok (.laload, 1) := by decide +kernel
theorem dX7_asked_90 : decode cX7_asked 90 = .ok (.lload 4, 2) := by decide +kernel
theorem dX7_asked_92 : decode cX7_asked 92 = .ok (.invokestatic 155, 3) := by decide +kernel
theorem dX7_asked_95 : decode cX7_asked 95 = .ok (.lmul, 1) := by decide +kernel
theorem dX7_asked_96 : decode cX7_asked 96 = .ok (.ladd, 1) := by decide +kernel
theorem dX7_asked_97 : decode cX7_asked 97 = .ok (.lload 4, 2) := by decide +kernel
theorem dX7_asked_99 : decode cX7_asked 99 = .ok (.invokestatic 155, 3) := by decide +kernel
theorem dX7_asked_102 : decode cX7_asked 102 = .ok (.lstore 6, 2) := by decide +kernel
theorem dX7_asked_104 : decode cX7_asked 104 = .ok (.iinc 8 1, 3) := by decide +kernel
theorem dX7_asked_107 : decode cX7_asked 107 = .ok (.goto (-101), 3) := by decide +kernel
theorem dX7_asked_110 : decode cX7_asked 110 = .ok (.lload 6, 2) := by decide +kernel
theorem dX7_asked_112 : decode cX7_asked 112 = .ok (.lreturn, 1) := by decide +kernel
theorem bX7_asked_0 {l : Launch} {D : va_G} {aI aL : ClassId} {ad : Nat → Nat} {P : sa_P} {I : sa_I} {J : sa_J} {x1 : Int32} {x2 : Int32} {x3 : Int32} {x4 : Int64} {v1 : Int64} {v4 : Int32}  (f1 : (0 : Int64) = v1) (f4 : (0 : Int32) = v4) (k : Sat (ER l D aI aL ad) M_X7_asked P 6 [(0, .ref (ad 0)), (1, .int x1), (2, .int x2), (3, .int x3), (4, .long x4), (6, .long v1), (8, .int v4)] [] I J) : Sat (ER l D aI aL ad) M_X7_asked P 0 [(0, .ref (ad 0)), (1, .int x1), (2, .int x2), (3, .int x3), (4, .long x4)] [] I J := by
  refine s_lconst (v := 0) dX7_asked_0 rfl ?_
  refine s_eql f1 ?_
  refine s_lstore [(6, .long v1), (0, .ref (ad 0)), (1, .int x1), (2, .int x2), (3, .int x3), (4, .long x4)] dX7_asked_1 (Nat.lt_of_lt_of_le (Nat.lt_succ_self _) (Nat.le_of_ble_eq_true rfl)) rfl ?_
  refine s_iconst (v := 0) dX7_asked_3 rfl ?_
  refine s_eqi f4 ?_
  refine s_istore [(8, .int v4), (6, .long v1), (0, .ref (ad 0)), (1, .int x1), (2, .int x2), (3, .int x3), (4, .long x4)] dX7_asked_4 (Nat.lt_of_lt_of_le (Nat.lt_succ_self _) (Nat.le_of_ble_eq_true rfl)) rfl ?_
  refine s_pick [2, 3, 4, 5, 6, 1, 0] [(0, .ref (ad 0)), (1, .int x1), (2, .int x2), (3, .int x3), (4, .long x4), (6, .long v1), (8, .int v4)] rfl ?_; exact k
theorem bX7_asked_6 {l : Launch} {D : va_G} {aI aL : ClassId} {ad : Nat → Nat} {P : sa_P} {I : sa_I} {J : sa_J} {x1 : Int32} {x2 : Int32} {x3 : Int32} {x4 : Int64} {x6 : Int64} {x8 : Int32}   (kt : I 0 1 ≤ x8 → Sat (ER l D aI aL ad) M_X7_asked P 110 [(6, .long x6)] [] I J) (kf : ¬ I 0 1 ≤ x8 → Sat (ER l D aI aL ad) M_X7_asked P 15 [(0, .ref (ad 0)), (1, .int x1), (2, .int x2), (3, .int x3), (4, .long x4), (6, .long x6), (8, .int x8)] [] I J) : Sat (ER l D aI aL ad) M_X7_asked P 6 [(0, .ref (ad 0)), (1, .int x1), (2, .int x2), (3, .int x3), (4, .long x4), (6, .long x6), (8, .int x8)] [] I J := by
  refine s_iload 6 dX7_asked_6 rfl ?_
  refine s_aload_n 0 dX7_asked_8 rfl ?_
  refine g_X7_101 dX7_asked_9 rfl ?_
  refine s_icmp_ge (tgt := 110) dX7_asked_12 (by decide) (fun c => ?_) (fun c => ?_)
  · refine s_pick [5] [(6, .long x6)] rfl ?_; exact kt c
  · exact kf c
theorem bX7_asked_15 {l : Launch} {D : va_G} {aI aL : ClassId} {ad : Nat → Nat} {P : sa_P} {I : sa_I} {J : sa_J} {x1 : Int32} {x2 : Int32} {x3 : Int32} {x4 : Int64} {x6 : Int64} {x8 : Int32} {v16 : Int64} {v19 : Int32}  (f16 : (0 : Int64) = v16) (f19 : (0 : Int32) = v19) (k : Sat (ER l D aI aL ad) M_X7_asked P 21 [(0, .ref (ad 0)), (1, .int x1), (2, .int x2), (3, .int x3), (4, .long x4), (6, .long x6), (8, .int x8), (9, .long v16), (11, .int v19)] [] I J) : Sat (ER l D aI aL ad) M_X7_asked P 15 [(0, .ref (ad 0)), (1, .int x1), (2, .int x2), (3, .int x3), (4, .long x4), (6, .long x6), (8, .int x8)] [] I J := by
  refine s_lconst (v := 0) dX7_asked_15 rfl ?_
  refine s_eql f16 ?_
  refine s_lstore [(9, .long v16), (0, .ref (ad 0)), (1, .int x1), (2, .int x2), (3, .int x3), (4, .long x4), (6, .long x6), (8, .int x8)] dX7_asked_16 (Nat.lt_of_lt_of_le (Nat.lt_succ_self _) (Nat.le_of_ble_eq_true rfl)) rfl ?_
  refine s_iconst (v := 0) dX7_asked_18 rfl ?_
  refine s_eqi f19 ?_
  refine s_istore [(11, .int v19), (9, .long v16), (0, .ref (ad 0)), (1, .int x1), (2, .int x2), (3, .int x3), (4, .long x4), (6, .long x6), (8, .int x8)] dX7_asked_19 (Nat.lt_of_lt_of_le (Nat.lt_succ_self _) (Nat.le_of_ble_eq_true rfl)) rfl ?_
  refine s_pick [2, 3, 4, 5, 6, 7, 8, 1, 0] [(0, .ref (ad 0)), (1, .int x1), (2, .int x2), (3, .int x3), (4, .long x4), (6, .long x6), (8, .int x8), (9, .long v16), (11, .int v19)] rfl ?_; exact k
theorem bX7_asked_21 {l : Launch} {D : va_G} {aI aL : ClassId} {ad : Nat → Nat} {P : sa_P} {I : sa_I} {J : sa_J} {x1 : Int32} {x2 : Int32} {x3 : Int32} {x4 : Int64} {x6 : Int64} {x8 : Int32} {x9 : Int64} {x11 : Int32}   (kt : I 0 1 ≤ x11 → Sat (ER l D aI aL ad) M_X7_asked P 70 [(0, .ref (ad 0)), (1, .int x1), (2, .int x2), (3, .int x3), (4, .long x4), (6, .long x6), (8, .int x8), (9, .long x9)] [] I J) (kf : ¬ I 0 1 ≤ x11 → Sat (ER l D aI aL ad) M_X7_asked P 30 [(0, .ref (ad 0)), (1, .int x1), (2, .int x2), (3, .int x3), (4, .long x4), (6, .long x6), (8, .int x8), (9, .long x9), (11, .int x11)] [] I J) : Sat (ER l D aI aL ad) M_X7_asked P 21 [(0, .ref (ad 0)), (1, .int x1), (2, .int x2), (3, .int x3), (4, .long x4), (6, .long x6), (8, .int x8), (9, .long x9), (11, .int x11)] [] I J := by
  refine s_iload 8 dX7_asked_21 rfl ?_
  refine s_aload_n 0 dX7_asked_23 rfl ?_
  refine g_X7_101 dX7_asked_24 rfl ?_
  refine s_icmp_ge (tgt := 70) dX7_asked_27 (by decide) (fun c => ?_) (fun c => ?_)
  · refine s_pick [0, 1, 2, 3, 4, 5, 6, 7] [(0, .ref (ad 0)), (1, .int x1), (2, .int x2), (3, .int x3), (4, .long x4), (6, .long x6), (8, .int x8), (9, .long x9)] rfl ?_; exact kt c
  · exact kf c
theorem bX7_asked_30 {l : Launch} {D : va_G} {aI aL : ClassId} {ad : Nat → Nat} {P : sa_P} {I : sa_I} {J : sa_J} {x1 : Int32} {x2 : Int32} {x3 : Int32} {x4 : Int64} {x6 : Int64} {x8 : Int32} {x9 : Int64} {x11 : Int32} {j41 : Nat} {j58 : Nat} {v62 : Int64} {v64 : Int32} (e41 : ((3 : Int32) * x1) + x11 = nI j41) (h42 : j41 < 9) (e58 : (((9 : Int32) * x2) + ((3 : Int32) * x11)) + x8 = nI j58) (h59 : j58 < 27) (f62 : x9 + ((J 16 j41) * (J 2 j58)) = v62) (f64 : x11 + 1 = v64) (k : Sat (ER l D aI aL ad) M_X7_asked P 21 [(0, .ref (ad 0)), (1, .int x1), (2, .int x2), (3, .int x3), (4, .long x4), (6, .long x6), (8, .int x8), (9, .long v62), (11, .int v64)] [] I J) : Sat (ER l D aI aL ad) M_X7_asked P 30 [(0, .ref (ad 0)), (1, .int x1), (2, .int x2), (3, .int x3), (4, .long x4), (6, .long x6), (8, .int x8), (9, .long x9), (11, .int x11)] [] I J := by
  refine s_lload 7 dX7_asked_30 rfl ?_
  refine s_aload_n 0 dX7_asked_32 rfl ?_
  refine g_X7_56 dX7_asked_33 rfl ?_
  refine s_iconst (v := 3) dX7_asked_36 rfl ?_
  refine s_iload_n 1 dX7_asked_37 rfl ?_
  refine s_imul dX7_asked_38 ?_
  refine s_iload 8 dX7_asked_39 rfl ?_
  refine s_iadd dX7_asked_41 ?_
  refine s_eqi e41 ?_
  refine s_laloadN aJ_R16 h42 (by decide) dX7_asked_42 ?_
  refine s_aload_n 0 dX7_asked_43 rfl ?_
  refine g_X7_13 dX7_asked_44 rfl ?_
  refine s_bipush (v := 9) dX7_asked_47 rfl ?_
  refine s_iload_n 2 dX7_asked_49 rfl ?_
  refine s_imul dX7_asked_50 ?_
  refine s_iconst (v := 3) dX7_asked_51 rfl ?_
  refine s_iload 8 dX7_asked_52 rfl ?_
  refine s_imul dX7_asked_54 ?_
  refine s_iadd dX7_asked_55 ?_
  refine s_iload 6 dX7_asked_56 rfl ?_
  refine s_iadd dX7_asked_58 ?_
  refine s_eqi e58 ?_
  refine s_laloadN aJ_R2 h59 (by decide) dX7_asked_59 ?_
  refine s_lmul dX7_asked_60 ?_
  refine s_ladd dX7_asked_61 ?_
  refine s_eql f62 ?_
  refine s_lstore [(9, .long v62), (0, .ref (ad 0)), (1, .int x1), (2, .int x2), (3, .int x3), (4, .long x4), (6, .long x6), (8, .int x8), (11, .int x11)] dX7_asked_62 (Nat.lt_of_lt_of_le (Nat.lt_succ_self _) (Nat.le_of_ble_eq_true rfl)) rfl ?_
  refine s_iinc 8 v64 [(11, .int v64), (9, .long v62), (0, .ref (ad 0)), (1, .int x1), (2, .int x2), (3, .int x3), (4, .long x4), (6, .long x6), (8, .int x8)] dX7_asked_64 rfl f64 (Nat.lt_of_lt_of_le (Nat.lt_succ_self _) (Nat.le_of_ble_eq_true rfl)) rfl ?_
  refine s_goto (tgt := 21) dX7_asked_67 (by decide) ?_
  refine s_pick [2, 3, 4, 5, 6, 7, 8, 1, 0] [(0, .ref (ad 0)), (1, .int x1), (2, .int x2), (3, .int x3), (4, .long x4), (6, .long x6), (8, .int x8), (9, .long v62), (11, .int v64)] rfl ?_; exact k
theorem bX7_asked_70 {l : Launch} {D : va_G} {aI aL : ClassId} {ad : Nat → Nat} {P : sa_P} {I : sa_I} {J : sa_J} {x1 : Int32} {x2 : Int32} {x3 : Int32} {x4 : Int64} {x6 : Int64} {x8 : Int32} {x9 : Int64}   (k : Sat (ER l D aI aL ad) M_X7_asked P 76 [(0, .ref (ad 0)), (1, .int x1), (2, .int x2), (3, .int x3), (4, .long x4), (8, .int x8)] [.long x4, .long x9, .long x6] I J) : Sat (ER l D aI aL ad) M_X7_asked P 70 [(0, .ref (ad 0)), (1, .int x1), (2, .int x2), (3, .int x3), (4, .long x4), (6, .long x6), (8, .int x8), (9, .long x9)] [] I J := by
  refine s_lload 5 dX7_asked_70 rfl ?_
  refine s_lload 7 dX7_asked_72 rfl ?_
  refine s_lload 4 dX7_asked_74 rfl ?_
  refine s_pick [0, 1, 2, 3, 4, 6] [(0, .ref (ad 0)), (1, .int x1), (2, .int x2), (3, .int x3), (4, .long x4), (8, .int x8)] rfl ?_; exact k
theorem bX7_asked_79 {l : Launch} {D : va_G} {aI aL : ClassId} {ad : Nat → Nat} {P : sa_P} {I : sa_I} {J : sa_J} {x1 : Int32} {x2 : Int32} {x3 : Int32} {x4 : Int64} {x8 : Int32} {s0 : Int64} {s1 : Int64} {j88 : Nat} (e88 : ((3 : Int32) * x8) + x3 = nI j88) (h89 : j88 < 9)  (k : Sat (ER l D aI aL ad) M_X7_asked P 92 [(0, .ref (ad 0)), (1, .int x1), (2, .int x2), (3, .int x3), (4, .long x4), (8, .int x8)] [.long x4, .long (J 17 j88), .long s1, .long s0] I J) : Sat (ER l D aI aL ad) M_X7_asked P 79 [(0, .ref (ad 0)), (1, .int x1), (2, .int x2), (3, .int x3), (4, .long x4), (8, .int x8)] [.long s1, .long s0] I J := by
  refine s_aload_n 0 dX7_asked_79 rfl ?_
  refine g_X7_59 dX7_asked_80 rfl ?_
  refine s_iconst (v := 3) dX7_asked_83 rfl ?_
  refine s_iload 5 dX7_asked_84 rfl ?_
  refine s_imul dX7_asked_86 ?_
  refine s_iload_n 3 dX7_asked_87 rfl ?_
  refine s_iadd dX7_asked_88 ?_
  refine s_eqi e88 ?_
  refine s_laloadN aJ_R17 h89 (by decide) dX7_asked_89 ?_
  refine s_lload 4 dX7_asked_90 rfl ?_
  exact k
theorem bX7_asked_95 {l : Launch} {D : va_G} {aI aL : ClassId} {ad : Nat → Nat} {P : sa_P} {I : sa_I} {J : sa_J} {x1 : Int32} {x2 : Int32} {x3 : Int32} {x4 : Int64} {x8 : Int32} {s0 : Int64} {s1 : Int64} {s2 : Int64}   (k : Sat (ER l D aI aL ad) M_X7_asked P 99 [(0, .ref (ad 0)), (1, .int x1), (2, .int x2), (3, .int x3), (4, .long x4), (8, .int x8)] [.long x4, .long (s0 + (s1 * s2))] I J) : Sat (ER l D aI aL ad) M_X7_asked P 95 [(0, .ref (ad 0)), (1, .int x1), (2, .int x2), (3, .int x3), (4, .long x4), (8, .int x8)] [.long s2, .long s1, .long s0] I J := by
  refine s_lmul dX7_asked_95 ?_
  refine s_ladd dX7_asked_96 ?_
  refine s_lload 4 dX7_asked_97 rfl ?_
  exact k
theorem bX7_asked_102 {l : Launch} {D : va_G} {aI aL : ClassId} {ad : Nat → Nat} {P : sa_P} {I : sa_I} {J : sa_J} {x1 : Int32} {x2 : Int32} {x3 : Int32} {x4 : Int64} {x8 : Int32} {s0 : Int64} {v104 : Int32}  (f104 : x8 + 1 = v104) (k : Sat (ER l D aI aL ad) M_X7_asked P 6 [(0, .ref (ad 0)), (1, .int x1), (2, .int x2), (3, .int x3), (4, .long x4), (6, .long s0), (8, .int v104)] [] I J) : Sat (ER l D aI aL ad) M_X7_asked P 102 [(0, .ref (ad 0)), (1, .int x1), (2, .int x2), (3, .int x3), (4, .long x4), (8, .int x8)] [.long s0] I J := by
  refine s_lstore [(6, .long s0), (0, .ref (ad 0)), (1, .int x1), (2, .int x2), (3, .int x3), (4, .long x4), (8, .int x8)] dX7_asked_102 (Nat.lt_of_lt_of_le (Nat.lt_succ_self _) (Nat.le_of_ble_eq_true rfl)) rfl ?_
  refine s_iinc 6 v104 [(8, .int v104), (6, .long s0), (0, .ref (ad 0)), (1, .int x1), (2, .int x2), (3, .int x3), (4, .long x4)] dX7_asked_104 rfl f104 (Nat.lt_of_lt_of_le (Nat.lt_succ_self _) (Nat.le_of_ble_eq_true rfl)) rfl ?_
  refine s_goto (tgt := 6) dX7_asked_107 (by decide) ?_
  refine s_pick [2, 3, 4, 5, 6, 1, 0] [(0, .ref (ad 0)), (1, .int x1), (2, .int x2), (3, .int x3), (4, .long x4), (6, .long s0), (8, .int v104)] rfl ?_; exact k
theorem bX7_asked_110 {l : Launch} {D : va_G} {aI aL : ClassId} {ad : Nat → Nat} {P : sa_P} {I : sa_I} {J : sa_J} {x6 : Int64}   (k : P (some (.long x6)) I J) : Sat (ER l D aI aL ad) M_X7_asked P 110 [(6, .long x6)] [] I J := by
  refine s_lload 0 dX7_asked_110 rfl ?_
  exact s_lret rfl dX7_asked_112 k
/-! X7_join -/
theorem dX7_join_0 : decode cX7_join 0 = .ok (.aload_n 0, 1) := by decide +kernel
theorem dX7_join_1 : decode cX7_join 1 = .ok (.invokevirtual 203, 3) := by decide +kernel
theorem dX7_join_4 : decode cX7_join 4 = .ok (.ifCond .ne 10, 3) := by decide +kernel
theorem dX7_join_7 : decode cX7_join 7 = .ok (.aload_n 0, 1) := by decide +kernel
theorem dX7_join_8 : decode cX7_join 8 = .ok (.bipush (-3), 2) := by decide +kernel
theorem dX7_join_10 : decode cX7_join 10 = .ok (.invokevirtual 84, 3) := by decide +kernel
theorem dX7_join_13 : decode cX7_join 13 = .ok (.ireturn, 1) := by decide +kernel
theorem dX7_join_14 : decode cX7_join 14 = .ok (.aload_n 0, 1) := by decide +kernel
theorem dX7_join_15 : decode cX7_join 15 = .ok (.iload_n 2, 1) := by decide +kernel
theorem dX7_join_16 : decode cX7_join 16 = .ok (.invokevirtual 282, 3) := by decide +kernel
theorem dX7_join_19 : decode cX7_join 19 = .ok (.ifCond .eq 11, 3) := by decide +kernel
theorem dX7_join_22 : decode cX7_join 22 = .ok (.aload_n 0, 1) := by decide +kernel
theorem dX7_join_23 : decode cX7_join 23 = .ok (.iload_n 3, 1) := by decide +kernel
theorem dX7_join_24 : decode cX7_join 24 = .ok (.invokevirtual 282, 3) := by decide +kernel
theorem dX7_join_27 : decode cX7_join 27 = .ok (.ifCond .ne 9, 3) := by decide +kernel
theorem dX7_join_30 : decode cX7_join 30 = .ok (.aload_n 0, 1) := by decide +kernel
theorem dX7_join_31 : decode cX7_join 31 = .ok (.iconst (-1), 1) := by decide +kernel
theorem dX7_join_32 : decode cX7_join 32 = .ok (.invokevirtual 84, 3) := by decide +kernel
theorem dX7_join_35 : decode cX7_join 35 = .ok (.ireturn, 1) := by decide +kernel
theorem dX7_join_36 : decode cX7_join 36 = .ok (.iload_n 1, 1) := by decide +kernel
theorem dX7_join_37 : decode cX7_join 37 = .ok (.iconst 3, 1) := by decide +kernel
theorem dX7_join_38 : decode cX7_join 38 = .ok (.invokestatic 210, 3) := by decide +kernel
theorem dX7_join_41 : decode cX7_join 41 = .ok (.ifCond .ne 10, 3) := by decide +kernel
theorem dX7_join_44 : decode cX7_join 44 = .ok (.aload_n 0, 1) := by decide +kernel
theorem dX7_join_45 : decode cX7_join 45 = .ok (.bipush (-2), 2) := by decide +kernel
theorem dX7_join_47 : decode cX7_join 47 = .ok (.invokevirtual 84, 3) := by decide +kernel
theorem dX7_join_50 : decode cX7_join 50 = .ok (.ireturn, 1) := by decide +kernel
theorem dX7_join_51 : decode cX7_join 51 = .ok (.aload_n 0, 1) := by decide +kernel
theorem dX7_join_52 : decode cX7_join 52 = .ok (.iload_n 2, 1) := by decide +kernel
theorem dX7_join_53 : decode cX7_join 53 = .ok (.aload_n 0, 1) := by decide +kernel
theorem dX7_join_54 : decode cX7_join 54 = .ok (.getfield 53, 3) := by decide +kernel
theorem dX7_join_57 : decode cX7_join 57 = .ok (.invokevirtual 285, 3) := by decide +kernel
theorem dX7_join_60 : decode cX7_join 60 = .ok (.aload_n 0, 1) := by decide +kernel
theorem dX7_join_61 : decode cX7_join 61 = .ok (.iload_n 3, 1) := by decide +kernel
theorem dX7_join_62 : decode cX7_join 62 = .ok (.aload_n 0, 1) := by decide +kernel
theorem dX7_join_63 : decode cX7_join 63 = .ok (.getfield 56, 3) := by decide +kernel
theorem dX7_join_66 : decode cX7_join 66 = .ok (.invokevirtual 285, 3) := by decide +kernel
theorem dX7_join_69 : decode cX7_join 69 = .ok (.iload_n 1, 1) := by decide +kernel
theorem dX7_join_70 : decode cX7_join 70 = .ok (.iconst 2, 1) := by decide +kernel
theorem dX7_join_71 : decode cX7_join 71 = .ok (.if_icmp .ne 26, 3) := by decide +kernel
theorem dX7_join_74 : decode cX7_join 74 = .ok (.aload_n 0, 1) := by decide +kernel
theorem dX7_join_75 : decode cX7_join 75 = .ok (.invokevirtual 288, 3) := by decide +kernel
theorem dX7_join_78 : decode cX7_join 78 = .ok (.ifCond .ne 10, 3) := by decide +kernel
theorem dX7_join_81 : decode cX7_join 81 = .ok (.aload_n 0, 1) := by decide +kernel
theorem dX7_join_82 : decode cX7_join 82 = .ok (.bipush (-3), 2) := by decide +kernel
theorem dX7_join_84 : decode cX7_join 84 = .ok (.invokevirtual 84, 3) := by decide +kernel
theorem dX7_join_87 : decode cX7_join 87 = .ok (.ireturn, 1) := by decide +kernel
theorem dX7_join_88 : decode cX7_join 88 = .ok (.aload_n 0, 1) := by decide +kernel
theorem dX7_join_89 : decode cX7_join 89 = .ok (.invokevirtual 291, 3) := by decide +kernel
theorem dX7_join_92 : decode cX7_join 92 = .ok (.aload_n 0, 1) := by decide +kernel
theorem dX7_join_93 : decode cX7_join 93 = .ok (.invokevirtual 263, 3) := by decide +kernel
theorem dX7_join_96 : decode cX7_join 96 = .ok (.ireturn, 1) := by decide +kernel
theorem dX7_join_97 : decode cX7_join 97 = .ok (.iload_n 1, 1) := by decide +kernel
theorem dX7_join_98 : decode cX7_join 98 = .ok (.iconst 1, 1) := by decide +kernel
theorem dX7_join_99 : decode cX7_join 99 = .ok (.if_icmp .ne 49, 3) := by decide +kernel
theorem dX7_join_102 : decode cX7_join 102 = .ok (.aload_n 0, 1) := by decide +kernel
theorem dX7_join_103 : decode cX7_join 103 = .ok (.getfield 53, 3) := by decide +kernel
theorem dX7_join_106 : decode cX7_join 106 = .ok (.aload_n 0, 1) := by decide +kernel
theorem dX7_join_107 : decode cX7_join 107 = .ok (.getfield 101, 3) := by decide +kernel
theorem dX7_join_110 : decode cX7_join 110 = .ok (.invokestatic 267, 3) := by decide +kernel
theorem dX7_join_113 : decode cX7_join 113 = .ok (.aload_n 0, 1) := by decide +kernel
theorem dX7_join_114 : decode cX7_join 114 = .ok (.getfield 56, 3) := by decide +kernel
theorem dX7_join_117 : decode cX7_join 117 = .ok (.aload_n 0, 1) := by decide +kernel
theorem dX7_join_118 : decode cX7_join 118 = .ok (.getfield 101, 3) := by decide +kernel
theorem dX7_join_121 : decode cX7_join 121 = .ok (.invokestatic 267, 3) := by decide +kernel
theorem dX7_join_124 : decode cX7_join 124 = .ok (.lmul, 1) := by decide +kernel
theorem dX7_join_125 : decode cX7_join 125 = .ok (.ldc2_w 242, 3) := by decide +kernel
theorem dX7_join_128 : decode cX7_join 128 = .ok (.lcmp, 1) := by decide +kernel
theorem dX7_join_129 : decode cX7_join 129 = .ok (.ifCond .le 10, 3) := by decide +kernel
theorem dX7_join_132 : decode cX7_join 132 = .ok (.aload_n 0, 1) := by decide +kernel
theorem dX7_join_133 : decode cX7_join 133 = .ok (.bipush (-6), 2) := by decide +kernel
theorem dX7_join_135 : decode cX7_join 135 = .ok (.invokevirtual 84, 3) := by decide +kernel
theorem dX7_join_138 : decode cX7_join 138 = .ok (.ireturn, 1) := by decide +kernel
theorem dX7_join_139 : decode cX7_join 139 = .ok (.aload_n 0, 1) := by decide +kernel
theorem dX7_join_140 : decode cX7_join 140 = .ok (.invokevirtual 294, 3) := by decide +kernel
theorem dX7_join_143 : decode cX7_join 143 = .ok (.aload_n 0, 1) := by decide +kernel
theorem dX7_join_144 : decode cX7_join 144 = .ok (.invokevirtual 263, 3) := by decide +kernel
theorem dX7_join_147 : decode cX7_join 147 = .ok (.ireturn, 1) := by decide +kernel
theorem dX7_join_148 : decode cX7_join 148 = .ok (.aload_n 0, 1) := by decide +kernel
theorem dX7_join_149 : decode cX7_join 149 = .ok (.iconst 0, 1) := by decide +kernel
theorem dX7_join_150 : decode cX7_join 150 = .ok (.putfield 244, 3) := by decide +kernel
theorem dX7_join_153 : decode cX7_join 153 = .ok (.iconst 0, 1) := by decide +kernel
theorem dX7_join_154 : decode cX7_join 154 = .ok (.istore 4, 2) := by decide +kernel
theorem dX7_join_156 : decode cX7_join 156 = .ok (.iload 4, 2) := by decide +kernel
theorem dX7_join_158 : decode cX7_join 158 = .ok (.aload_n 0, 1) := by decide +kernel
theorem dX7_join_159 : decode cX7_join 159 = .ok (.getfield 101, 3) := by decide +kernel
theorem dX7_join_162 : decode cX7_join 162 = .ok (.if_icmp .ge 44, 3) := by decide +kernel
theorem dX7_join_165 : decode cX7_join 165 = .ok (.aload_n 0, 1) := by decide +kernel
theorem dX7_join_166 : decode cX7_join 166 = .ok (.aload_n 0, 1) := by decide +kernel
theorem dX7_join_167 : decode cX7_join 167 = .ok (.getfield 53, 3) := by decide +kernel
theorem dX7_join_170 : decode cX7_join 170 = .ok (.iconst 3, 1) := by decide +kernel
theorem dX7_join_171 : decode cX7_join 171 = .ok (.iload 4, 2) := by decide +kernel
theorem dX7_join_173 : decode cX7_join 173 = .ok (.imul, 1) := by decide +kernel
theorem dX7_join_174 : decode cX7_join 174 = .ok (.laload, 1) := by decide +kernel
theorem dX7_join_175 : decode cX7_join 175 = .ok (.aload_n 0, 1) := by decide +kernel
theorem dX7_join_176 : decode cX7_join 176 = .ok (.getfield 53, 3) := by decide +kernel
theorem dX7_join_179 : decode cX7_join 179 = .ok (.iconst 3, 1) := by decide +kernel
theorem dX7_join_180 : decode cX7_join 180 = .ok (.iload 4, 2) := by decide +kernel
theorem dX7_join_182 : decode cX7_join 182 = .ok (.imul, 1) := by decide +kernel
theorem dX7_join_183 : decode cX7_join 183 = .ok (.iconst 1, 1) := by decide +kernel
theorem dX7_join_184 : decode cX7_join 184 = .ok (.iadd, 1) := by decide +kernel
theorem dX7_join_185 : decode cX7_join 185 = .ok (.laload, 1) := by decide +kernel
theorem dX7_join_186 : decode cX7_join 186 = .ok (.aload_n 0, 1) := by decide +kernel
theorem dX7_join_187 : decode cX7_join 187 = .ok (.getfield 53, 3) := by decide +kernel
theorem dX7_join_190 : decode cX7_join 190 = .ok (.iconst 3, 1) := by decide +kernel
theorem dX7_join_191 : decode cX7_join 191 = .ok (.iload 4, 2) := by decide +kernel
theorem dX7_join_193 : decode cX7_join 193 = .ok (.imul, 1) := by decide +kernel
theorem dX7_join_194 : decode cX7_join 194 = .ok (.iconst 2, 1) := by decide +kernel
theorem dX7_join_195 : decode cX7_join 195 = .ok (.iadd, 1) := by decide +kernel
theorem dX7_join_196 : decode cX7_join 196 = .ok (.laload, 1) := by decide +kernel
theorem dX7_join_197 : decode cX7_join 197 = .ok (.invokevirtual 255, 3) := by decide +kernel
theorem dX7_join_200 : decode cX7_join 200 = .ok (.iinc 4 1, 3) := by decide +kernel
theorem dX7_join_203 : decode cX7_join 203 = .ok (.goto (-47), 3) := by decide +kernel
theorem dX7_join_206 : decode cX7_join 206 = .ok (.iconst 0, 1) := by decide +kernel
theorem dX7_join_207 : decode cX7_join 207 = .ok (.istore 4, 2) := by decide +kernel
theorem dX7_join_209 : decode cX7_join 209 = .ok (.iload 4, 2) := by decide +kernel
theorem dX7_join_211 : decode cX7_join 211 = .ok (.aload_n 0, 1) := by decide +kernel
theorem dX7_join_212 : decode cX7_join 212 = .ok (.getfield 101, 3) := by decide +kernel
theorem dX7_join_215 : decode cX7_join 215 = .ok (.if_icmp .ge 44, 3) := by decide +kernel
theorem dX7_join_218 : decode cX7_join 218 = .ok (.aload_n 0, 1) := by decide +kernel
theorem dX7_join_219 : decode cX7_join 219 = .ok (.aload_n 0, 1) := by decide +kernel
theorem dX7_join_220 : decode cX7_join 220 = .ok (.getfield 56, 3) := by decide +kernel
theorem dX7_join_223 : decode cX7_join 223 = .ok (.iconst 3, 1) := by decide +kernel
theorem dX7_join_224 : decode cX7_join 224 = .ok (.iload 4, 2) := by decide +kernel
theorem dX7_join_226 : decode cX7_join 226 = .ok (.imul, 1) := by decide +kernel
theorem dX7_join_227 : decode cX7_join 227 = .ok (.laload, 1) := by decide +kernel
theorem dX7_join_228 : decode cX7_join 228 = .ok (.aload_n 0, 1) := by decide +kernel
theorem dX7_join_229 : decode cX7_join 229 = .ok (.getfield 56, 3) := by decide +kernel
theorem dX7_join_232 : decode cX7_join 232 = .ok (.iconst 3, 1) := by decide +kernel
theorem dX7_join_233 : decode cX7_join 233 = .ok (.iload 4, 2) := by decide +kernel
theorem dX7_join_235 : decode cX7_join 235 = .ok (.imul, 1) := by decide +kernel
theorem dX7_join_236 : decode cX7_join 236 = .ok (.iconst 1, 1) := by decide +kernel
theorem dX7_join_237 : decode cX7_join 237 = .ok (.iadd, 1) := by decide +kernel
theorem dX7_join_238 : decode cX7_join 238 = .ok (.laload, 1) := by decide +kernel
theorem dX7_join_239 : decode cX7_join 239 = .ok (.aload_n 0, 1) := by decide +kernel
theorem dX7_join_240 : decode cX7_join 240 = .ok (.getfield 56, 3) := by decide +kernel
theorem dX7_join_243 : decode cX7_join 243 = .ok (.iconst 3, 1) := by decide +kernel
theorem dX7_join_244 : decode cX7_join 244 = .ok (.iload 4, 2) := by decide +kernel
theorem dX7_join_246 : decode cX7_join 246 = .ok (.imul, 1) := by decide +kernel
theorem dX7_join_247 : decode cX7_join 247 = .ok (.iconst 2, 1) := by decide +kernel
theorem dX7_join_248 : decode cX7_join 248 = .ok (.iadd, 1) := by decide +kernel
theorem dX7_join_249 : decode cX7_join 249 = .ok (.laload, 1) := by decide +kernel
theorem dX7_join_250 : decode cX7_join 250 = .ok (.invokevirtual 255, 3) := by decide +kernel
theorem dX7_join_253 : decode cX7_join 253 = .ok (.iinc 4 1, 3) := by decide +kernel
theorem dX7_join_256 : decode cX7_join 256 = .ok (.goto (-47), 3) := by decide +kernel
theorem dX7_join_259 : decode cX7_join 259 = .ok (.aload_n 0, 1) := by decide +kernel
theorem dX7_join_260 : decode cX7_join 260 = .ok (.aload_n 0, 1) := by decide +kernel
theorem dX7_join_261 : decode cX7_join 261 = .ok (.getfield 53, 3) := by decide +kernel
theorem dX7_join_264 : decode cX7_join 264 = .ok (.iconst 0, 1) := by decide +kernel
theorem dX7_join_265 : decode cX7_join 265 = .ok (.laload, 1) := by decide +kernel
theorem dX7_join_266 : decode cX7_join 266 = .ok (.invokevirtual 259, 3) := by decide +kernel
theorem dX7_join_269 : decode cX7_join 269 = .ok (.aload_n 0, 1) := by decide +kernel
theorem dX7_join_270 : decode cX7_join 270 = .ok (.invokevirtual 263, 3) := by decide +kernel
theorem dX7_join_273 : decode cX7_join 273 = .ok (.ireturn, 1) := by decide +kernel
theorem bX7_join_0 {l : Launch} {D : va_G} {aI aL : ClassId} {ad : Nat → Nat} {P : sa_P} {I : sa_I} {J : sa_J} {x1 : Int32} {x2 : Int32} {x3 : Int32}   (k : Sat (ER l D aI aL ad) M_X7_join P 1 [(0, .ref (ad 0)), (1, .int x1), (2, .int x2), (3, .int x3)] [.ref (ad 0)] I J) : Sat (ER l D aI aL ad) M_X7_join P 0 [(0, .ref (ad 0)), (1, .int x1), (2, .int x2), (3, .int x3)] [] I J := by
  refine s_aload_n 0 dX7_join_0 rfl ?_
  exact k
theorem bX7_join_4 {l : Launch} {D : va_G} {aI aL : ClassId} {ad : Nat → Nat} {P : sa_P} {I : sa_I} {J : sa_J} {x1 : Int32} {x2 : Int32} {x3 : Int32} {s0 : Int32}   (kt : ¬ s0 = 0 → Sat (ER l D aI aL ad) M_X7_join P 14 [(0, .ref (ad 0)), (1, .int x1), (2, .int x2), (3, .int x3)] [] I J) (kf : s0 = 0 → Sat (ER l D aI aL ad) M_X7_join P 7 [(0, .ref (ad 0))] [] I J) : Sat (ER l D aI aL ad) M_X7_join P 4 [(0, .ref (ad 0)), (1, .int x1), (2, .int x2), (3, .int x3)] [.int s0] I J := by
  refine s_if_ne (tgt := 14) dX7_join_4 (by decide) (fun c => ?_) (fun c => ?_)
  · exact kt c
  · refine s_pick [0] [(0, .ref (ad 0))] rfl ?_; exact kf (by first | exact c | exact Classical.not_not.mp c)
theorem bX7_join_7 {l : Launch} {D : va_G} {aI aL : ClassId} {ad : Nat → Nat} {P : sa_P} {I : sa_I} {J : sa_J}    (k : Sat (ER l D aI aL ad) M_X7_join P 10 [] [.int (-3 : Int32), .ref (ad 0)] I J) : Sat (ER l D aI aL ad) M_X7_join P 7 [(0, .ref (ad 0))] [] I J := by
  refine s_aload_n 0 dX7_join_7 rfl ?_
  refine s_bipush (v := -3) dX7_join_8 rfl ?_
  refine s_pick [] [] rfl ?_; exact k
theorem bX7_join_13 {l : Launch} {D : va_G} {aI aL : ClassId} {ad : Nat → Nat} {P : sa_P} {I : sa_I} {J : sa_J} {s0 : Int32}   (k : P (some (.int s0)) I J) : Sat (ER l D aI aL ad) M_X7_join P 13 [] [.int s0] I J := by
  exact s_iret rfl dX7_join_13 k
theorem bX7_join_14 {l : Launch} {D : va_G} {aI aL : ClassId} {ad : Nat → Nat} {P : sa_P} {I : sa_I} {J : sa_J} {x1 : Int32} {x2 : Int32} {x3 : Int32}   (k : Sat (ER l D aI aL ad) M_X7_join P 16 [(0, .ref (ad 0)), (1, .int x1), (2, .int x2), (3, .int x3)] [.int x2, .ref (ad 0)] I J) : Sat (ER l D aI aL ad) M_X7_join P 14 [(0, .ref (ad 0)), (1, .int x1), (2, .int x2), (3, .int x3)] [] I J := by
  refine s_aload_n 0 dX7_join_14 rfl ?_
  refine s_iload_n 2 dX7_join_15 rfl ?_
  exact k
theorem bX7_join_19 {l : Launch} {D : va_G} {aI aL : ClassId} {ad : Nat → Nat} {P : sa_P} {I : sa_I} {J : sa_J} {x1 : Int32} {x2 : Int32} {x3 : Int32} {s0 : Int32}   (kt : s0 = 0 → Sat (ER l D aI aL ad) M_X7_join P 30 [(0, .ref (ad 0))] [] I J) (kf : ¬ s0 = 0 → Sat (ER l D aI aL ad) M_X7_join P 22 [(0, .ref (ad 0)), (1, .int x1), (2, .int x2), (3, .int x3)] [] I J) : Sat (ER l D aI aL ad) M_X7_join P 19 [(0, .ref (ad 0)), (1, .int x1), (2, .int x2), (3, .int x3)] [.int s0] I J := by
  refine s_if_eq (tgt := 30) dX7_join_19 (by decide) (fun c => ?_) (fun c => ?_)
  · refine s_pick [0] [(0, .ref (ad 0))] rfl ?_; exact kt c
  · exact kf c
theorem bX7_join_22 {l : Launch} {D : va_G} {aI aL : ClassId} {ad : Nat → Nat} {P : sa_P} {I : sa_I} {J : sa_J} {x1 : Int32} {x2 : Int32} {x3 : Int32}   (k : Sat (ER l D aI aL ad) M_X7_join P 24 [(0, .ref (ad 0)), (1, .int x1), (2, .int x2), (3, .int x3)] [.int x3, .ref (ad 0)] I J) : Sat (ER l D aI aL ad) M_X7_join P 22 [(0, .ref (ad 0)), (1, .int x1), (2, .int x2), (3, .int x3)] [] I J := by
  refine s_aload_n 0 dX7_join_22 rfl ?_
  refine s_iload_n 3 dX7_join_23 rfl ?_
  exact k
theorem bX7_join_27 {l : Launch} {D : va_G} {aI aL : ClassId} {ad : Nat → Nat} {P : sa_P} {I : sa_I} {J : sa_J} {x1 : Int32} {x2 : Int32} {x3 : Int32} {s0 : Int32}   (kt : ¬ s0 = 0 → Sat (ER l D aI aL ad) M_X7_join P 36 [(0, .ref (ad 0)), (1, .int x1), (2, .int x2), (3, .int x3)] [] I J) (kf : s0 = 0 → Sat (ER l D aI aL ad) M_X7_join P 30 [(0, .ref (ad 0))] [] I J) : Sat (ER l D aI aL ad) M_X7_join P 27 [(0, .ref (ad 0)), (1, .int x1), (2, .int x2), (3, .int x3)] [.int s0] I J := by
  refine s_if_ne (tgt := 36) dX7_join_27 (by decide) (fun c => ?_) (fun c => ?_)
  · exact kt c
  · refine s_pick [0] [(0, .ref (ad 0))] rfl ?_; exact kf (by first | exact c | exact Classical.not_not.mp c)
theorem bX7_join_30 {l : Launch} {D : va_G} {aI aL : ClassId} {ad : Nat → Nat} {P : sa_P} {I : sa_I} {J : sa_J}    (k : Sat (ER l D aI aL ad) M_X7_join P 32 [] [.int (-1 : Int32), .ref (ad 0)] I J) : Sat (ER l D aI aL ad) M_X7_join P 30 [(0, .ref (ad 0))] [] I J := by
  refine s_aload_n 0 dX7_join_30 rfl ?_
  refine s_iconst (v := -1) dX7_join_31 rfl ?_
  refine s_pick [] [] rfl ?_; exact k
theorem bX7_join_35 {l : Launch} {D : va_G} {aI aL : ClassId} {ad : Nat → Nat} {P : sa_P} {I : sa_I} {J : sa_J} {s0 : Int32}   (k : P (some (.int s0)) I J) : Sat (ER l D aI aL ad) M_X7_join P 35 [] [.int s0] I J := by
  exact s_iret rfl dX7_join_35 k
theorem bX7_join_36 {l : Launch} {D : va_G} {aI aL : ClassId} {ad : Nat → Nat} {P : sa_P} {I : sa_I} {J : sa_J} {x1 : Int32} {x2 : Int32} {x3 : Int32}   (k : Sat (ER l D aI aL ad) M_X7_join P 38 [(0, .ref (ad 0)), (1, .int x1), (2, .int x2), (3, .int x3)] [.int (3 : Int32), .int x1] I J) : Sat (ER l D aI aL ad) M_X7_join P 36 [(0, .ref (ad 0)), (1, .int x1), (2, .int x2), (3, .int x3)] [] I J := by
  refine s_iload_n 1 dX7_join_36 rfl ?_
  refine s_iconst (v := 3) dX7_join_37 rfl ?_
  exact k
theorem bX7_join_41 {l : Launch} {D : va_G} {aI aL : ClassId} {ad : Nat → Nat} {P : sa_P} {I : sa_I} {J : sa_J} {x1 : Int32} {x2 : Int32} {x3 : Int32} {s0 : Int32}   (kt : ¬ s0 = 0 → Sat (ER l D aI aL ad) M_X7_join P 51 [(0, .ref (ad 0)), (1, .int x1), (2, .int x2), (3, .int x3)] [] I J) (kf : s0 = 0 → Sat (ER l D aI aL ad) M_X7_join P 44 [(0, .ref (ad 0))] [] I J) : Sat (ER l D aI aL ad) M_X7_join P 41 [(0, .ref (ad 0)), (1, .int x1), (2, .int x2), (3, .int x3)] [.int s0] I J := by
  refine s_if_ne (tgt := 51) dX7_join_41 (by decide) (fun c => ?_) (fun c => ?_)
  · exact kt c
  · refine s_pick [0] [(0, .ref (ad 0))] rfl ?_; exact kf (by first | exact c | exact Classical.not_not.mp c)
theorem bX7_join_44 {l : Launch} {D : va_G} {aI aL : ClassId} {ad : Nat → Nat} {P : sa_P} {I : sa_I} {J : sa_J}    (k : Sat (ER l D aI aL ad) M_X7_join P 47 [] [.int (-2 : Int32), .ref (ad 0)] I J) : Sat (ER l D aI aL ad) M_X7_join P 44 [(0, .ref (ad 0))] [] I J := by
  refine s_aload_n 0 dX7_join_44 rfl ?_
  refine s_bipush (v := -2) dX7_join_45 rfl ?_
  refine s_pick [] [] rfl ?_; exact k
theorem bX7_join_50 {l : Launch} {D : va_G} {aI aL : ClassId} {ad : Nat → Nat} {P : sa_P} {I : sa_I} {J : sa_J} {s0 : Int32}   (k : P (some (.int s0)) I J) : Sat (ER l D aI aL ad) M_X7_join P 50 [] [.int s0] I J := by
  exact s_iret rfl dX7_join_50 k
theorem bX7_join_51 {l : Launch} {D : va_G} {aI aL : ClassId} {ad : Nat → Nat} {P : sa_P} {I : sa_I} {J : sa_J} {x1 : Int32} {x2 : Int32} {x3 : Int32}   (k : Sat (ER l D aI aL ad) M_X7_join P 57 [(0, .ref (ad 0)), (1, .int x1), (3, .int x3)] [.ref (ad 15), .int x2, .ref (ad 0)] I J) : Sat (ER l D aI aL ad) M_X7_join P 51 [(0, .ref (ad 0)), (1, .int x1), (2, .int x2), (3, .int x3)] [] I J := by
  refine s_aload_n 0 dX7_join_51 rfl ?_
  refine s_iload_n 2 dX7_join_52 rfl ?_
  refine s_aload_n 0 dX7_join_53 rfl ?_
  refine g_X7_53 dX7_join_54 rfl ?_
  refine s_pick [0, 1, 3] [(0, .ref (ad 0)), (1, .int x1), (3, .int x3)] rfl ?_; exact k
theorem bX7_join_60 {l : Launch} {D : va_G} {aI aL : ClassId} {ad : Nat → Nat} {P : sa_P} {I : sa_I} {J : sa_J} {x1 : Int32} {x3 : Int32}   (k : Sat (ER l D aI aL ad) M_X7_join P 66 [(0, .ref (ad 0)), (1, .int x1)] [.ref (ad 16), .int x3, .ref (ad 0)] I J) : Sat (ER l D aI aL ad) M_X7_join P 60 [(0, .ref (ad 0)), (1, .int x1), (3, .int x3)] [] I J := by
  refine s_aload_n 0 dX7_join_60 rfl ?_
  refine s_iload_n 2 dX7_join_61 rfl ?_
  refine s_aload_n 0 dX7_join_62 rfl ?_
  refine g_X7_56 dX7_join_63 rfl ?_
  refine s_pick [0, 1] [(0, .ref (ad 0)), (1, .int x1)] rfl ?_; exact k
theorem bX7_join_69 {l : Launch} {D : va_G} {aI aL : ClassId} {ad : Nat → Nat} {P : sa_P} {I : sa_I} {J : sa_J} {x1 : Int32}   (kt : ¬ x1 = (2 : Int32) → Sat (ER l D aI aL ad) M_X7_join P 97 [(0, .ref (ad 0)), (1, .int x1)] [] I J) (kf : x1 = (2 : Int32) → Sat (ER l D aI aL ad) M_X7_join P 74 [(0, .ref (ad 0))] [] I J) : Sat (ER l D aI aL ad) M_X7_join P 69 [(0, .ref (ad 0)), (1, .int x1)] [] I J := by
  refine s_iload_n 1 dX7_join_69 rfl ?_
  refine s_iconst (v := 2) dX7_join_70 rfl ?_
  refine s_icmp_ne (tgt := 97) dX7_join_71 (by decide) (fun c => ?_) (fun c => ?_)
  · exact kt c
  · refine s_pick [0] [(0, .ref (ad 0))] rfl ?_; exact kf (by first | exact c | exact Classical.not_not.mp c)
theorem bX7_join_74 {l : Launch} {D : va_G} {aI aL : ClassId} {ad : Nat → Nat} {P : sa_P} {I : sa_I} {J : sa_J}    (k : Sat (ER l D aI aL ad) M_X7_join P 75 [(0, .ref (ad 0))] [.ref (ad 0)] I J) : Sat (ER l D aI aL ad) M_X7_join P 74 [(0, .ref (ad 0))] [] I J := by
  refine s_aload_n 0 dX7_join_74 rfl ?_
  exact k
theorem bX7_join_78 {l : Launch} {D : va_G} {aI aL : ClassId} {ad : Nat → Nat} {P : sa_P} {I : sa_I} {J : sa_J} {s0 : Int32}   (kt : ¬ s0 = 0 → Sat (ER l D aI aL ad) M_X7_join P 88 [(0, .ref (ad 0))] [] I J) (kf : s0 = 0 → Sat (ER l D aI aL ad) M_X7_join P 81 [(0, .ref (ad 0))] [] I J) : Sat (ER l D aI aL ad) M_X7_join P 78 [(0, .ref (ad 0))] [.int s0] I J := by
  refine s_if_ne (tgt := 88) dX7_join_78 (by decide) (fun c => ?_) (fun c => ?_)
  · exact kt c
  · exact kf (by first | exact c | exact Classical.not_not.mp c)
theorem bX7_join_81 {l : Launch} {D : va_G} {aI aL : ClassId} {ad : Nat → Nat} {P : sa_P} {I : sa_I} {J : sa_J}    (k : Sat (ER l D aI aL ad) M_X7_join P 84 [] [.int (-3 : Int32), .ref (ad 0)] I J) : Sat (ER l D aI aL ad) M_X7_join P 81 [(0, .ref (ad 0))] [] I J := by
  refine s_aload_n 0 dX7_join_81 rfl ?_
  refine s_bipush (v := -3) dX7_join_82 rfl ?_
  refine s_pick [] [] rfl ?_; exact k
theorem bX7_join_87 {l : Launch} {D : va_G} {aI aL : ClassId} {ad : Nat → Nat} {P : sa_P} {I : sa_I} {J : sa_J} {s0 : Int32}   (k : P (some (.int s0)) I J) : Sat (ER l D aI aL ad) M_X7_join P 87 [] [.int s0] I J := by
  exact s_iret rfl dX7_join_87 k
theorem bX7_join_88 {l : Launch} {D : va_G} {aI aL : ClassId} {ad : Nat → Nat} {P : sa_P} {I : sa_I} {J : sa_J}    (k : Sat (ER l D aI aL ad) M_X7_join P 89 [(0, .ref (ad 0))] [.ref (ad 0)] I J) : Sat (ER l D aI aL ad) M_X7_join P 88 [(0, .ref (ad 0))] [] I J := by
  refine s_aload_n 0 dX7_join_88 rfl ?_
  exact k
theorem bX7_join_92 {l : Launch} {D : va_G} {aI aL : ClassId} {ad : Nat → Nat} {P : sa_P} {I : sa_I} {J : sa_J}    (k : Sat (ER l D aI aL ad) M_X7_join P 93 [] [.ref (ad 0)] I J) : Sat (ER l D aI aL ad) M_X7_join P 92 [(0, .ref (ad 0))] [] I J := by
  refine s_aload_n 0 dX7_join_92 rfl ?_
  refine s_pick [] [] rfl ?_; exact k
theorem bX7_join_96 {l : Launch} {D : va_G} {aI aL : ClassId} {ad : Nat → Nat} {P : sa_P} {I : sa_I} {J : sa_J} {s0 : Int32}   (k : P (some (.int s0)) I J) : Sat (ER l D aI aL ad) M_X7_join P 96 [] [.int s0] I J := by
  exact s_iret rfl dX7_join_96 k
theorem bX7_join_97 {l : Launch} {D : va_G} {aI aL : ClassId} {ad : Nat → Nat} {P : sa_P} {I : sa_I} {J : sa_J} {x1 : Int32}   (kt : ¬ x1 = (1 : Int32) → Sat (ER l D aI aL ad) M_X7_join P 148 [(0, .ref (ad 0))] [] I J) (kf : x1 = (1 : Int32) → Sat (ER l D aI aL ad) M_X7_join P 102 [(0, .ref (ad 0))] [] I J) : Sat (ER l D aI aL ad) M_X7_join P 97 [(0, .ref (ad 0)), (1, .int x1)] [] I J := by
  refine s_iload_n 1 dX7_join_97 rfl ?_
  refine s_iconst (v := 1) dX7_join_98 rfl ?_
  refine s_icmp_ne (tgt := 148) dX7_join_99 (by decide) (fun c => ?_) (fun c => ?_)
  · refine s_pick [0] [(0, .ref (ad 0))] rfl ?_; exact kt c
  · refine s_pick [0] [(0, .ref (ad 0))] rfl ?_; exact kf (by first | exact c | exact Classical.not_not.mp c)
theorem bX7_join_102 {l : Launch} {D : va_G} {aI aL : ClassId} {ad : Nat → Nat} {P : sa_P} {I : sa_I} {J : sa_J}    (k : Sat (ER l D aI aL ad) M_X7_join P 110 [(0, .ref (ad 0))] [.int (I 0 1), .ref (ad 15)] I J) : Sat (ER l D aI aL ad) M_X7_join P 102 [(0, .ref (ad 0))] [] I J := by
  refine s_aload_n 0 dX7_join_102 rfl ?_
  refine g_X7_53 dX7_join_103 rfl ?_
  refine s_aload_n 0 dX7_join_106 rfl ?_
  refine g_X7_101 dX7_join_107 rfl ?_
  exact k
theorem bX7_join_113 {l : Launch} {D : va_G} {aI aL : ClassId} {ad : Nat → Nat} {P : sa_P} {I : sa_I} {J : sa_J} {s0 : Int64}   (k : Sat (ER l D aI aL ad) M_X7_join P 121 [(0, .ref (ad 0))] [.int (I 0 1), .ref (ad 16), .long s0] I J) : Sat (ER l D aI aL ad) M_X7_join P 113 [(0, .ref (ad 0))] [.long s0] I J := by
  refine s_aload_n 0 dX7_join_113 rfl ?_
  refine g_X7_56 dX7_join_114 rfl ?_
  refine s_aload_n 0 dX7_join_117 rfl ?_
  refine g_X7_101 dX7_join_118 rfl ?_
  exact k
theorem bX7_join_124 {l : Launch} {D : va_G} {aI aL : ClassId} {ad : Nat → Nat} {P : sa_P} {I : sa_I} {J : sa_J} {s0 : Int64} {s1 : Int64}   (kt : s0 * s1 ≤ (1000000 : Int64) → Sat (ER l D aI aL ad) M_X7_join P 139 [(0, .ref (ad 0))] [] I J) (kf : ¬ s0 * s1 ≤ (1000000 : Int64) → Sat (ER l D aI aL ad) M_X7_join P 132 [(0, .ref (ad 0))] [] I J) : Sat (ER l D aI aL ad) M_X7_join P 124 [(0, .ref (ad 0))] [.long s1, .long s0] I J := by
  refine s_lmul dX7_join_124 ?_
  refine s_ldc2 wk_X7_242 dX7_join_125 ?_
  refine s_lif_le (tgt := 139) dX7_join_128 dX7_join_129 (by decide) (fun c => ?_) (fun c => ?_)
  · exact kt c
  · exact kf c
theorem bX7_join_132 {l : Launch} {D : va_G} {aI aL : ClassId} {ad : Nat → Nat} {P : sa_P} {I : sa_I} {J : sa_J}    (k : Sat (ER l D aI aL ad) M_X7_join P 135 [] [.int (-6 : Int32), .ref (ad 0)] I J) : Sat (ER l D aI aL ad) M_X7_join P 132 [(0, .ref (ad 0))] [] I J := by
  refine s_aload_n 0 dX7_join_132 rfl ?_
  refine s_bipush (v := -6) dX7_join_133 rfl ?_
  refine s_pick [] [] rfl ?_; exact k
theorem bX7_join_138 {l : Launch} {D : va_G} {aI aL : ClassId} {ad : Nat → Nat} {P : sa_P} {I : sa_I} {J : sa_J} {s0 : Int32}   (k : P (some (.int s0)) I J) : Sat (ER l D aI aL ad) M_X7_join P 138 [] [.int s0] I J := by
  exact s_iret rfl dX7_join_138 k
theorem bX7_join_139 {l : Launch} {D : va_G} {aI aL : ClassId} {ad : Nat → Nat} {P : sa_P} {I : sa_I} {J : sa_J}    (k : Sat (ER l D aI aL ad) M_X7_join P 140 [(0, .ref (ad 0))] [.ref (ad 0)] I J) : Sat (ER l D aI aL ad) M_X7_join P 139 [(0, .ref (ad 0))] [] I J := by
  refine s_aload_n 0 dX7_join_139 rfl ?_
  exact k
theorem bX7_join_143 {l : Launch} {D : va_G} {aI aL : ClassId} {ad : Nat → Nat} {P : sa_P} {I : sa_I} {J : sa_J}    (k : Sat (ER l D aI aL ad) M_X7_join P 144 [] [.ref (ad 0)] I J) : Sat (ER l D aI aL ad) M_X7_join P 143 [(0, .ref (ad 0))] [] I J := by
  refine s_aload_n 0 dX7_join_143 rfl ?_
  refine s_pick [] [] rfl ?_; exact k
theorem bX7_join_147 {l : Launch} {D : va_G} {aI aL : ClassId} {ad : Nat → Nat} {P : sa_P} {I : sa_I} {J : sa_J} {s0 : Int32}   (k : P (some (.int s0)) I J) : Sat (ER l D aI aL ad) M_X7_join P 147 [] [.int s0] I J := by
  exact s_iret rfl dX7_join_147 k
theorem bX7_join_148 {l : Launch} {D : va_G} {aI aL : ClassId} {ad : Nat → Nat} {P : sa_P} {I : sa_I} {J : sa_J} {v150 : Int32} {v154 : Int32}  (f150 : (0 : Int32) = v150) (f154 : (0 : Int32) = v154) (k : Sat (ER l D aI aL ad) M_X7_join P 156 [(0, .ref (ad 0)), (4, .int v154)] [] (sa_uI I 0 27 v150) J) : Sat (ER l D aI aL ad) M_X7_join P 148 [(0, .ref (ad 0))] [] I J := by
  refine s_aload_n 0 dX7_join_148 rfl ?_
  refine s_iconst (v := 0) dX7_join_149 rfl ?_
  refine s_eqi f150 ?_
  refine p_X7_244 dX7_join_150 rfl ?_
  refine s_iconst (v := 0) dX7_join_153 rfl ?_
  refine s_eqi f154 ?_
  refine s_istore [(4, .int v154), (0, .ref (ad 0))] dX7_join_154 (Nat.lt_of_lt_of_le (Nat.lt_succ_self _) (Nat.le_of_ble_eq_true rfl)) rfl ?_
  refine s_pick [1, 0] [(0, .ref (ad 0)), (4, .int v154)] rfl ?_; exact k
theorem bX7_join_156 {l : Launch} {D : va_G} {aI aL : ClassId} {ad : Nat → Nat} {P : sa_P} {I : sa_I} {J : sa_J} {x4 : Int32}   (kt : I 0 1 ≤ x4 → Sat (ER l D aI aL ad) M_X7_join P 206 [(0, .ref (ad 0))] [] I J) (kf : ¬ I 0 1 ≤ x4 → Sat (ER l D aI aL ad) M_X7_join P 165 [(0, .ref (ad 0)), (4, .int x4)] [] I J) : Sat (ER l D aI aL ad) M_X7_join P 156 [(0, .ref (ad 0)), (4, .int x4)] [] I J := by
  refine s_iload 1 dX7_join_156 rfl ?_
  refine s_aload_n 0 dX7_join_158 rfl ?_
  refine g_X7_101 dX7_join_159 rfl ?_
  refine s_icmp_ge (tgt := 206) dX7_join_162 (by decide) (fun c => ?_) (fun c => ?_)
  · refine s_pick [0] [(0, .ref (ad 0))] rfl ?_; exact kt c
  · exact kf c
theorem bX7_join_165 {l : Launch} {D : va_G} {aI aL : ClassId} {ad : Nat → Nat} {P : sa_P} {I : sa_I} {J : sa_J} {x4 : Int32} {j173 : Nat} {j184 : Nat} {j195 : Nat} (e173 : (3 : Int32) * x4 = nI j173) (h174 : j173 < 9) (e184 : ((3 : Int32) * x4) + (1 : Int32) = nI j184) (h185 : j184 < 9) (e195 : ((3 : Int32) * x4) + (2 : Int32) = nI j195) (h196 : j195 < 9)  (k : Sat (ER l D aI aL ad) M_X7_join P 197 [(0, .ref (ad 0)), (4, .int x4)] [.long (J 15 j195), .long (J 15 j184), .long (J 15 j173), .ref (ad 0)] I J) : Sat (ER l D aI aL ad) M_X7_join P 165 [(0, .ref (ad 0)), (4, .int x4)] [] I J := by
  refine s_aload_n 0 dX7_join_165 rfl ?_
  refine s_aload_n 0 dX7_join_166 rfl ?_
  refine g_X7_53 dX7_join_167 rfl ?_
  refine s_iconst (v := 3) dX7_join_170 rfl ?_
  refine s_iload 1 dX7_join_171 rfl ?_
  refine s_imul dX7_join_173 ?_
  refine s_eqi e173 ?_
  refine s_laloadN aJ_R15 h174 (by decide) dX7_join_174 ?_
  refine s_aload_n 0 dX7_join_175 rfl ?_
  refine g_X7_53 dX7_join_176 rfl ?_
  refine s_iconst (v := 3) dX7_join_179 rfl ?_
  refine s_iload 1 dX7_join_180 rfl ?_
  refine s_imul dX7_join_182 ?_
  refine s_iconst (v := 1) dX7_join_183 rfl ?_
  refine s_iadd dX7_join_184 ?_
  refine s_eqi e184 ?_
  refine s_laloadN aJ_R15 h185 (by decide) dX7_join_185 ?_
  refine s_aload_n 0 dX7_join_186 rfl ?_
  refine g_X7_53 dX7_join_187 rfl ?_
  refine s_iconst (v := 3) dX7_join_190 rfl ?_
  refine s_iload 1 dX7_join_191 rfl ?_
  refine s_imul dX7_join_193 ?_
  refine s_iconst (v := 2) dX7_join_194 rfl ?_
  refine s_iadd dX7_join_195 ?_
  refine s_eqi e195 ?_
  refine s_laloadN aJ_R15 h196 (by decide) dX7_join_196 ?_
  exact k
theorem bX7_join_200 {l : Launch} {D : va_G} {aI aL : ClassId} {ad : Nat → Nat} {P : sa_P} {I : sa_I} {J : sa_J} {x4 : Int32} {v200 : Int32}  (f200 : x4 + 1 = v200) (k : Sat (ER l D aI aL ad) M_X7_join P 156 [(0, .ref (ad 0)), (4, .int v200)] [] I J) : Sat (ER l D aI aL ad) M_X7_join P 200 [(0, .ref (ad 0)), (4, .int x4)] [] I J := by
  refine s_iinc 1 v200 [(4, .int v200), (0, .ref (ad 0))] dX7_join_200 rfl f200 (Nat.lt_of_lt_of_le (Nat.lt_succ_self _) (Nat.le_of_ble_eq_true rfl)) rfl ?_
  refine s_goto (tgt := 156) dX7_join_203 (by decide) ?_
  refine s_pick [1, 0] [(0, .ref (ad 0)), (4, .int v200)] rfl ?_; exact k
theorem bX7_join_206 {l : Launch} {D : va_G} {aI aL : ClassId} {ad : Nat → Nat} {P : sa_P} {I : sa_I} {J : sa_J} {v207 : Int32}  (f207 : (0 : Int32) = v207) (k : Sat (ER l D aI aL ad) M_X7_join P 209 [(0, .ref (ad 0)), (4, .int v207)] [] I J) : Sat (ER l D aI aL ad) M_X7_join P 206 [(0, .ref (ad 0))] [] I J := by
  refine s_iconst (v := 0) dX7_join_206 rfl ?_
  refine s_eqi f207 ?_
  refine s_istore [(4, .int v207), (0, .ref (ad 0))] dX7_join_207 (Nat.lt_of_lt_of_le (Nat.lt_succ_self _) (Nat.le_of_ble_eq_true rfl)) rfl ?_
  refine s_pick [1, 0] [(0, .ref (ad 0)), (4, .int v207)] rfl ?_; exact k
theorem bX7_join_209 {l : Launch} {D : va_G} {aI aL : ClassId} {ad : Nat → Nat} {P : sa_P} {I : sa_I} {J : sa_J} {x4 : Int32}   (kt : I 0 1 ≤ x4 → Sat (ER l D aI aL ad) M_X7_join P 259 [(0, .ref (ad 0))] [] I J) (kf : ¬ I 0 1 ≤ x4 → Sat (ER l D aI aL ad) M_X7_join P 218 [(0, .ref (ad 0)), (4, .int x4)] [] I J) : Sat (ER l D aI aL ad) M_X7_join P 209 [(0, .ref (ad 0)), (4, .int x4)] [] I J := by
  refine s_iload 1 dX7_join_209 rfl ?_
  refine s_aload_n 0 dX7_join_211 rfl ?_
  refine g_X7_101 dX7_join_212 rfl ?_
  refine s_icmp_ge (tgt := 259) dX7_join_215 (by decide) (fun c => ?_) (fun c => ?_)
  · refine s_pick [0] [(0, .ref (ad 0))] rfl ?_; exact kt c
  · exact kf c
theorem bX7_join_218 {l : Launch} {D : va_G} {aI aL : ClassId} {ad : Nat → Nat} {P : sa_P} {I : sa_I} {J : sa_J} {x4 : Int32} {j226 : Nat} {j237 : Nat} {j248 : Nat} (e226 : (3 : Int32) * x4 = nI j226) (h227 : j226 < 9) (e237 : ((3 : Int32) * x4) + (1 : Int32) = nI j237) (h238 : j237 < 9) (e248 : ((3 : Int32) * x4) + (2 : Int32) = nI j248) (h249 : j248 < 9)  (k : Sat (ER l D aI aL ad) M_X7_join P 250 [(0, .ref (ad 0)), (4, .int x4)] [.long (J 16 j248), .long (J 16 j237), .long (J 16 j226), .ref (ad 0)] I J) : Sat (ER l D aI aL ad) M_X7_join P 218 [(0, .ref (ad 0)), (4, .int x4)] [] I J := by
  refine s_aload_n 0 dX7_join_218 rfl ?_
  refine s_aload_n 0 dX7_join_219 rfl ?_
  refine g_X7_56 dX7_join_220 rfl ?_
  refine s_iconst (v := 3) dX7_join_223 rfl ?_
  refine s_iload 1 dX7_join_224 rfl ?_
  refine s_imul dX7_join_226 ?_
  refine s_eqi e226 ?_
  refine s_laloadN aJ_R16 h227 (by decide) dX7_join_227 ?_
  refine s_aload_n 0 dX7_join_228 rfl ?_
  refine g_X7_56 dX7_join_229 rfl ?_
  refine s_iconst (v := 3) dX7_join_232 rfl ?_
  refine s_iload 1 dX7_join_233 rfl ?_
  refine s_imul dX7_join_235 ?_
  refine s_iconst (v := 1) dX7_join_236 rfl ?_
  refine s_iadd dX7_join_237 ?_
  refine s_eqi e237 ?_
  refine s_laloadN aJ_R16 h238 (by decide) dX7_join_238 ?_
  refine s_aload_n 0 dX7_join_239 rfl ?_
  refine g_X7_56 dX7_join_240 rfl ?_
  refine s_iconst (v := 3) dX7_join_243 rfl ?_
  refine s_iload 1 dX7_join_244 rfl ?_
  refine s_imul dX7_join_246 ?_
  refine s_iconst (v := 2) dX7_join_247 rfl ?_
  refine s_iadd dX7_join_248 ?_
  refine s_eqi e248 ?_
  refine s_laloadN aJ_R16 h249 (by decide) dX7_join_249 ?_
  exact k
theorem bX7_join_253 {l : Launch} {D : va_G} {aI aL : ClassId} {ad : Nat → Nat} {P : sa_P} {I : sa_I} {J : sa_J} {x4 : Int32} {v253 : Int32}  (f253 : x4 + 1 = v253) (k : Sat (ER l D aI aL ad) M_X7_join P 209 [(0, .ref (ad 0)), (4, .int v253)] [] I J) : Sat (ER l D aI aL ad) M_X7_join P 253 [(0, .ref (ad 0)), (4, .int x4)] [] I J := by
  refine s_iinc 1 v253 [(4, .int v253), (0, .ref (ad 0))] dX7_join_253 rfl f253 (Nat.lt_of_lt_of_le (Nat.lt_succ_self _) (Nat.le_of_ble_eq_true rfl)) rfl ?_
  refine s_goto (tgt := 209) dX7_join_256 (by decide) ?_
  refine s_pick [1, 0] [(0, .ref (ad 0)), (4, .int v253)] rfl ?_; exact k
theorem bX7_join_259 {l : Launch} {D : va_G} {aI aL : ClassId} {ad : Nat → Nat} {P : sa_P} {I : sa_I} {J : sa_J}    (k : Sat (ER l D aI aL ad) M_X7_join P 266 [(0, .ref (ad 0))] [.long (J 15 0), .ref (ad 0)] I J) : Sat (ER l D aI aL ad) M_X7_join P 259 [(0, .ref (ad 0))] [] I J := by
  refine s_aload_n 0 dX7_join_259 rfl ?_
  refine s_aload_n 0 dX7_join_260 rfl ?_
  refine g_X7_53 dX7_join_261 rfl ?_
  refine s_iconst (v := 0) dX7_join_264 rfl ?_
  refine s_eqi (y := nI 0) rfl ?_
  refine s_laloadN aJ_R15 (by decide) (by decide) dX7_join_265 ?_
  exact k
theorem bX7_join_269 {l : Launch} {D : va_G} {aI aL : ClassId} {ad : Nat → Nat} {P : sa_P} {I : sa_I} {J : sa_J}    (k : Sat (ER l D aI aL ad) M_X7_join P 270 [] [.ref (ad 0)] I J) : Sat (ER l D aI aL ad) M_X7_join P 269 [(0, .ref (ad 0))] [] I J := by
  refine s_aload_n 0 dX7_join_269 rfl ?_
  refine s_pick [] [] rfl ?_; exact k
theorem bX7_join_273 {l : Launch} {D : va_G} {aI aL : ClassId} {ad : Nat → Nat} {P : sa_P} {I : sa_I} {J : sa_J} {s0 : Int32}   (k : P (some (.int s0)) I J) : Sat (ER l D aI aL ad) M_X7_join P 273 [] [.int s0] I J := by
  exact s_iret rfl dX7_join_273 k
/-! X7_row -/
theorem dX7_row_0 : decode cX7_row 0 = .ok (.aload_n 0, 1) := by decide +kernel
theorem dX7_row_1 : decode cX7_row 1 = .ok (.invokevirtual 203, 3) := by decide +kernel
theorem dX7_row_4 : decode cX7_row 4 = .ok (.ifCond .ne 10, 3) := by decide +kernel
theorem dX7_row_7 : decode cX7_row 7 = .ok (.aload_n 0, 1) := by decide +kernel
theorem dX7_row_8 : decode cX7_row 8 = .ok (.bipush (-3), 2) := by decide +kernel
theorem dX7_row_10 : decode cX7_row 10 = .ok (.invokevirtual 84, 3) := by decide +kernel
theorem dX7_row_13 : decode cX7_row 13 = .ok (.ireturn, 1) := by decide +kernel
theorem dX7_row_14 : decode cX7_row 14 = .ok (.aload_n 0, 1) := by decide +kernel
theorem dX7_row_15 : decode cX7_row 15 = .ok (.iload_n 1, 1) := by decide +kernel
theorem dX7_row_16 : decode cX7_row 16 = .ok (.invokevirtual 282, 3) := by decide +kernel
theorem dX7_row_19 : decode cX7_row 19 = .ok (.ifCond .eq 43, 3) := by decide +kernel
theorem dX7_row_22 : decode cX7_row 22 = .ok (.iload_n 2, 1) := by decide +kernel
theorem dX7_row_23 : decode cX7_row 23 = .ok (.aload_n 0, 1) := by decide +kernel
theorem dX7_row_24 : decode cX7_row 24 = .ok (.getfield 101, 3) := by decide +kernel
theorem dX7_row_27 : decode cX7_row 27 = .ok (.invokestatic 210, 3) := by decide +kernel
theorem dX7_row_30 : decode cX7_row 30 = .ok (.ifCond .eq 32, 3) := by decide +kernel
theorem dX7_row_33 : decode cX7_row 33 = .ok (.iload_n 3, 1) := by decide +kernel
theorem dX7_row_34 : decode cX7_row 34 = .ok (.aload_n 0, 1) := by decide +kernel
theorem dX7_row_35 : decode cX7_row 35 = .ok (.getfield 101, 3) := by decide +kernel
theorem dX7_row_38 : decode cX7_row 38 = .ok (.invokestatic 210, 3) := by decide +kernel
theorem dX7_row_41 : decode cX7_row 41 = .ok (.ifCond .eq 21, 3) := by decide +kernel
theorem dX7_row_44 : decode cX7_row 44 = .ok (.aload_n 0, 1) := by decide +kernel
theorem dX7_row_45 : decode cX7_row 45 = .ok (.getfield 20, 3) := by decide +kernel
theorem dX7_row_48 : decode cX7_row 48 = .ok (.bipush 9, 2) := by decide +kernel
theorem dX7_row_50 : decode cX7_row 50 = .ok (.iload_n 1, 1) := by decide +kernel
theorem dX7_row_51 : decode cX7_row 51 = .ok (.imul, 1) := by decide +kernel
theorem dX7_row_52 : decode cX7_row 52 = .ok (.iconst 3, 1) := by decide +kernel
theorem dX7_row_53 : decode cX7_row 53 = .ok (.iload_n 2, 1) := by decide +kernel
theorem dX7_row_54 : decode cX7_row 54 = .ok (.imul, 1) := by decide +kernel
theorem dX7_row_55 : decode cX7_row 55 = .ok (.iadd, 1) := by decide +kernel
theorem dX7_row_56 : decode cX7_row 56 = .ok (.iload_n 3, 1) := by decide +kernel
theorem dX7_row_57 : decode cX7_row 57 = .ok (.iadd, 1) := by decide +kernel
theorem dX7_row_58 : decode cX7_row 58 = .ok (.iaload, 1) := by decide +kernel
theorem dX7_row_59 : decode cX7_row 59 = .ok (.goto 8, 3) := by decide +kernel
theorem dX7_row_62 : decode cX7_row 62 = .ok (.aload_n 0, 1) := by decide +kernel
theorem dX7_row_63 : decode cX7_row 63 = .ok (.iconst (-1), 1) := by decide +kernel
theorem dX7_row_64 : decode cX7_row 64 = .ok (.invokevirtual 84, 3) := by decide +kernel
theorem dX7_row_67 : decode cX7_row 67 = .ok (.ireturn, 1) := by decide +kernel
theorem bX7_row_0 {l : Launch} {D : va_G} {aI aL : ClassId} {ad : Nat → Nat} {P : sa_P} {I : sa_I} {J : sa_J} {x1 : Int32} {x2 : Int32} {x3 : Int32}   (k : Sat (ER l D aI aL ad) M_X7_row P 1 [(0, .ref (ad 0)), (1, .int x1), (2, .int x2), (3, .int x3)] [.ref (ad 0)] I J) : Sat (ER l D aI aL ad) M_X7_row P 0 [(0, .ref (ad 0)), (1, .int x1), (2, .int x2), (3, .int x3)] [] I J := by
  refine s_aload_n 0 dX7_row_0 rfl ?_
  exact k
theorem bX7_row_4 {l : Launch} {D : va_G} {aI aL : ClassId} {ad : Nat → Nat} {P : sa_P} {I : sa_I} {J : sa_J} {x1 : Int32} {x2 : Int32} {x3 : Int32} {s0 : Int32}   (kt : ¬ s0 = 0 → Sat (ER l D aI aL ad) M_X7_row P 14 [(0, .ref (ad 0)), (1, .int x1), (2, .int x2), (3, .int x3)] [] I J) (kf : s0 = 0 → Sat (ER l D aI aL ad) M_X7_row P 7 [(0, .ref (ad 0))] [] I J) : Sat (ER l D aI aL ad) M_X7_row P 4 [(0, .ref (ad 0)), (1, .int x1), (2, .int x2), (3, .int x3)] [.int s0] I J := by
  refine s_if_ne (tgt := 14) dX7_row_4 (by decide) (fun c => ?_) (fun c => ?_)
  · exact kt c
  · refine s_pick [0] [(0, .ref (ad 0))] rfl ?_; exact kf (by first | exact c | exact Classical.not_not.mp c)
theorem bX7_row_7 {l : Launch} {D : va_G} {aI aL : ClassId} {ad : Nat → Nat} {P : sa_P} {I : sa_I} {J : sa_J}    (k : Sat (ER l D aI aL ad) M_X7_row P 10 [] [.int (-3 : Int32), .ref (ad 0)] I J) : Sat (ER l D aI aL ad) M_X7_row P 7 [(0, .ref (ad 0))] [] I J := by
  refine s_aload_n 0 dX7_row_7 rfl ?_
  refine s_bipush (v := -3) dX7_row_8 rfl ?_
  refine s_pick [] [] rfl ?_; exact k
theorem bX7_row_13 {l : Launch} {D : va_G} {aI aL : ClassId} {ad : Nat → Nat} {P : sa_P} {I : sa_I} {J : sa_J} {s0 : Int32}   (k : P (some (.int s0)) I J) : Sat (ER l D aI aL ad) M_X7_row P 13 [] [.int s0] I J := by
  exact s_iret rfl dX7_row_13 k
theorem bX7_row_14 {l : Launch} {D : va_G} {aI aL : ClassId} {ad : Nat → Nat} {P : sa_P} {I : sa_I} {J : sa_J} {x1 : Int32} {x2 : Int32} {x3 : Int32}   (k : Sat (ER l D aI aL ad) M_X7_row P 16 [(0, .ref (ad 0)), (1, .int x1), (2, .int x2), (3, .int x3)] [.int x1, .ref (ad 0)] I J) : Sat (ER l D aI aL ad) M_X7_row P 14 [(0, .ref (ad 0)), (1, .int x1), (2, .int x2), (3, .int x3)] [] I J := by
  refine s_aload_n 0 dX7_row_14 rfl ?_
  refine s_iload_n 1 dX7_row_15 rfl ?_
  exact k
theorem bX7_row_19 {l : Launch} {D : va_G} {aI aL : ClassId} {ad : Nat → Nat} {P : sa_P} {I : sa_I} {J : sa_J} {x1 : Int32} {x2 : Int32} {x3 : Int32} {s0 : Int32}   (kt : s0 = 0 → Sat (ER l D aI aL ad) M_X7_row P 62 [(0, .ref (ad 0))] [] I J) (kf : ¬ s0 = 0 → Sat (ER l D aI aL ad) M_X7_row P 22 [(0, .ref (ad 0)), (1, .int x1), (2, .int x2), (3, .int x3)] [] I J) : Sat (ER l D aI aL ad) M_X7_row P 19 [(0, .ref (ad 0)), (1, .int x1), (2, .int x2), (3, .int x3)] [.int s0] I J := by
  refine s_if_eq (tgt := 62) dX7_row_19 (by decide) (fun c => ?_) (fun c => ?_)
  · refine s_pick [0] [(0, .ref (ad 0))] rfl ?_; exact kt c
  · exact kf c
theorem bX7_row_22 {l : Launch} {D : va_G} {aI aL : ClassId} {ad : Nat → Nat} {P : sa_P} {I : sa_I} {J : sa_J} {x1 : Int32} {x2 : Int32} {x3 : Int32}   (k : Sat (ER l D aI aL ad) M_X7_row P 27 [(0, .ref (ad 0)), (1, .int x1), (2, .int x2), (3, .int x3)] [.int (I 0 1), .int x2] I J) : Sat (ER l D aI aL ad) M_X7_row P 22 [(0, .ref (ad 0)), (1, .int x1), (2, .int x2), (3, .int x3)] [] I J := by
  refine s_iload_n 2 dX7_row_22 rfl ?_
  refine s_aload_n 0 dX7_row_23 rfl ?_
  refine g_X7_101 dX7_row_24 rfl ?_
  exact k
theorem bX7_row_30 {l : Launch} {D : va_G} {aI aL : ClassId} {ad : Nat → Nat} {P : sa_P} {I : sa_I} {J : sa_J} {x1 : Int32} {x2 : Int32} {x3 : Int32} {s0 : Int32}   (kt : s0 = 0 → Sat (ER l D aI aL ad) M_X7_row P 62 [(0, .ref (ad 0))] [] I J) (kf : ¬ s0 = 0 → Sat (ER l D aI aL ad) M_X7_row P 33 [(0, .ref (ad 0)), (1, .int x1), (2, .int x2), (3, .int x3)] [] I J) : Sat (ER l D aI aL ad) M_X7_row P 30 [(0, .ref (ad 0)), (1, .int x1), (2, .int x2), (3, .int x3)] [.int s0] I J := by
  refine s_if_eq (tgt := 62) dX7_row_30 (by decide) (fun c => ?_) (fun c => ?_)
  · refine s_pick [0] [(0, .ref (ad 0))] rfl ?_; exact kt c
  · exact kf c
theorem bX7_row_33 {l : Launch} {D : va_G} {aI aL : ClassId} {ad : Nat → Nat} {P : sa_P} {I : sa_I} {J : sa_J} {x1 : Int32} {x2 : Int32} {x3 : Int32}   (k : Sat (ER l D aI aL ad) M_X7_row P 38 [(0, .ref (ad 0)), (1, .int x1), (2, .int x2), (3, .int x3)] [.int (I 0 1), .int x3] I J) : Sat (ER l D aI aL ad) M_X7_row P 33 [(0, .ref (ad 0)), (1, .int x1), (2, .int x2), (3, .int x3)] [] I J := by
  refine s_iload_n 3 dX7_row_33 rfl ?_
  refine s_aload_n 0 dX7_row_34 rfl ?_
  refine g_X7_101 dX7_row_35 rfl ?_
  exact k
theorem bX7_row_41 {l : Launch} {D : va_G} {aI aL : ClassId} {ad : Nat → Nat} {P : sa_P} {I : sa_I} {J : sa_J} {x1 : Int32} {x2 : Int32} {x3 : Int32} {s0 : Int32}   (kt : s0 = 0 → Sat (ER l D aI aL ad) M_X7_row P 62 [(0, .ref (ad 0))] [] I J) (kf : ¬ s0 = 0 → Sat (ER l D aI aL ad) M_X7_row P 44 [(0, .ref (ad 0)), (1, .int x1), (2, .int x2), (3, .int x3)] [] I J) : Sat (ER l D aI aL ad) M_X7_row P 41 [(0, .ref (ad 0)), (1, .int x1), (2, .int x2), (3, .int x3)] [.int s0] I J := by
  refine s_if_eq (tgt := 62) dX7_row_41 (by decide) (fun c => ?_) (fun c => ?_)
  · refine s_pick [0] [(0, .ref (ad 0))] rfl ?_; exact kt c
  · exact kf c
theorem bX7_row_44 {l : Launch} {D : va_G} {aI aL : ClassId} {ad : Nat → Nat} {P : sa_P} {I : sa_I} {J : sa_J} {x1 : Int32} {x2 : Int32} {x3 : Int32} {j57 : Nat} (e57 : (((9 : Int32) * x1) + ((3 : Int32) * x2)) + x3 = nI j57) (h58 : j57 < 720)  (k : Sat (ER l D aI aL ad) M_X7_row P 67 [] [.int (I 4 j57)] I J) : Sat (ER l D aI aL ad) M_X7_row P 44 [(0, .ref (ad 0)), (1, .int x1), (2, .int x2), (3, .int x3)] [] I J := by
  refine s_aload_n 0 dX7_row_44 rfl ?_
  refine g_X7_20 dX7_row_45 rfl ?_
  refine s_bipush (v := 9) dX7_row_48 rfl ?_
  refine s_iload_n 1 dX7_row_50 rfl ?_
  refine s_imul dX7_row_51 ?_
  refine s_iconst (v := 3) dX7_row_52 rfl ?_
  refine s_iload_n 2 dX7_row_53 rfl ?_
  refine s_imul dX7_row_54 ?_
  refine s_iadd dX7_row_55 ?_
  refine s_iload_n 3 dX7_row_56 rfl ?_
  refine s_iadd dX7_row_57 ?_
  refine s_eqi e57 ?_
  refine s_ialoadN aI_R4 h58 (by decide) dX7_row_58 ?_
  refine s_goto (tgt := 67) dX7_row_59 (by decide) ?_
  refine s_pick [] [] rfl ?_; exact k
theorem bX7_row_62 {l : Launch} {D : va_G} {aI aL : ClassId} {ad : Nat → Nat} {P : sa_P} {I : sa_I} {J : sa_J}    (k : Sat (ER l D aI aL ad) M_X7_row P 64 [] [.int (-1 : Int32), .ref (ad 0)] I J) : Sat (ER l D aI aL ad) M_X7_row P 62 [(0, .ref (ad 0))] [] I J := by
  refine s_aload_n 0 dX7_row_62 rfl ?_
  refine s_iconst (v := -1) dX7_row_63 rfl ?_
  refine s_pick [] [] rfl ?_; exact k
theorem bX7_row_67 {l : Launch} {D : va_G} {aI aL : ClassId} {ad : Nat → Nat} {P : sa_P} {I : sa_I} {J : sa_J} {s0 : Int32}   (k : P (some (.int s0)) I J) : Sat (ER l D aI aL ad) M_X7_row P 67 [] [.int s0] I J := by
  exact s_iret rfl dX7_row_67 k
/-! X7_isWay -/
theorem dX7_isWay_0 : decode cX7_isWay 0 = .ok (.iconst 1, 1) := by decide +kernel
theorem dX7_isWay_1 : decode cX7_isWay 1 = .ok (.istore 7, 2) := by decide +kernel
theorem dX7_isWay_3 : decode cX7_isWay 3 = .ok (.iconst 1, 1) := by decide +kernel
theorem dX7_isWay_4 : decode cX7_isWay 4 = .ok (.istore 8, 2) := by decide +kernel
theorem dX7_isWay_6 : decode cX7_isWay 6 = .ok (.iload 8, 2) := by decide +kernel
theorem dX7_isWay_8 : decode cX7_isWay 8 = .ok (.aload_n 0, 1) := by decide +kernel
theorem dX7_isWay_9 : decode cX7_isWay 9 = .ok (.getfield 101, 3) := by decide +kernel
theorem dX7_isWay_12 : decode cX7_isWay 12 = .ok (.if_icmp .ge 171, 3) := by decide +kernel
theorem dX7_isWay_15 : decode cX7_isWay 15 = .ok (.iload 7, 2) := by decide +kernel
theorem dX7_isWay_17 : decode cX7_isWay 17 = .ok (.ifCond .eq 166, 3) := by decide +kernel
theorem dX7_isWay_20 : decode cX7_isWay 20 = .ok (.iload 8, 2) := by decide +kernel
theorem dX7_isWay_22 : decode cX7_isWay 22 = .ok (.istore 9, 2) := by decide +kernel
theorem dX7_isWay_24 : decode cX7_isWay 24 = .ok (.iload 9, 2) := by decide +kernel
theorem dX7_isWay_26 : decode cX7_isWay 26 = .ok (.aload_n 0, 1) := by decide +kernel
theorem dX7_isWay_27 : decode cX7_isWay 27 = .ok (.getfield 101, 3) := by decide +kernel
theorem dX7_isWay_30 : decode cX7_isWay 30 = .ok (.if_icmp .ge 147, 3) := by decide +kernel
theorem dX7_isWay_33 : decode cX7_isWay 33 = .ok (.iload 7, 2) := by decide +kernel
theorem dX7_isWay_35 : decode cX7_isWay 35 = .ok (.ifCond .eq 142, 3) := by decide +kernel
theorem dX7_isWay_38 : decode cX7_isWay 38 = .ok (.iload 8, 2) := by decide +kernel
theorem dX7_isWay_40 : decode cX7_isWay 40 = .ok (.iconst 1, 1) := by decide +kernel
theorem dX7_isWay_41 : decode cX7_isWay 41 = .ok (.if_icmp .ne 7, 3) := by decide +kernel
theorem dX7_isWay_44 : decode cX7_isWay 44 = .ok (.lload_n 1, 1) := by decide +kernel
theorem dX7_isWay_45 : decode cX7_isWay 45 = .ok (.goto 4, 3) := by decide +kernel
theorem dX7_isWay_48 : decode cX7_isWay 48 = .ok (.lload_n 3, 1) := by decide +kernel
theorem dX7_isWay_49 : decode cX7_isWay 49 = .ok (.lstore 10, 2) := by decide +kernel
theorem dX7_isWay_51 : decode cX7_isWay 51 = .ok (.iload 9, 2) := by decide +kernel
theorem dX7_isWay_53 : decode cX7_isWay 53 = .ok (.iconst 1, 1) := by decide +kernel
theorem dX7_isWay_54 : decode cX7_isWay 54 = .ok (.if_icmp .ne 7, 3) := by decide +kernel
theorem dX7_isWay_57 : decode cX7_isWay 57 = .ok (.lload_n 1, 1) := by decide +kernel
theorem dX7_isWay_58 : decode cX7_isWay 58 = .ok (.goto 4, 3) := by decide +kernel
theorem dX7_isWay_61 : decode cX7_isWay 61 = .ok (.lload_n 3, 1) := by decide +kernel
theorem dX7_isWay_62 : decode cX7_isWay 62 = .ok (.lstore 12, 2) := by decide +kernel
theorem dX7_isWay_64 : decode cX7_isWay 64 = .ok (.aload_n 0, 1) := by decide +kernel
theorem dX7_isWay_65 : decode cX7_isWay 65 = .ok (.getfield 13, 3) := by decide +kernel
theorem dX7_isWay_68 : decode cX7_isWay 68 = .ok (.bipush 9, 2) := by decide +kernel
theorem dX7_isWay_70 : decode cX7_isWay 70 = .ok (.iload 8, 2) := by decide +kernel
theorem dX7_isWay_72 : decode cX7_isWay 72 = .ok (.imul, 1) := by decide +kernel
theorem dX7_isWay_73 : decode cX7_isWay 73 = .ok (.iconst 3, 1) := by decide +kernel
theorem dX7_isWay_74 : decode cX7_isWay 74 = .ok (.iload 9, 2) := by decide +kernel
theorem dX7_isWay_76 : decode cX7_isWay 76 = .ok (.imul, 1) := by decide +kernel
theorem dX7_isWay_77 : decode cX7_isWay 77 = .ok (.iadd, 1) := by decide +kernel
theorem dX7_isWay_78 : decode cX7_isWay 78 = .ok (.laload, 1) := by decide +kernel
theorem dX7_isWay_79 : decode cX7_isWay 79 = .ok (.lload 5, 2) := by decide +kernel
theorem dX7_isWay_81 : decode cX7_isWay 81 = .ok (.invokestatic 155, 3) := by decide +kernel
theorem dX7_isWay_84 : decode cX7_isWay 84 = .ok (.aload_n 0, 1) := by decide +kernel
theorem dX7_isWay_85 : decode cX7_isWay 85 = .ok (.getfield 13, 3) := by decide +kernel
theorem dX7_isWay_88 : decode cX7_isWay 88 = .ok (.bipush 9, 2) := by decide +kernel
theorem dX7_isWay_90 : decode cX7_isWay 90 = .ok (.iload 8, 2) := by decide +kernel
theorem dX7_isWay_92 : decode cX7_isWay 92 = .ok (.imul, 1) := by decide +kernel
theorem dX7_isWay_93 : decode cX7_isWay 93 = .ok (.iconst 3, 1) := by decide +kernel
theorem dX7_isWay_94 : decode cX7_isWay 94 = .ok (.iload 9, 2) := by decide +kernel
theorem dX7_isWay_96 : decode cX7_isWay 96 = .ok (.imul, 1) := by decide +kernel
theorem dX7_isWay_97 : decode cX7_isWay 97 = .ok (.iadd, 1) := by decide +kernel
theorem dX7_isWay_98 : decode cX7_isWay 98 = .ok (.iconst 1, 1) := by decide +kernel
theorem dX7_isWay_99 : decode cX7_isWay 99 = .ok (.iadd, 1) := by decide +kernel
theorem dX7_isWay_100 : decode cX7_isWay 100 = .ok (.laload, 1) := by decide +kernel
theorem dX7_isWay_101 : decode cX7_isWay 101 = .ok (.lload 5, 2) := by decide +kernel
theorem dX7_isWay_103 : decode cX7_isWay 103 = .ok (.invokestatic 155, 3) := by decide +kernel
theorem dX7_isWay_106 : decode cX7_isWay 106 = .ok (.lload_n 1, 1) := by decide +kernel
theorem dX7_isWay_107 : decode cX7_isWay 107 = .ok (.lmul, 1) := by decide +kernel
theorem dX7_isWay_108 : decode cX7_isWay 108 = .ok (.ladd, 1) := by decide +kernel
theorem dX7_isWay_109 : decode cX7_isWay 109 = .ok (.aload_n 0, 1) := by decide +kernel
theorem dX7_isWay_110 : decode cX7_isWay 110 = .ok (.getfield 101, 3) := by decide +kernel
theorem dX7_isWay_113 : decode cX7_isWay 113 = .ok (.iconst 3, 1) := by decide +kernel
theorem dX7_isWay_114 : decode cX7_isWay 114 = .ok (.if_icmp .ne 30, 3) := by decide +kernel
theorem dX7_isWay_117 : decode cX7_isWay 117 = .ok (.aload_n 0, 1) := by decide +kernel
theorem dX7_isWay_118 : decode cX7_isWay 118 = .ok (.getfield 13, 3) := by decide +kernel
theorem dX7_isWay_121 : decode cX7_isWay 121 = .ok (.bipush 9, 2) := by decide +kernel
theorem dX7_isWay_123 : decode cX7_isWay 123 = .ok (.iload 8, 2) := by decide +kernel
theorem dX7_isWay_125 : decode cX7_isWay 125 = .ok (.imul, 1) := by decide +kernel
theorem dX7_isWay_126 : decode cX7_isWay 126 = .ok (.iconst 3, 1) := by decide +kernel
theorem dX7_isWay_127 : decode cX7_isWay 127 = .ok (.iload 9, 2) := by decide +kernel
theorem dX7_isWay_129 : decode cX7_isWay 129 = .ok (.imul, 1) := by decide +kernel
theorem dX7_isWay_130 : decode cX7_isWay 130 = .ok (.iadd, 1) := by decide +kernel
theorem dX7_isWay_131 : decode cX7_isWay 131 = .ok (.iconst 2, 1) := by decide +kernel
theorem dX7_isWay_132 : decode cX7_isWay 132 = .ok (.iadd, 1) := by decide +kernel
theorem dX7_isWay_133 : decode cX7_isWay 133 = .ok (.laload, 1) := by decide +kernel
theorem dX7_isWay_134 : decode cX7_isWay 134 = .ok (.lload 5, 2) := by decide +kernel
theorem dX7_isWay_136 : decode cX7_isWay 136 = .ok (.invokestatic 155, 3) := by decide +kernel
theorem dX7_isWay_139 : decode cX7_isWay 139 = .ok (.lload_n 3, 1) := by decide +kernel
theorem dX7_isWay_140 : decode cX7_isWay 140 = .ok (.lmul, 1) := by decide +kernel
theorem dX7_isWay_141 : decode cX7_isWay 141 = .ok (.goto 4, 3) := by decide +kernel
theorem dX7_isWay_144 : decode cX7_isWay 144 = .ok (.lconst 0, 1) := by decide +kernel
theorem dX7_isWay_145 : decode cX7_isWay 145 = .ok (.ladd, 1) := by decide +kernel
theorem dX7_isWay_146 : decode cX7_isWay 146 = .ok (.lstore 14, 2) := by decide +kernel
theorem dX7_isWay_148 : decode cX7_isWay 148 = .ok (.lload 14, 2) := by decide +kernel
theorem dX7_isWay_150 : decode cX7_isWay 150 = .ok (.lload 10, 2) := by decide +kernel
theorem dX7_isWay_152 : decode cX7_isWay 152 = .ok (.lload 12, 2) := by decide +kernel
theorem dX7_isWay_154 : decode cX7_isWay 154 = .ok (.lmul, 1) := by decide +kernel
theorem dX7_isWay_155 : decode cX7_isWay 155 = .ok (.lsub, 1) := by decide +kernel
theorem dX7_isWay_156 : decode cX7_isWay 156 = .ok (.lload 5, 2) := by decide +kernel
theorem dX7_isWay_158 : decode cX7_isWay 158 = .ok (.lrem, 1) := by decide +kernel
theorem dX7_isWay_159 : decode cX7_isWay 159 = .ok (.lconst 0, 1) := by decide +kernel
theorem dX7_isWay_160 : decode cX7_isWay 160 = .ok (.lcmp, 1) := by decide +kernel
theorem dX7_isWay_161 : decode cX7_isWay 161 = .ok (.ifCond .ne 7, 3) := by decide +kernel
theorem dX7_isWay_164 : decode cX7_isWay 164 = .ok (.iconst 1, 1) := by decide +kernel
theorem dX7_isWay_165 : decode cX7_isWay 165 = .ok (.goto 4, 3) := by decide +kernel
theorem dX7_isWay_168 : decode cX7_isWay 168 = .ok (.iconst 0, 1) := by decide +kernel
theorem dX7_isWay_169 : decode cX7_isWay 169 = .ok (.istore 7, 2) := by decide +kernel
theorem dX7_isWay_171 : decode cX7_isWay 171 = .ok (.iinc 9 1, 3) := by decide +kernel
theorem dX7_isWay_174 : decode cX7_isWay 174 = .ok (.goto (-150), 3) := by decide +kernel
theorem dX7_isWay_177 : decode cX7_isWay 177 = .ok (.iinc 8 1, 3) := by decide +kernel
theorem dX7_isWay_180 : decode cX7_isWay 180 = .ok (.goto (-174), 3) := by decide +kernel
theorem dX7_isWay_183 : decode cX7_isWay 183 = .ok (.iload 7, 2) := by decide +kernel
theorem dX7_isWay_185 : decode cX7_isWay 185 = .ok (.ireturn, 1) := by decide +kernel
theorem bX7_isWay_0 {l : Launch} {D : va_G} {aI aL : ClassId} {ad : Nat → Nat} {P : sa_P} {I : sa_I} {J : sa_J} {x1 : Int64} {x3 : Int64} {x5 : Int64} {v1 : Int32} {v4 : Int32}  (f1 : (1 : Int32) = v1) (f4 : (1 : Int32) = v4) (k : Sat (ER l D aI aL ad) M_X7_isWay P 6 [(0, .ref (ad 0)), (1, .long x1), (3, .long x3), (5, .long x5), (7, .int v1), (8, .int v4)] [] I J) : Sat (ER l D aI aL ad) M_X7_isWay P 0 [(0, .ref (ad 0)), (1, .long x1), (3, .long x3), (5, .long x5)] [] I J := by
  refine s_iconst (v := 1) dX7_isWay_0 rfl ?_
  refine s_eqi f1 ?_
  refine s_istore [(7, .int v1), (0, .ref (ad 0)), (1, .long x1), (3, .long x3), (5, .long x5)] dX7_isWay_1 (Nat.lt_of_lt_of_le (Nat.lt_succ_self _) (Nat.le_of_ble_eq_true rfl)) rfl ?_
  refine s_iconst (v := 1) dX7_isWay_3 rfl ?_
  refine s_eqi f4 ?_
  refine s_istore [(8, .int v4), (7, .int v1), (0, .ref (ad 0)), (1, .long x1), (3, .long x3), (5, .long x5)] dX7_isWay_4 (Nat.lt_of_lt_of_le (Nat.lt_succ_self _) (Nat.le_of_ble_eq_true rfl)) rfl ?_
  refine s_pick [2, 3, 4, 5, 1, 0] [(0, .ref (ad 0)), (1, .long x1), (3, .long x3), (5, .long x5), (7, .int v1), (8, .int v4)] rfl ?_; exact k
theorem bX7_isWay_6 {l : Launch} {D : va_G} {aI aL : ClassId} {ad : Nat → Nat} {P : sa_P} {I : sa_I} {J : sa_J} {x1 : Int64} {x3 : Int64} {x5 : Int64} {x7 : Int32} {x8 : Int32}   (kt : I 0 1 ≤ x8 → Sat (ER l D aI aL ad) M_X7_isWay P 183 [(7, .int x7)] [] I J) (kf : ¬ I 0 1 ≤ x8 → Sat (ER l D aI aL ad) M_X7_isWay P 15 [(0, .ref (ad 0)), (1, .long x1), (3, .long x3), (5, .long x5), (7, .int x7), (8, .int x8)] [] I J) : Sat (ER l D aI aL ad) M_X7_isWay P 6 [(0, .ref (ad 0)), (1, .long x1), (3, .long x3), (5, .long x5), (7, .int x7), (8, .int x8)] [] I J := by
  refine s_iload 5 dX7_isWay_6 rfl ?_
  refine s_aload_n 0 dX7_isWay_8 rfl ?_
  refine g_X7_101 dX7_isWay_9 rfl ?_
  refine s_icmp_ge (tgt := 183) dX7_isWay_12 (by decide) (fun c => ?_) (fun c => ?_)
  · refine s_pick [4] [(7, .int x7)] rfl ?_; exact kt c
  · exact kf c
theorem bX7_isWay_15 {l : Launch} {D : va_G} {aI aL : ClassId} {ad : Nat → Nat} {P : sa_P} {I : sa_I} {J : sa_J} {x1 : Int64} {x3 : Int64} {x5 : Int64} {x7 : Int32} {x8 : Int32}   (kt : x7 = 0 → Sat (ER l D aI aL ad) M_X7_isWay P 183 [(7, .int x7)] [] I J) (kf : ¬ x7 = 0 → Sat (ER l D aI aL ad) M_X7_isWay P 20 [(0, .ref (ad 0)), (1, .long x1), (3, .long x3), (5, .long x5), (7, .int x7), (8, .int x8)] [] I J) : Sat (ER l D aI aL ad) M_X7_isWay P 15 [(0, .ref (ad 0)), (1, .long x1), (3, .long x3), (5, .long x5), (7, .int x7), (8, .int x8)] [] I J := by
  refine s_iload 4 dX7_isWay_15 rfl ?_
  refine s_if_eq (tgt := 183) dX7_isWay_17 (by decide) (fun c => ?_) (fun c => ?_)
  · refine s_pick [4] [(7, .int x7)] rfl ?_; exact kt c
  · exact kf c
theorem bX7_isWay_20 {l : Launch} {D : va_G} {aI aL : ClassId} {ad : Nat → Nat} {P : sa_P} {I : sa_I} {J : sa_J} {x1 : Int64} {x3 : Int64} {x5 : Int64} {x7 : Int32} {x8 : Int32}   (k : Sat (ER l D aI aL ad) M_X7_isWay P 24 [(0, .ref (ad 0)), (1, .long x1), (3, .long x3), (5, .long x5), (7, .int x7), (8, .int x8), (9, .int x8)] [] I J) : Sat (ER l D aI aL ad) M_X7_isWay P 20 [(0, .ref (ad 0)), (1, .long x1), (3, .long x3), (5, .long x5), (7, .int x7), (8, .int x8)] [] I J := by
  refine s_iload 5 dX7_isWay_20 rfl ?_
  refine s_istore [(9, .int x8), (0, .ref (ad 0)), (1, .long x1), (3, .long x3), (5, .long x5), (7, .int x7), (8, .int x8)] dX7_isWay_22 (Nat.lt_of_lt_of_le (Nat.lt_succ_self _) (Nat.le_of_ble_eq_true rfl)) rfl ?_
  refine s_pick [1, 2, 3, 4, 5, 6, 0] [(0, .ref (ad 0)), (1, .long x1), (3, .long x3), (5, .long x5), (7, .int x7), (8, .int x8), (9, .int x8)] rfl ?_; exact k
theorem bX7_isWay_24 {l : Launch} {D : va_G} {aI aL : ClassId} {ad : Nat → Nat} {P : sa_P} {I : sa_I} {J : sa_J} {x1 : Int64} {x3 : Int64} {x5 : Int64} {x7 : Int32} {x8 : Int32} {x9 : Int32}   (kt : I 0 1 ≤ x9 → Sat (ER l D aI aL ad) M_X7_isWay P 177 [(0, .ref (ad 0)), (1, .long x1), (3, .long x3), (5, .long x5), (7, .int x7), (8, .int x8)] [] I J) (kf : ¬ I 0 1 ≤ x9 → Sat (ER l D aI aL ad) M_X7_isWay P 33 [(0, .ref (ad 0)), (1, .long x1), (3, .long x3), (5, .long x5), (7, .int x7), (8, .int x8), (9, .int x9)] [] I J) : Sat (ER l D aI aL ad) M_X7_isWay P 24 [(0, .ref (ad 0)), (1, .long x1), (3, .long x3), (5, .long x5), (7, .int x7), (8, .int x8), (9, .int x9)] [] I J := by
  refine s_iload 6 dX7_isWay_24 rfl ?_
  refine s_aload_n 0 dX7_isWay_26 rfl ?_
  refine g_X7_101 dX7_isWay_27 rfl ?_
  refine s_icmp_ge (tgt := 177) dX7_isWay_30 (by decide) (fun c => ?_) (fun c => ?_)
  · refine s_pick [0, 1, 2, 3, 4, 5] [(0, .ref (ad 0)), (1, .long x1), (3, .long x3), (5, .long x5), (7, .int x7), (8, .int x8)] rfl ?_; exact kt c
  · exact kf c
theorem bX7_isWay_33 {l : Launch} {D : va_G} {aI aL : ClassId} {ad : Nat → Nat} {P : sa_P} {I : sa_I} {J : sa_J} {x1 : Int64} {x3 : Int64} {x5 : Int64} {x7 : Int32} {x8 : Int32} {x9 : Int32}   (kt : x7 = 0 → Sat (ER l D aI aL ad) M_X7_isWay P 177 [(0, .ref (ad 0)), (1, .long x1), (3, .long x3), (5, .long x5), (7, .int x7), (8, .int x8)] [] I J) (kf : ¬ x7 = 0 → Sat (ER l D aI aL ad) M_X7_isWay P 38 [(0, .ref (ad 0)), (1, .long x1), (3, .long x3), (5, .long x5), (8, .int x8), (9, .int x9)] [] I J) : Sat (ER l D aI aL ad) M_X7_isWay P 33 [(0, .ref (ad 0)), (1, .long x1), (3, .long x3), (5, .long x5), (7, .int x7), (8, .int x8), (9, .int x9)] [] I J := by
  refine s_iload 4 dX7_isWay_33 rfl ?_
  refine s_if_eq (tgt := 177) dX7_isWay_35 (by decide) (fun c => ?_) (fun c => ?_)
  · refine s_pick [0, 1, 2, 3, 4, 5] [(0, .ref (ad 0)), (1, .long x1), (3, .long x3), (5, .long x5), (7, .int x7), (8, .int x8)] rfl ?_; exact kt c
  · refine s_pick [0, 1, 2, 3, 5, 6] [(0, .ref (ad 0)), (1, .long x1), (3, .long x3), (5, .long x5), (8, .int x8), (9, .int x9)] rfl ?_; exact kf c
theorem bX7_isWay_38 {l : Launch} {D : va_G} {aI aL : ClassId} {ad : Nat → Nat} {P : sa_P} {I : sa_I} {J : sa_J} {x1 : Int64} {x3 : Int64} {x5 : Int64} {x8 : Int32} {x9 : Int32}   (kt : ¬ x8 = (1 : Int32) → Sat (ER l D aI aL ad) M_X7_isWay P 48 [(0, .ref (ad 0)), (1, .long x1), (3, .long x3), (5, .long x5), (8, .int x8), (9, .int x9)] [] I J) (kf : x8 = (1 : Int32) → Sat (ER l D aI aL ad) M_X7_isWay P 44 [(0, .ref (ad 0)), (1, .long x1), (3, .long x3), (5, .long x5), (8, .int x8), (9, .int x9)] [] I J) : Sat (ER l D aI aL ad) M_X7_isWay P 38 [(0, .ref (ad 0)), (1, .long x1), (3, .long x3), (5, .long x5), (8, .int x8), (9, .int x9)] [] I J := by
  refine s_iload 4 dX7_isWay_38 rfl ?_
  refine s_iconst (v := 1) dX7_isWay_40 rfl ?_
  refine s_icmp_ne (tgt := 48) dX7_isWay_41 (by decide) (fun c => ?_) (fun c => ?_)
  · exact kt c
  · exact kf (by first | exact c | exact Classical.not_not.mp c)
theorem bX7_isWay_44 {l : Launch} {D : va_G} {aI aL : ClassId} {ad : Nat → Nat} {P : sa_P} {I : sa_I} {J : sa_J} {x1 : Int64} {x3 : Int64} {x5 : Int64} {x8 : Int32} {x9 : Int32}   (k : Sat (ER l D aI aL ad) M_X7_isWay P 49 [(0, .ref (ad 0)), (1, .long x1), (3, .long x3), (5, .long x5), (8, .int x8), (9, .int x9)] [.long x1] I J) : Sat (ER l D aI aL ad) M_X7_isWay P 44 [(0, .ref (ad 0)), (1, .long x1), (3, .long x3), (5, .long x5), (8, .int x8), (9, .int x9)] [] I J := by
  refine s_lload_n 1 dX7_isWay_44 rfl ?_
  refine s_goto (tgt := 49) dX7_isWay_45 (by decide) ?_
  exact k
theorem bX7_isWay_48 {l : Launch} {D : va_G} {aI aL : ClassId} {ad : Nat → Nat} {P : sa_P} {I : sa_I} {J : sa_J} {x1 : Int64} {x3 : Int64} {x5 : Int64} {x8 : Int32} {x9 : Int32}   (k : Sat (ER l D aI aL ad) M_X7_isWay P 49 [(0, .ref (ad 0)), (1, .long x1), (3, .long x3), (5, .long x5), (8, .int x8), (9, .int x9)] [.long x3] I J) : Sat (ER l D aI aL ad) M_X7_isWay P 48 [(0, .ref (ad 0)), (1, .long x1), (3, .long x3), (5, .long x5), (8, .int x8), (9, .int x9)] [] I J := by
  refine s_lload_n 2 dX7_isWay_48 rfl ?_
  exact k
theorem bX7_isWay_49 {l : Launch} {D : va_G} {aI aL : ClassId} {ad : Nat → Nat} {P : sa_P} {I : sa_I} {J : sa_J} {x1 : Int64} {x3 : Int64} {x5 : Int64} {x8 : Int32} {x9 : Int32} {s0 : Int64}   (kt : ¬ x9 = (1 : Int32) → Sat (ER l D aI aL ad) M_X7_isWay P 61 [(0, .ref (ad 0)), (1, .long x1), (3, .long x3), (5, .long x5), (8, .int x8), (9, .int x9), (10, .long s0)] [] I J) (kf : x9 = (1 : Int32) → Sat (ER l D aI aL ad) M_X7_isWay P 57 [(0, .ref (ad 0)), (1, .long x1), (3, .long x3), (5, .long x5), (8, .int x8), (9, .int x9), (10, .long s0)] [] I J) : Sat (ER l D aI aL ad) M_X7_isWay P 49 [(0, .ref (ad 0)), (1, .long x1), (3, .long x3), (5, .long x5), (8, .int x8), (9, .int x9)] [.long s0] I J := by
  refine s_lstore [(10, .long s0), (0, .ref (ad 0)), (1, .long x1), (3, .long x3), (5, .long x5), (8, .int x8), (9, .int x9)] dX7_isWay_49 (Nat.lt_of_lt_of_le (Nat.lt_succ_self _) (Nat.le_of_ble_eq_true rfl)) rfl ?_
  refine s_iload 6 dX7_isWay_51 rfl ?_
  refine s_iconst (v := 1) dX7_isWay_53 rfl ?_
  refine s_icmp_ne (tgt := 61) dX7_isWay_54 (by decide) (fun c => ?_) (fun c => ?_)
  · refine s_pick [1, 2, 3, 4, 5, 6, 0] [(0, .ref (ad 0)), (1, .long x1), (3, .long x3), (5, .long x5), (8, .int x8), (9, .int x9), (10, .long s0)] rfl ?_; exact kt c
  · refine s_pick [1, 2, 3, 4, 5, 6, 0] [(0, .ref (ad 0)), (1, .long x1), (3, .long x3), (5, .long x5), (8, .int x8), (9, .int x9), (10, .long s0)] rfl ?_; exact kf (by first | exact c | exact Classical.not_not.mp c)
theorem bX7_isWay_57 {l : Launch} {D : va_G} {aI aL : ClassId} {ad : Nat → Nat} {P : sa_P} {I : sa_I} {J : sa_J} {x1 : Int64} {x3 : Int64} {x5 : Int64} {x8 : Int32} {x9 : Int32} {x10 : Int64}   (k : Sat (ER l D aI aL ad) M_X7_isWay P 62 [(0, .ref (ad 0)), (1, .long x1), (3, .long x3), (5, .long x5), (8, .int x8), (9, .int x9), (10, .long x10)] [.long x1] I J) : Sat (ER l D aI aL ad) M_X7_isWay P 57 [(0, .ref (ad 0)), (1, .long x1), (3, .long x3), (5, .long x5), (8, .int x8), (9, .int x9), (10, .long x10)] [] I J := by
  refine s_lload_n 1 dX7_isWay_57 rfl ?_
  refine s_goto (tgt := 62) dX7_isWay_58 (by decide) ?_
  exact k
theorem bX7_isWay_61 {l : Launch} {D : va_G} {aI aL : ClassId} {ad : Nat → Nat} {P : sa_P} {I : sa_I} {J : sa_J} {x1 : Int64} {x3 : Int64} {x5 : Int64} {x8 : Int32} {x9 : Int32} {x10 : Int64}   (k : Sat (ER l D aI aL ad) M_X7_isWay P 62 [(0, .ref (ad 0)), (1, .long x1), (3, .long x3), (5, .long x5), (8, .int x8), (9, .int x9), (10, .long x10)] [.long x3] I J) : Sat (ER l D aI aL ad) M_X7_isWay P 61 [(0, .ref (ad 0)), (1, .long x1), (3, .long x3), (5, .long x5), (8, .int x8), (9, .int x9), (10, .long x10)] [] I J := by
  refine s_lload_n 2 dX7_isWay_61 rfl ?_
  exact k
theorem bX7_isWay_62 {l : Launch} {D : va_G} {aI aL : ClassId} {ad : Nat → Nat} {P : sa_P} {I : sa_I} {J : sa_J} {x1 : Int64} {x3 : Int64} {x5 : Int64} {x8 : Int32} {x9 : Int32} {x10 : Int64} {s0 : Int64} {j77 : Nat} (e77 : ((9 : Int32) * x8) + ((3 : Int32) * x9) = nI j77) (h78 : j77 < 27)  (k : Sat (ER l D aI aL ad) M_X7_isWay P 81 [(0, .ref (ad 0)), (1, .long x1), (3, .long x3), (5, .long x5), (8, .int x8), (9, .int x9), (10, .long x10), (12, .long s0)] [.long x5, .long (J 2 j77)] I J) : Sat (ER l D aI aL ad) M_X7_isWay P 62 [(0, .ref (ad 0)), (1, .long x1), (3, .long x3), (5, .long x5), (8, .int x8), (9, .int x9), (10, .long x10)] [.long s0] I J := by
  refine s_lstore [(12, .long s0), (0, .ref (ad 0)), (1, .long x1), (3, .long x3), (5, .long x5), (8, .int x8), (9, .int x9), (10, .long x10)] dX7_isWay_62 (Nat.lt_of_lt_of_le (Nat.lt_succ_self _) (Nat.le_of_ble_eq_true rfl)) rfl ?_
  refine s_aload_n 1 dX7_isWay_64 rfl ?_
  refine g_X7_13 dX7_isWay_65 rfl ?_
  refine s_bipush (v := 9) dX7_isWay_68 rfl ?_
  refine s_iload 5 dX7_isWay_70 rfl ?_
  refine s_imul dX7_isWay_72 ?_
  refine s_iconst (v := 3) dX7_isWay_73 rfl ?_
  refine s_iload 6 dX7_isWay_74 rfl ?_
  refine s_imul dX7_isWay_76 ?_
  refine s_iadd dX7_isWay_77 ?_
  refine s_eqi e77 ?_
  refine s_laloadN aJ_R2 h78 (by decide) dX7_isWay_78 ?_
  refine s_lload 4 dX7_isWay_79 rfl ?_
  refine s_pick [1, 2, 3, 4, 5, 6, 7, 0] [(0, .ref (ad 0)), (1, .long x1), (3, .long x3), (5, .long x5), (8, .int x8), (9, .int x9), (10, .long x10), (12, .long s0)] rfl ?_; exact k
theorem bX7_isWay_84 {l : Launch} {D : va_G} {aI aL : ClassId} {ad : Nat → Nat} {P : sa_P} {I : sa_I} {J : sa_J} {x1 : Int64} {x3 : Int64} {x5 : Int64} {x8 : Int32} {x9 : Int32} {x10 : Int64} {x12 : Int64} {s0 : Int64} {j99 : Nat} (e99 : (((9 : Int32) * x8) + ((3 : Int32) * x9)) + (1 : Int32) = nI j99) (h100 : j99 < 27)  (k : Sat (ER l D aI aL ad) M_X7_isWay P 103 [(0, .ref (ad 0)), (1, .long x1), (3, .long x3), (5, .long x5), (8, .int x8), (9, .int x9), (10, .long x10), (12, .long x12)] [.long x5, .long (J 2 j99), .long s0] I J) : Sat (ER l D aI aL ad) M_X7_isWay P 84 [(0, .ref (ad 0)), (1, .long x1), (3, .long x3), (5, .long x5), (8, .int x8), (9, .int x9), (10, .long x10), (12, .long x12)] [.long s0] I J := by
  refine s_aload_n 0 dX7_isWay_84 rfl ?_
  refine g_X7_13 dX7_isWay_85 rfl ?_
  refine s_bipush (v := 9) dX7_isWay_88 rfl ?_
  refine s_iload 4 dX7_isWay_90 rfl ?_
  refine s_imul dX7_isWay_92 ?_
  refine s_iconst (v := 3) dX7_isWay_93 rfl ?_
  refine s_iload 5 dX7_isWay_94 rfl ?_
  refine s_imul dX7_isWay_96 ?_
  refine s_iadd dX7_isWay_97 ?_
  refine s_iconst (v := 1) dX7_isWay_98 rfl ?_
  refine s_iadd dX7_isWay_99 ?_
  refine s_eqi e99 ?_
  refine s_laloadN aJ_R2 h100 (by decide) dX7_isWay_100 ?_
  refine s_lload 3 dX7_isWay_101 rfl ?_
  exact k
theorem bX7_isWay_106 {l : Launch} {D : va_G} {aI aL : ClassId} {ad : Nat → Nat} {P : sa_P} {I : sa_I} {J : sa_J} {x1 : Int64} {x3 : Int64} {x5 : Int64} {x8 : Int32} {x9 : Int32} {x10 : Int64} {x12 : Int64} {s0 : Int64} {s1 : Int64}   (kt : ¬ I 0 1 = (3 : Int32) → Sat (ER l D aI aL ad) M_X7_isWay P 144 [(0, .ref (ad 0)), (1, .long x1), (3, .long x3), (5, .long x5), (8, .int x8), (9, .int x9), (10, .long x10), (12, .long x12)] [.long (s0 + (s1 * x1))] I J) (kf : I 0 1 = (3 : Int32) → Sat (ER l D aI aL ad) M_X7_isWay P 117 [(0, .ref (ad 0)), (1, .long x1), (3, .long x3), (5, .long x5), (8, .int x8), (9, .int x9), (10, .long x10), (12, .long x12)] [.long (s0 + (s1 * x1))] I J) : Sat (ER l D aI aL ad) M_X7_isWay P 106 [(0, .ref (ad 0)), (1, .long x1), (3, .long x3), (5, .long x5), (8, .int x8), (9, .int x9), (10, .long x10), (12, .long x12)] [.long s1, .long s0] I J := by
  refine s_lload_n 1 dX7_isWay_106 rfl ?_
  refine s_lmul dX7_isWay_107 ?_
  refine s_ladd dX7_isWay_108 ?_
  refine s_aload_n 0 dX7_isWay_109 rfl ?_
  refine g_X7_101 dX7_isWay_110 rfl ?_
  refine s_iconst (v := 3) dX7_isWay_113 rfl ?_
  refine s_icmp_ne (tgt := 144) dX7_isWay_114 (by decide) (fun c => ?_) (fun c => ?_)
  · exact kt c
  · exact kf (by first | exact c | exact Classical.not_not.mp c)
theorem bX7_isWay_117 {l : Launch} {D : va_G} {aI aL : ClassId} {ad : Nat → Nat} {P : sa_P} {I : sa_I} {J : sa_J} {x1 : Int64} {x3 : Int64} {x5 : Int64} {x8 : Int32} {x9 : Int32} {x10 : Int64} {x12 : Int64} {s0 : Int64} {j132 : Nat} (e132 : (((9 : Int32) * x8) + ((3 : Int32) * x9)) + (2 : Int32) = nI j132) (h133 : j132 < 27)  (k : Sat (ER l D aI aL ad) M_X7_isWay P 136 [(0, .ref (ad 0)), (1, .long x1), (3, .long x3), (5, .long x5), (8, .int x8), (9, .int x9), (10, .long x10), (12, .long x12)] [.long x5, .long (J 2 j132), .long s0] I J) : Sat (ER l D aI aL ad) M_X7_isWay P 117 [(0, .ref (ad 0)), (1, .long x1), (3, .long x3), (5, .long x5), (8, .int x8), (9, .int x9), (10, .long x10), (12, .long x12)] [.long s0] I J := by
  refine s_aload_n 0 dX7_isWay_117 rfl ?_
  refine g_X7_13 dX7_isWay_118 rfl ?_
  refine s_bipush (v := 9) dX7_isWay_121 rfl ?_
  refine s_iload 4 dX7_isWay_123 rfl ?_
  refine s_imul dX7_isWay_125 ?_
  refine s_iconst (v := 3) dX7_isWay_126 rfl ?_
  refine s_iload 5 dX7_isWay_127 rfl ?_
  refine s_imul dX7_isWay_129 ?_
  refine s_iadd dX7_isWay_130 ?_
  refine s_iconst (v := 2) dX7_isWay_131 rfl ?_
  refine s_iadd dX7_isWay_132 ?_
  refine s_eqi e132 ?_
  refine s_laloadN aJ_R2 h133 (by decide) dX7_isWay_133 ?_
  refine s_lload 3 dX7_isWay_134 rfl ?_
  exact k
theorem bX7_isWay_139 {l : Launch} {D : va_G} {aI aL : ClassId} {ad : Nat → Nat} {P : sa_P} {I : sa_I} {J : sa_J} {x1 : Int64} {x3 : Int64} {x5 : Int64} {x8 : Int32} {x9 : Int32} {x10 : Int64} {x12 : Int64} {s0 : Int64} {s1 : Int64}   (k : Sat (ER l D aI aL ad) M_X7_isWay P 145 [(0, .ref (ad 0)), (1, .long x1), (3, .long x3), (5, .long x5), (8, .int x8), (9, .int x9), (10, .long x10), (12, .long x12)] [.long (s1 * x3), .long s0] I J) : Sat (ER l D aI aL ad) M_X7_isWay P 139 [(0, .ref (ad 0)), (1, .long x1), (3, .long x3), (5, .long x5), (8, .int x8), (9, .int x9), (10, .long x10), (12, .long x12)] [.long s1, .long s0] I J := by
  refine s_lload_n 2 dX7_isWay_139 rfl ?_
  refine s_lmul dX7_isWay_140 ?_
  refine s_goto (tgt := 145) dX7_isWay_141 (by decide) ?_
  exact k
theorem bX7_isWay_144 {l : Launch} {D : va_G} {aI aL : ClassId} {ad : Nat → Nat} {P : sa_P} {I : sa_I} {J : sa_J} {x1 : Int64} {x3 : Int64} {x5 : Int64} {x8 : Int32} {x9 : Int32} {x10 : Int64} {x12 : Int64} {s0 : Int64}   (k : Sat (ER l D aI aL ad) M_X7_isWay P 145 [(0, .ref (ad 0)), (1, .long x1), (3, .long x3), (5, .long x5), (8, .int x8), (9, .int x9), (10, .long x10), (12, .long x12)] [.long (0 : Int64), .long s0] I J) : Sat (ER l D aI aL ad) M_X7_isWay P 144 [(0, .ref (ad 0)), (1, .long x1), (3, .long x3), (5, .long x5), (8, .int x8), (9, .int x9), (10, .long x10), (12, .long x12)] [.long s0] I J := by
  refine s_lconst (v := 0) dX7_isWay_144 rfl ?_
  exact k
theorem bX7_isWay_145 {l : Launch} {D : va_G} {aI aL : ClassId} {ad : Nat → Nat} {P : sa_P} {I : sa_I} {J : sa_J} {x1 : Int64} {x3 : Int64} {x5 : Int64} {x8 : Int32} {x9 : Int32} {x10 : Int64} {x12 : Int64} {s0 : Int64} {s1 : Int64} {v146 : Int64} (z158 : ¬ x5 = 0) (f146 : s0 + s1 = v146) (kt : ¬ (v146 - (x10 * x12)) - (v146 - (x10 * x12)) / x5 * x5 = (0 : Int64) → Sat (ER l D aI aL ad) M_X7_isWay P 168 [(0, .ref (ad 0)), (1, .long x1), (3, .long x3), (5, .long x5), (8, .int x8), (9, .int x9)] [] I J) (kf : (v146 - (x10 * x12)) - (v146 - (x10 * x12)) / x5 * x5 = (0 : Int64) → Sat (ER l D aI aL ad) M_X7_isWay P 164 [(0, .ref (ad 0)), (1, .long x1), (3, .long x3), (5, .long x5), (8, .int x8), (9, .int x9)] [] I J) : Sat (ER l D aI aL ad) M_X7_isWay P 145 [(0, .ref (ad 0)), (1, .long x1), (3, .long x3), (5, .long x5), (8, .int x8), (9, .int x9), (10, .long x10), (12, .long x12)] [.long s1, .long s0] I J := by
  refine s_ladd dX7_isWay_145 ?_
  refine s_eql f146 ?_
  refine s_lstore [(14, .long v146), (0, .ref (ad 0)), (1, .long x1), (3, .long x3), (5, .long x5), (8, .int x8), (9, .int x9), (10, .long x10), (12, .long x12)] dX7_isWay_146 (Nat.lt_of_lt_of_le (Nat.lt_succ_self _) (Nat.le_of_ble_eq_true rfl)) rfl ?_
  refine s_lload 0 dX7_isWay_148 rfl ?_
  refine s_lload 7 dX7_isWay_150 rfl ?_
  refine s_lload 8 dX7_isWay_152 rfl ?_
  refine s_lmul dX7_isWay_154 ?_
  refine s_lsub dX7_isWay_155 ?_
  refine s_lload 4 dX7_isWay_156 rfl ?_
  refine s_lrem dX7_isWay_158 z158 ?_
  refine s_lconst (v := 0) dX7_isWay_159 rfl ?_
  refine s_lif_ne (tgt := 168) dX7_isWay_160 dX7_isWay_161 (by decide) (fun c => ?_) (fun c => ?_)
  · refine s_pick [1, 2, 3, 4, 5, 6] [(0, .ref (ad 0)), (1, .long x1), (3, .long x3), (5, .long x5), (8, .int x8), (9, .int x9)] rfl ?_; exact kt c
  · refine s_pick [1, 2, 3, 4, 5, 6] [(0, .ref (ad 0)), (1, .long x1), (3, .long x3), (5, .long x5), (8, .int x8), (9, .int x9)] rfl ?_; exact kf (by first | exact c | exact Classical.not_not.mp c)
theorem bX7_isWay_164 {l : Launch} {D : va_G} {aI aL : ClassId} {ad : Nat → Nat} {P : sa_P} {I : sa_I} {J : sa_J} {x1 : Int64} {x3 : Int64} {x5 : Int64} {x8 : Int32} {x9 : Int32}   (k : Sat (ER l D aI aL ad) M_X7_isWay P 169 [(0, .ref (ad 0)), (1, .long x1), (3, .long x3), (5, .long x5), (8, .int x8), (9, .int x9)] [.int (1 : Int32)] I J) : Sat (ER l D aI aL ad) M_X7_isWay P 164 [(0, .ref (ad 0)), (1, .long x1), (3, .long x3), (5, .long x5), (8, .int x8), (9, .int x9)] [] I J := by
  refine s_iconst (v := 1) dX7_isWay_164 rfl ?_
  refine s_goto (tgt := 169) dX7_isWay_165 (by decide) ?_
  exact k
theorem bX7_isWay_168 {l : Launch} {D : va_G} {aI aL : ClassId} {ad : Nat → Nat} {P : sa_P} {I : sa_I} {J : sa_J} {x1 : Int64} {x3 : Int64} {x5 : Int64} {x8 : Int32} {x9 : Int32}   (k : Sat (ER l D aI aL ad) M_X7_isWay P 169 [(0, .ref (ad 0)), (1, .long x1), (3, .long x3), (5, .long x5), (8, .int x8), (9, .int x9)] [.int (0 : Int32)] I J) : Sat (ER l D aI aL ad) M_X7_isWay P 168 [(0, .ref (ad 0)), (1, .long x1), (3, .long x3), (5, .long x5), (8, .int x8), (9, .int x9)] [] I J := by
  refine s_iconst (v := 0) dX7_isWay_168 rfl ?_
  exact k
theorem bX7_isWay_169 {l : Launch} {D : va_G} {aI aL : ClassId} {ad : Nat → Nat} {P : sa_P} {I : sa_I} {J : sa_J} {x1 : Int64} {x3 : Int64} {x5 : Int64} {x8 : Int32} {x9 : Int32} {s0 : Int32} {v171 : Int32}  (f171 : x9 + 1 = v171) (k : Sat (ER l D aI aL ad) M_X7_isWay P 24 [(0, .ref (ad 0)), (1, .long x1), (3, .long x3), (5, .long x5), (7, .int s0), (8, .int x8), (9, .int v171)] [] I J) : Sat (ER l D aI aL ad) M_X7_isWay P 169 [(0, .ref (ad 0)), (1, .long x1), (3, .long x3), (5, .long x5), (8, .int x8), (9, .int x9)] [.int s0] I J := by
  refine s_istore [(7, .int s0), (0, .ref (ad 0)), (1, .long x1), (3, .long x3), (5, .long x5), (8, .int x8), (9, .int x9)] dX7_isWay_169 (Nat.lt_of_lt_of_le (Nat.lt_succ_self _) (Nat.le_of_ble_eq_true rfl)) rfl ?_
  refine s_iinc 6 v171 [(9, .int v171), (7, .int s0), (0, .ref (ad 0)), (1, .long x1), (3, .long x3), (5, .long x5), (8, .int x8)] dX7_isWay_171 rfl f171 (Nat.lt_of_lt_of_le (Nat.lt_succ_self _) (Nat.le_of_ble_eq_true rfl)) rfl ?_
  refine s_goto (tgt := 24) dX7_isWay_174 (by decide) ?_
  refine s_pick [2, 3, 4, 5, 1, 6, 0] [(0, .ref (ad 0)), (1, .long x1), (3, .long x3), (5, .long x5), (7, .int s0), (8, .int x8), (9, .int v171)] rfl ?_; exact k
theorem bX7_isWay_177 {l : Launch} {D : va_G} {aI aL : ClassId} {ad : Nat → Nat} {P : sa_P} {I : sa_I} {J : sa_J} {x1 : Int64} {x3 : Int64} {x5 : Int64} {x7 : Int32} {x8 : Int32} {v177 : Int32}  (f177 : x8 + 1 = v177) (k : Sat (ER l D aI aL ad) M_X7_isWay P 6 [(0, .ref (ad 0)), (1, .long x1), (3, .long x3), (5, .long x5), (7, .int x7), (8, .int v177)] [] I J) : Sat (ER l D aI aL ad) M_X7_isWay P 177 [(0, .ref (ad 0)), (1, .long x1), (3, .long x3), (5, .long x5), (7, .int x7), (8, .int x8)] [] I J := by
  refine s_iinc 5 v177 [(8, .int v177), (0, .ref (ad 0)), (1, .long x1), (3, .long x3), (5, .long x5), (7, .int x7)] dX7_isWay_177 rfl f177 (Nat.lt_of_lt_of_le (Nat.lt_succ_self _) (Nat.le_of_ble_eq_true rfl)) rfl ?_
  refine s_goto (tgt := 6) dX7_isWay_180 (by decide) ?_
  refine s_pick [1, 2, 3, 4, 5, 0] [(0, .ref (ad 0)), (1, .long x1), (3, .long x3), (5, .long x5), (7, .int x7), (8, .int v177)] rfl ?_; exact k
theorem bX7_isWay_183 {l : Launch} {D : va_G} {aI aL : ClassId} {ad : Nat → Nat} {P : sa_P} {I : sa_I} {J : sa_J} {x7 : Int32} (hz : narrow .boolean (.int x7) = .int x7)  (k : P (some (.int x7)) I J) : Sat (ER l D aI aL ad) M_X7_isWay P 183 [(7, .int x7)] [] I J := by
  refine s_iload 0 dX7_isWay_183 rfl ?_
  exact s_zret hz rfl dX7_isWay_185 k
/-! X7_hasWay -/
theorem dX7_hasWay_0 : decode cX7_hasWay 0 = .ok (.bipush 9, 2) := by decide +kernel
theorem dX7_hasWay_2 : decode cX7_hasWay 2 = .ok (.iload_n 1, 1) := by decide +kernel
theorem dX7_hasWay_3 : decode cX7_hasWay 3 = .ok (.imul, 1) := by decide +kernel
theorem dX7_hasWay_4 : decode cX7_hasWay 4 = .ok (.istore_n 3, 1) := by decide +kernel
theorem dX7_hasWay_5 : decode cX7_hasWay 5 = .ok (.aload_n 0, 1) := by decide +kernel
theorem dX7_hasWay_6 : decode cX7_hasWay 6 = .ok (.getfield 101, 3) := by decide +kernel
theorem dX7_hasWay_9 : decode cX7_hasWay 9 = .ok (.iconst 3, 1) := by decide +kernel
theorem dX7_hasWay_10 : decode cX7_hasWay 10 = .ok (.if_icmp .ne 21, 3) := by decide +kernel
theorem dX7_hasWay_13 : decode cX7_hasWay 13 = .ok (.aload_n 0, 1) := by decide +kernel
theorem dX7_hasWay_14 : decode cX7_hasWay 14 = .ok (.getfield 20, 3) := by decide +kernel
theorem dX7_hasWay_17 : decode cX7_hasWay 17 = .ok (.iload_n 3, 1) := by decide +kernel
theorem dX7_hasWay_18 : decode cX7_hasWay 18 = .ok (.bipush 8, 2) := by decide +kernel
theorem dX7_hasWay_20 : decode cX7_hasWay 20 = .ok (.iadd, 1) := by decide +kernel
theorem dX7_hasWay_21 : decode cX7_hasWay 21 = .ok (.iaload, 1) := by decide +kernel
theorem dX7_hasWay_22 : decode cX7_hasWay 22 = .ok (.iload_n 2, 1) := by decide +kernel
theorem dX7_hasWay_23 : decode cX7_hasWay 23 = .ok (.irem, 1) := by decide +kernel
theorem dX7_hasWay_24 : decode cX7_hasWay 24 = .ok (.ifCond .ne 7, 3) := by decide +kernel
theorem dX7_hasWay_27 : decode cX7_hasWay 27 = .ok (.iload_n 2, 1) := by decide +kernel
theorem dX7_hasWay_28 : decode cX7_hasWay 28 = .ok (.goto 4, 3) := by decide +kernel
theorem dX7_hasWay_31 : decode cX7_hasWay 31 = .ok (.iconst 1, 1) := by decide +kernel
theorem dX7_hasWay_32 : decode cX7_hasWay 32 = .ok (.istore 4, 2) := by decide +kernel
theorem dX7_hasWay_34 : decode cX7_hasWay 34 = .ok (.iconst 0, 1) := by decide +kernel
theorem dX7_hasWay_35 : decode cX7_hasWay 35 = .ok (.istore 5, 2) := by decide +kernel
theorem dX7_hasWay_37 : decode cX7_hasWay 37 = .ok (.iload 5, 2) := by decide +kernel
theorem dX7_hasWay_39 : decode cX7_hasWay 39 = .ok (.iload_n 2, 1) := by decide +kernel
theorem dX7_hasWay_40 : decode cX7_hasWay 40 = .ok (.if_icmp .ge 145, 3) := by decide +kernel
theorem dX7_hasWay_43 : decode cX7_hasWay 43 = .ok (.aload_n 0, 1) := by decide +kernel
theorem dX7_hasWay_44 : decode cX7_hasWay 44 = .ok (.getfield 20, 3) := by decide +kernel
theorem dX7_hasWay_47 : decode cX7_hasWay 47 = .ok (.iload_n 3, 1) := by decide +kernel
theorem dX7_hasWay_48 : decode cX7_hasWay 48 = .ok (.iconst 3, 1) := by decide +kernel
theorem dX7_hasWay_49 : decode cX7_hasWay 49 = .ok (.iadd, 1) := by decide +kernel
theorem dX7_hasWay_50 : decode cX7_hasWay 50 = .ok (.iaload, 1) := by decide +kernel
theorem dX7_hasWay_51 : decode cX7_hasWay 51 = .ok (.i2l, 1) := by decide +kernel
theorem dX7_hasWay_52 : decode cX7_hasWay 52 = .ok (.aload_n 0, 1) := by decide +kernel
theorem dX7_hasWay_53 : decode cX7_hasWay 53 = .ok (.getfield 20, 3) := by decide +kernel
theorem dX7_hasWay_56 : decode cX7_hasWay 56 = .ok (.iload_n 3, 1) := by decide +kernel
theorem dX7_hasWay_57 : decode cX7_hasWay 57 = .ok (.iconst 4, 1) := by decide +kernel
theorem dX7_hasWay_58 : decode cX7_hasWay 58 = .ok (.iadd, 1) := by decide +kernel
theorem dX7_hasWay_59 : decode cX7_hasWay 59 = .ok (.iaload, 1) := by decide +kernel
theorem dX7_hasWay_60 : decode cX7_hasWay 60 = .ok (.i2l, 1) := by decide +kernel
theorem dX7_hasWay_61 : decode cX7_hasWay 61 = .ok (.iload 5, 2) := by decide +kernel
theorem dX7_hasWay_63 : decode cX7_hasWay 63 = .ok (.i2l, 1) := by decide +kernel
theorem dX7_hasWay_64 : decode cX7_hasWay 64 = .ok (.lmul, 1) := by decide +kernel
theorem dX7_hasWay_65 : decode cX7_hasWay 65 = .ok (.ladd, 1) := by decide +kernel
theorem dX7_hasWay_66 : decode cX7_hasWay 66 = .ok (.iload_n 2, 1) := by decide +kernel
theorem dX7_hasWay_67 : decode cX7_hasWay 67 = .ok (.i2l, 1) := by decide +kernel
theorem dX7_hasWay_68 : decode cX7_hasWay 68 = .ok (.lrem, 1) := by decide +kernel
theorem dX7_hasWay_69 : decode cX7_hasWay 69 = .ok (.lconst 0, 1) := by decide +kernel
theorem dX7_hasWay_70 : decode cX7_hasWay 70 = .ok (.lcmp, 1) := by decide +kernel
theorem dX7_hasWay_71 : decode cX7_hasWay 71 = .ok (.ifCond .eq 6, 3) := by decide +kernel
theorem dX7_hasWay_74 : decode cX7_hasWay 74 = .ok (.goto 105, 3) := by decide +kernel
theorem dX7_hasWay_77 : decode cX7_hasWay 77 = .ok (.aload_n 0, 1) := by decide +kernel
theorem dX7_hasWay_78 : decode cX7_hasWay 78 = .ok (.getfield 101, 3) := by decide +kernel
theorem dX7_hasWay_81 : decode cX7_hasWay 81 = .ok (.iconst 2, 1) := by decide +kernel
theorem dX7_hasWay_82 : decode cX7_hasWay 82 = .ok (.if_icmp .ne 7, 3) := by decide +kernel
theorem dX7_hasWay_85 : decode cX7_hasWay 85 = .ok (.lconst 0, 1) := by decide +kernel
theorem dX7_hasWay_86 : decode cX7_hasWay 86 = .ok (.goto 34, 3) := by decide +kernel
theorem dX7_hasWay_89 : decode cX7_hasWay 89 = .ok (.aload_n 0, 1) := by decide +kernel
theorem dX7_hasWay_90 : decode cX7_hasWay 90 = .ok (.getfield 20, 3) := by decide +kernel
theorem dX7_hasWay_93 : decode cX7_hasWay 93 = .ok (.iload_n 3, 1) := by decide +kernel
theorem dX7_hasWay_94 : decode cX7_hasWay 94 = .ok (.bipush 6, 2) := by decide +kernel
theorem dX7_hasWay_96 : decode cX7_hasWay 96 = .ok (.iadd, 1) := by decide +kernel
theorem dX7_hasWay_97 : decode cX7_hasWay 97 = .ok (.iaload, 1) := by decide +kernel
theorem dX7_hasWay_98 : decode cX7_hasWay 98 = .ok (.i2l, 1) := by decide +kernel
theorem dX7_hasWay_99 : decode cX7_hasWay 99 = .ok (.lneg, 1) := by decide +kernel
theorem dX7_hasWay_100 : decode cX7_hasWay 100 = .ok (.aload_n 0, 1) := by decide +kernel
theorem dX7_hasWay_101 : decode cX7_hasWay 101 = .ok (.getfield 20, 3) := by decide +kernel
theorem dX7_hasWay_104 : decode cX7_hasWay 104 = .ok (.iload_n 3, 1) := by decide +kernel
theorem dX7_hasWay_105 : decode cX7_hasWay 105 = .ok (.bipush 7, 2) := by decide +kernel
theorem dX7_hasWay_107 : decode cX7_hasWay 107 = .ok (.iadd, 1) := by decide +kernel
theorem dX7_hasWay_108 : decode cX7_hasWay 108 = .ok (.iaload, 1) := by decide +kernel
theorem dX7_hasWay_109 : decode cX7_hasWay 109 = .ok (.i2l, 1) := by decide +kernel
theorem dX7_hasWay_110 : decode cX7_hasWay 110 = .ok (.iload 5, 2) := by decide +kernel
theorem dX7_hasWay_112 : decode cX7_hasWay 112 = .ok (.i2l, 1) := by decide +kernel
theorem dX7_hasWay_113 : decode cX7_hasWay 113 = .ok (.lmul, 1) := by decide +kernel
theorem dX7_hasWay_114 : decode cX7_hasWay 114 = .ok (.lsub, 1) := by decide +kernel
theorem dX7_hasWay_115 : decode cX7_hasWay 115 = .ok (.iload_n 2, 1) := by decide +kernel
theorem dX7_hasWay_116 : decode cX7_hasWay 116 = .ok (.i2l, 1) := by decide +kernel
theorem dX7_hasWay_117 : decode cX7_hasWay 117 = .ok (.invokestatic 155, 3) := by decide +kernel
theorem dX7_hasWay_120 : decode cX7_hasWay 120 = .ok (.lstore 6, 2) := by decide +kernel
theorem dX7_hasWay_122 : decode cX7_hasWay 122 = .ok (.iconst 0, 1) := by decide +kernel
theorem dX7_hasWay_123 : decode cX7_hasWay 123 = .ok (.istore 8, 2) := by decide +kernel
theorem dX7_hasWay_125 : decode cX7_hasWay 125 = .ok (.iload 8, 2) := by decide +kernel
theorem dX7_hasWay_127 : decode cX7_hasWay 127 = .ok (.iload 4, 2) := by decide +kernel
theorem dX7_hasWay_129 : decode cX7_hasWay 129 = .ok (.if_icmp .ge 50, 3) := by decide +kernel
theorem dX7_hasWay_132 : decode cX7_hasWay 132 = .ok (.iload 4, 2) := by decide +kernel
theorem dX7_hasWay_134 : decode cX7_hasWay 134 = .ok (.iconst 1, 1) := by decide +kernel
theorem dX7_hasWay_135 : decode cX7_hasWay 135 = .ok (.if_icmp .eq 10, 3) := by decide +kernel
theorem dX7_hasWay_138 : decode cX7_hasWay 138 = .ok (.lload 6, 2) := by decide +kernel
theorem dX7_hasWay_140 : decode cX7_hasWay 140 = .ok (.lconst 0, 1) := by decide +kernel
theorem dX7_hasWay_141 : decode cX7_hasWay 141 = .ok (.lcmp, 1) := by decide +kernel
theorem dX7_hasWay_142 : decode cX7_hasWay 142 = .ok (.ifCond .ne 37, 3) := by decide +kernel
theorem dX7_hasWay_145 : decode cX7_hasWay 145 = .ok (.aload_n 0, 1) := by decide +kernel
theorem dX7_hasWay_146 : decode cX7_hasWay 146 = .ok (.iload 5, 2) := by decide +kernel
theorem dX7_hasWay_148 : decode cX7_hasWay 148 = .ok (.i2l, 1) := by decide +kernel
theorem dX7_hasWay_149 : decode cX7_hasWay 149 = .ok (.iload 4, 2) := by decide +kernel
theorem dX7_hasWay_151 : decode cX7_hasWay 151 = .ok (.iconst 1, 1) := by decide +kernel
theorem dX7_hasWay_152 : decode cX7_hasWay 152 = .ok (.if_icmp .ne 8, 3) := by decide +kernel
theorem dX7_hasWay_155 : decode cX7_hasWay 155 = .ok (.lload 6, 2) := by decide +kernel
theorem dX7_hasWay_157 : decode cX7_hasWay 157 = .ok (.goto 6, 3) := by decide +kernel
theorem dX7_hasWay_160 : decode cX7_hasWay 160 = .ok (.iload 8, 2) := by decide +kernel
theorem dX7_hasWay_162 : decode cX7_hasWay 162 = .ok (.i2l, 1) := by decide +kernel
theorem dX7_hasWay_163 : decode cX7_hasWay 163 = .ok (.iload_n 2, 1) := by decide +kernel
theorem dX7_hasWay_164 : decode cX7_hasWay 164 = .ok (.i2l, 1) := by decide +kernel
theorem dX7_hasWay_165 : decode cX7_hasWay 165 = .ok (.invokevirtual 297, 3) := by decide +kernel
theorem dX7_hasWay_168 : decode cX7_hasWay 168 = .ok (.ifCond .eq 5, 3) := by decide +kernel
theorem dX7_hasWay_171 : decode cX7_hasWay 171 = .ok (.iconst 1, 1) := by decide +kernel
theorem dX7_hasWay_172 : decode cX7_hasWay 172 = .ok (.ireturn, 1) := by decide +kernel
theorem dX7_hasWay_173 : decode cX7_hasWay 173 = .ok (.iinc 8 1, 3) := by decide +kernel
theorem dX7_hasWay_176 : decode cX7_hasWay 176 = .ok (.goto (-51), 3) := by decide +kernel
theorem dX7_hasWay_179 : decode cX7_hasWay 179 = .ok (.iinc 5 1, 3) := by decide +kernel
theorem dX7_hasWay_182 : decode cX7_hasWay 182 = .ok (.goto (-145), 3) := by decide +kernel
theorem dX7_hasWay_185 : decode cX7_hasWay 185 = .ok (.iconst 0, 1) := by decide +kernel
theorem dX7_hasWay_186 : decode cX7_hasWay 186 = .ok (.ireturn, 1) := by decide +kernel
theorem bX7_hasWay_0 {l : Launch} {D : va_G} {aI aL : ClassId} {ad : Nat → Nat} {P : sa_P} {I : sa_I} {J : sa_J} {x1 : Int32} {x2 : Int32} {v4 : Int32}  (f4 : (9 : Int32) * x1 = v4) (kt : ¬ I 0 1 = (3 : Int32) → Sat (ER l D aI aL ad) M_X7_hasWay P 31 [(0, .ref (ad 0)), (2, .int x2), (3, .int v4)] [] I J) (kf : I 0 1 = (3 : Int32) → Sat (ER l D aI aL ad) M_X7_hasWay P 13 [(0, .ref (ad 0)), (2, .int x2), (3, .int v4)] [] I J) : Sat (ER l D aI aL ad) M_X7_hasWay P 0 [(0, .ref (ad 0)), (1, .int x1), (2, .int x2)] [] I J := by
  refine s_bipush (v := 9) dX7_hasWay_0 rfl ?_
  refine s_iload_n 1 dX7_hasWay_2 rfl ?_
  refine s_imul dX7_hasWay_3 ?_
  refine s_eqi f4 ?_
  refine s_istore_n [(3, .int v4), (0, .ref (ad 0)), (1, .int x1), (2, .int x2)] dX7_hasWay_4 (Nat.lt_of_lt_of_le (Nat.lt_succ_self _) (Nat.le_of_ble_eq_true rfl)) rfl ?_
  refine s_aload_n 1 dX7_hasWay_5 rfl ?_
  refine g_X7_101 dX7_hasWay_6 rfl ?_
  refine s_iconst (v := 3) dX7_hasWay_9 rfl ?_
  refine s_icmp_ne (tgt := 31) dX7_hasWay_10 (by decide) (fun c => ?_) (fun c => ?_)
  · refine s_pick [1, 3, 0] [(0, .ref (ad 0)), (2, .int x2), (3, .int v4)] rfl ?_; exact kt c
  · refine s_pick [1, 3, 0] [(0, .ref (ad 0)), (2, .int x2), (3, .int v4)] rfl ?_; exact kf (by first | exact c | exact Classical.not_not.mp c)
theorem bX7_hasWay_13 {l : Launch} {D : va_G} {aI aL : ClassId} {ad : Nat → Nat} {P : sa_P} {I : sa_I} {J : sa_J} {x2 : Int32} {x3 : Int32} {j20 : Nat} (e20 : x3 + (8 : Int32) = nI j20) (h21 : j20 < 720) (z23 : ¬ x2 = 0)  (kt : ¬ (I 4 j20) - (I 4 j20) / x2 * x2 = 0 → Sat (ER l D aI aL ad) M_X7_hasWay P 31 [(0, .ref (ad 0)), (2, .int x2), (3, .int x3)] [] I J) (kf : (I 4 j20) - (I 4 j20) / x2 * x2 = 0 → Sat (ER l D aI aL ad) M_X7_hasWay P 27 [(0, .ref (ad 0)), (2, .int x2), (3, .int x3)] [] I J) : Sat (ER l D aI aL ad) M_X7_hasWay P 13 [(0, .ref (ad 0)), (2, .int x2), (3, .int x3)] [] I J := by
  refine s_aload_n 0 dX7_hasWay_13 rfl ?_
  refine g_X7_20 dX7_hasWay_14 rfl ?_
  refine s_iload_n 2 dX7_hasWay_17 rfl ?_
  refine s_bipush (v := 8) dX7_hasWay_18 rfl ?_
  refine s_iadd dX7_hasWay_20 ?_
  refine s_eqi e20 ?_
  refine s_ialoadN aI_R4 h21 (by decide) dX7_hasWay_21 ?_
  refine s_iload_n 1 dX7_hasWay_22 rfl ?_
  refine s_irem dX7_hasWay_23 z23 ?_
  refine s_if_ne (tgt := 31) dX7_hasWay_24 (by decide) (fun c => ?_) (fun c => ?_)
  · exact kt c
  · exact kf (by first | exact c | exact Classical.not_not.mp c)
theorem bX7_hasWay_27 {l : Launch} {D : va_G} {aI aL : ClassId} {ad : Nat → Nat} {P : sa_P} {I : sa_I} {J : sa_J} {x2 : Int32} {x3 : Int32}   (k : Sat (ER l D aI aL ad) M_X7_hasWay P 32 [(0, .ref (ad 0)), (2, .int x2), (3, .int x3)] [.int x2] I J) : Sat (ER l D aI aL ad) M_X7_hasWay P 27 [(0, .ref (ad 0)), (2, .int x2), (3, .int x3)] [] I J := by
  refine s_iload_n 1 dX7_hasWay_27 rfl ?_
  refine s_goto (tgt := 32) dX7_hasWay_28 (by decide) ?_
  exact k
theorem bX7_hasWay_31 {l : Launch} {D : va_G} {aI aL : ClassId} {ad : Nat → Nat} {P : sa_P} {I : sa_I} {J : sa_J} {x2 : Int32} {x3 : Int32}   (k : Sat (ER l D aI aL ad) M_X7_hasWay P 32 [(0, .ref (ad 0)), (2, .int x2), (3, .int x3)] [.int (1 : Int32)] I J) : Sat (ER l D aI aL ad) M_X7_hasWay P 31 [(0, .ref (ad 0)), (2, .int x2), (3, .int x3)] [] I J := by
  refine s_iconst (v := 1) dX7_hasWay_31 rfl ?_
  exact k
theorem bX7_hasWay_32 {l : Launch} {D : va_G} {aI aL : ClassId} {ad : Nat → Nat} {P : sa_P} {I : sa_I} {J : sa_J} {x2 : Int32} {x3 : Int32} {s0 : Int32} {v35 : Int32}  (f35 : (0 : Int32) = v35) (k : Sat (ER l D aI aL ad) M_X7_hasWay P 37 [(0, .ref (ad 0)), (2, .int x2), (3, .int x3), (4, .int s0), (5, .int v35)] [] I J) : Sat (ER l D aI aL ad) M_X7_hasWay P 32 [(0, .ref (ad 0)), (2, .int x2), (3, .int x3)] [.int s0] I J := by
  refine s_istore [(4, .int s0), (0, .ref (ad 0)), (2, .int x2), (3, .int x3)] dX7_hasWay_32 (Nat.lt_of_lt_of_le (Nat.lt_succ_self _) (Nat.le_of_ble_eq_true rfl)) rfl ?_
  refine s_iconst (v := 0) dX7_hasWay_34 rfl ?_
  refine s_eqi f35 ?_
  refine s_istore [(5, .int v35), (4, .int s0), (0, .ref (ad 0)), (2, .int x2), (3, .int x3)] dX7_hasWay_35 (Nat.lt_of_lt_of_le (Nat.lt_succ_self _) (Nat.le_of_ble_eq_true rfl)) rfl ?_
  refine s_pick [2, 3, 4, 1, 0] [(0, .ref (ad 0)), (2, .int x2), (3, .int x3), (4, .int s0), (5, .int v35)] rfl ?_; exact k
theorem bX7_hasWay_37 {l : Launch} {D : va_G} {aI aL : ClassId} {ad : Nat → Nat} {P : sa_P} {I : sa_I} {J : sa_J} {x2 : Int32} {x3 : Int32} {x4 : Int32} {x5 : Int32}   (kt : x2 ≤ x5 → Sat (ER l D aI aL ad) M_X7_hasWay P 185 [] [] I J) (kf : ¬ x2 ≤ x5 → Sat (ER l D aI aL ad) M_X7_hasWay P 43 [(0, .ref (ad 0)), (2, .int x2), (3, .int x3), (4, .int x4), (5, .int x5)] [] I J) : Sat (ER l D aI aL ad) M_X7_hasWay P 37 [(0, .ref (ad 0)), (2, .int x2), (3, .int x3), (4, .int x4), (5, .int x5)] [] I J := by
  refine s_iload 4 dX7_hasWay_37 rfl ?_
  refine s_iload_n 1 dX7_hasWay_39 rfl ?_
  refine s_icmp_ge (tgt := 185) dX7_hasWay_40 (by decide) (fun c => ?_) (fun c => ?_)
  · refine s_pick [] [] rfl ?_; exact kt c
  · exact kf c
theorem bX7_hasWay_43 {l : Launch} {D : va_G} {aI aL : ClassId} {ad : Nat → Nat} {P : sa_P} {I : sa_I} {J : sa_J} {x2 : Int32} {x3 : Int32} {x4 : Int32} {x5 : Int32} {j49 : Nat} {j58 : Nat} (e49 : x3 + (3 : Int32) = nI j49) (h50 : j49 < 720) (e58 : x3 + (4 : Int32) = nI j58) (h59 : j58 < 720) (z68 : ¬ x2.toInt64 = 0)  (kt : (((I 4 j49).toInt64) + (((I 4 j58).toInt64) * x5.toInt64)) - (((I 4 j49).toInt64) + (((I 4 j58).toInt64) * x5.toInt64)) / x2.toInt64 * x2.toInt64 = (0 : Int64) → Sat (ER l D aI aL ad) M_X7_hasWay P 77 [(0, .ref (ad 0)), (2, .int x2), (3, .int x3), (4, .int x4), (5, .int x5)] [] I J) (kf : ¬ (((I 4 j49).toInt64) + (((I 4 j58).toInt64) * x5.toInt64)) - (((I 4 j49).toInt64) + (((I 4 j58).toInt64) * x5.toInt64)) / x2.toInt64 * x2.toInt64 = (0 : Int64) → Sat (ER l D aI aL ad) M_X7_hasWay P 74 [(0, .ref (ad 0)), (2, .int x2), (3, .int x3), (4, .int x4), (5, .int x5)] [] I J) : Sat (ER l D aI aL ad) M_X7_hasWay P 43 [(0, .ref (ad 0)), (2, .int x2), (3, .int x3), (4, .int x4), (5, .int x5)] [] I J := by
  refine s_aload_n 0 dX7_hasWay_43 rfl ?_
  refine g_X7_20 dX7_hasWay_44 rfl ?_
  refine s_iload_n 2 dX7_hasWay_47 rfl ?_
  refine s_iconst (v := 3) dX7_hasWay_48 rfl ?_
  refine s_iadd dX7_hasWay_49 ?_
  refine s_eqi e49 ?_
  refine s_ialoadN aI_R4 h50 (by decide) dX7_hasWay_50 ?_
  refine s_i2l dX7_hasWay_51 ?_
  refine s_aload_n 0 dX7_hasWay_52 rfl ?_
  refine g_X7_20 dX7_hasWay_53 rfl ?_
  refine s_iload_n 2 dX7_hasWay_56 rfl ?_
  refine s_iconst (v := 4) dX7_hasWay_57 rfl ?_
  refine s_iadd dX7_hasWay_58 ?_
  refine s_eqi e58 ?_
  refine s_ialoadN aI_R4 h59 (by decide) dX7_hasWay_59 ?_
  refine s_i2l dX7_hasWay_60 ?_
  refine s_iload 4 dX7_hasWay_61 rfl ?_
  refine s_i2l dX7_hasWay_63 ?_
  refine s_lmul dX7_hasWay_64 ?_
  refine s_ladd dX7_hasWay_65 ?_
  refine s_iload_n 1 dX7_hasWay_66 rfl ?_
  refine s_i2l dX7_hasWay_67 ?_
  refine s_lrem dX7_hasWay_68 z68 ?_
  refine s_lconst (v := 0) dX7_hasWay_69 rfl ?_
  refine s_lif_eq (tgt := 77) dX7_hasWay_70 dX7_hasWay_71 (by decide) (fun c => ?_) (fun c => ?_)
  · exact kt c
  · exact kf c
theorem bX7_hasWay_74 {l : Launch} {D : va_G} {aI aL : ClassId} {ad : Nat → Nat} {P : sa_P} {I : sa_I} {J : sa_J} {x2 : Int32} {x3 : Int32} {x4 : Int32} {x5 : Int32}   (k : Sat (ER l D aI aL ad) M_X7_hasWay P 179 [(0, .ref (ad 0)), (2, .int x2), (3, .int x3), (4, .int x4), (5, .int x5)] [] I J) : Sat (ER l D aI aL ad) M_X7_hasWay P 74 [(0, .ref (ad 0)), (2, .int x2), (3, .int x3), (4, .int x4), (5, .int x5)] [] I J := by
  refine s_goto (tgt := 179) dX7_hasWay_74 (by decide) ?_
  exact k
theorem bX7_hasWay_77 {l : Launch} {D : va_G} {aI aL : ClassId} {ad : Nat → Nat} {P : sa_P} {I : sa_I} {J : sa_J} {x2 : Int32} {x3 : Int32} {x4 : Int32} {x5 : Int32}   (kt : ¬ I 0 1 = (2 : Int32) → Sat (ER l D aI aL ad) M_X7_hasWay P 89 [(0, .ref (ad 0)), (2, .int x2), (3, .int x3), (4, .int x4), (5, .int x5)] [] I J) (kf : I 0 1 = (2 : Int32) → Sat (ER l D aI aL ad) M_X7_hasWay P 85 [(0, .ref (ad 0)), (2, .int x2), (3, .int x3), (4, .int x4), (5, .int x5)] [] I J) : Sat (ER l D aI aL ad) M_X7_hasWay P 77 [(0, .ref (ad 0)), (2, .int x2), (3, .int x3), (4, .int x4), (5, .int x5)] [] I J := by
  refine s_aload_n 0 dX7_hasWay_77 rfl ?_
  refine g_X7_101 dX7_hasWay_78 rfl ?_
  refine s_iconst (v := 2) dX7_hasWay_81 rfl ?_
  refine s_icmp_ne (tgt := 89) dX7_hasWay_82 (by decide) (fun c => ?_) (fun c => ?_)
  · exact kt c
  · exact kf (by first | exact c | exact Classical.not_not.mp c)
theorem bX7_hasWay_85 {l : Launch} {D : va_G} {aI aL : ClassId} {ad : Nat → Nat} {P : sa_P} {I : sa_I} {J : sa_J} {x2 : Int32} {x3 : Int32} {x4 : Int32} {x5 : Int32}   (k : Sat (ER l D aI aL ad) M_X7_hasWay P 120 [(0, .ref (ad 0)), (2, .int x2), (3, .int x3), (4, .int x4), (5, .int x5)] [.long (0 : Int64)] I J) : Sat (ER l D aI aL ad) M_X7_hasWay P 85 [(0, .ref (ad 0)), (2, .int x2), (3, .int x3), (4, .int x4), (5, .int x5)] [] I J := by
  refine s_lconst (v := 0) dX7_hasWay_85 rfl ?_
  refine s_goto (tgt := 120) dX7_hasWay_86 (by decide) ?_
  exact k
theorem bX7_hasWay_89 {l : Launch} {D : va_G} {aI aL : ClassId} {ad : Nat → Nat} {P : sa_P} {I : sa_I} {J : sa_J} {x2 : Int32} {x3 : Int32} {x4 : Int32} {x5 : Int32} {j96 : Nat} {j107 : Nat} (e96 : x3 + (6 : Int32) = nI j96) (h97 : j96 < 720) (e107 : x3 + (7 : Int32) = nI j107) (h108 : j107 < 720)  (k : Sat (ER l D aI aL ad) M_X7_hasWay P 117 [(0, .ref (ad 0)), (2, .int x2), (3, .int x3), (4, .int x4), (5, .int x5)] [.long x2.toInt64, .long ((-((I 4 j96).toInt64)) - (((I 4 j107).toInt64) * x5.toInt64))] I J) : Sat (ER l D aI aL ad) M_X7_hasWay P 89 [(0, .ref (ad 0)), (2, .int x2), (3, .int x3), (4, .int x4), (5, .int x5)] [] I J := by
  refine s_aload_n 0 dX7_hasWay_89 rfl ?_
  refine g_X7_20 dX7_hasWay_90 rfl ?_
  refine s_iload_n 2 dX7_hasWay_93 rfl ?_
  refine s_bipush (v := 6) dX7_hasWay_94 rfl ?_
  refine s_iadd dX7_hasWay_96 ?_
  refine s_eqi e96 ?_
  refine s_ialoadN aI_R4 h97 (by decide) dX7_hasWay_97 ?_
  refine s_i2l dX7_hasWay_98 ?_
  refine s_lneg dX7_hasWay_99 ?_
  refine s_aload_n 0 dX7_hasWay_100 rfl ?_
  refine g_X7_20 dX7_hasWay_101 rfl ?_
  refine s_iload_n 2 dX7_hasWay_104 rfl ?_
  refine s_bipush (v := 7) dX7_hasWay_105 rfl ?_
  refine s_iadd dX7_hasWay_107 ?_
  refine s_eqi e107 ?_
  refine s_ialoadN aI_R4 h108 (by decide) dX7_hasWay_108 ?_
  refine s_i2l dX7_hasWay_109 ?_
  refine s_iload 4 dX7_hasWay_110 rfl ?_
  refine s_i2l dX7_hasWay_112 ?_
  refine s_lmul dX7_hasWay_113 ?_
  refine s_lsub dX7_hasWay_114 ?_
  refine s_iload_n 1 dX7_hasWay_115 rfl ?_
  refine s_i2l dX7_hasWay_116 ?_
  exact k
theorem bX7_hasWay_120 {l : Launch} {D : va_G} {aI aL : ClassId} {ad : Nat → Nat} {P : sa_P} {I : sa_I} {J : sa_J} {x2 : Int32} {x3 : Int32} {x4 : Int32} {x5 : Int32} {s0 : Int64} {v123 : Int32}  (f123 : (0 : Int32) = v123) (k : Sat (ER l D aI aL ad) M_X7_hasWay P 125 [(0, .ref (ad 0)), (2, .int x2), (3, .int x3), (4, .int x4), (5, .int x5), (6, .long s0), (8, .int v123)] [] I J) : Sat (ER l D aI aL ad) M_X7_hasWay P 120 [(0, .ref (ad 0)), (2, .int x2), (3, .int x3), (4, .int x4), (5, .int x5)] [.long s0] I J := by
  refine s_lstore [(6, .long s0), (0, .ref (ad 0)), (2, .int x2), (3, .int x3), (4, .int x4), (5, .int x5)] dX7_hasWay_120 (Nat.lt_of_lt_of_le (Nat.lt_succ_self _) (Nat.le_of_ble_eq_true rfl)) rfl ?_
  refine s_iconst (v := 0) dX7_hasWay_122 rfl ?_
  refine s_eqi f123 ?_
  refine s_istore [(8, .int v123), (6, .long s0), (0, .ref (ad 0)), (2, .int x2), (3, .int x3), (4, .int x4), (5, .int x5)] dX7_hasWay_123 (Nat.lt_of_lt_of_le (Nat.lt_succ_self _) (Nat.le_of_ble_eq_true rfl)) rfl ?_
  refine s_pick [2, 3, 4, 5, 6, 1, 0] [(0, .ref (ad 0)), (2, .int x2), (3, .int x3), (4, .int x4), (5, .int x5), (6, .long s0), (8, .int v123)] rfl ?_; exact k
theorem bX7_hasWay_125 {l : Launch} {D : va_G} {aI aL : ClassId} {ad : Nat → Nat} {P : sa_P} {I : sa_I} {J : sa_J} {x2 : Int32} {x3 : Int32} {x4 : Int32} {x5 : Int32} {x6 : Int64} {x8 : Int32}   (kt : x4 ≤ x8 → Sat (ER l D aI aL ad) M_X7_hasWay P 179 [(0, .ref (ad 0)), (2, .int x2), (3, .int x3), (4, .int x4), (5, .int x5)] [] I J) (kf : ¬ x4 ≤ x8 → Sat (ER l D aI aL ad) M_X7_hasWay P 132 [(0, .ref (ad 0)), (2, .int x2), (3, .int x3), (4, .int x4), (5, .int x5), (6, .long x6), (8, .int x8)] [] I J) : Sat (ER l D aI aL ad) M_X7_hasWay P 125 [(0, .ref (ad 0)), (2, .int x2), (3, .int x3), (4, .int x4), (5, .int x5), (6, .long x6), (8, .int x8)] [] I J := by
  refine s_iload 6 dX7_hasWay_125 rfl ?_
  refine s_iload 3 dX7_hasWay_127 rfl ?_
  refine s_icmp_ge (tgt := 179) dX7_hasWay_129 (by decide) (fun c => ?_) (fun c => ?_)
  · refine s_pick [0, 1, 2, 3, 4] [(0, .ref (ad 0)), (2, .int x2), (3, .int x3), (4, .int x4), (5, .int x5)] rfl ?_; exact kt c
  · exact kf c
theorem bX7_hasWay_132 {l : Launch} {D : va_G} {aI aL : ClassId} {ad : Nat → Nat} {P : sa_P} {I : sa_I} {J : sa_J} {x2 : Int32} {x3 : Int32} {x4 : Int32} {x5 : Int32} {x6 : Int64} {x8 : Int32}   (kt : x4 = (1 : Int32) → Sat (ER l D aI aL ad) M_X7_hasWay P 145 [(0, .ref (ad 0)), (2, .int x2), (3, .int x3), (4, .int x4), (5, .int x5), (6, .long x6), (8, .int x8)] [] I J) (kf : ¬ x4 = (1 : Int32) → Sat (ER l D aI aL ad) M_X7_hasWay P 138 [(0, .ref (ad 0)), (2, .int x2), (3, .int x3), (4, .int x4), (5, .int x5), (6, .long x6), (8, .int x8)] [] I J) : Sat (ER l D aI aL ad) M_X7_hasWay P 132 [(0, .ref (ad 0)), (2, .int x2), (3, .int x3), (4, .int x4), (5, .int x5), (6, .long x6), (8, .int x8)] [] I J := by
  refine s_iload 3 dX7_hasWay_132 rfl ?_
  refine s_iconst (v := 1) dX7_hasWay_134 rfl ?_
  refine s_icmp_eq (tgt := 145) dX7_hasWay_135 (by decide) (fun c => ?_) (fun c => ?_)
  · exact kt c
  · exact kf c
theorem bX7_hasWay_138 {l : Launch} {D : va_G} {aI aL : ClassId} {ad : Nat → Nat} {P : sa_P} {I : sa_I} {J : sa_J} {x2 : Int32} {x3 : Int32} {x4 : Int32} {x5 : Int32} {x6 : Int64} {x8 : Int32}   (kt : ¬ x6 = (0 : Int64) → Sat (ER l D aI aL ad) M_X7_hasWay P 179 [(0, .ref (ad 0)), (2, .int x2), (3, .int x3), (4, .int x4), (5, .int x5)] [] I J) (kf : x6 = (0 : Int64) → Sat (ER l D aI aL ad) M_X7_hasWay P 145 [(0, .ref (ad 0)), (2, .int x2), (3, .int x3), (4, .int x4), (5, .int x5), (6, .long x6), (8, .int x8)] [] I J) : Sat (ER l D aI aL ad) M_X7_hasWay P 138 [(0, .ref (ad 0)), (2, .int x2), (3, .int x3), (4, .int x4), (5, .int x5), (6, .long x6), (8, .int x8)] [] I J := by
  refine s_lload 5 dX7_hasWay_138 rfl ?_
  refine s_lconst (v := 0) dX7_hasWay_140 rfl ?_
  refine s_lif_ne (tgt := 179) dX7_hasWay_141 dX7_hasWay_142 (by decide) (fun c => ?_) (fun c => ?_)
  · refine s_pick [0, 1, 2, 3, 4] [(0, .ref (ad 0)), (2, .int x2), (3, .int x3), (4, .int x4), (5, .int x5)] rfl ?_; exact kt c
  · exact kf (by first | exact c | exact Classical.not_not.mp c)
theorem bX7_hasWay_145 {l : Launch} {D : va_G} {aI aL : ClassId} {ad : Nat → Nat} {P : sa_P} {I : sa_I} {J : sa_J} {x2 : Int32} {x3 : Int32} {x4 : Int32} {x5 : Int32} {x6 : Int64} {x8 : Int32}   (kt : ¬ x4 = (1 : Int32) → Sat (ER l D aI aL ad) M_X7_hasWay P 160 [(0, .ref (ad 0)), (2, .int x2), (3, .int x3), (4, .int x4), (5, .int x5), (6, .long x6), (8, .int x8)] [.long x5.toInt64, .ref (ad 0)] I J) (kf : x4 = (1 : Int32) → Sat (ER l D aI aL ad) M_X7_hasWay P 155 [(0, .ref (ad 0)), (2, .int x2), (3, .int x3), (4, .int x4), (5, .int x5), (6, .long x6), (8, .int x8)] [.long x5.toInt64, .ref (ad 0)] I J) : Sat (ER l D aI aL ad) M_X7_hasWay P 145 [(0, .ref (ad 0)), (2, .int x2), (3, .int x3), (4, .int x4), (5, .int x5), (6, .long x6), (8, .int x8)] [] I J := by
  refine s_aload_n 0 dX7_hasWay_145 rfl ?_
  refine s_iload 4 dX7_hasWay_146 rfl ?_
  refine s_i2l dX7_hasWay_148 ?_
  refine s_iload 3 dX7_hasWay_149 rfl ?_
  refine s_iconst (v := 1) dX7_hasWay_151 rfl ?_
  refine s_icmp_ne (tgt := 160) dX7_hasWay_152 (by decide) (fun c => ?_) (fun c => ?_)
  · exact kt c
  · exact kf (by first | exact c | exact Classical.not_not.mp c)
theorem bX7_hasWay_155 {l : Launch} {D : va_G} {aI aL : ClassId} {ad : Nat → Nat} {P : sa_P} {I : sa_I} {J : sa_J} {x2 : Int32} {x3 : Int32} {x4 : Int32} {x5 : Int32} {x6 : Int64} {x8 : Int32} {s1 : Int64}   (k : Sat (ER l D aI aL ad) M_X7_hasWay P 163 [(0, .ref (ad 0)), (2, .int x2), (3, .int x3), (4, .int x4), (5, .int x5), (6, .long x6), (8, .int x8)] [.long x6, .long s1, .ref (ad 0)] I J) : Sat (ER l D aI aL ad) M_X7_hasWay P 155 [(0, .ref (ad 0)), (2, .int x2), (3, .int x3), (4, .int x4), (5, .int x5), (6, .long x6), (8, .int x8)] [.long s1, .ref (ad 0)] I J := by
  refine s_lload 5 dX7_hasWay_155 rfl ?_
  refine s_goto (tgt := 163) dX7_hasWay_157 (by decide) ?_
  exact k
theorem bX7_hasWay_160 {l : Launch} {D : va_G} {aI aL : ClassId} {ad : Nat → Nat} {P : sa_P} {I : sa_I} {J : sa_J} {x2 : Int32} {x3 : Int32} {x4 : Int32} {x5 : Int32} {x6 : Int64} {x8 : Int32} {s1 : Int64}   (k : Sat (ER l D aI aL ad) M_X7_hasWay P 163 [(0, .ref (ad 0)), (2, .int x2), (3, .int x3), (4, .int x4), (5, .int x5), (6, .long x6), (8, .int x8)] [.long x8.toInt64, .long s1, .ref (ad 0)] I J) : Sat (ER l D aI aL ad) M_X7_hasWay P 160 [(0, .ref (ad 0)), (2, .int x2), (3, .int x3), (4, .int x4), (5, .int x5), (6, .long x6), (8, .int x8)] [.long s1, .ref (ad 0)] I J := by
  refine s_iload 6 dX7_hasWay_160 rfl ?_
  refine s_i2l dX7_hasWay_162 ?_
  exact k
theorem bX7_hasWay_163 {l : Launch} {D : va_G} {aI aL : ClassId} {ad : Nat → Nat} {P : sa_P} {I : sa_I} {J : sa_J} {x2 : Int32} {x3 : Int32} {x4 : Int32} {x5 : Int32} {x6 : Int64} {x8 : Int32} {s1 : Int64} {s2 : Int64}   (k : Sat (ER l D aI aL ad) M_X7_hasWay P 165 [(0, .ref (ad 0)), (2, .int x2), (3, .int x3), (4, .int x4), (5, .int x5), (6, .long x6), (8, .int x8)] [.long x2.toInt64, .long s2, .long s1, .ref (ad 0)] I J) : Sat (ER l D aI aL ad) M_X7_hasWay P 163 [(0, .ref (ad 0)), (2, .int x2), (3, .int x3), (4, .int x4), (5, .int x5), (6, .long x6), (8, .int x8)] [.long s2, .long s1, .ref (ad 0)] I J := by
  refine s_iload_n 1 dX7_hasWay_163 rfl ?_
  refine s_i2l dX7_hasWay_164 ?_
  exact k
theorem bX7_hasWay_168 {l : Launch} {D : va_G} {aI aL : ClassId} {ad : Nat → Nat} {P : sa_P} {I : sa_I} {J : sa_J} {x2 : Int32} {x3 : Int32} {x4 : Int32} {x5 : Int32} {x6 : Int64} {x8 : Int32} {s0 : Int32}   (kt : s0 = 0 → Sat (ER l D aI aL ad) M_X7_hasWay P 173 [(0, .ref (ad 0)), (2, .int x2), (3, .int x3), (4, .int x4), (5, .int x5), (6, .long x6), (8, .int x8)] [] I J) (kf : ¬ s0 = 0 → Sat (ER l D aI aL ad) M_X7_hasWay P 171 [] [] I J) : Sat (ER l D aI aL ad) M_X7_hasWay P 168 [(0, .ref (ad 0)), (2, .int x2), (3, .int x3), (4, .int x4), (5, .int x5), (6, .long x6), (8, .int x8)] [.int s0] I J := by
  refine s_if_eq (tgt := 173) dX7_hasWay_168 (by decide) (fun c => ?_) (fun c => ?_)
  · exact kt c
  · refine s_pick [] [] rfl ?_; exact kf c
theorem bX7_hasWay_171 {l : Launch} {D : va_G} {aI aL : ClassId} {ad : Nat → Nat} {P : sa_P} {I : sa_I} {J : sa_J}    (k : P (some (.int (1 : Int32))) I J) : Sat (ER l D aI aL ad) M_X7_hasWay P 171 [] [] I J := by
  refine s_iconst (v := 1) dX7_hasWay_171 rfl ?_
  exact s_zret rfl rfl dX7_hasWay_172 k
theorem bX7_hasWay_173 {l : Launch} {D : va_G} {aI aL : ClassId} {ad : Nat → Nat} {P : sa_P} {I : sa_I} {J : sa_J} {x2 : Int32} {x3 : Int32} {x4 : Int32} {x5 : Int32} {x6 : Int64} {x8 : Int32} {v173 : Int32}  (f173 : x8 + 1 = v173) (k : Sat (ER l D aI aL ad) M_X7_hasWay P 125 [(0, .ref (ad 0)), (2, .int x2), (3, .int x3), (4, .int x4), (5, .int x5), (6, .long x6), (8, .int v173)] [] I J) : Sat (ER l D aI aL ad) M_X7_hasWay P 173 [(0, .ref (ad 0)), (2, .int x2), (3, .int x3), (4, .int x4), (5, .int x5), (6, .long x6), (8, .int x8)] [] I J := by
  refine s_iinc 6 v173 [(8, .int v173), (0, .ref (ad 0)), (2, .int x2), (3, .int x3), (4, .int x4), (5, .int x5), (6, .long x6)] dX7_hasWay_173 rfl f173 (Nat.lt_of_lt_of_le (Nat.lt_succ_self _) (Nat.le_of_ble_eq_true rfl)) rfl ?_
  refine s_goto (tgt := 125) dX7_hasWay_176 (by decide) ?_
  refine s_pick [1, 2, 3, 4, 5, 6, 0] [(0, .ref (ad 0)), (2, .int x2), (3, .int x3), (4, .int x4), (5, .int x5), (6, .long x6), (8, .int v173)] rfl ?_; exact k
theorem bX7_hasWay_179 {l : Launch} {D : va_G} {aI aL : ClassId} {ad : Nat → Nat} {P : sa_P} {I : sa_I} {J : sa_J} {x2 : Int32} {x3 : Int32} {x4 : Int32} {x5 : Int32} {v179 : Int32}  (f179 : x5 + 1 = v179) (k : Sat (ER l D aI aL ad) M_X7_hasWay P 37 [(0, .ref (ad 0)), (2, .int x2), (3, .int x3), (4, .int x4), (5, .int v179)] [] I J) : Sat (ER l D aI aL ad) M_X7_hasWay P 179 [(0, .ref (ad 0)), (2, .int x2), (3, .int x3), (4, .int x4), (5, .int x5)] [] I J := by
  refine s_iinc 4 v179 [(5, .int v179), (0, .ref (ad 0)), (2, .int x2), (3, .int x3), (4, .int x4)] dX7_hasWay_179 rfl f179 (Nat.lt_of_lt_of_le (Nat.lt_succ_self _) (Nat.le_of_ble_eq_true rfl)) rfl ?_
  refine s_goto (tgt := 37) dX7_hasWay_182 (by decide) ?_
  refine s_pick [1, 2, 3, 4, 0] [(0, .ref (ad 0)), (2, .int x2), (3, .int x3), (4, .int x4), (5, .int v179)] rfl ?_; exact k
theorem bX7_hasWay_185 {l : Launch} {D : va_G} {aI aL : ClassId} {ad : Nat → Nat} {P : sa_P} {I : sa_I} {J : sa_J}    (k : P (some (.int (0 : Int32))) I J) : Sat (ER l D aI aL ad) M_X7_hasWay P 185 [] [] I J := by
  refine s_iconst (v := 0) dX7_hasWay_185 rfl ?_
  exact s_zret rfl rfl dX7_hasWay_186 k
/-! X7_isPrimeIdeal -/
theorem dX7_isPrimeIdeal_0 : decode cX7_isPrimeIdeal 0 = .ok (.aload_n 0, 1) := by decide +kernel
theorem dX7_isPrimeIdeal_1 : decode cX7_isPrimeIdeal 1 = .ok (.iload_n 1, 1) := by decide +kernel
theorem dX7_isPrimeIdeal_2 : decode cX7_isPrimeIdeal 2 = .ok (.aload_n 0, 1) := by decide +kernel
theorem dX7_isPrimeIdeal_3 : decode cX7_isPrimeIdeal 3 = .ok (.getfield 53, 3) := by decide +kernel
theorem dX7_isPrimeIdeal_6 : decode cX7_isPrimeIdeal 6 = .ok (.invokevirtual 285, 3) := by decide +kernel
theorem dX7_isPrimeIdeal_9 : decode cX7_isPrimeIdeal 9 = .ok (.aload_n 0, 1) := by decide +kernel
theorem dX7_isPrimeIdeal_10 : decode cX7_isPrimeIdeal 10 = .ok (.getfield 53, 3) := by decide +kernel
theorem dX7_isPrimeIdeal_13 : decode cX7_isPrimeIdeal 13 = .ok (.aload_n 0, 1) := by decide +kernel
theorem dX7_isPrimeIdeal_14 : decode cX7_isPrimeIdeal 14 = .ok (.getfield 101, 3) := by decide +kernel
theorem dX7_isPrimeIdeal_17 : decode cX7_isPrimeIdeal 17 = .ok (.invokestatic 267, 3) := by decide +kernel
theorem dX7_isPrimeIdeal_20 : decode cX7_isPrimeIdeal 20 = .ok (.lstore_n 2, 1) := by decide +kernel
theorem dX7_isPrimeIdeal_21 : decode cX7_isPrimeIdeal 21 = .ok (.lload_n 2, 1) := by decide +kernel
theorem dX7_isPrimeIdeal_22 : decode cX7_isPrimeIdeal 22 = .ok (.lconst 1, 1) := by decide +kernel
theorem dX7_isPrimeIdeal_23 : decode cX7_isPrimeIdeal 23 = .ok (.lcmp, 1) := by decide +kernel
theorem dX7_isPrimeIdeal_24 : decode cX7_isPrimeIdeal 24 = .ok (.ifCond .ne 5, 3) := by decide +kernel
theorem dX7_isPrimeIdeal_27 : decode cX7_isPrimeIdeal 27 = .ok (.iconst 0, 1) := by decide +kernel
theorem dX7_isPrimeIdeal_28 : decode cX7_isPrimeIdeal 28 = .ok (.ireturn, 1) := by decide +kernel
theorem dX7_isPrimeIdeal_29 : decode cX7_isPrimeIdeal 29 = .ok (.iconst 2, 1) := by decide +kernel
theorem dX7_isPrimeIdeal_30 : decode cX7_isPrimeIdeal 30 = .ok (.istore 4, 2) := by decide +kernel
theorem dX7_isPrimeIdeal_32 : decode cX7_isPrimeIdeal 32 = .ok (.lload_n 2, 1) := by decide +kernel
theorem dX7_isPrimeIdeal_33 : decode cX7_isPrimeIdeal 33 = .ok (.iload 4, 2) := by decide +kernel
theorem dX7_isPrimeIdeal_35 : decode cX7_isPrimeIdeal 35 = .ok (.i2l, 1) := by decide +kernel
theorem dX7_isPrimeIdeal_36 : decode cX7_isPrimeIdeal 36 = .ok (.lrem, 1) := by decide +kernel
theorem dX7_isPrimeIdeal_37 : decode cX7_isPrimeIdeal 37 = .ok (.lconst 0, 1) := by decide +kernel
theorem dX7_isPrimeIdeal_38 : decode cX7_isPrimeIdeal 38 = .ok (.lcmp, 1) := by decide +kernel
theorem dX7_isPrimeIdeal_39 : decode cX7_isPrimeIdeal 39 = .ok (.ifCond .eq 33, 3) := by decide +kernel
theorem dX7_isPrimeIdeal_42 : decode cX7_isPrimeIdeal 42 = .ok (.iload 4, 2) := by decide +kernel
theorem dX7_isPrimeIdeal_44 : decode cX7_isPrimeIdeal 44 = .ok (.iconst 1, 1) := by decide +kernel
theorem dX7_isPrimeIdeal_45 : decode cX7_isPrimeIdeal 45 = .ok (.iadd, 1) := by decide +kernel
theorem dX7_isPrimeIdeal_46 : decode cX7_isPrimeIdeal 46 = .ok (.i2l, 1) := by decide +kernel
theorem dX7_isPrimeIdeal_47 : decode cX7_isPrimeIdeal 47 = .ok (.iload 4, 2) := by decide +kernel
theorem dX7_isPrimeIdeal_49 : decode cX7_isPrimeIdeal 49 = .ok (.iconst 1, 1) := by decide +kernel
theorem dX7_isPrimeIdeal_50 : decode cX7_isPrimeIdeal 50 = .ok (.iadd, 1) := by decide +kernel
theorem dX7_isPrimeIdeal_51 : decode cX7_isPrimeIdeal 51 = .ok (.i2l, 1) := by decide +kernel
theorem dX7_isPrimeIdeal_52 : decode cX7_isPrimeIdeal 52 = .ok (.lmul, 1) := by decide +kernel
theorem dX7_isPrimeIdeal_53 : decode cX7_isPrimeIdeal 53 = .ok (.lload_n 2, 1) := by decide +kernel
theorem dX7_isPrimeIdeal_54 : decode cX7_isPrimeIdeal 54 = .ok (.lcmp, 1) := by decide +kernel
theorem dX7_isPrimeIdeal_55 : decode cX7_isPrimeIdeal 55 = .ok (.ifCond .le 8, 3) := by decide +kernel
theorem dX7_isPrimeIdeal_58 : decode cX7_isPrimeIdeal 58 = .ok (.lload_n 2, 1) := by decide +kernel
theorem dX7_isPrimeIdeal_59 : decode cX7_isPrimeIdeal 59 = .ok (.l2i, 1) := by decide +kernel
theorem dX7_isPrimeIdeal_60 : decode cX7_isPrimeIdeal 60 = .ok (.goto 7, 3) := by decide +kernel
theorem dX7_isPrimeIdeal_63 : decode cX7_isPrimeIdeal 63 = .ok (.iload 4, 2) := by decide +kernel
theorem dX7_isPrimeIdeal_65 : decode cX7_isPrimeIdeal 65 = .ok (.iconst 1, 1) := by decide +kernel
theorem dX7_isPrimeIdeal_66 : decode cX7_isPrimeIdeal 66 = .ok (.iadd, 1) := by decide +kernel
theorem dX7_isPrimeIdeal_67 : decode cX7_isPrimeIdeal 67 = .ok (.istore 4, 2) := by decide +kernel
theorem dX7_isPrimeIdeal_69 : decode cX7_isPrimeIdeal 69 = .ok (.goto (-37), 3) := by decide +kernel
theorem dX7_isPrimeIdeal_72 : decode cX7_isPrimeIdeal 72 = .ok (.lload_n 2, 1) := by decide +kernel
theorem dX7_isPrimeIdeal_73 : decode cX7_isPrimeIdeal 73 = .ok (.iload 4, 2) := by decide +kernel
theorem dX7_isPrimeIdeal_75 : decode cX7_isPrimeIdeal 75 = .ok (.i2l, 1) := by decide +kernel
theorem dX7_isPrimeIdeal_76 : decode cX7_isPrimeIdeal 76 = .ok (.lcmp, 1) := by decide +kernel
theorem dX7_isPrimeIdeal_77 : decode cX7_isPrimeIdeal 77 = .ok (.ifCond .ne 5, 3) := by decide +kernel
theorem dX7_isPrimeIdeal_80 : decode cX7_isPrimeIdeal 80 = .ok (.iconst 1, 1) := by decide +kernel
theorem dX7_isPrimeIdeal_81 : decode cX7_isPrimeIdeal 81 = .ok (.ireturn, 1) := by decide +kernel
theorem dX7_isPrimeIdeal_82 : decode cX7_isPrimeIdeal 82 = .ok (.aload_n 0, 1) := by decide +kernel
theorem dX7_isPrimeIdeal_83 : decode cX7_isPrimeIdeal 83 = .ok (.getfield 53, 3) := by decide +kernel
theorem dX7_isPrimeIdeal_86 : decode cX7_isPrimeIdeal 86 = .ok (.iconst 0, 1) := by decide +kernel
theorem dX7_isPrimeIdeal_87 : decode cX7_isPrimeIdeal 87 = .ok (.laload, 1) := by decide +kernel
theorem dX7_isPrimeIdeal_88 : decode cX7_isPrimeIdeal 88 = .ok (.iload 4, 2) := by decide +kernel
theorem dX7_isPrimeIdeal_90 : decode cX7_isPrimeIdeal 90 = .ok (.i2l, 1) := by decide +kernel
theorem dX7_isPrimeIdeal_91 : decode cX7_isPrimeIdeal 91 = .ok (.lcmp, 1) := by decide +kernel
theorem dX7_isPrimeIdeal_92 : decode cX7_isPrimeIdeal 92 = .ok (.ifCond .ne 45, 3) := by decide +kernel
theorem dX7_isPrimeIdeal_95 : decode cX7_isPrimeIdeal 95 = .ok (.lload_n 2, 1) := by decide +kernel
theorem dX7_isPrimeIdeal_96 : decode cX7_isPrimeIdeal 96 = .ok (.iload 4, 2) := by decide +kernel
theorem dX7_isPrimeIdeal_98 : decode cX7_isPrimeIdeal 98 = .ok (.i2l, 1) := by decide +kernel
theorem dX7_isPrimeIdeal_99 : decode cX7_isPrimeIdeal 99 = .ok (.iload 4, 2) := by decide +kernel
theorem dX7_isPrimeIdeal_101 : decode cX7_isPrimeIdeal 101 = .ok (.i2l, 1) := by decide +kernel
theorem dX7_isPrimeIdeal_102 : decode cX7_isPrimeIdeal 102 = .ok (.lmul, 1) := by decide +kernel
theorem dX7_isPrimeIdeal_103 : decode cX7_isPrimeIdeal 103 = .ok (.lcmp, 1) := by decide +kernel
theorem dX7_isPrimeIdeal_104 : decode cX7_isPrimeIdeal 104 = .ok (.ifCond .eq 19, 3) := by decide +kernel
theorem dX7_isPrimeIdeal_107 : decode cX7_isPrimeIdeal 107 = .ok (.lload_n 2, 1) := by decide +kernel
theorem dX7_isPrimeIdeal_108 : decode cX7_isPrimeIdeal 108 = .ok (.iload 4, 2) := by decide +kernel
theorem dX7_isPrimeIdeal_110 : decode cX7_isPrimeIdeal 110 = .ok (.i2l, 1) := by decide +kernel
theorem dX7_isPrimeIdeal_111 : decode cX7_isPrimeIdeal 111 = .ok (.iload 4, 2) := by decide +kernel
theorem dX7_isPrimeIdeal_113 : decode cX7_isPrimeIdeal 113 = .ok (.i2l, 1) := by decide +kernel
theorem dX7_isPrimeIdeal_114 : decode cX7_isPrimeIdeal 114 = .ok (.lmul, 1) := by decide +kernel
theorem dX7_isPrimeIdeal_115 : decode cX7_isPrimeIdeal 115 = .ok (.iload 4, 2) := by decide +kernel
theorem dX7_isPrimeIdeal_117 : decode cX7_isPrimeIdeal 117 = .ok (.i2l, 1) := by decide +kernel
theorem dX7_isPrimeIdeal_118 : decode cX7_isPrimeIdeal 118 = .ok (.lmul, 1) := by decide +kernel
theorem dX7_isPrimeIdeal_119 : decode cX7_isPrimeIdeal 119 = .ok (.lcmp, 1) := by decide +kernel
theorem dX7_isPrimeIdeal_120 : decode cX7_isPrimeIdeal 120 = .ok (.ifCond .ne 17, 3) := by decide +kernel
theorem dX7_isPrimeIdeal_123 : decode cX7_isPrimeIdeal 123 = .ok (.aload_n 0, 1) := by decide +kernel
theorem dX7_isPrimeIdeal_124 : decode cX7_isPrimeIdeal 124 = .ok (.iload_n 1, 1) := by decide +kernel
theorem dX7_isPrimeIdeal_125 : decode cX7_isPrimeIdeal 125 = .ok (.iload 4, 2) := by decide +kernel
theorem dX7_isPrimeIdeal_127 : decode cX7_isPrimeIdeal 127 = .ok (.invokevirtual 301, 3) := by decide +kernel
theorem dX7_isPrimeIdeal_130 : decode cX7_isPrimeIdeal 130 = .ok (.ifCond .ne 7, 3) := by decide +kernel
theorem dX7_isPrimeIdeal_133 : decode cX7_isPrimeIdeal 133 = .ok (.iconst 1, 1) := by decide +kernel
theorem dX7_isPrimeIdeal_134 : decode cX7_isPrimeIdeal 134 = .ok (.goto 4, 3) := by decide +kernel
theorem dX7_isPrimeIdeal_137 : decode cX7_isPrimeIdeal 137 = .ok (.iconst 0, 1) := by decide +kernel
theorem dX7_isPrimeIdeal_138 : decode cX7_isPrimeIdeal 138 = .ok (.ireturn, 1) := by decide +kernel
theorem bX7_isPrimeIdeal_0 {l : Launch} {D : va_G} {aI aL : ClassId} {ad : Nat → Nat} {P : sa_P} {I : sa_I} {J : sa_J} {x1 : Int32}   (k : Sat (ER l D aI aL ad) M_X7_isPrimeIdeal P 6 [(0, .ref (ad 0)), (1, .int x1)] [.ref (ad 15), .int x1, .ref (ad 0)] I J) : Sat (ER l D aI aL ad) M_X7_isPrimeIdeal P 0 [(0, .ref (ad 0)), (1, .int x1)] [] I J := by
  refine s_aload_n 0 dX7_isPrimeIdeal_0 rfl ?_
  refine s_iload_n 1 dX7_isPrimeIdeal_1 rfl ?_
  refine s_aload_n 0 dX7_isPrimeIdeal_2 rfl ?_
  refine g_X7_53 dX7_isPrimeIdeal_3 rfl ?_
  exact k
theorem bX7_isPrimeIdeal_9 {l : Launch} {D : va_G} {aI aL : ClassId} {ad : Nat → Nat} {P : sa_P} {I : sa_I} {J : sa_J} {x1 : Int32}   (k : Sat (ER l D aI aL ad) M_X7_isPrimeIdeal P 17 [(0, .ref (ad 0)), (1, .int x1)] [.int (I 0 1), .ref (ad 15)] I J) : Sat (ER l D aI aL ad) M_X7_isPrimeIdeal P 9 [(0, .ref (ad 0)), (1, .int x1)] [] I J := by
  refine s_aload_n 0 dX7_isPrimeIdeal_9 rfl ?_
  refine g_X7_53 dX7_isPrimeIdeal_10 rfl ?_
  refine s_aload_n 0 dX7_isPrimeIdeal_13 rfl ?_
  refine g_X7_101 dX7_isPrimeIdeal_14 rfl ?_
  exact k
theorem bX7_isPrimeIdeal_20 {l : Launch} {D : va_G} {aI aL : ClassId} {ad : Nat → Nat} {P : sa_P} {I : sa_I} {J : sa_J} {x1 : Int32} {s0 : Int64}   (kt : ¬ s0 = (1 : Int64) → Sat (ER l D aI aL ad) M_X7_isPrimeIdeal P 29 [(0, .ref (ad 0)), (1, .int x1), (2, .long s0)] [] I J) (kf : s0 = (1 : Int64) → Sat (ER l D aI aL ad) M_X7_isPrimeIdeal P 27 [] [] I J) : Sat (ER l D aI aL ad) M_X7_isPrimeIdeal P 20 [(0, .ref (ad 0)), (1, .int x1)] [.long s0] I J := by
  refine s_lstore_n [(2, .long s0), (0, .ref (ad 0)), (1, .int x1)] dX7_isPrimeIdeal_20 (Nat.lt_of_lt_of_le (Nat.lt_succ_self _) (Nat.le_of_ble_eq_true rfl)) rfl ?_
  refine s_lload_n 0 dX7_isPrimeIdeal_21 rfl ?_
  refine s_lconst (v := 1) dX7_isPrimeIdeal_22 rfl ?_
  refine s_lif_ne (tgt := 29) dX7_isPrimeIdeal_23 dX7_isPrimeIdeal_24 (by decide) (fun c => ?_) (fun c => ?_)
  · refine s_pick [1, 2, 0] [(0, .ref (ad 0)), (1, .int x1), (2, .long s0)] rfl ?_; exact kt c
  · refine s_pick [] [] rfl ?_; exact kf (by first | exact c | exact Classical.not_not.mp c)
theorem bX7_isPrimeIdeal_27 {l : Launch} {D : va_G} {aI aL : ClassId} {ad : Nat → Nat} {P : sa_P} {I : sa_I} {J : sa_J}    (k : P (some (.int (0 : Int32))) I J) : Sat (ER l D aI aL ad) M_X7_isPrimeIdeal P 27 [] [] I J := by
  refine s_iconst (v := 0) dX7_isPrimeIdeal_27 rfl ?_
  exact s_zret rfl rfl dX7_isPrimeIdeal_28 k
theorem bX7_isPrimeIdeal_29 {l : Launch} {D : va_G} {aI aL : ClassId} {ad : Nat → Nat} {P : sa_P} {I : sa_I} {J : sa_J} {x1 : Int32} {x2 : Int64} {v30 : Int32}  (f30 : (2 : Int32) = v30) (k : Sat (ER l D aI aL ad) M_X7_isPrimeIdeal P 32 [(0, .ref (ad 0)), (1, .int x1), (2, .long x2), (4, .int v30)] [] I J) : Sat (ER l D aI aL ad) M_X7_isPrimeIdeal P 29 [(0, .ref (ad 0)), (1, .int x1), (2, .long x2)] [] I J := by
  refine s_iconst (v := 2) dX7_isPrimeIdeal_29 rfl ?_
  refine s_eqi f30 ?_
  refine s_istore [(4, .int v30), (0, .ref (ad 0)), (1, .int x1), (2, .long x2)] dX7_isPrimeIdeal_30 (Nat.lt_of_lt_of_le (Nat.lt_succ_self _) (Nat.le_of_ble_eq_true rfl)) rfl ?_
  refine s_pick [1, 2, 3, 0] [(0, .ref (ad 0)), (1, .int x1), (2, .long x2), (4, .int v30)] rfl ?_; exact k
theorem bX7_isPrimeIdeal_32 {l : Launch} {D : va_G} {aI aL : ClassId} {ad : Nat → Nat} {P : sa_P} {I : sa_I} {J : sa_J} {x1 : Int32} {x2 : Int64} {x4 : Int32} (z36 : ¬ x4.toInt64 = 0)  (kt : x2 - x2 / x4.toInt64 * x4.toInt64 = (0 : Int64) → Sat (ER l D aI aL ad) M_X7_isPrimeIdeal P 72 [(0, .ref (ad 0)), (1, .int x1), (2, .long x2), (4, .int x4)] [] I J) (kf : ¬ x2 - x2 / x4.toInt64 * x4.toInt64 = (0 : Int64) → Sat (ER l D aI aL ad) M_X7_isPrimeIdeal P 42 [(0, .ref (ad 0)), (1, .int x1), (2, .long x2), (4, .int x4)] [] I J) : Sat (ER l D aI aL ad) M_X7_isPrimeIdeal P 32 [(0, .ref (ad 0)), (1, .int x1), (2, .long x2), (4, .int x4)] [] I J := by
  refine s_lload_n 2 dX7_isPrimeIdeal_32 rfl ?_
  refine s_iload 3 dX7_isPrimeIdeal_33 rfl ?_
  refine s_i2l dX7_isPrimeIdeal_35 ?_
  refine s_lrem dX7_isPrimeIdeal_36 z36 ?_
  refine s_lconst (v := 0) dX7_isPrimeIdeal_37 rfl ?_
  refine s_lif_eq (tgt := 72) dX7_isPrimeIdeal_38 dX7_isPrimeIdeal_39 (by decide) (fun c => ?_) (fun c => ?_)
  · exact kt c
  · exact kf c
theorem bX7_isPrimeIdeal_42 {l : Launch} {D : va_G} {aI aL : ClassId} {ad : Nat → Nat} {P : sa_P} {I : sa_I} {J : sa_J} {x1 : Int32} {x2 : Int64} {x4 : Int32}   (kt : ((x4 + (1 : Int32)).toInt64) * ((x4 + (1 : Int32)).toInt64) ≤ x2 → Sat (ER l D aI aL ad) M_X7_isPrimeIdeal P 63 [(0, .ref (ad 0)), (1, .int x1), (2, .long x2), (4, .int x4)] [] I J) (kf : ¬ ((x4 + (1 : Int32)).toInt64) * ((x4 + (1 : Int32)).toInt64) ≤ x2 → Sat (ER l D aI aL ad) M_X7_isPrimeIdeal P 58 [(0, .ref (ad 0)), (1, .int x1), (2, .long x2)] [] I J) : Sat (ER l D aI aL ad) M_X7_isPrimeIdeal P 42 [(0, .ref (ad 0)), (1, .int x1), (2, .long x2), (4, .int x4)] [] I J := by
  refine s_iload 3 dX7_isPrimeIdeal_42 rfl ?_
  refine s_iconst (v := 1) dX7_isPrimeIdeal_44 rfl ?_
  refine s_iadd dX7_isPrimeIdeal_45 ?_
  refine s_i2l dX7_isPrimeIdeal_46 ?_
  refine s_iload 3 dX7_isPrimeIdeal_47 rfl ?_
  refine s_iconst (v := 1) dX7_isPrimeIdeal_49 rfl ?_
  refine s_iadd dX7_isPrimeIdeal_50 ?_
  refine s_i2l dX7_isPrimeIdeal_51 ?_
  refine s_lmul dX7_isPrimeIdeal_52 ?_
  refine s_lload_n 2 dX7_isPrimeIdeal_53 rfl ?_
  refine s_lif_le (tgt := 63) dX7_isPrimeIdeal_54 dX7_isPrimeIdeal_55 (by decide) (fun c => ?_) (fun c => ?_)
  · exact kt c
  · refine s_pick [0, 1, 2] [(0, .ref (ad 0)), (1, .int x1), (2, .long x2)] rfl ?_; exact kf c
theorem bX7_isPrimeIdeal_58 {l : Launch} {D : va_G} {aI aL : ClassId} {ad : Nat → Nat} {P : sa_P} {I : sa_I} {J : sa_J} {x1 : Int32} {x2 : Int64}   (k : Sat (ER l D aI aL ad) M_X7_isPrimeIdeal P 67 [(0, .ref (ad 0)), (1, .int x1), (2, .long x2)] [.int x2.toInt32] I J) : Sat (ER l D aI aL ad) M_X7_isPrimeIdeal P 58 [(0, .ref (ad 0)), (1, .int x1), (2, .long x2)] [] I J := by
  refine s_lload_n 2 dX7_isPrimeIdeal_58 rfl ?_
  refine s_l2i dX7_isPrimeIdeal_59 ?_
  refine s_goto (tgt := 67) dX7_isPrimeIdeal_60 (by decide) ?_
  exact k
theorem bX7_isPrimeIdeal_63 {l : Launch} {D : va_G} {aI aL : ClassId} {ad : Nat → Nat} {P : sa_P} {I : sa_I} {J : sa_J} {x1 : Int32} {x2 : Int64} {x4 : Int32}   (k : Sat (ER l D aI aL ad) M_X7_isPrimeIdeal P 67 [(0, .ref (ad 0)), (1, .int x1), (2, .long x2)] [.int (x4 + (1 : Int32))] I J) : Sat (ER l D aI aL ad) M_X7_isPrimeIdeal P 63 [(0, .ref (ad 0)), (1, .int x1), (2, .long x2), (4, .int x4)] [] I J := by
  refine s_iload 3 dX7_isPrimeIdeal_63 rfl ?_
  refine s_iconst (v := 1) dX7_isPrimeIdeal_65 rfl ?_
  refine s_iadd dX7_isPrimeIdeal_66 ?_
  refine s_pick [0, 1, 2] [(0, .ref (ad 0)), (1, .int x1), (2, .long x2)] rfl ?_; exact k
theorem bX7_isPrimeIdeal_67 {l : Launch} {D : va_G} {aI aL : ClassId} {ad : Nat → Nat} {P : sa_P} {I : sa_I} {J : sa_J} {x1 : Int32} {x2 : Int64} {s0 : Int32}   (k : Sat (ER l D aI aL ad) M_X7_isPrimeIdeal P 32 [(0, .ref (ad 0)), (1, .int x1), (2, .long x2), (4, .int s0)] [] I J) : Sat (ER l D aI aL ad) M_X7_isPrimeIdeal P 67 [(0, .ref (ad 0)), (1, .int x1), (2, .long x2)] [.int s0] I J := by
  refine s_istore [(4, .int s0), (0, .ref (ad 0)), (1, .int x1), (2, .long x2)] dX7_isPrimeIdeal_67 (Nat.lt_of_lt_of_le (Nat.lt_succ_self _) (Nat.le_of_ble_eq_true rfl)) rfl ?_
  refine s_goto (tgt := 32) dX7_isPrimeIdeal_69 (by decide) ?_
  refine s_pick [1, 2, 3, 0] [(0, .ref (ad 0)), (1, .int x1), (2, .long x2), (4, .int s0)] rfl ?_; exact k
theorem bX7_isPrimeIdeal_72 {l : Launch} {D : va_G} {aI aL : ClassId} {ad : Nat → Nat} {P : sa_P} {I : sa_I} {J : sa_J} {x1 : Int32} {x2 : Int64} {x4 : Int32}   (kt : ¬ x2 = x4.toInt64 → Sat (ER l D aI aL ad) M_X7_isPrimeIdeal P 82 [(0, .ref (ad 0)), (1, .int x1), (2, .long x2), (4, .int x4)] [] I J) (kf : x2 = x4.toInt64 → Sat (ER l D aI aL ad) M_X7_isPrimeIdeal P 80 [] [] I J) : Sat (ER l D aI aL ad) M_X7_isPrimeIdeal P 72 [(0, .ref (ad 0)), (1, .int x1), (2, .long x2), (4, .int x4)] [] I J := by
  refine s_lload_n 2 dX7_isPrimeIdeal_72 rfl ?_
  refine s_iload 3 dX7_isPrimeIdeal_73 rfl ?_
  refine s_i2l dX7_isPrimeIdeal_75 ?_
  refine s_lif_ne (tgt := 82) dX7_isPrimeIdeal_76 dX7_isPrimeIdeal_77 (by decide) (fun c => ?_) (fun c => ?_)
  · exact kt c
  · refine s_pick [] [] rfl ?_; exact kf (by first | exact c | exact Classical.not_not.mp c)
theorem bX7_isPrimeIdeal_80 {l : Launch} {D : va_G} {aI aL : ClassId} {ad : Nat → Nat} {P : sa_P} {I : sa_I} {J : sa_J}    (k : P (some (.int (1 : Int32))) I J) : Sat (ER l D aI aL ad) M_X7_isPrimeIdeal P 80 [] [] I J := by
  refine s_iconst (v := 1) dX7_isPrimeIdeal_80 rfl ?_
  exact s_zret rfl rfl dX7_isPrimeIdeal_81 k
theorem bX7_isPrimeIdeal_82 {l : Launch} {D : va_G} {aI aL : ClassId} {ad : Nat → Nat} {P : sa_P} {I : sa_I} {J : sa_J} {x1 : Int32} {x2 : Int64} {x4 : Int32}   (kt : ¬ J 15 0 = x4.toInt64 → Sat (ER l D aI aL ad) M_X7_isPrimeIdeal P 137 [] [] I J) (kf : J 15 0 = x4.toInt64 → Sat (ER l D aI aL ad) M_X7_isPrimeIdeal P 95 [(0, .ref (ad 0)), (1, .int x1), (2, .long x2), (4, .int x4)] [] I J) : Sat (ER l D aI aL ad) M_X7_isPrimeIdeal P 82 [(0, .ref (ad 0)), (1, .int x1), (2, .long x2), (4, .int x4)] [] I J := by
  refine s_aload_n 0 dX7_isPrimeIdeal_82 rfl ?_
  refine g_X7_53 dX7_isPrimeIdeal_83 rfl ?_
  refine s_iconst (v := 0) dX7_isPrimeIdeal_86 rfl ?_
  refine s_eqi (y := nI 0) rfl ?_
  refine s_laloadN aJ_R15 (by decide) (by decide) dX7_isPrimeIdeal_87 ?_
  refine s_iload 3 dX7_isPrimeIdeal_88 rfl ?_
  refine s_i2l dX7_isPrimeIdeal_90 ?_
  refine s_lif_ne (tgt := 137) dX7_isPrimeIdeal_91 dX7_isPrimeIdeal_92 (by decide) (fun c => ?_) (fun c => ?_)
  · refine s_pick [] [] rfl ?_; exact kt c
  · exact kf (by first | exact c | exact Classical.not_not.mp c)
theorem bX7_isPrimeIdeal_95 {l : Launch} {D : va_G} {aI aL : ClassId} {ad : Nat → Nat} {P : sa_P} {I : sa_I} {J : sa_J} {x1 : Int32} {x2 : Int64} {x4 : Int32}   (kt : x2 = x4.toInt64 * x4.toInt64 → Sat (ER l D aI aL ad) M_X7_isPrimeIdeal P 123 [(0, .ref (ad 0)), (1, .int x1), (4, .int x4)] [] I J) (kf : ¬ x2 = x4.toInt64 * x4.toInt64 → Sat (ER l D aI aL ad) M_X7_isPrimeIdeal P 107 [(0, .ref (ad 0)), (1, .int x1), (2, .long x2), (4, .int x4)] [] I J) : Sat (ER l D aI aL ad) M_X7_isPrimeIdeal P 95 [(0, .ref (ad 0)), (1, .int x1), (2, .long x2), (4, .int x4)] [] I J := by
  refine s_lload_n 2 dX7_isPrimeIdeal_95 rfl ?_
  refine s_iload 3 dX7_isPrimeIdeal_96 rfl ?_
  refine s_i2l dX7_isPrimeIdeal_98 ?_
  refine s_iload 3 dX7_isPrimeIdeal_99 rfl ?_
  refine s_i2l dX7_isPrimeIdeal_101 ?_
  refine s_lmul dX7_isPrimeIdeal_102 ?_
  refine s_lif_eq (tgt := 123) dX7_isPrimeIdeal_103 dX7_isPrimeIdeal_104 (by decide) (fun c => ?_) (fun c => ?_)
  · refine s_pick [0, 1, 3] [(0, .ref (ad 0)), (1, .int x1), (4, .int x4)] rfl ?_; exact kt c
  · exact kf c
theorem bX7_isPrimeIdeal_107 {l : Launch} {D : va_G} {aI aL : ClassId} {ad : Nat → Nat} {P : sa_P} {I : sa_I} {J : sa_J} {x1 : Int32} {x2 : Int64} {x4 : Int32}   (kt : ¬ x2 = (x4.toInt64 * x4.toInt64) * x4.toInt64 → Sat (ER l D aI aL ad) M_X7_isPrimeIdeal P 137 [] [] I J) (kf : x2 = (x4.toInt64 * x4.toInt64) * x4.toInt64 → Sat (ER l D aI aL ad) M_X7_isPrimeIdeal P 123 [(0, .ref (ad 0)), (1, .int x1), (4, .int x4)] [] I J) : Sat (ER l D aI aL ad) M_X7_isPrimeIdeal P 107 [(0, .ref (ad 0)), (1, .int x1), (2, .long x2), (4, .int x4)] [] I J := by
  refine s_lload_n 2 dX7_isPrimeIdeal_107 rfl ?_
  refine s_iload 3 dX7_isPrimeIdeal_108 rfl ?_
  refine s_i2l dX7_isPrimeIdeal_110 ?_
  refine s_iload 3 dX7_isPrimeIdeal_111 rfl ?_
  refine s_i2l dX7_isPrimeIdeal_113 ?_
  refine s_lmul dX7_isPrimeIdeal_114 ?_
  refine s_iload 3 dX7_isPrimeIdeal_115 rfl ?_
  refine s_i2l dX7_isPrimeIdeal_117 ?_
  refine s_lmul dX7_isPrimeIdeal_118 ?_
  refine s_lif_ne (tgt := 137) dX7_isPrimeIdeal_119 dX7_isPrimeIdeal_120 (by decide) (fun c => ?_) (fun c => ?_)
  · refine s_pick [] [] rfl ?_; exact kt c
  · refine s_pick [0, 1, 3] [(0, .ref (ad 0)), (1, .int x1), (4, .int x4)] rfl ?_; exact kf (by first | exact c | exact Classical.not_not.mp c)
theorem bX7_isPrimeIdeal_123 {l : Launch} {D : va_G} {aI aL : ClassId} {ad : Nat → Nat} {P : sa_P} {I : sa_I} {J : sa_J} {x1 : Int32} {x4 : Int32}   (k : Sat (ER l D aI aL ad) M_X7_isPrimeIdeal P 127 [] [.int x4, .int x1, .ref (ad 0)] I J) : Sat (ER l D aI aL ad) M_X7_isPrimeIdeal P 123 [(0, .ref (ad 0)), (1, .int x1), (4, .int x4)] [] I J := by
  refine s_aload_n 0 dX7_isPrimeIdeal_123 rfl ?_
  refine s_iload_n 1 dX7_isPrimeIdeal_124 rfl ?_
  refine s_iload 2 dX7_isPrimeIdeal_125 rfl ?_
  refine s_pick [] [] rfl ?_; exact k
theorem bX7_isPrimeIdeal_130 {l : Launch} {D : va_G} {aI aL : ClassId} {ad : Nat → Nat} {P : sa_P} {I : sa_I} {J : sa_J} {s0 : Int32}   (kt : ¬ s0 = 0 → Sat (ER l D aI aL ad) M_X7_isPrimeIdeal P 137 [] [] I J) (kf : s0 = 0 → Sat (ER l D aI aL ad) M_X7_isPrimeIdeal P 133 [] [] I J) : Sat (ER l D aI aL ad) M_X7_isPrimeIdeal P 130 [] [.int s0] I J := by
  refine s_if_ne (tgt := 137) dX7_isPrimeIdeal_130 (by decide) (fun c => ?_) (fun c => ?_)
  · exact kt c
  · exact kf (by first | exact c | exact Classical.not_not.mp c)
theorem bX7_isPrimeIdeal_133 {l : Launch} {D : va_G} {aI aL : ClassId} {ad : Nat → Nat} {P : sa_P} {I : sa_I} {J : sa_J}    (k : Sat (ER l D aI aL ad) M_X7_isPrimeIdeal P 138 [] [.int (1 : Int32)] I J) : Sat (ER l D aI aL ad) M_X7_isPrimeIdeal P 133 [] [] I J := by
  refine s_iconst (v := 1) dX7_isPrimeIdeal_133 rfl ?_
  refine s_goto (tgt := 138) dX7_isPrimeIdeal_134 (by decide) ?_
  exact k
theorem bX7_isPrimeIdeal_137 {l : Launch} {D : va_G} {aI aL : ClassId} {ad : Nat → Nat} {P : sa_P} {I : sa_I} {J : sa_J}    (k : Sat (ER l D aI aL ad) M_X7_isPrimeIdeal P 138 [] [.int (0 : Int32)] I J) : Sat (ER l D aI aL ad) M_X7_isPrimeIdeal P 137 [] [] I J := by
  refine s_iconst (v := 0) dX7_isPrimeIdeal_137 rfl ?_
  exact k
theorem bX7_isPrimeIdeal_138 {l : Launch} {D : va_G} {aI aL : ClassId} {ad : Nat → Nat} {P : sa_P} {I : sa_I} {J : sa_J} {s0 : Int32} (hz : narrow .boolean (.int s0) = .int s0)  (k : P (some (.int s0)) I J) : Sat (ER l D aI aL ad) M_X7_isPrimeIdeal P 138 [] [.int s0] I J := by
  exact s_zret hz rfl dX7_isPrimeIdeal_138 k
/-! X7_idealOf -/
theorem dX7_idealOf_0 : decode cX7_idealOf 0 = .ok (.aload_n 0, 1) := by decide +kernel
theorem dX7_idealOf_1 : decode cX7_idealOf 1 = .ok (.invokevirtual 203, 3) := by decide +kernel
theorem dX7_idealOf_4 : decode cX7_idealOf 4 = .ok (.ifCond .ne 10, 3) := by decide +kernel
theorem dX7_idealOf_7 : decode cX7_idealOf 7 = .ok (.aload_n 0, 1) := by decide +kernel
theorem dX7_idealOf_8 : decode cX7_idealOf 8 = .ok (.bipush (-3), 2) := by decide +kernel
theorem dX7_idealOf_10 : decode cX7_idealOf 10 = .ok (.invokevirtual 84, 3) := by decide +kernel
theorem dX7_idealOf_13 : decode cX7_idealOf 13 = .ok (.ireturn, 1) := by decide +kernel
theorem dX7_idealOf_14 : decode cX7_idealOf 14 = .ok (.aload_n 0, 1) := by decide +kernel
theorem dX7_idealOf_15 : decode cX7_idealOf 15 = .ok (.iload_n 1, 1) := by decide +kernel
theorem dX7_idealOf_16 : decode cX7_idealOf 16 = .ok (.invokevirtual 282, 3) := by decide +kernel
theorem dX7_idealOf_19 : decode cX7_idealOf 19 = .ok (.ifCond .ne 9, 3) := by decide +kernel
theorem dX7_idealOf_22 : decode cX7_idealOf 22 = .ok (.aload_n 0, 1) := by decide +kernel
theorem dX7_idealOf_23 : decode cX7_idealOf 23 = .ok (.iconst (-1), 1) := by decide +kernel
theorem dX7_idealOf_24 : decode cX7_idealOf 24 = .ok (.invokevirtual 84, 3) := by decide +kernel
theorem dX7_idealOf_27 : decode cX7_idealOf 27 = .ok (.ireturn, 1) := by decide +kernel
theorem dX7_idealOf_28 : decode cX7_idealOf 28 = .ok (.aload_n 0, 1) := by decide +kernel
theorem dX7_idealOf_29 : decode cX7_idealOf 29 = .ok (.iload_n 1, 1) := by decide +kernel
theorem dX7_idealOf_30 : decode cX7_idealOf 30 = .ok (.aload_n 0, 1) := by decide +kernel
theorem dX7_idealOf_31 : decode cX7_idealOf 31 = .ok (.getfield 53, 3) := by decide +kernel
theorem dX7_idealOf_34 : decode cX7_idealOf 34 = .ok (.invokevirtual 285, 3) := by decide +kernel
theorem dX7_idealOf_37 : decode cX7_idealOf 37 = .ok (.iload_n 2, 1) := by decide +kernel
theorem dX7_idealOf_38 : decode cX7_idealOf 38 = .ok (.tableswitch 63 0 2 #[26, 39, 49], 26) := by decide +kernel
theorem dX7_idealOf_64 : decode cX7_idealOf 64 = .ok (.aload_n 0, 1) := by decide +kernel
theorem dX7_idealOf_65 : decode cX7_idealOf 65 = .ok (.getfield 53, 3) := by decide +kernel
theorem dX7_idealOf_68 : decode cX7_idealOf 68 = .ok (.aload_n 0, 1) := by decide +kernel
theorem dX7_idealOf_69 : decode cX7_idealOf 69 = .ok (.getfield 101, 3) := by decide +kernel
theorem dX7_idealOf_72 : decode cX7_idealOf 72 = .ok (.invokestatic 267, 3) := by decide +kernel
theorem dX7_idealOf_75 : decode cX7_idealOf 75 = .ok (.l2i, 1) := by decide +kernel
theorem dX7_idealOf_76 : decode cX7_idealOf 76 = .ok (.ireturn, 1) := by decide +kernel
theorem dX7_idealOf_77 : decode cX7_idealOf 77 = .ok (.aload_n 0, 1) := by decide +kernel
theorem dX7_idealOf_78 : decode cX7_idealOf 78 = .ok (.getfield 20, 3) := by decide +kernel
theorem dX7_idealOf_81 : decode cX7_idealOf 81 = .ok (.bipush 9, 2) := by decide +kernel
theorem dX7_idealOf_83 : decode cX7_idealOf 83 = .ok (.iload_n 1, 1) := by decide +kernel
theorem dX7_idealOf_84 : decode cX7_idealOf 84 = .ok (.imul, 1) := by decide +kernel
theorem dX7_idealOf_85 : decode cX7_idealOf 85 = .ok (.iaload, 1) := by decide +kernel
theorem dX7_idealOf_86 : decode cX7_idealOf 86 = .ok (.ireturn, 1) := by decide +kernel
theorem dX7_idealOf_87 : decode cX7_idealOf 87 = .ok (.aload_n 0, 1) := by decide +kernel
theorem dX7_idealOf_88 : decode cX7_idealOf 88 = .ok (.iload_n 1, 1) := by decide +kernel
theorem dX7_idealOf_89 : decode cX7_idealOf 89 = .ok (.invokevirtual 304, 3) := by decide +kernel
theorem dX7_idealOf_92 : decode cX7_idealOf 92 = .ok (.ifCond .eq 7, 3) := by decide +kernel
theorem dX7_idealOf_95 : decode cX7_idealOf 95 = .ok (.iconst 1, 1) := by decide +kernel
theorem dX7_idealOf_96 : decode cX7_idealOf 96 = .ok (.goto 4, 3) := by decide +kernel
theorem dX7_idealOf_99 : decode cX7_idealOf 99 = .ok (.iconst 0, 1) := by decide +kernel
theorem dX7_idealOf_100 : decode cX7_idealOf 100 = .ok (.ireturn, 1) := by decide +kernel
theorem dX7_idealOf_101 : decode cX7_idealOf 101 = .ok (.aload_n 0, 1) := by decide +kernel
theorem dX7_idealOf_102 : decode cX7_idealOf 102 = .ok (.bipush (-2), 2) := by decide +kernel
theorem dX7_idealOf_104 : decode cX7_idealOf 104 = .ok (.invokevirtual 84, 3) := by decide +kernel
theorem dX7_idealOf_107 : decode cX7_idealOf 107 = .ok (.ireturn, 1) := by decide +kernel
theorem bX7_idealOf_0 {l : Launch} {D : va_G} {aI aL : ClassId} {ad : Nat → Nat} {P : sa_P} {I : sa_I} {J : sa_J} {x1 : Int32} {x2 : Int32}   (k : Sat (ER l D aI aL ad) M_X7_idealOf P 1 [(0, .ref (ad 0)), (1, .int x1), (2, .int x2)] [.ref (ad 0)] I J) : Sat (ER l D aI aL ad) M_X7_idealOf P 0 [(0, .ref (ad 0)), (1, .int x1), (2, .int x2)] [] I J := by
  refine s_aload_n 0 dX7_idealOf_0 rfl ?_
  exact k
theorem bX7_idealOf_4 {l : Launch} {D : va_G} {aI aL : ClassId} {ad : Nat → Nat} {P : sa_P} {I : sa_I} {J : sa_J} {x1 : Int32} {x2 : Int32} {s0 : Int32}   (kt : ¬ s0 = 0 → Sat (ER l D aI aL ad) M_X7_idealOf P 14 [(0, .ref (ad 0)), (1, .int x1), (2, .int x2)] [] I J) (kf : s0 = 0 → Sat (ER l D aI aL ad) M_X7_idealOf P 7 [(0, .ref (ad 0))] [] I J) : Sat (ER l D aI aL ad) M_X7_idealOf P 4 [(0, .ref (ad 0)), (1, .int x1), (2, .int x2)] [.int s0] I J := by
  refine s_if_ne (tgt := 14) dX7_idealOf_4 (by decide) (fun c => ?_) (fun c => ?_)
  · exact kt c
  · refine s_pick [0] [(0, .ref (ad 0))] rfl ?_; exact kf (by first | exact c | exact Classical.not_not.mp c)
theorem bX7_idealOf_7 {l : Launch} {D : va_G} {aI aL : ClassId} {ad : Nat → Nat} {P : sa_P} {I : sa_I} {J : sa_J}    (k : Sat (ER l D aI aL ad) M_X7_idealOf P 10 [] [.int (-3 : Int32), .ref (ad 0)] I J) : Sat (ER l D aI aL ad) M_X7_idealOf P 7 [(0, .ref (ad 0))] [] I J := by
  refine s_aload_n 0 dX7_idealOf_7 rfl ?_
  refine s_bipush (v := -3) dX7_idealOf_8 rfl ?_
  refine s_pick [] [] rfl ?_; exact k
theorem bX7_idealOf_13 {l : Launch} {D : va_G} {aI aL : ClassId} {ad : Nat → Nat} {P : sa_P} {I : sa_I} {J : sa_J} {s0 : Int32}   (k : P (some (.int s0)) I J) : Sat (ER l D aI aL ad) M_X7_idealOf P 13 [] [.int s0] I J := by
  exact s_iret rfl dX7_idealOf_13 k
theorem bX7_idealOf_14 {l : Launch} {D : va_G} {aI aL : ClassId} {ad : Nat → Nat} {P : sa_P} {I : sa_I} {J : sa_J} {x1 : Int32} {x2 : Int32}   (k : Sat (ER l D aI aL ad) M_X7_idealOf P 16 [(0, .ref (ad 0)), (1, .int x1), (2, .int x2)] [.int x1, .ref (ad 0)] I J) : Sat (ER l D aI aL ad) M_X7_idealOf P 14 [(0, .ref (ad 0)), (1, .int x1), (2, .int x2)] [] I J := by
  refine s_aload_n 0 dX7_idealOf_14 rfl ?_
  refine s_iload_n 1 dX7_idealOf_15 rfl ?_
  exact k
theorem bX7_idealOf_19 {l : Launch} {D : va_G} {aI aL : ClassId} {ad : Nat → Nat} {P : sa_P} {I : sa_I} {J : sa_J} {x1 : Int32} {x2 : Int32} {s0 : Int32}   (kt : ¬ s0 = 0 → Sat (ER l D aI aL ad) M_X7_idealOf P 28 [(0, .ref (ad 0)), (1, .int x1), (2, .int x2)] [] I J) (kf : s0 = 0 → Sat (ER l D aI aL ad) M_X7_idealOf P 22 [(0, .ref (ad 0))] [] I J) : Sat (ER l D aI aL ad) M_X7_idealOf P 19 [(0, .ref (ad 0)), (1, .int x1), (2, .int x2)] [.int s0] I J := by
  refine s_if_ne (tgt := 28) dX7_idealOf_19 (by decide) (fun c => ?_) (fun c => ?_)
  · exact kt c
  · refine s_pick [0] [(0, .ref (ad 0))] rfl ?_; exact kf (by first | exact c | exact Classical.not_not.mp c)
theorem bX7_idealOf_22 {l : Launch} {D : va_G} {aI aL : ClassId} {ad : Nat → Nat} {P : sa_P} {I : sa_I} {J : sa_J}    (k : Sat (ER l D aI aL ad) M_X7_idealOf P 24 [] [.int (-1 : Int32), .ref (ad 0)] I J) : Sat (ER l D aI aL ad) M_X7_idealOf P 22 [(0, .ref (ad 0))] [] I J := by
  refine s_aload_n 0 dX7_idealOf_22 rfl ?_
  refine s_iconst (v := -1) dX7_idealOf_23 rfl ?_
  refine s_pick [] [] rfl ?_; exact k
theorem bX7_idealOf_27 {l : Launch} {D : va_G} {aI aL : ClassId} {ad : Nat → Nat} {P : sa_P} {I : sa_I} {J : sa_J} {s0 : Int32}   (k : P (some (.int s0)) I J) : Sat (ER l D aI aL ad) M_X7_idealOf P 27 [] [.int s0] I J := by
  exact s_iret rfl dX7_idealOf_27 k
theorem bX7_idealOf_28 {l : Launch} {D : va_G} {aI aL : ClassId} {ad : Nat → Nat} {P : sa_P} {I : sa_I} {J : sa_J} {x1 : Int32} {x2 : Int32}   (k : Sat (ER l D aI aL ad) M_X7_idealOf P 34 [(0, .ref (ad 0)), (1, .int x1), (2, .int x2)] [.ref (ad 15), .int x1, .ref (ad 0)] I J) : Sat (ER l D aI aL ad) M_X7_idealOf P 28 [(0, .ref (ad 0)), (1, .int x1), (2, .int x2)] [] I J := by
  refine s_aload_n 0 dX7_idealOf_28 rfl ?_
  refine s_iload_n 1 dX7_idealOf_29 rfl ?_
  refine s_aload_n 0 dX7_idealOf_30 rfl ?_
  refine g_X7_53 dX7_idealOf_31 rfl ?_
  exact k
theorem bX7_idealOf_37 {l : Launch} {D : va_G} {aI aL : ClassId} {ad : Nat → Nat} {P : sa_P} {I : sa_I} {J : sa_J} {x1 : Int32} {x2 : Int32}   (k0 : x2 = 0 → Sat (ER l D aI aL ad) M_X7_idealOf P 64 [(0, .ref (ad 0))] [] I J) (k1 : x2 = 1 → Sat (ER l D aI aL ad) M_X7_idealOf P 77 [(0, .ref (ad 0)), (1, .int x1)] [] I J) (k2 : x2 = 2 → Sat (ER l D aI aL ad) M_X7_idealOf P 87 [(0, .ref (ad 0)), (1, .int x1)] [] I J) (kd : (x2.toInt < 0 ∨ 2 < x2.toInt) → Sat (ER l D aI aL ad) M_X7_idealOf P 101 [(0, .ref (ad 0))] [] I J) : Sat (ER l D aI aL ad) M_X7_idealOf P 37 [(0, .ref (ad 0)), (1, .int x1), (2, .int x2)] [] I J := by
  refine s_iload_n 2 dX7_idealOf_37 rfl ?_
  by_cases hlo : (x2).toInt < 0
  · refine s_tableOut (tgt := 101) dX7_idealOf_38 (Or.inl hlo) (by decide) ?_; refine s_pick [0] [(0, .ref (ad 0))] rfl ?_; exact kd (Or.inl hlo)
  by_cases hhi : 2 < (x2).toInt
  · refine s_tableOut (tgt := 101) dX7_idealOf_38 (Or.inr hhi) (by decide) ?_; refine s_pick [0] [(0, .ref (ad 0))] rfl ?_; exact kd (Or.inr hhi)
  obtain hx | hx | hx : x2 = 0 ∨ x2 = 1 ∨ x2 = 2 := by
    have hh : (x2).toInt = 0 ∨ (x2).toInt = 1 ∨ (x2).toInt = 2 := by omega
    simpa [← Int32.toInt_inj] using hh
  · have e1 : (x2).toInt = 0 := by rw [hx]; rfl
    refine s_tableIn (tgt := 64) dX7_idealOf_38 hlo hhi (off := 26) (by rw [e1]; rfl) (by decide) ?_; refine s_pick [0] [(0, .ref (ad 0))] rfl ?_; exact k0 hx
  · have e1 : (x2).toInt = 1 := by rw [hx]; rfl
    refine s_tableIn (tgt := 77) dX7_idealOf_38 hlo hhi (off := 39) (by rw [e1]; rfl) (by decide) ?_; refine s_pick [0, 1] [(0, .ref (ad 0)), (1, .int x1)] rfl ?_; exact k1 hx
  · have e1 : (x2).toInt = 2 := by rw [hx]; rfl
    refine s_tableIn (tgt := 87) dX7_idealOf_38 hlo hhi (off := 49) (by rw [e1]; rfl) (by decide) ?_; refine s_pick [0, 1] [(0, .ref (ad 0)), (1, .int x1)] rfl ?_; exact k2 hx
theorem bX7_idealOf_64 {l : Launch} {D : va_G} {aI aL : ClassId} {ad : Nat → Nat} {P : sa_P} {I : sa_I} {J : sa_J}    (k : Sat (ER l D aI aL ad) M_X7_idealOf P 72 [] [.int (I 0 1), .ref (ad 15)] I J) : Sat (ER l D aI aL ad) M_X7_idealOf P 64 [(0, .ref (ad 0))] [] I J := by
  refine s_aload_n 0 dX7_idealOf_64 rfl ?_
  refine g_X7_53 dX7_idealOf_65 rfl ?_
  refine s_aload_n 0 dX7_idealOf_68 rfl ?_
  refine g_X7_101 dX7_idealOf_69 rfl ?_
  refine s_pick [] [] rfl ?_; exact k
theorem bX7_idealOf_75 {l : Launch} {D : va_G} {aI aL : ClassId} {ad : Nat → Nat} {P : sa_P} {I : sa_I} {J : sa_J} {s0 : Int64}   (k : P (some (.int s0.toInt32)) I J) : Sat (ER l D aI aL ad) M_X7_idealOf P 75 [] [.long s0] I J := by
  refine s_l2i dX7_idealOf_75 ?_
  exact s_iret rfl dX7_idealOf_76 k
theorem bX7_idealOf_77 {l : Launch} {D : va_G} {aI aL : ClassId} {ad : Nat → Nat} {P : sa_P} {I : sa_I} {J : sa_J} {x1 : Int32} {j84 : Nat} (e84 : (9 : Int32) * x1 = nI j84) (h85 : j84 < 720)  (k : P (some (.int (I 4 j84))) I J) : Sat (ER l D aI aL ad) M_X7_idealOf P 77 [(0, .ref (ad 0)), (1, .int x1)] [] I J := by
  refine s_aload_n 0 dX7_idealOf_77 rfl ?_
  refine g_X7_20 dX7_idealOf_78 rfl ?_
  refine s_bipush (v := 9) dX7_idealOf_81 rfl ?_
  refine s_iload_n 1 dX7_idealOf_83 rfl ?_
  refine s_imul dX7_idealOf_84 ?_
  refine s_eqi e84 ?_
  refine s_ialoadN aI_R4 h85 (by decide) dX7_idealOf_85 ?_
  exact s_iret rfl dX7_idealOf_86 k
theorem bX7_idealOf_87 {l : Launch} {D : va_G} {aI aL : ClassId} {ad : Nat → Nat} {P : sa_P} {I : sa_I} {J : sa_J} {x1 : Int32}   (k : Sat (ER l D aI aL ad) M_X7_idealOf P 89 [] [.int x1, .ref (ad 0)] I J) : Sat (ER l D aI aL ad) M_X7_idealOf P 87 [(0, .ref (ad 0)), (1, .int x1)] [] I J := by
  refine s_aload_n 0 dX7_idealOf_87 rfl ?_
  refine s_iload_n 1 dX7_idealOf_88 rfl ?_
  refine s_pick [] [] rfl ?_; exact k
theorem bX7_idealOf_92 {l : Launch} {D : va_G} {aI aL : ClassId} {ad : Nat → Nat} {P : sa_P} {I : sa_I} {J : sa_J} {s0 : Int32}   (kt : s0 = 0 → Sat (ER l D aI aL ad) M_X7_idealOf P 99 [] [] I J) (kf : ¬ s0 = 0 → Sat (ER l D aI aL ad) M_X7_idealOf P 95 [] [] I J) : Sat (ER l D aI aL ad) M_X7_idealOf P 92 [] [.int s0] I J := by
  refine s_if_eq (tgt := 99) dX7_idealOf_92 (by decide) (fun c => ?_) (fun c => ?_)
  · exact kt c
  · exact kf c
theorem bX7_idealOf_95 {l : Launch} {D : va_G} {aI aL : ClassId} {ad : Nat → Nat} {P : sa_P} {I : sa_I} {J : sa_J}    (k : Sat (ER l D aI aL ad) M_X7_idealOf P 100 [] [.int (1 : Int32)] I J) : Sat (ER l D aI aL ad) M_X7_idealOf P 95 [] [] I J := by
  refine s_iconst (v := 1) dX7_idealOf_95 rfl ?_
  refine s_goto (tgt := 100) dX7_idealOf_96 (by decide) ?_
  exact k
theorem bX7_idealOf_99 {l : Launch} {D : va_G} {aI aL : ClassId} {ad : Nat → Nat} {P : sa_P} {I : sa_I} {J : sa_J}    (k : Sat (ER l D aI aL ad) M_X7_idealOf P 100 [] [.int (0 : Int32)] I J) : Sat (ER l D aI aL ad) M_X7_idealOf P 99 [] [] I J := by
  refine s_iconst (v := 0) dX7_idealOf_99 rfl ?_
  exact k
theorem bX7_idealOf_100 {l : Launch} {D : va_G} {aI aL : ClassId} {ad : Nat → Nat} {P : sa_P} {I : sa_I} {J : sa_J} {s0 : Int32}   (k : P (some (.int s0)) I J) : Sat (ER l D aI aL ad) M_X7_idealOf P 100 [] [.int s0] I J := by
  exact s_iret rfl dX7_idealOf_100 k
theorem bX7_idealOf_101 {l : Launch} {D : va_G} {aI aL : ClassId} {ad : Nat → Nat} {P : sa_P} {I : sa_I} {J : sa_J}    (k : Sat (ER l D aI aL ad) M_X7_idealOf P 104 [] [.int (-2 : Int32), .ref (ad 0)] I J) : Sat (ER l D aI aL ad) M_X7_idealOf P 101 [(0, .ref (ad 0))] [] I J := by
  refine s_aload_n 0 dX7_idealOf_101 rfl ?_
  refine s_bipush (v := -2) dX7_idealOf_102 rfl ?_
  refine s_pick [] [] rfl ?_; exact k
theorem bX7_idealOf_107 {l : Launch} {D : va_G} {aI aL : ClassId} {ad : Nat → Nat} {P : sa_P} {I : sa_I} {J : sa_J} {s0 : Int32}   (k : P (some (.int s0)) I J) : Sat (ER l D aI aL ad) M_X7_idealOf P 107 [] [.int s0] I J := by
  exact s_iret rfl dX7_idealOf_107 k
/-! X7_in -/
theorem dX7_in_0 : decode cX7_in 0 = .ok (.aload_n 0, 1) := by decide +kernel
theorem dX7_in_1 : decode cX7_in 1 = .ok (.invokevirtual 203, 3) := by decide +kernel
theorem dX7_in_4 : decode cX7_in 4 = .ok (.ifCond .ne 10, 3) := by decide +kernel
theorem dX7_in_7 : decode cX7_in 7 = .ok (.aload_n 0, 1) := by decide +kernel
theorem dX7_in_8 : decode cX7_in 8 = .ok (.bipush (-3), 2) := by decide +kernel
theorem dX7_in_10 : decode cX7_in 10 = .ok (.invokevirtual 84, 3) := by decide +kernel
theorem dX7_in_13 : decode cX7_in 13 = .ok (.ireturn, 1) := by decide +kernel
theorem dX7_in_14 : decode cX7_in 14 = .ok (.aload_n 0, 1) := by decide +kernel
theorem dX7_in_15 : decode cX7_in 15 = .ok (.iload_n 1, 1) := by decide +kernel
theorem dX7_in_16 : decode cX7_in 16 = .ok (.invokevirtual 282, 3) := by decide +kernel
theorem dX7_in_19 : decode cX7_in 19 = .ok (.ifCond .eq 11, 3) := by decide +kernel
theorem dX7_in_22 : decode cX7_in 22 = .ok (.aload_n 0, 1) := by decide +kernel
theorem dX7_in_23 : decode cX7_in 23 = .ok (.iload_n 2, 1) := by decide +kernel
theorem dX7_in_24 : decode cX7_in 24 = .ok (.invokevirtual 232, 3) := by decide +kernel
theorem dX7_in_27 : decode cX7_in 27 = .ok (.ifCond .ne 9, 3) := by decide +kernel
theorem dX7_in_30 : decode cX7_in 30 = .ok (.aload_n 0, 1) := by decide +kernel
theorem dX7_in_31 : decode cX7_in 31 = .ok (.iconst (-1), 1) := by decide +kernel
theorem dX7_in_32 : decode cX7_in 32 = .ok (.invokevirtual 84, 3) := by decide +kernel
theorem dX7_in_35 : decode cX7_in 35 = .ok (.ireturn, 1) := by decide +kernel
theorem dX7_in_36 : decode cX7_in 36 = .ok (.aload_n 0, 1) := by decide +kernel
theorem dX7_in_37 : decode cX7_in 37 = .ok (.iload_n 2, 1) := by decide +kernel
theorem dX7_in_38 : decode cX7_in 38 = .ok (.aload_n 0, 1) := by decide +kernel
theorem dX7_in_39 : decode cX7_in 39 = .ok (.getfield 38, 3) := by decide +kernel
theorem dX7_in_42 : decode cX7_in 42 = .ok (.invokevirtual 235, 3) := by decide +kernel
theorem dX7_in_45 : decode cX7_in 45 = .ok (.aload_n 0, 1) := by decide +kernel
theorem dX7_in_46 : decode cX7_in 46 = .ok (.iload_n 1, 1) := by decide +kernel
theorem dX7_in_47 : decode cX7_in 47 = .ok (.aload_n 0, 1) := by decide +kernel
theorem dX7_in_48 : decode cX7_in 48 = .ok (.getfield 56, 3) := by decide +kernel
theorem dX7_in_51 : decode cX7_in 51 = .ok (.invokevirtual 285, 3) := by decide +kernel
theorem dX7_in_54 : decode cX7_in 54 = .ok (.aload_n 0, 1) := by decide +kernel
theorem dX7_in_55 : decode cX7_in 55 = .ok (.aload_n 0, 1) := by decide +kernel
theorem dX7_in_56 : decode cX7_in 56 = .ok (.getfield 38, 3) := by decide +kernel
theorem dX7_in_59 : decode cX7_in 59 = .ok (.iconst 0, 1) := by decide +kernel
theorem dX7_in_60 : decode cX7_in 60 = .ok (.aload_n 0, 1) := by decide +kernel
theorem dX7_in_61 : decode cX7_in 61 = .ok (.getfield 56, 3) := by decide +kernel
theorem dX7_in_64 : decode cX7_in 64 = .ok (.invokevirtual 271, 3) := by decide +kernel
theorem dX7_in_67 : decode cX7_in 67 = .ok (.ifCond .eq 7, 3) := by decide +kernel
theorem dX7_in_70 : decode cX7_in 70 = .ok (.iconst 1, 1) := by decide +kernel
theorem dX7_in_71 : decode cX7_in 71 = .ok (.goto 4, 3) := by decide +kernel
theorem dX7_in_74 : decode cX7_in 74 = .ok (.iconst 0, 1) := by decide +kernel
theorem dX7_in_75 : decode cX7_in 75 = .ok (.ireturn, 1) := by decide +kernel
theorem bX7_in_0 {l : Launch} {D : va_G} {aI aL : ClassId} {ad : Nat → Nat} {P : sa_P} {I : sa_I} {J : sa_J} {x1 : Int32} {x2 : Int32}   (k : Sat (ER l D aI aL ad) M_X7_in P 1 [(0, .ref (ad 0)), (1, .int x1), (2, .int x2)] [.ref (ad 0)] I J) : Sat (ER l D aI aL ad) M_X7_in P 0 [(0, .ref (ad 0)), (1, .int x1), (2, .int x2)] [] I J := by
  refine s_aload_n 0 dX7_in_0 rfl ?_
  exact k
theorem bX7_in_4 {l : Launch} {D : va_G} {aI aL : ClassId} {ad : Nat → Nat} {P : sa_P} {I : sa_I} {J : sa_J} {x1 : Int32} {x2 : Int32} {s0 : Int32}   (kt : ¬ s0 = 0 → Sat (ER l D aI aL ad) M_X7_in P 14 [(0, .ref (ad 0)), (1, .int x1), (2, .int x2)] [] I J) (kf : s0 = 0 → Sat (ER l D aI aL ad) M_X7_in P 7 [(0, .ref (ad 0))] [] I J) : Sat (ER l D aI aL ad) M_X7_in P 4 [(0, .ref (ad 0)), (1, .int x1), (2, .int x2)] [.int s0] I J := by
  refine s_if_ne (tgt := 14) dX7_in_4 (by decide) (fun c => ?_) (fun c => ?_)
  · exact kt c
  · refine s_pick [0] [(0, .ref (ad 0))] rfl ?_; exact kf (by first | exact c | exact Classical.not_not.mp c)
theorem bX7_in_7 {l : Launch} {D : va_G} {aI aL : ClassId} {ad : Nat → Nat} {P : sa_P} {I : sa_I} {J : sa_J}    (k : Sat (ER l D aI aL ad) M_X7_in P 10 [] [.int (-3 : Int32), .ref (ad 0)] I J) : Sat (ER l D aI aL ad) M_X7_in P 7 [(0, .ref (ad 0))] [] I J := by
  refine s_aload_n 0 dX7_in_7 rfl ?_
  refine s_bipush (v := -3) dX7_in_8 rfl ?_
  refine s_pick [] [] rfl ?_; exact k
theorem bX7_in_13 {l : Launch} {D : va_G} {aI aL : ClassId} {ad : Nat → Nat} {P : sa_P} {I : sa_I} {J : sa_J} {s0 : Int32}   (k : P (some (.int s0)) I J) : Sat (ER l D aI aL ad) M_X7_in P 13 [] [.int s0] I J := by
  exact s_iret rfl dX7_in_13 k
theorem bX7_in_14 {l : Launch} {D : va_G} {aI aL : ClassId} {ad : Nat → Nat} {P : sa_P} {I : sa_I} {J : sa_J} {x1 : Int32} {x2 : Int32}   (k : Sat (ER l D aI aL ad) M_X7_in P 16 [(0, .ref (ad 0)), (1, .int x1), (2, .int x2)] [.int x1, .ref (ad 0)] I J) : Sat (ER l D aI aL ad) M_X7_in P 14 [(0, .ref (ad 0)), (1, .int x1), (2, .int x2)] [] I J := by
  refine s_aload_n 0 dX7_in_14 rfl ?_
  refine s_iload_n 1 dX7_in_15 rfl ?_
  exact k
theorem bX7_in_19 {l : Launch} {D : va_G} {aI aL : ClassId} {ad : Nat → Nat} {P : sa_P} {I : sa_I} {J : sa_J} {x1 : Int32} {x2 : Int32} {s0 : Int32}   (kt : s0 = 0 → Sat (ER l D aI aL ad) M_X7_in P 30 [(0, .ref (ad 0))] [] I J) (kf : ¬ s0 = 0 → Sat (ER l D aI aL ad) M_X7_in P 22 [(0, .ref (ad 0)), (1, .int x1), (2, .int x2)] [] I J) : Sat (ER l D aI aL ad) M_X7_in P 19 [(0, .ref (ad 0)), (1, .int x1), (2, .int x2)] [.int s0] I J := by
  refine s_if_eq (tgt := 30) dX7_in_19 (by decide) (fun c => ?_) (fun c => ?_)
  · refine s_pick [0] [(0, .ref (ad 0))] rfl ?_; exact kt c
  · exact kf c
theorem bX7_in_22 {l : Launch} {D : va_G} {aI aL : ClassId} {ad : Nat → Nat} {P : sa_P} {I : sa_I} {J : sa_J} {x1 : Int32} {x2 : Int32}   (k : Sat (ER l D aI aL ad) M_X7_in P 24 [(0, .ref (ad 0)), (1, .int x1), (2, .int x2)] [.int x2, .ref (ad 0)] I J) : Sat (ER l D aI aL ad) M_X7_in P 22 [(0, .ref (ad 0)), (1, .int x1), (2, .int x2)] [] I J := by
  refine s_aload_n 0 dX7_in_22 rfl ?_
  refine s_iload_n 2 dX7_in_23 rfl ?_
  exact k
theorem bX7_in_27 {l : Launch} {D : va_G} {aI aL : ClassId} {ad : Nat → Nat} {P : sa_P} {I : sa_I} {J : sa_J} {x1 : Int32} {x2 : Int32} {s0 : Int32}   (kt : ¬ s0 = 0 → Sat (ER l D aI aL ad) M_X7_in P 36 [(0, .ref (ad 0)), (1, .int x1), (2, .int x2)] [] I J) (kf : s0 = 0 → Sat (ER l D aI aL ad) M_X7_in P 30 [(0, .ref (ad 0))] [] I J) : Sat (ER l D aI aL ad) M_X7_in P 27 [(0, .ref (ad 0)), (1, .int x1), (2, .int x2)] [.int s0] I J := by
  refine s_if_ne (tgt := 36) dX7_in_27 (by decide) (fun c => ?_) (fun c => ?_)
  · exact kt c
  · refine s_pick [0] [(0, .ref (ad 0))] rfl ?_; exact kf (by first | exact c | exact Classical.not_not.mp c)
theorem bX7_in_30 {l : Launch} {D : va_G} {aI aL : ClassId} {ad : Nat → Nat} {P : sa_P} {I : sa_I} {J : sa_J}    (k : Sat (ER l D aI aL ad) M_X7_in P 32 [] [.int (-1 : Int32), .ref (ad 0)] I J) : Sat (ER l D aI aL ad) M_X7_in P 30 [(0, .ref (ad 0))] [] I J := by
  refine s_aload_n 0 dX7_in_30 rfl ?_
  refine s_iconst (v := -1) dX7_in_31 rfl ?_
  refine s_pick [] [] rfl ?_; exact k
theorem bX7_in_35 {l : Launch} {D : va_G} {aI aL : ClassId} {ad : Nat → Nat} {P : sa_P} {I : sa_I} {J : sa_J} {s0 : Int32}   (k : P (some (.int s0)) I J) : Sat (ER l D aI aL ad) M_X7_in P 35 [] [.int s0] I J := by
  exact s_iret rfl dX7_in_35 k
theorem bX7_in_36 {l : Launch} {D : va_G} {aI aL : ClassId} {ad : Nat → Nat} {P : sa_P} {I : sa_I} {J : sa_J} {x1 : Int32} {x2 : Int32}   (k : Sat (ER l D aI aL ad) M_X7_in P 42 [(0, .ref (ad 0)), (1, .int x1)] [.ref (ad 10), .int x2, .ref (ad 0)] I J) : Sat (ER l D aI aL ad) M_X7_in P 36 [(0, .ref (ad 0)), (1, .int x1), (2, .int x2)] [] I J := by
  refine s_aload_n 0 dX7_in_36 rfl ?_
  refine s_iload_n 2 dX7_in_37 rfl ?_
  refine s_aload_n 0 dX7_in_38 rfl ?_
  refine g_X7_38 dX7_in_39 rfl ?_
  refine s_pick [0, 1] [(0, .ref (ad 0)), (1, .int x1)] rfl ?_; exact k
theorem bX7_in_45 {l : Launch} {D : va_G} {aI aL : ClassId} {ad : Nat → Nat} {P : sa_P} {I : sa_I} {J : sa_J} {x1 : Int32}   (k : Sat (ER l D aI aL ad) M_X7_in P 51 [(0, .ref (ad 0))] [.ref (ad 16), .int x1, .ref (ad 0)] I J) : Sat (ER l D aI aL ad) M_X7_in P 45 [(0, .ref (ad 0)), (1, .int x1)] [] I J := by
  refine s_aload_n 0 dX7_in_45 rfl ?_
  refine s_iload_n 1 dX7_in_46 rfl ?_
  refine s_aload_n 0 dX7_in_47 rfl ?_
  refine g_X7_56 dX7_in_48 rfl ?_
  refine s_pick [0] [(0, .ref (ad 0))] rfl ?_; exact k
theorem bX7_in_54 {l : Launch} {D : va_G} {aI aL : ClassId} {ad : Nat → Nat} {P : sa_P} {I : sa_I} {J : sa_J}    (k : Sat (ER l D aI aL ad) M_X7_in P 64 [] [.ref (ad 16), .int (0 : Int32), .ref (ad 10), .ref (ad 0)] I J) : Sat (ER l D aI aL ad) M_X7_in P 54 [(0, .ref (ad 0))] [] I J := by
  refine s_aload_n 0 dX7_in_54 rfl ?_
  refine s_aload_n 0 dX7_in_55 rfl ?_
  refine g_X7_38 dX7_in_56 rfl ?_
  refine s_iconst (v := 0) dX7_in_59 rfl ?_
  refine s_aload_n 0 dX7_in_60 rfl ?_
  refine g_X7_56 dX7_in_61 rfl ?_
  refine s_pick [] [] rfl ?_; exact k
theorem bX7_in_67 {l : Launch} {D : va_G} {aI aL : ClassId} {ad : Nat → Nat} {P : sa_P} {I : sa_I} {J : sa_J} {s0 : Int32}   (kt : s0 = 0 → Sat (ER l D aI aL ad) M_X7_in P 74 [] [] I J) (kf : ¬ s0 = 0 → Sat (ER l D aI aL ad) M_X7_in P 70 [] [] I J) : Sat (ER l D aI aL ad) M_X7_in P 67 [] [.int s0] I J := by
  refine s_if_eq (tgt := 74) dX7_in_67 (by decide) (fun c => ?_) (fun c => ?_)
  · exact kt c
  · exact kf c
theorem bX7_in_70 {l : Launch} {D : va_G} {aI aL : ClassId} {ad : Nat → Nat} {P : sa_P} {I : sa_I} {J : sa_J}    (k : Sat (ER l D aI aL ad) M_X7_in P 75 [] [.int (1 : Int32)] I J) : Sat (ER l D aI aL ad) M_X7_in P 70 [] [] I J := by
  refine s_iconst (v := 1) dX7_in_70 rfl ?_
  refine s_goto (tgt := 75) dX7_in_71 (by decide) ?_
  exact k
theorem bX7_in_74 {l : Launch} {D : va_G} {aI aL : ClassId} {ad : Nat → Nat} {P : sa_P} {I : sa_I} {J : sa_J}    (k : Sat (ER l D aI aL ad) M_X7_in P 75 [] [.int (0 : Int32)] I J) : Sat (ER l D aI aL ad) M_X7_in P 74 [] [] I J := by
  refine s_iconst (v := 0) dX7_in_74 rfl ?_
  exact k
theorem bX7_in_75 {l : Launch} {D : va_G} {aI aL : ClassId} {ad : Nat → Nat} {P : sa_P} {I : sa_I} {J : sa_J} {s0 : Int32}   (k : P (some (.int s0)) I J) : Sat (ER l D aI aL ad) M_X7_in P 75 [] [.int s0] I J := by
  exact s_iret rfl dX7_in_75 k
/-! X7_divides -/
theorem dX7_divides_0 : decode cX7_divides 0 = .ok (.aload_n 0, 1) := by decide +kernel
theorem dX7_divides_1 : decode cX7_divides 1 = .ok (.invokevirtual 203, 3) := by decide +kernel
theorem dX7_divides_4 : decode cX7_divides 4 = .ok (.ifCond .ne 10, 3) := by decide +kernel
theorem dX7_divides_7 : decode cX7_divides 7 = .ok (.aload_n 0, 1) := by decide +kernel
theorem dX7_divides_8 : decode cX7_divides 8 = .ok (.bipush (-3), 2) := by decide +kernel
theorem dX7_divides_10 : decode cX7_divides 10 = .ok (.invokevirtual 84, 3) := by decide +kernel
theorem dX7_divides_13 : decode cX7_divides 13 = .ok (.ireturn, 1) := by decide +kernel
theorem dX7_divides_14 : decode cX7_divides 14 = .ok (.aload_n 0, 1) := by decide +kernel
theorem dX7_divides_15 : decode cX7_divides 15 = .ok (.iload_n 1, 1) := by decide +kernel
theorem dX7_divides_16 : decode cX7_divides 16 = .ok (.invokevirtual 282, 3) := by decide +kernel
theorem dX7_divides_19 : decode cX7_divides 19 = .ok (.ifCond .eq 11, 3) := by decide +kernel
theorem dX7_divides_22 : decode cX7_divides 22 = .ok (.aload_n 0, 1) := by decide +kernel
theorem dX7_divides_23 : decode cX7_divides 23 = .ok (.iload_n 2, 1) := by decide +kernel
theorem dX7_divides_24 : decode cX7_divides 24 = .ok (.invokevirtual 282, 3) := by decide +kernel
theorem dX7_divides_27 : decode cX7_divides 27 = .ok (.ifCond .ne 9, 3) := by decide +kernel
theorem dX7_divides_30 : decode cX7_divides 30 = .ok (.aload_n 0, 1) := by decide +kernel
theorem dX7_divides_31 : decode cX7_divides 31 = .ok (.iconst (-1), 1) := by decide +kernel
theorem dX7_divides_32 : decode cX7_divides 32 = .ok (.invokevirtual 84, 3) := by decide +kernel
theorem dX7_divides_35 : decode cX7_divides 35 = .ok (.ireturn, 1) := by decide +kernel
theorem dX7_divides_36 : decode cX7_divides 36 = .ok (.aload_n 0, 1) := by decide +kernel
theorem dX7_divides_37 : decode cX7_divides 37 = .ok (.iload_n 2, 1) := by decide +kernel
theorem dX7_divides_38 : decode cX7_divides 38 = .ok (.aload_n 0, 1) := by decide +kernel
theorem dX7_divides_39 : decode cX7_divides 39 = .ok (.getfield 53, 3) := by decide +kernel
theorem dX7_divides_42 : decode cX7_divides 42 = .ok (.invokevirtual 285, 3) := by decide +kernel
theorem dX7_divides_45 : decode cX7_divides 45 = .ok (.aload_n 0, 1) := by decide +kernel
theorem dX7_divides_46 : decode cX7_divides 46 = .ok (.iload_n 1, 1) := by decide +kernel
theorem dX7_divides_47 : decode cX7_divides 47 = .ok (.aload_n 0, 1) := by decide +kernel
theorem dX7_divides_48 : decode cX7_divides 48 = .ok (.getfield 56, 3) := by decide +kernel
theorem dX7_divides_51 : decode cX7_divides 51 = .ok (.invokevirtual 285, 3) := by decide +kernel
theorem dX7_divides_54 : decode cX7_divides 54 = .ok (.aload_n 0, 1) := by decide +kernel
theorem dX7_divides_55 : decode cX7_divides 55 = .ok (.invokevirtual 288, 3) := by decide +kernel
theorem dX7_divides_58 : decode cX7_divides 58 = .ok (.ifCond .eq 7, 3) := by decide +kernel
theorem dX7_divides_61 : decode cX7_divides 61 = .ok (.iconst 1, 1) := by decide +kernel
theorem dX7_divides_62 : decode cX7_divides 62 = .ok (.goto 4, 3) := by decide +kernel
theorem dX7_divides_65 : decode cX7_divides 65 = .ok (.iconst 0, 1) := by decide +kernel
theorem dX7_divides_66 : decode cX7_divides 66 = .ok (.ireturn, 1) := by decide +kernel
theorem bX7_divides_0 {l : Launch} {D : va_G} {aI aL : ClassId} {ad : Nat → Nat} {P : sa_P} {I : sa_I} {J : sa_J} {x1 : Int32} {x2 : Int32}   (k : Sat (ER l D aI aL ad) M_X7_divides P 1 [(0, .ref (ad 0)), (1, .int x1), (2, .int x2)] [.ref (ad 0)] I J) : Sat (ER l D aI aL ad) M_X7_divides P 0 [(0, .ref (ad 0)), (1, .int x1), (2, .int x2)] [] I J := by
  refine s_aload_n 0 dX7_divides_0 rfl ?_
  exact k
theorem bX7_divides_4 {l : Launch} {D : va_G} {aI aL : ClassId} {ad : Nat → Nat} {P : sa_P} {I : sa_I} {J : sa_J} {x1 : Int32} {x2 : Int32} {s0 : Int32}   (kt : ¬ s0 = 0 → Sat (ER l D aI aL ad) M_X7_divides P 14 [(0, .ref (ad 0)), (1, .int x1), (2, .int x2)] [] I J) (kf : s0 = 0 → Sat (ER l D aI aL ad) M_X7_divides P 7 [(0, .ref (ad 0))] [] I J) : Sat (ER l D aI aL ad) M_X7_divides P 4 [(0, .ref (ad 0)), (1, .int x1), (2, .int x2)] [.int s0] I J := by
  refine s_if_ne (tgt := 14) dX7_divides_4 (by decide) (fun c => ?_) (fun c => ?_)
  · exact kt c
  · refine s_pick [0] [(0, .ref (ad 0))] rfl ?_; exact kf (by first | exact c | exact Classical.not_not.mp c)
theorem bX7_divides_7 {l : Launch} {D : va_G} {aI aL : ClassId} {ad : Nat → Nat} {P : sa_P} {I : sa_I} {J : sa_J}    (k : Sat (ER l D aI aL ad) M_X7_divides P 10 [] [.int (-3 : Int32), .ref (ad 0)] I J) : Sat (ER l D aI aL ad) M_X7_divides P 7 [(0, .ref (ad 0))] [] I J := by
  refine s_aload_n 0 dX7_divides_7 rfl ?_
  refine s_bipush (v := -3) dX7_divides_8 rfl ?_
  refine s_pick [] [] rfl ?_; exact k
theorem bX7_divides_13 {l : Launch} {D : va_G} {aI aL : ClassId} {ad : Nat → Nat} {P : sa_P} {I : sa_I} {J : sa_J} {s0 : Int32}   (k : P (some (.int s0)) I J) : Sat (ER l D aI aL ad) M_X7_divides P 13 [] [.int s0] I J := by
  exact s_iret rfl dX7_divides_13 k
theorem bX7_divides_14 {l : Launch} {D : va_G} {aI aL : ClassId} {ad : Nat → Nat} {P : sa_P} {I : sa_I} {J : sa_J} {x1 : Int32} {x2 : Int32}   (k : Sat (ER l D aI aL ad) M_X7_divides P 16 [(0, .ref (ad 0)), (1, .int x1), (2, .int x2)] [.int x1, .ref (ad 0)] I J) : Sat (ER l D aI aL ad) M_X7_divides P 14 [(0, .ref (ad 0)), (1, .int x1), (2, .int x2)] [] I J := by
  refine s_aload_n 0 dX7_divides_14 rfl ?_
  refine s_iload_n 1 dX7_divides_15 rfl ?_
  exact k
theorem bX7_divides_19 {l : Launch} {D : va_G} {aI aL : ClassId} {ad : Nat → Nat} {P : sa_P} {I : sa_I} {J : sa_J} {x1 : Int32} {x2 : Int32} {s0 : Int32}   (kt : s0 = 0 → Sat (ER l D aI aL ad) M_X7_divides P 30 [(0, .ref (ad 0))] [] I J) (kf : ¬ s0 = 0 → Sat (ER l D aI aL ad) M_X7_divides P 22 [(0, .ref (ad 0)), (1, .int x1), (2, .int x2)] [] I J) : Sat (ER l D aI aL ad) M_X7_divides P 19 [(0, .ref (ad 0)), (1, .int x1), (2, .int x2)] [.int s0] I J := by
  refine s_if_eq (tgt := 30) dX7_divides_19 (by decide) (fun c => ?_) (fun c => ?_)
  · refine s_pick [0] [(0, .ref (ad 0))] rfl ?_; exact kt c
  · exact kf c
theorem bX7_divides_22 {l : Launch} {D : va_G} {aI aL : ClassId} {ad : Nat → Nat} {P : sa_P} {I : sa_I} {J : sa_J} {x1 : Int32} {x2 : Int32}   (k : Sat (ER l D aI aL ad) M_X7_divides P 24 [(0, .ref (ad 0)), (1, .int x1), (2, .int x2)] [.int x2, .ref (ad 0)] I J) : Sat (ER l D aI aL ad) M_X7_divides P 22 [(0, .ref (ad 0)), (1, .int x1), (2, .int x2)] [] I J := by
  refine s_aload_n 0 dX7_divides_22 rfl ?_
  refine s_iload_n 2 dX7_divides_23 rfl ?_
  exact k
theorem bX7_divides_27 {l : Launch} {D : va_G} {aI aL : ClassId} {ad : Nat → Nat} {P : sa_P} {I : sa_I} {J : sa_J} {x1 : Int32} {x2 : Int32} {s0 : Int32}   (kt : ¬ s0 = 0 → Sat (ER l D aI aL ad) M_X7_divides P 36 [(0, .ref (ad 0)), (1, .int x1), (2, .int x2)] [] I J) (kf : s0 = 0 → Sat (ER l D aI aL ad) M_X7_divides P 30 [(0, .ref (ad 0))] [] I J) : Sat (ER l D aI aL ad) M_X7_divides P 27 [(0, .ref (ad 0)), (1, .int x1), (2, .int x2)] [.int s0] I J := by
  refine s_if_ne (tgt := 36) dX7_divides_27 (by decide) (fun c => ?_) (fun c => ?_)
  · exact kt c
  · refine s_pick [0] [(0, .ref (ad 0))] rfl ?_; exact kf (by first | exact c | exact Classical.not_not.mp c)
theorem bX7_divides_30 {l : Launch} {D : va_G} {aI aL : ClassId} {ad : Nat → Nat} {P : sa_P} {I : sa_I} {J : sa_J}    (k : Sat (ER l D aI aL ad) M_X7_divides P 32 [] [.int (-1 : Int32), .ref (ad 0)] I J) : Sat (ER l D aI aL ad) M_X7_divides P 30 [(0, .ref (ad 0))] [] I J := by
  refine s_aload_n 0 dX7_divides_30 rfl ?_
  refine s_iconst (v := -1) dX7_divides_31 rfl ?_
  refine s_pick [] [] rfl ?_; exact k
theorem bX7_divides_35 {l : Launch} {D : va_G} {aI aL : ClassId} {ad : Nat → Nat} {P : sa_P} {I : sa_I} {J : sa_J} {s0 : Int32}   (k : P (some (.int s0)) I J) : Sat (ER l D aI aL ad) M_X7_divides P 35 [] [.int s0] I J := by
  exact s_iret rfl dX7_divides_35 k
theorem bX7_divides_36 {l : Launch} {D : va_G} {aI aL : ClassId} {ad : Nat → Nat} {P : sa_P} {I : sa_I} {J : sa_J} {x1 : Int32} {x2 : Int32}   (k : Sat (ER l D aI aL ad) M_X7_divides P 42 [(0, .ref (ad 0)), (1, .int x1)] [.ref (ad 15), .int x2, .ref (ad 0)] I J) : Sat (ER l D aI aL ad) M_X7_divides P 36 [(0, .ref (ad 0)), (1, .int x1), (2, .int x2)] [] I J := by
  refine s_aload_n 0 dX7_divides_36 rfl ?_
  refine s_iload_n 2 dX7_divides_37 rfl ?_
  refine s_aload_n 0 dX7_divides_38 rfl ?_
  refine g_X7_53 dX7_divides_39 rfl ?_
  refine s_pick [0, 1] [(0, .ref (ad 0)), (1, .int x1)] rfl ?_; exact k
theorem bX7_divides_45 {l : Launch} {D : va_G} {aI aL : ClassId} {ad : Nat → Nat} {P : sa_P} {I : sa_I} {J : sa_J} {x1 : Int32}   (k : Sat (ER l D aI aL ad) M_X7_divides P 51 [(0, .ref (ad 0))] [.ref (ad 16), .int x1, .ref (ad 0)] I J) : Sat (ER l D aI aL ad) M_X7_divides P 45 [(0, .ref (ad 0)), (1, .int x1)] [] I J := by
  refine s_aload_n 0 dX7_divides_45 rfl ?_
  refine s_iload_n 1 dX7_divides_46 rfl ?_
  refine s_aload_n 0 dX7_divides_47 rfl ?_
  refine g_X7_56 dX7_divides_48 rfl ?_
  refine s_pick [0] [(0, .ref (ad 0))] rfl ?_; exact k
theorem bX7_divides_54 {l : Launch} {D : va_G} {aI aL : ClassId} {ad : Nat → Nat} {P : sa_P} {I : sa_I} {J : sa_J}    (k : Sat (ER l D aI aL ad) M_X7_divides P 55 [] [.ref (ad 0)] I J) : Sat (ER l D aI aL ad) M_X7_divides P 54 [(0, .ref (ad 0))] [] I J := by
  refine s_aload_n 0 dX7_divides_54 rfl ?_
  refine s_pick [] [] rfl ?_; exact k
theorem bX7_divides_58 {l : Launch} {D : va_G} {aI aL : ClassId} {ad : Nat → Nat} {P : sa_P} {I : sa_I} {J : sa_J} {s0 : Int32}   (kt : s0 = 0 → Sat (ER l D aI aL ad) M_X7_divides P 65 [] [] I J) (kf : ¬ s0 = 0 → Sat (ER l D aI aL ad) M_X7_divides P 61 [] [] I J) : Sat (ER l D aI aL ad) M_X7_divides P 58 [] [.int s0] I J := by
  refine s_if_eq (tgt := 65) dX7_divides_58 (by decide) (fun c => ?_) (fun c => ?_)
  · exact kt c
  · exact kf c
theorem bX7_divides_61 {l : Launch} {D : va_G} {aI aL : ClassId} {ad : Nat → Nat} {P : sa_P} {I : sa_I} {J : sa_J}    (k : Sat (ER l D aI aL ad) M_X7_divides P 66 [] [.int (1 : Int32)] I J) : Sat (ER l D aI aL ad) M_X7_divides P 61 [] [] I J := by
  refine s_iconst (v := 1) dX7_divides_61 rfl ?_
  refine s_goto (tgt := 66) dX7_divides_62 (by decide) ?_
  exact k
theorem bX7_divides_65 {l : Launch} {D : va_G} {aI aL : ClassId} {ad : Nat → Nat} {P : sa_P} {I : sa_I} {J : sa_J}    (k : Sat (ER l D aI aL ad) M_X7_divides P 66 [] [.int (0 : Int32)] I J) : Sat (ER l D aI aL ad) M_X7_divides P 65 [] [] I J := by
  refine s_iconst (v := 0) dX7_divides_65 rfl ?_
  exact k
theorem bX7_divides_66 {l : Launch} {D : va_G} {aI aL : ClassId} {ad : Nat → Nat} {P : sa_P} {I : sa_I} {J : sa_J} {s0 : Int32}   (k : P (some (.int s0)) I J) : Sat (ER l D aI aL ad) M_X7_divides P 66 [] [.int s0] I J := by
  exact s_iret rfl dX7_divides_66 k
