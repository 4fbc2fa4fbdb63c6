theorem ord_all {D : Int} (hD : DOK D) (hf : fundB D = true) : chkO D = true := by
  have h1 := hD.1
  have h2 := hD.2.1
  have hp := hD.2.2.2
  by_cases c0 : D < (-775)
  · exact chOA_of 25 (-800) kor_0 D (by omega) (by omega) hf hp
  by_cases c1 : D < (-750)
  · exact chOA_of 25 (-775) kor_1 D (by omega) (by omega) hf hp
  by_cases c2 : D < (-725)
  · exact chOA_of 25 (-750) kor_2 D (by omega) (by omega) hf hp
  by_cases c3 : D < (-700)
  · exact chOA_of 25 (-725) kor_3 D (by omega) (by omega) hf hp
  by_cases c4 : D < (-675)
  · exact chOA_of 25 (-700) kor_4 D (by omega) (by omega) hf hp
  by_cases c5 : D < (-650)
  · exact chOA_of 25 (-675) kor_5 D (by omega) (by omega) hf hp
  by_cases c6 : D < (-625)
  · exact chOA_of 25 (-650) kor_6 D (by omega) (by omega) hf hp
  by_cases c7 : D < (-600)
  · exact chOA_of 25 (-625) kor_7 D (by omega) (by omega) hf hp
  by_cases c8 : D < (-575)
  · exact chOA_of 25 (-600) kor_8 D (by omega) (by omega) hf hp
  by_cases c9 : D < (-550)
  · exact chOA_of 25 (-575) kor_9 D (by omega) (by omega) hf hp
  by_cases c10 : D < (-525)
  · exact chOA_of 25 (-550) kor_10 D (by omega) (by omega) hf hp
  by_cases c11 : D < (-500)
  · exact chOA_of 25 (-525) kor_11 D (by omega) (by omega) hf hp
  by_cases c12 : D < (-475)
  · exact chOA_of 25 (-500) kor_12 D (by omega) (by omega) hf hp
  by_cases c13 : D < (-450)
  · exact chOA_of 25 (-475) kor_13 D (by omega) (by omega) hf hp
  by_cases c14 : D < (-425)
  · exact chOA_of 25 (-450) kor_14 D (by omega) (by omega) hf hp
  by_cases c15 : D < (-400)
  · exact chOA_of 25 (-425) kor_15 D (by omega) (by omega) hf hp
  by_cases c16 : D < (-375)
  · exact chOA_of 25 (-400) kor_16 D (by omega) (by omega) hf hp
  by_cases c17 : D < (-350)
  · exact chOA_of 25 (-375) kor_17 D (by omega) (by omega) hf hp
  by_cases c18 : D < (-325)
  · exact chOA_of 25 (-350) kor_18 D (by omega) (by omega) hf hp
  by_cases c19 : D < (-300)
  · exact chOA_of 25 (-325) kor_19 D (by omega) (by omega) hf hp
  by_cases c20 : D < (-275)
  · exact chOA_of 25 (-300) kor_20 D (by omega) (by omega) hf hp
  by_cases c21 : D < (-250)
  · exact chOA_of 25 (-275) kor_21 D (by omega) (by omega) hf hp
  by_cases c22 : D < (-225)
  · exact chOA_of 25 (-250) kor_22 D (by omega) (by omega) hf hp
  by_cases c23 : D < (-200)
  · exact chOA_of 25 (-225) kor_23 D (by omega) (by omega) hf hp
  by_cases c24 : D < (-175)
  · exact chOA_of 25 (-200) kor_24 D (by omega) (by omega) hf hp
  by_cases c25 : D < (-150)
  · exact chOA_of 25 (-175) kor_25 D (by omega) (by omega) hf hp
  by_cases c26 : D < (-125)
  · exact chOA_of 25 (-150) kor_26 D (by omega) (by omega) hf hp
  by_cases c27 : D < (-100)
  · exact chOA_of 25 (-125) kor_27 D (by omega) (by omega) hf hp
  by_cases c28 : D < (-75)
  · exact chOA_of 25 (-100) kor_28 D (by omega) (by omega) hf hp
  by_cases c29 : D < (-50)
  · exact chOA_of 25 (-75) kor_29 D (by omega) (by omega) hf hp
  by_cases c30 : D < (-25)
  · exact chOA_of 25 (-50) kor_30 D (by omega) (by omega) hf hp
  by_cases c31 : D < (0)
  · exact chOA_of 25 (-25) kor_31 D (by omega) (by omega) hf hp
  by_cases c32 : D < (25)
  · exact chOA_of 25 (0) kor_32 D (by omega) (by omega) hf hp
  by_cases c33 : D < (50)
  · exact chOA_of 25 (25) kor_33 D (by omega) (by omega) hf hp
  by_cases c34 : D < (75)
  · exact chOA_of 25 (50) kor_34 D (by omega) (by omega) hf hp
  by_cases c35 : D < (100)
  · exact chOA_of 25 (75) kor_35 D (by omega) (by omega) hf hp
  by_cases c36 : D < (125)
  · exact chOA_of 25 (100) kor_36 D (by omega) (by omega) hf hp
  by_cases c37 : D < (150)
  · exact chOA_of 25 (125) kor_37 D (by omega) (by omega) hf hp
  by_cases c38 : D < (175)
  · exact chOA_of 25 (150) kor_38 D (by omega) (by omega) hf hp
  by_cases c39 : D < (200)
  · exact chOA_of 25 (175) kor_39 D (by omega) (by omega) hf hp
  by_cases c40 : D < (225)
  · exact chOA_of 25 (200) kor_40 D (by omega) (by omega) hf hp
  by_cases c41 : D < (250)
  · exact chOA_of 25 (225) kor_41 D (by omega) (by omega) hf hp
  by_cases c42 : D < (275)
  · exact chOA_of 25 (250) kor_42 D (by omega) (by omega) hf hp
  by_cases c43 : D < (300)
  · exact chOA_of 25 (275) kor_43 D (by omega) (by omega) hf hp
  by_cases c44 : D < (325)
  · exact chOA_of 25 (300) kor_44 D (by omega) (by omega) hf hp
  by_cases c45 : D < (350)
  · exact chOA_of 25 (325) kor_45 D (by omega) (by omega) hf hp
  by_cases c46 : D < (375)
  · exact chOA_of 25 (350) kor_46 D (by omega) (by omega) hf hp
  by_cases c47 : D < (400)
  · exact chOA_of 25 (375) kor_47 D (by omega) (by omega) hf hp
  by_cases c48 : D < (425)
  · exact chOA_of 25 (400) kor_48 D (by omega) (by omega) hf hp
  by_cases c49 : D < (450)
  · exact chOA_of 25 (425) kor_49 D (by omega) (by omega) hf hp
  by_cases c50 : D < (475)
  · exact chOA_of 25 (450) kor_50 D (by omega) (by omega) hf hp
  by_cases c51 : D < (500)
  · exact chOA_of 25 (475) kor_51 D (by omega) (by omega) hf hp
  by_cases c52 : D < (525)
  · exact chOA_of 25 (500) kor_52 D (by omega) (by omega) hf hp
  by_cases c53 : D < (550)
  · exact chOA_of 25 (525) kor_53 D (by omega) (by omega) hf hp
  by_cases c54 : D < (575)
  · exact chOA_of 25 (550) kor_54 D (by omega) (by omega) hf hp
  by_cases c55 : D < (600)
  · exact chOA_of 25 (575) kor_55 D (by omega) (by omega) hf hp
  by_cases c56 : D < (625)
  · exact chOA_of 25 (600) kor_56 D (by omega) (by omega) hf hp
  by_cases c57 : D < (650)
  · exact chOA_of 25 (625) kor_57 D (by omega) (by omega) hf hp
  by_cases c58 : D < (675)
  · exact chOA_of 25 (650) kor_58 D (by omega) (by omega) hf hp
  by_cases c59 : D < (700)
  · exact chOA_of 25 (675) kor_59 D (by omega) (by omega) hf hp
  by_cases c60 : D < (725)
  · exact chOA_of 25 (700) kor_60 D (by omega) (by omega) hf hp
  by_cases c61 : D < (750)
  · exact chOA_of 25 (725) kor_61 D (by omega) (by omega) hf hp
  by_cases c62 : D < (775)
  · exact chOA_of 25 (750) kor_62 D (by omega) (by omega) hf hp
  by_cases c63 : D < (800)
  · exact chOA_of 25 (775) kor_63 D (by omega) (by omega) hf hp
  by_cases c64 : D < (825)
  · exact chOA_of 25 (800) kor_64 D (by omega) (by omega) hf hp
  by_cases c65 : D < (850)
  · exact chOA_of 25 (825) kor_65 D (by omega) (by omega) hf hp
  by_cases c66 : D < (875)
  · exact chOA_of 25 (850) kor_66 D (by omega) (by omega) hf hp
  by_cases c67 : D < (900)
  · exact chOA_of 25 (875) kor_67 D (by omega) (by omega) hf hp
  by_cases c68 : D < (925)
  · exact chOA_of 25 (900) kor_68 D (by omega) (by omega) hf hp
  by_cases c69 : D < (950)
  · exact chOA_of 25 (925) kor_69 D (by omega) (by omega) hf hp
  by_cases c70 : D < (975)
  · exact chOA_of 25 (950) kor_70 D (by omega) (by omega) hf hp
  by_cases c71 : D < (1000)
  · exact chOA_of 25 (975) kor_71 D (by omega) (by omega) hf hp
  by_cases c72 : D < (1025)
  · exact chOA_of 25 (1000) kor_72 D (by omega) (by omega) hf hp
  by_cases c73 : D < (1050)
  · exact chOA_of 25 (1025) kor_73 D (by omega) (by omega) hf hp
  by_cases c74 : D < (1075)
  · exact chOA_of 25 (1050) kor_74 D (by omega) (by omega) hf hp
  by_cases c75 : D < (1100)
  · exact chOA_of 25 (1075) kor_75 D (by omega) (by omega) hf hp
  by_cases c76 : D < (1125)
  · exact chOA_of 25 (1100) kor_76 D (by omega) (by omega) hf hp
  by_cases c77 : D < (1150)
  · exact chOA_of 25 (1125) kor_77 D (by omega) (by omega) hf hp
  by_cases c78 : D < (1175)
  · exact chOA_of 25 (1150) kor_78 D (by omega) (by omega) hf hp
  by_cases c79 : D < (1200)
  · exact chOA_of 25 (1175) kor_79 D (by omega) (by omega) hf hp
  by_cases c80 : D < (1201)
  · exact chOA_of 1 (1200) kor_80 D (by omega) (by omega) hf hp
  omega
