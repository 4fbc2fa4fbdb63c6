theorem sa_t1 {w : Cond} (h : w ∈ tables_1_1) : w ∈ lw_tbl := List.mem_append_right _ (show w ∈ tables_1_1 ++ (tables_1_2 ++ (tables_1_3 ++ (tables_1_4 ++ (tables_1_5 ++ tables_1_6)))) from List.mem_append_left _ h)
theorem sa_t2 {w : Cond} (h : w ∈ tables_1_2) : w ∈ lw_tbl := List.mem_append_right _ (show w ∈ tables_1_1 ++ (tables_1_2 ++ (tables_1_3 ++ (tables_1_4 ++ (tables_1_5 ++ tables_1_6)))) from List.mem_append_right _ (List.mem_append_left _ h))
theorem sa_t3 {w : Cond} (h : w ∈ tables_1_3) : w ∈ lw_tbl := List.mem_append_right _ (show w ∈ tables_1_1 ++ (tables_1_2 ++ (tables_1_3 ++ (tables_1_4 ++ (tables_1_5 ++ tables_1_6)))) from List.mem_append_right _ (List.mem_append_right _ (List.mem_append_left _ h)))
theorem sa_t4 {w : Cond} (h : w ∈ tables_1_4) : w ∈ lw_tbl := List.mem_append_right _ (show w ∈ tables_1_1 ++ (tables_1_2 ++ (tables_1_3 ++ (tables_1_4 ++ (tables_1_5 ++ tables_1_6)))) from List.mem_append_right _ (List.mem_append_right _ (List.mem_append_right _ (List.mem_append_left _ h))))
theorem sa_t5 {w : Cond} (h : w ∈ tables_1_5) : w ∈ lw_tbl := List.mem_append_right _ (show w ∈ tables_1_1 ++ (tables_1_2 ++ (tables_1_3 ++ (tables_1_4 ++ (tables_1_5 ++ tables_1_6)))) from List.mem_append_right _ (List.mem_append_right _ (List.mem_append_right _ (List.mem_append_right _ (List.mem_append_left _ h)))))
theorem sa_t6 {w : Cond} (h : w ∈ tables_1_6) : w ∈ lw_tbl := List.mem_append_right _ (show w ∈ tables_1_1 ++ (tables_1_2 ++ (tables_1_3 ++ (tables_1_4 ++ (tables_1_5 ++ tables_1_6)))) from List.mem_append_right _ (List.mem_append_right _ (List.mem_append_right _ (List.mem_append_right _ (List.mem_append_right _ (h))))))
theorem w0_L : Cond.initialized "FieldHouseLaw" ∈ sa_wl := sa_wl_of (sa_t1 (List.mem_of_getElem? (i := 0) rfl)) rfl
theorem w0_X6 : Cond.initialized "FieldHouse" ∈ sa_wl := sa_wl_of (sa_t1 (List.mem_of_getElem? (i := 1) rfl)) rfl
theorem w0_X4 : Cond.initialized "FieldHouse$Ring" ∈ sa_wl := sa_wl_of (sa_t1 (List.mem_of_getElem? (i := 2) rfl)) rfl
theorem w0_X2 : Cond.initialized "FieldHouse$IdealWorks" ∈ sa_wl := sa_wl_of (sa_t1 (List.mem_of_getElem? (i := 3) rfl)) rfl
theorem w0_X3 : Cond.initialized "FieldHouse$Lattice" ∈ sa_wl := sa_wl_of (sa_t1 (List.mem_of_getElem? (i := 4) rfl)) rfl
theorem w0_X5 : Cond.initialized "FieldHouse$Splitting" ∈ sa_wl := sa_wl_of (sa_t1 (List.mem_of_getElem? (i := 5) rfl)) rfl
theorem w0_X1 : Cond.initialized "FieldHouse$Forms" ∈ sa_wl := sa_wl_of (sa_t1 (List.mem_of_getElem? (i := 6) rfl)) rfl
theorem w0_X0 : Cond.initialized "FieldHouse$FirstUnit" ∈ sa_wl := sa_wl_of (sa_t1 (List.mem_of_getElem? (i := 7) rfl)) rfl
theorem w0_X7 : Cond.initialized "FieldHouseModel" ∈ sa_wl := sa_wl_of (sa_t1 (List.mem_of_getElem? (i := 8) rfl)) rfl
theorem w0_J9 : Cond.initialized "java/lang/Math" ∈ sa_wl := sa_wl_of (sa_t1 (List.mem_of_getElem? (i := 9) rfl)) rfl
theorem w0_J10 : Cond.initialized "java/lang/System" ∈ sa_wl := sa_wl_of (sa_t1 (List.mem_of_getElem? (i := 10) rfl)) rfl
theorem w0_J7 : Cond.initialized "java/util/Arrays" ∈ sa_wl := sa_wl_of (sa_t1 (List.mem_of_getElem? (i := 11) rfl)) rfl
theorem wl_L_7 : Cond.classLink RL 7 RX6 ∈ sa_wl := sa_wl_of (sa_t1 (List.mem_of_getElem? (i := 12) rfl)) rfl
theorem wj_X6 : Cond.instantiable RX6 10 ∈ sa_wl := sa_wl_of (sa_t1 (List.mem_of_getElem? (i := 13) rfl)) rfl
theorem wm_L_9 : Cond.methodLink RL 9 yX6_init ∈ sa_wl := sa_wl_of (sa_t1 (List.mem_of_getElem? (i := 14) rfl)) rfl
theorem wi_X6_init : Cond.instanceMethod yX6_init ∈ sa_wl := sa_wl_of (sa_t1 (List.mem_of_getElem? (i := 15) rfl)) rfl
theorem wc_X6_init : Cond.code yX6_init cX6_init 1 (none) ∈ sa_wl := sa_wl_of (sa_t1 (List.mem_of_getElem? (i := 16) rfl)) rfl
theorem wm_X6_1 : Cond.methodLink RX6 1 objectInit ∈ sa_wl := sa_wl_of (sa_t1 (List.mem_of_getElem? (i := 17) rfl)) rfl
theorem wi_objectInit : Cond.instanceMethod objectInit ∈ sa_wl := sa_wl_of (sa_t1 (List.mem_of_getElem? (i := 18) rfl)) rfl
theorem wc_objectInit : Cond.code objectInit ⟨#[0xb1]⟩ 1 none ∈ sa_wl := sa_wl_of (sa_t1 (List.mem_of_getElem? (i := 19) rfl)) rfl
theorem wl_X6_20 : Cond.classLink RX6 20 RX4 ∈ sa_wl := sa_wl_of (sa_t1 (List.mem_of_getElem? (i := 20) rfl)) rfl
theorem wj_X4 : Cond.instantiable RX4 12 ∈ sa_wl := sa_wl_of (sa_t1 (List.mem_of_getElem? (i := 21) rfl)) rfl
theorem wi_X4_init : Cond.instanceMethod yX4_init ∈ sa_wl := sa_wl_of (sa_t1 (List.mem_of_getElem? (i := 23) rfl)) rfl
theorem wc_X4_init : Cond.code yX4_init cX4_init 1 (none) ∈ sa_wl := sa_wl_of (sa_t1 (List.mem_of_getElem? (i := 24) rfl)) rfl
theorem wm_X4_3 : Cond.methodLink RX4 3 objectInit ∈ sa_wl := sa_wl_of (sa_t1 (List.mem_of_getElem? (i := 25) rfl)) rfl
theorem wf_X4_36 : Cond.fieldLink RX4 36 "FieldHouse$Ring" "degree" "I" ∈ sa_wl := sa_wl_of (sa_t1 (List.mem_of_getElem? (i := 26) rfl)) rfl
theorem wf_X2_35 : Cond.fieldLink RX2 35 "FieldHouse$Ring" "degree" "I" ∈ sa_wl := sa_wl_of (sa_t1 (List.mem_of_getElem? (i := 27) rfl)) rfl
theorem wf_X5_51 : Cond.fieldLink RX5 51 "FieldHouse$Ring" "degree" "I" ∈ sa_wl := sa_wl_of (sa_t1 (List.mem_of_getElem? (i := 28) rfl)) rfl
theorem wf_X6_85 : Cond.fieldLink RX6 85 "FieldHouse$Ring" "degree" "I" ∈ sa_wl := sa_wl_of (sa_t1 (List.mem_of_getElem? (i := 29) rfl)) rfl
theorem wf_X4_42 : Cond.fieldLink RX4 42 "FieldHouse$Ring" "polyDisc" "J" ∈ sa_wl := sa_wl_of (sa_t1 (List.mem_of_getElem? (i := 30) rfl)) rfl
theorem wf_X6_103 : Cond.fieldLink RX6 103 "FieldHouse$Ring" "polyDisc" "J" ∈ sa_wl := sa_wl_of (sa_t1 (List.mem_of_getElem? (i := 31) rfl)) rfl
theorem wf_X1_41 : Cond.fieldLink RX1 41 "FieldHouse$Ring" "fieldDisc" "J" ∈ sa_wl := sa_wl_of (sa_t1 (List.mem_of_getElem? (i := 32) rfl)) rfl
theorem wf_X6_100 : Cond.fieldLink RX6 100 "FieldHouse$Ring" "fieldDisc" "J" ∈ sa_wl := sa_wl_of (sa_t1 (List.mem_of_getElem? (i := 33) rfl)) rfl
theorem wf_X4_92 : Cond.fieldLink RX4 92 "FieldHouse$Ring" "fieldDisc" "J" ∈ sa_wl := sa_wl_of (sa_t1 (List.mem_of_getElem? (i := 34) rfl)) rfl
theorem wf_X6_89 : Cond.fieldLink RX6 89 "FieldHouse$Ring" "index" "J" ∈ sa_wl := sa_wl_of (sa_t1 (List.mem_of_getElem? (i := 35) rfl)) rfl
theorem wf_X4_85 : Cond.fieldLink RX4 85 "FieldHouse$Ring" "index" "J" ∈ sa_wl := sa_wl_of (sa_t1 (List.mem_of_getElem? (i := 36) rfl)) rfl
theorem wf_X4_9 : Cond.fieldLink RX4 9 "FieldHouse$Ring" "poly" "[J" ∈ sa_wl := sa_wl_of (sa_t1 (List.mem_of_getElem? (i := 37) rfl)) rfl
theorem wf_X4_15 : Cond.fieldLink RX4 15 "FieldHouse$Ring" "upper" "[J" ∈ sa_wl := sa_wl_of (sa_t1 (List.mem_of_getElem? (i := 38) rfl)) rfl
theorem wf_X6_113 : Cond.fieldLink RX6 113 "FieldHouse$Ring" "upper" "[J" ∈ sa_wl := sa_wl_of (sa_t1 (List.mem_of_getElem? (i := 39) rfl)) rfl
theorem wf_X4_18 : Cond.fieldLink RX4 18 "FieldHouse$Ring" "lower" "[J" ∈ sa_wl := sa_wl_of (sa_t1 (List.mem_of_getElem? (i := 40) rfl)) rfl
theorem wf_X6_110 : Cond.fieldLink RX6 110 "FieldHouse$Ring" "lower" "[J" ∈ sa_wl := sa_wl_of (sa_t1 (List.mem_of_getElem? (i := 41) rfl)) rfl
theorem wf_X4_21 : Cond.fieldLink RX4 21 "FieldHouse$Ring" "products" "[J" ∈ sa_wl := sa_wl_of (sa_t1 (List.mem_of_getElem? (i := 42) rfl)) rfl
theorem wf_X5_98 : Cond.fieldLink RX5 98 "FieldHouse$Ring" "products" "[J" ∈ sa_wl := sa_wl_of (sa_t1 (List.mem_of_getElem? (i := 43) rfl)) rfl
theorem wf_X6_119 : Cond.fieldLink RX6 119 "FieldHouse$Ring" "products" "[J" ∈ sa_wl := sa_wl_of (sa_t1 (List.mem_of_getElem? (i := 44) rfl)) rfl
theorem wf_X4_24 : Cond.fieldLink RX4 24 "FieldHouse$Ring" "answer" "[J" ∈ sa_wl := sa_wl_of (sa_t1 (List.mem_of_getElem? (i := 45) rfl)) rfl
theorem wf_X2_56 : Cond.fieldLink RX2 56 "FieldHouse$Ring" "answer" "[J" ∈ sa_wl := sa_wl_of (sa_t1 (List.mem_of_getElem? (i := 46) rfl)) rfl
theorem wf_X6_122 : Cond.fieldLink RX6 122 "FieldHouse$Ring" "answer" "[J" ∈ sa_wl := sa_wl_of (sa_t1 (List.mem_of_getElem? (i := 47) rfl)) rfl
theorem wf_X4_27 : Cond.fieldLink RX4 27 "FieldHouse$Ring" "matrix" "[J" ∈ sa_wl := sa_wl_of (sa_t1 (List.mem_of_getElem? (i := 48) rfl)) rfl
theorem wf_X4_30 : Cond.fieldLink RX4 30 "FieldHouse$Ring" "wide" "[J" ∈ sa_wl := sa_wl_of (sa_t1 (List.mem_of_getElem? (i := 49) rfl)) rfl
theorem wf_X4_33 : Cond.fieldLink RX4 33 "FieldHouse$Ring" "power" "[J" ∈ sa_wl := sa_wl_of (sa_t1 (List.mem_of_getElem? (i := 50) rfl)) rfl
theorem wa_int : Cond.arrayClass .int ∈ sa_wl := sa_wl_of (sa_t1 (List.mem_of_getElem? (i := 76) rfl)) rfl
theorem wa_long : Cond.arrayClass .long ∈ sa_wl := sa_wl_of (sa_t1 (List.mem_of_getElem? (i := 77) rfl)) rfl
theorem wl_X6_27 : Cond.classLink RX6 27 RX2 ∈ sa_wl := sa_wl_of (sa_t1 (List.mem_of_getElem? (i := 78) rfl)) rfl
theorem wj_X2 : Cond.instantiable RX2 6 ∈ sa_wl := sa_wl_of (sa_t1 (List.mem_of_getElem? (i := 79) rfl)) rfl
theorem wm_X6_29 : Cond.methodLink RX6 29 yX2_init ∈ sa_wl := sa_wl_of (sa_t1 (List.mem_of_getElem? (i := 80) rfl)) rfl
theorem wi_X2_init : Cond.instanceMethod yX2_init ∈ sa_wl := sa_wl_of (sa_t1 (List.mem_of_getElem? (i := 81) rfl)) rfl
theorem wc_X2_init : Cond.code yX2_init cX2_init 2 (none) ∈ sa_wl := sa_wl_of (sa_t1 (List.mem_of_getElem? (i := 82) rfl)) rfl
theorem wm_X2_3 : Cond.methodLink RX2 3 objectInit ∈ sa_wl := sa_wl_of (sa_t1 (List.mem_of_getElem? (i := 83) rfl)) rfl
theorem wl_X2_9 : Cond.classLink RX2 9 RX3 ∈ sa_wl := sa_wl_of (sa_t1 (List.mem_of_getElem? (i := 84) rfl)) rfl
theorem wj_X3 : Cond.instantiable RX3 4 ∈ sa_wl := sa_wl_of (sa_t1 (List.mem_of_getElem? (i := 85) rfl)) rfl
theorem wi_X3_init : Cond.instanceMethod yX3_init ∈ sa_wl := sa_wl_of (sa_t1 (List.mem_of_getElem? (i := 87) rfl)) rfl
theorem wc_X3_init : Cond.code yX3_init cX3_init 1 (none) ∈ sa_wl := sa_wl_of (sa_t1 (List.mem_of_getElem? (i := 88) rfl)) rfl
theorem wm_X3_3 : Cond.methodLink RX3 3 objectInit ∈ sa_wl := sa_wl_of (sa_t1 (List.mem_of_getElem? (i := 89) rfl)) rfl
theorem wf_X3_9 : Cond.fieldLink RX3 9 "FieldHouse$Lattice" "rows" "[J" ∈ sa_wl := sa_wl_of (sa_t1 (List.mem_of_getElem? (i := 90) rfl)) rfl
theorem wf_X5_97 : Cond.fieldLink RX5 97 "FieldHouse$Lattice" "rows" "[J" ∈ sa_wl := sa_wl_of (sa_t1 (List.mem_of_getElem? (i := 91) rfl)) rfl
theorem wf_X2_85 : Cond.fieldLink RX2 85 "FieldHouse$Lattice" "rows" "[J" ∈ sa_wl := sa_wl_of (sa_t1 (List.mem_of_getElem? (i := 92) rfl)) rfl
theorem wf_X1_139 : Cond.fieldLink RX1 139 "FieldHouse$Lattice" "rows" "[J" ∈ sa_wl := sa_wl_of (sa_t1 (List.mem_of_getElem? (i := 93) rfl)) rfl
theorem wf_X6_286 : Cond.fieldLink RX6 286 "FieldHouse$Lattice" "rows" "[J" ∈ sa_wl := sa_wl_of (sa_t1 (List.mem_of_getElem? (i := 94) rfl)) rfl
theorem wf_X3_15 : Cond.fieldLink RX3 15 "FieldHouse$Lattice" "carry" "[J" ∈ sa_wl := sa_wl_of (sa_t1 (List.mem_of_getElem? (i := 95) rfl)) rfl
theorem wf_X3_18 : Cond.fieldLink RX3 18 "FieldHouse$Lattice" "size" "I" ∈ sa_wl := sa_wl_of (sa_t1 (List.mem_of_getElem? (i := 96) rfl)) rfl
theorem wf_X3_22 : Cond.fieldLink RX3 22 "FieldHouse$Lattice" "whole" "J" ∈ sa_wl := sa_wl_of (sa_t1 (List.mem_of_getElem? (i := 97) rfl)) rfl
theorem wf_X2_12 : Cond.fieldLink RX2 12 "FieldHouse$IdealWorks" "made" "LFieldHouse$Lattice;" ∈ sa_wl := sa_wl_of (sa_t1 (List.mem_of_getElem? (i := 107) rfl)) rfl
theorem wf_X5_45 : Cond.fieldLink RX5 45 "FieldHouse$IdealWorks" "made" "LFieldHouse$Lattice;" ∈ sa_wl := sa_wl_of (sa_t1 (List.mem_of_getElem? (i := 108) rfl)) rfl
theorem wf_X1_127 : Cond.fieldLink RX1 127 "FieldHouse$IdealWorks" "made" "LFieldHouse$Lattice;" ∈ sa_wl := sa_wl_of (sa_t1 (List.mem_of_getElem? (i := 109) rfl)) rfl
theorem wf_X6_282 : Cond.fieldLink RX6 282 "FieldHouse$IdealWorks" "made" "LFieldHouse$Lattice;" ∈ sa_wl := sa_wl_of (sa_t1 (List.mem_of_getElem? (i := 110) rfl)) rfl
theorem wf_X2_18 : Cond.fieldLink RX2 18 "FieldHouse$IdealWorks" "left" "[J" ∈ sa_wl := sa_wl_of (sa_t1 (List.mem_of_getElem? (i := 111) rfl)) rfl
theorem wf_X5_132 : Cond.fieldLink RX5 132 "FieldHouse$IdealWorks" "left" "[J" ∈ sa_wl := sa_wl_of (sa_t1 (List.mem_of_getElem? (i := 112) rfl)) rfl
theorem wf_X2_31 : Cond.fieldLink RX2 31 "FieldHouse$IdealWorks" "ring" "LFieldHouse$Ring;" ∈ sa_wl := sa_wl_of (sa_t1 (List.mem_of_getElem? (i := 113) rfl)) rfl
theorem wf_X2_22 : Cond.fieldLink RX2 22 "FieldHouse$IdealWorks" "copy" "[J" ∈ sa_wl := sa_wl_of (sa_t1 (List.mem_of_getElem? (i := 114) rfl)) rfl
theorem wf_X2_25 : Cond.fieldLink RX2 25 "FieldHouse$IdealWorks" "tests" "[J" ∈ sa_wl := sa_wl_of (sa_t1 (List.mem_of_getElem? (i := 115) rfl)) rfl
theorem wf_X2_28 : Cond.fieldLink RX2 28 "FieldHouse$IdealWorks" "weights" "[J" ∈ sa_wl := sa_wl_of (sa_t1 (List.mem_of_getElem? (i := 116) rfl)) rfl
theorem wl_X6_36 : Cond.classLink RX6 36 RX5 ∈ sa_wl := sa_wl_of (sa_t1 (List.mem_of_getElem? (i := 130) rfl)) rfl
theorem wj_X5 : Cond.instantiable RX5 9 ∈ sa_wl := sa_wl_of (sa_t1 (List.mem_of_getElem? (i := 131) rfl)) rfl
theorem wm_X6_38 : Cond.methodLink RX6 38 yX5_init ∈ sa_wl := sa_wl_of (sa_t1 (List.mem_of_getElem? (i := 132) rfl)) rfl
theorem wi_X5_init : Cond.instanceMethod yX5_init ∈ sa_wl := sa_wl_of (sa_t1 (List.mem_of_getElem? (i := 133) rfl)) rfl
theorem wc_X5_init : Cond.code yX5_init cX5_init 3 (none) ∈ sa_wl := sa_wl_of (sa_t1 (List.mem_of_getElem? (i := 134) rfl)) rfl
theorem wm_X5_1 : Cond.methodLink RX5 1 objectInit ∈ sa_wl := sa_wl_of (sa_t1 (List.mem_of_getElem? (i := 135) rfl)) rfl
theorem wf_X5_38 : Cond.fieldLink RX5 38 "FieldHouse$Splitting" "number" "I" ∈ sa_wl := sa_wl_of (sa_t1 (List.mem_of_getElem? (i := 136) rfl)) rfl
theorem wf_X6_205 : Cond.fieldLink RX6 205 "FieldHouse$Splitting" "number" "I" ∈ sa_wl := sa_wl_of (sa_t1 (List.mem_of_getElem? (i := 137) rfl)) rfl
theorem wf_X5_7 : Cond.fieldLink RX5 7 "FieldHouse$Splitting" "exponents" "[I" ∈ sa_wl := sa_wl_of (sa_t1 (List.mem_of_getElem? (i := 138) rfl)) rfl
theorem wf_X6_212 : Cond.fieldLink RX6 212 "FieldHouse$Splitting" "exponents" "[I" ∈ sa_wl := sa_wl_of (sa_t1 (List.mem_of_getElem? (i := 139) rfl)) rfl
theorem wf_X5_13 : Cond.fieldLink RX5 13 "FieldHouse$Splitting" "degrees" "[I" ∈ sa_wl := sa_wl_of (sa_t1 (List.mem_of_getElem? (i := 140) rfl)) rfl
theorem wf_X6_215 : Cond.fieldLink RX6 215 "FieldHouse$Splitting" "degrees" "[I" ∈ sa_wl := sa_wl_of (sa_t1 (List.mem_of_getElem? (i := 141) rfl)) rfl
theorem wf_X5_16 : Cond.fieldLink RX5 16 "FieldHouse$Splitting" "rows" "[J" ∈ sa_wl := sa_wl_of (sa_t1 (List.mem_of_getElem? (i := 142) rfl)) rfl
theorem wf_X6_218 : Cond.fieldLink RX6 218 "FieldHouse$Splitting" "rows" "[J" ∈ sa_wl := sa_wl_of (sa_t1 (List.mem_of_getElem? (i := 143) rfl)) rfl
theorem wf_X5_26 : Cond.fieldLink RX5 26 "FieldHouse$Splitting" "ring" "LFieldHouse$Ring;" ∈ sa_wl := sa_wl_of (sa_t1 (List.mem_of_getElem? (i := 144) rfl)) rfl
theorem wf_X5_30 : Cond.fieldLink RX5 30 "FieldHouse$Splitting" "works" "LFieldHouse$IdealWorks;" ∈ sa_wl := sa_wl_of (sa_t1 (List.mem_of_getElem? (i := 145) rfl)) rfl
theorem wf_X5_20 : Cond.fieldLink RX5 20 "FieldHouse$Splitting" "values" "[J" ∈ sa_wl := sa_wl_of (sa_t1 (List.mem_of_getElem? (i := 146) rfl)) rfl
theorem wf_X5_23 : Cond.fieldLink RX5 23 "FieldHouse$Splitting" "second" "[J" ∈ sa_wl := sa_wl_of (sa_t1 (List.mem_of_getElem? (i := 147) rfl)) rfl
theorem wf_X5_34 : Cond.fieldLink RX5 34 "FieldHouse$Splitting" "known" "I" ∈ sa_wl := sa_wl_of (sa_t1 (List.mem_of_getElem? (i := 148) rfl)) rfl
theorem wl_X6_45 : Cond.classLink RX6 45 RX1 ∈ sa_wl := sa_wl_of (sa_t1 (List.mem_of_getElem? (i := 168) rfl)) rfl
theorem wj_X1 : Cond.instantiable RX1 14 ∈ sa_wl := sa_wl_of (sa_t1 (List.mem_of_getElem? (i := 169) rfl)) rfl
theorem wm_X6_47 : Cond.methodLink RX6 47 yX1_init ∈ sa_wl := sa_wl_of (sa_t1 (List.mem_of_getElem? (i := 170) rfl)) rfl
theorem wi_X1_init : Cond.instanceMethod yX1_init ∈ sa_wl := sa_wl_of (sa_t1 (List.mem_of_getElem? (i := 171) rfl)) rfl
theorem wc_X1_init : Cond.code yX1_init cX1_init 3 (none) ∈ sa_wl := sa_wl_of (sa_t1 (List.mem_of_getElem? (i := 172) rfl)) rfl
theorem wm_X1_3 : Cond.methodLink RX1 3 objectInit ∈ sa_wl := sa_wl_of (sa_t1 (List.mem_of_getElem? (i := 173) rfl)) rfl
theorem wf_X1_37 : Cond.fieldLink RX1 37 "FieldHouse$Forms" "number" "I" ∈ sa_wl := sa_wl_of (sa_t1 (List.mem_of_getElem? (i := 174) rfl)) rfl
theorem wf_X6_232 : Cond.fieldLink RX6 232 "FieldHouse$Forms" "number" "I" ∈ sa_wl := sa_wl_of (sa_t1 (List.mem_of_getElem? (i := 175) rfl)) rfl
theorem wf_X1_69 : Cond.fieldLink RX1 69 "FieldHouse$Forms" "classNumber" "I" ∈ sa_wl := sa_wl_of (sa_t1 (List.mem_of_getElem? (i := 176) rfl)) rfl
theorem wf_X6_229 : Cond.fieldLink RX6 229 "FieldHouse$Forms" "classNumber" "I" ∈ sa_wl := sa_wl_of (sa_t1 (List.mem_of_getElem? (i := 177) rfl)) rfl
theorem wf_X1_11 : Cond.fieldLink RX1 11 "FieldHouse$Forms" "listed" "[I" ∈ sa_wl := sa_wl_of (sa_t1 (List.mem_of_getElem? (i := 178) rfl)) rfl
theorem wf_X6_233 : Cond.fieldLink RX6 233 "FieldHouse$Forms" "listed" "[I" ∈ sa_wl := sa_wl_of (sa_t1 (List.mem_of_getElem? (i := 179) rfl)) rfl
theorem wf_X1_15 : Cond.fieldLink RX1 15 "FieldHouse$Forms" "least" "[I" ∈ sa_wl := sa_wl_of (sa_t1 (List.mem_of_getElem? (i := 180) rfl)) rfl
theorem wf_X1_25 : Cond.fieldLink RX1 25 "FieldHouse$Forms" "ring" "LFieldHouse$Ring;" ∈ sa_wl := sa_wl_of (sa_t1 (List.mem_of_getElem? (i := 181) rfl)) rfl
theorem wf_X1_29 : Cond.fieldLink RX1 29 "FieldHouse$Forms" "works" "LFieldHouse$IdealWorks;" ∈ sa_wl := sa_wl_of (sa_t1 (List.mem_of_getElem? (i := 182) rfl)) rfl
theorem wf_X1_18 : Cond.fieldLink RX1 18 "FieldHouse$Forms" "base" "[J" ∈ sa_wl := sa_wl_of (sa_t1 (List.mem_of_getElem? (i := 183) rfl)) rfl
theorem wf_X1_22 : Cond.fieldLink RX1 22 "FieldHouse$Forms" "power" "[J" ∈ sa_wl := sa_wl_of (sa_t1 (List.mem_of_getElem? (i := 184) rfl)) rfl
theorem wf_X1_33 : Cond.fieldLink RX1 33 "FieldHouse$Forms" "ready" "Z" ∈ sa_wl := sa_wl_of (sa_t1 (List.mem_of_getElem? (i := 185) rfl)) rfl
theorem wf_X1_47 : Cond.fieldLink RX1 47 "FieldHouse$Forms" "disc" "J" ∈ sa_wl := sa_wl_of (sa_t1 (List.mem_of_getElem? (i := 186) rfl)) rfl
theorem wf_X1_59 : Cond.fieldLink RX1 59 "FieldHouse$Forms" "root" "J" ∈ sa_wl := sa_wl_of (sa_t1 (List.mem_of_getElem? (i := 187) rfl)) rfl
theorem wf_X1_74 : Cond.fieldLink RX1 74 "FieldHouse$Forms" "a" "J" ∈ sa_wl := sa_wl_of (sa_t1 (List.mem_of_getElem? (i := 188) rfl)) rfl
theorem wf_X1_77 : Cond.fieldLink RX1 77 "FieldHouse$Forms" "b" "J" ∈ sa_wl := sa_wl_of (sa_t1 (List.mem_of_getElem? (i := 189) rfl)) rfl
theorem wf_X1_80 : Cond.fieldLink RX1 80 "FieldHouse$Forms" "c" "J" ∈ sa_wl := sa_wl_of (sa_t1 (List.mem_of_getElem? (i := 190) rfl)) rfl
theorem wl_X6_52 : Cond.classLink RX6 52 RX0 ∈ sa_wl := sa_wl_of (sa_t1 (List.mem_of_getElem? (i := 220) rfl)) rfl
theorem wj_X0 : Cond.instantiable RX0 3 ∈ sa_wl := sa_wl_of (sa_t1 (List.mem_of_getElem? (i := 221) rfl)) rfl
theorem wi_X0_init : Cond.instanceMethod yX0_init ∈ sa_wl := sa_wl_of (sa_t1 (List.mem_of_getElem? (i := 223) rfl)) rfl
theorem wc_X0_init : Cond.code yX0_init cX0_init 1 (none) ∈ sa_wl := sa_wl_of (sa_t1 (List.mem_of_getElem? (i := 224) rfl)) rfl
theorem wm_X0_3 : Cond.methodLink RX0 3 objectInit ∈ sa_wl := sa_wl_of (sa_t1 (List.mem_of_getElem? (i := 225) rfl)) rfl
theorem wf_X0_30 : Cond.fieldLink RX0 30 "FieldHouse$FirstUnit" "atOne" "J" ∈ sa_wl := sa_wl_of (sa_t1 (List.mem_of_getElem? (i := 226) rfl)) rfl
theorem wf_X6_253 : Cond.fieldLink RX6 253 "FieldHouse$FirstUnit" "atOne" "J" ∈ sa_wl := sa_wl_of (sa_t1 (List.mem_of_getElem? (i := 227) rfl)) rfl
theorem wf_X0_27 : Cond.fieldLink RX0 27 "FieldHouse$FirstUnit" "atSecond" "J" ∈ sa_wl := sa_wl_of (sa_t1 (List.mem_of_getElem? (i := 228) rfl)) rfl
theorem wf_X6_256 : Cond.fieldLink RX6 256 "FieldHouse$FirstUnit" "atSecond" "J" ∈ sa_wl := sa_wl_of (sa_t1 (List.mem_of_getElem? (i := 229) rfl)) rfl
theorem wf_X0_15 : Cond.fieldLink RX0 15 "FieldHouse$FirstUnit" "sign" "J" ∈ sa_wl := sa_wl_of (sa_t1 (List.mem_of_getElem? (i := 230) rfl)) rfl
theorem wf_X6_250 : Cond.fieldLink RX6 250 "FieldHouse$FirstUnit" "sign" "J" ∈ sa_wl := sa_wl_of (sa_t1 (List.mem_of_getElem? (i := 231) rfl)) rfl
theorem wf_X6_7 : Cond.fieldLink RX6 7 "FieldHouse" "refusals" "[I" ∈ sa_wl := sa_wl_of (sa_t1 (List.mem_of_getElem? (i := 239) rfl)) rfl
theorem wf_X6_13 : Cond.fieldLink RX6 13 "FieldHouse" "coordinates" "[J" ∈ sa_wl := sa_wl_of (sa_t2 (List.mem_of_getElem? (i := 0) rfl)) rfl
theorem wf_X6_17 : Cond.fieldLink RX6 17 "FieldHouse" "rows" "[J" ∈ sa_wl := sa_wl_of (sa_t2 (List.mem_of_getElem? (i := 1) rfl)) rfl
theorem wf_X6_23 : Cond.fieldLink RX6 23 "FieldHouse" "ring" "LFieldHouse$Ring;" ∈ sa_wl := sa_wl_of (sa_t2 (List.mem_of_getElem? (i := 2) rfl)) rfl
theorem wf_X6_32 : Cond.fieldLink RX6 32 "FieldHouse" "works" "LFieldHouse$IdealWorks;" ∈ sa_wl := sa_wl_of (sa_t2 (List.mem_of_getElem? (i := 3) rfl)) rfl
theorem wf_X6_41 : Cond.fieldLink RX6 41 "FieldHouse" "splitting" "LFieldHouse$Splitting;" ∈ sa_wl := sa_wl_of (sa_t2 (List.mem_of_getElem? (i := 4) rfl)) rfl
theorem wf_X6_48 : Cond.fieldLink RX6 48 "FieldHouse" "forms" "LFieldHouse$Forms;" ∈ sa_wl := sa_wl_of (sa_t2 (List.mem_of_getElem? (i := 5) rfl)) rfl
theorem wf_X6_55 : Cond.fieldLink RX6 55 "FieldHouse" "firstUnit" "LFieldHouse$FirstUnit;" ∈ sa_wl := sa_wl_of (sa_t2 (List.mem_of_getElem? (i := 6) rfl)) rfl
theorem wf_X6_259 : Cond.fieldLink RX6 259 "FieldHouse" "elements" "I" ∈ sa_wl := sa_wl_of (sa_t2 (List.mem_of_getElem? (i := 7) rfl)) rfl
theorem wf_X6_262 : Cond.fieldLink RX6 262 "FieldHouse" "ideals" "I" ∈ sa_wl := sa_wl_of (sa_t2 (List.mem_of_getElem? (i := 8) rfl)) rfl
theorem wm_L_13 : Cond.methodLink RL 13 yX6_square ∈ sa_wl := sa_wl_of (sa_t2 (List.mem_of_getElem? (i := 30) rfl)) rfl
theorem wi_X6_square : Cond.instanceMethod yX6_square ∈ sa_wl := sa_wl_of (sa_t2 (List.mem_of_getElem? (i := 31) rfl)) rfl
theorem ws_X6_square : Cond.selects RX6 yX6_square yX6_square ∈ sa_wl := sa_wl_of (sa_t2 (List.mem_of_getElem? (i := 32) rfl)) rfl
theorem wc_X6_square : Cond.code yX6_square cX6_square 3 (some .int) ∈ sa_wl := sa_wl_of (sa_t2 (List.mem_of_getElem? (i := 33) rfl)) rfl
theorem wm_X6_59 : Cond.methodLink RX6 59 yX6_refused ∈ sa_wl := sa_wl_of (sa_t2 (List.mem_of_getElem? (i := 34) rfl)) rfl
theorem ws_X6_refused : Cond.selects RX6 yX6_refused yX6_refused ∈ sa_wl := sa_wl_of (List.mem_append_left _ (List.mem_of_getElem? (i := 0) rfl)) rfl
theorem wi_X6_refused : Cond.instanceMethod yX6_refused ∈ sa_wl := sa_wl_of (sa_t2 (List.mem_of_getElem? (i := 36) rfl)) rfl
theorem wc_X6_refused : Cond.code yX6_refused cX6_refused 2 (some .int) ∈ sa_wl := sa_wl_of (sa_t2 (List.mem_of_getElem? (i := 37) rfl)) rfl
theorem wk_X6_63 : Cond.constantLong RX6 63 (4) ∈ sa_wl := sa_wl_of (sa_t2 (List.mem_of_getElem? (i := 38) rfl)) rfl
theorem wm_X6_65 : Cond.methodLink RX6 65 yX6_isPerfectSquare ∈ sa_wl := sa_wl_of (sa_t2 (List.mem_of_getElem? (i := 39) rfl)) rfl
theorem wt_X6_isPerfectSquare : Cond.static yX6_isPerfectSquare ∈ sa_wl := sa_wl_of (sa_t2 (List.mem_of_getElem? (i := 40) rfl)) rfl
theorem wc_X6_isPerfectSquare : Cond.code yX6_isPerfectSquare cX6_isPerfectSquare 2 (some .boolean) ∈ sa_wl := sa_wl_of (sa_t2 (List.mem_of_getElem? (i := 41) rfl)) rfl
theorem wm_X6_296 : Cond.methodLink RX6 296 yX6_wholeRoot ∈ sa_wl := sa_wl_of (sa_t2 (List.mem_of_getElem? (i := 42) rfl)) rfl
theorem wt_X6_wholeRoot : Cond.static yX6_wholeRoot ∈ sa_wl := sa_wl_of (sa_t2 (List.mem_of_getElem? (i := 43) rfl)) rfl
theorem wc_X6_wholeRoot : Cond.code yX6_wholeRoot cX6_wholeRoot 4 (some .long) ∈ sa_wl := sa_wl_of (sa_t2 (List.mem_of_getElem? (i := 44) rfl)) rfl
theorem wk_X6_294 : Cond.constantLong RX6 294 (1000) ∈ sa_wl := sa_wl_of (sa_t2 (List.mem_of_getElem? (i := 45) rfl)) rfl
theorem wm_X6_69 : Cond.methodLink RX6 69 yX4_openSquare ∈ sa_wl := sa_wl_of (sa_t2 (List.mem_of_getElem? (i := 46) rfl)) rfl
theorem wi_X4_openSquare : Cond.instanceMethod yX4_openSquare ∈ sa_wl := sa_wl_of (sa_t2 (List.mem_of_getElem? (i := 47) rfl)) rfl
theorem ws_X4_openSquare : Cond.selects RX4 yX4_openSquare yX4_openSquare ∈ sa_wl := sa_wl_of (sa_t2 (List.mem_of_getElem? (i := 48) rfl)) rfl
theorem wc_X4_openSquare : Cond.code yX4_openSquare cX4_openSquare 5 (none) ∈ sa_wl := sa_wl_of (sa_t2 (List.mem_of_getElem? (i := 49) rfl)) rfl
theorem wk_X4_40 : Cond.constantLong RX4 40 (4) ∈ sa_wl := sa_wl_of (sa_t2 (List.mem_of_getElem? (i := 50) rfl)) rfl
theorem wm_X4_46 : Cond.methodLink RX4 46 yX4_startBasis ∈ sa_wl := sa_wl_of (sa_t2 (List.mem_of_getElem? (i := 51) rfl)) rfl
theorem ws_X4_startBasis : Cond.selects RX4 yX4_startBasis yX4_startBasis ∈ sa_wl := sa_wl_of (List.mem_append_left _ (List.mem_of_getElem? (i := 1) rfl)) rfl
theorem wi_X4_startBasis : Cond.instanceMethod yX4_startBasis ∈ sa_wl := sa_wl_of (sa_t2 (List.mem_of_getElem? (i := 53) rfl)) rfl
theorem wc_X4_startBasis : Cond.code yX4_startBasis cX4_startBasis 2 (none) ∈ sa_wl := sa_wl_of (sa_t2 (List.mem_of_getElem? (i := 54) rfl)) rfl
theorem wm_X4_49 : Cond.methodLink RX4 49 yX4_findSecond ∈ sa_wl := sa_wl_of (sa_t2 (List.mem_of_getElem? (i := 55) rfl)) rfl
theorem ws_X4_findSecond : Cond.selects RX4 yX4_findSecond yX4_findSecond ∈ sa_wl := sa_wl_of (List.mem_append_left _ (List.mem_of_getElem? (i := 2) rfl)) rfl
theorem wi_X4_findSecond : Cond.instanceMethod yX4_findSecond ∈ sa_wl := sa_wl_of (sa_t2 (List.mem_of_getElem? (i := 57) rfl)) rfl
theorem wc_X4_findSecond : Cond.code yX4_findSecond cX4_findSecond 5 (none) ∈ sa_wl := sa_wl_of (sa_t2 (List.mem_of_getElem? (i := 58) rfl)) rfl
theorem wk_X4_62 : Cond.constantLong RX4 62 (90) ∈ sa_wl := sa_wl_of (sa_t2 (List.mem_of_getElem? (i := 59) rfl)) rfl
theorem wm_X4_64 : Cond.methodLink RX4 64 yX4_isWhole ∈ sa_wl := sa_wl_of (sa_t2 (List.mem_of_getElem? (i := 60) rfl)) rfl
theorem ws_X4_isWhole : Cond.selects RX4 yX4_isWhole yX4_isWhole ∈ sa_wl := sa_wl_of (List.mem_append_left _ (List.mem_of_getElem? (i := 3) rfl)) rfl
theorem wi_X4_isWhole : Cond.instanceMethod yX4_isWhole ∈ sa_wl := sa_wl_of (sa_t2 (List.mem_of_getElem? (i := 62) rfl)) rfl
theorem wc_X4_isWhole : Cond.code yX4_isWhole cX4_isWhole 13 (some .boolean) ∈ sa_wl := sa_wl_of (sa_t2 (List.mem_of_getElem? (i := 63) rfl)) rfl
theorem wk_X4_72 : Cond.constantLong RX4 72 (2) ∈ sa_wl := sa_wl_of (sa_t2 (List.mem_of_getElem? (i := 64) rfl)) rfl
theorem wm_X4_74 : Cond.methodLink RX4 74 yX4_matrixByPowers ∈ sa_wl := sa_wl_of (sa_t2 (List.mem_of_getElem? (i := 65) rfl)) rfl
theorem ws_X4_matrixByPowers : Cond.selects RX4 yX4_matrixByPowers yX4_matrixByPowers ∈ sa_wl := sa_wl_of (List.mem_append_left _ (List.mem_of_getElem? (i := 4) rfl)) rfl
theorem wi_X4_matrixByPowers : Cond.instanceMethod yX4_matrixByPowers ∈ sa_wl := sa_wl_of (sa_t2 (List.mem_of_getElem? (i := 67) rfl)) rfl
theorem wc_X4_matrixByPowers : Cond.code yX4_matrixByPowers cX4_matrixByPowers 13 (none) ∈ sa_wl := sa_wl_of (sa_t2 (List.mem_of_getElem? (i := 68) rfl)) rfl
theorem wm_X4_78 : Cond.methodLink RX4 78 yX4_matrixNorm ∈ sa_wl := sa_wl_of (sa_t2 (List.mem_of_getElem? (i := 69) rfl)) rfl
theorem wi_X4_matrixNorm : Cond.instanceMethod yX4_matrixNorm ∈ sa_wl := sa_wl_of (sa_t2 (List.mem_of_getElem? (i := 70) rfl)) rfl
theorem ws_X4_matrixNorm : Cond.selects RX4 yX4_matrixNorm yX4_matrixNorm ∈ sa_wl := sa_wl_of (sa_t2 (List.mem_of_getElem? (i := 71) rfl)) rfl
theorem wc_X4_matrixNorm : Cond.code yX4_matrixNorm cX4_matrixNorm 1 (some .long) ∈ sa_wl := sa_wl_of (sa_t2 (List.mem_of_getElem? (i := 72) rfl)) rfl
theorem wm_X4_107 : Cond.methodLink RX4 107 yX4_minor ∈ sa_wl := sa_wl_of (sa_t2 (List.mem_of_getElem? (i := 73) rfl)) rfl
theorem ws_X4_minor : Cond.selects RX4 yX4_minor yX4_minor ∈ sa_wl := sa_wl_of (List.mem_append_left _ (List.mem_of_getElem? (i := 5) rfl)) rfl
theorem wi_X4_minor : Cond.instanceMethod yX4_minor ∈ sa_wl := sa_wl_of (sa_t2 (List.mem_of_getElem? (i := 75) rfl)) rfl
theorem wc_X4_minor : Cond.code yX4_minor cX4_minor 5 (some .long) ∈ sa_wl := sa_wl_of (sa_t2 (List.mem_of_getElem? (i := 76) rfl)) rfl
theorem wm_X4_82 : Cond.methodLink RX4 82 yX4_matrixMiddle ∈ sa_wl := sa_wl_of (sa_t2 (List.mem_of_getElem? (i := 77) rfl)) rfl
theorem wi_X4_matrixMiddle : Cond.instanceMethod yX4_matrixMiddle ∈ sa_wl := sa_wl_of (sa_t2 (List.mem_of_getElem? (i := 78) rfl)) rfl
theorem ws_X4_matrixMiddle : Cond.selects RX4 yX4_matrixMiddle yX4_matrixMiddle ∈ sa_wl := sa_wl_of (sa_t2 (List.mem_of_getElem? (i := 79) rfl)) rfl
theorem wc_X4_matrixMiddle : Cond.code yX4_matrixMiddle cX4_matrixMiddle 1 (some .long) ∈ sa_wl := sa_wl_of (sa_t2 (List.mem_of_getElem? (i := 80) rfl)) rfl
theorem wm_X4_111 : Cond.methodLink RX4 111 yX4_matrixTrace ∈ sa_wl := sa_wl_of (sa_t2 (List.mem_of_getElem? (i := 81) rfl)) rfl
theorem wi_X4_matrixTrace : Cond.instanceMethod yX4_matrixTrace ∈ sa_wl := sa_wl_of (sa_t2 (List.mem_of_getElem? (i := 82) rfl)) rfl
theorem ws_X4_matrixTrace : Cond.selects RX4 yX4_matrixTrace yX4_matrixTrace ∈ sa_wl := sa_wl_of (sa_t2 (List.mem_of_getElem? (i := 83) rfl)) rfl
theorem wc_X4_matrixTrace : Cond.code yX4_matrixTrace cX4_matrixTrace 1 (some .long) ∈ sa_wl := sa_wl_of (sa_t2 (List.mem_of_getElem? (i := 84) rfl)) rfl
theorem wm_X4_52 : Cond.methodLink RX4 52 yX4_finishRing ∈ sa_wl := sa_wl_of (sa_t2 (List.mem_of_getElem? (i := 85) rfl)) rfl
theorem ws_X4_finishRing : Cond.selects RX4 yX4_finishRing yX4_finishRing ∈ sa_wl := sa_wl_of (List.mem_append_left _ (List.mem_of_getElem? (i := 6) rfl)) rfl
theorem wi_X4_finishRing : Cond.instanceMethod yX4_finishRing ∈ sa_wl := sa_wl_of (sa_t2 (List.mem_of_getElem? (i := 87) rfl)) rfl
theorem wc_X4_finishRing : Cond.code yX4_finishRing cX4_finishRing 3 (none) ∈ sa_wl := sa_wl_of (sa_t2 (List.mem_of_getElem? (i := 88) rfl)) rfl
theorem wt_X6_part : Cond.static yX6_part ∈ sa_wl := sa_wl_of (sa_t2 (List.mem_of_getElem? (i := 90) rfl)) rfl
theorem wc_X6_part : Cond.code yX6_part cX6_part 4 (some .long) ∈ sa_wl := sa_wl_of (sa_t2 (List.mem_of_getElem? (i := 91) rfl)) rfl
theorem wm_X4_95 : Cond.methodLink RX4 95 yX4_multiplyMembers ∈ sa_wl := sa_wl_of (sa_t2 (List.mem_of_getElem? (i := 92) rfl)) rfl
theorem ws_X4_multiplyMembers : Cond.selects RX4 yX4_multiplyMembers yX4_multiplyMembers ∈ sa_wl := sa_wl_of (List.mem_append_left _ (List.mem_of_getElem? (i := 7) rfl)) rfl
theorem wi_X4_multiplyMembers : Cond.instanceMethod yX4_multiplyMembers ∈ sa_wl := sa_wl_of (sa_t2 (List.mem_of_getElem? (i := 94) rfl)) rfl
theorem wc_X4_multiplyMembers : Cond.code yX4_multiplyMembers cX4_multiplyMembers 5 (none) ∈ sa_wl := sa_wl_of (sa_t2 (List.mem_of_getElem? (i := 95) rfl)) rfl
theorem wm_X4_99 : Cond.methodLink RX4 99 yX4_tellByBasis ∈ sa_wl := sa_wl_of (sa_t2 (List.mem_of_getElem? (i := 96) rfl)) rfl
theorem ws_X4_tellByBasis : Cond.selects RX4 yX4_tellByBasis yX4_tellByBasis ∈ sa_wl := sa_wl_of (List.mem_append_left _ (List.mem_of_getElem? (i := 8) rfl)) rfl
theorem wi_X4_tellByBasis : Cond.instanceMethod yX4_tellByBasis ∈ sa_wl := sa_wl_of (sa_t2 (List.mem_of_getElem? (i := 98) rfl)) rfl
theorem wc_X4_tellByBasis : Cond.code yX4_tellByBasis cX4_tellByBasis 10 (none) ∈ sa_wl := sa_wl_of (sa_t2 (List.mem_of_getElem? (i := 99) rfl)) rfl
theorem wm_X6_73 : Cond.methodLink RX6 73 yX6_emptyHouse ∈ sa_wl := sa_wl_of (sa_t2 (List.mem_of_getElem? (i := 100) rfl)) rfl
theorem ws_X6_emptyHouse : Cond.selects RX6 yX6_emptyHouse yX6_emptyHouse ∈ sa_wl := sa_wl_of (List.mem_append_left _ (List.mem_of_getElem? (i := 9) rfl)) rfl
theorem wi_X6_emptyHouse : Cond.instanceMethod yX6_emptyHouse ∈ sa_wl := sa_wl_of (sa_t2 (List.mem_of_getElem? (i := 102) rfl)) rfl
theorem wc_X6_emptyHouse : Cond.code yX6_emptyHouse cX6_emptyHouse 1 (some .int) ∈ sa_wl := sa_wl_of (sa_t2 (List.mem_of_getElem? (i := 103) rfl)) rfl
theorem wm_X6_268 : Cond.methodLink RX6 268 yX5_forget ∈ sa_wl := sa_wl_of (sa_t2 (List.mem_of_getElem? (i := 104) rfl)) rfl
theorem wi_X5_forget : Cond.instanceMethod yX5_forget ∈ sa_wl := sa_wl_of (sa_t2 (List.mem_of_getElem? (i := 105) rfl)) rfl
theorem ws_X5_forget : Cond.selects RX5 yX5_forget yX5_forget ∈ sa_wl := sa_wl_of (sa_t2 (List.mem_of_getElem? (i := 106) rfl)) rfl
theorem wc_X5_forget : Cond.code yX5_forget cX5_forget 1 (none) ∈ sa_wl := sa_wl_of (sa_t2 (List.mem_of_getElem? (i := 107) rfl)) rfl
theorem wm_X6_271 : Cond.methodLink RX6 271 yX1_forget ∈ sa_wl := sa_wl_of (sa_t2 (List.mem_of_getElem? (i := 108) rfl)) rfl
theorem wi_X1_forget : Cond.instanceMethod yX1_forget ∈ sa_wl := sa_wl_of (sa_t2 (List.mem_of_getElem? (i := 109) rfl)) rfl
theorem ws_X1_forget : Cond.selects RX1 yX1_forget yX1_forget ∈ sa_wl := sa_wl_of (sa_t2 (List.mem_of_getElem? (i := 110) rfl)) rfl
theorem wc_X1_forget : Cond.code yX1_forget cX1_forget 1 (none) ∈ sa_wl := sa_wl_of (sa_t2 (List.mem_of_getElem? (i := 111) rfl)) rfl
theorem wm_L_18 : Cond.methodLink RL 18 yX6_cube ∈ sa_wl := sa_wl_of (sa_t2 (List.mem_of_getElem? (i := 112) rfl)) rfl
theorem wi_X6_cube : Cond.instanceMethod yX6_cube ∈ sa_wl := sa_wl_of (sa_t2 (List.mem_of_getElem? (i := 113) rfl)) rfl
theorem ws_X6_cube : Cond.selects RX6 yX6_cube yX6_cube ∈ sa_wl := sa_wl_of (sa_t2 (List.mem_of_getElem? (i := 114) rfl)) rfl
theorem wc_X6_cube : Cond.code yX6_cube cX6_cube 4 (some .int) ∈ sa_wl := sa_wl_of (sa_t2 (List.mem_of_getElem? (i := 115) rfl)) rfl
theorem wm_X6_77 : Cond.methodLink RX6 77 yX6_hasWholeRoot ∈ sa_wl := sa_wl_of (sa_t2 (List.mem_of_getElem? (i := 116) rfl)) rfl
theorem wt_X6_hasWholeRoot : Cond.static yX6_hasWholeRoot ∈ sa_wl := sa_wl_of (sa_t2 (List.mem_of_getElem? (i := 117) rfl)) rfl
theorem wc_X6_hasWholeRoot : Cond.code yX6_hasWholeRoot cX6_hasWholeRoot 4 (some .boolean) ∈ sa_wl := sa_wl_of (sa_t2 (List.mem_of_getElem? (i := 118) rfl)) rfl
theorem wm_X6_81 : Cond.methodLink RX6 81 yX4_openCube ∈ sa_wl := sa_wl_of (sa_t2 (List.mem_of_getElem? (i := 119) rfl)) rfl
theorem wi_X4_openCube : Cond.instanceMethod yX4_openCube ∈ sa_wl := sa_wl_of (sa_t2 (List.mem_of_getElem? (i := 120) rfl)) rfl
theorem ws_X4_openCube : Cond.selects RX4 yX4_openCube yX4_openCube ∈ sa_wl := sa_wl_of (sa_t2 (List.mem_of_getElem? (i := 121) rfl)) rfl
theorem wc_X4_openCube : Cond.code yX4_openCube cX4_openCube 7 (none) ∈ sa_wl := sa_wl_of (sa_t2 (List.mem_of_getElem? (i := 122) rfl)) rfl
theorem wk_X4_55 : Cond.constantLong RX4 55 (27) ∈ sa_wl := sa_wl_of (sa_t2 (List.mem_of_getElem? (i := 123) rfl)) rfl
theorem wk_X4_57 : Cond.constantLong RX4 57 (18) ∈ sa_wl := sa_wl_of (sa_t2 (List.mem_of_getElem? (i := 124) rfl)) rfl
theorem wm_X4_59 : Cond.methodLink RX4 59 yX4_findThird ∈ sa_wl := sa_wl_of (sa_t2 (List.mem_of_getElem? (i := 125) rfl)) rfl
theorem ws_X4_findThird : Cond.selects RX4 yX4_findThird yX4_findThird ∈ sa_wl := sa_wl_of (List.mem_append_left _ (List.mem_of_getElem? (i := 10) rfl)) rfl
theorem wi_X4_findThird : Cond.instanceMethod yX4_findThird ∈ sa_wl := sa_wl_of (sa_t2 (List.mem_of_getElem? (i := 127) rfl)) rfl
theorem wc_X4_findThird : Cond.code yX4_findThird cX4_findThird 5 (none) ∈ sa_wl := sa_wl_of (sa_t2 (List.mem_of_getElem? (i := 128) rfl)) rfl
theorem wm_X4_68 : Cond.methodLink RX4 68 yX4_findThirdBy ∈ sa_wl := sa_wl_of (sa_t2 (List.mem_of_getElem? (i := 129) rfl)) rfl
theorem ws_X4_findThirdBy : Cond.selects RX4 yX4_findThirdBy yX4_findThirdBy ∈ sa_wl := sa_wl_of (List.mem_append_left _ (List.mem_of_getElem? (i := 11) rfl)) rfl
theorem wi_X4_findThirdBy : Cond.instanceMethod yX4_findThirdBy ∈ sa_wl := sa_wl_of (sa_t2 (List.mem_of_getElem? (i := 131) rfl)) rfl
theorem wc_X4_findThirdBy : Cond.code yX4_findThirdBy cX4_findThirdBy 9 (some .boolean) ∈ sa_wl := sa_wl_of (sa_t2 (List.mem_of_getElem? (i := 132) rfl)) rfl
theorem wm_L_23 : Cond.methodLink RL 23 yX6_field ∈ sa_wl := sa_wl_of (sa_t2 (List.mem_of_getElem? (i := 133) rfl)) rfl
theorem wi_X6_field : Cond.instanceMethod yX6_field ∈ sa_wl := sa_wl_of (sa_t2 (List.mem_of_getElem? (i := 134) rfl)) rfl
theorem ws_X6_field : Cond.selects RX6 yX6_field yX6_field ∈ sa_wl := sa_wl_of (sa_t2 (List.mem_of_getElem? (i := 135) rfl)) rfl
theorem wc_X6_field : Cond.code yX6_field cX6_field 2 (some .int) ∈ sa_wl := sa_wl_of (sa_t2 (List.mem_of_getElem? (i := 136) rfl)) rfl
theorem wm_X6_93 : Cond.methodLink RX6 93 yX4_realRoots ∈ sa_wl := sa_wl_of (sa_t2 (List.mem_of_getElem? (i := 137) rfl)) rfl
theorem wi_X4_realRoots : Cond.instanceMethod yX4_realRoots ∈ sa_wl := sa_wl_of (sa_t2 (List.mem_of_getElem? (i := 138) rfl)) rfl
theorem ws_X4_realRoots : Cond.selects RX4 yX4_realRoots yX4_realRoots ∈ sa_wl := sa_wl_of (sa_t2 (List.mem_of_getElem? (i := 139) rfl)) rfl
theorem wc_X4_realRoots : Cond.code yX4_realRoots cX4_realRoots 1 (some .int) ∈ sa_wl := sa_wl_of (sa_t2 (List.mem_of_getElem? (i := 140) rfl)) rfl
theorem wm_L_28 : Cond.methodLink RL 28 yX6_disc ∈ sa_wl := sa_wl_of (sa_t2 (List.mem_of_getElem? (i := 141) rfl)) rfl
theorem wi_X6_disc : Cond.instanceMethod yX6_disc ∈ sa_wl := sa_wl_of (sa_t2 (List.mem_of_getElem? (i := 142) rfl)) rfl
theorem ws_X6_disc : Cond.selects RX6 yX6_disc yX6_disc ∈ sa_wl := sa_wl_of (sa_t2 (List.mem_of_getElem? (i := 143) rfl)) rfl
theorem wc_X6_disc : Cond.code yX6_disc cX6_disc 2 (some .long) ∈ sa_wl := sa_wl_of (sa_t2 (List.mem_of_getElem? (i := 144) rfl)) rfl
theorem wm_X6_96 : Cond.methodLink RX6 96 yX6_toldLong ∈ sa_wl := sa_wl_of (sa_t2 (List.mem_of_getElem? (i := 145) rfl)) rfl
theorem ws_X6_toldLong : Cond.selects RX6 yX6_toldLong yX6_toldLong ∈ sa_wl := sa_wl_of (List.mem_append_left _ (List.mem_of_getElem? (i := 12) rfl)) rfl
theorem wi_X6_toldLong : Cond.instanceMethod yX6_toldLong ∈ sa_wl := sa_wl_of (sa_t2 (List.mem_of_getElem? (i := 147) rfl)) rfl
theorem wc_X6_toldLong : Cond.code yX6_toldLong cX6_toldLong 2 (some .long) ∈ sa_wl := sa_wl_of (sa_t2 (List.mem_of_getElem? (i := 148) rfl)) rfl
theorem wk_X6_266 : Cond.constantLong RX6 266 (4000000000000000000) ∈ sa_wl := sa_wl_of (sa_t2 (List.mem_of_getElem? (i := 149) rfl)) rfl
theorem wm_L_33 : Cond.methodLink RL 33 yX6_basis ∈ sa_wl := sa_wl_of (sa_t2 (List.mem_of_getElem? (i := 150) rfl)) rfl
theorem wi_X6_basis : Cond.instanceMethod yX6_basis ∈ sa_wl := sa_wl_of (sa_t2 (List.mem_of_getElem? (i := 151) rfl)) rfl
theorem ws_X6_basis : Cond.selects RX6 yX6_basis yX6_basis ∈ sa_wl := sa_wl_of (sa_t2 (List.mem_of_getElem? (i := 152) rfl)) rfl
theorem wc_X6_basis : Cond.code yX6_basis cX6_basis 3 (some .int) ∈ sa_wl := sa_wl_of (sa_t2 (List.mem_of_getElem? (i := 153) rfl)) rfl
theorem wm_X6_106 : Cond.methodLink RX6 106 yX6_isPlace ∈ sa_wl := sa_wl_of (sa_t2 (List.mem_of_getElem? (i := 154) rfl)) rfl
theorem ws_X6_isPlace : Cond.selects RX6 yX6_isPlace yX6_isPlace ∈ sa_wl := sa_wl_of (List.mem_append_left _ (List.mem_of_getElem? (i := 13) rfl)) rfl
theorem wi_X6_isPlace : Cond.instanceMethod yX6_isPlace ∈ sa_wl := sa_wl_of (sa_t2 (List.mem_of_getElem? (i := 156) rfl)) rfl
theorem wc_X6_isPlace : Cond.code yX6_isPlace cX6_isPlace 2 (some .boolean) ∈ sa_wl := sa_wl_of (sa_t2 (List.mem_of_getElem? (i := 157) rfl)) rfl
theorem wm_L_37 : Cond.methodLink RL 37 yX6_table ∈ sa_wl := sa_wl_of (sa_t2 (List.mem_of_getElem? (i := 158) rfl)) rfl
theorem wi_X6_table : Cond.instanceMethod yX6_table ∈ sa_wl := sa_wl_of (sa_t2 (List.mem_of_getElem? (i := 159) rfl)) rfl
theorem ws_X6_table : Cond.selects RX6 yX6_table yX6_table ∈ sa_wl := sa_wl_of (sa_t2 (List.mem_of_getElem? (i := 160) rfl)) rfl
theorem wc_X6_table : Cond.code yX6_table cX6_table 4 (some .int) ∈ sa_wl := sa_wl_of (sa_t2 (List.mem_of_getElem? (i := 161) rfl)) rfl
theorem wm_X6_116 : Cond.methodLink RX6 116 yX6_told ∈ sa_wl := sa_wl_of (sa_t2 (List.mem_of_getElem? (i := 162) rfl)) rfl
theorem ws_X6_told : Cond.selects RX6 yX6_told yX6_told ∈ sa_wl := sa_wl_of (List.mem_append_left _ (List.mem_of_getElem? (i := 14) rfl)) rfl
theorem wi_X6_told : Cond.instanceMethod yX6_told ∈ sa_wl := sa_wl_of (sa_t2 (List.mem_of_getElem? (i := 164) rfl)) rfl
theorem wc_X6_told : Cond.code yX6_told cX6_told 2 (some .int) ∈ sa_wl := sa_wl_of (sa_t2 (List.mem_of_getElem? (i := 165) rfl)) rfl
theorem wk_X6_265 : Cond.constant RX6 265 (2000000000) ∈ sa_wl := sa_wl_of (sa_t2 (List.mem_of_getElem? (i := 166) rfl)) rfl
theorem wm_L_41 : Cond.methodLink RL 41 yX6_element ∈ sa_wl := sa_wl_of (sa_t2 (List.mem_of_getElem? (i := 167) rfl)) rfl
theorem wi_X6_element : Cond.instanceMethod yX6_element ∈ sa_wl := sa_wl_of (sa_t2 (List.mem_of_getElem? (i := 168) rfl)) rfl
theorem ws_X6_element : Cond.selects RX6 yX6_element yX6_element ∈ sa_wl := sa_wl_of (sa_t2 (List.mem_of_getElem? (i := 169) rfl)) rfl
theorem wc_X6_element : Cond.code yX6_element cX6_element 4 (some .int) ∈ sa_wl := sa_wl_of (sa_t2 (List.mem_of_getElem? (i := 170) rfl)) rfl
theorem wm_X6_125 : Cond.methodLink RX6 125 yX6_keepElement ∈ sa_wl := sa_wl_of (sa_t2 (List.mem_of_getElem? (i := 171) rfl)) rfl
theorem ws_X6_keepElement : Cond.selects RX6 yX6_keepElement yX6_keepElement ∈ sa_wl := sa_wl_of (List.mem_append_left _ (List.mem_of_getElem? (i := 15) rfl)) rfl
theorem wi_X6_keepElement : Cond.instanceMethod yX6_keepElement ∈ sa_wl := sa_wl_of (sa_t2 (List.mem_of_getElem? (i := 173) rfl)) rfl
theorem wc_X6_keepElement : Cond.code yX6_keepElement cX6_keepElement 2 (some .int) ∈ sa_wl := sa_wl_of (sa_t2 (List.mem_of_getElem? (i := 174) rfl)) rfl
theorem wk_X6_272 : Cond.constantLong RX6 272 (-300) ∈ sa_wl := sa_wl_of (sa_t2 (List.mem_of_getElem? (i := 175) rfl)) rfl
theorem wk_X6_274 : Cond.constantLong RX6 274 (300) ∈ sa_wl := sa_wl_of (sa_t2 (List.mem_of_getElem? (i := 176) rfl)) rfl
theorem wm_X6_276 : Cond.methodLink RX6 276 arraycopyName ∈ sa_wl := sa_wl_of (sa_t2 (List.mem_of_getElem? (i := 177) rfl)) rfl
theorem wt_arraycopy : Cond.static arraycopyName ∈ sa_wl := sa_wl_of (sa_t2 (List.mem_of_getElem? (i := 178) rfl)) rfl
theorem wnat_arraycopy : Cond.native arraycopyName ∈ sa_wl := sa_wl_of (sa_t2 (List.mem_of_getElem? (i := 179) rfl)) rfl
theorem wm_L_45 : Cond.methodLink RL 45 yX6_make ∈ sa_wl := sa_wl_of (sa_t2 (List.mem_of_getElem? (i := 180) rfl)) rfl
theorem wi_X6_make : Cond.instanceMethod yX6_make ∈ sa_wl := sa_wl_of (sa_t2 (List.mem_of_getElem? (i := 181) rfl)) rfl
theorem ws_X6_make : Cond.selects RX6 yX6_make yX6_make ∈ sa_wl := sa_wl_of (sa_t2 (List.mem_of_getElem? (i := 182) rfl)) rfl
theorem wc_X6_make : Cond.code yX6_make cX6_make 4 (some .int) ∈ sa_wl := sa_wl_of (sa_t2 (List.mem_of_getElem? (i := 183) rfl)) rfl
theorem wm_X6_128 : Cond.methodLink RX6 128 yX6_isElement ∈ sa_wl := sa_wl_of (sa_t2 (List.mem_of_getElem? (i := 184) rfl)) rfl
theorem ws_X6_isElement : Cond.selects RX6 yX6_isElement yX6_isElement ∈ sa_wl := sa_wl_of (List.mem_append_left _ (List.mem_of_getElem? (i := 16) rfl)) rfl
theorem wi_X6_isElement : Cond.instanceMethod yX6_isElement ∈ sa_wl := sa_wl_of (sa_t2 (List.mem_of_getElem? (i := 186) rfl)) rfl
theorem wc_X6_isElement : Cond.code yX6_isElement cX6_isElement 2 (some .boolean) ∈ sa_wl := sa_wl_of (sa_t2 (List.mem_of_getElem? (i := 187) rfl)) rfl
theorem wm_X6_131 : Cond.methodLink RX6 131 yX4_divide ∈ sa_wl := sa_wl_of (sa_t2 (List.mem_of_getElem? (i := 188) rfl)) rfl
theorem wi_X4_divide : Cond.instanceMethod yX4_divide ∈ sa_wl := sa_wl_of (sa_t2 (List.mem_of_getElem? (i := 189) rfl)) rfl
theorem ws_X4_divide : Cond.selects RX4 yX4_divide yX4_divide ∈ sa_wl := sa_wl_of (sa_t2 (List.mem_of_getElem? (i := 190) rfl)) rfl
theorem wc_X4_divide : Cond.code yX4_divide cX4_divide 9 (some .boolean) ∈ sa_wl := sa_wl_of (sa_t2 (List.mem_of_getElem? (i := 191) rfl)) rfl
theorem wm_X4_103 : Cond.methodLink RX4 103 yX4_matrixOf ∈ sa_wl := sa_wl_of (sa_t2 (List.mem_of_getElem? (i := 192) rfl)) rfl
theorem wi_X4_matrixOf : Cond.instanceMethod yX4_matrixOf ∈ sa_wl := sa_wl_of (sa_t2 (List.mem_of_getElem? (i := 193) rfl)) rfl
theorem ws_X4_matrixOf : Cond.selects RX4 yX4_matrixOf yX4_matrixOf ∈ sa_wl := sa_wl_of (sa_t2 (List.mem_of_getElem? (i := 194) rfl)) rfl
theorem wc_X4_matrixOf : Cond.code yX4_matrixOf cX4_matrixOf 8 (none) ∈ sa_wl := sa_wl_of (sa_t2 (List.mem_of_getElem? (i := 195) rfl)) rfl
theorem wm_X6_135 : Cond.methodLink RX6 135 yX4_multiply ∈ sa_wl := sa_wl_of (sa_t2 (List.mem_of_getElem? (i := 196) rfl)) rfl
theorem wi_X4_multiply : Cond.instanceMethod yX4_multiply ∈ sa_wl := sa_wl_of (sa_t2 (List.mem_of_getElem? (i := 197) rfl)) rfl
theorem ws_X4_multiply : Cond.selects RX4 yX4_multiply yX4_multiply ∈ sa_wl := sa_wl_of (sa_t2 (List.mem_of_getElem? (i := 198) rfl)) rfl
theorem wc_X4_multiply : Cond.code yX4_multiply cX4_multiply 10 (none) ∈ sa_wl := sa_wl_of (sa_t2 (List.mem_of_getElem? (i := 199) rfl)) rfl
theorem wk_X6_139 : Cond.constantLong RX6 139 (-1) ∈ sa_wl := sa_wl_of (sa_t2 (List.mem_of_getElem? (i := 200) rfl)) rfl
theorem wm_X6_141 : Cond.methodLink RX6 141 yX4_addTimes ∈ sa_wl := sa_wl_of (sa_t2 (List.mem_of_getElem? (i := 201) rfl)) rfl
theorem wi_X4_addTimes : Cond.instanceMethod yX4_addTimes ∈ sa_wl := sa_wl_of (sa_t2 (List.mem_of_getElem? (i := 202) rfl)) rfl
theorem ws_X4_addTimes : Cond.selects RX4 yX4_addTimes yX4_addTimes ∈ sa_wl := sa_wl_of (sa_t2 (List.mem_of_getElem? (i := 203) rfl)) rfl
theorem wc_X4_addTimes : Cond.code yX4_addTimes cX4_addTimes 7 (none) ∈ sa_wl := sa_wl_of (sa_t2 (List.mem_of_getElem? (i := 204) rfl)) rfl
theorem wm_L_49 : Cond.methodLink RL 49 yX6_coordinate ∈ sa_wl := sa_wl_of (sa_t2 (List.mem_of_getElem? (i := 205) rfl)) rfl
theorem wi_X6_coordinate : Cond.instanceMethod yX6_coordinate ∈ sa_wl := sa_wl_of (sa_t2 (List.mem_of_getElem? (i := 206) rfl)) rfl
theorem ws_X6_coordinate : Cond.selects RX6 yX6_coordinate yX6_coordinate ∈ sa_wl := sa_wl_of (sa_t2 (List.mem_of_getElem? (i := 207) rfl)) rfl
theorem wc_X6_coordinate : Cond.code yX6_coordinate cX6_coordinate 3 (some .int) ∈ sa_wl := sa_wl_of (sa_t2 (List.mem_of_getElem? (i := 208) rfl)) rfl
theorem wm_L_53 : Cond.methodLink RL 53 yX6_norm ∈ sa_wl := sa_wl_of (sa_t2 (List.mem_of_getElem? (i := 209) rfl)) rfl
theorem wi_X6_norm : Cond.instanceMethod yX6_norm ∈ sa_wl := sa_wl_of (sa_t2 (List.mem_of_getElem? (i := 210) rfl)) rfl
theorem ws_X6_norm : Cond.selects RX6 yX6_norm yX6_norm ∈ sa_wl := sa_wl_of (sa_t2 (List.mem_of_getElem? (i := 211) rfl)) rfl
theorem wc_X6_norm : Cond.code yX6_norm cX6_norm 3 (some .long) ∈ sa_wl := sa_wl_of (sa_t2 (List.mem_of_getElem? (i := 212) rfl)) rfl
theorem wm_X6_145 : Cond.methodLink RX6 145 yX4_matrixOf ∈ sa_wl := sa_wl_of (sa_t2 (List.mem_of_getElem? (i := 213) rfl)) rfl
theorem wm_X6_149 : Cond.methodLink RX6 149 yX4_matrixNorm ∈ sa_wl := sa_wl_of (sa_t2 (List.mem_of_getElem? (i := 214) rfl)) rfl
theorem wm_X6_153 : Cond.methodLink RX6 153 yX4_matrixTrace ∈ sa_wl := sa_wl_of (sa_t2 (List.mem_of_getElem? (i := 215) rfl)) rfl
theorem wm_X6_156 : Cond.methodLink RX6 156 yX4_matrixMiddle ∈ sa_wl := sa_wl_of (sa_t2 (List.mem_of_getElem? (i := 216) rfl)) rfl
theorem wm_L_58 : Cond.methodLink RL 58 yX6_unit ∈ sa_wl := sa_wl_of (sa_t2 (List.mem_of_getElem? (i := 217) rfl)) rfl
theorem wi_X6_unit : Cond.instanceMethod yX6_unit ∈ sa_wl := sa_wl_of (sa_t2 (List.mem_of_getElem? (i := 218) rfl)) rfl
theorem ws_X6_unit : Cond.selects RX6 yX6_unit yX6_unit ∈ sa_wl := sa_wl_of (sa_t2 (List.mem_of_getElem? (i := 219) rfl)) rfl
theorem wc_X6_unit : Cond.code yX6_unit cX6_unit 4 (some .int) ∈ sa_wl := sa_wl_of (sa_t2 (List.mem_of_getElem? (i := 220) rfl)) rfl
theorem wm_X6_159 : Cond.methodLink RX6 159 yX4_hasPowerOne ∈ sa_wl := sa_wl_of (sa_t2 (List.mem_of_getElem? (i := 221) rfl)) rfl
theorem wi_X4_hasPowerOne : Cond.instanceMethod yX4_hasPowerOne ∈ sa_wl := sa_wl_of (sa_t2 (List.mem_of_getElem? (i := 222) rfl)) rfl
theorem ws_X4_hasPowerOne : Cond.selects RX4 yX4_hasPowerOne yX4_hasPowerOne ∈ sa_wl := sa_wl_of (sa_t2 (List.mem_of_getElem? (i := 223) rfl)) rfl
theorem wc_X4_hasPowerOne : Cond.code yX4_hasPowerOne cX4_hasPowerOne 5 (some .boolean) ∈ sa_wl := sa_wl_of (sa_t2 (List.mem_of_getElem? (i := 224) rfl)) rfl
theorem wm_X4_114 : Cond.methodLink RX4 114 yX4_multiply ∈ sa_wl := sa_wl_of (sa_t2 (List.mem_of_getElem? (i := 225) rfl)) rfl
theorem wm_X4_118 : Cond.methodLink RX4 118 yJ9_abs_067f4 ∈ sa_wl := sa_wl_of (sa_t2 (List.mem_of_getElem? (i := 226) rfl)) rfl
theorem wt_J9_abs_067f4 : Cond.static yJ9_abs_067f4 ∈ sa_wl := sa_wl_of (sa_t2 (List.mem_of_getElem? (i := 227) rfl)) rfl
theorem wc_J9_abs_067f4 : Cond.code yJ9_abs_067f4 cJ9_abs_067f4 2 (some .long) ∈ sa_wl := sa_wl_of (sa_t2 (List.mem_of_getElem? (i := 228) rfl)) rfl
theorem wk_X4_124 : Cond.constantLong RX4 124 (1000000) ∈ sa_wl := sa_wl_of (sa_t2 (List.mem_of_getElem? (i := 229) rfl)) rfl
theorem wm_L_62 : Cond.methodLink RL 62 yX6_ideal ∈ sa_wl := sa_wl_of (sa_t2 (List.mem_of_getElem? (i := 230) rfl)) rfl
theorem wi_X6_ideal : Cond.instanceMethod yX6_ideal ∈ sa_wl := sa_wl_of (sa_t2 (List.mem_of_getElem? (i := 231) rfl)) rfl
theorem ws_X6_ideal : Cond.selects RX6 yX6_ideal yX6_ideal ∈ sa_wl := sa_wl_of (sa_t2 (List.mem_of_getElem? (i := 232) rfl)) rfl
theorem wc_X6_ideal : Cond.code yX6_ideal cX6_ideal 3 (some .int) ∈ sa_wl := sa_wl_of (sa_t2 (List.mem_of_getElem? (i := 233) rfl)) rfl
theorem wk_X6_163 : Cond.constantLong RX6 163 (1000000) ∈ sa_wl := sa_wl_of (sa_t2 (List.mem_of_getElem? (i := 234) rfl)) rfl
theorem wm_X6_165 : Cond.methodLink RX6 165 yX2_makeLeast ∈ sa_wl := sa_wl_of (sa_t2 (List.mem_of_getElem? (i := 235) rfl)) rfl
theorem wi_X2_makeLeast : Cond.instanceMethod yX2_makeLeast ∈ sa_wl := sa_wl_of (sa_t2 (List.mem_of_getElem? (i := 236) rfl)) rfl
theorem ws_X2_makeLeast : Cond.selects RX2 yX2_makeLeast yX2_makeLeast ∈ sa_wl := sa_wl_of (sa_t2 (List.mem_of_getElem? (i := 237) rfl)) rfl
theorem wc_X2_makeLeast : Cond.code yX2_makeLeast cX2_makeLeast 6 (none) ∈ sa_wl := sa_wl_of (sa_t2 (List.mem_of_getElem? (i := 238) rfl)) rfl
theorem wm_X2_45 : Cond.methodLink RX2 45 yX3_startMultiples ∈ sa_wl := sa_wl_of (sa_t2 (List.mem_of_getElem? (i := 239) rfl)) rfl
theorem wi_X3_startMultiples : Cond.instanceMethod yX3_startMultiples ∈ sa_wl := sa_wl_of (sa_t3 (List.mem_of_getElem? (i := 0) rfl)) rfl
theorem ws_X3_startMultiples : Cond.selects RX3 yX3_startMultiples yX3_startMultiples ∈ sa_wl := sa_wl_of (sa_t3 (List.mem_of_getElem? (i := 1) rfl)) rfl
theorem wc_X3_startMultiples : Cond.code yX3_startMultiples cX3_startMultiples 5 (none) ∈ sa_wl := sa_wl_of (sa_t3 (List.mem_of_getElem? (i := 2) rfl)) rfl
theorem wm_X2_49 : Cond.methodLink RX2 49 yX2_startAll ∈ sa_wl := sa_wl_of (sa_t3 (List.mem_of_getElem? (i := 3) rfl)) rfl
theorem ws_X2_startAll : Cond.selects RX2 yX2_startAll yX2_startAll ∈ sa_wl := sa_wl_of (List.mem_append_left _ (List.mem_of_getElem? (i := 17) rfl)) rfl
theorem wi_X2_startAll : Cond.instanceMethod yX2_startAll ∈ sa_wl := sa_wl_of (sa_t3 (List.mem_of_getElem? (i := 5) rfl)) rfl
theorem wc_X2_startAll : Cond.code yX2_startAll cX2_startAll 2 (none) ∈ sa_wl := sa_wl_of (sa_t3 (List.mem_of_getElem? (i := 6) rfl)) rfl
theorem wm_X2_52 : Cond.methodLink RX2 52 yX4_multiply ∈ sa_wl := sa_wl_of (sa_t3 (List.mem_of_getElem? (i := 7) rfl)) rfl
theorem wm_X2_59 : Cond.methodLink RX2 59 yX3_include ∈ sa_wl := sa_wl_of (sa_t3 (List.mem_of_getElem? (i := 8) rfl)) rfl
theorem wi_X3_include : Cond.instanceMethod yX3_include ∈ sa_wl := sa_wl_of (sa_t3 (List.mem_of_getElem? (i := 9) rfl)) rfl
theorem ws_X3_include : Cond.selects RX3 yX3_include yX3_include ∈ sa_wl := sa_wl_of (sa_t3 (List.mem_of_getElem? (i := 10) rfl)) rfl
theorem wc_X3_include : Cond.code yX3_include cX3_include 11 (none) ∈ sa_wl := sa_wl_of (sa_t3 (List.mem_of_getElem? (i := 11) rfl)) rfl
theorem wm_X3_32 : Cond.methodLink RX3 32 yJ9_floorMod_f86c9 ∈ sa_wl := sa_wl_of (sa_t3 (List.mem_of_getElem? (i := 12) rfl)) rfl
theorem wt_J9_floorMod_f86c9 : Cond.static yJ9_floorMod_f86c9 ∈ sa_wl := sa_wl_of (sa_t3 (List.mem_of_getElem? (i := 13) rfl)) rfl
theorem wc_J9_floorMod_f86c9 : Cond.code yJ9_floorMod_f86c9 cJ9_floorMod_f86c9 6 (some .long) ∈ sa_wl := sa_wl_of (sa_t3 (List.mem_of_getElem? (i := 14) rfl)) rfl
theorem wm_X2_63 : Cond.methodLink RX2 63 yX3_settle ∈ sa_wl := sa_wl_of (sa_t3 (List.mem_of_getElem? (i := 15) rfl)) rfl
theorem wi_X3_settle : Cond.instanceMethod yX3_settle ∈ sa_wl := sa_wl_of (sa_t3 (List.mem_of_getElem? (i := 16) rfl)) rfl
theorem ws_X3_settle : Cond.selects RX3 yX3_settle yX3_settle ∈ sa_wl := sa_wl_of (sa_t3 (List.mem_of_getElem? (i := 17) rfl)) rfl
theorem wc_X3_settle : Cond.code yX3_settle cX3_settle 8 (none) ∈ sa_wl := sa_wl_of (sa_t3 (List.mem_of_getElem? (i := 18) rfl)) rfl
theorem wm_X3_38 : Cond.methodLink RX3 38 yJ9_floorDiv_f86c9 ∈ sa_wl := sa_wl_of (sa_t3 (List.mem_of_getElem? (i := 19) rfl)) rfl
theorem wt_J9_floorDiv_f86c9 : Cond.static yJ9_floorDiv_f86c9 ∈ sa_wl := sa_wl_of (sa_t3 (List.mem_of_getElem? (i := 20) rfl)) rfl
theorem wc_J9_floorDiv_f86c9 : Cond.code yJ9_floorDiv_f86c9 cJ9_floorDiv_f86c9 6 (some .long) ∈ sa_wl := sa_wl_of (sa_t3 (List.mem_of_getElem? (i := 21) rfl)) rfl
theorem wm_X6_169 : Cond.methodLink RX6 169 yX6_keepIdeal ∈ sa_wl := sa_wl_of (sa_t3 (List.mem_of_getElem? (i := 22) rfl)) rfl
theorem ws_X6_keepIdeal : Cond.selects RX6 yX6_keepIdeal yX6_keepIdeal ∈ sa_wl := sa_wl_of (List.mem_append_left _ (List.mem_of_getElem? (i := 18) rfl)) rfl
theorem wi_X6_keepIdeal : Cond.instanceMethod yX6_keepIdeal ∈ sa_wl := sa_wl_of (sa_t3 (List.mem_of_getElem? (i := 24) rfl)) rfl
theorem wc_X6_keepIdeal : Cond.code yX6_keepIdeal cX6_keepIdeal 1 (some .int) ∈ sa_wl := sa_wl_of (sa_t3 (List.mem_of_getElem? (i := 25) rfl)) rfl
theorem wm_X6_179 : Cond.methodLink RX6 179 yX6_normOfRows ∈ sa_wl := sa_wl_of (sa_t3 (List.mem_of_getElem? (i := 26) rfl)) rfl
theorem wt_X6_normOfRows : Cond.static yX6_normOfRows ∈ sa_wl := sa_wl_of (sa_t3 (List.mem_of_getElem? (i := 27) rfl)) rfl
theorem wc_X6_normOfRows : Cond.code yX6_normOfRows cX6_normOfRows 2 (some .long) ∈ sa_wl := sa_wl_of (sa_t3 (List.mem_of_getElem? (i := 28) rfl)) rfl
theorem wm_L_66 : Cond.methodLink RL 66 yX6_join ∈ sa_wl := sa_wl_of (sa_t3 (List.mem_of_getElem? (i := 29) rfl)) rfl
theorem wi_X6_join : Cond.instanceMethod yX6_join ∈ sa_wl := sa_wl_of (sa_t3 (List.mem_of_getElem? (i := 30) rfl)) rfl
theorem ws_X6_join : Cond.selects RX6 yX6_join yX6_join ∈ sa_wl := sa_wl_of (sa_t3 (List.mem_of_getElem? (i := 31) rfl)) rfl
theorem wc_X6_join : Cond.code yX6_join cX6_join 4 (some .int) ∈ sa_wl := sa_wl_of (sa_t3 (List.mem_of_getElem? (i := 32) rfl)) rfl
theorem wm_X6_172 : Cond.methodLink RX6 172 yX6_isIdeal ∈ sa_wl := sa_wl_of (sa_t3 (List.mem_of_getElem? (i := 33) rfl)) rfl
theorem ws_X6_isIdeal : Cond.selects RX6 yX6_isIdeal yX6_isIdeal ∈ sa_wl := sa_wl_of (List.mem_append_left _ (List.mem_of_getElem? (i := 19) rfl)) rfl
theorem wi_X6_isIdeal : Cond.instanceMethod yX6_isIdeal ∈ sa_wl := sa_wl_of (sa_t3 (List.mem_of_getElem? (i := 35) rfl)) rfl
theorem wc_X6_isIdeal : Cond.code yX6_isIdeal cX6_isIdeal 2 (some .boolean) ∈ sa_wl := sa_wl_of (sa_t3 (List.mem_of_getElem? (i := 36) rfl)) rfl
theorem wm_X6_175 : Cond.methodLink RX6 175 yX2_hasAll ∈ sa_wl := sa_wl_of (sa_t3 (List.mem_of_getElem? (i := 37) rfl)) rfl
theorem wi_X2_hasAll : Cond.instanceMethod yX2_hasAll ∈ sa_wl := sa_wl_of (sa_t3 (List.mem_of_getElem? (i := 38) rfl)) rfl
theorem ws_X2_hasAll : Cond.selects RX2 yX2_hasAll yX2_hasAll ∈ sa_wl := sa_wl_of (sa_t3 (List.mem_of_getElem? (i := 39) rfl)) rfl
theorem wc_X2_hasAll : Cond.code yX2_hasAll cX2_hasAll 6 (some .boolean) ∈ sa_wl := sa_wl_of (sa_t3 (List.mem_of_getElem? (i := 40) rfl)) rfl
theorem wm_X2_112 : Cond.methodLink RX2 112 yX2_has ∈ sa_wl := sa_wl_of (sa_t3 (List.mem_of_getElem? (i := 41) rfl)) rfl
theorem wi_X2_has : Cond.instanceMethod yX2_has ∈ sa_wl := sa_wl_of (sa_t3 (List.mem_of_getElem? (i := 42) rfl)) rfl
theorem ws_X2_has : Cond.selects RX2 yX2_has yX2_has ∈ sa_wl := sa_wl_of (sa_t3 (List.mem_of_getElem? (i := 43) rfl)) rfl
theorem wc_X2_has : Cond.code yX2_has cX2_has 6 (some .boolean) ∈ sa_wl := sa_wl_of (sa_t3 (List.mem_of_getElem? (i := 44) rfl)) rfl
theorem wm_X2_109 : Cond.methodLink RX2 109 yX2_lessen ∈ sa_wl := sa_wl_of (sa_t3 (List.mem_of_getElem? (i := 45) rfl)) rfl
theorem wi_X2_lessen : Cond.instanceMethod yX2_lessen ∈ sa_wl := sa_wl_of (sa_t3 (List.mem_of_getElem? (i := 46) rfl)) rfl
theorem ws_X2_lessen : Cond.selects RX2 yX2_lessen yX2_lessen ∈ sa_wl := sa_wl_of (sa_t3 (List.mem_of_getElem? (i := 47) rfl)) rfl
theorem wc_X2_lessen : Cond.code yX2_lessen cX2_lessen 11 (none) ∈ sa_wl := sa_wl_of (sa_t3 (List.mem_of_getElem? (i := 48) rfl)) rfl
theorem wm_X2_92 : Cond.methodLink RX2 92 arraycopyName ∈ sa_wl := sa_wl_of (sa_t3 (List.mem_of_getElem? (i := 49) rfl)) rfl
theorem wm_X2_104 : Cond.methodLink RX2 104 yJ9_floorDiv_f86c9 ∈ sa_wl := sa_wl_of (sa_t3 (List.mem_of_getElem? (i := 50) rfl)) rfl
theorem wm_X6_183 : Cond.methodLink RX6 183 yX2_makeSum ∈ sa_wl := sa_wl_of (sa_t3 (List.mem_of_getElem? (i := 51) rfl)) rfl
theorem wi_X2_makeSum : Cond.instanceMethod yX2_makeSum ∈ sa_wl := sa_wl_of (sa_t3 (List.mem_of_getElem? (i := 52) rfl)) rfl
theorem ws_X2_makeSum : Cond.selects RX2 yX2_makeSum yX2_makeSum ∈ sa_wl := sa_wl_of (sa_t3 (List.mem_of_getElem? (i := 53) rfl)) rfl
theorem wc_X2_makeSum : Cond.code yX2_makeSum cX2_makeSum 6 (none) ∈ sa_wl := sa_wl_of (sa_t3 (List.mem_of_getElem? (i := 54) rfl)) rfl
theorem wm_X2_41 : Cond.methodLink RX2 41 yX3_startRows ∈ sa_wl := sa_wl_of (sa_t3 (List.mem_of_getElem? (i := 55) rfl)) rfl
theorem wi_X3_startRows : Cond.instanceMethod yX3_startRows ∈ sa_wl := sa_wl_of (sa_t3 (List.mem_of_getElem? (i := 56) rfl)) rfl
theorem ws_X3_startRows : Cond.selects RX3 yX3_startRows yX3_startRows ∈ sa_wl := sa_wl_of (sa_t3 (List.mem_of_getElem? (i := 57) rfl)) rfl
theorem wc_X3_startRows : Cond.code yX3_startRows cX3_startRows 4 (none) ∈ sa_wl := sa_wl_of (sa_t3 (List.mem_of_getElem? (i := 58) rfl)) rfl
theorem wm_X3_26 : Cond.methodLink RX3 26 arraycopyName ∈ sa_wl := sa_wl_of (sa_t3 (List.mem_of_getElem? (i := 59) rfl)) rfl
theorem wm_X6_186 : Cond.methodLink RX6 186 yX2_makeProduct ∈ sa_wl := sa_wl_of (sa_t3 (List.mem_of_getElem? (i := 60) rfl)) rfl
theorem wi_X2_makeProduct : Cond.instanceMethod yX2_makeProduct ∈ sa_wl := sa_wl_of (sa_t3 (List.mem_of_getElem? (i := 61) rfl)) rfl
theorem ws_X2_makeProduct : Cond.selects RX2 yX2_makeProduct yX2_makeProduct ∈ sa_wl := sa_wl_of (sa_t3 (List.mem_of_getElem? (i := 62) rfl)) rfl
theorem wc_X2_makeProduct : Cond.code yX2_makeProduct cX2_makeProduct 7 (none) ∈ sa_wl := sa_wl_of (sa_t3 (List.mem_of_getElem? (i := 63) rfl)) rfl
theorem wm_X6_189 : Cond.methodLink RX6 189 yX2_makeQuotient ∈ sa_wl := sa_wl_of (sa_t3 (List.mem_of_getElem? (i := 64) rfl)) rfl
theorem wi_X2_makeQuotient : Cond.instanceMethod yX2_makeQuotient ∈ sa_wl := sa_wl_of (sa_t3 (List.mem_of_getElem? (i := 65) rfl)) rfl
theorem ws_X2_makeQuotient : Cond.selects RX2 yX2_makeQuotient yX2_makeQuotient ∈ sa_wl := sa_wl_of (sa_t3 (List.mem_of_getElem? (i := 66) rfl)) rfl
theorem wc_X2_makeQuotient : Cond.code yX2_makeQuotient cX2_makeQuotient 11 (none) ∈ sa_wl := sa_wl_of (sa_t3 (List.mem_of_getElem? (i := 67) rfl)) rfl
theorem wm_X2_66 : Cond.methodLink RX2 66 yX2_setTests ∈ sa_wl := sa_wl_of (sa_t3 (List.mem_of_getElem? (i := 68) rfl)) rfl
theorem ws_X2_setTests : Cond.selects RX2 yX2_setTests yX2_setTests ∈ sa_wl := sa_wl_of (List.mem_append_left _ (List.mem_of_getElem? (i := 20) rfl)) rfl
theorem wi_X2_setTests : Cond.instanceMethod yX2_setTests ∈ sa_wl := sa_wl_of (sa_t3 (List.mem_of_getElem? (i := 70) rfl)) rfl
theorem wc_X2_setTests : Cond.code yX2_setTests cX2_setTests 3 (none) ∈ sa_wl := sa_wl_of (sa_t3 (List.mem_of_getElem? (i := 71) rfl)) rfl
theorem wm_X2_73 : Cond.methodLink RX2 73 yX2_weigh ∈ sa_wl := sa_wl_of (sa_t3 (List.mem_of_getElem? (i := 73) rfl)) rfl
theorem ws_X2_weigh : Cond.selects RX2 yX2_weigh yX2_weigh ∈ sa_wl := sa_wl_of (List.mem_append_left _ (List.mem_of_getElem? (i := 21) rfl)) rfl
theorem wi_X2_weigh : Cond.instanceMethod yX2_weigh ∈ sa_wl := sa_wl_of (sa_t3 (List.mem_of_getElem? (i := 75) rfl)) rfl
theorem wc_X2_weigh : Cond.code yX2_weigh cX2_weigh 11 (some .boolean) ∈ sa_wl := sa_wl_of (sa_t3 (List.mem_of_getElem? (i := 76) rfl)) rfl
theorem wt_X6_rest : Cond.static yX6_rest ∈ sa_wl := sa_wl_of (sa_t3 (List.mem_of_getElem? (i := 78) rfl)) rfl
theorem wc_X6_rest : Cond.code yX6_rest cX6_rest 4 (some .long) ∈ sa_wl := sa_wl_of (sa_t3 (List.mem_of_getElem? (i := 79) rfl)) rfl
theorem wm_X6_300 : Cond.methodLink RX6 300 yJ9_floorMod_f86c9 ∈ sa_wl := sa_wl_of (sa_t3 (List.mem_of_getElem? (i := 80) rfl)) rfl
theorem wm_X2_77 : Cond.methodLink RX2 77 yX2_gather ∈ sa_wl := sa_wl_of (sa_t3 (List.mem_of_getElem? (i := 81) rfl)) rfl
theorem ws_X2_gather : Cond.selects RX2 yX2_gather yX2_gather ∈ sa_wl := sa_wl_of (List.mem_append_left _ (List.mem_of_getElem? (i := 22) rfl)) rfl
theorem wi_X2_gather : Cond.instanceMethod yX2_gather ∈ sa_wl := sa_wl_of (sa_t3 (List.mem_of_getElem? (i := 83) rfl)) rfl
theorem wc_X2_gather : Cond.code yX2_gather cX2_gather 12 (none) ∈ sa_wl := sa_wl_of (sa_t3 (List.mem_of_getElem? (i := 84) rfl)) rfl
theorem wm_X2_81 : Cond.methodLink RX2 81 yX2_keepLight ∈ sa_wl := sa_wl_of (sa_t3 (List.mem_of_getElem? (i := 85) rfl)) rfl
theorem ws_X2_keepLight : Cond.selects RX2 yX2_keepLight yX2_keepLight ∈ sa_wl := sa_wl_of (List.mem_append_left _ (List.mem_of_getElem? (i := 23) rfl)) rfl
theorem wi_X2_keepLight : Cond.instanceMethod yX2_keepLight ∈ sa_wl := sa_wl_of (sa_t3 (List.mem_of_getElem? (i := 87) rfl)) rfl
theorem wc_X2_keepLight : Cond.code yX2_keepLight cX2_keepLight 9 (none) ∈ sa_wl := sa_wl_of (sa_t3 (List.mem_of_getElem? (i := 88) rfl)) rfl
theorem wt_X6_gcd : Cond.static yX6_gcd ∈ sa_wl := sa_wl_of (sa_t3 (List.mem_of_getElem? (i := 90) rfl)) rfl
theorem wc_X6_gcd : Cond.code yX6_gcd cX6_gcd 11 (some .long) ∈ sa_wl := sa_wl_of (sa_t3 (List.mem_of_getElem? (i := 91) rfl)) rfl
theorem wm_X6_306 : Cond.methodLink RX6 306 yJ9_abs_067f4 ∈ sa_wl := sa_wl_of (sa_t3 (List.mem_of_getElem? (i := 92) rfl)) rfl
theorem wm_L_70 : Cond.methodLink RL 70 yX6_row ∈ sa_wl := sa_wl_of (sa_t3 (List.mem_of_getElem? (i := 94) rfl)) rfl
theorem wi_X6_row : Cond.instanceMethod yX6_row ∈ sa_wl := sa_wl_of (sa_t3 (List.mem_of_getElem? (i := 95) rfl)) rfl
theorem ws_X6_row : Cond.selects RX6 yX6_row yX6_row ∈ sa_wl := sa_wl_of (sa_t3 (List.mem_of_getElem? (i := 96) rfl)) rfl
theorem wc_X6_row : Cond.code yX6_row cX6_row 4 (some .int) ∈ sa_wl := sa_wl_of (sa_t3 (List.mem_of_getElem? (i := 97) rfl)) rfl
theorem wm_L_74 : Cond.methodLink RL 74 yX6_idealOf ∈ sa_wl := sa_wl_of (sa_t3 (List.mem_of_getElem? (i := 98) rfl)) rfl
theorem wi_X6_idealOf : Cond.instanceMethod yX6_idealOf ∈ sa_wl := sa_wl_of (sa_t3 (List.mem_of_getElem? (i := 99) rfl)) rfl
theorem ws_X6_idealOf : Cond.selects RX6 yX6_idealOf yX6_idealOf ∈ sa_wl := sa_wl_of (sa_t3 (List.mem_of_getElem? (i := 100) rfl)) rfl
theorem wc_X6_idealOf : Cond.code yX6_idealOf cX6_idealOf 3 (some .int) ∈ sa_wl := sa_wl_of (sa_t3 (List.mem_of_getElem? (i := 101) rfl)) rfl
theorem wm_X6_192 : Cond.methodLink RX6 192 yX5_isPrimeIdeal ∈ sa_wl := sa_wl_of (sa_t3 (List.mem_of_getElem? (i := 102) rfl)) rfl
theorem wi_X5_isPrimeIdeal : Cond.instanceMethod yX5_isPrimeIdeal ∈ sa_wl := sa_wl_of (sa_t3 (List.mem_of_getElem? (i := 103) rfl)) rfl
theorem ws_X5_isPrimeIdeal : Cond.selects RX5 yX5_isPrimeIdeal yX5_isPrimeIdeal ∈ sa_wl := sa_wl_of (sa_t3 (List.mem_of_getElem? (i := 104) rfl)) rfl
theorem wc_X5_isPrimeIdeal : Cond.code yX5_isPrimeIdeal cX5_isPrimeIdeal 7 (some .boolean) ∈ sa_wl := sa_wl_of (sa_t3 (List.mem_of_getElem? (i := 105) rfl)) rfl
theorem wt_X6_isPrimeNumber : Cond.static yX6_isPrimeNumber ∈ sa_wl := sa_wl_of (sa_t3 (List.mem_of_getElem? (i := 107) rfl)) rfl
theorem wc_X6_isPrimeNumber : Cond.code yX6_isPrimeNumber cX6_isPrimeNumber 4 (some .boolean) ∈ sa_wl := sa_wl_of (sa_t3 (List.mem_of_getElem? (i := 108) rfl)) rfl
theorem wk_X6_292 : Cond.constantLong RX6 292 (2) ∈ sa_wl := sa_wl_of (sa_t3 (List.mem_of_getElem? (i := 109) rfl)) rfl
theorem wm_X5_122 : Cond.methodLink RX5 122 yX5_leavesField ∈ sa_wl := sa_wl_of (sa_t3 (List.mem_of_getElem? (i := 111) rfl)) rfl
theorem ws_X5_leavesField : Cond.selects RX5 yX5_leavesField yX5_leavesField ∈ sa_wl := sa_wl_of (List.mem_append_left _ (List.mem_of_getElem? (i := 24) rfl)) rfl
theorem wi_X5_leavesField : Cond.instanceMethod yX5_leavesField ∈ sa_wl := sa_wl_of (sa_t3 (List.mem_of_getElem? (i := 113) rfl)) rfl
theorem wc_X5_leavesField : Cond.code yX5_leavesField cX5_leavesField 12 (some .boolean) ∈ sa_wl := sa_wl_of (sa_t3 (List.mem_of_getElem? (i := 114) rfl)) rfl
theorem wm_X5_129 : Cond.methodLink RX5 129 yX2_lessen ∈ sa_wl := sa_wl_of (sa_t3 (List.mem_of_getElem? (i := 115) rfl)) rfl
theorem wm_X5_126 : Cond.methodLink RX5 126 yX5_split ∈ sa_wl := sa_wl_of (sa_t3 (List.mem_of_getElem? (i := 116) rfl)) rfl
theorem wi_X5_split : Cond.instanceMethod yX5_split ∈ sa_wl := sa_wl_of (sa_t3 (List.mem_of_getElem? (i := 117) rfl)) rfl
theorem ws_X5_split : Cond.selects RX5 yX5_split yX5_split ∈ sa_wl := sa_wl_of (sa_t3 (List.mem_of_getElem? (i := 118) rfl)) rfl
theorem wc_X5_split : Cond.code yX5_split cX5_split 2 (none) ∈ sa_wl := sa_wl_of (sa_t3 (List.mem_of_getElem? (i := 119) rfl)) rfl
theorem wm_X5_41 : Cond.methodLink RX5 41 yX5_findFirstDegree ∈ sa_wl := sa_wl_of (sa_t3 (List.mem_of_getElem? (i := 120) rfl)) rfl
theorem ws_X5_findFirstDegree : Cond.selects RX5 yX5_findFirstDegree yX5_findFirstDegree ∈ sa_wl := sa_wl_of (List.mem_append_left _ (List.mem_of_getElem? (i := 25) rfl)) rfl
theorem wi_X5_findFirstDegree : Cond.instanceMethod yX5_findFirstDegree ∈ sa_wl := sa_wl_of (sa_t3 (List.mem_of_getElem? (i := 122) rfl)) rfl
theorem wc_X5_findFirstDegree : Cond.code yX5_findFirstDegree cX5_findFirstDegree 10 (none) ∈ sa_wl := sa_wl_of (sa_t3 (List.mem_of_getElem? (i := 123) rfl)) rfl
theorem wm_X5_69 : Cond.methodLink RX5 69 yX4_matrixOf ∈ sa_wl := sa_wl_of (sa_t3 (List.mem_of_getElem? (i := 124) rfl)) rfl
theorem wm_X5_73 : Cond.methodLink RX5 73 yX4_matrixTrace ∈ sa_wl := sa_wl_of (sa_t3 (List.mem_of_getElem? (i := 125) rfl)) rfl
theorem wm_X5_77 : Cond.methodLink RX5 77 yX4_matrixMiddle ∈ sa_wl := sa_wl_of (sa_t3 (List.mem_of_getElem? (i := 126) rfl)) rfl
theorem wm_X5_80 : Cond.methodLink RX5 80 yX4_matrixNorm ∈ sa_wl := sa_wl_of (sa_t3 (List.mem_of_getElem? (i := 127) rfl)) rfl
theorem wm_X5_89 : Cond.methodLink RX5 89 yX5_keepIfTrue ∈ sa_wl := sa_wl_of (sa_t3 (List.mem_of_getElem? (i := 129) rfl)) rfl
theorem ws_X5_keepIfTrue : Cond.selects RX5 yX5_keepIfTrue yX5_keepIfTrue ∈ sa_wl := sa_wl_of (List.mem_append_left _ (List.mem_of_getElem? (i := 26) rfl)) rfl
theorem wi_X5_keepIfTrue : Cond.instanceMethod yX5_keepIfTrue ∈ sa_wl := sa_wl_of (sa_t3 (List.mem_of_getElem? (i := 131) rfl)) rfl
theorem wc_X5_keepIfTrue : Cond.code yX5_keepIfTrue cX5_keepIfTrue 4 (none) ∈ sa_wl := sa_wl_of (sa_t3 (List.mem_of_getElem? (i := 132) rfl)) rfl
theorem wm_X5_93 : Cond.methodLink RX5 93 yX5_valuesMultiply ∈ sa_wl := sa_wl_of (sa_t3 (List.mem_of_getElem? (i := 133) rfl)) rfl
theorem ws_X5_valuesMultiply : Cond.selects RX5 yX5_valuesMultiply yX5_valuesMultiply ∈ sa_wl := sa_wl_of (List.mem_append_left _ (List.mem_of_getElem? (i := 27) rfl)) rfl
theorem wi_X5_valuesMultiply : Cond.instanceMethod yX5_valuesMultiply ∈ sa_wl := sa_wl_of (sa_t3 (List.mem_of_getElem? (i := 135) rfl)) rfl
theorem wc_X5_valuesMultiply : Cond.code yX5_valuesMultiply cX5_valuesMultiply 7 (some .boolean) ∈ sa_wl := sa_wl_of (sa_t3 (List.mem_of_getElem? (i := 136) rfl)) rfl
theorem wm_X5_56 : Cond.methodLink RX5 56 yX3_startMultiples ∈ sa_wl := sa_wl_of (sa_t3 (List.mem_of_getElem? (i := 137) rfl)) rfl
theorem wm_X5_62 : Cond.methodLink RX5 62 yX5_keepMade ∈ sa_wl := sa_wl_of (sa_t3 (List.mem_of_getElem? (i := 138) rfl)) rfl
theorem ws_X5_keepMade : Cond.selects RX5 yX5_keepMade yX5_keepMade ∈ sa_wl := sa_wl_of (List.mem_append_left _ (List.mem_of_getElem? (i := 28) rfl)) rfl
theorem wi_X5_keepMade : Cond.instanceMethod yX5_keepMade ∈ sa_wl := sa_wl_of (sa_t3 (List.mem_of_getElem? (i := 140) rfl)) rfl
theorem wc_X5_keepMade : Cond.code yX5_keepMade cX5_keepMade 3 (none) ∈ sa_wl := sa_wl_of (sa_t3 (List.mem_of_getElem? (i := 141) rfl)) rfl
theorem wm_X5_101 : Cond.methodLink RX5 101 arraycopyName ∈ sa_wl := sa_wl_of (sa_t3 (List.mem_of_getElem? (i := 142) rfl)) rfl
theorem wm_X5_66 : Cond.methodLink RX5 66 yX5_finishCube ∈ sa_wl := sa_wl_of (sa_t3 (List.mem_of_getElem? (i := 143) rfl)) rfl
theorem ws_X5_finishCube : Cond.selects RX5 yX5_finishCube yX5_finishCube ∈ sa_wl := sa_wl_of (List.mem_append_left _ (List.mem_of_getElem? (i := 29) rfl)) rfl
theorem wi_X5_finishCube : Cond.instanceMethod yX5_finishCube ∈ sa_wl := sa_wl_of (sa_t3 (List.mem_of_getElem? (i := 145) rfl)) rfl
theorem wc_X5_finishCube : Cond.code yX5_finishCube cX5_finishCube 3 (none) ∈ sa_wl := sa_wl_of (sa_t3 (List.mem_of_getElem? (i := 146) rfl)) rfl
theorem wm_X5_107 : Cond.methodLink RX5 107 yX2_makeProduct ∈ sa_wl := sa_wl_of (sa_t3 (List.mem_of_getElem? (i := 147) rfl)) rfl
theorem wm_X5_111 : Cond.methodLink RX5 111 yX2_makeQuotient ∈ sa_wl := sa_wl_of (sa_t3 (List.mem_of_getElem? (i := 148) rfl)) rfl
theorem wm_L_78 : Cond.methodLink RL 78 yX6_in ∈ sa_wl := sa_wl_of (sa_t3 (List.mem_of_getElem? (i := 149) rfl)) rfl
theorem wi_X6_in : Cond.instanceMethod yX6_in ∈ sa_wl := sa_wl_of (sa_t3 (List.mem_of_getElem? (i := 150) rfl)) rfl
theorem ws_X6_in : Cond.selects RX6 yX6_in yX6_in ∈ sa_wl := sa_wl_of (sa_t3 (List.mem_of_getElem? (i := 151) rfl)) rfl
theorem wc_X6_in : Cond.code yX6_in cX6_in 3 (some .int) ∈ sa_wl := sa_wl_of (sa_t3 (List.mem_of_getElem? (i := 152) rfl)) rfl
theorem wm_X6_195 : Cond.methodLink RX6 195 yX2_has ∈ sa_wl := sa_wl_of (sa_t3 (List.mem_of_getElem? (i := 153) rfl)) rfl
theorem wm_L_82 : Cond.methodLink RL 82 yX6_divides ∈ sa_wl := sa_wl_of (sa_t3 (List.mem_of_getElem? (i := 154) rfl)) rfl
theorem wi_X6_divides : Cond.instanceMethod yX6_divides ∈ sa_wl := sa_wl_of (sa_t3 (List.mem_of_getElem? (i := 155) rfl)) rfl
theorem ws_X6_divides : Cond.selects RX6 yX6_divides yX6_divides ∈ sa_wl := sa_wl_of (sa_t3 (List.mem_of_getElem? (i := 156) rfl)) rfl
theorem wc_X6_divides : Cond.code yX6_divides cX6_divides 3 (some .int) ∈ sa_wl := sa_wl_of (sa_t3 (List.mem_of_getElem? (i := 157) rfl)) rfl
theorem wm_L_86 : Cond.methodLink RL 86 yX6_primes ∈ sa_wl := sa_wl_of (sa_t3 (List.mem_of_getElem? (i := 158) rfl)) rfl
theorem wi_X6_primes : Cond.instanceMethod yX6_primes ∈ sa_wl := sa_wl_of (sa_t3 (List.mem_of_getElem? (i := 159) rfl)) rfl
theorem ws_X6_primes : Cond.selects RX6 yX6_primes yX6_primes ∈ sa_wl := sa_wl_of (sa_t3 (List.mem_of_getElem? (i := 160) rfl)) rfl
theorem wc_X6_primes : Cond.code yX6_primes cX6_primes 2 (some .int) ∈ sa_wl := sa_wl_of (sa_t3 (List.mem_of_getElem? (i := 161) rfl)) rfl
theorem wm_X6_198 : Cond.methodLink RX6 198 yX6_isSmallPrime ∈ sa_wl := sa_wl_of (sa_t3 (List.mem_of_getElem? (i := 162) rfl)) rfl
theorem wt_X6_isSmallPrime : Cond.static yX6_isSmallPrime ∈ sa_wl := sa_wl_of (sa_t3 (List.mem_of_getElem? (i := 163) rfl)) rfl
theorem wc_X6_isSmallPrime : Cond.code yX6_isSmallPrime cX6_isSmallPrime 1 (some .boolean) ∈ sa_wl := sa_wl_of (sa_t3 (List.mem_of_getElem? (i := 164) rfl)) rfl
theorem wm_X6_289 : Cond.methodLink RX6 289 yX6_isPrimeNumber ∈ sa_wl := sa_wl_of (sa_t3 (List.mem_of_getElem? (i := 165) rfl)) rfl
theorem wm_X6_201 : Cond.methodLink RX6 201 yX5_split ∈ sa_wl := sa_wl_of (sa_t3 (List.mem_of_getElem? (i := 166) rfl)) rfl
theorem wm_L_90 : Cond.methodLink RL 90 yX6_prime ∈ sa_wl := sa_wl_of (sa_t3 (List.mem_of_getElem? (i := 167) rfl)) rfl
theorem wi_X6_prime : Cond.instanceMethod yX6_prime ∈ sa_wl := sa_wl_of (sa_t3 (List.mem_of_getElem? (i := 168) rfl)) rfl
theorem ws_X6_prime : Cond.selects RX6 yX6_prime yX6_prime ∈ sa_wl := sa_wl_of (sa_t3 (List.mem_of_getElem? (i := 169) rfl)) rfl
theorem wc_X6_prime : Cond.code yX6_prime cX6_prime 6 (some .int) ∈ sa_wl := sa_wl_of (sa_t3 (List.mem_of_getElem? (i := 170) rfl)) rfl
theorem wm_X6_208 : Cond.methodLink RX6 208 yX6_hasPrime ∈ sa_wl := sa_wl_of (sa_t3 (List.mem_of_getElem? (i := 171) rfl)) rfl
theorem ws_X6_hasPrime : Cond.selects RX6 yX6_hasPrime yX6_hasPrime ∈ sa_wl := sa_wl_of (List.mem_append_left _ (List.mem_of_getElem? (i := 30) rfl)) rfl
theorem wi_X6_hasPrime : Cond.instanceMethod yX6_hasPrime ∈ sa_wl := sa_wl_of (sa_t3 (List.mem_of_getElem? (i := 173) rfl)) rfl
theorem wc_X6_hasPrime : Cond.code yX6_hasPrime cX6_hasPrime 3 (some .boolean) ∈ sa_wl := sa_wl_of (sa_t3 (List.mem_of_getElem? (i := 174) rfl)) rfl
theorem wm_L_94 : Cond.methodLink RL 94 yX6_take ∈ sa_wl := sa_wl_of (sa_t3 (List.mem_of_getElem? (i := 175) rfl)) rfl
theorem wi_X6_take : Cond.instanceMethod yX6_take ∈ sa_wl := sa_wl_of (sa_t3 (List.mem_of_getElem? (i := 176) rfl)) rfl
theorem ws_X6_take : Cond.selects RX6 yX6_take yX6_take ∈ sa_wl := sa_wl_of (sa_t3 (List.mem_of_getElem? (i := 177) rfl)) rfl
theorem wc_X6_take : Cond.code yX6_take cX6_take 3 (some .int) ∈ sa_wl := sa_wl_of (sa_t3 (List.mem_of_getElem? (i := 178) rfl)) rfl
theorem wm_X6_219 : Cond.methodLink RX6 219 yX2_makeCopy ∈ sa_wl := sa_wl_of (sa_t3 (List.mem_of_getElem? (i := 179) rfl)) rfl
theorem wi_X2_makeCopy : Cond.instanceMethod yX2_makeCopy ∈ sa_wl := sa_wl_of (sa_t3 (List.mem_of_getElem? (i := 180) rfl)) rfl
theorem ws_X2_makeCopy : Cond.selects RX2 yX2_makeCopy yX2_makeCopy ∈ sa_wl := sa_wl_of (sa_t3 (List.mem_of_getElem? (i := 181) rfl)) rfl
theorem wc_X2_makeCopy : Cond.code yX2_makeCopy cX2_makeCopy 3 (none) ∈ sa_wl := sa_wl_of (sa_t3 (List.mem_of_getElem? (i := 182) rfl)) rfl
theorem wm_L_98 : Cond.methodLink RL 98 yX6_times ∈ sa_wl := sa_wl_of (sa_t3 (List.mem_of_getElem? (i := 183) rfl)) rfl
theorem wi_X6_times : Cond.instanceMethod yX6_times ∈ sa_wl := sa_wl_of (sa_t3 (List.mem_of_getElem? (i := 184) rfl)) rfl
theorem ws_X6_times : Cond.selects RX6 yX6_times yX6_times ∈ sa_wl := sa_wl_of (sa_t3 (List.mem_of_getElem? (i := 185) rfl)) rfl
theorem wc_X6_times : Cond.code yX6_times cX6_times 4 (some .int) ∈ sa_wl := sa_wl_of (sa_t3 (List.mem_of_getElem? (i := 186) rfl)) rfl
theorem wm_X6_222 : Cond.methodLink RX6 222 yX2_timesIn ∈ sa_wl := sa_wl_of (sa_t3 (List.mem_of_getElem? (i := 187) rfl)) rfl
theorem wi_X2_timesIn : Cond.instanceMethod yX2_timesIn ∈ sa_wl := sa_wl_of (sa_t3 (List.mem_of_getElem? (i := 188) rfl)) rfl
theorem ws_X2_timesIn : Cond.selects RX2 yX2_timesIn yX2_timesIn ∈ sa_wl := sa_wl_of (sa_t3 (List.mem_of_getElem? (i := 189) rfl)) rfl
theorem wc_X2_timesIn : Cond.code yX2_timesIn cX2_timesIn 12 (some .int) ∈ sa_wl := sa_wl_of (sa_t3 (List.mem_of_getElem? (i := 190) rfl)) rfl
theorem wm_X2_116 : Cond.methodLink RX2 116 yX2_makeCopy ∈ sa_wl := sa_wl_of (sa_t3 (List.mem_of_getElem? (i := 191) rfl)) rfl
theorem wm_X2_119 : Cond.methodLink RX2 119 yX2_hasAll ∈ sa_wl := sa_wl_of (sa_t3 (List.mem_of_getElem? (i := 192) rfl)) rfl
theorem wm_X2_122 : Cond.methodLink RX2 122 yX2_makeProduct ∈ sa_wl := sa_wl_of (sa_t3 (List.mem_of_getElem? (i := 193) rfl)) rfl
theorem wm_L_102 : Cond.methodLink RL 102 yX6_classes ∈ sa_wl := sa_wl_of (sa_t3 (List.mem_of_getElem? (i := 194) rfl)) rfl
theorem wi_X6_classes : Cond.instanceMethod yX6_classes ∈ sa_wl := sa_wl_of (sa_t3 (List.mem_of_getElem? (i := 195) rfl)) rfl
theorem ws_X6_classes : Cond.selects RX6 yX6_classes yX6_classes ∈ sa_wl := sa_wl_of (sa_t3 (List.mem_of_getElem? (i := 196) rfl)) rfl
theorem wc_X6_classes : Cond.code yX6_classes cX6_classes 1 (some .int) ∈ sa_wl := sa_wl_of (sa_t3 (List.mem_of_getElem? (i := 197) rfl)) rfl
theorem wm_X6_226 : Cond.methodLink RX6 226 yX1_list ∈ sa_wl := sa_wl_of (sa_t3 (List.mem_of_getElem? (i := 198) rfl)) rfl
theorem wi_X1_list : Cond.instanceMethod yX1_list ∈ sa_wl := sa_wl_of (sa_t3 (List.mem_of_getElem? (i := 199) rfl)) rfl
theorem ws_X1_list : Cond.selects RX1 yX1_list yX1_list ∈ sa_wl := sa_wl_of (sa_t3 (List.mem_of_getElem? (i := 200) rfl)) rfl
theorem wc_X1_list : Cond.code yX1_list cX1_list 7 (none) ∈ sa_wl := sa_wl_of (sa_t3 (List.mem_of_getElem? (i := 201) rfl)) rfl
theorem wm_X1_50 : Cond.methodLink RX1 50 yJ9_abs_067f4 ∈ sa_wl := sa_wl_of (sa_t3 (List.mem_of_getElem? (i := 202) rfl)) rfl
theorem wm_X1_62 : Cond.methodLink RX1 62 yX1_listIfReduced ∈ sa_wl := sa_wl_of (sa_t3 (List.mem_of_getElem? (i := 204) rfl)) rfl
theorem ws_X1_listIfReduced : Cond.selects RX1 yX1_listIfReduced yX1_listIfReduced ∈ sa_wl := sa_wl_of (List.mem_append_left _ (List.mem_of_getElem? (i := 31) rfl)) rfl
theorem wi_X1_listIfReduced : Cond.instanceMethod yX1_listIfReduced ∈ sa_wl := sa_wl_of (sa_t3 (List.mem_of_getElem? (i := 206) rfl)) rfl
theorem wc_X1_listIfReduced : Cond.code yX1_listIfReduced cX1_listIfReduced 5 (none) ∈ sa_wl := sa_wl_of (sa_t3 (List.mem_of_getElem? (i := 207) rfl)) rfl
theorem wk_X1_72 : Cond.constantLong RX1 72 (4) ∈ sa_wl := sa_wl_of (sa_t3 (List.mem_of_getElem? (i := 208) rfl)) rfl
theorem wm_X1_83 : Cond.methodLink RX1 83 yX1_isReduced ∈ sa_wl := sa_wl_of (sa_t3 (List.mem_of_getElem? (i := 209) rfl)) rfl
theorem ws_X1_isReduced : Cond.selects RX1 yX1_isReduced yX1_isReduced ∈ sa_wl := sa_wl_of (List.mem_append_left _ (List.mem_of_getElem? (i := 32) rfl)) rfl
theorem wi_X1_isReduced : Cond.instanceMethod yX1_isReduced ∈ sa_wl := sa_wl_of (sa_t3 (List.mem_of_getElem? (i := 211) rfl)) rfl
theorem wc_X1_isReduced : Cond.code yX1_isReduced cX1_isReduced 5 (some .boolean) ∈ sa_wl := sa_wl_of (sa_t3 (List.mem_of_getElem? (i := 212) rfl)) rfl
theorem wk_X1_87 : Cond.constantLong RX1 87 (2) ∈ sa_wl := sa_wl_of (sa_t3 (List.mem_of_getElem? (i := 213) rfl)) rfl
theorem wm_X1_66 : Cond.methodLink RX1 66 yX1_markCycles ∈ sa_wl := sa_wl_of (sa_t3 (List.mem_of_getElem? (i := 214) rfl)) rfl
theorem ws_X1_markCycles : Cond.selects RX1 yX1_markCycles yX1_markCycles ∈ sa_wl := sa_wl_of (List.mem_append_left _ (List.mem_of_getElem? (i := 33) rfl)) rfl
theorem wi_X1_markCycles : Cond.instanceMethod yX1_markCycles ∈ sa_wl := sa_wl_of (sa_t3 (List.mem_of_getElem? (i := 216) rfl)) rfl
theorem wc_X1_markCycles : Cond.code yX1_markCycles cX1_markCycles 2 (none) ∈ sa_wl := sa_wl_of (sa_t3 (List.mem_of_getElem? (i := 217) rfl)) rfl
theorem wm_X1_89 : Cond.methodLink RX1 89 yX1_markCycle ∈ sa_wl := sa_wl_of (sa_t3 (List.mem_of_getElem? (i := 218) rfl)) rfl
theorem ws_X1_markCycle : Cond.selects RX1 yX1_markCycle yX1_markCycle ∈ sa_wl := sa_wl_of (List.mem_append_left _ (List.mem_of_getElem? (i := 34) rfl)) rfl
theorem wi_X1_markCycle : Cond.instanceMethod yX1_markCycle ∈ sa_wl := sa_wl_of (sa_t3 (List.mem_of_getElem? (i := 220) rfl)) rfl
theorem wc_X1_markCycle : Cond.code yX1_markCycle cX1_markCycle 4 (none) ∈ sa_wl := sa_wl_of (sa_t3 (List.mem_of_getElem? (i := 221) rfl)) rfl
theorem wm_X1_93 : Cond.methodLink RX1 93 yX1_goNext ∈ sa_wl := sa_wl_of (sa_t3 (List.mem_of_getElem? (i := 222) rfl)) rfl
theorem ws_X1_goNext : Cond.selects RX1 yX1_goNext yX1_goNext ∈ sa_wl := sa_wl_of (List.mem_append_left _ (List.mem_of_getElem? (i := 35) rfl)) rfl
theorem wi_X1_goNext : Cond.instanceMethod yX1_goNext ∈ sa_wl := sa_wl_of (sa_t3 (List.mem_of_getElem? (i := 224) rfl)) rfl
theorem wc_X1_goNext : Cond.code yX1_goNext cX1_goNext 5 (none) ∈ sa_wl := sa_wl_of (sa_t3 (List.mem_of_getElem? (i := 225) rfl)) rfl
theorem wm_X1_100 : Cond.methodLink RX1 100 yJ9_floorMod_f86c9 ∈ sa_wl := sa_wl_of (sa_t3 (List.mem_of_getElem? (i := 226) rfl)) rfl
theorem wm_X1_96 : Cond.methodLink RX1 96 yX1_numberOfForm ∈ sa_wl := sa_wl_of (sa_t3 (List.mem_of_getElem? (i := 228) rfl)) rfl
theorem ws_X1_numberOfForm : Cond.selects RX1 yX1_numberOfForm yX1_numberOfForm ∈ sa_wl := sa_wl_of (List.mem_append_left _ (List.mem_of_getElem? (i := 36) rfl)) rfl
theorem wi_X1_numberOfForm : Cond.instanceMethod yX1_numberOfForm ∈ sa_wl := sa_wl_of (sa_t3 (List.mem_of_getElem? (i := 230) rfl)) rfl
theorem wc_X1_numberOfForm : Cond.code yX1_numberOfForm cX1_numberOfForm 2 (some .int) ∈ sa_wl := sa_wl_of (sa_t3 (List.mem_of_getElem? (i := 231) rfl)) rfl
theorem wm_L_107 : Cond.methodLink RL 107 yX6_form ∈ sa_wl := sa_wl_of (sa_t3 (List.mem_of_getElem? (i := 232) rfl)) rfl
theorem wi_X6_form : Cond.instanceMethod yX6_form ∈ sa_wl := sa_wl_of (sa_t3 (List.mem_of_getElem? (i := 233) rfl)) rfl
theorem ws_X6_form : Cond.selects RX6 yX6_form yX6_form ∈ sa_wl := sa_wl_of (sa_t3 (List.mem_of_getElem? (i := 234) rfl)) rfl
theorem wc_X6_form : Cond.code yX6_form cX6_form 3 (some .int) ∈ sa_wl := sa_wl_of (sa_t3 (List.mem_of_getElem? (i := 235) rfl)) rfl
theorem wm_L_111 : Cond.methodLink RL 111 yX6_classOf ∈ sa_wl := sa_wl_of (sa_t3 (List.mem_of_getElem? (i := 236) rfl)) rfl
theorem wi_X6_classOf : Cond.instanceMethod yX6_classOf ∈ sa_wl := sa_wl_of (sa_t3 (List.mem_of_getElem? (i := 237) rfl)) rfl
theorem ws_X6_classOf : Cond.selects RX6 yX6_classOf yX6_classOf ∈ sa_wl := sa_wl_of (sa_t3 (List.mem_of_getElem? (i := 238) rfl)) rfl
theorem wc_X6_classOf : Cond.code yX6_classOf cX6_classOf 2 (some .int) ∈ sa_wl := sa_wl_of (sa_t3 (List.mem_of_getElem? (i := 239) rfl)) rfl
theorem wm_X6_236 : Cond.methodLink RX6 236 yX1_classOfRows ∈ sa_wl := sa_wl_of (sa_t4 (List.mem_of_getElem? (i := 0) rfl)) rfl
theorem wi_X1_classOfRows : Cond.instanceMethod yX1_classOfRows ∈ sa_wl := sa_wl_of (sa_t4 (List.mem_of_getElem? (i := 1) rfl)) rfl
theorem ws_X1_classOfRows : Cond.selects RX1 yX1_classOfRows yX1_classOfRows ∈ sa_wl := sa_wl_of (sa_t4 (List.mem_of_getElem? (i := 2) rfl)) rfl
theorem wc_X1_classOfRows : Cond.code yX1_classOfRows cX1_classOfRows 3 (some .int) ∈ sa_wl := sa_wl_of (sa_t4 (List.mem_of_getElem? (i := 3) rfl)) rfl
theorem wm_X1_120 : Cond.methodLink RX1 120 yX1_formOfRows ∈ sa_wl := sa_wl_of (sa_t4 (List.mem_of_getElem? (i := 4) rfl)) rfl
theorem ws_X1_formOfRows : Cond.selects RX1 yX1_formOfRows yX1_formOfRows ∈ sa_wl := sa_wl_of (List.mem_append_left _ (List.mem_of_getElem? (i := 37) rfl)) rfl
theorem wi_X1_formOfRows : Cond.instanceMethod yX1_formOfRows ∈ sa_wl := sa_wl_of (sa_t4 (List.mem_of_getElem? (i := 6) rfl)) rfl
theorem wc_X1_formOfRows : Cond.code yX1_formOfRows cX1_formOfRows 9 (none) ∈ sa_wl := sa_wl_of (sa_t4 (List.mem_of_getElem? (i := 7) rfl)) rfl
theorem wm_X1_107 : Cond.methodLink RX1 107 yX4_traceOfSecond ∈ sa_wl := sa_wl_of (sa_t4 (List.mem_of_getElem? (i := 8) rfl)) rfl
theorem wi_X4_traceOfSecond : Cond.instanceMethod yX4_traceOfSecond ∈ sa_wl := sa_wl_of (sa_t4 (List.mem_of_getElem? (i := 9) rfl)) rfl
theorem ws_X4_traceOfSecond : Cond.selects RX4 yX4_traceOfSecond yX4_traceOfSecond ∈ sa_wl := sa_wl_of (sa_t4 (List.mem_of_getElem? (i := 10) rfl)) rfl
theorem wc_X4_traceOfSecond : Cond.code yX4_traceOfSecond cX4_traceOfSecond 1 (some .long) ∈ sa_wl := sa_wl_of (sa_t4 (List.mem_of_getElem? (i := 11) rfl)) rfl
theorem wm_X1_111 : Cond.methodLink RX1 111 yX4_normOfSecond ∈ sa_wl := sa_wl_of (sa_t4 (List.mem_of_getElem? (i := 12) rfl)) rfl
theorem wi_X4_normOfSecond : Cond.instanceMethod yX4_normOfSecond ∈ sa_wl := sa_wl_of (sa_t4 (List.mem_of_getElem? (i := 13) rfl)) rfl
theorem ws_X4_normOfSecond : Cond.selects RX4 yX4_normOfSecond yX4_normOfSecond ∈ sa_wl := sa_wl_of (sa_t4 (List.mem_of_getElem? (i := 14) rfl)) rfl
theorem wc_X4_normOfSecond : Cond.code yX4_normOfSecond cX4_normOfSecond 1 (some .long) ∈ sa_wl := sa_wl_of (sa_t4 (List.mem_of_getElem? (i := 15) rfl)) rfl
theorem wm_X1_124 : Cond.methodLink RX1 124 yX1_classOfForm ∈ sa_wl := sa_wl_of (sa_t4 (List.mem_of_getElem? (i := 16) rfl)) rfl
theorem ws_X1_classOfForm : Cond.selects RX1 yX1_classOfForm yX1_classOfForm ∈ sa_wl := sa_wl_of (List.mem_append_left _ (List.mem_of_getElem? (i := 38) rfl)) rfl
theorem wi_X1_classOfForm : Cond.instanceMethod yX1_classOfForm ∈ sa_wl := sa_wl_of (sa_t4 (List.mem_of_getElem? (i := 18) rfl)) rfl
theorem wc_X1_classOfForm : Cond.code yX1_classOfForm cX1_classOfForm 2 (some .int) ∈ sa_wl := sa_wl_of (sa_t4 (List.mem_of_getElem? (i := 19) rfl)) rfl
theorem wm_X1_117 : Cond.methodLink RX1 117 yX1_reduce ∈ sa_wl := sa_wl_of (sa_t4 (List.mem_of_getElem? (i := 20) rfl)) rfl
theorem ws_X1_reduce : Cond.selects RX1 yX1_reduce yX1_reduce ∈ sa_wl := sa_wl_of (List.mem_append_left _ (List.mem_of_getElem? (i := 39) rfl)) rfl
theorem wi_X1_reduce : Cond.instanceMethod yX1_reduce ∈ sa_wl := sa_wl_of (sa_t4 (List.mem_of_getElem? (i := 22) rfl)) rfl
theorem wc_X1_reduce : Cond.code yX1_reduce cX1_reduce 2 (none) ∈ sa_wl := sa_wl_of (sa_t4 (List.mem_of_getElem? (i := 23) rfl)) rfl
theorem wm_X1_114 : Cond.methodLink RX1 114 yX1_turn ∈ sa_wl := sa_wl_of (sa_t4 (List.mem_of_getElem? (i := 24) rfl)) rfl
theorem ws_X1_turn : Cond.selects RX1 yX1_turn yX1_turn ∈ sa_wl := sa_wl_of (List.mem_append_left _ (List.mem_of_getElem? (i := 40) rfl)) rfl
theorem wi_X1_turn : Cond.instanceMethod yX1_turn ∈ sa_wl := sa_wl_of (sa_t4 (List.mem_of_getElem? (i := 26) rfl)) rfl
theorem wc_X1_turn : Cond.code yX1_turn cX1_turn 3 (none) ∈ sa_wl := sa_wl_of (sa_t4 (List.mem_of_getElem? (i := 27) rfl)) rfl
theorem wm_L_115 : Cond.methodLink RL 115 yX6_order ∈ sa_wl := sa_wl_of (sa_t4 (List.mem_of_getElem? (i := 28) rfl)) rfl
theorem wi_X6_order : Cond.instanceMethod yX6_order ∈ sa_wl := sa_wl_of (sa_t4 (List.mem_of_getElem? (i := 29) rfl)) rfl
theorem ws_X6_order : Cond.selects RX6 yX6_order yX6_order ∈ sa_wl := sa_wl_of (sa_t4 (List.mem_of_getElem? (i := 30) rfl)) rfl
theorem wc_X6_order : Cond.code yX6_order cX6_order 2 (some .int) ∈ sa_wl := sa_wl_of (sa_t4 (List.mem_of_getElem? (i := 31) rfl)) rfl
theorem wm_X6_240 : Cond.methodLink RX6 240 yX1_orderOfRows ∈ sa_wl := sa_wl_of (sa_t4 (List.mem_of_getElem? (i := 32) rfl)) rfl
theorem wi_X1_orderOfRows : Cond.instanceMethod yX1_orderOfRows ∈ sa_wl := sa_wl_of (sa_t4 (List.mem_of_getElem? (i := 33) rfl)) rfl
theorem ws_X1_orderOfRows : Cond.selects RX1 yX1_orderOfRows yX1_orderOfRows ∈ sa_wl := sa_wl_of (sa_t4 (List.mem_of_getElem? (i := 34) rfl)) rfl
theorem wc_X1_orderOfRows : Cond.code yX1_orderOfRows cX1_orderOfRows 6 (some .int) ∈ sa_wl := sa_wl_of (sa_t4 (List.mem_of_getElem? (i := 35) rfl)) rfl
theorem wm_X1_133 : Cond.methodLink RX1 133 yX3_startMultiples ∈ sa_wl := sa_wl_of (sa_t4 (List.mem_of_getElem? (i := 36) rfl)) rfl
theorem wm_X1_142 : Cond.methodLink RX1 142 yX1_classOfRows ∈ sa_wl := sa_wl_of (sa_t4 (List.mem_of_getElem? (i := 37) rfl)) rfl
theorem wm_X1_146 : Cond.methodLink RX1 146 yX1_smallRows ∈ sa_wl := sa_wl_of (sa_t4 (List.mem_of_getElem? (i := 38) rfl)) rfl
theorem ws_X1_smallRows : Cond.selects RX1 yX1_smallRows yX1_smallRows ∈ sa_wl := sa_wl_of (List.mem_append_left _ (List.mem_of_getElem? (i := 41) rfl)) rfl
theorem wi_X1_smallRows : Cond.instanceMethod yX1_smallRows ∈ sa_wl := sa_wl_of (sa_t4 (List.mem_of_getElem? (i := 40) rfl)) rfl
theorem wc_X1_smallRows : Cond.code yX1_smallRows cX1_smallRows 2 (none) ∈ sa_wl := sa_wl_of (sa_t4 (List.mem_of_getElem? (i := 41) rfl)) rfl
theorem wm_X1_160 : Cond.methodLink RX1 160 yJ7_fill_d0a16 ∈ sa_wl := sa_wl_of (sa_t4 (List.mem_of_getElem? (i := 42) rfl)) rfl
theorem wt_J7_fill_d0a16 : Cond.static yJ7_fill_d0a16 ∈ sa_wl := sa_wl_of (sa_t4 (List.mem_of_getElem? (i := 43) rfl)) rfl
theorem wc_J7_fill_d0a16 : Cond.code yJ7_fill_d0a16 cJ7_fill_d0a16 5 (none) ∈ sa_wl := sa_wl_of (sa_t4 (List.mem_of_getElem? (i := 44) rfl)) rfl
theorem wm_X1_150 : Cond.methodLink RX1 150 arraycopyName ∈ sa_wl := sa_wl_of (sa_t4 (List.mem_of_getElem? (i := 46) rfl)) rfl
theorem wm_X1_156 : Cond.methodLink RX1 156 yX2_makeProduct ∈ sa_wl := sa_wl_of (sa_t4 (List.mem_of_getElem? (i := 47) rfl)) rfl
theorem wm_L_119 : Cond.methodLink RL 119 yX6_first ∈ sa_wl := sa_wl_of (sa_t4 (List.mem_of_getElem? (i := 48) rfl)) rfl
theorem wi_X6_first : Cond.instanceMethod yX6_first ∈ sa_wl := sa_wl_of (sa_t4 (List.mem_of_getElem? (i := 49) rfl)) rfl
theorem ws_X6_first : Cond.selects RX6 yX6_first yX6_first ∈ sa_wl := sa_wl_of (sa_t4 (List.mem_of_getElem? (i := 50) rfl)) rfl
theorem wc_X6_first : Cond.code yX6_first cX6_first 2 (some .long) ∈ sa_wl := sa_wl_of (sa_t4 (List.mem_of_getElem? (i := 51) rfl)) rfl
theorem wm_X6_243 : Cond.methodLink RX6 243 yX4_traceOfSecond ∈ sa_wl := sa_wl_of (sa_t4 (List.mem_of_getElem? (i := 52) rfl)) rfl
theorem wm_X6_246 : Cond.methodLink RX6 246 yX0_find ∈ sa_wl := sa_wl_of (sa_t4 (List.mem_of_getElem? (i := 53) rfl)) rfl
theorem wi_X0_find : Cond.instanceMethod yX0_find ∈ sa_wl := sa_wl_of (sa_t4 (List.mem_of_getElem? (i := 54) rfl)) rfl
theorem ws_X0_find : Cond.selects RX0 yX0_find yX0_find ∈ sa_wl := sa_wl_of (sa_t4 (List.mem_of_getElem? (i := 55) rfl)) rfl
theorem wc_X0_find : Cond.code yX0_find cX0_find 26 (some .boolean) ∈ sa_wl := sa_wl_of (sa_t4 (List.mem_of_getElem? (i := 56) rfl)) rfl
theorem wk_X0_13 : Cond.constantLong RX0 13 (2) ∈ sa_wl := sa_wl_of (sa_t4 (List.mem_of_getElem? (i := 58) rfl)) rfl
theorem wk_X0_21 : Cond.constantLong RX0 21 (1000000000000000) ∈ sa_wl := sa_wl_of (sa_t4 (List.mem_of_getElem? (i := 59) rfl)) rfl
theorem wm_L_123 : Cond.methodLink RL 123 yX6_count ∈ sa_wl := sa_wl_of (sa_t4 (List.mem_of_getElem? (i := 61) rfl)) rfl
theorem wi_X6_count : Cond.instanceMethod yX6_count ∈ sa_wl := sa_wl_of (sa_t4 (List.mem_of_getElem? (i := 62) rfl)) rfl
theorem ws_X6_count : Cond.selects RX6 yX6_count yX6_count ∈ sa_wl := sa_wl_of (sa_t4 (List.mem_of_getElem? (i := 63) rfl)) rfl
theorem wc_X6_count : Cond.code yX6_count cX6_count 2 (some .int) ∈ sa_wl := sa_wl_of (sa_t4 (List.mem_of_getElem? (i := 64) rfl)) rfl
theorem wl_L_10 : Cond.classLink RL 10 RX7 ∈ sa_wl := sa_wl_of (sa_t4 (List.mem_of_getElem? (i := 65) rfl)) rfl
theorem wj_X7 : Cond.instantiable RX7 45 ∈ sa_wl := sa_wl_of (sa_t4 (List.mem_of_getElem? (i := 66) rfl)) rfl
theorem wm_L_12 : Cond.methodLink RL 12 yX7_init ∈ sa_wl := sa_wl_of (sa_t4 (List.mem_of_getElem? (i := 67) rfl)) rfl
theorem wi_X7_init : Cond.instanceMethod yX7_init ∈ sa_wl := sa_wl_of (sa_t4 (List.mem_of_getElem? (i := 68) rfl)) rfl
theorem wc_X7_init : Cond.code yX7_init cX7_init 1 (none) ∈ sa_wl := sa_wl_of (sa_t4 (List.mem_of_getElem? (i := 69) rfl)) rfl
theorem wm_X7_1 : Cond.methodLink RX7 1 objectInit ∈ sa_wl := sa_wl_of (sa_t4 (List.mem_of_getElem? (i := 70) rfl)) rfl
theorem wf_X7_7 : Cond.fieldLink RX7 7 "FieldHouseModel" "refusals" "[I" ∈ sa_wl := sa_wl_of (sa_t4 (List.mem_of_getElem? (i := 71) rfl)) rfl
theorem wf_X7_101 : Cond.fieldLink RX7 101 "FieldHouseModel" "n" "I" ∈ sa_wl := sa_wl_of (sa_t4 (List.mem_of_getElem? (i := 72) rfl)) rfl
theorem wf_X7_105 : Cond.fieldLink RX7 105 "FieldHouseModel" "f0" "I" ∈ sa_wl := sa_wl_of (sa_t4 (List.mem_of_getElem? (i := 73) rfl)) rfl
theorem wf_X7_108 : Cond.fieldLink RX7 108 "FieldHouseModel" "f1" "I" ∈ sa_wl := sa_wl_of (sa_t4 (List.mem_of_getElem? (i := 74) rfl)) rfl
theorem wf_X7_111 : Cond.fieldLink RX7 111 "FieldHouseModel" "f2" "I" ∈ sa_wl := sa_wl_of (sa_t4 (List.mem_of_getElem? (i := 75) rfl)) rfl
theorem wf_X7_136 : Cond.fieldLink RX7 136 "FieldHouseModel" "h" "I" ∈ sa_wl := sa_wl_of (sa_t4 (List.mem_of_getElem? (i := 76) rfl)) rfl
theorem wf_X7_139 : Cond.fieldLink RX7 139 "FieldHouseModel" "d" "I" ∈ sa_wl := sa_wl_of (sa_t4 (List.mem_of_getElem? (i := 77) rfl)) rfl
theorem wf_X7_145 : Cond.fieldLink RX7 145 "FieldHouseModel" "k" "I" ∈ sa_wl := sa_wl_of (sa_t4 (List.mem_of_getElem? (i := 78) rfl)) rfl
theorem wf_X7_148 : Cond.fieldLink RX7 148 "FieldHouseModel" "l" "I" ∈ sa_wl := sa_wl_of (sa_t4 (List.mem_of_getElem? (i := 79) rfl)) rfl
theorem wf_X7_142 : Cond.fieldLink RX7 142 "FieldHouseModel" "e" "I" ∈ sa_wl := sa_wl_of (sa_t4 (List.mem_of_getElem? (i := 80) rfl)) rfl
theorem wf_X7_157 : Cond.fieldLink RX7 157 "FieldHouseModel" "disc" "J" ∈ sa_wl := sa_wl_of (sa_t4 (List.mem_of_getElem? (i := 81) rfl)) rfl
theorem wf_X7_114 : Cond.fieldLink RX7 114 "FieldHouseModel" "polyDisc" "J" ∈ sa_wl := sa_wl_of (sa_t4 (List.mem_of_getElem? (i := 82) rfl)) rfl
theorem wf_X7_13 : Cond.fieldLink RX7 13 "FieldHouseModel" "table" "[J" ∈ sa_wl := sa_wl_of (sa_t4 (List.mem_of_getElem? (i := 83) rfl)) rfl
theorem wf_X7_163 : Cond.fieldLink RX7 163 "FieldHouseModel" "elements" "I" ∈ sa_wl := sa_wl_of (sa_t4 (List.mem_of_getElem? (i := 84) rfl)) rfl
theorem wf_X7_166 : Cond.fieldLink RX7 166 "FieldHouseModel" "ideals" "I" ∈ sa_wl := sa_wl_of (sa_t4 (List.mem_of_getElem? (i := 85) rfl)) rfl
theorem wf_X7_17 : Cond.fieldLink RX7 17 "FieldHouseModel" "element" "[I" ∈ sa_wl := sa_wl_of (sa_t4 (List.mem_of_getElem? (i := 86) rfl)) rfl
theorem wf_X7_20 : Cond.fieldLink RX7 20 "FieldHouseModel" "ideal" "[I" ∈ sa_wl := sa_wl_of (sa_t4 (List.mem_of_getElem? (i := 87) rfl)) rfl
theorem wf_X7_23 : Cond.fieldLink RX7 23 "FieldHouseModel" "first" "[J" ∈ sa_wl := sa_wl_of (sa_t4 (List.mem_of_getElem? (i := 88) rfl)) rfl
theorem wf_X7_26 : Cond.fieldLink RX7 26 "FieldHouseModel" "second" "[J" ∈ sa_wl := sa_wl_of (sa_t4 (List.mem_of_getElem? (i := 89) rfl)) rfl
theorem wf_X7_29 : Cond.fieldLink RX7 29 "FieldHouseModel" "trial" "[J" ∈ sa_wl := sa_wl_of (sa_t4 (List.mem_of_getElem? (i := 90) rfl)) rfl
theorem wf_X7_32 : Cond.fieldLink RX7 32 "FieldHouseModel" "power" "[J" ∈ sa_wl := sa_wl_of (sa_t4 (List.mem_of_getElem? (i := 91) rfl)) rfl
theorem wf_X7_35 : Cond.fieldLink RX7 35 "FieldHouseModel" "matrix" "[J" ∈ sa_wl := sa_wl_of (sa_t4 (List.mem_of_getElem? (i := 92) rfl)) rfl
theorem wf_X7_38 : Cond.fieldLink RX7 38 "FieldHouseModel" "x" "[J" ∈ sa_wl := sa_wl_of (sa_t4 (List.mem_of_getElem? (i := 93) rfl)) rfl
theorem wf_X7_41 : Cond.fieldLink RX7 41 "FieldHouseModel" "y" "[J" ∈ sa_wl := sa_wl_of (sa_t4 (List.mem_of_getElem? (i := 94) rfl)) rfl
theorem wf_X7_44 : Cond.fieldLink RX7 44 "FieldHouseModel" "z" "[J" ∈ sa_wl := sa_wl_of (sa_t4 (List.mem_of_getElem? (i := 95) rfl)) rfl
theorem wf_X7_47 : Cond.fieldLink RX7 47 "FieldHouseModel" "given" "[J" ∈ sa_wl := sa_wl_of (sa_t4 (List.mem_of_getElem? (i := 96) rfl)) rfl
theorem wf_X7_50 : Cond.fieldLink RX7 50 "FieldHouseModel" "rows" "[J" ∈ sa_wl := sa_wl_of (sa_t4 (List.mem_of_getElem? (i := 97) rfl)) rfl
theorem wf_X7_244 : Cond.fieldLink RX7 244 "FieldHouseModel" "many" "I" ∈ sa_wl := sa_wl_of (sa_t4 (List.mem_of_getElem? (i := 98) rfl)) rfl
theorem wf_X7_53 : Cond.fieldLink RX7 53 "FieldHouseModel" "one" "[J" ∈ sa_wl := sa_wl_of (sa_t4 (List.mem_of_getElem? (i := 99) rfl)) rfl
theorem wf_X7_56 : Cond.fieldLink RX7 56 "FieldHouseModel" "two" "[J" ∈ sa_wl := sa_wl_of (sa_t4 (List.mem_of_getElem? (i := 100) rfl)) rfl
theorem wf_X7_59 : Cond.fieldLink RX7 59 "FieldHouseModel" "turned" "[J" ∈ sa_wl := sa_wl_of (sa_t4 (List.mem_of_getElem? (i := 101) rfl)) rfl
theorem wf_X7_172 : Cond.fieldLink RX7 172 "FieldHouseModel" "overP" "I" ∈ sa_wl := sa_wl_of (sa_t4 (List.mem_of_getElem? (i := 102) rfl)) rfl
theorem wf_X7_307 : Cond.fieldLink RX7 307 "FieldHouseModel" "over" "I" ∈ sa_wl := sa_wl_of (sa_t4 (List.mem_of_getElem? (i := 103) rfl)) rfl
theorem wf_X7_62 : Cond.fieldLink RX7 62 "FieldHouseModel" "prime" "[J" ∈ sa_wl := sa_wl_of (sa_t4 (List.mem_of_getElem? (i := 104) rfl)) rfl
theorem wf_X7_65 : Cond.fieldLink RX7 65 "FieldHouseModel" "exponent" "[I" ∈ sa_wl := sa_wl_of (sa_t4 (List.mem_of_getElem? (i := 105) rfl)) rfl
theorem wf_X7_68 : Cond.fieldLink RX7 68 "FieldHouseModel" "degree" "[I" ∈ sa_wl := sa_wl_of (sa_t4 (List.mem_of_getElem? (i := 106) rfl)) rfl
theorem wf_X7_169 : Cond.fieldLink RX7 169 "FieldHouseModel" "forms" "I" ∈ sa_wl := sa_wl_of (sa_t4 (List.mem_of_getElem? (i := 107) rfl)) rfl
theorem wf_X7_71 : Cond.fieldLink RX7 71 "FieldHouseModel" "formA" "[I" ∈ sa_wl := sa_wl_of (sa_t4 (List.mem_of_getElem? (i := 108) rfl)) rfl
theorem wf_X7_74 : Cond.fieldLink RX7 74 "FieldHouseModel" "formB" "[I" ∈ sa_wl := sa_wl_of (sa_t4 (List.mem_of_getElem? (i := 109) rfl)) rfl
theorem wf_X7_77 : Cond.fieldLink RX7 77 "FieldHouseModel" "formC" "[I" ∈ sa_wl := sa_wl_of (sa_t4 (List.mem_of_getElem? (i := 110) rfl)) rfl
theorem wf_X7_80 : Cond.fieldLink RX7 80 "FieldHouseModel" "cycle" "[I" ∈ sa_wl := sa_wl_of (sa_t4 (List.mem_of_getElem? (i := 111) rfl)) rfl
theorem wf_X7_331 : Cond.fieldLink RX7 331 "FieldHouseModel" "root" "J" ∈ sa_wl := sa_wl_of (sa_t4 (List.mem_of_getElem? (i := 112) rfl)) rfl
theorem wf_X7_345 : Cond.fieldLink RX7 345 "FieldHouseModel" "nextA" "J" ∈ sa_wl := sa_wl_of (sa_t4 (List.mem_of_getElem? (i := 113) rfl)) rfl
theorem wf_X7_348 : Cond.fieldLink RX7 348 "FieldHouseModel" "nextB" "J" ∈ sa_wl := sa_wl_of (sa_t4 (List.mem_of_getElem? (i := 114) rfl)) rfl
theorem wf_X7_357 : Cond.fieldLink RX7 357 "FieldHouseModel" "nextC" "J" ∈ sa_wl := sa_wl_of (sa_t4 (List.mem_of_getElem? (i := 115) rfl)) rfl
theorem wm_L_17 : Cond.methodLink RL 17 yX7_square ∈ sa_wl := sa_wl_of (sa_t4 (List.mem_of_getElem? (i := 207) rfl)) rfl
theorem wi_X7_square : Cond.instanceMethod yX7_square ∈ sa_wl := sa_wl_of (sa_t4 (List.mem_of_getElem? (i := 208) rfl)) rfl
theorem ws_X7_square : Cond.selects RX7 yX7_square yX7_square ∈ sa_wl := sa_wl_of (sa_t4 (List.mem_of_getElem? (i := 209) rfl)) rfl
theorem wc_X7_square : Cond.code yX7_square cX7_square 5 (some .int) ∈ sa_wl := sa_wl_of (sa_t4 (List.mem_of_getElem? (i := 210) rfl)) rfl
theorem wm_X7_84 : Cond.methodLink RX7 84 yX7_refuse ∈ sa_wl := sa_wl_of (sa_t4 (List.mem_of_getElem? (i := 211) rfl)) rfl
theorem ws_X7_refuse : Cond.selects RX7 yX7_refuse yX7_refuse ∈ sa_wl := sa_wl_of (List.mem_append_left _ (List.mem_of_getElem? (i := 42) rfl)) rfl
theorem wi_X7_refuse : Cond.instanceMethod yX7_refuse ∈ sa_wl := sa_wl_of (sa_t4 (List.mem_of_getElem? (i := 213) rfl)) rfl
theorem wc_X7_refuse : Cond.code yX7_refuse cX7_refuse 2 (some .int) ∈ sa_wl := sa_wl_of (sa_t4 (List.mem_of_getElem? (i := 214) rfl)) rfl
theorem wk_X7_96 : Cond.constantLong RX7 96 (4) ∈ sa_wl := sa_wl_of (sa_t4 (List.mem_of_getElem? (i := 215) rfl)) rfl
theorem wm_X7_98 : Cond.methodLink RX7 98 yX7_rootOf ∈ sa_wl := sa_wl_of (sa_t4 (List.mem_of_getElem? (i := 216) rfl)) rfl
theorem wt_X7_rootOf : Cond.static yX7_rootOf ∈ sa_wl := sa_wl_of (sa_t4 (List.mem_of_getElem? (i := 217) rfl)) rfl
theorem wc_X7_rootOf : Cond.code yX7_rootOf cX7_rootOf 4 (some .long) ∈ sa_wl := sa_wl_of (sa_t4 (List.mem_of_getElem? (i := 218) rfl)) rfl
theorem wm_X7_118 : Cond.methodLink RX7 118 yX7_begins ∈ sa_wl := sa_wl_of (sa_t4 (List.mem_of_getElem? (i := 219) rfl)) rfl
theorem ws_X7_begins : Cond.selects RX7 yX7_begins yX7_begins ∈ sa_wl := sa_wl_of (List.mem_append_left _ (List.mem_of_getElem? (i := 43) rfl)) rfl
theorem wi_X7_begins : Cond.instanceMethod yX7_begins ∈ sa_wl := sa_wl_of (sa_t4 (List.mem_of_getElem? (i := 221) rfl)) rfl
theorem wc_X7_begins : Cond.code yX7_begins cX7_begins 5 (none) ∈ sa_wl := sa_wl_of (sa_t4 (List.mem_of_getElem? (i := 222) rfl)) rfl
theorem wm_X7_90 : Cond.methodLink RX7 90 yJ9_abs_067f4 ∈ sa_wl := sa_wl_of (sa_t4 (List.mem_of_getElem? (i := 223) rfl)) rfl
theorem wm_X7_125 : Cond.methodLink RX7 125 yX7_isPrime ∈ sa_wl := sa_wl_of (sa_t4 (List.mem_of_getElem? (i := 224) rfl)) rfl
theorem wt_X7_isPrime : Cond.static yX7_isPrime ∈ sa_wl := sa_wl_of (sa_t4 (List.mem_of_getElem? (i := 225) rfl)) rfl
theorem wc_X7_isPrime : Cond.code yX7_isPrime cX7_isPrime 2 (some .boolean) ∈ sa_wl := sa_wl_of (sa_t4 (List.mem_of_getElem? (i := 226) rfl)) rfl
theorem wm_X7_129 : Cond.methodLink RX7 129 yX7_grows ∈ sa_wl := sa_wl_of (sa_t4 (List.mem_of_getElem? (i := 227) rfl)) rfl
theorem ws_X7_grows : Cond.selects RX7 yX7_grows yX7_grows ∈ sa_wl := sa_wl_of (List.mem_append_left _ (List.mem_of_getElem? (i := 44) rfl)) rfl
theorem wi_X7_grows : Cond.instanceMethod yX7_grows ∈ sa_wl := sa_wl_of (sa_t4 (List.mem_of_getElem? (i := 229) rfl)) rfl
theorem wc_X7_grows : Cond.code yX7_grows cX7_grows 4 (some .boolean) ∈ sa_wl := sa_wl_of (sa_t4 (List.mem_of_getElem? (i := 230) rfl)) rfl
theorem wm_X7_175 : Cond.methodLink RX7 175 yX7_mix ∈ sa_wl := sa_wl_of (sa_t4 (List.mem_of_getElem? (i := 231) rfl)) rfl
theorem ws_X7_mix : Cond.selects RX7 yX7_mix yX7_mix ∈ sa_wl := sa_wl_of (List.mem_append_left _ (List.mem_of_getElem? (i := 45) rfl)) rfl
theorem wi_X7_mix : Cond.instanceMethod yX7_mix ∈ sa_wl := sa_wl_of (sa_t4 (List.mem_of_getElem? (i := 233) rfl)) rfl
theorem wc_X7_mix : Cond.code yX7_mix cX7_mix 12 (none) ∈ sa_wl := sa_wl_of (sa_t4 (List.mem_of_getElem? (i := 234) rfl)) rfl
theorem wm_X7_183 : Cond.methodLink RX7 183 yX7_gcd ∈ sa_wl := sa_wl_of (sa_t4 (List.mem_of_getElem? (i := 235) rfl)) rfl
theorem wt_X7_gcd : Cond.static yX7_gcd ∈ sa_wl := sa_wl_of (sa_t4 (List.mem_of_getElem? (i := 236) rfl)) rfl
theorem wc_X7_gcd : Cond.code yX7_gcd cX7_gcd 10 (some .long) ∈ sa_wl := sa_wl_of (sa_t4 (List.mem_of_getElem? (i := 237) rfl)) rfl
theorem wm_X7_179 : Cond.methodLink RX7 179 yX7_isWhole ∈ sa_wl := sa_wl_of (sa_t4 (List.mem_of_getElem? (i := 238) rfl)) rfl
theorem ws_X7_isWhole : Cond.selects RX7 yX7_isWhole yX7_isWhole ∈ sa_wl := sa_wl_of (List.mem_append_left _ (List.mem_of_getElem? (i := 46) rfl)) rfl
theorem wi_X7_isWhole : Cond.instanceMethod yX7_isWhole ∈ sa_wl := sa_wl_of (sa_t5 (List.mem_of_getElem? (i := 0) rfl)) rfl
theorem wc_X7_isWhole : Cond.code yX7_isWhole cX7_isWhole 5 (some .boolean) ∈ sa_wl := sa_wl_of (sa_t5 (List.mem_of_getElem? (i := 1) rfl)) rfl
theorem wm_X7_155 : Cond.methodLink RX7 155 yJ9_floorMod_f86c9 ∈ sa_wl := sa_wl_of (sa_t5 (List.mem_of_getElem? (i := 2) rfl)) rfl
theorem wm_X7_186 : Cond.methodLink RX7 186 yX7_lower ∈ sa_wl := sa_wl_of (sa_t5 (List.mem_of_getElem? (i := 3) rfl)) rfl
theorem ws_X7_lower : Cond.selects RX7 yX7_lower yX7_lower ∈ sa_wl := sa_wl_of (List.mem_append_left _ (List.mem_of_getElem? (i := 47) rfl)) rfl
theorem wi_X7_lower : Cond.instanceMethod yX7_lower ∈ sa_wl := sa_wl_of (sa_t5 (List.mem_of_getElem? (i := 5) rfl)) rfl
theorem wc_X7_lower : Cond.code yX7_lower cX7_lower 4 (none) ∈ sa_wl := sa_wl_of (sa_t5 (List.mem_of_getElem? (i := 6) rfl)) rfl
theorem wm_X7_189 : Cond.methodLink RX7 189 yX7_traceOf ∈ sa_wl := sa_wl_of (sa_t5 (List.mem_of_getElem? (i := 7) rfl)) rfl
theorem ws_X7_traceOf : Cond.selects RX7 yX7_traceOf yX7_traceOf ∈ sa_wl := sa_wl_of (List.mem_append_left _ (List.mem_of_getElem? (i := 48) rfl)) rfl
theorem wi_X7_traceOf : Cond.instanceMethod yX7_traceOf ∈ sa_wl := sa_wl_of (sa_t5 (List.mem_of_getElem? (i := 9) rfl)) rfl
theorem wc_X7_traceOf : Cond.code yX7_traceOf cX7_traceOf 4 (some .long) ∈ sa_wl := sa_wl_of (sa_t5 (List.mem_of_getElem? (i := 10) rfl)) rfl
theorem wm_X7_193 : Cond.methodLink RX7 193 yX7_normOf ∈ sa_wl := sa_wl_of (sa_t5 (List.mem_of_getElem? (i := 11) rfl)) rfl
theorem ws_X7_normOf : Cond.selects RX7 yX7_normOf yX7_normOf ∈ sa_wl := sa_wl_of (List.mem_append_left _ (List.mem_of_getElem? (i := 49) rfl)) rfl
theorem wi_X7_normOf : Cond.instanceMethod yX7_normOf ∈ sa_wl := sa_wl_of (sa_t5 (List.mem_of_getElem? (i := 13) rfl)) rfl
theorem wc_X7_normOf : Cond.code yX7_normOf cX7_normOf 5 (some .long) ∈ sa_wl := sa_wl_of (sa_t5 (List.mem_of_getElem? (i := 14) rfl)) rfl
theorem wm_X7_196 : Cond.methodLink RX7 196 yX7_minorsOf ∈ sa_wl := sa_wl_of (sa_t5 (List.mem_of_getElem? (i := 15) rfl)) rfl
theorem ws_X7_minorsOf : Cond.selects RX7 yX7_minorsOf yX7_minorsOf ∈ sa_wl := sa_wl_of (List.mem_append_left _ (List.mem_of_getElem? (i := 50) rfl)) rfl
theorem wi_X7_minorsOf : Cond.instanceMethod yX7_minorsOf ∈ sa_wl := sa_wl_of (sa_t5 (List.mem_of_getElem? (i := 17) rfl)) rfl
theorem wc_X7_minorsOf : Cond.code yX7_minorsOf cX7_minorsOf 3 (some .long) ∈ sa_wl := sa_wl_of (sa_t5 (List.mem_of_getElem? (i := 18) rfl)) rfl
theorem wm_X7_132 : Cond.methodLink RX7 132 yJ9_floorMod_7cf53 ∈ sa_wl := sa_wl_of (sa_t5 (List.mem_of_getElem? (i := 19) rfl)) rfl
theorem wt_J9_floorMod_7cf53 : Cond.static yJ9_floorMod_7cf53 ∈ sa_wl := sa_wl_of (sa_t5 (List.mem_of_getElem? (i := 20) rfl)) rfl
theorem wc_J9_floorMod_7cf53 : Cond.code yJ9_floorMod_7cf53 cJ9_floorMod_7cf53 3 (some .int) ∈ sa_wl := sa_wl_of (sa_t5 (List.mem_of_getElem? (i := 21) rfl)) rfl
theorem wm_X7_151 : Cond.methodLink RX7 151 yJ9_floorDiv_f86c9 ∈ sa_wl := sa_wl_of (sa_t5 (List.mem_of_getElem? (i := 22) rfl)) rfl
theorem wm_X7_160 : Cond.methodLink RX7 160 yX7_tables ∈ sa_wl := sa_wl_of (sa_t5 (List.mem_of_getElem? (i := 23) rfl)) rfl
theorem ws_X7_tables : Cond.selects RX7 yX7_tables yX7_tables ∈ sa_wl := sa_wl_of (List.mem_append_left _ (List.mem_of_getElem? (i := 51) rfl)) rfl
theorem wi_X7_tables : Cond.instanceMethod yX7_tables ∈ sa_wl := sa_wl_of (sa_t5 (List.mem_of_getElem? (i := 25) rfl)) rfl
theorem wc_X7_tables : Cond.code yX7_tables cX7_tables 11 (none) ∈ sa_wl := sa_wl_of (sa_t5 (List.mem_of_getElem? (i := 26) rfl)) rfl
theorem wm_X7_199 : Cond.methodLink RX7 199 yX7_base ∈ sa_wl := sa_wl_of (sa_t5 (List.mem_of_getElem? (i := 27) rfl)) rfl
theorem ws_X7_base : Cond.selects RX7 yX7_base yX7_base ∈ sa_wl := sa_wl_of (List.mem_append_left _ (List.mem_of_getElem? (i := 52) rfl)) rfl
theorem wi_X7_base : Cond.instanceMethod yX7_base ∈ sa_wl := sa_wl_of (sa_t5 (List.mem_of_getElem? (i := 29) rfl)) rfl
theorem wc_X7_base : Cond.code yX7_base cX7_base 3 (some .long) ∈ sa_wl := sa_wl_of (sa_t5 (List.mem_of_getElem? (i := 30) rfl)) rfl
theorem wm_L_22 : Cond.methodLink RL 22 yX7_cube ∈ sa_wl := sa_wl_of (sa_t5 (List.mem_of_getElem? (i := 31) rfl)) rfl
theorem wi_X7_cube : Cond.instanceMethod yX7_cube ∈ sa_wl := sa_wl_of (sa_t5 (List.mem_of_getElem? (i := 32) rfl)) rfl
theorem ws_X7_cube : Cond.selects RX7 yX7_cube yX7_cube ∈ sa_wl := sa_wl_of (sa_t5 (List.mem_of_getElem? (i := 33) rfl)) rfl
theorem wc_X7_cube : Cond.code yX7_cube cX7_cube 5 (some .int) ∈ sa_wl := sa_wl_of (sa_t5 (List.mem_of_getElem? (i := 34) rfl)) rfl
theorem wk_X7_121 : Cond.constantLong RX7 121 (27) ∈ sa_wl := sa_wl_of (sa_t5 (List.mem_of_getElem? (i := 35) rfl)) rfl
theorem wk_X7_123 : Cond.constantLong RX7 123 (18) ∈ sa_wl := sa_wl_of (sa_t5 (List.mem_of_getElem? (i := 36) rfl)) rfl
theorem wm_L_27 : Cond.methodLink RL 27 yX7_field ∈ sa_wl := sa_wl_of (sa_t5 (List.mem_of_getElem? (i := 37) rfl)) rfl
theorem wi_X7_field : Cond.instanceMethod yX7_field ∈ sa_wl := sa_wl_of (sa_t5 (List.mem_of_getElem? (i := 38) rfl)) rfl
theorem ws_X7_field : Cond.selects RX7 yX7_field yX7_field ∈ sa_wl := sa_wl_of (sa_t5 (List.mem_of_getElem? (i := 39) rfl)) rfl
theorem wc_X7_field : Cond.code yX7_field cX7_field 3 (some .int) ∈ sa_wl := sa_wl_of (sa_t5 (List.mem_of_getElem? (i := 40) rfl)) rfl
theorem wm_X7_203 : Cond.methodLink RX7 203 yX7_isField ∈ sa_wl := sa_wl_of (sa_t5 (List.mem_of_getElem? (i := 41) rfl)) rfl
theorem ws_X7_isField : Cond.selects RX7 yX7_isField yX7_isField ∈ sa_wl := sa_wl_of (List.mem_append_left _ (List.mem_of_getElem? (i := 53) rfl)) rfl
theorem wi_X7_isField : Cond.instanceMethod yX7_isField ∈ sa_wl := sa_wl_of (sa_t5 (List.mem_of_getElem? (i := 43) rfl)) rfl
theorem wc_X7_isField : Cond.code yX7_isField cX7_isField 1 (some .boolean) ∈ sa_wl := sa_wl_of (sa_t5 (List.mem_of_getElem? (i := 44) rfl)) rfl
theorem wm_L_32 : Cond.methodLink RL 32 yX7_disc ∈ sa_wl := sa_wl_of (sa_t5 (List.mem_of_getElem? (i := 45) rfl)) rfl
theorem wi_X7_disc : Cond.instanceMethod yX7_disc ∈ sa_wl := sa_wl_of (sa_t5 (List.mem_of_getElem? (i := 46) rfl)) rfl
theorem ws_X7_disc : Cond.selects RX7 yX7_disc yX7_disc ∈ sa_wl := sa_wl_of (sa_t5 (List.mem_of_getElem? (i := 47) rfl)) rfl
theorem wc_X7_disc : Cond.code yX7_disc cX7_disc 2 (some .long) ∈ sa_wl := sa_wl_of (sa_t5 (List.mem_of_getElem? (i := 48) rfl)) rfl
theorem wm_X7_206 : Cond.methodLink RX7 206 yX7_refuseLong ∈ sa_wl := sa_wl_of (sa_t5 (List.mem_of_getElem? (i := 49) rfl)) rfl
theorem ws_X7_refuseLong : Cond.selects RX7 yX7_refuseLong yX7_refuseLong ∈ sa_wl := sa_wl_of (List.mem_append_left _ (List.mem_of_getElem? (i := 54) rfl)) rfl
theorem wi_X7_refuseLong : Cond.instanceMethod yX7_refuseLong ∈ sa_wl := sa_wl_of (sa_t5 (List.mem_of_getElem? (i := 51) rfl)) rfl
theorem wc_X7_refuseLong : Cond.code yX7_refuseLong cX7_refuseLong 2 (some .long) ∈ sa_wl := sa_wl_of (sa_t5 (List.mem_of_getElem? (i := 52) rfl)) rfl
theorem wk_X7_88 : Cond.constantLong RX7 88 (4000000000000000000) ∈ sa_wl := sa_wl_of (sa_t5 (List.mem_of_getElem? (i := 53) rfl)) rfl
theorem wm_X7_210 : Cond.methodLink RX7 210 yX7_isIn ∈ sa_wl := sa_wl_of (sa_t5 (List.mem_of_getElem? (i := 54) rfl)) rfl
theorem wt_X7_isIn : Cond.static yX7_isIn ∈ sa_wl := sa_wl_of (sa_t5 (List.mem_of_getElem? (i := 55) rfl)) rfl
theorem wc_X7_isIn : Cond.code yX7_isIn cX7_isIn 2 (some .boolean) ∈ sa_wl := sa_wl_of (sa_t5 (List.mem_of_getElem? (i := 56) rfl)) rfl
theorem wm_L_36 : Cond.methodLink RL 36 yX7_basis ∈ sa_wl := sa_wl_of (sa_t5 (List.mem_of_getElem? (i := 57) rfl)) rfl
theorem wi_X7_basis : Cond.instanceMethod yX7_basis ∈ sa_wl := sa_wl_of (sa_t5 (List.mem_of_getElem? (i := 58) rfl)) rfl
theorem ws_X7_basis : Cond.selects RX7 yX7_basis yX7_basis ∈ sa_wl := sa_wl_of (sa_t5 (List.mem_of_getElem? (i := 59) rfl)) rfl
theorem wc_X7_basis : Cond.code yX7_basis cX7_basis 3 (some .int) ∈ sa_wl := sa_wl_of (sa_t5 (List.mem_of_getElem? (i := 60) rfl)) rfl
theorem wm_L_40 : Cond.methodLink RL 40 yX7_table ∈ sa_wl := sa_wl_of (sa_t5 (List.mem_of_getElem? (i := 61) rfl)) rfl
theorem wi_X7_table : Cond.instanceMethod yX7_table ∈ sa_wl := sa_wl_of (sa_t5 (List.mem_of_getElem? (i := 62) rfl)) rfl
theorem ws_X7_table : Cond.selects RX7 yX7_table yX7_table ∈ sa_wl := sa_wl_of (sa_t5 (List.mem_of_getElem? (i := 63) rfl)) rfl
theorem wc_X7_table : Cond.code yX7_table cX7_table 4 (some .int) ∈ sa_wl := sa_wl_of (sa_t5 (List.mem_of_getElem? (i := 64) rfl)) rfl
theorem wm_X7_214 : Cond.methodLink RX7 214 yX7_refuseFar ∈ sa_wl := sa_wl_of (sa_t5 (List.mem_of_getElem? (i := 65) rfl)) rfl
theorem ws_X7_refuseFar : Cond.selects RX7 yX7_refuseFar yX7_refuseFar ∈ sa_wl := sa_wl_of (List.mem_append_left _ (List.mem_of_getElem? (i := 55) rfl)) rfl
theorem wi_X7_refuseFar : Cond.instanceMethod yX7_refuseFar ∈ sa_wl := sa_wl_of (sa_t5 (List.mem_of_getElem? (i := 67) rfl)) rfl
theorem wc_X7_refuseFar : Cond.code yX7_refuseFar cX7_refuseFar 2 (some .int) ∈ sa_wl := sa_wl_of (sa_t5 (List.mem_of_getElem? (i := 68) rfl)) rfl
theorem wk_X7_83 : Cond.constant RX7 83 (2000000000) ∈ sa_wl := sa_wl_of (sa_t5 (List.mem_of_getElem? (i := 69) rfl)) rfl
theorem wm_L_44 : Cond.methodLink RL 44 yX7_element ∈ sa_wl := sa_wl_of (sa_t5 (List.mem_of_getElem? (i := 70) rfl)) rfl
theorem wi_X7_element : Cond.instanceMethod yX7_element ∈ sa_wl := sa_wl_of (sa_t5 (List.mem_of_getElem? (i := 71) rfl)) rfl
theorem ws_X7_element : Cond.selects RX7 yX7_element yX7_element ∈ sa_wl := sa_wl_of (sa_t5 (List.mem_of_getElem? (i := 72) rfl)) rfl
theorem wc_X7_element : Cond.code yX7_element cX7_element 4 (some .int) ∈ sa_wl := sa_wl_of (sa_t5 (List.mem_of_getElem? (i := 73) rfl)) rfl
theorem wm_X7_221 : Cond.methodLink RX7 221 yX7_adds ∈ sa_wl := sa_wl_of (sa_t5 (List.mem_of_getElem? (i := 74) rfl)) rfl
theorem ws_X7_adds : Cond.selects RX7 yX7_adds yX7_adds ∈ sa_wl := sa_wl_of (List.mem_append_left _ (List.mem_of_getElem? (i := 56) rfl)) rfl
theorem wi_X7_adds : Cond.instanceMethod yX7_adds ∈ sa_wl := sa_wl_of (sa_t5 (List.mem_of_getElem? (i := 76) rfl)) rfl
theorem wc_X7_adds : Cond.code yX7_adds cX7_adds 7 (some .int) ∈ sa_wl := sa_wl_of (sa_t5 (List.mem_of_getElem? (i := 77) rfl)) rfl
theorem wk_X7_217 : Cond.constantLong RX7 217 (-300) ∈ sa_wl := sa_wl_of (sa_t5 (List.mem_of_getElem? (i := 78) rfl)) rfl
theorem wk_X7_219 : Cond.constantLong RX7 219 (300) ∈ sa_wl := sa_wl_of (sa_t5 (List.mem_of_getElem? (i := 79) rfl)) rfl
theorem wm_L_48 : Cond.methodLink RL 48 yX7_make ∈ sa_wl := sa_wl_of (sa_t5 (List.mem_of_getElem? (i := 80) rfl)) rfl
theorem wi_X7_make : Cond.instanceMethod yX7_make ∈ sa_wl := sa_wl_of (sa_t5 (List.mem_of_getElem? (i := 81) rfl)) rfl
theorem ws_X7_make : Cond.selects RX7 yX7_make yX7_make ∈ sa_wl := sa_wl_of (sa_t5 (List.mem_of_getElem? (i := 82) rfl)) rfl
theorem wc_X7_make : Cond.code yX7_make cX7_make 5 (some .int) ∈ sa_wl := sa_wl_of (sa_t5 (List.mem_of_getElem? (i := 83) rfl)) rfl
theorem wm_X7_232 : Cond.methodLink RX7 232 yX7_isElement ∈ sa_wl := sa_wl_of (sa_t5 (List.mem_of_getElem? (i := 84) rfl)) rfl
theorem ws_X7_isElement : Cond.selects RX7 yX7_isElement yX7_isElement ∈ sa_wl := sa_wl_of (List.mem_append_left _ (List.mem_of_getElem? (i := 57) rfl)) rfl
theorem wi_X7_isElement : Cond.instanceMethod yX7_isElement ∈ sa_wl := sa_wl_of (sa_t5 (List.mem_of_getElem? (i := 86) rfl)) rfl
theorem wc_X7_isElement : Cond.code yX7_isElement cX7_isElement 2 (some .boolean) ∈ sa_wl := sa_wl_of (sa_t5 (List.mem_of_getElem? (i := 87) rfl)) rfl
theorem wm_X7_235 : Cond.methodLink RX7 235 yX7_brings ∈ sa_wl := sa_wl_of (sa_t5 (List.mem_of_getElem? (i := 88) rfl)) rfl
theorem ws_X7_brings : Cond.selects RX7 yX7_brings yX7_brings ∈ sa_wl := sa_wl_of (List.mem_append_left _ (List.mem_of_getElem? (i := 58) rfl)) rfl
theorem wi_X7_brings : Cond.instanceMethod yX7_brings ∈ sa_wl := sa_wl_of (sa_t5 (List.mem_of_getElem? (i := 90) rfl)) rfl
theorem wc_X7_brings : Cond.code yX7_brings cX7_brings 4 (none) ∈ sa_wl := sa_wl_of (sa_t5 (List.mem_of_getElem? (i := 91) rfl)) rfl
theorem wm_X7_229 : Cond.methodLink RX7 229 yX7_product ∈ sa_wl := sa_wl_of (sa_t5 (List.mem_of_getElem? (i := 92) rfl)) rfl
theorem ws_X7_product : Cond.selects RX7 yX7_product yX7_product ∈ sa_wl := sa_wl_of (List.mem_append_left _ (List.mem_of_getElem? (i := 59) rfl)) rfl
theorem wi_X7_product : Cond.instanceMethod yX7_product ∈ sa_wl := sa_wl_of (sa_t5 (List.mem_of_getElem? (i := 94) rfl)) rfl
theorem wc_X7_product : Cond.code yX7_product cX7_product 6 (none) ∈ sa_wl := sa_wl_of (sa_t5 (List.mem_of_getElem? (i := 95) rfl)) rfl
theorem wm_X7_239 : Cond.methodLink RX7 239 yX7_divide ∈ sa_wl := sa_wl_of (sa_t5 (List.mem_of_getElem? (i := 96) rfl)) rfl
theorem ws_X7_divide : Cond.selects RX7 yX7_divide yX7_divide ∈ sa_wl := sa_wl_of (List.mem_append_left _ (List.mem_of_getElem? (i := 60) rfl)) rfl
theorem wi_X7_divide : Cond.instanceMethod yX7_divide ∈ sa_wl := sa_wl_of (sa_t5 (List.mem_of_getElem? (i := 98) rfl)) rfl
theorem wc_X7_divide : Cond.code yX7_divide cX7_divide 15 (some .boolean) ∈ sa_wl := sa_wl_of (sa_t5 (List.mem_of_getElem? (i := 99) rfl)) rfl
theorem wm_X7_225 : Cond.methodLink RX7 225 yX7_acts ∈ sa_wl := sa_wl_of (sa_t5 (List.mem_of_getElem? (i := 100) rfl)) rfl
theorem ws_X7_acts : Cond.selects RX7 yX7_acts yX7_acts ∈ sa_wl := sa_wl_of (List.mem_append_left _ (List.mem_of_getElem? (i := 61) rfl)) rfl
theorem wi_X7_acts : Cond.instanceMethod yX7_acts ∈ sa_wl := sa_wl_of (sa_t5 (List.mem_of_getElem? (i := 102) rfl)) rfl
theorem wc_X7_acts : Cond.code yX7_acts cX7_acts 7 (none) ∈ sa_wl := sa_wl_of (sa_t5 (List.mem_of_getElem? (i := 103) rfl)) rfl
theorem wm_L_52 : Cond.methodLink RL 52 yX7_coordinate ∈ sa_wl := sa_wl_of (sa_t5 (List.mem_of_getElem? (i := 104) rfl)) rfl
theorem wi_X7_coordinate : Cond.instanceMethod yX7_coordinate ∈ sa_wl := sa_wl_of (sa_t5 (List.mem_of_getElem? (i := 105) rfl)) rfl
theorem ws_X7_coordinate : Cond.selects RX7 yX7_coordinate yX7_coordinate ∈ sa_wl := sa_wl_of (sa_t5 (List.mem_of_getElem? (i := 106) rfl)) rfl
theorem wc_X7_coordinate : Cond.code yX7_coordinate cX7_coordinate 3 (some .int) ∈ sa_wl := sa_wl_of (sa_t5 (List.mem_of_getElem? (i := 107) rfl)) rfl
theorem wm_L_57 : Cond.methodLink RL 57 yX7_norm ∈ sa_wl := sa_wl_of (sa_t5 (List.mem_of_getElem? (i := 108) rfl)) rfl
theorem wi_X7_norm : Cond.instanceMethod yX7_norm ∈ sa_wl := sa_wl_of (sa_t5 (List.mem_of_getElem? (i := 109) rfl)) rfl
theorem ws_X7_norm : Cond.selects RX7 yX7_norm yX7_norm ∈ sa_wl := sa_wl_of (sa_t5 (List.mem_of_getElem? (i := 110) rfl)) rfl
theorem wc_X7_norm : Cond.code yX7_norm cX7_norm 3 (some .long) ∈ sa_wl := sa_wl_of (sa_t5 (List.mem_of_getElem? (i := 111) rfl)) rfl
theorem wm_L_61 : Cond.methodLink RL 61 yX7_unit ∈ sa_wl := sa_wl_of (sa_t5 (List.mem_of_getElem? (i := 112) rfl)) rfl
theorem wi_X7_unit : Cond.instanceMethod yX7_unit ∈ sa_wl := sa_wl_of (sa_t5 (List.mem_of_getElem? (i := 113) rfl)) rfl
theorem ws_X7_unit : Cond.selects RX7 yX7_unit yX7_unit ∈ sa_wl := sa_wl_of (sa_t5 (List.mem_of_getElem? (i := 114) rfl)) rfl
theorem wc_X7_unit : Cond.code yX7_unit cX7_unit 5 (some .int) ∈ sa_wl := sa_wl_of (sa_t5 (List.mem_of_getElem? (i := 115) rfl)) rfl
theorem wk_X7_242 : Cond.constantLong RX7 242 (1000000) ∈ sa_wl := sa_wl_of (sa_t5 (List.mem_of_getElem? (i := 116) rfl)) rfl
theorem wm_L_65 : Cond.methodLink RL 65 yX7_ideal ∈ sa_wl := sa_wl_of (sa_t5 (List.mem_of_getElem? (i := 117) rfl)) rfl
theorem wi_X7_ideal : Cond.instanceMethod yX7_ideal ∈ sa_wl := sa_wl_of (sa_t5 (List.mem_of_getElem? (i := 118) rfl)) rfl
theorem ws_X7_ideal : Cond.selects RX7 yX7_ideal yX7_ideal ∈ sa_wl := sa_wl_of (sa_t5 (List.mem_of_getElem? (i := 119) rfl)) rfl
theorem wc_X7_ideal : Cond.code yX7_ideal cX7_ideal 4 (some .int) ∈ sa_wl := sa_wl_of (sa_t5 (List.mem_of_getElem? (i := 120) rfl)) rfl
theorem wk_X7_254 : Cond.constant RX7 254 (1000000) ∈ sa_wl := sa_wl_of (sa_t5 (List.mem_of_getElem? (i := 121) rfl)) rfl
theorem wm_X7_255 : Cond.methodLink RX7 255 yX7_gives ∈ sa_wl := sa_wl_of (sa_t5 (List.mem_of_getElem? (i := 122) rfl)) rfl
theorem ws_X7_gives : Cond.selects RX7 yX7_gives yX7_gives ∈ sa_wl := sa_wl_of (List.mem_append_left _ (List.mem_of_getElem? (i := 62) rfl)) rfl
theorem wi_X7_gives : Cond.instanceMethod yX7_gives ∈ sa_wl := sa_wl_of (sa_t5 (List.mem_of_getElem? (i := 124) rfl)) rfl
theorem wc_X7_gives : Cond.code yX7_gives cX7_gives 7 (none) ∈ sa_wl := sa_wl_of (sa_t5 (List.mem_of_getElem? (i := 125) rfl)) rfl
theorem wm_X7_259 : Cond.methodLink RX7 259 yX7_triangle ∈ sa_wl := sa_wl_of (sa_t5 (List.mem_of_getElem? (i := 126) rfl)) rfl
theorem ws_X7_triangle : Cond.selects RX7 yX7_triangle yX7_triangle ∈ sa_wl := sa_wl_of (List.mem_append_left _ (List.mem_of_getElem? (i := 63) rfl)) rfl
theorem wi_X7_triangle : Cond.instanceMethod yX7_triangle ∈ sa_wl := sa_wl_of (sa_t5 (List.mem_of_getElem? (i := 128) rfl)) rfl
theorem wc_X7_triangle : Cond.code yX7_triangle cX7_triangle 8 (none) ∈ sa_wl := sa_wl_of (sa_t5 (List.mem_of_getElem? (i := 129) rfl)) rfl
theorem wm_X7_247 : Cond.methodLink RX7 247 yX7_meet ∈ sa_wl := sa_wl_of (sa_t5 (List.mem_of_getElem? (i := 130) rfl)) rfl
theorem ws_X7_meet : Cond.selects RX7 yX7_meet yX7_meet ∈ sa_wl := sa_wl_of (List.mem_append_left _ (List.mem_of_getElem? (i := 64) rfl)) rfl
theorem wi_X7_meet : Cond.instanceMethod yX7_meet ∈ sa_wl := sa_wl_of (sa_t5 (List.mem_of_getElem? (i := 132) rfl)) rfl
theorem wc_X7_meet : Cond.code yX7_meet cX7_meet 11 (none) ∈ sa_wl := sa_wl_of (sa_t5 (List.mem_of_getElem? (i := 133) rfl)) rfl
theorem wm_X7_263 : Cond.methodLink RX7 263 yX7_keeps ∈ sa_wl := sa_wl_of (sa_t5 (List.mem_of_getElem? (i := 134) rfl)) rfl
theorem ws_X7_keeps : Cond.selects RX7 yX7_keeps yX7_keeps ∈ sa_wl := sa_wl_of (List.mem_append_left _ (List.mem_of_getElem? (i := 65) rfl)) rfl
theorem wi_X7_keeps : Cond.instanceMethod yX7_keeps ∈ sa_wl := sa_wl_of (sa_t5 (List.mem_of_getElem? (i := 136) rfl)) rfl
theorem wc_X7_keeps : Cond.code yX7_keeps cX7_keeps 2 (some .int) ∈ sa_wl := sa_wl_of (sa_t5 (List.mem_of_getElem? (i := 137) rfl)) rfl
theorem wm_X7_251 : Cond.methodLink RX7 251 yX7_normOfRows ∈ sa_wl := sa_wl_of (sa_t5 (List.mem_of_getElem? (i := 138) rfl)) rfl
theorem ws_X7_normOfRows : Cond.selects RX7 yX7_normOfRows yX7_normOfRows ∈ sa_wl := sa_wl_of (List.mem_append_left _ (List.mem_of_getElem? (i := 66) rfl)) rfl
theorem wi_X7_normOfRows : Cond.instanceMethod yX7_normOfRows ∈ sa_wl := sa_wl_of (sa_t5 (List.mem_of_getElem? (i := 140) rfl)) rfl
theorem wc_X7_normOfRows : Cond.code yX7_normOfRows cX7_normOfRows 4 (some .long) ∈ sa_wl := sa_wl_of (sa_t5 (List.mem_of_getElem? (i := 141) rfl)) rfl
theorem wm_L_69 : Cond.methodLink RL 69 yX7_join ∈ sa_wl := sa_wl_of (sa_t5 (List.mem_of_getElem? (i := 142) rfl)) rfl
theorem wi_X7_join : Cond.instanceMethod yX7_join ∈ sa_wl := sa_wl_of (sa_t5 (List.mem_of_getElem? (i := 143) rfl)) rfl
theorem ws_X7_join : Cond.selects RX7 yX7_join yX7_join ∈ sa_wl := sa_wl_of (sa_t5 (List.mem_of_getElem? (i := 144) rfl)) rfl
theorem wc_X7_join : Cond.code yX7_join cX7_join 5 (some .int) ∈ sa_wl := sa_wl_of (sa_t5 (List.mem_of_getElem? (i := 145) rfl)) rfl
theorem wm_X7_282 : Cond.methodLink RX7 282 yX7_isIdeal ∈ sa_wl := sa_wl_of (sa_t5 (List.mem_of_getElem? (i := 146) rfl)) rfl
theorem ws_X7_isIdeal : Cond.selects RX7 yX7_isIdeal yX7_isIdeal ∈ sa_wl := sa_wl_of (List.mem_append_left _ (List.mem_of_getElem? (i := 67) rfl)) rfl
theorem wi_X7_isIdeal : Cond.instanceMethod yX7_isIdeal ∈ sa_wl := sa_wl_of (sa_t5 (List.mem_of_getElem? (i := 148) rfl)) rfl
theorem wc_X7_isIdeal : Cond.code yX7_isIdeal cX7_isIdeal 2 (some .boolean) ∈ sa_wl := sa_wl_of (sa_t5 (List.mem_of_getElem? (i := 149) rfl)) rfl
theorem wm_X7_285 : Cond.methodLink RX7 285 yX7_load ∈ sa_wl := sa_wl_of (sa_t5 (List.mem_of_getElem? (i := 150) rfl)) rfl
theorem ws_X7_load : Cond.selects RX7 yX7_load yX7_load ∈ sa_wl := sa_wl_of (List.mem_append_left _ (List.mem_of_getElem? (i := 68) rfl)) rfl
theorem wi_X7_load : Cond.instanceMethod yX7_load ∈ sa_wl := sa_wl_of (sa_t5 (List.mem_of_getElem? (i := 152) rfl)) rfl
theorem wc_X7_load : Cond.code yX7_load cX7_load 4 (none) ∈ sa_wl := sa_wl_of (sa_t5 (List.mem_of_getElem? (i := 153) rfl)) rfl
theorem wm_X7_288 : Cond.methodLink RX7 288 yX7_isWithin ∈ sa_wl := sa_wl_of (sa_t5 (List.mem_of_getElem? (i := 154) rfl)) rfl
theorem ws_X7_isWithin : Cond.selects RX7 yX7_isWithin yX7_isWithin ∈ sa_wl := sa_wl_of (List.mem_append_left _ (List.mem_of_getElem? (i := 69) rfl)) rfl
theorem wi_X7_isWithin : Cond.instanceMethod yX7_isWithin ∈ sa_wl := sa_wl_of (sa_t5 (List.mem_of_getElem? (i := 156) rfl)) rfl
theorem wc_X7_isWithin : Cond.code yX7_isWithin cX7_isWithin 3 (some .boolean) ∈ sa_wl := sa_wl_of (sa_t5 (List.mem_of_getElem? (i := 157) rfl)) rfl
theorem wm_X7_271 : Cond.methodLink RX7 271 yX7_isInside ∈ sa_wl := sa_wl_of (sa_t5 (List.mem_of_getElem? (i := 158) rfl)) rfl
theorem ws_X7_isInside : Cond.selects RX7 yX7_isInside yX7_isInside ∈ sa_wl := sa_wl_of (List.mem_append_left _ (List.mem_of_getElem? (i := 70) rfl)) rfl
theorem wi_X7_isInside : Cond.instanceMethod yX7_isInside ∈ sa_wl := sa_wl_of (sa_t5 (List.mem_of_getElem? (i := 160) rfl)) rfl
theorem wc_X7_isInside : Cond.code yX7_isInside cX7_isInside 12 (some .boolean) ∈ sa_wl := sa_wl_of (sa_t5 (List.mem_of_getElem? (i := 161) rfl)) rfl
theorem wm_X7_291 : Cond.methodLink RX7 291 yX7_quotient ∈ sa_wl := sa_wl_of (sa_t5 (List.mem_of_getElem? (i := 162) rfl)) rfl
theorem ws_X7_quotient : Cond.selects RX7 yX7_quotient yX7_quotient ∈ sa_wl := sa_wl_of (List.mem_append_left _ (List.mem_of_getElem? (i := 71) rfl)) rfl
theorem wi_X7_quotient : Cond.instanceMethod yX7_quotient ∈ sa_wl := sa_wl_of (sa_t5 (List.mem_of_getElem? (i := 164) rfl)) rfl
theorem wc_X7_quotient : Cond.code yX7_quotient cX7_quotient 6 (none) ∈ sa_wl := sa_wl_of (sa_t5 (List.mem_of_getElem? (i := 165) rfl)) rfl
theorem wm_X7_267 : Cond.methodLink RX7 267 yX7_normOfAll ∈ sa_wl := sa_wl_of (sa_t5 (List.mem_of_getElem? (i := 166) rfl)) rfl
theorem wt_X7_normOfAll : Cond.static yX7_normOfAll ∈ sa_wl := sa_wl_of (sa_t5 (List.mem_of_getElem? (i := 167) rfl)) rfl
theorem wc_X7_normOfAll : Cond.code yX7_normOfAll cX7_normOfAll 5 (some .long) ∈ sa_wl := sa_wl_of (sa_t5 (List.mem_of_getElem? (i := 168) rfl)) rfl
theorem wm_X7_275 : Cond.methodLink RX7 275 yX7_turns ∈ sa_wl := sa_wl_of (sa_t5 (List.mem_of_getElem? (i := 169) rfl)) rfl
theorem ws_X7_turns : Cond.selects RX7 yX7_turns yX7_turns ∈ sa_wl := sa_wl_of (List.mem_append_left _ (List.mem_of_getElem? (i := 72) rfl)) rfl
theorem wi_X7_turns : Cond.instanceMethod yX7_turns ∈ sa_wl := sa_wl_of (sa_t5 (List.mem_of_getElem? (i := 171) rfl)) rfl
theorem wc_X7_turns : Cond.code yX7_turns cX7_turns 3 (none) ∈ sa_wl := sa_wl_of (sa_t5 (List.mem_of_getElem? (i := 172) rfl)) rfl
theorem wm_X7_278 : Cond.methodLink RX7 278 yX7_asked ∈ sa_wl := sa_wl_of (sa_t5 (List.mem_of_getElem? (i := 173) rfl)) rfl
theorem ws_X7_asked : Cond.selects RX7 yX7_asked yX7_asked ∈ sa_wl := sa_wl_of (List.mem_append_left _ (List.mem_of_getElem? (i := 73) rfl)) rfl
theorem wi_X7_asked : Cond.instanceMethod yX7_asked ∈ sa_wl := sa_wl_of (sa_t5 (List.mem_of_getElem? (i := 175) rfl)) rfl
theorem wc_X7_asked : Cond.code yX7_asked cX7_asked 12 (some .long) ∈ sa_wl := sa_wl_of (sa_t5 (List.mem_of_getElem? (i := 176) rfl)) rfl
theorem wm_X7_294 : Cond.methodLink RX7 294 yX7_multiplies ∈ sa_wl := sa_wl_of (sa_t5 (List.mem_of_getElem? (i := 177) rfl)) rfl
theorem ws_X7_multiplies : Cond.selects RX7 yX7_multiplies yX7_multiplies ∈ sa_wl := sa_wl_of (List.mem_append_left _ (List.mem_of_getElem? (i := 74) rfl)) rfl
theorem wi_X7_multiplies : Cond.instanceMethod yX7_multiplies ∈ sa_wl := sa_wl_of (sa_t5 (List.mem_of_getElem? (i := 179) rfl)) rfl
theorem wc_X7_multiplies : Cond.code yX7_multiplies cX7_multiplies 4 (none) ∈ sa_wl := sa_wl_of (sa_t5 (List.mem_of_getElem? (i := 180) rfl)) rfl
theorem wm_L_73 : Cond.methodLink RL 73 yX7_row ∈ sa_wl := sa_wl_of (sa_t5 (List.mem_of_getElem? (i := 181) rfl)) rfl
theorem wi_X7_row : Cond.instanceMethod yX7_row ∈ sa_wl := sa_wl_of (sa_t5 (List.mem_of_getElem? (i := 182) rfl)) rfl
theorem ws_X7_row : Cond.selects RX7 yX7_row yX7_row ∈ sa_wl := sa_wl_of (sa_t5 (List.mem_of_getElem? (i := 183) rfl)) rfl
theorem wc_X7_row : Cond.code yX7_row cX7_row 4 (some .int) ∈ sa_wl := sa_wl_of (sa_t5 (List.mem_of_getElem? (i := 184) rfl)) rfl
theorem wm_L_77 : Cond.methodLink RL 77 yX7_idealOf ∈ sa_wl := sa_wl_of (sa_t5 (List.mem_of_getElem? (i := 185) rfl)) rfl
theorem wi_X7_idealOf : Cond.instanceMethod yX7_idealOf ∈ sa_wl := sa_wl_of (sa_t5 (List.mem_of_getElem? (i := 186) rfl)) rfl
theorem ws_X7_idealOf : Cond.selects RX7 yX7_idealOf yX7_idealOf ∈ sa_wl := sa_wl_of (sa_t5 (List.mem_of_getElem? (i := 187) rfl)) rfl
theorem wc_X7_idealOf : Cond.code yX7_idealOf cX7_idealOf 3 (some .int) ∈ sa_wl := sa_wl_of (sa_t5 (List.mem_of_getElem? (i := 188) rfl)) rfl
theorem wm_X7_304 : Cond.methodLink RX7 304 yX7_isPrimeIdeal ∈ sa_wl := sa_wl_of (sa_t5 (List.mem_of_getElem? (i := 189) rfl)) rfl
theorem ws_X7_isPrimeIdeal : Cond.selects RX7 yX7_isPrimeIdeal yX7_isPrimeIdeal ∈ sa_wl := sa_wl_of (List.mem_append_left _ (List.mem_of_getElem? (i := 75) rfl)) rfl
theorem wi_X7_isPrimeIdeal : Cond.instanceMethod yX7_isPrimeIdeal ∈ sa_wl := sa_wl_of (sa_t5 (List.mem_of_getElem? (i := 191) rfl)) rfl
theorem wc_X7_isPrimeIdeal : Cond.code yX7_isPrimeIdeal cX7_isPrimeIdeal 5 (some .boolean) ∈ sa_wl := sa_wl_of (sa_t5 (List.mem_of_getElem? (i := 192) rfl)) rfl
theorem wm_X7_301 : Cond.methodLink RX7 301 yX7_hasWay ∈ sa_wl := sa_wl_of (sa_t5 (List.mem_of_getElem? (i := 193) rfl)) rfl
theorem ws_X7_hasWay : Cond.selects RX7 yX7_hasWay yX7_hasWay ∈ sa_wl := sa_wl_of (List.mem_append_left _ (List.mem_of_getElem? (i := 76) rfl)) rfl
theorem wi_X7_hasWay : Cond.instanceMethod yX7_hasWay ∈ sa_wl := sa_wl_of (sa_t5 (List.mem_of_getElem? (i := 195) rfl)) rfl
theorem wc_X7_hasWay : Cond.code yX7_hasWay cX7_hasWay 9 (some .boolean) ∈ sa_wl := sa_wl_of (sa_t5 (List.mem_of_getElem? (i := 196) rfl)) rfl
theorem wm_X7_297 : Cond.methodLink RX7 297 yX7_isWay ∈ sa_wl := sa_wl_of (sa_t5 (List.mem_of_getElem? (i := 197) rfl)) rfl
theorem ws_X7_isWay : Cond.selects RX7 yX7_isWay yX7_isWay ∈ sa_wl := sa_wl_of (List.mem_append_left _ (List.mem_of_getElem? (i := 77) rfl)) rfl
theorem wi_X7_isWay : Cond.instanceMethod yX7_isWay ∈ sa_wl := sa_wl_of (sa_t5 (List.mem_of_getElem? (i := 199) rfl)) rfl
theorem wc_X7_isWay : Cond.code yX7_isWay cX7_isWay 16 (some .boolean) ∈ sa_wl := sa_wl_of (sa_t5 (List.mem_of_getElem? (i := 200) rfl)) rfl
theorem wm_L_81 : Cond.methodLink RL 81 yX7_in ∈ sa_wl := sa_wl_of (sa_t5 (List.mem_of_getElem? (i := 201) rfl)) rfl
theorem wi_X7_in : Cond.instanceMethod yX7_in ∈ sa_wl := sa_wl_of (sa_t5 (List.mem_of_getElem? (i := 202) rfl)) rfl
theorem ws_X7_in : Cond.selects RX7 yX7_in yX7_in ∈ sa_wl := sa_wl_of (sa_t5 (List.mem_of_getElem? (i := 203) rfl)) rfl
theorem wc_X7_in : Cond.code yX7_in cX7_in 3 (some .int) ∈ sa_wl := sa_wl_of (sa_t5 (List.mem_of_getElem? (i := 204) rfl)) rfl
theorem wm_L_85 : Cond.methodLink RL 85 yX7_divides ∈ sa_wl := sa_wl_of (sa_t5 (List.mem_of_getElem? (i := 205) rfl)) rfl
theorem wi_X7_divides : Cond.instanceMethod yX7_divides ∈ sa_wl := sa_wl_of (sa_t5 (List.mem_of_getElem? (i := 206) rfl)) rfl
theorem ws_X7_divides : Cond.selects RX7 yX7_divides yX7_divides ∈ sa_wl := sa_wl_of (sa_t5 (List.mem_of_getElem? (i := 207) rfl)) rfl
theorem wc_X7_divides : Cond.code yX7_divides cX7_divides 3 (some .int) ∈ sa_wl := sa_wl_of (sa_t5 (List.mem_of_getElem? (i := 208) rfl)) rfl
theorem wm_L_89 : Cond.methodLink RL 89 yX7_primes ∈ sa_wl := sa_wl_of (sa_t5 (List.mem_of_getElem? (i := 209) rfl)) rfl
theorem wi_X7_primes : Cond.instanceMethod yX7_primes ∈ sa_wl := sa_wl_of (sa_t5 (List.mem_of_getElem? (i := 210) rfl)) rfl
theorem ws_X7_primes : Cond.selects RX7 yX7_primes yX7_primes ∈ sa_wl := sa_wl_of (sa_t5 (List.mem_of_getElem? (i := 211) rfl)) rfl
theorem wc_X7_primes : Cond.code yX7_primes cX7_primes 2 (some .int) ∈ sa_wl := sa_wl_of (sa_t5 (List.mem_of_getElem? (i := 212) rfl)) rfl
theorem wm_X7_325 : Cond.methodLink RX7 325 yX7_knows ∈ sa_wl := sa_wl_of (sa_t5 (List.mem_of_getElem? (i := 213) rfl)) rfl
theorem ws_X7_knows : Cond.selects RX7 yX7_knows yX7_knows ∈ sa_wl := sa_wl_of (List.mem_append_left _ (List.mem_of_getElem? (i := 78) rfl)) rfl
theorem wi_X7_knows : Cond.instanceMethod yX7_knows ∈ sa_wl := sa_wl_of (sa_t5 (List.mem_of_getElem? (i := 215) rfl)) rfl
theorem wc_X7_knows : Cond.code yX7_knows cX7_knows 5 (some .boolean) ∈ sa_wl := sa_wl_of (sa_t5 (List.mem_of_getElem? (i := 216) rfl)) rfl
theorem wm_X7_310 : Cond.methodLink RX7 310 yX7_wholeRows ∈ sa_wl := sa_wl_of (sa_t5 (List.mem_of_getElem? (i := 217) rfl)) rfl
theorem ws_X7_wholeRows : Cond.selects RX7 yX7_wholeRows yX7_wholeRows ∈ sa_wl := sa_wl_of (List.mem_append_left _ (List.mem_of_getElem? (i := 79) rfl)) rfl
theorem wi_X7_wholeRows : Cond.instanceMethod yX7_wholeRows ∈ sa_wl := sa_wl_of (sa_t5 (List.mem_of_getElem? (i := 219) rfl)) rfl
theorem wc_X7_wholeRows : Cond.code yX7_wholeRows cX7_wholeRows 5 (none) ∈ sa_wl := sa_wl_of (sa_t5 (List.mem_of_getElem? (i := 220) rfl)) rfl
theorem wm_X7_314 : Cond.methodLink RX7 314 yX7_holdsPrime ∈ sa_wl := sa_wl_of (sa_t5 (List.mem_of_getElem? (i := 221) rfl)) rfl
theorem ws_X7_holdsPrime : Cond.selects RX7 yX7_holdsPrime yX7_holdsPrime ∈ sa_wl := sa_wl_of (List.mem_append_left _ (List.mem_of_getElem? (i := 80) rfl)) rfl
theorem wi_X7_holdsPrime : Cond.instanceMethod yX7_holdsPrime ∈ sa_wl := sa_wl_of (sa_t5 (List.mem_of_getElem? (i := 223) rfl)) rfl
theorem wc_X7_holdsPrime : Cond.code yX7_holdsPrime cX7_holdsPrime 4 (none) ∈ sa_wl := sa_wl_of (sa_t5 (List.mem_of_getElem? (i := 224) rfl)) rfl
theorem wm_X7_318 : Cond.methodLink RX7 318 yX7_loadPrime ∈ sa_wl := sa_wl_of (sa_t5 (List.mem_of_getElem? (i := 225) rfl)) rfl
theorem ws_X7_loadPrime : Cond.selects RX7 yX7_loadPrime yX7_loadPrime ∈ sa_wl := sa_wl_of (List.mem_append_left _ (List.mem_of_getElem? (i := 81) rfl)) rfl
theorem wi_X7_loadPrime : Cond.instanceMethod yX7_loadPrime ∈ sa_wl := sa_wl_of (sa_t5 (List.mem_of_getElem? (i := 227) rfl)) rfl
theorem wc_X7_loadPrime : Cond.code yX7_loadPrime cX7_loadPrime 4 (none) ∈ sa_wl := sa_wl_of (sa_t5 (List.mem_of_getElem? (i := 228) rfl)) rfl
theorem wm_X7_321 : Cond.methodLink RX7 321 yX7_moves ∈ sa_wl := sa_wl_of (sa_t5 (List.mem_of_getElem? (i := 229) rfl)) rfl
theorem ws_X7_moves : Cond.selects RX7 yX7_moves yX7_moves ∈ sa_wl := sa_wl_of (List.mem_append_left _ (List.mem_of_getElem? (i := 82) rfl)) rfl
theorem wi_X7_moves : Cond.instanceMethod yX7_moves ∈ sa_wl := sa_wl_of (sa_t5 (List.mem_of_getElem? (i := 231) rfl)) rfl
theorem wc_X7_moves : Cond.code yX7_moves cX7_moves 4 (none) ∈ sa_wl := sa_wl_of (sa_t5 (List.mem_of_getElem? (i := 232) rfl)) rfl
theorem wm_L_93 : Cond.methodLink RL 93 yX7_prime ∈ sa_wl := sa_wl_of (sa_t5 (List.mem_of_getElem? (i := 233) rfl)) rfl
theorem wi_X7_prime : Cond.instanceMethod yX7_prime ∈ sa_wl := sa_wl_of (sa_t5 (List.mem_of_getElem? (i := 234) rfl)) rfl
theorem ws_X7_prime : Cond.selects RX7 yX7_prime yX7_prime ∈ sa_wl := sa_wl_of (sa_t5 (List.mem_of_getElem? (i := 235) rfl)) rfl
theorem wc_X7_prime : Cond.code yX7_prime cX7_prime 4 (some .int) ∈ sa_wl := sa_wl_of (sa_t5 (List.mem_of_getElem? (i := 236) rfl)) rfl
theorem wm_X7_328 : Cond.methodLink RX7 328 yX7_isPrimeOver ∈ sa_wl := sa_wl_of (sa_t5 (List.mem_of_getElem? (i := 237) rfl)) rfl
theorem ws_X7_isPrimeOver : Cond.selects RX7 yX7_isPrimeOver yX7_isPrimeOver ∈ sa_wl := sa_wl_of (List.mem_append_left _ (List.mem_of_getElem? (i := 83) rfl)) rfl
theorem wi_X7_isPrimeOver : Cond.instanceMethod yX7_isPrimeOver ∈ sa_wl := sa_wl_of (sa_t5 (List.mem_of_getElem? (i := 239) rfl)) rfl
theorem wc_X7_isPrimeOver : Cond.code yX7_isPrimeOver cX7_isPrimeOver 3 (some .boolean) ∈ sa_wl := sa_wl_of (sa_t6 (List.mem_of_getElem? (i := 0) rfl)) rfl
theorem wm_L_97 : Cond.methodLink RL 97 yX7_take ∈ sa_wl := sa_wl_of (sa_t6 (List.mem_of_getElem? (i := 1) rfl)) rfl
theorem wi_X7_take : Cond.instanceMethod yX7_take ∈ sa_wl := sa_wl_of (sa_t6 (List.mem_of_getElem? (i := 2) rfl)) rfl
theorem ws_X7_take : Cond.selects RX7 yX7_take yX7_take ∈ sa_wl := sa_wl_of (sa_t6 (List.mem_of_getElem? (i := 3) rfl)) rfl
theorem wc_X7_take : Cond.code yX7_take cX7_take 3 (some .int) ∈ sa_wl := sa_wl_of (sa_t6 (List.mem_of_getElem? (i := 4) rfl)) rfl
theorem wm_L_101 : Cond.methodLink RL 101 yX7_times ∈ sa_wl := sa_wl_of (sa_t6 (List.mem_of_getElem? (i := 5) rfl)) rfl
theorem wi_X7_times : Cond.instanceMethod yX7_times ∈ sa_wl := sa_wl_of (sa_t6 (List.mem_of_getElem? (i := 6) rfl)) rfl
theorem ws_X7_times : Cond.selects RX7 yX7_times yX7_times ∈ sa_wl := sa_wl_of (sa_t6 (List.mem_of_getElem? (i := 7) rfl)) rfl
theorem wc_X7_times : Cond.code yX7_times cX7_times 5 (some .int) ∈ sa_wl := sa_wl_of (sa_t6 (List.mem_of_getElem? (i := 8) rfl)) rfl
theorem wm_L_106 : Cond.methodLink RL 106 yX7_classes ∈ sa_wl := sa_wl_of (sa_t6 (List.mem_of_getElem? (i := 9) rfl)) rfl
theorem wi_X7_classes : Cond.instanceMethod yX7_classes ∈ sa_wl := sa_wl_of (sa_t6 (List.mem_of_getElem? (i := 10) rfl)) rfl
theorem ws_X7_classes : Cond.selects RX7 yX7_classes yX7_classes ∈ sa_wl := sa_wl_of (sa_t6 (List.mem_of_getElem? (i := 11) rfl)) rfl
theorem wc_X7_classes : Cond.code yX7_classes cX7_classes 4 (some .int) ∈ sa_wl := sa_wl_of (sa_t6 (List.mem_of_getElem? (i := 12) rfl)) rfl
theorem wm_X7_369 : Cond.methodLink RX7 369 yX7_wrongForms ∈ sa_wl := sa_wl_of (sa_t6 (List.mem_of_getElem? (i := 13) rfl)) rfl
theorem ws_X7_wrongForms : Cond.selects RX7 yX7_wrongForms yX7_wrongForms ∈ sa_wl := sa_wl_of (List.mem_append_left _ (List.mem_of_getElem? (i := 84) rfl)) rfl
theorem wi_X7_wrongForms : Cond.instanceMethod yX7_wrongForms ∈ sa_wl := sa_wl_of (sa_t6 (List.mem_of_getElem? (i := 15) rfl)) rfl
theorem wc_X7_wrongForms : Cond.code yX7_wrongForms cX7_wrongForms 1 (some .int) ∈ sa_wl := sa_wl_of (sa_t6 (List.mem_of_getElem? (i := 16) rfl)) rfl
theorem wm_X7_360 : Cond.methodLink RX7 360 yX7_findForms ∈ sa_wl := sa_wl_of (sa_t6 (List.mem_of_getElem? (i := 17) rfl)) rfl
theorem ws_X7_findForms : Cond.selects RX7 yX7_findForms yX7_findForms ∈ sa_wl := sa_wl_of (List.mem_append_left _ (List.mem_of_getElem? (i := 85) rfl)) rfl
theorem wi_X7_findForms : Cond.instanceMethod yX7_findForms ∈ sa_wl := sa_wl_of (sa_t6 (List.mem_of_getElem? (i := 19) rfl)) rfl
theorem wc_X7_findForms : Cond.code yX7_findForms cX7_findForms 7 (none) ∈ sa_wl := sa_wl_of (sa_t6 (List.mem_of_getElem? (i := 20) rfl)) rfl
theorem wm_X7_334 : Cond.methodLink RX7 334 yX7_isReduced ∈ sa_wl := sa_wl_of (sa_t6 (List.mem_of_getElem? (i := 21) rfl)) rfl
theorem ws_X7_isReduced : Cond.selects RX7 yX7_isReduced yX7_isReduced ∈ sa_wl := sa_wl_of (List.mem_append_left _ (List.mem_of_getElem? (i := 86) rfl)) rfl
theorem wi_X7_isReduced : Cond.instanceMethod yX7_isReduced ∈ sa_wl := sa_wl_of (sa_t6 (List.mem_of_getElem? (i := 23) rfl)) rfl
theorem wc_X7_isReduced : Cond.code yX7_isReduced cX7_isReduced 9 (some .boolean) ∈ sa_wl := sa_wl_of (sa_t6 (List.mem_of_getElem? (i := 24) rfl)) rfl
theorem wk_X7_355 : Cond.constantLong RX7 355 (2) ∈ sa_wl := sa_wl_of (sa_t6 (List.mem_of_getElem? (i := 25) rfl)) rfl
theorem wm_X7_338 : Cond.methodLink RX7 338 yX7_holdsForm ∈ sa_wl := sa_wl_of (sa_t6 (List.mem_of_getElem? (i := 26) rfl)) rfl
theorem ws_X7_holdsForm : Cond.selects RX7 yX7_holdsForm yX7_holdsForm ∈ sa_wl := sa_wl_of (List.mem_append_left _ (List.mem_of_getElem? (i := 87) rfl)) rfl
theorem wi_X7_holdsForm : Cond.instanceMethod yX7_holdsForm ∈ sa_wl := sa_wl_of (sa_t6 (List.mem_of_getElem? (i := 28) rfl)) rfl
theorem wc_X7_holdsForm : Cond.code yX7_holdsForm cX7_holdsForm 5 (none) ∈ sa_wl := sa_wl_of (sa_t6 (List.mem_of_getElem? (i := 29) rfl)) rfl
theorem wm_X7_342 : Cond.methodLink RX7 342 yX7_follows ∈ sa_wl := sa_wl_of (sa_t6 (List.mem_of_getElem? (i := 30) rfl)) rfl
theorem ws_X7_follows : Cond.selects RX7 yX7_follows yX7_follows ∈ sa_wl := sa_wl_of (List.mem_append_left _ (List.mem_of_getElem? (i := 88) rfl)) rfl
theorem wi_X7_follows : Cond.instanceMethod yX7_follows ∈ sa_wl := sa_wl_of (sa_t6 (List.mem_of_getElem? (i := 32) rfl)) rfl
theorem wc_X7_follows : Cond.code yX7_follows cX7_follows 11 (none) ∈ sa_wl := sa_wl_of (sa_t6 (List.mem_of_getElem? (i := 33) rfl)) rfl
theorem wm_X7_351 : Cond.methodLink RX7 351 yX7_find ∈ sa_wl := sa_wl_of (sa_t6 (List.mem_of_getElem? (i := 34) rfl)) rfl
theorem ws_X7_find : Cond.selects RX7 yX7_find yX7_find ∈ sa_wl := sa_wl_of (List.mem_append_left _ (List.mem_of_getElem? (i := 89) rfl)) rfl
theorem wi_X7_find : Cond.instanceMethod yX7_find ∈ sa_wl := sa_wl_of (sa_t6 (List.mem_of_getElem? (i := 36) rfl)) rfl
theorem wc_X7_find : Cond.code yX7_find cX7_find 6 (some .int) ∈ sa_wl := sa_wl_of (sa_t6 (List.mem_of_getElem? (i := 37) rfl)) rfl
theorem wm_L_110 : Cond.methodLink RL 110 yX7_form ∈ sa_wl := sa_wl_of (sa_t6 (List.mem_of_getElem? (i := 38) rfl)) rfl
theorem wi_X7_form : Cond.instanceMethod yX7_form ∈ sa_wl := sa_wl_of (sa_t6 (List.mem_of_getElem? (i := 39) rfl)) rfl
theorem ws_X7_form : Cond.selects RX7 yX7_form yX7_form ∈ sa_wl := sa_wl_of (sa_t6 (List.mem_of_getElem? (i := 40) rfl)) rfl
theorem wc_X7_form : Cond.code yX7_form cX7_form 4 (some .int) ∈ sa_wl := sa_wl_of (sa_t6 (List.mem_of_getElem? (i := 41) rfl)) rfl
theorem wm_L_114 : Cond.methodLink RL 114 yX7_classOf ∈ sa_wl := sa_wl_of (sa_t6 (List.mem_of_getElem? (i := 42) rfl)) rfl
theorem wi_X7_classOf : Cond.instanceMethod yX7_classOf ∈ sa_wl := sa_wl_of (sa_t6 (List.mem_of_getElem? (i := 43) rfl)) rfl
theorem ws_X7_classOf : Cond.selects RX7 yX7_classOf yX7_classOf ∈ sa_wl := sa_wl_of (sa_t6 (List.mem_of_getElem? (i := 44) rfl)) rfl
theorem wc_X7_classOf : Cond.code yX7_classOf cX7_classOf 3 (some .int) ∈ sa_wl := sa_wl_of (sa_t6 (List.mem_of_getElem? (i := 45) rfl)) rfl
theorem wm_X7_372 : Cond.methodLink RX7 372 yX7_classOfRows ∈ sa_wl := sa_wl_of (sa_t6 (List.mem_of_getElem? (i := 46) rfl)) rfl
theorem ws_X7_classOfRows : Cond.selects RX7 yX7_classOfRows yX7_classOfRows ∈ sa_wl := sa_wl_of (List.mem_append_left _ (List.mem_of_getElem? (i := 90) rfl)) rfl
theorem wi_X7_classOfRows : Cond.instanceMethod yX7_classOfRows ∈ sa_wl := sa_wl_of (sa_t6 (List.mem_of_getElem? (i := 48) rfl)) rfl
theorem wc_X7_classOfRows : Cond.code yX7_classOfRows cX7_classOfRows 8 (some .int) ∈ sa_wl := sa_wl_of (sa_t6 (List.mem_of_getElem? (i := 49) rfl)) rfl
theorem wm_X7_363 : Cond.methodLink RX7 363 yX7_traceOfBase ∈ sa_wl := sa_wl_of (sa_t6 (List.mem_of_getElem? (i := 50) rfl)) rfl
theorem ws_X7_traceOfBase : Cond.selects RX7 yX7_traceOfBase yX7_traceOfBase ∈ sa_wl := sa_wl_of (List.mem_append_left _ (List.mem_of_getElem? (i := 91) rfl)) rfl
theorem wi_X7_traceOfBase : Cond.instanceMethod yX7_traceOfBase ∈ sa_wl := sa_wl_of (sa_t6 (List.mem_of_getElem? (i := 52) rfl)) rfl
theorem wc_X7_traceOfBase : Cond.code yX7_traceOfBase cX7_traceOfBase 1 (some .long) ∈ sa_wl := sa_wl_of (sa_t6 (List.mem_of_getElem? (i := 53) rfl)) rfl
theorem wm_X7_366 : Cond.methodLink RX7 366 yX7_reduced ∈ sa_wl := sa_wl_of (sa_t6 (List.mem_of_getElem? (i := 54) rfl)) rfl
theorem ws_X7_reduced : Cond.selects RX7 yX7_reduced yX7_reduced ∈ sa_wl := sa_wl_of (List.mem_append_left _ (List.mem_of_getElem? (i := 92) rfl)) rfl
theorem wi_X7_reduced : Cond.instanceMethod yX7_reduced ∈ sa_wl := sa_wl_of (sa_t6 (List.mem_of_getElem? (i := 56) rfl)) rfl
theorem wc_X7_reduced : Cond.code yX7_reduced cX7_reduced 12 (some .int) ∈ sa_wl := sa_wl_of (sa_t6 (List.mem_of_getElem? (i := 57) rfl)) rfl
theorem wm_L_118 : Cond.methodLink RL 118 yX7_order ∈ sa_wl := sa_wl_of (sa_t6 (List.mem_of_getElem? (i := 58) rfl)) rfl
theorem wi_X7_order : Cond.instanceMethod yX7_order ∈ sa_wl := sa_wl_of (sa_t6 (List.mem_of_getElem? (i := 59) rfl)) rfl
theorem ws_X7_order : Cond.selects RX7 yX7_order yX7_order ∈ sa_wl := sa_wl_of (sa_t6 (List.mem_of_getElem? (i := 60) rfl)) rfl
theorem wc_X7_order : Cond.code yX7_order cX7_order 7 (some .int) ∈ sa_wl := sa_wl_of (sa_t6 (List.mem_of_getElem? (i := 61) rfl)) rfl
theorem wm_X7_375 : Cond.methodLink RX7 375 yX7_represents ∈ sa_wl := sa_wl_of (sa_t6 (List.mem_of_getElem? (i := 62) rfl)) rfl
theorem ws_X7_represents : Cond.selects RX7 yX7_represents yX7_represents ∈ sa_wl := sa_wl_of (List.mem_append_left _ (List.mem_of_getElem? (i := 93) rfl)) rfl
theorem wi_X7_represents : Cond.instanceMethod yX7_represents ∈ sa_wl := sa_wl_of (sa_t6 (List.mem_of_getElem? (i := 64) rfl)) rfl
theorem wc_X7_represents : Cond.code yX7_represents cX7_represents 3 (none) ∈ sa_wl := sa_wl_of (sa_t6 (List.mem_of_getElem? (i := 65) rfl)) rfl
theorem wm_L_122 : Cond.methodLink RL 122 yX7_first ∈ sa_wl := sa_wl_of (sa_t6 (List.mem_of_getElem? (i := 66) rfl)) rfl
theorem wi_X7_first : Cond.instanceMethod yX7_first ∈ sa_wl := sa_wl_of (sa_t6 (List.mem_of_getElem? (i := 67) rfl)) rfl
theorem ws_X7_first : Cond.selects RX7 yX7_first yX7_first ∈ sa_wl := sa_wl_of (sa_t6 (List.mem_of_getElem? (i := 68) rfl)) rfl
theorem wc_X7_first : Cond.code yX7_first cX7_first 27 (some .long) ∈ sa_wl := sa_wl_of (sa_t6 (List.mem_of_getElem? (i := 69) rfl)) rfl
theorem wk_X7_379 : Cond.constantLong RX7 379 (1000000000000000) ∈ sa_wl := sa_wl_of (sa_t6 (List.mem_of_getElem? (i := 70) rfl)) rfl
theorem wk_X7_381 : Cond.constantLong RX7 381 (-1000000000000000) ∈ sa_wl := sa_wl_of (sa_t6 (List.mem_of_getElem? (i := 71) rfl)) rfl
theorem wm_L_126 : Cond.methodLink RL 126 yX7_count ∈ sa_wl := sa_wl_of (sa_t6 (List.mem_of_getElem? (i := 72) rfl)) rfl
theorem wi_X7_count : Cond.instanceMethod yX7_count ∈ sa_wl := sa_wl_of (sa_t6 (List.mem_of_getElem? (i := 73) rfl)) rfl
theorem ws_X7_count : Cond.selects RX7 yX7_count yX7_count ∈ sa_wl := sa_wl_of (sa_t6 (List.mem_of_getElem? (i := 74) rfl)) rfl
theorem wc_X7_count : Cond.code yX7_count cX7_count 2 (some .int) ∈ sa_wl := sa_wl_of (sa_t6 (List.mem_of_getElem? (i := 75) rfl)) rfl
theorem in_X0 : ∀ w ∈ u_ws RX0 TX0 3, w ∈ sa_wl := fun w hw => sa_wl_of ((by decide +kernel : ∀ w ∈ u_ws RX0 TX0 3, w ∈ lw_tbl) w hw) ((by decide +kernel : ∀ w ∈ u_ws RX0 TX0 3, goodWord w = true) w hw)
theorem in_X1 : ∀ w ∈ u_ws RX1 TX1 14, w ∈ sa_wl := fun w hw => sa_wl_of ((by decide +kernel : ∀ w ∈ u_ws RX1 TX1 14, w ∈ lw_tbl) w hw) ((by decide +kernel : ∀ w ∈ u_ws RX1 TX1 14, goodWord w = true) w hw)
theorem in_X2 : ∀ w ∈ u_ws RX2 TX2 6, w ∈ sa_wl := fun w hw => sa_wl_of ((by decide +kernel : ∀ w ∈ u_ws RX2 TX2 6, w ∈ lw_tbl) w hw) ((by decide +kernel : ∀ w ∈ u_ws RX2 TX2 6, goodWord w = true) w hw)
theorem in_X3 : ∀ w ∈ u_ws RX3 TX3 4, w ∈ sa_wl := fun w hw => sa_wl_of ((by decide +kernel : ∀ w ∈ u_ws RX3 TX3 4, w ∈ lw_tbl) w hw) ((by decide +kernel : ∀ w ∈ u_ws RX3 TX3 4, goodWord w = true) w hw)
theorem in_X4 : ∀ w ∈ u_ws RX4 TX4 12, w ∈ sa_wl := fun w hw => sa_wl_of ((by decide +kernel : ∀ w ∈ u_ws RX4 TX4 12, w ∈ lw_tbl) w hw) ((by decide +kernel : ∀ w ∈ u_ws RX4 TX4 12, goodWord w = true) w hw)
theorem in_X5 : ∀ w ∈ u_ws RX5 TX5 9, w ∈ sa_wl := fun w hw => sa_wl_of ((by decide +kernel : ∀ w ∈ u_ws RX5 TX5 9, w ∈ lw_tbl) w hw) ((by decide +kernel : ∀ w ∈ u_ws RX5 TX5 9, goodWord w = true) w hw)
theorem in_X6 : ∀ w ∈ u_ws RX6 TX6 10, w ∈ sa_wl := fun w hw => sa_wl_of ((by decide +kernel : ∀ w ∈ u_ws RX6 TX6 10, w ∈ lw_tbl) w hw) ((by decide +kernel : ∀ w ∈ u_ws RX6 TX6 10, goodWord w = true) w hw)
theorem in_X7 : ∀ w ∈ u_ws RX7 TX7 45, w ∈ sa_wl := fun w hw => sa_wl_of ((by decide +kernel : ∀ w ∈ u_ws RX7 TX7 45, w ∈ lw_tbl) w hw) ((by decide +kernel : ∀ w ∈ u_ws RX7 TX7 45, goodWord w = true) w hw)
