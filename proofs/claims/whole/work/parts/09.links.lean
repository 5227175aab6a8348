theorem bp_m10 : (Int8.ofInt (-10)).toInt32 = ((-10) : Int32) := by decide
theorem bp_m5 : (Int8.ofInt (-5)).toInt32 = ((-5) : Int32) := by decide
theorem bp_m4 : (Int8.ofInt (-4)).toInt32 = ((-4) : Int32) := by decide
theorem bp_m3 : (Int8.ofInt (-3)).toInt32 = ((-3) : Int32) := by decide
theorem bp_m2 : (Int8.ofInt (-2)).toInt32 = ((-2) : Int32) := by decide
theorem bp_6 : (Int8.ofInt (6)).toInt32 = (6 : Int32) := by decide
theorem bp_7 : (Int8.ofInt (7)).toInt32 = (7 : Int32) := by decide
theorem bp_8 : (Int8.ofInt (8)).toInt32 = (8 : Int32) := by decide
theorem bp_9 : (Int8.ofInt (9)).toInt32 = (9 : Int32) := by decide
theorem bp_10 : (Int8.ofInt (10)).toInt32 = (10 : Int32) := by decide
theorem bp_15 : (Int8.ofInt (15)).toInt32 = (15 : Int32) := by decide
theorem bp_16 : (Int8.ofInt (16)).toInt32 = (16 : Int32) := by decide
theorem bp_20 : (Int8.ofInt (20)).toInt32 = (20 : Int32) := by decide
theorem bp_21 : (Int8.ofInt (21)).toInt32 = (21 : Int32) := by decide
theorem bp_22 : (Int8.ofInt (22)).toInt32 = (22 : Int32) := by decide
theorem bp_23 : (Int8.ofInt (23)).toInt32 = (23 : Int32) := by decide
theorem bp_30 : (Int8.ofInt (30)).toInt32 = (30 : Int32) := by decide
theorem bp_32 : (Int8.ofInt (32)).toInt32 = (32 : Int32) := by decide
theorem bp_37 : (Int8.ofInt (37)).toInt32 = (37 : Int32) := by decide
theorem bp_40 : (Int8.ofInt (40)).toInt32 = (40 : Int32) := by decide
theorem bp_44 : (Int8.ofInt (44)).toInt32 = (44 : Int32) := by decide
theorem bp_48 : (Int8.ofInt (48)).toInt32 = (48 : Int32) := by decide
theorem bp_57 : (Int8.ofInt (57)).toInt32 = (57 : Int32) := by decide
theorem bp_59 : (Int8.ofInt (59)).toInt32 = (59 : Int32) := by decide
theorem bp_60 : (Int8.ofInt (60)).toInt32 = (60 : Int32) := by decide
theorem bp_63 : (Int8.ofInt (63)).toInt32 = (63 : Int32) := by decide
theorem bp_74 : (Int8.ofInt (74)).toInt32 = (74 : Int32) := by decide
theorem bp_90 : (Int8.ofInt (90)).toInt32 = (90 : Int32) := by decide
theorem bp_96 : (Int8.ofInt (96)).toInt32 = (96 : Int32) := by decide
theorem bp_97 : (Int8.ofInt (97)).toInt32 = (97 : Int32) := by decide
theorem bp_98 : (Int8.ofInt (98)).toInt32 = (98 : Int32) := by decide
theorem bp_101 : (Int8.ofInt (101)).toInt32 = (101 : Int32) := by decide
theorem bp_103 : (Int8.ofInt (103)).toInt32 = (103 : Int32) := by decide
theorem bp_104 : (Int8.ofInt (104)).toInt32 = (104 : Int32) := by decide
theorem bp_105 : (Int8.ofInt (105)).toInt32 = (105 : Int32) := by decide
theorem bp_110 : (Int8.ofInt (110)).toInt32 = (110 : Int32) := by decide
theorem bp_111 : (Int8.ofInt (111)).toInt32 = (111 : Int32) := by decide
theorem bp_115 : (Int8.ofInt (115)).toInt32 = (115 : Int32) := by decide
theorem bp_116 : (Int8.ofInt (116)).toInt32 = (116 : Int32) := by decide
theorem bp_117 : (Int8.ofInt (117)).toInt32 = (117 : Int32) := by decide
theorem bp_122 : (Int8.ofInt (122)).toInt32 = (122 : Int32) := by decide
theorem bp_127 : (Int8.ofInt (127)).toInt32 = (127 : Int32) := by decide
theorem ic_m1 : Int32.ofInt (-1) = ((-1) : Int32) := by decide
theorem ic_0 : Int32.ofInt (0) = (0 : Int32) := by decide
theorem ic_1 : Int32.ofInt (1) = (1 : Int32) := by decide
theorem ic_2 : Int32.ofInt (2) = (2 : Int32) := by decide
theorem ic_3 : Int32.ofInt (3) = (3 : Int32) := by decide
theorem ic_4 : Int32.ofInt (4) = (4 : Int32) := by decide
theorem ic_5 : Int32.ofInt (5) = (5 : Int32) := by decide
theorem sp_150 : (Int16.ofInt (150)).toInt32 = (150 : Int32) := by decide
theorem sp_154 : (Int16.ofInt (154)).toInt32 = (154 : Int32) := by decide
theorem sp_176 : (Int16.ofInt (176)).toInt32 = (176 : Int32) := by decide
theorem sp_200 : (Int16.ofInt (200)).toInt32 = (200 : Int32) := by decide
theorem sp_250 : (Int16.ofInt (250)).toInt32 = (250 : Int32) := by decide
theorem sp_427 : (Int16.ofInt (427)).toInt32 = (427 : Int32) := by decide
theorem sp_600 : (Int16.ofInt (600)).toInt32 = (600 : Int32) := by decide
theorem sp_999 : (Int16.ofInt (999)).toInt32 = (999 : Int32) := by decide
theorem wd_993 : Cond.constantLong "SwimLanesModel" 72 (3) ∈ j_gt := j_in 993 (by decide +kernel) rfl
theorem wd_997 : Cond.constantLong "SwimLanesModel" 82 (2) ∈ j_gt := j_in 997 (by decide +kernel) rfl
theorem wd_1017 : Cond.constantLong "SwimLanesModel" 95 (5) ∈ j_gt := j_in 1017 (by decide +kernel) rfl
theorem wd_1018 : Cond.constantLong "SwimLanesModel" 97 (20) ∈ j_gt := j_in 1018 (by decide +kernel) rfl
theorem wd_1019 : Cond.constantLong "SwimLanesModel" 99 (90) ∈ j_gt := j_in 1019 (by decide +kernel) rfl
theorem wd_1050 : Cond.constantLong "SwimLanesModel" 138 (60) ∈ j_gt := j_in 1050 (by decide +kernel) rfl
theorem wd_1101 : Cond.constant "SwimLanesModel" 150 (1000000) ∈ j_gt := j_in 1101 (by decide +kernel) rfl
theorem wd_1129 : Cond.constantLong "SwimLanesModel" 163 (-1) ∈ j_gt := j_in 1129 (by decide +kernel) rfl
theorem wd_1146 : Cond.constantLong "SwimLanesModel" 174 (9) ∈ j_gt := j_in 1146 (by decide +kernel) rfl
theorem wd_1167 : Cond.constantLong "SwimLanesModel" 186 (200) ∈ j_gt := j_in 1167 (by decide +kernel) rfl
theorem wd_1168 : Cond.constantLong "SwimLanesModel" 188 (6) ∈ j_gt := j_in 1168 (by decide +kernel) rfl
theorem wd_1201 : Cond.constantLong "SwimLanesModel" 204 (10) ∈ j_gt := j_in 1201 (by decide +kernel) rfl
theorem wd_1213 : Cond.constantLong "SwimLanesModel" 213 (999999) ∈ j_gt := j_in 1213 (by decide +kernel) rfl
theorem wd_1214 : Cond.constantLong "SwimLanesModel" 215 (1103515245) ∈ j_gt := j_in 1214 (by decide +kernel) rfl
theorem wd_1215 : Cond.constantLong "SwimLanesModel" 217 (12345) ∈ j_gt := j_in 1215 (by decide +kernel) rfl
theorem wd_1216 : Cond.constantLong "SwimLanesModel" 219 (2147483648) ∈ j_gt := j_in 1216 (by decide +kernel) rfl
theorem wd_1217 : Cond.constantLong "SwimLanesModel" 221 (65536) ∈ j_gt := j_in 1217 (by decide +kernel) rfl
theorem wd_1218 : Cond.constantLong "SwimLanesModel" 223 (4) ∈ j_gt := j_in 1218 (by decide +kernel) rfl
theorem wd_1227 : Cond.constantLong "SwimLanesModel" 228 (127) ∈ j_gt := j_in 1227 (by decide +kernel) rfl
theorem wd_1243 : Cond.constantLong "SwimLanesModel" 233 (97) ∈ j_gt := j_in 1243 (by decide +kernel) rfl
theorem wd_1244 : Cond.constantLong "SwimLanesModel" 235 (122) ∈ j_gt := j_in 1244 (by decide +kernel) rfl
theorem wd_1248 : Cond.constantLong "SwimLanesModel" 237 (48) ∈ j_gt := j_in 1248 (by decide +kernel) rfl
theorem wd_1249 : Cond.constantLong "SwimLanesModel" 239 (57) ∈ j_gt := j_in 1249 (by decide +kernel) rfl
theorem wd_1311 : Cond.constantLong "SwimLanesModel" 291 (31) ∈ j_gt := j_in 1311 (by decide +kernel) rfl
theorem wd_1310 : Cond.constantLong "SwimLanesModel" 293 (1279) ∈ j_gt := j_in 1310 (by decide +kernel) rfl
theorem wd_888 : Cond.constantLong "SwimLanes$Bath" 127 (31) ∈ j_gt := j_in 888 (by decide +kernel) rfl
theorem wd_690 : Cond.constant "SwimLanes$Plan" 27 (1000000) ∈ j_gt := j_in 690 (by decide +kernel) rfl
theorem wd_828 : Cond.constantLong "SwimLanes" 369 (10) ∈ j_gt := j_in 828 (by decide +kernel) rfl
theorem wd_841 : Cond.constantLong "SwimLanes" 308 (1103515245) ∈ j_gt := j_in 841 (by decide +kernel) rfl
theorem wd_842 : Cond.constantLong "SwimLanes" 310 (12345) ∈ j_gt := j_in 842 (by decide +kernel) rfl
theorem wd_843 : Cond.constantLong "SwimLanes" 312 (2147483648) ∈ j_gt := j_in 843 (by decide +kernel) rfl
theorem wd_837 : Cond.constant "SwimLanes" 270 (999999) ∈ j_gt := j_in 837 (by decide +kernel) rfl
theorem wd_844 : Cond.constantLong "SwimLanes" 275 (65536) ∈ j_gt := j_in 844 (by decide +kernel) rfl
theorem wd_845 : Cond.constantLong "SwimLanes" 277 (4) ∈ j_gt := j_in 845 (by decide +kernel) rfl
theorem wd_882 : Cond.constantLong "SwimLanes" 286 (1279) ∈ j_gt := j_in 882 (by decide +kernel) rfl
theorem wd_883 : Cond.constantLong "SwimLanes" 288 (31) ∈ j_gt := j_in 883 (by decide +kernel) rfl
theorem fl_X4_28 : j_fln RX4 28 4 3 := ⟨by decide, by decide, rfl, Or.inl (j_in 139 (by decide +kernel) rfl)⟩
theorem fl_X4_32 : j_fln RX4 32 0 9 := ⟨by decide, by decide, rfl, Or.inr (j_inN 255 (by decide +kernel))⟩
theorem fl_X4_15 : j_fln RX4 15 4 1 := ⟨by decide, by decide, rfl, Or.inl (j_in 136 (by decide +kernel) rfl)⟩
theorem fl_X4_18 : j_fln RX4 18 4 2 := ⟨by decide, by decide, rfl, Or.inl (j_in 137 (by decide +kernel) rfl)⟩
theorem fl_X4_9 : j_fln RX4 9 4 0 := ⟨by decide, by decide, rfl, Or.inl (j_in 135 (by decide +kernel) rfl)⟩
theorem fl_X10_20 : j_fln RX10 20 10 3 := ⟨by decide, by decide, rfl, Or.inl (j_in 901 (by decide +kernel) rfl)⟩
theorem fl_X10_7 : j_fln RX10 7 10 0 := ⟨by decide, by decide, rfl, Or.inl (j_in 898 (by decide +kernel) rfl)⟩
theorem fl_X10_27 : j_fln RX10 27 10 6 := ⟨by decide, by decide, rfl, Or.inl (j_in 904 (by decide +kernel) rfl)⟩
theorem fl_X10_111 : j_fln RX10 111 10 7 := ⟨by decide, by decide, rfl, Or.inl (j_in 905 (by decide +kernel) rfl)⟩
theorem fl_X10_115 : j_fln RX10 115 10 8 := ⟨by decide, by decide, rfl, Or.inl (j_in 906 (by decide +kernel) rfl)⟩
theorem fl_X10_118 : j_fln RX10 118 10 9 := ⟨by decide, by decide, rfl, Or.inl (j_in 907 (by decide +kernel) rfl)⟩
theorem fl_X10_30 : j_fln RX10 30 10 10 := ⟨by decide, by decide, rfl, Or.inl (j_in 908 (by decide +kernel) rfl)⟩
theorem fl_X10_171 : j_fln RX10 171 10 14 := ⟨by decide, by decide, rfl, Or.inl (j_in 912 (by decide +kernel) rfl)⟩
theorem fl_X10_33 : j_fln RX10 33 10 11 := ⟨by decide, by decide, rfl, Or.inl (j_in 909 (by decide +kernel) rfl)⟩
theorem fl_X10_36 : j_fln RX10 36 10 12 := ⟨by decide, by decide, rfl, Or.inl (j_in 910 (by decide +kernel) rfl)⟩
theorem fl_X10_39 : j_fln RX10 39 10 13 := ⟨by decide, by decide, rfl, Or.inl (j_in 911 (by decide +kernel) rfl)⟩
theorem fl_X10_42 : j_fln RX10 42 10 15 := ⟨by decide, by decide, rfl, Or.inl (j_in 913 (by decide +kernel) rfl)⟩
theorem fl_X10_45 : j_fln RX10 45 10 16 := ⟨by decide, by decide, rfl, Or.inl (j_in 914 (by decide +kernel) rfl)⟩
theorem fl_X10_201 : j_fln RX10 201 10 4 := ⟨by decide, by decide, rfl, Or.inl (j_in 902 (by decide +kernel) rfl)⟩
theorem fl_X10_23 : j_fln RX10 23 10 5 := ⟨by decide, by decide, rfl, Or.inl (j_in 903 (by decide +kernel) rfl)⟩
theorem fl_X10_48 : j_fln RX10 48 10 17 := ⟨by decide, by decide, rfl, Or.inl (j_in 915 (by decide +kernel) rfl)⟩
theorem fl_X10_230 : j_fln RX10 230 10 19 := ⟨by decide, by decide, rfl, Or.inl (j_in 917 (by decide +kernel) rfl)⟩
theorem fl_X10_51 : j_fln RX10 51 10 18 := ⟨by decide, by decide, rfl, Or.inl (j_in 916 (by decide +kernel) rfl)⟩
theorem fl_X10_241 : j_fln RX10 241 10 20 := ⟨by decide, by decide, rfl, Or.inl (j_in 918 (by decide +kernel) rfl)⟩
theorem fl_X10_244 : j_fln RX10 244 10 21 := ⟨by decide, by decide, rfl, Or.inl (j_in 919 (by decide +kernel) rfl)⟩
theorem fl_X10_247 : j_fln RX10 247 10 22 := ⟨by decide, by decide, rfl, Or.inl (j_in 920 (by decide +kernel) rfl)⟩
theorem fl_X10_250 : j_fln RX10 250 10 23 := ⟨by decide, by decide, rfl, Or.inl (j_in 921 (by decide +kernel) rfl)⟩
theorem fl_X10_57 : j_fln RX10 57 10 25 := ⟨by decide, by decide, rfl, Or.inl (j_in 923 (by decide +kernel) rfl)⟩
theorem fl_X10_54 : j_fln RX10 54 10 24 := ⟨by decide, by decide, rfl, Or.inl (j_in 922 (by decide +kernel) rfl)⟩
theorem fl_X10_13 : j_fln RX10 13 10 1 := ⟨by decide, by decide, rfl, Or.inl (j_in 899 (by decide +kernel) rfl)⟩
theorem fl_X10_16 : j_fln RX10 16 10 2 := ⟨by decide, by decide, rfl, Or.inl (j_in 900 (by decide +kernel) rfl)⟩
theorem fl_X0_11 : j_fln RX0 11 0 1 := ⟨by decide, by decide, rfl, Or.inl (j_in 236 (by decide +kernel) rfl)⟩
theorem fl_X0_15 : j_fln RX0 15 0 2 := ⟨by decide, by decide, rfl, Or.inl (j_in 239 (by decide +kernel) rfl)⟩
theorem fl_X0_24 : j_fln RX0 24 0 5 := ⟨by decide, by decide, rfl, Or.inl (j_in 246 (by decide +kernel) rfl)⟩
theorem fl_X0_58 : j_fln RX0 58 0 9 := ⟨by decide, by decide, rfl, Or.inl (j_in 254 (by decide +kernel) rfl)⟩
theorem fl_X0_62 : j_fln RX0 62 0 10 := ⟨by decide, by decide, rfl, Or.inl (j_in 257 (by decide +kernel) rfl)⟩
theorem fl_X0_65 : j_fln RX0 65 0 11 := ⟨by decide, by decide, rfl, Or.inl (j_in 259 (by decide +kernel) rfl)⟩
theorem fl_X0_18 : j_fln RX0 18 0 3 := ⟨by decide, by decide, rfl, Or.inl (j_in 242 (by decide +kernel) rfl)⟩
theorem fl_X0_21 : j_fln RX0 21 0 4 := ⟨by decide, by decide, rfl, Or.inl (j_in 244 (by decide +kernel) rfl)⟩
theorem fl_X0_27 : j_fln RX0 27 0 6 := ⟨by decide, by decide, rfl, Or.inl (j_in 249 (by decide +kernel) rfl)⟩
theorem fl_X0_30 : j_fln RX0 30 0 7 := ⟨by decide, by decide, rfl, Or.inl (j_in 250 (by decide +kernel) rfl)⟩
theorem fl_X0_36 : j_fln RX0 36 0 0 := ⟨by decide, by decide, rfl, Or.inl (j_in 234 (by decide +kernel) rfl)⟩
theorem fl_X0_33 : j_fln RX0 33 0 8 := ⟨by decide, by decide, rfl, Or.inl (j_in 251 (by decide +kernel) rfl)⟩
theorem fl_X7_15 : j_fln RX7 15 7 1 := ⟨by decide, by decide, rfl, Or.inl (j_in 158 (by decide +kernel) rfl)⟩
theorem fl_X7_11 : j_fln RX7 11 7 0 := ⟨by decide, by decide, rfl, Or.inl (j_in 157 (by decide +kernel) rfl)⟩
theorem fl_X7_22 : j_fln RX7 22 7 3 := ⟨by decide, by decide, rfl, Or.inl (j_in 162 (by decide +kernel) rfl)⟩
theorem fl_X7_19 : j_fln RX7 19 7 2 := ⟨by decide, by decide, rfl, Or.inl (j_in 160 (by decide +kernel) rfl)⟩
theorem fl_X7_77 : j_fln RX7 77 0 1 := ⟨by decide, by decide, rfl, Or.inr (j_inN 238 (by decide +kernel))⟩
theorem fl_X7_81 : j_fln RX7 81 0 5 := ⟨by decide, by decide, rfl, Or.inr (j_inN 248 (by decide +kernel))⟩
theorem fl_X7_88 : j_fln RX7 88 0 2 := ⟨by decide, by decide, rfl, Or.inr (j_inN 241 (by decide +kernel))⟩
theorem fl_X7_59 : j_fln RX7 59 0 9 := ⟨by decide, by decide, rfl, Or.inr (j_inN 256 (by decide +kernel))⟩
theorem fl_X9_75 : j_fln RX9 75 9 0 := ⟨by decide, by decide, rfl, Or.inl (j_in 286 (by decide +kernel) rfl)⟩
theorem fl_X9_82 : j_fln RX9 82 0 9 := ⟨by decide, by decide, rfl, Or.inr (j_inN 253 (by decide +kernel))⟩
theorem fl_X9_44 : j_fln RX9 44 9 9 := ⟨by decide, by decide, rfl, Or.inl (j_in 295 (by decide +kernel) rfl)⟩
theorem fl_X9_100 : j_fln RX9 100 0 1 := ⟨by decide, by decide, rfl, Or.inr (j_inN 237 (by decide +kernel))⟩
theorem fl_X9_48 : j_fln RX9 48 9 10 := ⟨by decide, by decide, rfl, Or.inl (j_in 296 (by decide +kernel) rfl)⟩
theorem fl_X9_113 : j_fln RX9 113 0 2 := ⟨by decide, by decide, rfl, Or.inr (j_inN 240 (by decide +kernel))⟩
theorem fl_X9_116 : j_fln RX9 116 0 10 := ⟨by decide, by decide, rfl, Or.inr (j_inN 258 (by decide +kernel))⟩
theorem fl_X9_103 : j_fln RX9 103 0 5 := ⟨by decide, by decide, rfl, Or.inr (j_inN 247 (by decide +kernel))⟩
theorem fl_X9_51 : j_fln RX9 51 9 11 := ⟨by decide, by decide, rfl, Or.inl (j_in 297 (by decide +kernel) rfl)⟩
theorem fl_X9_29 : j_fln RX9 29 9 5 := ⟨by decide, by decide, rfl, Or.inl (j_in 291 (by decide +kernel) rfl)⟩
theorem fl_X9_135 : j_fln RX9 135 7 1 := ⟨by decide, by decide, rfl, Or.inr (j_inN 159 (by decide +kernel))⟩
theorem fl_X9_79 : j_fln RX9 79 9 1 := ⟨by decide, by decide, rfl, Or.inl (j_in 287 (by decide +kernel) rfl)⟩
theorem fl_X9_146 : j_fln RX9 146 7 2 := ⟨by decide, by decide, rfl, Or.inr (j_inN 161 (by decide +kernel))⟩
theorem fl_X9_169 : j_fln RX9 169 0 3 := ⟨by decide, by decide, rfl, Or.inr (j_inN 243 (by decide +kernel))⟩
theorem fl_X9_172 : j_fln RX9 172 0 4 := ⟨by decide, by decide, rfl, Or.inr (j_inN 245 (by decide +kernel))⟩
theorem fl_X9_302 : j_fln RX9 302 0 8 := ⟨by decide, by decide, rfl, Or.inr (j_inN 252 (by decide +kernel))⟩
theorem fl_X9_22 : j_fln RX9 22 9 4 := ⟨by decide, by decide, rfl, Or.inl (j_in 290 (by decide +kernel) rfl)⟩
theorem fl_X9_220 : j_fln RX9 220 4 2 := ⟨by decide, by decide, rfl, Or.inr (j_inN 138 (by decide +kernel))⟩
theorem fl_X9_217 : j_fln RX9 217 4 3 := ⟨by decide, by decide, rfl, Or.inr (j_inN 140 (by decide +kernel))⟩
theorem fl_X9_15 : j_fln RX9 15 9 3 := ⟨by decide, by decide, rfl, Or.inl (j_in 289 (by decide +kernel) rfl)⟩
theorem fl_X9_242 : j_fln RX9 242 0 11 := ⟨by decide, by decide, rfl, Or.inr (j_inN 260 (by decide +kernel))⟩
theorem fl_X9_33 : j_fln RX9 33 9 6 := ⟨by decide, by decide, rfl, Or.inl (j_in 292 (by decide +kernel) rfl)⟩
theorem fl_X9_37 : j_fln RX9 37 9 7 := ⟨by decide, by decide, rfl, Or.inl (j_in 293 (by decide +kernel) rfl)⟩
theorem fl_X9_41 : j_fln RX9 41 9 8 := ⟨by decide, by decide, rfl, Or.inl (j_in 294 (by decide +kernel) rfl)⟩
abbrev md_X4_place : j_Md := (yX4_place, cX4_place, 7, none)
abbrev md_X10_in : j_Md := (yX10_in, cX10_in, 6, some .boolean)
abbrev md_X10_bad : j_Md := (yX10_bad, cX10_bad, 2, some .int)
abbrev md_X10_no : j_Md := (yX10_no, cX10_no, 1, some .int)
abbrev md_X10_full : j_Md := (yX10_full, cX10_full, 1, some .int)
abbrev md_X10_bits : j_Md := (yX10_bits, cX10_bits, 3, some .int)
abbrev md_X10_has : j_Md := (yX10_has, cX10_has, 2, some .boolean)
abbrev md_X10_begin : j_Md := (yX10_begin, cX10_begin, 2, none)
abbrev md_X10_many : j_Md := (yX10_many, cX10_many, 1, some .int)
abbrev md_X10_isOne : j_Md := (yX10_isOne, cX10_isOne, 2, some .boolean)
abbrev md_X10_isLane : j_Md := (yX10_isLane, cX10_isLane, 1, some .boolean)
abbrev md_X10_isOpen : j_Md := (yX10_isOpen, cX10_isOpen, 2, some .boolean)
abbrev md_X10_whoIsIn : j_Md := (yX10_whoIsIn, cX10_whoIsIn, 4, some .int)
abbrev md_X10_bath : j_Md := (yX10_bath, cX10_bath, 2, some .int)
abbrev md_X10_sign : j_Md := (yX10_sign, cX10_sign, 4, some .int)
abbrev md_X10_shut : j_Md := (yX10_shut, cX10_shut, 4, some .int)
abbrev md_X10_layOne : j_Md := (yX10_layOne, cX10_layOne, 5, none)
abbrev md_X10_one : j_Md := (yX10_one, cX10_one, 4, some .int)
abbrev md_X10_secondsAs : j_Md := (yX10_secondsAs, cX10_secondsAs, 6, some .int)
abbrev md_X10_believesAs : j_Md := (yX10_believesAs, cX10_believesAs, 2, some .int)
abbrev md_X10_signOf : j_Md := (yX10_signOf, cX10_signOf, 1, some .int)
abbrev md_X10_paceOf : j_Md := (yX10_paceOf, cX10_paceOf, 2, some .int)
abbrev md_X10_layHand : j_Md := (yX10_layHand, cX10_layHand, 2, none)
abbrev md_X10_layOthers : j_Md := (yX10_layOthers, cX10_layOthers, 4, none)
abbrev md_X10_secondsIn : j_Md := (yX10_secondsIn, cX10_secondsIn, 3, some .int)
abbrev md_X10_keep : j_Md := (yX10_keep, cX10_keep, 3, none)
abbrev md_X10_goes : j_Md := (yX10_goes, cX10_goes, 4, some .int)
abbrev md_X10_minute : j_Md := (yX10_minute, cX10_minute, 7, some .int)
abbrev md_X10_undo : j_Md := (yX10_undo, cX10_undo, 3, some .int)
abbrev md_X10_of : j_Md := (yX10_of, cX10_of, 3, some .int)
abbrev md_X10_lane : j_Md := (yX10_lane, cX10_lane, 3, some .int)
abbrev md_X10_seconds : j_Md := (yX10_seconds, cX10_seconds, 5, some .int)
abbrev md_X10_lengths : j_Md := (yX10_lengths, cX10_lengths, 4, some .int)
abbrev md_X10_bestOf : j_Md := (yX10_bestOf, cX10_bestOf, 6, some .int)
abbrev md_X10_best : j_Md := (yX10_best, cX10_best, 2, some .int)
abbrev md_X10_sumOthers : j_Md := (yX10_sumOthers, cX10_sumOthers, 5, some .int)
abbrev md_X10_costOf : j_Md := (yX10_costOf, cX10_costOf, 4, some .int)
abbrev md_X10_cost : j_Md := (yX10_cost, cX10_cost, 3, some .int)
abbrev md_X10_where : j_Md := (yX10_where, cX10_where, 6, some .int)
abbrev md_X10_obey : j_Md := (yX10_obey, cX10_obey, 5, some .int)
abbrev md_X10_sumAll : j_Md := (yX10_sumAll, cX10_sumAll, 3, some .int)
abbrev md_X10_layLies : j_Md := (yX10_layLies, cX10_layLies, 4, some .boolean)
abbrev md_X10_all : j_Md := (yX10_all, cX10_all, 6, some .int)
abbrev md_X10_changes : j_Md := (yX10_changes, cX10_changes, 6, some .int)
abbrev md_X10_layStart : j_Md := (yX10_layStart, cX10_layStart, 3, none)
abbrev md_X10_isRowWell : j_Md := (yX10_isRowWell, cX10_isRowWell, 5, some .boolean)
abbrev md_X10_layRow : j_Md := (yX10_layRow, cX10_layRow, 9, none)
abbrev md_X10_order : j_Md := (yX10_order, cX10_order, 10, some .int)
abbrev md_X10_apart : j_Md := (yX10_apart, cX10_apart, 4, some .int)
abbrev md_X10_note : j_Md := (yX10_note, cX10_note, 7, some .int)
abbrev md_X10_forget : j_Md := (yX10_forget, cX10_forget, 2, some .int)
abbrev md_X10_canBe : j_Md := (yX10_canBe, cX10_canBe, 7, some .boolean)
abbrev md_X10_kindsOf : j_Md := (yX10_kindsOf, cX10_kindsOf, 4, some .int)
abbrev md_X10_is : j_Md := (yX10_is, cX10_is, 5, some .int)
abbrev md_X10_mostAlike : j_Md := (yX10_mostAlike, cX10_mostAlike, 9, some .int)
abbrev md_X10_look : j_Md := (yX10_look, cX10_look, 7, some .int)
abbrev md_X10_touch : j_Md := (yX10_touch, cX10_touch, 6, some .int)
abbrev md_X10_fraction : j_Md := (yX10_fraction, cX10_fraction, 11, none)
abbrev md_X10_counts : j_Md := (yX10_counts, cX10_counts, 12, some .int)
abbrev md_X10_goMinute : j_Md := (yX10_goMinute, cX10_goMinute, 4, some .int)
abbrev md_X10_mornings : j_Md := (yX10_mornings, cX10_mornings, 9, some .int)
abbrev md_X10_type : j_Md := (yX10_type, cX10_type, 2, some .int)
abbrev md_X10_clear : j_Md := (yX10_clear, cX10_clear, 2, some .int)
abbrev md_X10_isSmall : j_Md := (yX10_isSmall, cX10_isSmall, 1, some .boolean)
abbrev md_X10_isFigure : j_Md := (yX10_isFigure, cX10_isFigure, 1, some .boolean)
abbrev md_X10_lookAt : j_Md := (yX10_lookAt, cX10_lookAt, 5, none)
abbrev md_X10_goBehind : j_Md := (yX10_goBehind, cX10_goBehind, 1, none)
abbrev md_X10_spells : j_Md := (yX10_spells, cX10_spells, 8, some .boolean)
abbrev md_X10_takes : j_Md := (yX10_takes, cX10_takes, 4, some .boolean)
abbrev md_X10_takesSign : j_Md := (yX10_takesSign, cX10_takesSign, 1, some .boolean)
abbrev md_X10_takesShut : j_Md := (yX10_takesShut, cX10_takesShut, 1, some .boolean)
abbrev md_X10_takesOne : j_Md := (yX10_takesOne, cX10_takesOne, 1, some .boolean)
abbrev md_X10_takesItem : j_Md := (yX10_takesItem, cX10_takesItem, 1, some .boolean)
abbrev md_X10_read : j_Md := (yX10_read, cX10_read, 3, some .int)
abbrev md_X10_part : j_Md := (yX10_part, cX10_part, 2, some .long)
abbrev md_X10_image : j_Md := (yX10_image, cX10_image, 3, some .int)
abbrev md_X10_from : j_Md := (yX10_from, cX10_from, 3, some .int)
abbrev md_X10_status : j_Md := (yX10_status, cX10_status, 2, some .int)
abbrev md_X10_allLengths : j_Md := (yX10_allLengths, cX10_allLengths, 3, some .int)
abbrev md_X10_counted : j_Md := (yX10_counted, cX10_counted, 2, some .int)
abbrev md_X10_count : j_Md := (yX10_count, cX10_count, 2, some .int)
abbrev md_X10_sums : j_Md := (yX10_sums, cX10_sums, 8, some .long)
abbrev md_X10_digest : j_Md := (yX10_digest, cX10_digest, 4, some .long)
abbrev md_X0_begin : j_Md := (yX0_begin, cX0_begin, 1, none)
abbrev md_X0_becomes : j_Md := (yX0_becomes, cX0_becomes, 2, none)
abbrev md_X0_comes : j_Md := (yX0_comes, cX0_comes, 5, some .int)
abbrev md_X0_keepForUndo : j_Md := (yX0_keepForUndo, cX0_keepForUndo, 1, none)
abbrev md_X0_takeBack : j_Md := (yX0_takeBack, cX0_takeBack, 1, none)
abbrev md_X0_isOpen : j_Md := (yX0_isOpen, cX0_isOpen, 2, some .boolean)
abbrev md_X0_openLanes : j_Md := (yX0_openLanes, cX0_openLanes, 3, some .int)
abbrev md_X0_laneOf : j_Md := (yX0_laneOf, cX0_laneOf, 2, some .int)
abbrev md_X0_lengthsOfAll : j_Md := (yX0_lengthsOfAll, cX0_lengthsOfAll, 3, some .int)
abbrev md_X0_believedBy : j_Md := (yX0_believedBy, cX0_believedBy, 2, some .int)
abbrev md_X0_members : j_Md := (yX0_members, cX0_members, 5, some .int)
abbrev md_X0_others : j_Md := (yX0_others, cX0_others, 4, some .int)
abbrev md_X9_has : j_Md := (yX9_has, cX9_has, 2, some .boolean)
abbrev md_X0_greatestPace : j_Md := (yX0_greatestPace, cX0_greatestPace, 4, some .int)
abbrev md_X0_slowerThan : j_Md := (yX0_slowerThan, cX0_slowerThan, 5, some .int)
abbrev md_X0_takesAs : j_Md := (yX0_takesAs, cX0_takesAs, 4, some .int)
abbrev md_X0_takesIn : j_Md := (yX0_takesIn, cX0_takesIn, 4, some .int)
abbrev md_X0_takes : j_Md := (yX0_takes, cX0_takes, 3, some .int)
abbrev md_X0_costTo : j_Md := (yX0_costTo, cX0_costTo, 6, some .int)
abbrev md_X0_leastOpenLane : j_Md := (yX0_leastOpenLane, cX0_leastOpenLane, 3, some .int)
abbrev md_X0_quickestLane : j_Md := (yX0_quickestLane, cX0_quickestLane, 4, some .int)
abbrev md_X0_swimsAMinute : j_Md := (yX0_swimsAMinute, cX0_swimsAMinute, 6, some .int)
abbrev md_X0_minuteGoesBy : j_Md := (yX0_minuteGoesBy, cX0_minuteGoesBy, 4, some .int)
abbrev md_X0_writeDown : j_Md := (yX0_writeDown, cX0_writeDown, 7, some .int)
abbrev md_X0_notesFit : j_Md := (yX0_notesFit, cX0_notesFit, 7, some .boolean)
abbrev md_X0_digestFrom : j_Md := (yX0_digestFrom, cX0_digestFrom, 6, some .long)
abbrev md_X7_add : j_Md := (yX7_add, cX7_add, 2, some .int)
abbrev md_X7_sortAt : j_Md := (yX7_sortAt, cX7_sortAt, 3, some .int)
abbrev md_X7_next : j_Md := (yX7_next, cX7_next, 2, none)
abbrev md_X7_isWord : j_Md := (yX7_isWord, cX7_isWord, 3, some .boolean)
abbrev md_X7_nextEndsItem : j_Md := (yX7_nextEndsItem, cX7_nextEndsItem, 1, some .boolean)
abbrev md_X7_nextNumber : j_Md := (yX7_nextNumber, cX7_nextNumber, 4, some .int)
abbrev md_X9_within : j_Md := (yX9_within, cX9_within, 3, some .boolean)
abbrev md_X9_isLane : j_Md := (yX9_isLane, cX9_isLane, 1, some .boolean)
abbrev md_X7_tellSign : j_Md := (yX7_tellSign, cX7_tellSign, 4, some .boolean)
abbrev md_X7_tellShut : j_Md := (yX7_tellShut, cX7_tellShut, 3, some .boolean)
abbrev md_X9_isKind : j_Md := (yX9_isKind, cX9_isKind, 1, some .boolean)
abbrev md_X9_isPace : j_Md := (yX9_isPace, cX9_isPace, 1, some .boolean)
abbrev md_X7_tellOne : j_Md := (yX7_tellOne, cX7_tellOne, 5, some .boolean)
abbrev md_X7_tellItem : j_Md := (yX7_tellItem, cX7_tellItem, 2, some .boolean)
abbrev md_X7_tellTo : j_Md := (yX7_tellTo, cX7_tellTo, 3, some .int)
abbrev md_X4_begin : j_Md := (yX4_begin, cX4_begin, 1, none)
abbrev md_X9_bath : j_Md := (yX9_bath, cX9_bath, 2, some .int)
abbrev md_X9_bad : j_Md := (yX9_bad, cX9_bad, 1, some .int)
abbrev md_X9_sign : j_Md := (yX9_sign, cX9_sign, 4, some .int)
abbrev md_X9_no : j_Md := (yX9_no, cX9_no, 1, some .int)
abbrev md_X9_shut : j_Md := (yX9_shut, cX9_shut, 4, some .int)
abbrev md_X9_full : j_Md := (yX9_full, cX9_full, 1, some .int)
abbrev md_X9_one : j_Md := (yX9_one, cX9_one, 4, some .int)
abbrev md_X9_type : j_Md := (yX9_type, cX9_type, 2, some .int)
abbrev md_X9_clear : j_Md := (yX9_clear, cX9_clear, 2, some .int)
abbrev md_X9_read : j_Md := (yX9_read, cX9_read, 2, some .int)
abbrev md_X9_isOne : j_Md := (yX9_isOne, cX9_isOne, 2, some .boolean)
abbrev md_X9_goes : j_Md := (yX9_goes, cX9_goes, 4, some .int)
abbrev md_X9_minute : j_Md := (yX9_minute, cX9_minute, 4, some .int)
abbrev md_X9_undo : j_Md := (yX9_undo, cX9_undo, 1, some .int)
abbrev md_X9_of : j_Md := (yX9_of, cX9_of, 3, some .int)
abbrev md_X9_lane : j_Md := (yX9_lane, cX9_lane, 3, some .int)
abbrev md_X9_seconds : j_Md := (yX9_seconds, cX9_seconds, 5, some .int)
abbrev md_X9_lengthsToCome : j_Md := (yX9_lengthsToCome, cX9_lengthsToCome, 4, some .int)
abbrev md_X9_lengths : j_Md := (yX9_lengths, cX9_lengths, 3, some .int)
abbrev md_X9_best : j_Md := (yX9_best, cX9_best, 2, some .int)
abbrev md_X9_cost : j_Md := (yX9_cost, cX9_cost, 3, some .int)
abbrev md_X9_cheapestLane : j_Md := (yX9_cheapestLane, cX9_cheapestLane, 3, some .int)
abbrev md_X9_where : j_Md := (yX9_where, cX9_where, 2, some .int)
abbrev md_X9_signOf : j_Md := (yX9_signOf, cX9_signOf, 1, some .int)
abbrev md_X9_obey : j_Md := (yX9_obey, cX9_obey, 5, some .int)
abbrev md_X9_badAsTen : j_Md := (yX9_badAsTen, cX9_badAsTen, 1, some .int)
abbrev md_X9_all : j_Md := (yX9_all, cX9_all, 2, some .int)
abbrev md_X9_changeTillNobodyWould : j_Md := (yX9_changeTillNobodyWould, cX9_changeTillNobodyWould, 8, some .int)
abbrev md_X9_changes : j_Md := (yX9_changes, cX9_changes, 3, some .int)
abbrev md_X9_ranksBelow : j_Md := (yX9_ranksBelow, cX9_ranksBelow, 4, some .boolean)
abbrev md_X9_mayFollow : j_Md := (yX9_mayFollow, cX9_mayFollow, 5, some .boolean)
abbrev md_X9_placesFor : j_Md := (yX9_placesFor, cX9_placesFor, 7, some .int)
abbrev md_X9_ordersOf : j_Md := (yX9_ordersOf, cX9_ordersOf, 6, some .int)
abbrev md_X9_hasStepAbove : j_Md := (yX9_hasStepAbove, cX9_hasStepAbove, 8, some .boolean)
abbrev md_X9_restMayFollow : j_Md := (yX9_restMayFollow, cX9_restMayFollow, 6, some .boolean)
abbrev md_X9_nextStarter : j_Md := (yX9_nextStarter, cX9_nextStarter, 7, some .int)
abbrev md_X9_starter : j_Md := (yX9_starter, cX9_starter, 8, some .int)
abbrev md_X9_order : j_Md := (yX9_order, cX9_order, 6, some .int)
abbrev md_X9_leastApart : j_Md := (yX9_leastApart, cX9_leastApart, 6, some .int)
abbrev md_X9_apart : j_Md := (yX9_apart, cX9_apart, 4, some .int)
abbrev md_X9_note : j_Md := (yX9_note, cX9_note, 6, some .int)
abbrev md_X9_forget : j_Md := (yX9_forget, cX9_forget, 2, some .int)
abbrev md_X9_kindsThatFit : j_Md := (yX9_kindsThatFit, cX9_kindsThatFit, 4, some .int)
abbrev md_X9_pacesThatFit : j_Md := (yX9_pacesThatFit, cX9_pacesThatFit, 4, some .int)
abbrev md_X9_is : j_Md := (yX9_is, cX9_is, 3, some .int)
abbrev md_X9_howManyAlike : j_Md := (yX9_howManyAlike, cX9_howManyAlike, 7, some .int)
abbrev md_X9_mostAlike : j_Md := (yX9_mostAlike, cX9_mostAlike, 6, some .int)
abbrev md_X9_tellingLane : j_Md := (yX9_tellingLane, cX9_tellingLane, 4, some .int)
abbrev md_X9_look : j_Md := (yX9_look, cX9_look, 2, some .int)
abbrev md_X9_toToucher : j_Md := (yX9_toToucher, cX9_toToucher, 2, some .int)
abbrev md_X9_toTouched : j_Md := (yX9_toTouched, cX9_toTouched, 3, some .int)
abbrev md_X9_rests : j_Md := (yX9_rests, cX9_rests, 3, some .boolean)
abbrev md_X9_touch : j_Md := (yX9_touch, cX9_touch, 6, some .int)
abbrev md_X9_countWays : j_Md := (yX9_countWays, cX9_countWays, 5, none)
abbrev md_X9_lowerBy : j_Md := (yX9_lowerBy, cX9_lowerBy, 2, none)
abbrev md_X9_lowerTerms : j_Md := (yX9_lowerTerms, cX9_lowerTerms, 3, none)
abbrev md_X9_counts : j_Md := (yX9_counts, cX9_counts, 5, some .int)
abbrev md_X9_afterwards : j_Md := (yX9_afterwards, cX9_afterwards, 2, some .long)
abbrev md_X9_mornings : j_Md := (yX9_mornings, cX9_mornings, 9, some .int)
abbrev md_X9_part : j_Md := (yX9_part, cX9_part, 2, some .long)
abbrev md_X9_status : j_Md := (yX9_status, cX9_status, 2, some .int)
abbrev md_X9_howMany : j_Md := (yX9_howMany, cX9_howMany, 2, some .int)
abbrev md_X9_count : j_Md := (yX9_count, cX9_count, 2, some .int)
abbrev md_X9_digest : j_Md := (yX9_digest, cX9_digest, 4, some .long)
theorem lk_X4_37 : Cond.methodLink RX4 37 arraycopyName ∈ j_gt ∧ Cond.native arraycopyName ∈ j_gt ∧ Cond.static arraycopyName ∈ j_gt ∧ Cond.initialized "java/lang/System" ∈ j_gt := ⟨j_in 695 (by decide +kernel) rfl, j_in 230 (by decide +kernel) rfl, j_in 229 (by decide +kernel) rfl, j_in 110 (by decide +kernel) rfl⟩
theorem cd_X0_isOpen : j_cd md_X0_isOpen := j_in 367 (by decide +kernel) rfl
theorem lk_X4_43 : j_lkVN RX4 43 md_X0_isOpen 1 := ⟨⟨j_inN 696 (by decide +kernel), j_in 366 (by decide +kernel) rfl, j_in 4 (by decide +kernel) rfl, j_in 109 (by decide +kernel) rfl⟩, cd_X0_isOpen, ⟨by decide, by decide, by decide +kernel⟩⟩
theorem cd_X0_takes : j_cd md_X0_takes := j_in 627 (by decide +kernel) rfl
theorem lk_X4_47 : j_lkVN RX4 47 md_X0_takes 2 := ⟨⟨j_inN 697 (by decide +kernel), j_in 626 (by decide +kernel) rfl, j_in 31 (by decide +kernel) rfl, j_in 109 (by decide +kernel) rfl⟩, cd_X0_takes, ⟨by decide, by decide, by decide +kernel⟩⟩
theorem cd_X0_costTo : j_cd md_X0_costTo := j_in 659 (by decide +kernel) rfl
theorem lk_X4_51 : j_lkVN RX4 51 md_X0_costTo 2 := ⟨⟨j_inN 698 (by decide +kernel), j_in 658 (by decide +kernel) rfl, j_in 35 (by decide +kernel) rfl, j_in 109 (by decide +kernel) rfl⟩, cd_X0_costTo, ⟨by decide, by decide, by decide +kernel⟩⟩
theorem cd_X4_place : j_cd md_X4_place := j_in 694 (by decide +kernel) rfl
theorem lk_X4_54 : j_lkV RX4 54 md_X4_place 3 := ⟨⟨j_in 699 (by decide +kernel) rfl, j_in 693 (by decide +kernel) rfl, j_in 39 (by decide +kernel) rfl, j_in 101 (by decide +kernel) rfl⟩, cd_X4_place, ⟨by decide, by decide, by decide +kernel⟩⟩
theorem cd_X10_many : j_cd md_X10_many := j_in 985 (by decide +kernel) rfl
theorem lk_X10_64 : j_lkV RX10 64 md_X10_many 0 := ⟨⟨j_in 982 (by decide +kernel) rfl, j_in 984 (by decide +kernel) rfl, j_in 64 (by decide +kernel) rfl, j_in 112 (by decide +kernel) rfl⟩, cd_X10_many, ⟨by decide, by decide, by decide +kernel⟩⟩
theorem cd_X10_in : j_cd md_X10_in := j_in 996 (by decide +kernel) rfl
theorem lk_X10_68 : j_lkS RX10 68 md_X10_in 3 := ⟨⟨j_in 994 (by decide +kernel) rfl, j_in 995 (by decide +kernel) rfl, j_in 112 (by decide +kernel) rfl⟩, cd_X10_in, ⟨by decide, by decide, by decide +kernel⟩⟩
theorem cd_X10_has : j_cd md_X10_has := j_in 1026 (by decide +kernel) rfl
theorem lk_X10_74 : j_lkS RX10 74 md_X10_has 2 := ⟨⟨j_in 1024 (by decide +kernel) rfl, j_in 1025 (by decide +kernel) rfl, j_in 112 (by decide +kernel) rfl⟩, cd_X10_has, ⟨by decide, by decide, by decide +kernel⟩⟩
theorem cd_X10_begin : j_cd md_X10_begin := j_in 897 (by decide +kernel) rfl
theorem lk_X10_60 : j_lkS RX10 60 md_X10_begin 1 := ⟨⟨j_in 895 (by decide +kernel) rfl, j_in 896 (by decide +kernel) rfl, j_in 112 (by decide +kernel) rfl⟩, cd_X10_begin, ⟨by decide, by decide, by decide +kernel⟩⟩
theorem cd_X10_isLane : j_cd md_X10_isLane := j_in 992 (by decide +kernel) rfl
theorem lk_X10_78 : j_lkS RX10 78 md_X10_isLane 1 := ⟨⟨j_in 990 (by decide +kernel) rfl, j_in 991 (by decide +kernel) rfl, j_in 112 (by decide +kernel) rfl⟩, cd_X10_isLane, ⟨by decide, by decide, by decide +kernel⟩⟩
theorem cd_X10_bad : j_cd md_X10_bad := j_in 1001 (by decide +kernel) rfl
theorem lk_X10_84 : j_lkV RX10 84 md_X10_bad 1 := ⟨⟨j_in 998 (by decide +kernel) rfl, j_in 1000 (by decide +kernel) rfl, j_in 65 (by decide +kernel) rfl, j_in 112 (by decide +kernel) rfl⟩, cd_X10_bad, ⟨by decide, by decide, by decide +kernel⟩⟩
theorem cd_X10_whoIsIn : j_cd md_X10_whoIsIn := j_in 1008 (by decide +kernel) rfl
theorem lk_X10_88 : j_lkS RX10 88 md_X10_whoIsIn 2 := ⟨⟨j_in 1006 (by decide +kernel) rfl, j_in 1007 (by decide +kernel) rfl, j_in 112 (by decide +kernel) rfl⟩, cd_X10_whoIsIn, ⟨by decide, by decide, by decide +kernel⟩⟩
theorem cd_X10_no : j_cd md_X10_no := j_in 1012 (by decide +kernel) rfl
theorem lk_X10_92 : j_lkV RX10 92 md_X10_no 0 := ⟨⟨j_in 1009 (by decide +kernel) rfl, j_in 1011 (by decide +kernel) rfl, j_in 66 (by decide +kernel) rfl, j_in 112 (by decide +kernel) rfl⟩, cd_X10_no, ⟨by decide, by decide, by decide +kernel⟩⟩
theorem cd_X10_isOpen : j_cd md_X10_isOpen := j_in 1023 (by decide +kernel) rfl
theorem lk_X10_101 : j_lkV RX10 101 md_X10_isOpen 1 := ⟨⟨j_in 1020 (by decide +kernel) rfl, j_in 1022 (by decide +kernel) rfl, j_in 67 (by decide +kernel) rfl, j_in 112 (by decide +kernel) rfl⟩, cd_X10_isOpen, ⟨by decide, by decide, by decide +kernel⟩⟩
theorem cd_X10_layOne : j_cd md_X10_layOne := j_in 1033 (by decide +kernel) rfl
theorem lk_X10_107 : j_lkS RX10 107 md_X10_layOne 4 := ⟨⟨j_in 1031 (by decide +kernel) rfl, j_in 1032 (by decide +kernel) rfl, j_in 112 (by decide +kernel) rfl⟩, cd_X10_layOne, ⟨by decide, by decide, by decide +kernel⟩⟩
theorem cd_X10_full : j_cd md_X10_full := j_in 1030 (by decide +kernel) rfl
theorem lk_X10_104 : j_lkV RX10 104 md_X10_full 0 := ⟨⟨j_in 1027 (by decide +kernel) rfl, j_in 1029 (by decide +kernel) rfl, j_in 68 (by decide +kernel) rfl, j_in 112 (by decide +kernel) rfl⟩, cd_X10_full, ⟨by decide, by decide, by decide +kernel⟩⟩
theorem cd_X10_paceOf : j_cd md_X10_paceOf := j_in 1066 (by decide +kernel) rfl
theorem lk_X10_121 : j_lkV RX10 121 md_X10_paceOf 1 := ⟨⟨j_in 1063 (by decide +kernel) rfl, j_in 1065 (by decide +kernel) rfl, j_in 74 (by decide +kernel) rfl, j_in 112 (by decide +kernel) rfl⟩, cd_X10_paceOf, ⟨by decide, by decide, by decide +kernel⟩⟩
theorem cd_X10_layOthers : j_cd md_X10_layOthers := j_in 1062 (by decide +kernel) rfl
theorem lk_X10_124 : j_lkV RX10 124 md_X10_layOthers 2 := ⟨⟨j_in 1059 (by decide +kernel) rfl, j_in 1061 (by decide +kernel) rfl, j_in 73 (by decide +kernel) rfl, j_in 112 (by decide +kernel) rfl⟩, cd_X10_layOthers, ⟨by decide, by decide, by decide +kernel⟩⟩
theorem cd_X10_secondsAs : j_cd md_X10_secondsAs := j_in 1069 (by decide +kernel) rfl
theorem lk_X10_128 : j_lkS RX10 128 md_X10_secondsAs 5 := ⟨⟨j_in 1067 (by decide +kernel) rfl, j_in 1068 (by decide +kernel) rfl, j_in 112 (by decide +kernel) rfl⟩, cd_X10_secondsAs, ⟨by decide, by decide, by decide +kernel⟩⟩
theorem cd_X10_isOne : j_cd md_X10_isOne := j_in 1041 (by decide +kernel) rfl
theorem lk_X10_132 : j_lkV RX10 132 md_X10_isOne 1 := ⟨⟨j_in 1038 (by decide +kernel) rfl, j_in 1040 (by decide +kernel) rfl, j_in 69 (by decide +kernel) rfl, j_in 112 (by decide +kernel) rfl⟩, cd_X10_isOne, ⟨by decide, by decide, by decide +kernel⟩⟩
theorem cd_X10_keep : j_cd md_X10_keep := j_in 1045 (by decide +kernel) rfl
theorem lk_X10_135 : j_lkV RX10 135 md_X10_keep 0 := ⟨⟨j_in 1042 (by decide +kernel) rfl, j_in 1044 (by decide +kernel) rfl, j_in 70 (by decide +kernel) rfl, j_in 112 (by decide +kernel) rfl⟩, cd_X10_keep, ⟨by decide, by decide, by decide +kernel⟩⟩
theorem cd_X10_layHand : j_cd md_X10_layHand := j_in 1054 (by decide +kernel) rfl
theorem lk_X10_140 : j_lkV RX10 140 md_X10_layHand 0 := ⟨⟨j_in 1051 (by decide +kernel) rfl, j_in 1053 (by decide +kernel) rfl, j_in 71 (by decide +kernel) rfl, j_in 112 (by decide +kernel) rfl⟩, cd_X10_layHand, ⟨by decide, by decide, by decide +kernel⟩⟩
theorem cd_X10_secondsIn : j_cd md_X10_secondsIn := j_in 1058 (by decide +kernel) rfl
theorem lk_X10_143 : j_lkV RX10 143 md_X10_secondsIn 2 := ⟨⟨j_in 1055 (by decide +kernel) rfl, j_in 1057 (by decide +kernel) rfl, j_in 72 (by decide +kernel) rfl, j_in 112 (by decide +kernel) rfl⟩, cd_X10_secondsIn, ⟨by decide, by decide, by decide +kernel⟩⟩
theorem cd_X10_believesAs : j_cd md_X10_believesAs := j_in 1080 (by decide +kernel) rfl
theorem lk_X10_147 : j_lkS RX10 147 md_X10_believesAs 2 := ⟨⟨j_in 1078 (by decide +kernel) rfl, j_in 1079 (by decide +kernel) rfl, j_in 112 (by decide +kernel) rfl⟩, cd_X10_believesAs, ⟨by decide, by decide, by decide +kernel⟩⟩
theorem cd_X10_bestOf : j_cd md_X10_bestOf := j_in 1100 (by decide +kernel) rfl
theorem lk_X10_151 : j_lkV RX10 151 md_X10_bestOf 1 := ⟨⟨j_in 1097 (by decide +kernel) rfl, j_in 1099 (by decide +kernel) rfl, j_in 75 (by decide +kernel) rfl, j_in 112 (by decide +kernel) rfl⟩, cd_X10_bestOf, ⟨by decide, by decide, by decide +kernel⟩⟩
theorem cd_X10_sumOthers : j_cd md_X10_sumOthers := j_in 1113 (by decide +kernel) rfl
theorem lk_X10_154 : j_lkV RX10 154 md_X10_sumOthers 2 := ⟨⟨j_in 1110 (by decide +kernel) rfl, j_in 1112 (by decide +kernel) rfl, j_in 77 (by decide +kernel) rfl, j_in 112 (by decide +kernel) rfl⟩, cd_X10_sumOthers, ⟨by decide, by decide, by decide +kernel⟩⟩
theorem cd_X10_costOf : j_cd md_X10_costOf := j_in 1109 (by decide +kernel) rfl
theorem lk_X10_157 : j_lkV RX10 157 md_X10_costOf 2 := ⟨⟨j_in 1106 (by decide +kernel) rfl, j_in 1108 (by decide +kernel) rfl, j_in 76 (by decide +kernel) rfl, j_in 112 (by decide +kernel) rfl⟩, cd_X10_costOf, ⟨by decide, by decide, by decide +kernel⟩⟩
theorem cd_X10_signOf : j_cd md_X10_signOf := j_in 1124 (by decide +kernel) rfl
theorem lk_X10_160 : j_lkS RX10 160 md_X10_signOf 1 := ⟨⟨j_in 1122 (by decide +kernel) rfl, j_in 1123 (by decide +kernel) rfl, j_in 112 (by decide +kernel) rfl⟩, cd_X10_signOf, ⟨by decide, by decide, by decide +kernel⟩⟩
theorem cd_X10_layLies : j_cd md_X10_layLies := j_in 1133 (by decide +kernel) rfl
theorem lk_X10_165 : j_lkV RX10 165 md_X10_layLies 1 := ⟨⟨j_in 1130 (by decide +kernel) rfl, j_in 1132 (by decide +kernel) rfl, j_in 78 (by decide +kernel) rfl, j_in 112 (by decide +kernel) rfl⟩, cd_X10_layLies, ⟨by decide, by decide, by decide +kernel⟩⟩
theorem cd_X10_sumAll : j_cd md_X10_sumAll := j_in 1137 (by decide +kernel) rfl
theorem lk_X10_168 : j_lkV RX10 168 md_X10_sumAll 0 := ⟨⟨j_in 1134 (by decide +kernel) rfl, j_in 1136 (by decide +kernel) rfl, j_in 79 (by decide +kernel) rfl, j_in 112 (by decide +kernel) rfl⟩, cd_X10_sumAll, ⟨by decide, by decide, by decide +kernel⟩⟩
theorem cd_X10_layStart : j_cd md_X10_layStart := j_in 1150 (by decide +kernel) rfl
theorem lk_X10_176 : j_lkV RX10 176 md_X10_layStart 1 := ⟨⟨j_in 1147 (by decide +kernel) rfl, j_in 1149 (by decide +kernel) rfl, j_in 80 (by decide +kernel) rfl, j_in 112 (by decide +kernel) rfl⟩, cd_X10_layStart, ⟨by decide, by decide, by decide +kernel⟩⟩
theorem cd_X10_layRow : j_cd md_X10_layRow := j_in 1154 (by decide +kernel) rfl
theorem lk_X10_180 : j_lkV RX10 180 md_X10_layRow 2 := ⟨⟨j_in 1151 (by decide +kernel) rfl, j_in 1153 (by decide +kernel) rfl, j_in 81 (by decide +kernel) rfl, j_in 112 (by decide +kernel) rfl⟩, cd_X10_layRow, ⟨by decide, by decide, by decide +kernel⟩⟩
theorem cd_X10_isRowWell : j_cd md_X10_isRowWell := j_in 1158 (by decide +kernel) rfl
theorem lk_X10_183 : j_lkV RX10 183 md_X10_isRowWell 2 := ⟨⟨j_in 1155 (by decide +kernel) rfl, j_in 1157 (by decide +kernel) rfl, j_in 82 (by decide +kernel) rfl, j_in 112 (by decide +kernel) rfl⟩, cd_X10_isRowWell, ⟨by decide, by decide, by decide +kernel⟩⟩
theorem cd_X10_canBe : j_cd md_X10_canBe := j_in 1180 (by decide +kernel) rfl
theorem lk_X10_190 : j_lkV RX10 190 md_X10_canBe 3 := ⟨⟨j_in 1177 (by decide +kernel) rfl, j_in 1179 (by decide +kernel) rfl, j_in 83 (by decide +kernel) rfl, j_in 112 (by decide +kernel) rfl⟩, cd_X10_canBe, ⟨by decide, by decide, by decide +kernel⟩⟩
theorem cd_X10_kindsOf : j_cd md_X10_kindsOf := j_in 1184 (by decide +kernel) rfl
theorem lk_X10_194 : j_lkV RX10 194 md_X10_kindsOf 1 := ⟨⟨j_in 1181 (by decide +kernel) rfl, j_in 1183 (by decide +kernel) rfl, j_in 84 (by decide +kernel) rfl, j_in 112 (by decide +kernel) rfl⟩, cd_X10_kindsOf, ⟨by decide, by decide, by decide +kernel⟩⟩
theorem cd_X10_mostAlike : j_cd md_X10_mostAlike := j_in 1192 (by decide +kernel) rfl
theorem lk_X10_197 : j_lkV RX10 197 md_X10_mostAlike 3 := ⟨⟨j_in 1189 (by decide +kernel) rfl, j_in 1191 (by decide +kernel) rfl, j_in 85 (by decide +kernel) rfl, j_in 112 (by decide +kernel) rfl⟩, cd_X10_mostAlike, ⟨by decide, by decide, by decide +kernel⟩⟩
theorem cd_X10_bits : j_cd md_X10_bits := j_in 1204 (by decide +kernel) rfl
theorem lk_X10_206 : j_lkS RX10 206 md_X10_bits 1 := ⟨⟨j_in 1202 (by decide +kernel) rfl, j_in 1203 (by decide +kernel) rfl, j_in 112 (by decide +kernel) rfl⟩, cd_X10_bits, ⟨by decide, by decide, by decide +kernel⟩⟩
theorem cd_X10_fraction : j_cd md_X10_fraction := j_in 1208 (by decide +kernel) rfl
theorem lk_X10_209 : j_lkV RX10 209 md_X10_fraction 2 := ⟨⟨j_in 1205 (by decide +kernel) rfl, j_in 1207 (by decide +kernel) rfl, j_in 86 (by decide +kernel) rfl, j_in 112 (by decide +kernel) rfl⟩, cd_X10_fraction, ⟨by decide, by decide, by decide +kernel⟩⟩
theorem cd_X10_goMinute : j_cd md_X10_goMinute := j_in 1222 (by decide +kernel) rfl
theorem lk_X10_225 : j_lkV RX10 225 md_X10_goMinute 0 := ⟨⟨j_in 1219 (by decide +kernel) rfl, j_in 1221 (by decide +kernel) rfl, j_in 87 (by decide +kernel) rfl, j_in 112 (by decide +kernel) rfl⟩, cd_X10_goMinute, ⟨by decide, by decide, by decide +kernel⟩⟩
theorem cd_X10_isSmall : j_cd md_X10_isSmall := j_in 1242 (by decide +kernel) rfl
theorem lk_X10_253 : j_lkS RX10 253 md_X10_isSmall 1 := ⟨⟨j_in 1240 (by decide +kernel) rfl, j_in 1241 (by decide +kernel) rfl, j_in 112 (by decide +kernel) rfl⟩, cd_X10_isSmall, ⟨by decide, by decide, by decide +kernel⟩⟩
theorem cd_X10_isFigure : j_cd md_X10_isFigure := j_in 1247 (by decide +kernel) rfl
theorem lk_X10_256 : j_lkS RX10 256 md_X10_isFigure 1 := ⟨⟨j_in 1245 (by decide +kernel) rfl, j_in 1246 (by decide +kernel) rfl, j_in 112 (by decide +kernel) rfl⟩, cd_X10_isFigure, ⟨by decide, by decide, by decide +kernel⟩⟩
theorem cd_X10_lookAt : j_cd md_X10_lookAt := j_in 1239 (by decide +kernel) rfl
theorem lk_X10_259 : j_lkV RX10 259 md_X10_lookAt 1 := ⟨⟨j_in 1236 (by decide +kernel) rfl, j_in 1238 (by decide +kernel) rfl, j_in 88 (by decide +kernel) rfl, j_in 112 (by decide +kernel) rfl⟩, cd_X10_lookAt, ⟨by decide, by decide, by decide +kernel⟩⟩
theorem cd_X10_goBehind : j_cd md_X10_goBehind := j_in 1257 (by decide +kernel) rfl
theorem lk_X10_262 : j_lkV RX10 262 md_X10_goBehind 0 := ⟨⟨j_in 1254 (by decide +kernel) rfl, j_in 1256 (by decide +kernel) rfl, j_in 90 (by decide +kernel) rfl, j_in 112 (by decide +kernel) rfl⟩, cd_X10_goBehind, ⟨by decide, by decide, by decide +kernel⟩⟩
theorem cd_X10_takes : j_cd md_X10_takes := j_in 1269 (by decide +kernel) rfl
theorem lk_X10_265 : j_lkV RX10 265 md_X10_takes 3 := ⟨⟨j_in 1266 (by decide +kernel) rfl, j_in 1268 (by decide +kernel) rfl, j_in 93 (by decide +kernel) rfl, j_in 112 (by decide +kernel) rfl⟩, cd_X10_takes, ⟨by decide, by decide, by decide +kernel⟩⟩
theorem cd_X10_spells : j_cd md_X10_spells := j_in 1253 (by decide +kernel) rfl
theorem lk_X10_268 : j_lkV RX10 268 md_X10_spells 5 := ⟨⟨j_in 1250 (by decide +kernel) rfl, j_in 1252 (by decide +kernel) rfl, j_in 89 (by decide +kernel) rfl, j_in 112 (by decide +kernel) rfl⟩, cd_X10_spells, ⟨by decide, by decide, by decide +kernel⟩⟩
theorem cd_X10_takesOne : j_cd md_X10_takesOne := j_in 1277 (by decide +kernel) rfl
theorem lk_X10_279 : j_lkV RX10 279 md_X10_takesOne 0 := ⟨⟨j_in 1274 (by decide +kernel) rfl, j_in 1276 (by decide +kernel) rfl, j_in 95 (by decide +kernel) rfl, j_in 112 (by decide +kernel) rfl⟩, cd_X10_takesOne, ⟨by decide, by decide, by decide +kernel⟩⟩
theorem cd_X10_takesShut : j_cd md_X10_takesShut := j_in 1273 (by decide +kernel) rfl
theorem lk_X10_276 : j_lkV RX10 276 md_X10_takesShut 0 := ⟨⟨j_in 1270 (by decide +kernel) rfl, j_in 1272 (by decide +kernel) rfl, j_in 94 (by decide +kernel) rfl, j_in 112 (by decide +kernel) rfl⟩, cd_X10_takesShut, ⟨by decide, by decide, by decide +kernel⟩⟩
theorem cd_X10_takesSign : j_cd md_X10_takesSign := j_in 1265 (by decide +kernel) rfl
theorem lk_X10_272 : j_lkV RX10 272 md_X10_takesSign 0 := ⟨⟨j_in 1262 (by decide +kernel) rfl, j_in 1264 (by decide +kernel) rfl, j_in 92 (by decide +kernel) rfl, j_in 112 (by decide +kernel) rfl⟩, cd_X10_takesSign, ⟨by decide, by decide, by decide +kernel⟩⟩
theorem cd_X10_takesItem : j_cd md_X10_takesItem := j_in 1261 (by decide +kernel) rfl
theorem lk_X10_282 : j_lkV RX10 282 md_X10_takesItem 0 := ⟨⟨j_in 1258 (by decide +kernel) rfl, j_in 1260 (by decide +kernel) rfl, j_in 91 (by decide +kernel) rfl, j_in 112 (by decide +kernel) rfl⟩, cd_X10_takesItem, ⟨by decide, by decide, by decide +kernel⟩⟩
theorem cd_X10_allLengths : j_cd md_X10_allLengths := j_in 1305 (by decide +kernel) rfl
theorem lk_X10_285 : j_lkV RX10 285 md_X10_allLengths 0 := ⟨⟨j_in 1302 (by decide +kernel) rfl, j_in 1304 (by decide +kernel) rfl, j_in 97 (by decide +kernel) rfl, j_in 112 (by decide +kernel) rfl⟩, cd_X10_allLengths, ⟨by decide, by decide, by decide +kernel⟩⟩
theorem cd_X10_counted : j_cd md_X10_counted := j_in 1301 (by decide +kernel) rfl
theorem lk_X10_288 : j_lkV RX10 288 md_X10_counted 1 := ⟨⟨j_in 1298 (by decide +kernel) rfl, j_in 1300 (by decide +kernel) rfl, j_in 96 (by decide +kernel) rfl, j_in 112 (by decide +kernel) rfl⟩, cd_X10_counted, ⟨by decide, by decide, by decide +kernel⟩⟩
theorem cd_X10_sums : j_cd md_X10_sums := j_in 1315 (by decide +kernel) rfl
theorem lk_X10_295 : j_lkV RX10 295 md_X10_sums 3 := ⟨⟨j_in 1312 (by decide +kernel) rfl, j_in 1314 (by decide +kernel) rfl, j_in 98 (by decide +kernel) rfl, j_in 112 (by decide +kernel) rfl⟩, cd_X10_sums, ⟨by decide, by decide, by decide +kernel⟩⟩
theorem lk_X0_46 : Cond.methodLink RX0 46 arraycopyName ∈ j_gt ∧ Cond.native arraycopyName ∈ j_gt ∧ Cond.static arraycopyName ∈ j_gt ∧ Cond.initialized "java/lang/System" ∈ j_gt := ⟨j_in 228 (by decide +kernel) rfl, j_in 230 (by decide +kernel) rfl, j_in 229 (by decide +kernel) rfl, j_in 110 (by decide +kernel) rfl⟩
theorem lk_X0_68 : j_lkV RX0 68 md_X0_isOpen 1 := ⟨⟨j_in 651 (by decide +kernel) rfl, j_in 366 (by decide +kernel) rfl, j_in 4 (by decide +kernel) rfl, j_in 109 (by decide +kernel) rfl⟩, cd_X0_isOpen, ⟨by decide, by decide, by decide +kernel⟩⟩
theorem cd_X0_members : j_cd md_X0_members := j_in 349 (by decide +kernel) rfl
theorem lk_X0_78 : j_lkV RX0 78 md_X0_members 2 := ⟨⟨j_in 533 (by decide +kernel) rfl, j_in 348 (by decide +kernel) rfl, j_in 2 (by decide +kernel) rfl, j_in 109 (by decide +kernel) rfl⟩, cd_X0_members, ⟨by decide, by decide, by decide +kernel⟩⟩
theorem cd_X9_has : j_cd md_X9_has := j_in 544 (by decide +kernel) rfl
theorem lk_X0_106 : j_lkSN RX0 106 md_X9_has 2 := ⟨⟨j_inN 542 (by decide +kernel), j_in 543 (by decide +kernel) rfl, j_in 100 (by decide +kernel) rfl⟩, cd_X9_has, ⟨by decide, by decide, by decide +kernel⟩⟩
theorem lk_X0_110 : Cond.methodLink RX0 110 Lib.Math.max.name ∈ j_gt ∧ Cond.static Lib.Math.max.name ∈ j_gt ∧ Cond.initialized "java/lang/Math" ∈ j_gt ∧ Cond.code Lib.Math.max.name Lib.Math.max.code 2 (some .int) ∈ j_gt := ⟨j_in 545 (by decide +kernel) rfl, j_in 546 (by decide +kernel) rfl, j_in 117 (by decide +kernel) rfl, j_in 547 (by decide +kernel) rfl⟩
theorem cd_X0_greatestPace : j_cd md_X0_greatestPace := j_in 541 (by decide +kernel) rfl
theorem lk_X0_90 : j_lkV RX0 90 md_X0_greatestPace 1 := ⟨⟨j_in 538 (by decide +kernel) rfl, j_in 540 (by decide +kernel) rfl, j_in 27 (by decide +kernel) rfl, j_in 109 (by decide +kernel) rfl⟩, cd_X0_greatestPace, ⟨by decide, by decide, by decide +kernel⟩⟩
theorem cd_X0_slowerThan : j_cd md_X0_slowerThan := j_in 551 (by decide +kernel) rfl
theorem lk_X0_93 : j_lkV RX0 93 md_X0_slowerThan 2 := ⟨⟨j_in 548 (by decide +kernel) rfl, j_in 550 (by decide +kernel) rfl, j_in 28 (by decide +kernel) rfl, j_in 109 (by decide +kernel) rfl⟩, cd_X0_slowerThan, ⟨by decide, by decide, by decide +kernel⟩⟩
theorem cd_X0_others : j_cd md_X0_others := j_in 532 (by decide +kernel) rfl
theorem lk_X0_82 : j_lkV RX0 82 md_X0_others 3 := ⟨⟨j_in 529 (by decide +kernel) rfl, j_in 531 (by decide +kernel) rfl, j_in 25 (by decide +kernel) rfl, j_in 109 (by decide +kernel) rfl⟩, cd_X0_others, ⟨by decide, by decide, by decide +kernel⟩⟩
theorem cd_X0_takesAs : j_cd md_X0_takesAs := j_in 537 (by decide +kernel) rfl
theorem lk_X0_86 : j_lkV RX0 86 md_X0_takesAs 3 := ⟨⟨j_in 534 (by decide +kernel) rfl, j_in 536 (by decide +kernel) rfl, j_in 26 (by decide +kernel) rfl, j_in 109 (by decide +kernel) rfl⟩, cd_X0_takesAs, ⟨by decide, by decide, by decide +kernel⟩⟩
theorem lk_X0_115 : j_lkV RX0 115 md_X0_takes 2 := ⟨⟨j_in 660 (by decide +kernel) rfl, j_in 626 (by decide +kernel) rfl, j_in 31 (by decide +kernel) rfl, j_in 109 (by decide +kernel) rfl⟩, cd_X0_takes, ⟨by decide, by decide, by decide +kernel⟩⟩
theorem cd_X0_takesIn : j_cd md_X0_takesIn := j_in 528 (by decide +kernel) rfl
theorem lk_X0_117 : j_lkV RX0 117 md_X0_takesIn 3 := ⟨⟨j_in 525 (by decide +kernel) rfl, j_in 527 (by decide +kernel) rfl, j_in 24 (by decide +kernel) rfl, j_in 109 (by decide +kernel) rfl⟩, cd_X0_takesIn, ⟨by decide, by decide, by decide +kernel⟩⟩
theorem cd_X0_leastOpenLane : j_cd md_X0_leastOpenLane := j_in 650 (by decide +kernel) rfl
theorem lk_X0_120 : j_lkV RX0 120 md_X0_leastOpenLane 0 := ⟨⟨j_in 647 (by decide +kernel) rfl, j_in 649 (by decide +kernel) rfl, j_in 34 (by decide +kernel) rfl, j_in 109 (by decide +kernel) rfl⟩, cd_X0_leastOpenLane, ⟨by decide, by decide, by decide +kernel⟩⟩
theorem cd_X0_swimsAMinute : j_cd md_X0_swimsAMinute := j_in 524 (by decide +kernel) rfl
theorem lk_X0_124 : j_lkV RX0 124 md_X0_swimsAMinute 2 := ⟨⟨j_in 521 (by decide +kernel) rfl, j_in 523 (by decide +kernel) rfl, j_in 23 (by decide +kernel) rfl, j_in 109 (by decide +kernel) rfl⟩, cd_X0_swimsAMinute, ⟨by decide, by decide, by decide +kernel⟩⟩
theorem cd_X7_sortAt : j_cd md_X7_sortAt := j_in 404 (by decide +kernel) rfl
theorem lk_X7_104 : j_lkV RX7 104 md_X7_sortAt 1 := ⟨⟨j_in 401 (by decide +kernel) rfl, j_in 403 (by decide +kernel) rfl, j_in 10 (by decide +kernel) rfl, j_in 102 (by decide +kernel) rfl⟩, cd_X7_sortAt, ⟨by decide, by decide, by decide +kernel⟩⟩
theorem cd_X7_next : j_cd md_X7_next := j_in 400 (by decide +kernel) rfl
theorem lk_X7_30 : j_lkV RX7 30 md_X7_next 0 := ⟨⟨j_in 397 (by decide +kernel) rfl, j_in 399 (by decide +kernel) rfl, j_in 9 (by decide +kernel) rfl, j_in 102 (by decide +kernel) rfl⟩, cd_X7_next, ⟨by decide, by decide, by decide +kernel⟩⟩
theorem cd_X9_within : j_cd md_X9_within := j_in 337 (by decide +kernel) rfl
theorem lk_X9_92 : j_lkS RX9 92 md_X9_within 3 := ⟨⟨j_in 335 (by decide +kernel) rfl, j_in 336 (by decide +kernel) rfl, j_in 100 (by decide +kernel) rfl⟩, cd_X9_within, ⟨by decide, by decide, by decide +kernel⟩⟩
theorem cd_X7_nextNumber : j_cd md_X7_nextNumber := j_in 474 (by decide +kernel) rfl
theorem lk_X7_65 : j_lkV RX7 65 md_X7_nextNumber 0 := ⟨⟨j_in 471 (by decide +kernel) rfl, j_in 473 (by decide +kernel) rfl, j_in 15 (by decide +kernel) rfl, j_in 102 (by decide +kernel) rfl⟩, cd_X7_nextNumber, ⟨by decide, by decide, by decide +kernel⟩⟩
theorem cd_X9_isLane : j_cd md_X9_isLane := j_in 334 (by decide +kernel) rfl
theorem lk_X7_69 : j_lkSN RX7 69 md_X9_isLane 1 := ⟨⟨j_inN 475 (by decide +kernel), j_in 333 (by decide +kernel) rfl, j_in 100 (by decide +kernel) rfl⟩, cd_X9_isLane, ⟨by decide, by decide, by decide +kernel⟩⟩
theorem lk_X7_73 : j_lkSN RX7 73 md_X9_within 3 := ⟨⟨j_inN 476 (by decide +kernel), j_in 336 (by decide +kernel) rfl, j_in 100 (by decide +kernel) rfl⟩, cd_X9_within, ⟨by decide, by decide, by decide +kernel⟩⟩
theorem lk_X7_84 : j_lkVN RX7 84 md_X0_members 2 := ⟨⟨j_inN 482 (by decide +kernel), j_in 348 (by decide +kernel) rfl, j_in 2 (by decide +kernel) rfl, j_in 109 (by decide +kernel) rfl⟩, cd_X0_members, ⟨by decide, by decide, by decide +kernel⟩⟩
theorem cd_X9_isKind : j_cd md_X9_isKind := j_in 360 (by decide +kernel) rfl
theorem lk_X7_91 : j_lkSN RX7 91 md_X9_isKind 1 := ⟨⟨j_inN 488 (by decide +kernel), j_in 359 (by decide +kernel) rfl, j_in 100 (by decide +kernel) rfl⟩, cd_X9_isKind, ⟨by decide, by decide, by decide +kernel⟩⟩
theorem cd_X9_isPace : j_cd md_X9_isPace := j_in 363 (by decide +kernel) rfl
theorem lk_X7_94 : j_lkSN RX7 94 md_X9_isPace 1 := ⟨⟨j_inN 489 (by decide +kernel), j_in 362 (by decide +kernel) rfl, j_in 100 (by decide +kernel) rfl⟩, cd_X9_isPace, ⟨by decide, by decide, by decide +kernel⟩⟩
theorem lk_X7_97 : j_lkVN RX7 97 md_X0_isOpen 1 := ⟨⟨j_inN 490 (by decide +kernel), j_in 366 (by decide +kernel) rfl, j_in 4 (by decide +kernel) rfl, j_in 109 (by decide +kernel) rfl⟩, cd_X0_isOpen, ⟨by decide, by decide, by decide +kernel⟩⟩
theorem cd_X0_comes : j_cd md_X0_comes := j_in 375 (by decide +kernel) rfl
theorem lk_X7_100 : j_lkVN RX7 100 md_X0_comes 3 := ⟨⟨j_inN 491 (by decide +kernel), j_in 374 (by decide +kernel) rfl, j_in 6 (by decide +kernel) rfl, j_in 109 (by decide +kernel) rfl⟩, cd_X0_comes, ⟨by decide, by decide, by decide +kernel⟩⟩
theorem cd_X7_isWord : j_cd md_X7_isWord := j_in 409 (by decide +kernel) rfl
theorem lk_X7_35 : j_lkV RX7 35 md_X7_isWord 1 := ⟨⟨j_in 406 (by decide +kernel) rfl, j_in 408 (by decide +kernel) rfl, j_in 11 (by decide +kernel) rfl, j_in 102 (by decide +kernel) rfl⟩, cd_X7_isWord, ⟨by decide, by decide, by decide +kernel⟩⟩
theorem cd_X7_tellOne : j_cd md_X7_tellOne := j_in 487 (by decide +kernel) rfl
theorem lk_X7_62 : j_lkV RX7 62 md_X7_tellOne 1 := ⟨⟨j_in 484 (by decide +kernel) rfl, j_in 486 (by decide +kernel) rfl, j_in 17 (by decide +kernel) rfl, j_in 102 (by decide +kernel) rfl⟩, cd_X7_tellOne, ⟨by decide, by decide, by decide +kernel⟩⟩
theorem cd_X7_tellShut : j_cd md_X7_tellShut := j_in 481 (by decide +kernel) rfl
theorem lk_X7_54 : j_lkV RX7 54 md_X7_tellShut 1 := ⟨⟨j_in 478 (by decide +kernel) rfl, j_in 480 (by decide +kernel) rfl, j_in 16 (by decide +kernel) rfl, j_in 102 (by decide +kernel) rfl⟩, cd_X7_tellShut, ⟨by decide, by decide, by decide +kernel⟩⟩
theorem cd_X7_tellSign : j_cd md_X7_tellSign := j_in 470 (by decide +kernel) rfl
theorem lk_X7_49 : j_lkV RX7 49 md_X7_tellSign 1 := ⟨⟨j_in 467 (by decide +kernel) rfl, j_in 469 (by decide +kernel) rfl, j_in 14 (by decide +kernel) rfl, j_in 102 (by decide +kernel) rfl⟩, cd_X7_tellSign, ⟨by decide, by decide, by decide +kernel⟩⟩
theorem cd_X0_begin : j_cd md_X0_begin := j_in 225 (by decide +kernel) rfl
theorem lk_X7_25 : j_lkVN RX7 25 md_X0_begin 0 := ⟨⟨j_inN 396 (by decide +kernel), j_in 224 (by decide +kernel) rfl, j_in 0 (by decide +kernel) rfl, j_in 109 (by decide +kernel) rfl⟩, cd_X0_begin, ⟨by decide, by decide, by decide +kernel⟩⟩
theorem cd_X7_nextEndsItem : j_cd md_X7_nextEndsItem := j_in 461 (by decide +kernel) rfl
theorem lk_X7_39 : j_lkV RX7 39 md_X7_nextEndsItem 0 := ⟨⟨j_in 458 (by decide +kernel) rfl, j_in 460 (by decide +kernel) rfl, j_in 12 (by decide +kernel) rfl, j_in 102 (by decide +kernel) rfl⟩, cd_X7_nextEndsItem, ⟨by decide, by decide, by decide +kernel⟩⟩
theorem cd_X7_tellItem : j_cd md_X7_tellItem := j_in 465 (by decide +kernel) rfl
theorem lk_X7_43 : j_lkV RX7 43 md_X7_tellItem 1 := ⟨⟨j_in 462 (by decide +kernel) rfl, j_in 464 (by decide +kernel) rfl, j_in 13 (by decide +kernel) rfl, j_in 102 (by decide +kernel) rfl⟩, cd_X7_tellItem, ⟨by decide, by decide, by decide +kernel⟩⟩
theorem lk_X9_85 : j_lkVN RX9 85 md_X0_begin 0 := ⟨⟨j_inN 327 (by decide +kernel), j_in 224 (by decide +kernel) rfl, j_in 0 (by decide +kernel) rfl, j_in 109 (by decide +kernel) rfl⟩, cd_X0_begin, ⟨by decide, by decide, by decide +kernel⟩⟩
theorem lk_X9_88 : j_lkS RX9 88 md_X9_isLane 1 := ⟨⟨j_in 332 (by decide +kernel) rfl, j_in 333 (by decide +kernel) rfl, j_in 100 (by decide +kernel) rfl⟩, cd_X9_isLane, ⟨by decide, by decide, by decide +kernel⟩⟩
theorem cd_X9_bad : j_cd md_X9_bad := j_in 341 (by decide +kernel) rfl
theorem lk_X9_96 : j_lkV RX9 96 md_X9_bad 0 := ⟨⟨j_in 338 (by decide +kernel) rfl, j_in 340 (by decide +kernel) rfl, j_in 1 (by decide +kernel) rfl, j_in 100 (by decide +kernel) rfl⟩, cd_X9_bad, ⟨by decide, by decide, by decide +kernel⟩⟩
theorem lk_X9_106 : j_lkVN RX9 106 md_X0_members 2 := ⟨⟨j_inN 346 (by decide +kernel), j_in 348 (by decide +kernel) rfl, j_in 2 (by decide +kernel) rfl, j_in 109 (by decide +kernel) rfl⟩, cd_X0_members, ⟨by decide, by decide, by decide +kernel⟩⟩
theorem cd_X9_no : j_cd md_X9_no := j_in 353 (by decide +kernel) rfl
theorem lk_X9_110 : j_lkV RX9 110 md_X9_no 0 := ⟨⟨j_in 350 (by decide +kernel) rfl, j_in 352 (by decide +kernel) rfl, j_in 3 (by decide +kernel) rfl, j_in 100 (by decide +kernel) rfl⟩, cd_X9_no, ⟨by decide, by decide, by decide +kernel⟩⟩
theorem lk_X9_119 : j_lkS RX9 119 md_X9_isKind 1 := ⟨⟨j_in 358 (by decide +kernel) rfl, j_in 359 (by decide +kernel) rfl, j_in 100 (by decide +kernel) rfl⟩, cd_X9_isKind, ⟨by decide, by decide, by decide +kernel⟩⟩
theorem lk_X9_122 : j_lkS RX9 122 md_X9_isPace 1 := ⟨⟨j_in 361 (by decide +kernel) rfl, j_in 362 (by decide +kernel) rfl, j_in 100 (by decide +kernel) rfl⟩, cd_X9_isPace, ⟨by decide, by decide, by decide +kernel⟩⟩
theorem lk_X9_125 : j_lkVN RX9 125 md_X0_isOpen 1 := ⟨⟨j_inN 364 (by decide +kernel), j_in 366 (by decide +kernel) rfl, j_in 4 (by decide +kernel) rfl, j_in 109 (by decide +kernel) rfl⟩, cd_X0_isOpen, ⟨by decide, by decide, by decide +kernel⟩⟩
theorem lk_X9_131 : j_lkVN RX9 131 md_X0_comes 3 := ⟨⟨j_inN 372 (by decide +kernel), j_in 374 (by decide +kernel) rfl, j_in 6 (by decide +kernel) rfl, j_in 109 (by decide +kernel) rfl⟩, cd_X0_comes, ⟨by decide, by decide, by decide +kernel⟩⟩
theorem cd_X9_full : j_cd md_X9_full := j_in 371 (by decide +kernel) rfl
theorem lk_X9_128 : j_lkV RX9 128 md_X9_full 0 := ⟨⟨j_in 368 (by decide +kernel) rfl, j_in 370 (by decide +kernel) rfl, j_in 5 (by decide +kernel) rfl, j_in 100 (by decide +kernel) rfl⟩, cd_X9_full, ⟨by decide, by decide, by decide +kernel⟩⟩
theorem cd_X7_add : j_cd md_X7_add := j_in 383 (by decide +kernel) rfl
theorem lk_X9_138 : j_lkVN RX9 138 md_X7_add 1 := ⟨⟨j_inN 380 (by decide +kernel), j_in 382 (by decide +kernel) rfl, j_in 7 (by decide +kernel) rfl, j_in 102 (by decide +kernel) rfl⟩, cd_X7_add, ⟨by decide, by decide, by decide +kernel⟩⟩
theorem cd_X7_tellTo : j_cd md_X7_tellTo := j_in 395 (by decide +kernel) rfl
theorem lk_X9_142 : j_lkVN RX9 142 md_X7_tellTo 1 := ⟨⟨j_inN 392 (by decide +kernel), j_in 394 (by decide +kernel) rfl, j_in 8 (by decide +kernel) rfl, j_in 102 (by decide +kernel) rfl⟩, cd_X7_tellTo, ⟨by decide, by decide, by decide +kernel⟩⟩
theorem cd_X0_becomes : j_cd md_X0_becomes := j_in 495 (by decide +kernel) rfl
theorem lk_X9_149 : j_lkVN RX9 149 md_X0_becomes 1 := ⟨⟨j_inN 492 (by decide +kernel), j_in 494 (by decide +kernel) rfl, j_in 18 (by decide +kernel) rfl, j_in 109 (by decide +kernel) rfl⟩, cd_X0_becomes, ⟨by decide, by decide, by decide +kernel⟩⟩
theorem cd_X9_isOne : j_cd md_X9_isOne := j_in 504 (by decide +kernel) rfl
theorem lk_X9_153 : j_lkV RX9 153 md_X9_isOne 1 := ⟨⟨j_in 501 (by decide +kernel) rfl, j_in 503 (by decide +kernel) rfl, j_in 19 (by decide +kernel) rfl, j_in 100 (by decide +kernel) rfl⟩, cd_X9_isOne, ⟨by decide, by decide, by decide +kernel⟩⟩
theorem cd_X0_laneOf : j_cd md_X0_laneOf := j_in 508 (by decide +kernel) rfl
theorem lk_X9_156 : j_lkVN RX9 156 md_X0_laneOf 1 := ⟨⟨j_inN 505 (by decide +kernel), j_in 507 (by decide +kernel) rfl, j_in 20 (by decide +kernel) rfl, j_in 109 (by decide +kernel) rfl⟩, cd_X0_laneOf, ⟨by decide, by decide, by decide +kernel⟩⟩
theorem cd_X0_keepForUndo : j_cd md_X0_keepForUndo := j_in 512 (by decide +kernel) rfl
theorem lk_X9_159 : j_lkVN RX9 159 md_X0_keepForUndo 0 := ⟨⟨j_inN 509 (by decide +kernel), j_in 511 (by decide +kernel) rfl, j_in 21 (by decide +kernel) rfl, j_in 109 (by decide +kernel) rfl⟩, cd_X0_keepForUndo, ⟨by decide, by decide, by decide +kernel⟩⟩
theorem cd_X0_minuteGoesBy : j_cd md_X0_minuteGoesBy := j_in 520 (by decide +kernel) rfl
theorem lk_X9_162 : j_lkVN RX9 162 md_X0_minuteGoesBy 1 := ⟨⟨j_inN 517 (by decide +kernel), j_in 519 (by decide +kernel) rfl, j_in 22 (by decide +kernel) rfl, j_in 109 (by decide +kernel) rfl⟩, cd_X0_minuteGoesBy, ⟨by decide, by decide, by decide +kernel⟩⟩
theorem cd_X0_takeBack : j_cd md_X0_takeBack := j_in 588 (by decide +kernel) rfl
theorem lk_X9_166 : j_lkVN RX9 166 md_X0_takeBack 0 := ⟨⟨j_inN 585 (by decide +kernel), j_in 587 (by decide +kernel) rfl, j_in 29 (by decide +kernel) rfl, j_in 109 (by decide +kernel) rfl⟩, cd_X0_takeBack, ⟨by decide, by decide, by decide +kernel⟩⟩
theorem cd_X0_believedBy : j_cd md_X0_believedBy := j_in 596 (by decide +kernel) rfl
theorem lk_X9_175 : j_lkVN RX9 175 md_X0_believedBy 1 := ⟨⟨j_inN 593 (by decide +kernel), j_in 595 (by decide +kernel) rfl, j_in 30 (by decide +kernel) rfl, j_in 109 (by decide +kernel) rfl⟩, cd_X0_believedBy, ⟨by decide, by decide, by decide +kernel⟩⟩
theorem lk_X9_178 : j_lkVN RX9 178 md_X0_others 3 := ⟨⟨j_inN 623 (by decide +kernel), j_in 531 (by decide +kernel) rfl, j_in 25 (by decide +kernel) rfl, j_in 109 (by decide +kernel) rfl⟩, cd_X0_others, ⟨by decide, by decide, by decide +kernel⟩⟩
theorem lk_X9_182 : j_lkVN RX9 182 md_X0_takes 2 := ⟨⟨j_inN 624 (by decide +kernel), j_in 626 (by decide +kernel) rfl, j_in 31 (by decide +kernel) rfl, j_in 109 (by decide +kernel) rfl⟩, cd_X0_takes, ⟨by decide, by decide, by decide +kernel⟩⟩
theorem lk_X9_186 : j_lkVN RX9 186 md_X0_slowerThan 2 := ⟨⟨j_inN 628 (by decide +kernel), j_in 550 (by decide +kernel) rfl, j_in 28 (by decide +kernel) rfl, j_in 109 (by decide +kernel) rfl⟩, cd_X0_slowerThan, ⟨by decide, by decide, by decide +kernel⟩⟩
theorem lk_X9_299 : j_lkVN RX9 299 md_X0_takesIn 3 := ⟨⟨j_inN 638 (by decide +kernel), j_in 527 (by decide +kernel) rfl, j_in 24 (by decide +kernel) rfl, j_in 109 (by decide +kernel) rfl⟩, cd_X0_takesIn, ⟨by decide, by decide, by decide +kernel⟩⟩
theorem cd_X9_lengthsToCome : j_cd md_X9_lengthsToCome := j_in 637 (by decide +kernel) rfl
theorem lk_X9_194 : j_lkV RX9 194 md_X9_lengthsToCome 2 := ⟨⟨j_in 634 (by decide +kernel) rfl, j_in 636 (by decide +kernel) rfl, j_in 32 (by decide +kernel) rfl, j_in 100 (by decide +kernel) rfl⟩, cd_X9_lengthsToCome, ⟨by decide, by decide, by decide +kernel⟩⟩
theorem cd_X0_quickestLane : j_cd md_X0_quickestLane := j_in 646 (by decide +kernel) rfl
theorem lk_X9_197 : j_lkVN RX9 197 md_X0_quickestLane 2 := ⟨⟨j_inN 643 (by decide +kernel), j_in 645 (by decide +kernel) rfl, j_in 33 (by decide +kernel) rfl, j_in 109 (by decide +kernel) rfl⟩, cd_X0_quickestLane, ⟨by decide, by decide, by decide +kernel⟩⟩
theorem lk_X9_200 : j_lkVN RX9 200 md_X0_costTo 2 := ⟨⟨j_inN 656 (by decide +kernel), j_in 658 (by decide +kernel) rfl, j_in 35 (by decide +kernel) rfl, j_in 109 (by decide +kernel) rfl⟩, cd_X0_costTo, ⟨by decide, by decide, by decide +kernel⟩⟩
theorem lk_X9_305 : j_lkVN RX9 305 md_X0_leastOpenLane 0 := ⟨⟨j_inN 669 (by decide +kernel), j_in 649 (by decide +kernel) rfl, j_in 34 (by decide +kernel) rfl, j_in 109 (by decide +kernel) rfl⟩, cd_X0_leastOpenLane, ⟨by decide, by decide, by decide +kernel⟩⟩
theorem cd_X9_cheapestLane : j_cd md_X9_cheapestLane := j_in 668 (by decide +kernel) rfl
theorem lk_X9_203 : j_lkV RX9 203 md_X9_cheapestLane 1 := ⟨⟨j_in 665 (by decide +kernel) rfl, j_in 667 (by decide +kernel) rfl, j_in 36 (by decide +kernel) rfl, j_in 100 (by decide +kernel) rfl⟩, cd_X9_cheapestLane, ⟨by decide, by decide, by decide +kernel⟩⟩
theorem cd_X9_signOf : j_cd md_X9_signOf := j_in 676 (by decide +kernel) rfl
theorem lk_X9_206 : j_lkS RX9 206 md_X9_signOf 1 := ⟨⟨j_in 674 (by decide +kernel) rfl, j_in 675 (by decide +kernel) rfl, j_in 100 (by decide +kernel) rfl⟩, cd_X9_signOf, ⟨by decide, by decide, by decide +kernel⟩⟩
theorem cd_X4_begin : j_cd md_X4_begin := j_in 688 (by decide +kernel) rfl
theorem lk_X9_212 : j_lkVN RX9 212 md_X4_begin 0 := ⟨⟨j_inN 685 (by decide +kernel), j_in 687 (by decide +kernel) rfl, j_in 38 (by decide +kernel) rfl, j_in 101 (by decide +kernel) rfl⟩, cd_X4_begin, ⟨by decide, by decide, by decide +kernel⟩⟩
theorem lk_X9_213 : j_lkVN RX9 213 md_X4_place 3 := ⟨⟨j_inN 691 (by decide +kernel), j_in 693 (by decide +kernel) rfl, j_in 39 (by decide +kernel) rfl, j_in 101 (by decide +kernel) rfl⟩, cd_X4_place, ⟨by decide, by decide, by decide +kernel⟩⟩
theorem cd_X9_badAsTen : j_cd md_X9_badAsTen := j_in 684 (by decide +kernel) rfl
theorem lk_X9_209 : j_lkV RX9 209 md_X9_badAsTen 0 := ⟨⟨j_in 681 (by decide +kernel) rfl, j_in 683 (by decide +kernel) rfl, j_in 37 (by decide +kernel) rfl, j_in 100 (by decide +kernel) rfl⟩, cd_X9_badAsTen, ⟨by decide, by decide, by decide +kernel⟩⟩
theorem lk_X9_223 : Cond.methodLink RX9 223 arraycopyName ∈ j_gt ∧ Cond.native arraycopyName ∈ j_gt ∧ Cond.static arraycopyName ∈ j_gt ∧ Cond.initialized "java/lang/System" ∈ j_gt := ⟨j_in 704 (by decide +kernel) rfl, j_in 230 (by decide +kernel) rfl, j_in 229 (by decide +kernel) rfl, j_in 110 (by decide +kernel) rfl⟩
theorem cd_X9_changeTillNobodyWould : j_cd md_X9_changeTillNobodyWould := j_in 708 (by decide +kernel) rfl
theorem lk_X9_229 : j_lkV RX9 229 md_X9_changeTillNobodyWould 1 := ⟨⟨j_in 705 (by decide +kernel) rfl, j_in 707 (by decide +kernel) rfl, j_in 40 (by decide +kernel) rfl, j_in 100 (by decide +kernel) rfl⟩, cd_X9_changeTillNobodyWould, ⟨by decide, by decide, by decide +kernel⟩⟩
theorem lk_X9_314 : j_lkS RX9 314 md_X9_has 2 := ⟨⟨j_in 717 (by decide +kernel) rfl, j_in 543 (by decide +kernel) rfl, j_in 100 (by decide +kernel) rfl⟩, cd_X9_has, ⟨by decide, by decide, by decide +kernel⟩⟩
theorem cd_X9_ranksBelow : j_cd md_X9_ranksBelow := j_in 725 (by decide +kernel) rfl
theorem lk_X9_321 : j_lkV RX9 321 md_X9_ranksBelow 2 := ⟨⟨j_in 722 (by decide +kernel) rfl, j_in 724 (by decide +kernel) rfl, j_in 43 (by decide +kernel) rfl, j_in 100 (by decide +kernel) rfl⟩, cd_X9_ranksBelow, ⟨by decide, by decide, by decide +kernel⟩⟩
theorem cd_X9_mayFollow : j_cd md_X9_mayFollow := j_in 729 (by decide +kernel) rfl
theorem lk_X9_324 : j_lkV RX9 324 md_X9_mayFollow 4 := ⟨⟨j_in 726 (by decide +kernel) rfl, j_in 728 (by decide +kernel) rfl, j_in 44 (by decide +kernel) rfl, j_in 100 (by decide +kernel) rfl⟩, cd_X9_mayFollow, ⟨by decide, by decide, by decide +kernel⟩⟩
theorem cd_X9_placesFor : j_cd md_X9_placesFor := j_in 721 (by decide +kernel) rfl
theorem lk_X9_318 : j_lkV RX9 318 md_X9_placesFor 4 := ⟨⟨j_in 718 (by decide +kernel) rfl, j_in 720 (by decide +kernel) rfl, j_in 42 (by decide +kernel) rfl, j_in 100 (by decide +kernel) rfl⟩, cd_X9_placesFor, ⟨by decide, by decide, by decide +kernel⟩⟩
theorem cd_X9_hasStepAbove : j_cd md_X9_hasStepAbove := j_in 745 (by decide +kernel) rfl
theorem lk_X9_334 : j_lkV RX9 334 md_X9_hasStepAbove 5 := ⟨⟨j_in 742 (by decide +kernel) rfl, j_in 744 (by decide +kernel) rfl, j_in 48 (by decide +kernel) rfl, j_in 100 (by decide +kernel) rfl⟩, cd_X9_hasStepAbove, ⟨by decide, by decide, by decide +kernel⟩⟩
theorem cd_X9_restMayFollow : j_cd md_X9_restMayFollow := j_in 741 (by decide +kernel) rfl
theorem lk_X9_331 : j_lkV RX9 331 md_X9_restMayFollow 4 := ⟨⟨j_in 738 (by decide +kernel) rfl, j_in 740 (by decide +kernel) rfl, j_in 47 (by decide +kernel) rfl, j_in 100 (by decide +kernel) rfl⟩, cd_X9_restMayFollow, ⟨by decide, by decide, by decide +kernel⟩⟩
theorem cd_X9_nextStarter : j_cd md_X9_nextStarter := j_in 737 (by decide +kernel) rfl
theorem lk_X9_328 : j_lkV RX9 328 md_X9_nextStarter 4 := ⟨⟨j_in 734 (by decide +kernel) rfl, j_in 736 (by decide +kernel) rfl, j_in 46 (by decide +kernel) rfl, j_in 100 (by decide +kernel) rfl⟩, cd_X9_nextStarter, ⟨by decide, by decide, by decide +kernel⟩⟩
theorem cd_X9_starter : j_cd md_X9_starter := j_in 733 (by decide +kernel) rfl
theorem lk_X9_235 : j_lkV RX9 235 md_X9_starter 4 := ⟨⟨j_in 730 (by decide +kernel) rfl, j_in 732 (by decide +kernel) rfl, j_in 45 (by decide +kernel) rfl, j_in 100 (by decide +kernel) rfl⟩, cd_X9_starter, ⟨by decide, by decide, by decide +kernel⟩⟩
theorem cd_X9_ordersOf : j_cd md_X9_ordersOf := j_in 716 (by decide +kernel) rfl
theorem lk_X9_232 : j_lkV RX9 232 md_X9_ordersOf 3 := ⟨⟨j_in 713 (by decide +kernel) rfl, j_in 715 (by decide +kernel) rfl, j_in 41 (by decide +kernel) rfl, j_in 100 (by decide +kernel) rfl⟩, cd_X9_ordersOf, ⟨by decide, by decide, by decide +kernel⟩⟩
theorem lk_X9_338 : Cond.methodLink RX9 338 Lib.Math.max.name ∈ j_gt ∧ Cond.static Lib.Math.max.name ∈ j_gt ∧ Cond.initialized "java/lang/Math" ∈ j_gt ∧ Cond.code Lib.Math.max.name Lib.Math.max.code 2 (some .int) ∈ j_gt := ⟨j_in 754 (by decide +kernel) rfl, j_in 546 (by decide +kernel) rfl, j_in 117 (by decide +kernel) rfl, j_in 547 (by decide +kernel) rfl⟩
theorem cd_X9_leastApart : j_cd md_X9_leastApart := j_in 753 (by decide +kernel) rfl
theorem lk_X9_239 : j_lkV RX9 239 md_X9_leastApart 2 := ⟨⟨j_in 750 (by decide +kernel) rfl, j_in 752 (by decide +kernel) rfl, j_in 49 (by decide +kernel) rfl, j_in 100 (by decide +kernel) rfl⟩, cd_X9_leastApart, ⟨by decide, by decide, by decide +kernel⟩⟩
theorem cd_X0_writeDown : j_cd md_X0_writeDown := j_in 762 (by decide +kernel) rfl
theorem lk_X9_245 : j_lkVN RX9 245 md_X0_writeDown 5 := ⟨⟨j_inN 759 (by decide +kernel), j_in 761 (by decide +kernel) rfl, j_in 50 (by decide +kernel) rfl, j_in 109 (by decide +kernel) rfl⟩, cd_X0_writeDown, ⟨by decide, by decide, by decide +kernel⟩⟩
theorem cd_X0_notesFit : j_cd md_X0_notesFit := j_in 778 (by decide +kernel) rfl
theorem lk_X9_343 : j_lkVN RX9 343 md_X0_notesFit 3 := ⟨⟨j_inN 775 (by decide +kernel), j_in 777 (by decide +kernel) rfl, j_in 52 (by decide +kernel) rfl, j_in 109 (by decide +kernel) rfl⟩, cd_X0_notesFit, ⟨by decide, by decide, by decide +kernel⟩⟩
theorem cd_X9_pacesThatFit : j_cd md_X9_pacesThatFit := j_in 782 (by decide +kernel) rfl
theorem lk_X9_252 : j_lkV RX9 252 md_X9_pacesThatFit 1 := ⟨⟨j_in 779 (by decide +kernel) rfl, j_in 781 (by decide +kernel) rfl, j_in 53 (by decide +kernel) rfl, j_in 100 (by decide +kernel) rfl⟩, cd_X9_pacesThatFit, ⟨by decide, by decide, by decide +kernel⟩⟩
theorem cd_X9_kindsThatFit : j_cd md_X9_kindsThatFit := j_in 774 (by decide +kernel) rfl
theorem lk_X9_249 : j_lkV RX9 249 md_X9_kindsThatFit 1 := ⟨⟨j_in 771 (by decide +kernel) rfl, j_in 773 (by decide +kernel) rfl, j_in 51 (by decide +kernel) rfl, j_in 100 (by decide +kernel) rfl⟩, cd_X9_kindsThatFit, ⟨by decide, by decide, by decide +kernel⟩⟩
theorem lk_X9_349 : j_lkVN RX9 349 md_X0_takesAs 3 := ⟨⟨j_inN 795 (by decide +kernel), j_in 536 (by decide +kernel) rfl, j_in 26 (by decide +kernel) rfl, j_in 109 (by decide +kernel) rfl⟩, cd_X0_takesAs, ⟨by decide, by decide, by decide +kernel⟩⟩
theorem cd_X9_howManyAlike : j_cd md_X9_howManyAlike := j_in 799 (by decide +kernel) rfl
theorem lk_X9_352 : j_lkV RX9 352 md_X9_howManyAlike 4 := ⟨⟨j_in 796 (by decide +kernel) rfl, j_in 798 (by decide +kernel) rfl, j_in 56 (by decide +kernel) rfl, j_in 100 (by decide +kernel) rfl⟩, cd_X9_howManyAlike, ⟨by decide, by decide, by decide +kernel⟩⟩
theorem cd_X9_mostAlike : j_cd md_X9_mostAlike := j_in 794 (by decide +kernel) rfl
theorem lk_X9_346 : j_lkV RX9 346 md_X9_mostAlike 3 := ⟨⟨j_in 791 (by decide +kernel) rfl, j_in 793 (by decide +kernel) rfl, j_in 55 (by decide +kernel) rfl, j_in 100 (by decide +kernel) rfl⟩, cd_X9_mostAlike, ⟨by decide, by decide, by decide +kernel⟩⟩
theorem cd_X9_tellingLane : j_cd md_X9_tellingLane := j_in 790 (by decide +kernel) rfl
theorem lk_X9_255 : j_lkV RX9 255 md_X9_tellingLane 2 := ⟨⟨j_in 787 (by decide +kernel) rfl, j_in 789 (by decide +kernel) rfl, j_in 54 (by decide +kernel) rfl, j_in 100 (by decide +kernel) rfl⟩, cd_X9_tellingLane, ⟨by decide, by decide, by decide +kernel⟩⟩
theorem cd_X9_toToucher : j_cd md_X9_toToucher := j_in 809 (by decide +kernel) rfl
theorem lk_X9_355 : j_lkS RX9 355 md_X9_toToucher 2 := ⟨⟨j_in 807 (by decide +kernel) rfl, j_in 808 (by decide +kernel) rfl, j_in 100 (by decide +kernel) rfl⟩, cd_X9_toToucher, ⟨by decide, by decide, by decide +kernel⟩⟩
theorem cd_X9_toTouched : j_cd md_X9_toTouched := j_in 812 (by decide +kernel) rfl
theorem lk_X9_359 : j_lkS RX9 359 md_X9_toTouched 3 := ⟨⟨j_in 810 (by decide +kernel) rfl, j_in 811 (by decide +kernel) rfl, j_in 100 (by decide +kernel) rfl⟩, cd_X9_toTouched, ⟨by decide, by decide, by decide +kernel⟩⟩
theorem cd_X9_rests : j_cd md_X9_rests := j_in 806 (by decide +kernel) rfl
theorem lk_X9_258 : j_lkS RX9 258 md_X9_rests 3 := ⟨⟨j_in 804 (by decide +kernel) rfl, j_in 805 (by decide +kernel) rfl, j_in 100 (by decide +kernel) rfl⟩, cd_X9_rests, ⟨by decide, by decide, by decide +kernel⟩⟩
theorem cd_X9_lowerBy : j_cd md_X9_lowerBy := j_in 832 (by decide +kernel) rfl
theorem lk_X9_371 : j_lkV RX9 371 md_X9_lowerBy 1 := ⟨⟨j_in 829 (by decide +kernel) rfl, j_in 831 (by decide +kernel) rfl, j_in 59 (by decide +kernel) rfl, j_in 100 (by decide +kernel) rfl⟩, cd_X9_lowerBy, ⟨by decide, by decide, by decide +kernel⟩⟩
theorem cd_X9_countWays : j_cd md_X9_countWays := j_in 820 (by decide +kernel) rfl
theorem lk_X9_262 : j_lkV RX9 262 md_X9_countWays 2 := ⟨⟨j_in 817 (by decide +kernel) rfl, j_in 819 (by decide +kernel) rfl, j_in 57 (by decide +kernel) rfl, j_in 100 (by decide +kernel) rfl⟩, cd_X9_countWays, ⟨by decide, by decide, by decide +kernel⟩⟩
theorem cd_X9_lowerTerms : j_cd md_X9_lowerTerms := j_in 827 (by decide +kernel) rfl
theorem lk_X9_266 : j_lkV RX9 266 md_X9_lowerTerms 1 := ⟨⟨j_in 824 (by decide +kernel) rfl, j_in 826 (by decide +kernel) rfl, j_in 58 (by decide +kernel) rfl, j_in 100 (by decide +kernel) rfl⟩, cd_X9_lowerTerms, ⟨by decide, by decide, by decide +kernel⟩⟩
theorem cd_X9_afterwards : j_cd md_X9_afterwards := j_in 840 (by decide +kernel) rfl
theorem lk_X9_271 : j_lkS RX9 271 md_X9_afterwards 1 := ⟨⟨j_in 838 (by decide +kernel) rfl, j_in 839 (by decide +kernel) rfl, j_in 100 (by decide +kernel) rfl⟩, cd_X9_afterwards, ⟨by decide, by decide, by decide +kernel⟩⟩
theorem cd_X0_openLanes : j_cd md_X0_openLanes := j_in 873 (by decide +kernel) rfl
theorem lk_X9_293 : j_lkVN RX9 293 md_X0_openLanes 0 := ⟨⟨j_inN 870 (by decide +kernel), j_in 872 (by decide +kernel) rfl, j_in 61 (by decide +kernel) rfl, j_in 109 (by decide +kernel) rfl⟩, cd_X0_openLanes, ⟨by decide, by decide, by decide +kernel⟩⟩
theorem cd_X0_lengthsOfAll : j_cd md_X0_lengthsOfAll := j_in 877 (by decide +kernel) rfl
theorem lk_X9_296 : j_lkVN RX9 296 md_X0_lengthsOfAll 0 := ⟨⟨j_inN 874 (by decide +kernel), j_in 876 (by decide +kernel) rfl, j_in 62 (by decide +kernel) rfl, j_in 109 (by decide +kernel) rfl⟩, cd_X0_lengthsOfAll, ⟨by decide, by decide, by decide +kernel⟩⟩
theorem cd_X9_howMany : j_cd md_X9_howMany := j_in 869 (by decide +kernel) rfl
theorem lk_X9_283 : j_lkV RX9 283 md_X9_howMany 1 := ⟨⟨j_in 866 (by decide +kernel) rfl, j_in 868 (by decide +kernel) rfl, j_in 60 (by decide +kernel) rfl, j_in 100 (by decide +kernel) rfl⟩, cd_X9_howMany, ⟨by decide, by decide, by decide +kernel⟩⟩
theorem cd_X0_digestFrom : j_cd md_X0_digestFrom := j_in 887 (by decide +kernel) rfl
theorem lk_X9_290 : j_lkVN RX9 290 md_X0_digestFrom 1 := ⟨⟨j_inN 884 (by decide +kernel), j_in 886 (by decide +kernel) rfl, j_in 63 (by decide +kernel) rfl, j_in 109 (by decide +kernel) rfl⟩, cd_X0_digestFrom, ⟨by decide, by decide, by decide +kernel⟩⟩
theorem j_out0_2 {x : Int32} (c0 : ¬ x = (0 : Int32)) (c1 : ¬ x = (1 : Int32)) (c2 : ¬ x = (2 : Int32)) : x.toInt < 0 ∨ 2 < x.toInt := by
  have h0 := lv_neT c0 (show ((0 : Int32)).toInt = 0 from rfl)
  have h1 := lv_neT c1 (show ((1 : Int32)).toInt = 1 from rfl)
  have h2 := lv_neT c2 (show ((2 : Int32)).toInt = 2 from rfl)
  omega
theorem j_out0_4 {x : Int32} (c0 : ¬ x = (0 : Int32)) (c1 : ¬ x = (1 : Int32)) (c2 : ¬ x = (2 : Int32)) (c3 : ¬ x = (3 : Int32)) (c4 : ¬ x = (4 : Int32)) : x.toInt < 0 ∨ 4 < x.toInt := by
  have h0 := lv_neT c0 (show ((0 : Int32)).toInt = 0 from rfl)
  have h1 := lv_neT c1 (show ((1 : Int32)).toInt = 1 from rfl)
  have h2 := lv_neT c2 (show ((2 : Int32)).toInt = 2 from rfl)
  have h3 := lv_neT c3 (show ((3 : Int32)).toInt = 3 from rfl)
  have h4 := lv_neT c4 (show ((4 : Int32)).toInt = 4 from rfl)
  omega
theorem j_out0_5 {x : Int32} (c0 : ¬ x = (0 : Int32)) (c1 : ¬ x = (1 : Int32)) (c2 : ¬ x = (2 : Int32)) (c3 : ¬ x = (3 : Int32)) (c4 : ¬ x = (4 : Int32)) (c5 : ¬ x = (5 : Int32)) : x.toInt < 0 ∨ 5 < x.toInt := by
  have h0 := lv_neT c0 (show ((0 : Int32)).toInt = 0 from rfl)
  have h1 := lv_neT c1 (show ((1 : Int32)).toInt = 1 from rfl)
  have h2 := lv_neT c2 (show ((2 : Int32)).toInt = 2 from rfl)
  have h3 := lv_neT c3 (show ((3 : Int32)).toInt = 3 from rfl)
  have h4 := lv_neT c4 (show ((4 : Int32)).toInt = 4 from rfl)
  have h5 := lv_neT c5 (show ((5 : Int32)).toInt = 5 from rfl)
  omega
theorem j_out1_5 {x : Int32} (c1 : ¬ x = (1 : Int32)) (c2 : ¬ x = (2 : Int32)) (c3 : ¬ x = (3 : Int32)) (c4 : ¬ x = (4 : Int32)) (c5 : ¬ x = (5 : Int32)) : x.toInt < 1 ∨ 5 < x.toInt := by
  have h1 := lv_neT c1 (show ((1 : Int32)).toInt = 1 from rfl)
  have h2 := lv_neT c2 (show ((2 : Int32)).toInt = 2 from rfl)
  have h3 := lv_neT c3 (show ((3 : Int32)).toInt = 3 from rfl)
  have h4 := lv_neT c4 (show ((4 : Int32)).toInt = 4 from rfl)
  have h5 := lv_neT c5 (show ((5 : Int32)).toInt = 5 from rfl)
  omega
