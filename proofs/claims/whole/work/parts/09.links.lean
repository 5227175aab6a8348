theorem bp_m10 : (Int8.ofInt (-10)).toInt32 = ((-10) : Int32) := by decide
theorem bp_m5 : (Int8.ofInt (-5)).toInt32 = ((-5) : Int32) := by decide
theorem bp_m4 : (Int8.ofInt (-4)).toInt32 = ((-4) : Int32) := by decide
theorem bp_m3 : (Int8.ofInt (-3)).toInt32 = ((-3) : Int32) := by decide
theorem bp_m2 : (Int8.ofInt (-2)).toInt32 = ((-2) : Int32) := by decide
theorem bp_6 : (Int8.ofInt (6)).toInt32 = (6 : Int32) := by decide
theorem bp_7 : (Int8.ofInt (7)).toInt32 = (7 : Int32) := by decide
theorem bp_8 : (Int8.ofInt (8)).toInt32 = (8 : Int32) := by decide
theorem bp_9 : (Int8.ofInt (9)).toInt32 = (9 : Int32) := by decide
theorem bp_10 : (Int8.ofInt (10)).toInt32 = (10 : Int32) := by decide
theorem bp_15 : (Int8.ofInt (15)).toInt32 = (15 : Int32) := by decide
theorem bp_16 : (Int8.ofInt (16)).toInt32 = (16 : Int32) := by decide
theorem bp_20 : (Int8.ofInt (20)).toInt32 = (20 : Int32) := by decide
theorem bp_21 : (Int8.ofInt (21)).toInt32 = (21 : Int32) := by decide
theorem bp_22 : (Int8.ofInt (22)).toInt32 = (22 : Int32) := by decide
theorem bp_23 : (Int8.ofInt (23)).toInt32 = (23 : Int32) := by decide
theorem bp_30 : (Int8.ofInt (30)).toInt32 = (30 : Int32) := by decide
theorem bp_32 : (Int8.ofInt (32)).toInt32 = (32 : Int32) := by decide
theorem bp_37 : (Int8.ofInt (37)).toInt32 = (37 : Int32) := by decide
theorem bp_40 : (Int8.ofInt (40)).toInt32 = (40 : Int32) := by decide
theorem bp_44 : (Int8.ofInt (44)).toInt32 = (44 : Int32) := by decide
theorem bp_48 : (Int8.ofInt (48)).toInt32 = (48 : Int32) := by decide
theorem bp_59 : (Int8.ofInt (59)).toInt32 = (59 : Int32) := by decide
theorem bp_60 : (Int8.ofInt (60)).toInt32 = (60 : Int32) := by decide
theorem bp_74 : (Int8.ofInt (74)).toInt32 = (74 : Int32) := by decide
theorem bp_90 : (Int8.ofInt (90)).toInt32 = (90 : Int32) := by decide
theorem bp_96 : (Int8.ofInt (96)).toInt32 = (96 : Int32) := by decide
theorem bp_97 : (Int8.ofInt (97)).toInt32 = (97 : Int32) := by decide
theorem bp_98 : (Int8.ofInt (98)).toInt32 = (98 : Int32) := by decide
theorem bp_101 : (Int8.ofInt (101)).toInt32 = (101 : Int32) := by decide
theorem bp_103 : (Int8.ofInt (103)).toInt32 = (103 : Int32) := by decide
theorem bp_104 : (Int8.ofInt (104)).toInt32 = (104 : Int32) := by decide
theorem bp_105 : (Int8.ofInt (105)).toInt32 = (105 : Int32) := by decide
theorem bp_110 : (Int8.ofInt (110)).toInt32 = (110 : Int32) := by decide
theorem bp_111 : (Int8.ofInt (111)).toInt32 = (111 : Int32) := by decide
theorem bp_115 : (Int8.ofInt (115)).toInt32 = (115 : Int32) := by decide
theorem bp_116 : (Int8.ofInt (116)).toInt32 = (116 : Int32) := by decide
theorem bp_117 : (Int8.ofInt (117)).toInt32 = (117 : Int32) := by decide
theorem ic_m1 : Int32.ofInt (-1) = ((-1) : Int32) := by decide
theorem ic_0 : Int32.ofInt (0) = (0 : Int32) := by decide
theorem ic_1 : Int32.ofInt (1) = (1 : Int32) := by decide
theorem ic_2 : Int32.ofInt (2) = (2 : Int32) := by decide
theorem ic_3 : Int32.ofInt (3) = (3 : Int32) := by decide
theorem ic_4 : Int32.ofInt (4) = (4 : Int32) := by decide
theorem ic_5 : Int32.ofInt (5) = (5 : Int32) := by decide
theorem sp_150 : (Int16.ofInt (150)).toInt32 = (150 : Int32) := by decide
theorem sp_154 : (Int16.ofInt (154)).toInt32 = (154 : Int32) := by decide
theorem sp_250 : (Int16.ofInt (250)).toInt32 = (250 : Int32) := by decide
theorem sp_600 : (Int16.ofInt (600)).toInt32 = (600 : Int32) := by decide
theorem sp_999 : (Int16.ofInt (999)).toInt32 = (999 : Int32) := by decide
theorem wd_993 : Cond.constantLong "SwimLanesModel" 72 (3) ∈ j_gt := j_in 993 (by decide +kernel) rfl
theorem wd_997 : Cond.constantLong "SwimLanesModel" 82 (2) ∈ j_gt := j_in 997 (by decide +kernel) rfl
theorem wd_1017 : Cond.constantLong "SwimLanesModel" 95 (5) ∈ j_gt := j_in 1017 (by decide +kernel) rfl
theorem wd_1018 : Cond.constantLong "SwimLanesModel" 97 (20) ∈ j_gt := j_in 1018 (by decide +kernel) rfl
theorem wd_1019 : Cond.constantLong "SwimLanesModel" 99 (90) ∈ j_gt := j_in 1019 (by decide +kernel) rfl
theorem wd_1050 : Cond.constantLong "SwimLanesModel" 138 (60) ∈ j_gt := j_in 1050 (by decide +kernel) rfl
theorem wd_1101 : Cond.constant "SwimLanesModel" 150 (1000000) ∈ j_gt := j_in 1101 (by decide +kernel) rfl
theorem wd_1129 : Cond.constantLong "SwimLanesModel" 163 (-1) ∈ j_gt := j_in 1129 (by decide +kernel) rfl
theorem wd_1146 : Cond.constantLong "SwimLanesModel" 174 (9) ∈ j_gt := j_in 1146 (by decide +kernel) rfl
theorem wd_1167 : Cond.constantLong "SwimLanesModel" 186 (200) ∈ j_gt := j_in 1167 (by decide +kernel) rfl
theorem wd_1168 : Cond.constantLong "SwimLanesModel" 188 (6) ∈ j_gt := j_in 1168 (by decide +kernel) rfl
theorem wd_1201 : Cond.constantLong "SwimLanesModel" 204 (10) ∈ j_gt := j_in 1201 (by decide +kernel) rfl
theorem wd_1213 : Cond.constantLong "SwimLanesModel" 213 (999999) ∈ j_gt := j_in 1213 (by decide +kernel) rfl
theorem wd_1214 : Cond.constantLong "SwimLanesModel" 215 (1103515245) ∈ j_gt := j_in 1214 (by decide +kernel) rfl
theorem wd_1215 : Cond.constantLong "SwimLanesModel" 217 (12345) ∈ j_gt := j_in 1215 (by decide +kernel) rfl
theorem wd_1216 : Cond.constantLong "SwimLanesModel" 219 (2147483648) ∈ j_gt := j_in 1216 (by decide +kernel) rfl
theorem wd_1217 : Cond.constantLong "SwimLanesModel" 221 (65536) ∈ j_gt := j_in 1217 (by decide +kernel) rfl
theorem wd_1218 : Cond.constantLong "SwimLanesModel" 223 (4) ∈ j_gt := j_in 1218 (by decide +kernel) rfl
theorem wd_1227 : Cond.constantLong "SwimLanesModel" 228 (127) ∈ j_gt := j_in 1227 (by decide +kernel) rfl
theorem wd_1243 : Cond.constantLong "SwimLanesModel" 233 (97) ∈ j_gt := j_in 1243 (by decide +kernel) rfl
theorem wd_1244 : Cond.constantLong "SwimLanesModel" 235 (122) ∈ j_gt := j_in 1244 (by decide +kernel) rfl
theorem wd_1248 : Cond.constantLong "SwimLanesModel" 237 (48) ∈ j_gt := j_in 1248 (by decide +kernel) rfl
theorem wd_1249 : Cond.constantLong "SwimLanesModel" 239 (57) ∈ j_gt := j_in 1249 (by decide +kernel) rfl
theorem wd_1311 : Cond.constantLong "SwimLanesModel" 291 (31) ∈ j_gt := j_in 1311 (by decide +kernel) rfl
theorem wd_1310 : Cond.constantLong "SwimLanesModel" 293 (1279) ∈ j_gt := j_in 1310 (by decide +kernel) rfl
theorem fl_X10_20 : j_fln RX10 20 10 3 := ⟨by decide, by decide, rfl, Or.inl (j_in 901 (by decide +kernel) rfl)⟩
theorem fl_X10_7 : j_fln RX10 7 10 0 := ⟨by decide, by decide, rfl, Or.inl (j_in 898 (by decide +kernel) rfl)⟩
theorem fl_X10_27 : j_fln RX10 27 10 6 := ⟨by decide, by decide, rfl, Or.inl (j_in 904 (by decide +kernel) rfl)⟩
theorem fl_X10_111 : j_fln RX10 111 10 7 := ⟨by decide, by decide, rfl, Or.inl (j_in 905 (by decide +kernel) rfl)⟩
theorem fl_X10_115 : j_fln RX10 115 10 8 := ⟨by decide, by decide, rfl, Or.inl (j_in 906 (by decide +kernel) rfl)⟩
theorem fl_X10_118 : j_fln RX10 118 10 9 := ⟨by decide, by decide, rfl, Or.inl (j_in 907 (by decide +kernel) rfl)⟩
theorem fl_X10_30 : j_fln RX10 30 10 10 := ⟨by decide, by decide, rfl, Or.inl (j_in 908 (by decide +kernel) rfl)⟩
theorem fl_X10_171 : j_fln RX10 171 10 14 := ⟨by decide, by decide, rfl, Or.inl (j_in 912 (by decide +kernel) rfl)⟩
theorem fl_X10_33 : j_fln RX10 33 10 11 := ⟨by decide, by decide, rfl, Or.inl (j_in 909 (by decide +kernel) rfl)⟩
theorem fl_X10_36 : j_fln RX10 36 10 12 := ⟨by decide, by decide, rfl, Or.inl (j_in 910 (by decide +kernel) rfl)⟩
theorem fl_X10_39 : j_fln RX10 39 10 13 := ⟨by decide, by decide, rfl, Or.inl (j_in 911 (by decide +kernel) rfl)⟩
theorem fl_X10_42 : j_fln RX10 42 10 15 := ⟨by decide, by decide, rfl, Or.inl (j_in 913 (by decide +kernel) rfl)⟩
theorem fl_X10_45 : j_fln RX10 45 10 16 := ⟨by decide, by decide, rfl, Or.inl (j_in 914 (by decide +kernel) rfl)⟩
theorem fl_X10_201 : j_fln RX10 201 10 4 := ⟨by decide, by decide, rfl, Or.inl (j_in 902 (by decide +kernel) rfl)⟩
theorem fl_X10_23 : j_fln RX10 23 10 5 := ⟨by decide, by decide, rfl, Or.inl (j_in 903 (by decide +kernel) rfl)⟩
theorem fl_X10_48 : j_fln RX10 48 10 17 := ⟨by decide, by decide, rfl, Or.inl (j_in 915 (by decide +kernel) rfl)⟩
theorem fl_X10_230 : j_fln RX10 230 10 19 := ⟨by decide, by decide, rfl, Or.inl (j_in 917 (by decide +kernel) rfl)⟩
theorem fl_X10_51 : j_fln RX10 51 10 18 := ⟨by decide, by decide, rfl, Or.inl (j_in 916 (by decide +kernel) rfl)⟩
theorem fl_X10_241 : j_fln RX10 241 10 20 := ⟨by decide, by decide, rfl, Or.inl (j_in 918 (by decide +kernel) rfl)⟩
theorem fl_X10_244 : j_fln RX10 244 10 21 := ⟨by decide, by decide, rfl, Or.inl (j_in 919 (by decide +kernel) rfl)⟩
theorem fl_X10_247 : j_fln RX10 247 10 22 := ⟨by decide, by decide, rfl, Or.inl (j_in 920 (by decide +kernel) rfl)⟩
theorem fl_X10_250 : j_fln RX10 250 10 23 := ⟨by decide, by decide, rfl, Or.inl (j_in 921 (by decide +kernel) rfl)⟩
theorem fl_X10_57 : j_fln RX10 57 10 25 := ⟨by decide, by decide, rfl, Or.inl (j_in 923 (by decide +kernel) rfl)⟩
theorem fl_X10_54 : j_fln RX10 54 10 24 := ⟨by decide, by decide, rfl, Or.inl (j_in 922 (by decide +kernel) rfl)⟩
theorem fl_X10_13 : j_fln RX10 13 10 1 := ⟨by decide, by decide, rfl, Or.inl (j_in 899 (by decide +kernel) rfl)⟩
theorem fl_X10_16 : j_fln RX10 16 10 2 := ⟨by decide, by decide, rfl, Or.inl (j_in 900 (by decide +kernel) rfl)⟩
abbrev md_X10_in : j_Md := (yX10_in, cX10_in, 6, some .boolean)
abbrev md_X10_bad : j_Md := (yX10_bad, cX10_bad, 2, some .int)
abbrev md_X10_no : j_Md := (yX10_no, cX10_no, 1, some .int)
abbrev md_X10_full : j_Md := (yX10_full, cX10_full, 1, some .int)
abbrev md_X10_bits : j_Md := (yX10_bits, cX10_bits, 3, some .int)
abbrev md_X10_has : j_Md := (yX10_has, cX10_has, 2, some .boolean)
abbrev md_X10_begin : j_Md := (yX10_begin, cX10_begin, 2, none)
abbrev md_X10_many : j_Md := (yX10_many, cX10_many, 1, some .int)
abbrev md_X10_isOne : j_Md := (yX10_isOne, cX10_isOne, 2, some .boolean)
abbrev md_X10_isLane : j_Md := (yX10_isLane, cX10_isLane, 1, some .boolean)
abbrev md_X10_isOpen : j_Md := (yX10_isOpen, cX10_isOpen, 2, some .boolean)
abbrev md_X10_whoIsIn : j_Md := (yX10_whoIsIn, cX10_whoIsIn, 4, some .int)
abbrev md_X10_bath : j_Md := (yX10_bath, cX10_bath, 2, some .int)
abbrev md_X10_sign : j_Md := (yX10_sign, cX10_sign, 4, some .int)
abbrev md_X10_shut : j_Md := (yX10_shut, cX10_shut, 4, some .int)
abbrev md_X10_layOne : j_Md := (yX10_layOne, cX10_layOne, 5, none)
abbrev md_X10_one : j_Md := (yX10_one, cX10_one, 4, some .int)
abbrev md_X10_secondsAs : j_Md := (yX10_secondsAs, cX10_secondsAs, 6, some .int)
abbrev md_X10_believesAs : j_Md := (yX10_believesAs, cX10_believesAs, 2, some .int)
abbrev md_X10_signOf : j_Md := (yX10_signOf, cX10_signOf, 1, some .int)
abbrev md_X10_paceOf : j_Md := (yX10_paceOf, cX10_paceOf, 2, some .int)
abbrev md_X10_layHand : j_Md := (yX10_layHand, cX10_layHand, 2, none)
abbrev md_X10_layOthers : j_Md := (yX10_layOthers, cX10_layOthers, 4, none)
abbrev md_X10_secondsIn : j_Md := (yX10_secondsIn, cX10_secondsIn, 3, some .int)
abbrev md_X10_keep : j_Md := (yX10_keep, cX10_keep, 3, none)
abbrev md_X10_goes : j_Md := (yX10_goes, cX10_goes, 4, some .int)
abbrev md_X10_minute : j_Md := (yX10_minute, cX10_minute, 7, some .int)
abbrev md_X10_undo : j_Md := (yX10_undo, cX10_undo, 3, some .int)
abbrev md_X10_of : j_Md := (yX10_of, cX10_of, 3, some .int)
abbrev md_X10_lane : j_Md := (yX10_lane, cX10_lane, 3, some .int)
abbrev md_X10_seconds : j_Md := (yX10_seconds, cX10_seconds, 5, some .int)
abbrev md_X10_lengths : j_Md := (yX10_lengths, cX10_lengths, 4, some .int)
abbrev md_X10_bestOf : j_Md := (yX10_bestOf, cX10_bestOf, 6, some .int)
abbrev md_X10_best : j_Md := (yX10_best, cX10_best, 2, some .int)
abbrev md_X10_sumOthers : j_Md := (yX10_sumOthers, cX10_sumOthers, 5, some .int)
abbrev md_X10_costOf : j_Md := (yX10_costOf, cX10_costOf, 4, some .int)
abbrev md_X10_cost : j_Md := (yX10_cost, cX10_cost, 3, some .int)
abbrev md_X10_where : j_Md := (yX10_where, cX10_where, 6, some .int)
abbrev md_X10_obey : j_Md := (yX10_obey, cX10_obey, 5, some .int)
abbrev md_X10_sumAll : j_Md := (yX10_sumAll, cX10_sumAll, 3, some .int)
abbrev md_X10_layLies : j_Md := (yX10_layLies, cX10_layLies, 4, some .boolean)
abbrev md_X10_all : j_Md := (yX10_all, cX10_all, 6, some .int)
abbrev md_X10_changes : j_Md := (yX10_changes, cX10_changes, 6, some .int)
abbrev md_X10_layStart : j_Md := (yX10_layStart, cX10_layStart, 3, none)
abbrev md_X10_isRowWell : j_Md := (yX10_isRowWell, cX10_isRowWell, 5, some .boolean)
abbrev md_X10_layRow : j_Md := (yX10_layRow, cX10_layRow, 9, none)
abbrev md_X10_order : j_Md := (yX10_order, cX10_order, 10, some .int)
abbrev md_X10_apart : j_Md := (yX10_apart, cX10_apart, 4, some .int)
abbrev md_X10_note : j_Md := (yX10_note, cX10_note, 7, some .int)
abbrev md_X10_forget : j_Md := (yX10_forget, cX10_forget, 2, some .int)
abbrev md_X10_canBe : j_Md := (yX10_canBe, cX10_canBe, 7, some .boolean)
abbrev md_X10_kindsOf : j_Md := (yX10_kindsOf, cX10_kindsOf, 4, some .int)
abbrev md_X10_is : j_Md := (yX10_is, cX10_is, 5, some .int)
abbrev md_X10_mostAlike : j_Md := (yX10_mostAlike, cX10_mostAlike, 9, some .int)
abbrev md_X10_look : j_Md := (yX10_look, cX10_look, 7, some .int)
abbrev md_X10_touch : j_Md := (yX10_touch, cX10_touch, 6, some .int)
abbrev md_X10_fraction : j_Md := (yX10_fraction, cX10_fraction, 11, none)
abbrev md_X10_counts : j_Md := (yX10_counts, cX10_counts, 12, some .int)
abbrev md_X10_goMinute : j_Md := (yX10_goMinute, cX10_goMinute, 4, some .int)
abbrev md_X10_mornings : j_Md := (yX10_mornings, cX10_mornings, 9, some .int)
abbrev md_X10_type : j_Md := (yX10_type, cX10_type, 2, some .int)
abbrev md_X10_clear : j_Md := (yX10_clear, cX10_clear, 2, some .int)
abbrev md_X10_isSmall : j_Md := (yX10_isSmall, cX10_isSmall, 1, some .boolean)
abbrev md_X10_isFigure : j_Md := (yX10_isFigure, cX10_isFigure, 1, some .boolean)
abbrev md_X10_lookAt : j_Md := (yX10_lookAt, cX10_lookAt, 5, none)
abbrev md_X10_goBehind : j_Md := (yX10_goBehind, cX10_goBehind, 1, none)
abbrev md_X10_spells : j_Md := (yX10_spells, cX10_spells, 8, some .boolean)
abbrev md_X10_takes : j_Md := (yX10_takes, cX10_takes, 4, some .boolean)
abbrev md_X10_takesSign : j_Md := (yX10_takesSign, cX10_takesSign, 1, some .boolean)
abbrev md_X10_takesShut : j_Md := (yX10_takesShut, cX10_takesShut, 1, some .boolean)
abbrev md_X10_takesOne : j_Md := (yX10_takesOne, cX10_takesOne, 1, some .boolean)
abbrev md_X10_takesItem : j_Md := (yX10_takesItem, cX10_takesItem, 1, some .boolean)
abbrev md_X10_read : j_Md := (yX10_read, cX10_read, 3, some .int)
abbrev md_X10_part : j_Md := (yX10_part, cX10_part, 2, some .long)
abbrev md_X10_image : j_Md := (yX10_image, cX10_image, 3, some .int)
abbrev md_X10_from : j_Md := (yX10_from, cX10_from, 3, some .int)
abbrev md_X10_status : j_Md := (yX10_status, cX10_status, 2, some .int)
abbrev md_X10_allLengths : j_Md := (yX10_allLengths, cX10_allLengths, 3, some .int)
abbrev md_X10_counted : j_Md := (yX10_counted, cX10_counted, 2, some .int)
abbrev md_X10_count : j_Md := (yX10_count, cX10_count, 2, some .int)
abbrev md_X10_sums : j_Md := (yX10_sums, cX10_sums, 8, some .long)
abbrev md_X10_digest : j_Md := (yX10_digest, cX10_digest, 4, some .long)
theorem cd_X10_many : j_cd md_X10_many := j_in 985 (by decide +kernel) rfl
theorem lk_X10_64 : j_lkV RX10 64 md_X10_many 0 := ⟨⟨j_in 982 (by decide +kernel) rfl, j_in 984 (by decide +kernel) rfl, j_in 64 (by decide +kernel) rfl, j_in 112 (by decide +kernel) rfl⟩, cd_X10_many, ⟨by decide, by decide, by decide +kernel⟩⟩
theorem cd_X10_in : j_cd md_X10_in := j_in 996 (by decide +kernel) rfl
theorem lk_X10_68 : j_lkS RX10 68 md_X10_in 3 := ⟨⟨j_in 994 (by decide +kernel) rfl, j_in 995 (by decide +kernel) rfl, j_in 112 (by decide +kernel) rfl⟩, cd_X10_in, ⟨by decide, by decide, by decide +kernel⟩⟩
theorem cd_X10_has : j_cd md_X10_has := j_in 1026 (by decide +kernel) rfl
theorem lk_X10_74 : j_lkS RX10 74 md_X10_has 2 := ⟨⟨j_in 1024 (by decide +kernel) rfl, j_in 1025 (by decide +kernel) rfl, j_in 112 (by decide +kernel) rfl⟩, cd_X10_has, ⟨by decide, by decide, by decide +kernel⟩⟩
theorem cd_X10_begin : j_cd md_X10_begin := j_in 897 (by decide +kernel) rfl
theorem lk_X10_60 : j_lkS RX10 60 md_X10_begin 1 := ⟨⟨j_in 895 (by decide +kernel) rfl, j_in 896 (by decide +kernel) rfl, j_in 112 (by decide +kernel) rfl⟩, cd_X10_begin, ⟨by decide, by decide, by decide +kernel⟩⟩
theorem cd_X10_isLane : j_cd md_X10_isLane := j_in 992 (by decide +kernel) rfl
theorem lk_X10_78 : j_lkS RX10 78 md_X10_isLane 1 := ⟨⟨j_in 990 (by decide +kernel) rfl, j_in 991 (by decide +kernel) rfl, j_in 112 (by decide +kernel) rfl⟩, cd_X10_isLane, ⟨by decide, by decide, by decide +kernel⟩⟩
theorem cd_X10_bad : j_cd md_X10_bad := j_in 1001 (by decide +kernel) rfl
theorem lk_X10_84 : j_lkV RX10 84 md_X10_bad 1 := ⟨⟨j_in 998 (by decide +kernel) rfl, j_in 1000 (by decide +kernel) rfl, j_in 65 (by decide +kernel) rfl, j_in 112 (by decide +kernel) rfl⟩, cd_X10_bad, ⟨by decide, by decide, by decide +kernel⟩⟩
theorem cd_X10_whoIsIn : j_cd md_X10_whoIsIn := j_in 1008 (by decide +kernel) rfl
theorem lk_X10_88 : j_lkS RX10 88 md_X10_whoIsIn 2 := ⟨⟨j_in 1006 (by decide +kernel) rfl, j_in 1007 (by decide +kernel) rfl, j_in 112 (by decide +kernel) rfl⟩, cd_X10_whoIsIn, ⟨by decide, by decide, by decide +kernel⟩⟩
theorem cd_X10_no : j_cd md_X10_no := j_in 1012 (by decide +kernel) rfl
theorem lk_X10_92 : j_lkV RX10 92 md_X10_no 0 := ⟨⟨j_in 1009 (by decide +kernel) rfl, j_in 1011 (by decide +kernel) rfl, j_in 66 (by decide +kernel) rfl, j_in 112 (by decide +kernel) rfl⟩, cd_X10_no, ⟨by decide, by decide, by decide +kernel⟩⟩
theorem cd_X10_isOpen : j_cd md_X10_isOpen := j_in 1023 (by decide +kernel) rfl
theorem lk_X10_101 : j_lkV RX10 101 md_X10_isOpen 1 := ⟨⟨j_in 1020 (by decide +kernel) rfl, j_in 1022 (by decide +kernel) rfl, j_in 67 (by decide +kernel) rfl, j_in 112 (by decide +kernel) rfl⟩, cd_X10_isOpen, ⟨by decide, by decide, by decide +kernel⟩⟩
theorem cd_X10_layOne : j_cd md_X10_layOne := j_in 1033 (by decide +kernel) rfl
theorem lk_X10_107 : j_lkS RX10 107 md_X10_layOne 4 := ⟨⟨j_in 1031 (by decide +kernel) rfl, j_in 1032 (by decide +kernel) rfl, j_in 112 (by decide +kernel) rfl⟩, cd_X10_layOne, ⟨by decide, by decide, by decide +kernel⟩⟩
theorem cd_X10_full : j_cd md_X10_full := j_in 1030 (by decide +kernel) rfl
theorem lk_X10_104 : j_lkV RX10 104 md_X10_full 0 := ⟨⟨j_in 1027 (by decide +kernel) rfl, j_in 1029 (by decide +kernel) rfl, j_in 68 (by decide +kernel) rfl, j_in 112 (by decide +kernel) rfl⟩, cd_X10_full, ⟨by decide, by decide, by decide +kernel⟩⟩
theorem cd_X10_paceOf : j_cd md_X10_paceOf := j_in 1066 (by decide +kernel) rfl
theorem lk_X10_121 : j_lkV RX10 121 md_X10_paceOf 1 := ⟨⟨j_in 1063 (by decide +kernel) rfl, j_in 1065 (by decide +kernel) rfl, j_in 74 (by decide +kernel) rfl, j_in 112 (by decide +kernel) rfl⟩, cd_X10_paceOf, ⟨by decide, by decide, by decide +kernel⟩⟩
theorem cd_X10_layOthers : j_cd md_X10_layOthers := j_in 1062 (by decide +kernel) rfl
theorem lk_X10_124 : j_lkV RX10 124 md_X10_layOthers 2 := ⟨⟨j_in 1059 (by decide +kernel) rfl, j_in 1061 (by decide +kernel) rfl, j_in 73 (by decide +kernel) rfl, j_in 112 (by decide +kernel) rfl⟩, cd_X10_layOthers, ⟨by decide, by decide, by decide +kernel⟩⟩
theorem cd_X10_secondsAs : j_cd md_X10_secondsAs := j_in 1069 (by decide +kernel) rfl
theorem lk_X10_128 : j_lkS RX10 128 md_X10_secondsAs 5 := ⟨⟨j_in 1067 (by decide +kernel) rfl, j_in 1068 (by decide +kernel) rfl, j_in 112 (by decide +kernel) rfl⟩, cd_X10_secondsAs, ⟨by decide, by decide, by decide +kernel⟩⟩
theorem cd_X10_isOne : j_cd md_X10_isOne := j_in 1041 (by decide +kernel) rfl
theorem lk_X10_132 : j_lkV RX10 132 md_X10_isOne 1 := ⟨⟨j_in 1038 (by decide +kernel) rfl, j_in 1040 (by decide +kernel) rfl, j_in 69 (by decide +kernel) rfl, j_in 112 (by decide +kernel) rfl⟩, cd_X10_isOne, ⟨by decide, by decide, by decide +kernel⟩⟩
theorem cd_X10_keep : j_cd md_X10_keep := j_in 1045 (by decide +kernel) rfl
theorem lk_X10_135 : j_lkV RX10 135 md_X10_keep 0 := ⟨⟨j_in 1042 (by decide +kernel) rfl, j_in 1044 (by decide +kernel) rfl, j_in 70 (by decide +kernel) rfl, j_in 112 (by decide +kernel) rfl⟩, cd_X10_keep, ⟨by decide, by decide, by decide +kernel⟩⟩
theorem cd_X10_layHand : j_cd md_X10_layHand := j_in 1054 (by decide +kernel) rfl
theorem lk_X10_140 : j_lkV RX10 140 md_X10_layHand 0 := ⟨⟨j_in 1051 (by decide +kernel) rfl, j_in 1053 (by decide +kernel) rfl, j_in 71 (by decide +kernel) rfl, j_in 112 (by decide +kernel) rfl⟩, cd_X10_layHand, ⟨by decide, by decide, by decide +kernel⟩⟩
theorem cd_X10_secondsIn : j_cd md_X10_secondsIn := j_in 1058 (by decide +kernel) rfl
theorem lk_X10_143 : j_lkV RX10 143 md_X10_secondsIn 2 := ⟨⟨j_in 1055 (by decide +kernel) rfl, j_in 1057 (by decide +kernel) rfl, j_in 72 (by decide +kernel) rfl, j_in 112 (by decide +kernel) rfl⟩, cd_X10_secondsIn, ⟨by decide, by decide, by decide +kernel⟩⟩
theorem cd_X10_believesAs : j_cd md_X10_believesAs := j_in 1080 (by decide +kernel) rfl
theorem lk_X10_147 : j_lkS RX10 147 md_X10_believesAs 2 := ⟨⟨j_in 1078 (by decide +kernel) rfl, j_in 1079 (by decide +kernel) rfl, j_in 112 (by decide +kernel) rfl⟩, cd_X10_believesAs, ⟨by decide, by decide, by decide +kernel⟩⟩
theorem cd_X10_bestOf : j_cd md_X10_bestOf := j_in 1100 (by decide +kernel) rfl
theorem lk_X10_151 : j_lkV RX10 151 md_X10_bestOf 1 := ⟨⟨j_in 1097 (by decide +kernel) rfl, j_in 1099 (by decide +kernel) rfl, j_in 75 (by decide +kernel) rfl, j_in 112 (by decide +kernel) rfl⟩, cd_X10_bestOf, ⟨by decide, by decide, by decide +kernel⟩⟩
theorem cd_X10_sumOthers : j_cd md_X10_sumOthers := j_in 1113 (by decide +kernel) rfl
theorem lk_X10_154 : j_lkV RX10 154 md_X10_sumOthers 2 := ⟨⟨j_in 1110 (by decide +kernel) rfl, j_in 1112 (by decide +kernel) rfl, j_in 77 (by decide +kernel) rfl, j_in 112 (by decide +kernel) rfl⟩, cd_X10_sumOthers, ⟨by decide, by decide, by decide +kernel⟩⟩
theorem cd_X10_costOf : j_cd md_X10_costOf := j_in 1109 (by decide +kernel) rfl
theorem lk_X10_157 : j_lkV RX10 157 md_X10_costOf 2 := ⟨⟨j_in 1106 (by decide +kernel) rfl, j_in 1108 (by decide +kernel) rfl, j_in 76 (by decide +kernel) rfl, j_in 112 (by decide +kernel) rfl⟩, cd_X10_costOf, ⟨by decide, by decide, by decide +kernel⟩⟩
theorem cd_X10_signOf : j_cd md_X10_signOf := j_in 1124 (by decide +kernel) rfl
theorem lk_X10_160 : j_lkS RX10 160 md_X10_signOf 1 := ⟨⟨j_in 1122 (by decide +kernel) rfl, j_in 1123 (by decide +kernel) rfl, j_in 112 (by decide +kernel) rfl⟩, cd_X10_signOf, ⟨by decide, by decide, by decide +kernel⟩⟩
theorem cd_X10_layLies : j_cd md_X10_layLies := j_in 1133 (by decide +kernel) rfl
theorem lk_X10_165 : j_lkV RX10 165 md_X10_layLies 1 := ⟨⟨j_in 1130 (by decide +kernel) rfl, j_in 1132 (by decide +kernel) rfl, j_in 78 (by decide +kernel) rfl, j_in 112 (by decide +kernel) rfl⟩, cd_X10_layLies, ⟨by decide, by decide, by decide +kernel⟩⟩
theorem cd_X10_sumAll : j_cd md_X10_sumAll := j_in 1137 (by decide +kernel) rfl
theorem lk_X10_168 : j_lkV RX10 168 md_X10_sumAll 0 := ⟨⟨j_in 1134 (by decide +kernel) rfl, j_in 1136 (by decide +kernel) rfl, j_in 79 (by decide +kernel) rfl, j_in 112 (by decide +kernel) rfl⟩, cd_X10_sumAll, ⟨by decide, by decide, by decide +kernel⟩⟩
theorem cd_X10_layStart : j_cd md_X10_layStart := j_in 1150 (by decide +kernel) rfl
theorem lk_X10_176 : j_lkV RX10 176 md_X10_layStart 1 := ⟨⟨j_in 1147 (by decide +kernel) rfl, j_in 1149 (by decide +kernel) rfl, j_in 80 (by decide +kernel) rfl, j_in 112 (by decide +kernel) rfl⟩, cd_X10_layStart, ⟨by decide, by decide, by decide +kernel⟩⟩
theorem cd_X10_layRow : j_cd md_X10_layRow := j_in 1154 (by decide +kernel) rfl
theorem lk_X10_180 : j_lkV RX10 180 md_X10_layRow 2 := ⟨⟨j_in 1151 (by decide +kernel) rfl, j_in 1153 (by decide +kernel) rfl, j_in 81 (by decide +kernel) rfl, j_in 112 (by decide +kernel) rfl⟩, cd_X10_layRow, ⟨by decide, by decide, by decide +kernel⟩⟩
theorem cd_X10_isRowWell : j_cd md_X10_isRowWell := j_in 1158 (by decide +kernel) rfl
theorem lk_X10_183 : j_lkV RX10 183 md_X10_isRowWell 2 := ⟨⟨j_in 1155 (by decide +kernel) rfl, j_in 1157 (by decide +kernel) rfl, j_in 82 (by decide +kernel) rfl, j_in 112 (by decide +kernel) rfl⟩, cd_X10_isRowWell, ⟨by decide, by decide, by decide +kernel⟩⟩
theorem cd_X10_canBe : j_cd md_X10_canBe := j_in 1180 (by decide +kernel) rfl
theorem lk_X10_190 : j_lkV RX10 190 md_X10_canBe 3 := ⟨⟨j_in 1177 (by decide +kernel) rfl, j_in 1179 (by decide +kernel) rfl, j_in 83 (by decide +kernel) rfl, j_in 112 (by decide +kernel) rfl⟩, cd_X10_canBe, ⟨by decide, by decide, by decide +kernel⟩⟩
theorem cd_X10_kindsOf : j_cd md_X10_kindsOf := j_in 1184 (by decide +kernel) rfl
theorem lk_X10_194 : j_lkV RX10 194 md_X10_kindsOf 1 := ⟨⟨j_in 1181 (by decide +kernel) rfl, j_in 1183 (by decide +kernel) rfl, j_in 84 (by decide +kernel) rfl, j_in 112 (by decide +kernel) rfl⟩, cd_X10_kindsOf, ⟨by decide, by decide, by decide +kernel⟩⟩
theorem cd_X10_mostAlike : j_cd md_X10_mostAlike := j_in 1192 (by decide +kernel) rfl
theorem lk_X10_197 : j_lkV RX10 197 md_X10_mostAlike 3 := ⟨⟨j_in 1189 (by decide +kernel) rfl, j_in 1191 (by decide +kernel) rfl, j_in 85 (by decide +kernel) rfl, j_in 112 (by decide +kernel) rfl⟩, cd_X10_mostAlike, ⟨by decide, by decide, by decide +kernel⟩⟩
theorem cd_X10_bits : j_cd md_X10_bits := j_in 1204 (by decide +kernel) rfl
theorem lk_X10_206 : j_lkS RX10 206 md_X10_bits 1 := ⟨⟨j_in 1202 (by decide +kernel) rfl, j_in 1203 (by decide +kernel) rfl, j_in 112 (by decide +kernel) rfl⟩, cd_X10_bits, ⟨by decide, by decide, by decide +kernel⟩⟩
theorem cd_X10_fraction : j_cd md_X10_fraction := j_in 1208 (by decide +kernel) rfl
theorem lk_X10_209 : j_lkV RX10 209 md_X10_fraction 2 := ⟨⟨j_in 1205 (by decide +kernel) rfl, j_in 1207 (by decide +kernel) rfl, j_in 86 (by decide +kernel) rfl, j_in 112 (by decide +kernel) rfl⟩, cd_X10_fraction, ⟨by decide, by decide, by decide +kernel⟩⟩
theorem cd_X10_goMinute : j_cd md_X10_goMinute := j_in 1222 (by decide +kernel) rfl
theorem lk_X10_225 : j_lkV RX10 225 md_X10_goMinute 0 := ⟨⟨j_in 1219 (by decide +kernel) rfl, j_in 1221 (by decide +kernel) rfl, j_in 87 (by decide +kernel) rfl, j_in 112 (by decide +kernel) rfl⟩, cd_X10_goMinute, ⟨by decide, by decide, by decide +kernel⟩⟩
theorem cd_X10_isSmall : j_cd md_X10_isSmall := j_in 1242 (by decide +kernel) rfl
theorem lk_X10_253 : j_lkS RX10 253 md_X10_isSmall 1 := ⟨⟨j_in 1240 (by decide +kernel) rfl, j_in 1241 (by decide +kernel) rfl, j_in 112 (by decide +kernel) rfl⟩, cd_X10_isSmall, ⟨by decide, by decide, by decide +kernel⟩⟩
theorem cd_X10_isFigure : j_cd md_X10_isFigure := j_in 1247 (by decide +kernel) rfl
theorem lk_X10_256 : j_lkS RX10 256 md_X10_isFigure 1 := ⟨⟨j_in 1245 (by decide +kernel) rfl, j_in 1246 (by decide +kernel) rfl, j_in 112 (by decide +kernel) rfl⟩, cd_X10_isFigure, ⟨by decide, by decide, by decide +kernel⟩⟩
theorem cd_X10_lookAt : j_cd md_X10_lookAt := j_in 1239 (by decide +kernel) rfl
theorem lk_X10_259 : j_lkV RX10 259 md_X10_lookAt 1 := ⟨⟨j_in 1236 (by decide +kernel) rfl, j_in 1238 (by decide +kernel) rfl, j_in 88 (by decide +kernel) rfl, j_in 112 (by decide +kernel) rfl⟩, cd_X10_lookAt, ⟨by decide, by decide, by decide +kernel⟩⟩
theorem cd_X10_goBehind : j_cd md_X10_goBehind := j_in 1257 (by decide +kernel) rfl
theorem lk_X10_262 : j_lkV RX10 262 md_X10_goBehind 0 := ⟨⟨j_in 1254 (by decide +kernel) rfl, j_in 1256 (by decide +kernel) rfl, j_in 90 (by decide +kernel) rfl, j_in 112 (by decide +kernel) rfl⟩, cd_X10_goBehind, ⟨by decide, by decide, by decide +kernel⟩⟩
theorem cd_X10_takes : j_cd md_X10_takes := j_in 1269 (by decide +kernel) rfl
theorem lk_X10_265 : j_lkV RX10 265 md_X10_takes 3 := ⟨⟨j_in 1266 (by decide +kernel) rfl, j_in 1268 (by decide +kernel) rfl, j_in 93 (by decide +kernel) rfl, j_in 112 (by decide +kernel) rfl⟩, cd_X10_takes, ⟨by decide, by decide, by decide +kernel⟩⟩
theorem cd_X10_spells : j_cd md_X10_spells := j_in 1253 (by decide +kernel) rfl
theorem lk_X10_268 : j_lkV RX10 268 md_X10_spells 5 := ⟨⟨j_in 1250 (by decide +kernel) rfl, j_in 1252 (by decide +kernel) rfl, j_in 89 (by decide +kernel) rfl, j_in 112 (by decide +kernel) rfl⟩, cd_X10_spells, ⟨by decide, by decide, by decide +kernel⟩⟩
theorem cd_X10_takesOne : j_cd md_X10_takesOne := j_in 1277 (by decide +kernel) rfl
theorem lk_X10_279 : j_lkV RX10 279 md_X10_takesOne 0 := ⟨⟨j_in 1274 (by decide +kernel) rfl, j_in 1276 (by decide +kernel) rfl, j_in 95 (by decide +kernel) rfl, j_in 112 (by decide +kernel) rfl⟩, cd_X10_takesOne, ⟨by decide, by decide, by decide +kernel⟩⟩
theorem cd_X10_takesShut : j_cd md_X10_takesShut := j_in 1273 (by decide +kernel) rfl
theorem lk_X10_276 : j_lkV RX10 276 md_X10_takesShut 0 := ⟨⟨j_in 1270 (by decide +kernel) rfl, j_in 1272 (by decide +kernel) rfl, j_in 94 (by decide +kernel) rfl, j_in 112 (by decide +kernel) rfl⟩, cd_X10_takesShut, ⟨by decide, by decide, by decide +kernel⟩⟩
theorem cd_X10_takesSign : j_cd md_X10_takesSign := j_in 1265 (by decide +kernel) rfl
theorem lk_X10_272 : j_lkV RX10 272 md_X10_takesSign 0 := ⟨⟨j_in 1262 (by decide +kernel) rfl, j_in 1264 (by decide +kernel) rfl, j_in 92 (by decide +kernel) rfl, j_in 112 (by decide +kernel) rfl⟩, cd_X10_takesSign, ⟨by decide, by decide, by decide +kernel⟩⟩
theorem cd_X10_takesItem : j_cd md_X10_takesItem := j_in 1261 (by decide +kernel) rfl
theorem lk_X10_282 : j_lkV RX10 282 md_X10_takesItem 0 := ⟨⟨j_in 1258 (by decide +kernel) rfl, j_in 1260 (by decide +kernel) rfl, j_in 91 (by decide +kernel) rfl, j_in 112 (by decide +kernel) rfl⟩, cd_X10_takesItem, ⟨by decide, by decide, by decide +kernel⟩⟩
theorem cd_X10_allLengths : j_cd md_X10_allLengths := j_in 1305 (by decide +kernel) rfl
theorem lk_X10_285 : j_lkV RX10 285 md_X10_allLengths 0 := ⟨⟨j_in 1302 (by decide +kernel) rfl, j_in 1304 (by decide +kernel) rfl, j_in 97 (by decide +kernel) rfl, j_in 112 (by decide +kernel) rfl⟩, cd_X10_allLengths, ⟨by decide, by decide, by decide +kernel⟩⟩
theorem cd_X10_counted : j_cd md_X10_counted := j_in 1301 (by decide +kernel) rfl
theorem lk_X10_288 : j_lkV RX10 288 md_X10_counted 1 := ⟨⟨j_in 1298 (by decide +kernel) rfl, j_in 1300 (by decide +kernel) rfl, j_in 96 (by decide +kernel) rfl, j_in 112 (by decide +kernel) rfl⟩, cd_X10_counted, ⟨by decide, by decide, by decide +kernel⟩⟩
theorem cd_X10_sums : j_cd md_X10_sums := j_in 1315 (by decide +kernel) rfl
theorem lk_X10_295 : j_lkV RX10 295 md_X10_sums 3 := ⟨⟨j_in 1312 (by decide +kernel) rfl, j_in 1314 (by decide +kernel) rfl, j_in 98 (by decide +kernel) rfl, j_in 112 (by decide +kernel) rfl⟩, cd_X10_sums, ⟨by decide, by decide, by decide +kernel⟩⟩
theorem j_out0_4 {x : Int32} (c0 : ¬ x = (0 : Int32)) (c1 : ¬ x = (1 : Int32)) (c2 : ¬ x = (2 : Int32)) (c3 : ¬ x = (3 : Int32)) (c4 : ¬ x = (4 : Int32)) : x.toInt < 0 ∨ 4 < x.toInt := by
  have h0 := lv_neT c0 (show ((0 : Int32)).toInt = 0 from rfl)
  have h1 := lv_neT c1 (show ((1 : Int32)).toInt = 1 from rfl)
  have h2 := lv_neT c2 (show ((2 : Int32)).toInt = 2 from rfl)
  have h3 := lv_neT c3 (show ((3 : Int32)).toInt = 3 from rfl)
  have h4 := lv_neT c4 (show ((4 : Int32)).toInt = 4 from rfl)
  omega
theorem j_out0_5 {x : Int32} (c0 : ¬ x = (0 : Int32)) (c1 : ¬ x = (1 : Int32)) (c2 : ¬ x = (2 : Int32)) (c3 : ¬ x = (3 : Int32)) (c4 : ¬ x = (4 : Int32)) (c5 : ¬ x = (5 : Int32)) : x.toInt < 0 ∨ 5 < x.toInt := by
  have h0 := lv_neT c0 (show ((0 : Int32)).toInt = 0 from rfl)
  have h1 := lv_neT c1 (show ((1 : Int32)).toInt = 1 from rfl)
  have h2 := lv_neT c2 (show ((2 : Int32)).toInt = 2 from rfl)
  have h3 := lv_neT c3 (show ((3 : Int32)).toInt = 3 from rfl)
  have h4 := lv_neT c4 (show ((4 : Int32)).toInt = 4 from rfl)
  have h5 := lv_neT c5 (show ((5 : Int32)).toInt = 5 from rfl)
  omega
theorem j_out1_5 {x : Int32} (c1 : ¬ x = (1 : Int32)) (c2 : ¬ x = (2 : Int32)) (c3 : ¬ x = (3 : Int32)) (c4 : ¬ x = (4 : Int32)) (c5 : ¬ x = (5 : Int32)) : x.toInt < 1 ∨ 5 < x.toInt := by
  have h1 := lv_neT c1 (show ((1 : Int32)).toInt = 1 from rfl)
  have h2 := lv_neT c2 (show ((2 : Int32)).toInt = 2 from rfl)
  have h3 := lv_neT c3 (show ((3 : Int32)).toInt = 3 from rfl)
  have h4 := lv_neT c4 (show ((4 : Int32)).toInt = 4 from rfl)
  have h5 := lv_neT c5 (show ((5 : Int32)).toInt = 5 from rfl)
  omega
