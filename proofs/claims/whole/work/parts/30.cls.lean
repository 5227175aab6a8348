abbrev JT_X0_begin (l : Launch) (G : j_G) (r : j_M) : Nat → List (Nat × Value) → List Value → j_M → Prop := JJ l G md_X0_begin (j_rm 3 (0, 0)) (0, 0) (0, 0) (po none r)
noncomputable def f_X0_begin (M : j_M) (b : Nat) : Option j_M :=
  tl (j_cf M j_sig 0 (b + 1) 0 4) fun M1 => (tl (j_fi M1 (b + 2) 4 (0 : Int32)) fun M4 => (tl (j_fi M4 (b + 5) 22 (0 : Int32)) fun M7 => (tl (j_sI M7 b 9 (0 : Int32)) fun M10 => (tl (j_sI M10 b 10 (0 : Int32)) fun M13 => (tl (j_sI M13 b 11 (0 : Int32)) fun M16 => (some M16))))))
set_option maxHeartbeats 4000000 in
theorem c_X0_begin {l : Launch} {G : j_G} {M : j_M} {b : Nat} (hs : sh_b b M.2.2) {r : j_M} (h : f_X0_begin M b = some r) : j_Sp l G md_X0_begin 3 (0, 0) [.ref b] M (po none r) := by
  refine j_Sp.of (by decide) (Nat.le_of_ble_eq_true rfl) ?_
  show JT_X0_begin l G r 0 [(0, .ref b)] [] M
  unfold f_X0_begin at h
  refine J_gsig (pc' := 3) dX0_begin_0 rfl rfl ?_
  refine J_iconst (pc' := 4) (v := (0 : Int32)) dX0_begin_3 rfl ic_0 ?_
  refine J_aload_n (pc' := 5) (i := 0) (n := 0) dX0_begin_4 rfl rfl rfl ?_
  refine J_getR (pc' := 8) (b := (b + 1)) dX0_begin_5 rfl fl_X0_11 rfl (b_o hs) (b_no hs) (b_r1 hs) ?_
  refine J_iconst (pc' := 9) (v := (0 : Int32)) dX0_begin_8 rfl ic_0 ?_
  refine J_iconst (pc' := 10) (v := (4 : Int32)) dX0_begin_9 rfl ic_4 ?_
  obtain ⟨M1, e2, h⟩ := tl_inv h
  have g3 : sh_b b M1.2.2 := j_shF e2 hs
  refine J_copyS (pc' := 13) dX0_begin_10 rfl lk_X0_46 (b_s1 hs) (b_n hs (Nat.le_of_ble_eq_true rfl)) (Nat.le_of_ble_eq_true rfl) ⟨Nat.le_of_ble_eq_true rfl, Nat.le_of_ble_eq_true rfl⟩ e2 ?_
  refine J_aload_n (pc' := 14) (i := 0) (n := 0) dX0_begin_13 rfl rfl rfl ?_
  refine J_getR (pc' := 17) (b := (b + 2)) dX0_begin_14 rfl fl_X0_15 rfl (b_o g3) (b_no g3) (b_r2 g3) ?_
  refine J_iconst (pc' := 18) (v := (0 : Int32)) dX0_begin_17 rfl ic_0 ?_
  obtain ⟨M4, e5, h⟩ := tl_inv h
  have g6 : sh_b b M4.2.2 := j_shfi e5 g3
  refine J_callS (pc' := 21) (as := [.ref (b + 2), .int (0 : Int32)]) (rest := []) dX0_begin_18 rfl lk_X0_52 rfl (c_fi (b_s2 g3) (b_n g3 (Nat.le_of_ble_eq_true rfl)) (Nat.le_of_ble_eq_true rfl) e5) ⟨Nat.le_of_ble_eq_true rfl, Nat.le_of_ble_eq_true rfl⟩ (Nat.le_of_ble_eq_true rfl) ⟨Nat.le_of_ble_eq_true rfl, Nat.le_of_ble_eq_true rfl⟩ (j_kv ?_)
  refine J_aload_n (pc' := 22) (i := 0) (n := 0) dX0_begin_21 rfl rfl rfl ?_
  refine J_getR (pc' := 25) (b := (b + 5)) dX0_begin_22 rfl fl_X0_24 rfl (b_o g6) (b_no g6) (b_r5 g6) ?_
  refine J_iconst (pc' := 26) (v := (0 : Int32)) dX0_begin_25 rfl ic_0 ?_
  obtain ⟨M7, e8, h⟩ := tl_inv h
  have g9 : sh_b b M7.2.2 := j_shfi e8 g6
  refine J_callS (pc' := 29) (as := [.ref (b + 5), .int (0 : Int32)]) (rest := []) dX0_begin_26 rfl lk_X0_52 rfl (c_fi (b_s5 g6) (b_n g6 (Nat.le_of_ble_eq_true rfl)) (Nat.le_of_ble_eq_true rfl) e8) ⟨Nat.le_of_ble_eq_true rfl, Nat.le_of_ble_eq_true rfl⟩ (Nat.le_of_ble_eq_true rfl) ⟨Nat.le_of_ble_eq_true rfl, Nat.le_of_ble_eq_true rfl⟩ (j_kv ?_)
  refine J_aload_n (pc' := 30) (i := 0) (n := 0) dX0_begin_29 rfl rfl rfl ?_
  refine J_iconst (pc' := 31) (v := (0 : Int32)) dX0_begin_30 rfl ic_0 ?_
  obtain ⟨M10, e11, h⟩ := tl_inv h
  have g12 : sh_b b M10.2.2 := j_shI e11 g9
  refine J_putIe (pc' := 34) dX0_begin_31 rfl fl_X0_58 ⟨rfl, rfl, rfl⟩ (b_o g9) (b_no g9) e11 ?_
  refine J_aload_n (pc' := 35) (i := 0) (n := 0) dX0_begin_34 rfl rfl rfl ?_
  refine J_iconst (pc' := 36) (v := (0 : Int32)) dX0_begin_35 rfl ic_0 ?_
  obtain ⟨M13, e14, h⟩ := tl_inv h
  have g15 : sh_b b M13.2.2 := j_shI e14 g12
  refine J_putIe (pc' := 39) dX0_begin_36 rfl fl_X0_62 ⟨rfl, rfl, rfl⟩ (b_o g12) (b_no g12) e14 ?_
  refine J_aload_n (pc' := 40) (i := 0) (n := 0) dX0_begin_39 rfl rfl rfl ?_
  refine J_iconst (pc' := 41) (v := (0 : Int32)) dX0_begin_40 rfl ic_0 ?_
  obtain ⟨M16, e17, h⟩ := tl_inv h
  have g18 : sh_b b M16.2.2 := j_shI e17 g15
  refine J_putIe (pc' := 44) dX0_begin_41 rfl fl_X0_65 ⟨rfl, rfl, rfl⟩ (b_o g15) (b_no g15) e17 ?_
  exact J_vret rfl dX0_begin_44 ⟨rfl, Nat.le_refl _⟩ (j_pV h)
abbrev JT_X0_becomes (l : Launch) (G : j_G) (r : j_M) : Nat → List (Nat × Value) → List Value → j_M → Prop := JJ l G md_X0_becomes (j_rm 3 (0, 0)) (0, 0) (0, 0) (po none r)
noncomputable def f_X0_becomes (M : j_M) (b : Nat) (o1 : Nat) : Option j_M :=
  c_i M (o1 + 1) 4 (0 : Int32) (b + 1) 4 (0 : Int32) (4 : Int32) fun M1 => (c_i M1 (o1 + 2) 4 (0 : Int32) (b + 2) 4 (0 : Int32) (4 : Int32) fun M5 => (c_i M5 (o1 + 3) 7 (0 : Int32) (b + 3) 7 (0 : Int32) (7 : Int32) fun M9 => (c_i M9 (o1 + 4) 7 (0 : Int32) (b + 4) 7 (0 : Int32) (7 : Int32) fun M13 => (c_i M13 (o1 + 5) 22 (0 : Int32) (b + 5) 22 (0 : Int32) (22 : Int32) fun M17 => (c_i M17 (o1 + 6) 176 (0 : Int32) (b + 6) 176 (0 : Int32) (176 : Int32) fun M21 => (c_i M21 (o1 + 7) 30 (0 : Int32) (b + 7) 30 (0 : Int32) (30 : Int32) fun M25 => (tl (j_sI M25 b 9 (j_I M25 o1 9)) fun M29 => (tl (j_sI M29 b 10 (j_I M29 o1 10)) fun M33 => (tl (j_sI M33 b 11 (j_I M33 o1 11)) fun M37 => (some M37))))))))))
set_option maxHeartbeats 4000000 in
theorem c_X0_becomes {l : Launch} {G : j_G} {M : j_M} {b : Nat} {o1 : Nat} (hs : sh_b b M.2.2) (ho1 : sh_b o1 M.2.2) {r : j_M} (h : f_X0_becomes M b o1 = some r) : j_Sp l G md_X0_becomes 3 (0, 0) [.ref b, .ref o1] M (po none r) := by
  refine j_Sp.of (by decide) (Nat.le_of_ble_eq_true rfl) ?_
  show JT_X0_becomes l G r 0 [(0, .ref b), (1, .ref o1)] [] M
  unfold f_X0_becomes at h
  refine J_aload_n (pc' := 1) (i := 1) (n := 1) dX0_becomes_0 rfl rfl rfl ?_
  refine J_getR (pc' := 4) (b := (o1 + 1)) dX0_becomes_1 rfl fl_X0_11 rfl (b_o ho1) (b_no ho1) (b_r1 ho1) ?_
  refine J_iconst (pc' := 5) (v := (0 : Int32)) dX0_becomes_4 rfl ic_0 ?_
  refine J_aload_n (pc' := 6) (i := 0) (n := 0) dX0_becomes_5 rfl rfl rfl ?_
  refine J_getR (pc' := 9) (b := (b + 1)) dX0_becomes_6 rfl fl_X0_11 rfl (b_o hs) (b_no hs) (b_r1 hs) ?_
  refine J_iconst (pc' := 10) (v := (0 : Int32)) dX0_becomes_9 rfl ic_0 ?_
  refine J_iconst (pc' := 11) (v := (4 : Int32)) dX0_becomes_10 rfl ic_4 ?_
  obtain ⟨M1, e2, h⟩ := c_i_inv h
  have g3 : sh_b b M1.2.2 := j_shC e2.2 hs
  have g4 : sh_b o1 M1.2.2 := j_shC e2.2 ho1
  refine J_copye (pc' := 14) dX0_becomes_11 rfl lk_X0_46 (b_s1 ho1) (b_n ho1 (Nat.le_of_ble_eq_true rfl)) (b_s1 hs) (b_n hs (Nat.le_of_ble_eq_true rfl)) ⟨Nat.le_of_ble_eq_true rfl, Nat.le_of_ble_eq_true rfl⟩ e2 ?_
  refine J_aload_n (pc' := 15) (i := 1) (n := 1) dX0_becomes_14 rfl rfl rfl ?_
  refine J_getR (pc' := 18) (b := (o1 + 2)) dX0_becomes_15 rfl fl_X0_15 rfl (b_o g4) (b_no g4) (b_r2 g4) ?_
  refine J_iconst (pc' := 19) (v := (0 : Int32)) dX0_becomes_18 rfl ic_0 ?_
  refine J_aload_n (pc' := 20) (i := 0) (n := 0) dX0_becomes_19 rfl rfl rfl ?_
  refine J_getR (pc' := 23) (b := (b + 2)) dX0_becomes_20 rfl fl_X0_15 rfl (b_o g3) (b_no g3) (b_r2 g3) ?_
  refine J_iconst (pc' := 24) (v := (0 : Int32)) dX0_becomes_23 rfl ic_0 ?_
  refine J_iconst (pc' := 25) (v := (4 : Int32)) dX0_becomes_24 rfl ic_4 ?_
  obtain ⟨M5, e6, h⟩ := c_i_inv h
  have g7 : sh_b b M5.2.2 := j_shC e6.2 g3
  have g8 : sh_b o1 M5.2.2 := j_shC e6.2 g4
  refine J_copye (pc' := 28) dX0_becomes_25 rfl lk_X0_46 (b_s2 g4) (b_n g4 (Nat.le_of_ble_eq_true rfl)) (b_s2 g3) (b_n g3 (Nat.le_of_ble_eq_true rfl)) ⟨Nat.le_of_ble_eq_true rfl, Nat.le_of_ble_eq_true rfl⟩ e6 ?_
  refine J_aload_n (pc' := 29) (i := 1) (n := 1) dX0_becomes_28 rfl rfl rfl ?_
  refine J_getR (pc' := 32) (b := (o1 + 3)) dX0_becomes_29 rfl fl_X0_18 rfl (b_o g8) (b_no g8) (b_r3 g8) ?_
  refine J_iconst (pc' := 33) (v := (0 : Int32)) dX0_becomes_32 rfl ic_0 ?_
  refine J_aload_n (pc' := 34) (i := 0) (n := 0) dX0_becomes_33 rfl rfl rfl ?_
  refine J_getR (pc' := 37) (b := (b + 3)) dX0_becomes_34 rfl fl_X0_18 rfl (b_o g7) (b_no g7) (b_r3 g7) ?_
  refine J_iconst (pc' := 38) (v := (0 : Int32)) dX0_becomes_37 rfl ic_0 ?_
  refine J_bipush (pc' := 40) (v := (7 : Int32)) dX0_becomes_38 rfl bp_7 ?_
  obtain ⟨M9, e10, h⟩ := c_i_inv h
  have g11 : sh_b b M9.2.2 := j_shC e10.2 g7
  have g12 : sh_b o1 M9.2.2 := j_shC e10.2 g8
  refine J_copye (pc' := 43) dX0_becomes_40 rfl lk_X0_46 (b_s3 g8) (b_n g8 (Nat.le_of_ble_eq_true rfl)) (b_s3 g7) (b_n g7 (Nat.le_of_ble_eq_true rfl)) ⟨Nat.le_of_ble_eq_true rfl, Nat.le_of_ble_eq_true rfl⟩ e10 ?_
  refine J_aload_n (pc' := 44) (i := 1) (n := 1) dX0_becomes_43 rfl rfl rfl ?_
  refine J_getR (pc' := 47) (b := (o1 + 4)) dX0_becomes_44 rfl fl_X0_21 rfl (b_o g12) (b_no g12) (b_r4 g12) ?_
  refine J_iconst (pc' := 48) (v := (0 : Int32)) dX0_becomes_47 rfl ic_0 ?_
  refine J_aload_n (pc' := 49) (i := 0) (n := 0) dX0_becomes_48 rfl rfl rfl ?_
  refine J_getR (pc' := 52) (b := (b + 4)) dX0_becomes_49 rfl fl_X0_21 rfl (b_o g11) (b_no g11) (b_r4 g11) ?_
  refine J_iconst (pc' := 53) (v := (0 : Int32)) dX0_becomes_52 rfl ic_0 ?_
  refine J_bipush (pc' := 55) (v := (7 : Int32)) dX0_becomes_53 rfl bp_7 ?_
  obtain ⟨M13, e14, h⟩ := c_i_inv h
  have g15 : sh_b b M13.2.2 := j_shC e14.2 g11
  have g16 : sh_b o1 M13.2.2 := j_shC e14.2 g12
  refine J_copye (pc' := 58) dX0_becomes_55 rfl lk_X0_46 (b_s4 g12) (b_n g12 (Nat.le_of_ble_eq_true rfl)) (b_s4 g11) (b_n g11 (Nat.le_of_ble_eq_true rfl)) ⟨Nat.le_of_ble_eq_true rfl, Nat.le_of_ble_eq_true rfl⟩ e14 ?_
  refine J_aload_n (pc' := 59) (i := 1) (n := 1) dX0_becomes_58 rfl rfl rfl ?_
  refine J_getR (pc' := 62) (b := (o1 + 5)) dX0_becomes_59 rfl fl_X0_24 rfl (b_o g16) (b_no g16) (b_r5 g16) ?_
  refine J_iconst (pc' := 63) (v := (0 : Int32)) dX0_becomes_62 rfl ic_0 ?_
  refine J_aload_n (pc' := 64) (i := 0) (n := 0) dX0_becomes_63 rfl rfl rfl ?_
  refine J_getR (pc' := 67) (b := (b + 5)) dX0_becomes_64 rfl fl_X0_24 rfl (b_o g15) (b_no g15) (b_r5 g15) ?_
  refine J_iconst (pc' := 68) (v := (0 : Int32)) dX0_becomes_67 rfl ic_0 ?_
  refine J_bipush (pc' := 70) (v := (22 : Int32)) dX0_becomes_68 rfl bp_22 ?_
  obtain ⟨M17, e18, h⟩ := c_i_inv h
  have g19 : sh_b b M17.2.2 := j_shC e18.2 g15
  have g20 : sh_b o1 M17.2.2 := j_shC e18.2 g16
  refine J_copye (pc' := 73) dX0_becomes_70 rfl lk_X0_46 (b_s5 g16) (b_n g16 (Nat.le_of_ble_eq_true rfl)) (b_s5 g15) (b_n g15 (Nat.le_of_ble_eq_true rfl)) ⟨Nat.le_of_ble_eq_true rfl, Nat.le_of_ble_eq_true rfl⟩ e18 ?_
  refine J_aload_n (pc' := 74) (i := 1) (n := 1) dX0_becomes_73 rfl rfl rfl ?_
  refine J_getR (pc' := 77) (b := (o1 + 6)) dX0_becomes_74 rfl fl_X0_27 rfl (b_o g20) (b_no g20) (b_r6 g20) ?_
  refine J_iconst (pc' := 78) (v := (0 : Int32)) dX0_becomes_77 rfl ic_0 ?_
  refine J_aload_n (pc' := 79) (i := 0) (n := 0) dX0_becomes_78 rfl rfl rfl ?_
  refine J_getR (pc' := 82) (b := (b + 6)) dX0_becomes_79 rfl fl_X0_27 rfl (b_o g19) (b_no g19) (b_r6 g19) ?_
  refine J_iconst (pc' := 83) (v := (0 : Int32)) dX0_becomes_82 rfl ic_0 ?_
  refine J_sipush (pc' := 86) (v := (176 : Int32)) dX0_becomes_83 rfl sp_176 ?_
  obtain ⟨M21, e22, h⟩ := c_i_inv h
  have g23 : sh_b b M21.2.2 := j_shC e22.2 g19
  have g24 : sh_b o1 M21.2.2 := j_shC e22.2 g20
  refine J_copye (pc' := 89) dX0_becomes_86 rfl lk_X0_46 (b_s6 g20) (b_n g20 (Nat.le_of_ble_eq_true rfl)) (b_s6 g19) (b_n g19 (Nat.le_of_ble_eq_true rfl)) ⟨Nat.le_of_ble_eq_true rfl, Nat.le_of_ble_eq_true rfl⟩ e22 ?_
  refine J_aload_n (pc' := 90) (i := 1) (n := 1) dX0_becomes_89 rfl rfl rfl ?_
  refine J_getR (pc' := 93) (b := (o1 + 7)) dX0_becomes_90 rfl fl_X0_30 rfl (b_o g24) (b_no g24) (b_r7 g24) ?_
  refine J_iconst (pc' := 94) (v := (0 : Int32)) dX0_becomes_93 rfl ic_0 ?_
  refine J_aload_n (pc' := 95) (i := 0) (n := 0) dX0_becomes_94 rfl rfl rfl ?_
  refine J_getR (pc' := 98) (b := (b + 7)) dX0_becomes_95 rfl fl_X0_30 rfl (b_o g23) (b_no g23) (b_r7 g23) ?_
  refine J_iconst (pc' := 99) (v := (0 : Int32)) dX0_becomes_98 rfl ic_0 ?_
  refine J_bipush (pc' := 101) (v := (30 : Int32)) dX0_becomes_99 rfl bp_30 ?_
  obtain ⟨M25, e26, h⟩ := c_i_inv h
  have g27 : sh_b b M25.2.2 := j_shC e26.2 g23
  have g28 : sh_b o1 M25.2.2 := j_shC e26.2 g24
  refine J_copye (pc' := 104) dX0_becomes_101 rfl lk_X0_46 (b_s7 g24) (b_n g24 (Nat.le_of_ble_eq_true rfl)) (b_s7 g23) (b_n g23 (Nat.le_of_ble_eq_true rfl)) ⟨Nat.le_of_ble_eq_true rfl, Nat.le_of_ble_eq_true rfl⟩ e26 ?_
  refine J_aload_n (pc' := 105) (i := 0) (n := 0) dX0_becomes_104 rfl rfl rfl ?_
  refine J_aload_n (pc' := 106) (i := 1) (n := 1) dX0_becomes_105 rfl rfl rfl ?_
  refine J_getI (pc' := 109) dX0_becomes_106 rfl fl_X0_58 rfl (b_o g28) (b_no g28) ?_
  obtain ⟨M29, e30, h⟩ := tl_inv h
  have g31 : sh_b b M29.2.2 := j_shI e30 g27
  have g32 : sh_b o1 M29.2.2 := j_shI e30 g28
  refine J_putIe (pc' := 112) dX0_becomes_109 rfl fl_X0_58 ⟨rfl, rfl, rfl⟩ (b_o g27) (b_no g27) e30 ?_
  refine J_aload_n (pc' := 113) (i := 0) (n := 0) dX0_becomes_112 rfl rfl rfl ?_
  refine J_aload_n (pc' := 114) (i := 1) (n := 1) dX0_becomes_113 rfl rfl rfl ?_
  refine J_getI (pc' := 117) dX0_becomes_114 rfl fl_X0_62 rfl (b_o g32) (b_no g32) ?_
  obtain ⟨M33, e34, h⟩ := tl_inv h
  have g35 : sh_b b M33.2.2 := j_shI e34 g31
  have g36 : sh_b o1 M33.2.2 := j_shI e34 g32
  refine J_putIe (pc' := 120) dX0_becomes_117 rfl fl_X0_62 ⟨rfl, rfl, rfl⟩ (b_o g31) (b_no g31) e34 ?_
  refine J_aload_n (pc' := 121) (i := 0) (n := 0) dX0_becomes_120 rfl rfl rfl ?_
  refine J_aload_n (pc' := 122) (i := 1) (n := 1) dX0_becomes_121 rfl rfl rfl ?_
  refine J_getI (pc' := 125) dX0_becomes_122 rfl fl_X0_65 rfl (b_o g36) (b_no g36) ?_
  obtain ⟨M37, e38, h⟩ := tl_inv h
  have g39 : sh_b b M37.2.2 := j_shI e38 g35
  have g40 : sh_b o1 M37.2.2 := j_shI e38 g36
  refine J_putIe (pc' := 128) dX0_becomes_125 rfl fl_X0_65 ⟨rfl, rfl, rfl⟩ (b_o g35) (b_no g35) e38 ?_
  exact J_vret rfl dX0_becomes_128 ⟨rfl, Nat.le_refl _⟩ (j_pV h)
abbrev JT_X0_comes (l : Launch) (G : j_G) (r : (Int32 × j_M)) : Nat → List (Nat × Value) → List Value → j_M → Prop := JJ l G md_X0_comes (j_rm 1 (0, 0)) (0, 0) (0, 0) (po (some (.int r.1)) r.2)
noncomputable def f_X0_comes (M : j_M) (b : Nat) (x1 : Int32) (x2 : Int32) (x3 : Int32) : Option (Int32 × j_M) :=
  if (j_I M b 9) < (7 : Int32) then (w_i M (b + 3) 7 (j_I M b 9) x1 fun M2 => (w_i M2 (b + 4) 7 (j_I M b 9) x2 fun M5 => (w_i M5 (b + 5) 22 ((1 : Int32) + (j_I M b 9)) x3 fun M8 => (tl (j_sI M8 b 9 ((j_I M b 9) + (1 : Int32))) fun M11 => (tl (j_sI M11 b 10 (0 : Int32)) fun M14 => (some ((j_I M b 9), M14))))))) else (some (((-1) : Int32), M))
set_option maxHeartbeats 4000000 in
theorem c_X0_comes {l : Launch} {G : j_G} {M : j_M} {b : Nat} {x1 : Int32} {x2 : Int32} {x3 : Int32} (hs : sh_b b M.2.2) {r : (Int32 × j_M)} (h : f_X0_comes M b x1 x2 x3 = some r) : j_Sp l G md_X0_comes 1 (0, 0) [.ref b, .int x1, .int x2, .int x3] M (po (some (.int r.1)) r.2) := by
  refine j_Sp.of (by decide) (Nat.le_of_ble_eq_true rfl) ?_
  show JT_X0_comes l G r 0 [(0, .ref b), (1, .int x1), (2, .int x2), (3, .int x3)] [] M
  unfold f_X0_comes at h
  refine J_aload_n (pc' := 1) (i := 0) (n := 0) dX0_comes_0 rfl rfl rfl ?_
  refine J_getI (pc' := 4) dX0_comes_1 rfl fl_X0_58 rfl (b_o hs) (b_no hs) ?_
  refine J_istore (pc' := 6) (i := 4) (lv' := [(4, .int (j_I M b 9)), (0, .ref b), (1, .int x1), (2, .int x2), (3, .int x3)]) dX0_comes_4 rfl (by decide) rfl ?_
  refine J_iload (pc' := 8) (i := 4) (n := 0) dX0_comes_6 rfl rfl ?_
  refine J_bipush (pc' := 10) (v := (7 : Int32)) dX0_comes_8 rfl bp_7 ?_
  refine J_icmp_lt (pc' := 13) (tgt := 15) dX0_comes_10 rfl (by decide) (fun c1 => ?_) (fun c1 => ?_)
  · replace h := j_ip c1 h
    refine J_aload_n (pc' := 16) (i := 0) (n := 1) dX0_comes_15 rfl rfl rfl ?_
    refine J_getR (pc' := 19) (b := (b + 3)) dX0_comes_16 rfl fl_X0_18 rfl (b_o hs) (b_no hs) (b_r3 hs) ?_
    refine J_iload (pc' := 21) (i := 4) (n := 0) dX0_comes_19 rfl rfl ?_
    refine J_iload_n (pc' := 22) (i := 1) (n := 2) dX0_comes_21 rfl rfl rfl ?_
    obtain ⟨M2, e3, h⟩ := w_i_inv h
    have g4 : sh_b b M2.2.2 := j_shI e3.2 hs
    refine J_iaste (pc' := 23) dX0_comes_22 rfl (b_s3 hs) (b_n hs (Nat.le_of_ble_eq_true rfl)) e3 ?_
    refine J_aload_n (pc' := 24) (i := 0) (n := 1) dX0_comes_23 rfl rfl rfl ?_
    refine J_getR (pc' := 27) (b := (b + 4)) dX0_comes_24 rfl fl_X0_21 rfl (b_o g4) (b_no g4) (b_r4 g4) ?_
    refine J_iload (pc' := 29) (i := 4) (n := 0) dX0_comes_27 rfl rfl ?_
    refine J_iload_n (pc' := 30) (i := 2) (n := 3) dX0_comes_29 rfl rfl rfl ?_
    obtain ⟨M5, e6, h⟩ := w_i_inv h
    have g7 : sh_b b M5.2.2 := j_shI e6.2 g4
    refine J_iaste (pc' := 31) dX0_comes_30 rfl (b_s4 g4) (b_n g4 (Nat.le_of_ble_eq_true rfl)) e6 ?_
    refine J_aload_n (pc' := 32) (i := 0) (n := 1) dX0_comes_31 rfl rfl rfl ?_
    refine J_getR (pc' := 35) (b := (b + 5)) dX0_comes_32 rfl fl_X0_24 rfl (b_o g7) (b_no g7) (b_r5 g7) ?_
    refine J_iconst (pc' := 36) (v := (1 : Int32)) dX0_comes_35 rfl ic_1 ?_
    refine J_iload (pc' := 38) (i := 4) (n := 0) dX0_comes_36 rfl rfl ?_
    refine J_iadd (pc' := 39) dX0_comes_38 rfl ?_
    refine J_iload_n (pc' := 40) (i := 3) (n := 4) dX0_comes_39 rfl rfl rfl ?_
    obtain ⟨M8, e9, h⟩ := w_i_inv h
    have g10 : sh_b b M8.2.2 := j_shI e9.2 g7
    refine J_iaste (pc' := 41) dX0_comes_40 rfl (b_s5 g7) (b_n g7 (Nat.le_of_ble_eq_true rfl)) e9 ?_
    refine J_aload_n (pc' := 42) (i := 0) (n := 1) dX0_comes_41 rfl rfl rfl ?_
    refine J_iload (pc' := 44) (i := 4) (n := 0) dX0_comes_42 rfl rfl ?_
    refine J_iconst (pc' := 45) (v := (1 : Int32)) dX0_comes_44 rfl ic_1 ?_
    refine J_iadd (pc' := 46) dX0_comes_45 rfl ?_
    obtain ⟨M11, e12, h⟩ := tl_inv h
    have g13 : sh_b b M11.2.2 := j_shI e12 g10
    refine J_putIe (pc' := 49) dX0_comes_46 rfl fl_X0_58 ⟨rfl, rfl, rfl⟩ (b_o g10) (b_no g10) e12 ?_
    refine J_aload_n (pc' := 50) (i := 0) (n := 1) dX0_comes_49 rfl rfl rfl ?_
    refine J_iconst (pc' := 51) (v := (0 : Int32)) dX0_comes_50 rfl ic_0 ?_
    obtain ⟨M14, e15, h⟩ := tl_inv h
    have g16 : sh_b b M14.2.2 := j_shI e15 g13
    refine J_putIe (pc' := 54) dX0_comes_51 rfl fl_X0_62 ⟨rfl, rfl, rfl⟩ (b_o g13) (b_no g13) e15 ?_
    refine J_iload (pc' := 56) (i := 4) (n := 0) dX0_comes_54 rfl rfl ?_
    exact J_iret rfl dX0_comes_56 ⟨rfl, Nat.le_refl _⟩ (j_pW h)
  · replace h := j_iq c1 h
    refine J_iconst (pc' := 14) (v := ((-1) : Int32)) dX0_comes_13 rfl ic_m1 ?_
    exact J_iret rfl dX0_comes_14 ⟨rfl, Nat.le_refl _⟩ (j_pW h)
abbrev JT_X0_keepForUndo (l : Launch) (G : j_G) (r : j_M) : Nat → List (Nat × Value) → List Value → j_M → Prop := JJ l G md_X0_keepForUndo (j_rm 3 (0, 0)) (0, 0) (0, 0) (po none r)
noncomputable def f_X0_keepForUndo (M : j_M) (b : Nat) : Option j_M :=
  jn (fun (M2 : j_M) => (c_i M2 (b + 5) 22 (0 : Int32) (b + 6) 176 ((j_I M2 b 10) * (22 : Int32)) (22 : Int32) fun M6 => (tl (j_sI M6 b 10 ((j_I M6 b 10) + (1 : Int32))) fun M9 => (some M9)))) (fun K3 => (if (j_I M b 10) < (8 : Int32) then (K3 M) else (c_i M (b + 6) 176 (22 : Int32) (b + 6) 176 (0 : Int32) (154 : Int32) fun M12 => (tl (j_sI M12 b 10 (7 : Int32)) fun M15 => (K3 M15)))))
set_option maxHeartbeats 4000000 in
theorem c_X0_keepForUndo {l : Launch} {G : j_G} {M : j_M} {b : Nat} (hs : sh_b b M.2.2) {r : j_M} (h : f_X0_keepForUndo M b = some r) : j_Sp l G md_X0_keepForUndo 3 (0, 0) [.ref b] M (po none r) := by
  refine j_Sp.of (by decide) (Nat.le_of_ble_eq_true rfl) ?_
  show JT_X0_keepForUndo l G r 0 [(0, .ref b)] [] M
  unfold f_X0_keepForUndo at h
  refine J_aload_n (pc' := 1) (i := 0) (n := 0) dX0_keepForUndo_0 rfl rfl rfl ?_
  refine J_getI (pc' := 4) dX0_keepForUndo_1 rfl fl_X0_62 rfl (b_o hs) (b_no hs) ?_
  refine J_bipush (pc' := 6) (v := (8 : Int32)) dX0_keepForUndo_4 rfl bp_8 ?_
  refine J_join (C := fun (M2 : j_M) => sh_b b M2.2.2 → JT_X0_keepForUndo l G r 32 [(0, .ref b)] [] M2) h (fun M2 h => ?_) (fun K3 h4 h => ?_)
  · intro g5
    refine J_aload_n (pc' := 33) (i := 0) (n := 0) dX0_keepForUndo_32 rfl rfl rfl ?_
    refine J_getR (pc' := 36) (b := (b + 5)) dX0_keepForUndo_33 rfl fl_X0_24 rfl (b_o g5) (b_no g5) (b_r5 g5) ?_
    refine J_iconst (pc' := 37) (v := (0 : Int32)) dX0_keepForUndo_36 rfl ic_0 ?_
    refine J_aload_n (pc' := 38) (i := 0) (n := 0) dX0_keepForUndo_37 rfl rfl rfl ?_
    refine J_getR (pc' := 41) (b := (b + 6)) dX0_keepForUndo_38 rfl fl_X0_27 rfl (b_o g5) (b_no g5) (b_r6 g5) ?_
    refine J_aload_n (pc' := 42) (i := 0) (n := 0) dX0_keepForUndo_41 rfl rfl rfl ?_
    refine J_getI (pc' := 45) dX0_keepForUndo_42 rfl fl_X0_62 rfl (b_o g5) (b_no g5) ?_
    refine J_bipush (pc' := 47) (v := (22 : Int32)) dX0_keepForUndo_45 rfl bp_22 ?_
    refine J_imul (pc' := 48) dX0_keepForUndo_47 rfl ?_
    refine J_bipush (pc' := 50) (v := (22 : Int32)) dX0_keepForUndo_48 rfl bp_22 ?_
    obtain ⟨M6, e7, h⟩ := c_i_inv h
    have g8 : sh_b b M6.2.2 := j_shC e7.2 g5
    refine J_copye (pc' := 53) dX0_keepForUndo_50 rfl lk_X0_46 (b_s5 g5) (b_n g5 (Nat.le_of_ble_eq_true rfl)) (b_s6 g5) (b_n g5 (Nat.le_of_ble_eq_true rfl)) ⟨Nat.le_of_ble_eq_true rfl, Nat.le_of_ble_eq_true rfl⟩ e7 ?_
    refine J_aload_n (pc' := 54) (i := 0) (n := 0) dX0_keepForUndo_53 rfl rfl rfl ?_
    refine J_dup (pc' := 55) dX0_keepForUndo_54 rfl rfl ?_
    refine J_getI (pc' := 58) dX0_keepForUndo_55 rfl fl_X0_62 rfl (b_o g8) (b_no g8) ?_
    refine J_iconst (pc' := 59) (v := (1 : Int32)) dX0_keepForUndo_58 rfl ic_1 ?_
    refine J_iadd (pc' := 60) dX0_keepForUndo_59 rfl ?_
    obtain ⟨M9, e10, h⟩ := tl_inv h
    have g11 : sh_b b M9.2.2 := j_shI e10 g8
    refine J_putIe (pc' := 63) dX0_keepForUndo_60 rfl fl_X0_62 ⟨rfl, rfl, rfl⟩ (b_o g8) (b_no g8) e10 ?_
    exact J_vret rfl dX0_keepForUndo_63 ⟨rfl, Nat.le_refl _⟩ (j_pV h)
  · refine J_icmp_lt (pc' := 9) (tgt := 32) dX0_keepForUndo_6 rfl (by decide) (fun c1 => ?_) (fun c1 => ?_)
    · replace h := j_ip c1 h
      exact h4 M h hs
    · replace h := j_iq c1 h
      refine J_aload_n (pc' := 10) (i := 0) (n := 0) dX0_keepForUndo_9 rfl rfl rfl ?_
      refine J_getR (pc' := 13) (b := (b + 6)) dX0_keepForUndo_10 rfl fl_X0_27 rfl (b_o hs) (b_no hs) (b_r6 hs) ?_
      refine J_bipush (pc' := 15) (v := (22 : Int32)) dX0_keepForUndo_13 rfl bp_22 ?_
      refine J_aload_n (pc' := 16) (i := 0) (n := 0) dX0_keepForUndo_15 rfl rfl rfl ?_
      refine J_getR (pc' := 19) (b := (b + 6)) dX0_keepForUndo_16 rfl fl_X0_27 rfl (b_o hs) (b_no hs) (b_r6 hs) ?_
      refine J_iconst (pc' := 20) (v := (0 : Int32)) dX0_keepForUndo_19 rfl ic_0 ?_
      refine J_sipush (pc' := 23) (v := (154 : Int32)) dX0_keepForUndo_20 rfl sp_154 ?_
      obtain ⟨M12, e13, h⟩ := c_i_inv h
      have g14 : sh_b b M12.2.2 := j_shC e13.2 hs
      refine J_copye (pc' := 26) dX0_keepForUndo_23 rfl lk_X0_46 (b_s6 hs) (b_n hs (Nat.le_of_ble_eq_true rfl)) (b_s6 hs) (b_n hs (Nat.le_of_ble_eq_true rfl)) ⟨Nat.le_of_ble_eq_true rfl, Nat.le_of_ble_eq_true rfl⟩ e13 ?_
      refine J_aload_n (pc' := 27) (i := 0) (n := 0) dX0_keepForUndo_26 rfl rfl rfl ?_
      refine J_bipush (pc' := 29) (v := (7 : Int32)) dX0_keepForUndo_27 rfl bp_7 ?_
      obtain ⟨M15, e16, h⟩ := tl_inv h
      have g17 : sh_b b M15.2.2 := j_shI e16 g14
      refine J_putIe (pc' := 32) dX0_keepForUndo_29 rfl fl_X0_62 ⟨rfl, rfl, rfl⟩ (b_o g14) (b_no g14) e16 ?_
      exact h4 M15 h g17
abbrev JT_X0_takeBack (l : Launch) (G : j_G) (r : j_M) : Nat → List (Nat × Value) → List Value → j_M → Prop := JJ l G md_X0_takeBack (j_rm 3 (0, 0)) (0, 0) (0, 0) (po none r)
noncomputable def f_X0_takeBack (M : j_M) (b : Nat) : Option j_M :=
  if (j_I M b 10) ≤ 0 then (some M) else (tl (j_sI M b 10 ((j_I M b 10) - (1 : Int32))) fun M2 => (c_i M2 (b + 6) 176 ((j_I M2 b 10) * (22 : Int32)) (b + 5) 22 (0 : Int32) (22 : Int32) fun M5 => (some M5)))
set_option maxHeartbeats 4000000 in
theorem c_X0_takeBack {l : Launch} {G : j_G} {M : j_M} {b : Nat} (hs : sh_b b M.2.2) {r : j_M} (h : f_X0_takeBack M b = some r) : j_Sp l G md_X0_takeBack 3 (0, 0) [.ref b] M (po none r) := by
  refine j_Sp.of (by decide) (Nat.le_of_ble_eq_true rfl) ?_
  show JT_X0_takeBack l G r 0 [(0, .ref b)] [] M
  unfold f_X0_takeBack at h
  refine J_aload_n (pc' := 1) (i := 0) (n := 0) dX0_takeBack_0 rfl rfl rfl ?_
  refine J_getI (pc' := 4) dX0_takeBack_1 rfl fl_X0_62 rfl (b_o hs) (b_no hs) ?_
  refine J_if_le (pc' := 7) (tgt := 38) dX0_takeBack_4 rfl (by decide) (fun c1 => ?_) (fun c1 => ?_)
  · replace h := j_ip c1 h
    exact J_vret rfl dX0_takeBack_38 ⟨rfl, Nat.le_refl _⟩ (j_pV h)
  · replace h := j_iq c1 h
    refine J_aload_n (pc' := 8) (i := 0) (n := 0) dX0_takeBack_7 rfl rfl rfl ?_
    refine J_dup (pc' := 9) dX0_takeBack_8 rfl rfl ?_
    refine J_getI (pc' := 12) dX0_takeBack_9 rfl fl_X0_62 rfl (b_o hs) (b_no hs) ?_
    refine J_iconst (pc' := 13) (v := (1 : Int32)) dX0_takeBack_12 rfl ic_1 ?_
    refine J_isub (pc' := 14) dX0_takeBack_13 rfl ?_
    obtain ⟨M2, e3, h⟩ := tl_inv h
    have g4 : sh_b b M2.2.2 := j_shI e3 hs
    refine J_putIe (pc' := 17) dX0_takeBack_14 rfl fl_X0_62 ⟨rfl, rfl, rfl⟩ (b_o hs) (b_no hs) e3 ?_
    refine J_aload_n (pc' := 18) (i := 0) (n := 0) dX0_takeBack_17 rfl rfl rfl ?_
    refine J_getR (pc' := 21) (b := (b + 6)) dX0_takeBack_18 rfl fl_X0_27 rfl (b_o g4) (b_no g4) (b_r6 g4) ?_
    refine J_aload_n (pc' := 22) (i := 0) (n := 0) dX0_takeBack_21 rfl rfl rfl ?_
    refine J_getI (pc' := 25) dX0_takeBack_22 rfl fl_X0_62 rfl (b_o g4) (b_no g4) ?_
    refine J_bipush (pc' := 27) (v := (22 : Int32)) dX0_takeBack_25 rfl bp_22 ?_
    refine J_imul (pc' := 28) dX0_takeBack_27 rfl ?_
    refine J_aload_n (pc' := 29) (i := 0) (n := 0) dX0_takeBack_28 rfl rfl rfl ?_
    refine J_getR (pc' := 32) (b := (b + 5)) dX0_takeBack_29 rfl fl_X0_24 rfl (b_o g4) (b_no g4) (b_r5 g4) ?_
    refine J_iconst (pc' := 33) (v := (0 : Int32)) dX0_takeBack_32 rfl ic_0 ?_
    refine J_bipush (pc' := 35) (v := (22 : Int32)) dX0_takeBack_33 rfl bp_22 ?_
    obtain ⟨M5, e6, h⟩ := c_i_inv h
    have g7 : sh_b b M5.2.2 := j_shC e6.2 g4
    refine J_copye (pc' := 38) dX0_takeBack_35 rfl lk_X0_46 (b_s6 g4) (b_n g4 (Nat.le_of_ble_eq_true rfl)) (b_s5 g4) (b_n g4 (Nat.le_of_ble_eq_true rfl)) ⟨Nat.le_of_ble_eq_true rfl, Nat.le_of_ble_eq_true rfl⟩ e6 ?_
    exact J_vret rfl dX0_takeBack_38 ⟨rfl, Nat.le_refl _⟩ (j_pV h)
abbrev JT_X0_isOpen (l : Launch) (G : j_G) (M : j_M) (r : Int32) : Nat → List (Nat × Value) → List Value → j_M → Prop := JJ l G md_X0_isOpen (j_rm 1 (0, 0)) (0, 0) (0, 0) (po (some (.int r)) M)
noncomputable def f_X0_isOpen (M : j_M) (b : Nat) (x1 : Int32) : Option Int32 :=
  a_i M (b + 2) 4 x1 fun v1 => (if v1 = 0 then (some (1 : Int32)) else (some (0 : Int32)))
set_option maxHeartbeats 4000000 in
theorem c_X0_isOpen {l : Launch} {G : j_G} {M : j_M} {b : Nat} {x1 : Int32} (hs : sh_b b M.2.2) {r : Int32} (h : f_X0_isOpen M b x1 = some r) : j_Sp l G md_X0_isOpen 1 (0, 0) [.ref b, .int x1] M (po (some (.int r)) M) := by
  refine j_Sp.of (by decide) (Nat.le_of_ble_eq_true rfl) ?_
  show JT_X0_isOpen l G M r 0 [(0, .ref b), (1, .int x1)] [] M
  unfold f_X0_isOpen at h
  refine J_aload_n (pc' := 1) (i := 0) (n := 0) dX0_isOpen_0 rfl rfl rfl ?_
  refine J_getR (pc' := 4) (b := (b + 2)) dX0_isOpen_1 rfl fl_X0_15 rfl (b_o hs) (b_no hs) (b_r2 hs) ?_
  refine J_iload_n (pc' := 5) (i := 1) (n := 1) dX0_isOpen_4 rfl rfl rfl ?_
  obtain ⟨v1, e2, h⟩ := a_i_inv h
  refine J_ialde (pc' := 6) dX0_isOpen_5 rfl (b_s2 hs) (b_n hs (Nat.le_of_ble_eq_true rfl)) e2 ?_
  refine J_if_ne (pc' := 9) (tgt := 13) dX0_isOpen_6 rfl (by decide) (fun c3 => ?_) (fun c3 => ?_)
  · replace h := j_iq c3 h
    refine J_iconst (pc' := 14) (v := (0 : Int32)) dX0_isOpen_13 rfl ic_0 ?_
    exact J_zret (ty := .boolean) rfl rfl dX0_isOpen_14 ⟨rfl, Nat.le_refl _⟩ (j_pIs h)
  · replace h := j_ip c3 h
    refine J_iconst (pc' := 10) (v := (1 : Int32)) dX0_isOpen_9 rfl ic_1 ?_
    refine J_goto (pc' := 14) dX0_isOpen_10 (by decide) ?_
    exact J_zret (ty := .boolean) rfl rfl dX0_isOpen_14 ⟨rfl, Nat.le_refl _⟩ (j_pIs h)
abbrev JT_X0_openLanes (l : Launch) (G : j_G) (M : j_M) (r : Int32) : Nat → List (Nat × Value) → List Value → j_M → Prop := JJ l G md_X0_openLanes (j_rm 2 (0, 0)) (0, 0) (0, 0) (po (some (.int r)) M)
noncomputable def f_X0_openLanes_L4 : Nat → Nat → j_M → Int32 → Int32 → (Int32 → Int32 → Option Int32) → Option Int32
  | 0, _, _, _, _, _ => none
  | n + 1, b, M, x1, x2, K =>
    if (4 : Int32) ≤ x2 then (K x1 x2) else ((f_X0_isOpen M b x2).bind fun v2 => (if v2 = 0 then (f_X0_openLanes_L4 n b M x1 (x2 + (1 : Int32)) K) else (f_X0_openLanes_L4 n b M (x1 + (1 : Int32)) (x2 + (1 : Int32)) K)))
noncomputable def f_X0_openLanes (M : j_M) (b : Nat) : Option Int32 :=
  f_X0_openLanes_L4 j_fu b M (0 : Int32) (0 : Int32) (fun (y5 : Int32) (y6 : Int32) => (some y5))
set_option maxHeartbeats 4000000 in
theorem L_X0_openLanes_L4 {l : Launch} {G : j_G} {b : Nat} {r : Int32} : ∀ (n : Nat) {x1 : Int32} {x2 : Int32} {M : j_M} (hs : sh_b b M.2.2) {K : Int32 → Int32 → Option Int32}, f_X0_openLanes_L4 n b M x1 x2 K = some r → (∀ (y1 : Int32) (y2 : Int32), K y1 y2 = some r → JT_X0_openLanes l G M r 26 [(1, .int y1)] [] M) → JT_X0_openLanes l G M r 4 [(0, .ref b), (1, .int x1), (2, .int x2)] [] M := by
  intro n
  induction n with
  | zero =>
    intro x1 x2 M hs K h hK
    rw [f_X0_openLanes_L4] at h; cases h
  | succ n ih =>
    intro x1 x2 M hs K h hK
    rw [f_X0_openLanes_L4] at h
    refine J_iload_n (pc' := 5) (i := 2) (n := 2) dX0_openLanes_4 rfl rfl rfl ?_
    refine J_iconst (pc' := 6) (v := (4 : Int32)) dX0_openLanes_5 rfl ic_4 ?_
    refine J_icmp_ge (pc' := 9) (tgt := 26) dX0_openLanes_6 rfl (by decide) (fun c1 => ?_) (fun c1 => ?_)
    · replace h := j_ip c1 h
      refine J_sub [1] (lv' := [(1, .int x1)]) rfl ?_
      exact hK x1 x2  h
    · replace h := j_iq c1 h
      refine J_aload_n (pc' := 10) (i := 0) (n := 0) dX0_openLanes_9 rfl rfl rfl ?_
      refine J_iload_n (pc' := 11) (i := 2) (n := 2) dX0_openLanes_10 rfl rfl rfl ?_
      obtain ⟨v2, e3, h⟩ := bi_inv h
      refine J_callV (pc' := 14) (as := [.int x2]) (rest := []) dX0_openLanes_11 rfl lk_X0_68 rfl 0 (by decide) rfl (b_o hs) (b_no hs) (c_X0_isOpen hs e3) ⟨Nat.le_of_ble_eq_true rfl, Nat.le_of_ble_eq_true rfl⟩ (Nat.le_of_ble_eq_true rfl) ⟨Nat.le_of_ble_eq_true rfl, Nat.le_of_ble_eq_true rfl⟩ (j_kq ?_)
      refine J_if_eq (pc' := 17) (tgt := 20) dX0_openLanes_14 rfl (by decide) (fun c4 => ?_) (fun c4 => ?_)
      · replace h := j_ip c4 h
        refine J_iinc (pc' := 23) (i := 2) (n := 2) (v := (x2 + (1 : Int32))) (lv' := [(2, .int (x2 + (1 : Int32))), (0, .ref b), (1, .int x1)]) dX0_openLanes_20 rfl rfl (j_inc _ _ rfl _) (by decide) rfl ?_
        refine J_goto (pc' := 4) dX0_openLanes_23 (by decide) ?_
        refine J_sub [1, 2, 0] (lv' := [(0, .ref b), (1, .int x1), (2, .int (x2 + (1 : Int32)))]) rfl ?_
        exact ih hs h hK
      · replace h := j_iq c4 h
        refine J_iinc (pc' := 20) (i := 1) (n := 1) (v := (x1 + (1 : Int32))) (lv' := [(1, .int (x1 + (1 : Int32))), (0, .ref b), (2, .int x2)]) dX0_openLanes_17 rfl rfl (j_inc _ _ rfl _) (by decide) rfl ?_
        refine J_iinc (pc' := 23) (i := 2) (n := 2) (v := (x2 + (1 : Int32))) (lv' := [(2, .int (x2 + (1 : Int32))), (1, .int (x1 + (1 : Int32))), (0, .ref b)]) dX0_openLanes_20 rfl rfl (j_inc _ _ rfl _) (by decide) rfl ?_
        refine J_goto (pc' := 4) dX0_openLanes_23 (by decide) ?_
        refine J_sub [2, 1, 0] (lv' := [(0, .ref b), (1, .int (x1 + (1 : Int32))), (2, .int (x2 + (1 : Int32)))]) rfl ?_
        exact ih hs h hK
set_option maxHeartbeats 4000000 in
theorem c_X0_openLanes {l : Launch} {G : j_G} {M : j_M} {b : Nat} (hs : sh_b b M.2.2) {r : Int32} (h : f_X0_openLanes M b = some r) : j_Sp l G md_X0_openLanes 2 (0, 0) [.ref b] M (po (some (.int r)) M) := by
  refine j_Sp.of (by decide) (Nat.le_of_ble_eq_true rfl) ?_
  show JT_X0_openLanes l G M r 0 [(0, .ref b)] [] M
  unfold f_X0_openLanes at h
  refine J_iconst (pc' := 1) (v := (0 : Int32)) dX0_openLanes_0 rfl ic_0 ?_
  refine J_istore_n (pc' := 2) (i := 1) (lv' := [(1, .int (0 : Int32)), (0, .ref b)]) dX0_openLanes_1 rfl rfl (by decide) rfl ?_
  refine J_iconst (pc' := 3) (v := (0 : Int32)) dX0_openLanes_2 rfl ic_0 ?_
  refine J_istore_n (pc' := 4) (i := 2) (lv' := [(2, .int (0 : Int32)), (1, .int (0 : Int32)), (0, .ref b)]) dX0_openLanes_3 rfl rfl (by decide) rfl ?_
  refine J_sub [2, 1, 0] (lv' := [(0, .ref b), (1, .int (0 : Int32)), (2, .int (0 : Int32))]) rfl ?_
  refine L_X0_openLanes_L4 j_fu hs h (fun y5 y6 h => ?_)
  refine J_iload_n (pc' := 27) (i := 1) (n := 0) dX0_openLanes_26 rfl rfl rfl ?_
  exact J_iret rfl dX0_openLanes_27 ⟨rfl, Nat.le_refl _⟩ (j_pIs h)
abbrev JT_X0_laneOf (l : Launch) (G : j_G) (M : j_M) (r : Int32) : Nat → List (Nat × Value) → List Value → j_M → Prop := JJ l G md_X0_laneOf (j_rm 1 (0, 0)) (0, 0) (0, 0) (po (some (.int r)) M)
noncomputable def f_X0_laneOf (M : j_M) (b : Nat) (x1 : Int32) : Option Int32 :=
  a_i M (b + 5) 22 ((1 : Int32) + x1) fun v1 => (some v1)
set_option maxHeartbeats 4000000 in
theorem c_X0_laneOf {l : Launch} {G : j_G} {M : j_M} {b : Nat} {x1 : Int32} (hs : sh_b b M.2.2) {r : Int32} (h : f_X0_laneOf M b x1 = some r) : j_Sp l G md_X0_laneOf 1 (0, 0) [.ref b, .int x1] M (po (some (.int r)) M) := by
  refine j_Sp.of (by decide) (Nat.le_of_ble_eq_true rfl) ?_
  show JT_X0_laneOf l G M r 0 [(0, .ref b), (1, .int x1)] [] M
  unfold f_X0_laneOf at h
  refine J_aload_n (pc' := 1) (i := 0) (n := 0) dX0_laneOf_0 rfl rfl rfl ?_
  refine J_getR (pc' := 4) (b := (b + 5)) dX0_laneOf_1 rfl fl_X0_24 rfl (b_o hs) (b_no hs) (b_r5 hs) ?_
  refine J_iconst (pc' := 5) (v := (1 : Int32)) dX0_laneOf_4 rfl ic_1 ?_
  refine J_iload_n (pc' := 6) (i := 1) (n := 1) dX0_laneOf_5 rfl rfl rfl ?_
  refine J_iadd (pc' := 7) dX0_laneOf_6 rfl ?_
  obtain ⟨v1, e2, h⟩ := a_i_inv h
  refine J_ialde (pc' := 8) dX0_laneOf_7 rfl (b_s5 hs) (b_n hs (Nat.le_of_ble_eq_true rfl)) e2 ?_
  exact J_iret rfl dX0_laneOf_8 ⟨rfl, Nat.le_refl _⟩ (j_pIs h)
abbrev JT_X0_lengthsOfAll (l : Launch) (G : j_G) (M : j_M) (r : Int32) : Nat → List (Nat × Value) → List Value → j_M → Prop := JJ l G md_X0_lengthsOfAll (j_rm 1 (0, 0)) (0, 0) (0, 0) (po (some (.int r)) M)
noncomputable def f_X0_lengthsOfAll_L4 : Nat → Nat → j_M → Int32 → Int32 → (Int32 → Int32 → Option Int32) → Option Int32
  | 0, _, _, _, _, _ => none
  | n + 1, b, M, x1, x2, K =>
    if (j_I M b 9) ≤ x2 then (K x1 x2) else (a_i M (b + 5) 22 ((8 : Int32) + x2) fun v2 => (f_X0_lengthsOfAll_L4 n b M (x1 + v2) (x2 + (1 : Int32)) K))
noncomputable def f_X0_lengthsOfAll (M : j_M) (b : Nat) : Option Int32 :=
  f_X0_lengthsOfAll_L4 j_fu b M (0 : Int32) (0 : Int32) (fun (y4 : Int32) (y5 : Int32) => (some y4))
set_option maxHeartbeats 4000000 in
theorem L_X0_lengthsOfAll_L4 {l : Launch} {G : j_G} {b : Nat} {r : Int32} : ∀ (n : Nat) {x1 : Int32} {x2 : Int32} {M : j_M} (hs : sh_b b M.2.2) {K : Int32 → Int32 → Option Int32}, f_X0_lengthsOfAll_L4 n b M x1 x2 K = some r → (∀ (y1 : Int32) (y2 : Int32), K y1 y2 = some r → JT_X0_lengthsOfAll l G M r 30 [(1, .int y1)] [] M) → JT_X0_lengthsOfAll l G M r 4 [(0, .ref b), (1, .int x1), (2, .int x2)] [] M := by
  intro n
  induction n with
  | zero =>
    intro x1 x2 M hs K h hK
    rw [f_X0_lengthsOfAll_L4] at h; cases h
  | succ n ih =>
    intro x1 x2 M hs K h hK
    rw [f_X0_lengthsOfAll_L4] at h
    refine J_iload_n (pc' := 5) (i := 2) (n := 2) dX0_lengthsOfAll_4 rfl rfl rfl ?_
    refine J_aload_n (pc' := 6) (i := 0) (n := 0) dX0_lengthsOfAll_5 rfl rfl rfl ?_
    refine J_getI (pc' := 9) dX0_lengthsOfAll_6 rfl fl_X0_58 rfl (b_o hs) (b_no hs) ?_
    refine J_icmp_ge (pc' := 12) (tgt := 30) dX0_lengthsOfAll_9 rfl (by decide) (fun c1 => ?_) (fun c1 => ?_)
    · replace h := j_ip c1 h
      refine J_sub [1] (lv' := [(1, .int x1)]) rfl ?_
      exact hK x1 x2  h
    · replace h := j_iq c1 h
      refine J_iload_n (pc' := 13) (i := 1) (n := 1) dX0_lengthsOfAll_12 rfl rfl rfl ?_
      refine J_aload_n (pc' := 14) (i := 0) (n := 0) dX0_lengthsOfAll_13 rfl rfl rfl ?_
      refine J_getR (pc' := 17) (b := (b + 5)) dX0_lengthsOfAll_14 rfl fl_X0_24 rfl (b_o hs) (b_no hs) (b_r5 hs) ?_
      refine J_bipush (pc' := 19) (v := (8 : Int32)) dX0_lengthsOfAll_17 rfl bp_8 ?_
      refine J_iload_n (pc' := 20) (i := 2) (n := 2) dX0_lengthsOfAll_19 rfl rfl rfl ?_
      refine J_iadd (pc' := 21) dX0_lengthsOfAll_20 rfl ?_
      obtain ⟨v2, e3, h⟩ := a_i_inv h
      refine J_ialde (pc' := 22) dX0_lengthsOfAll_21 rfl (b_s5 hs) (b_n hs (Nat.le_of_ble_eq_true rfl)) e3 ?_
      refine J_iadd (pc' := 23) dX0_lengthsOfAll_22 rfl ?_
      refine J_istore_n (pc' := 24) (i := 1) (lv' := [(1, .int (x1 + v2)), (0, .ref b), (2, .int x2)]) dX0_lengthsOfAll_23 rfl rfl (by decide) rfl ?_
      refine J_iinc (pc' := 27) (i := 2) (n := 2) (v := (x2 + (1 : Int32))) (lv' := [(2, .int (x2 + (1 : Int32))), (1, .int (x1 + v2)), (0, .ref b)]) dX0_lengthsOfAll_24 rfl rfl (j_inc _ _ rfl _) (by decide) rfl ?_
      refine J_goto (pc' := 4) dX0_lengthsOfAll_27 (by decide) ?_
      refine J_sub [2, 1, 0] (lv' := [(0, .ref b), (1, .int (x1 + v2)), (2, .int (x2 + (1 : Int32)))]) rfl ?_
      exact ih hs h hK
set_option maxHeartbeats 4000000 in
theorem c_X0_lengthsOfAll {l : Launch} {G : j_G} {M : j_M} {b : Nat} (hs : sh_b b M.2.2) {r : Int32} (h : f_X0_lengthsOfAll M b = some r) : j_Sp l G md_X0_lengthsOfAll 1 (0, 0) [.ref b] M (po (some (.int r)) M) := by
  refine j_Sp.of (by decide) (Nat.le_of_ble_eq_true rfl) ?_
  show JT_X0_lengthsOfAll l G M r 0 [(0, .ref b)] [] M
  unfold f_X0_lengthsOfAll at h
  refine J_iconst (pc' := 1) (v := (0 : Int32)) dX0_lengthsOfAll_0 rfl ic_0 ?_
  refine J_istore_n (pc' := 2) (i := 1) (lv' := [(1, .int (0 : Int32)), (0, .ref b)]) dX0_lengthsOfAll_1 rfl rfl (by decide) rfl ?_
  refine J_iconst (pc' := 3) (v := (0 : Int32)) dX0_lengthsOfAll_2 rfl ic_0 ?_
  refine J_istore_n (pc' := 4) (i := 2) (lv' := [(2, .int (0 : Int32)), (1, .int (0 : Int32)), (0, .ref b)]) dX0_lengthsOfAll_3 rfl rfl (by decide) rfl ?_
  refine J_sub [2, 1, 0] (lv' := [(0, .ref b), (1, .int (0 : Int32)), (2, .int (0 : Int32))]) rfl ?_
  refine L_X0_lengthsOfAll_L4 j_fu hs h (fun y4 y5 h => ?_)
  refine J_iload_n (pc' := 31) (i := 1) (n := 0) dX0_lengthsOfAll_30 rfl rfl rfl ?_
  exact J_iret rfl dX0_lengthsOfAll_31 ⟨rfl, Nat.le_refl _⟩ (j_pIs h)
abbrev JT_X0_believedBy (l : Launch) (G : j_G) (M : j_M) (r : Int32) : Nat → List (Nat × Value) → List Value → j_M → Prop := JJ l G md_X0_believedBy (j_rm 5 (0, 0)) (0, 0) (0, 0) (po (some (.int r)) M)
noncomputable def f_X0_believedBy (M : j_M) (b : Nat) (x1 : Int32) : Option Int32 :=
  a_i M (b + 3) 7 x1 fun v1 => (kd v1 fun k3 => (a_i M (b + 4) 7 x1 fun v5 => (tl (kb k3 v5) fun v7 => (some v7))))
set_option maxHeartbeats 4000000 in
theorem c_X0_believedBy {l : Launch} {G : j_G} {M : j_M} {b : Nat} {x1 : Int32} (hs : sh_b b M.2.2) {r : Int32} (h : f_X0_believedBy M b x1 = some r) : j_Sp l G md_X0_believedBy 5 (0, 0) [.ref b, .int x1] M (po (some (.int r)) M) := by
  refine j_Sp.of (by decide) (Nat.le_of_ble_eq_true rfl) ?_
  show JT_X0_believedBy l G M r 0 [(0, .ref b), (1, .int x1)] [] M
  unfold f_X0_believedBy at h
  refine J_aload_n (pc' := 1) (i := 0) (n := 0) dX0_believedBy_0 rfl rfl rfl ?_
  refine J_getR (pc' := 4) (b := 10) dX0_believedBy_1 rfl fl_X0_36 rfl (b_o hs) (b_no hs) (b_r0 hs) ?_
  refine J_aload_n (pc' := 5) (i := 0) (n := 0) dX0_believedBy_4 rfl rfl rfl ?_
  refine J_getR (pc' := 8) (b := (b + 3)) dX0_believedBy_5 rfl fl_X0_18 rfl (b_o hs) (b_no hs) (b_r3 hs) ?_
  refine J_iload_n (pc' := 9) (i := 1) (n := 1) dX0_believedBy_8 rfl rfl rfl ?_
  obtain ⟨v1, e2, h⟩ := a_i_inv h
  refine J_ialde (pc' := 10) dX0_believedBy_9 rfl (b_s3 hs) (b_n hs (Nat.le_of_ble_eq_true rfl)) e2 ?_
  obtain ⟨k3, e4, h⟩ := kd_inv h
  refine J_kd (pc' := 11) dX0_believedBy_10 rfl (b_ks hs) (b_kn hs (Nat.le_of_ble_eq_true rfl)) hs e4 ?_
  refine J_aload_n (pc' := 12) (i := 0) (n := 0) dX0_believedBy_11 rfl rfl rfl ?_
  refine J_getR (pc' := 15) (b := (b + 4)) dX0_believedBy_12 rfl fl_X0_21 rfl (b_o hs) (b_no hs) (b_r4 hs) ?_
  refine J_iload_n (pc' := 16) (i := 1) (n := 1) dX0_believedBy_15 rfl rfl rfl ?_
  obtain ⟨v5, e6, h⟩ := a_i_inv h
  refine J_ialde (pc' := 17) dX0_believedBy_16 rfl (b_s4 hs) (b_n hs (Nat.le_of_ble_eq_true rfl)) e6 ?_
  obtain ⟨v7, e8, h⟩ := tl_inv h
  refine J_kb (pc' := 20) (rest := []) dX0_believedBy_17 rfl rfl e4.1 hs e8 ⟨Nat.le_of_ble_eq_true rfl, Nat.le_of_ble_eq_true rfl⟩ (Nat.le_of_ble_eq_true rfl) ⟨Nat.le_of_ble_eq_true rfl, Nat.le_of_ble_eq_true rfl⟩ ?_
  exact J_iret rfl dX0_believedBy_20 ⟨rfl, Nat.le_refl _⟩ (j_pIs h)
abbrev JT_X0_members (l : Launch) (G : j_G) (M : j_M) (r : Int32) : Nat → List (Nat × Value) → List Value → j_M → Prop := JJ l G md_X0_members (j_rm 1 (0, 0)) (0, 0) (0, 0) (po (some (.int r)) M)
noncomputable def f_X0_members_L5 : Nat → Nat → Nat → j_M → Int32 → Int32 → Int32 → (Int32 → Int32 → Option Int32) → Option Int32
  | 0, _, _, _, _, _, _, _ => none
  | n + 1, b, a1, M, x2, x3, x4, K =>
    if (j_I M b 9) ≤ x4 then (K x3 x4) else (a_i M a1 22 ((1 : Int32) + x4) fun v2 => (if v2 = x2 then (f_X0_members_L5 n b a1 M x2 (x3 ||| ((1 : Int32) <<< (x4 &&& 31))) (x4 + (1 : Int32)) K) else (f_X0_members_L5 n b a1 M x2 x3 (x4 + (1 : Int32)) K)))
noncomputable def f_X0_members (M : j_M) (b : Nat) (a1 : Nat) (x2 : Int32) : Option Int32 :=
  f_X0_members_L5 j_fu b a1 M x2 (0 : Int32) (0 : Int32) (fun (y5 : Int32) (y6 : Int32) => (some y5))
set_option maxHeartbeats 4000000 in
theorem L_X0_members_L5 {l : Launch} {G : j_G} {b : Nat} {a1 : Nat} {r : Int32} : ∀ (n : Nat) {x2 : Int32} {x3 : Int32} {x4 : Int32} {M : j_M} (hs : sh_b b M.2.2) (ha1 : sh_a a1 22 M.2.2) {K : Int32 → Int32 → Option Int32}, f_X0_members_L5 n b a1 M x2 x3 x4 K = some r → (∀ (y3 : Int32) (y4 : Int32), K y3 y4 = some r → JT_X0_members l G M r 37 [(3, .int y3)] [] M) → JT_X0_members l G M r 5 [(0, .ref b), (1, .ref a1), (2, .int x2), (3, .int x3), (4, .int x4)] [] M := by
  intro n
  induction n with
  | zero =>
    intro x2 x3 x4 M hs ha1 K h hK
    rw [f_X0_members_L5] at h; cases h
  | succ n ih =>
    intro x2 x3 x4 M hs ha1 K h hK
    rw [f_X0_members_L5] at h
    refine J_iload (pc' := 7) (i := 4) (n := 4) dX0_members_5 rfl rfl ?_
    refine J_aload_n (pc' := 8) (i := 0) (n := 0) dX0_members_7 rfl rfl rfl ?_
    refine J_getI (pc' := 11) dX0_members_8 rfl fl_X0_58 rfl (b_o hs) (b_no hs) ?_
    refine J_icmp_ge (pc' := 14) (tgt := 37) dX0_members_11 rfl (by decide) (fun c1 => ?_) (fun c1 => ?_)
    · replace h := j_ip c1 h
      refine J_sub [3] (lv' := [(3, .int x3)]) rfl ?_
      exact hK x3 x4  h
    · replace h := j_iq c1 h
      refine J_aload_n (pc' := 15) (i := 1) (n := 1) dX0_members_14 rfl rfl rfl ?_
      refine J_iconst (pc' := 16) (v := (1 : Int32)) dX0_members_15 rfl ic_1 ?_
      refine J_iload (pc' := 18) (i := 4) (n := 4) dX0_members_16 rfl rfl ?_
      refine J_iadd (pc' := 19) dX0_members_18 rfl ?_
      obtain ⟨v2, e3, h⟩ := a_i_inv h
      refine J_ialde (pc' := 20) dX0_members_19 rfl (a_s ha1) (a_n ha1) e3 ?_
      refine J_iload_n (pc' := 21) (i := 2) (n := 2) dX0_members_20 rfl rfl rfl ?_
      refine J_icmp_ne (pc' := 24) (tgt := 31) dX0_members_21 rfl (by decide) (fun c4 => ?_) (fun c4 => ?_)
      · replace h := j_iq c4 h
        refine J_iinc (pc' := 34) (i := 4) (n := 4) (v := (x4 + (1 : Int32))) (lv' := [(4, .int (x4 + (1 : Int32))), (0, .ref b), (1, .ref a1), (2, .int x2), (3, .int x3)]) dX0_members_31 rfl rfl (j_inc _ _ rfl _) (by decide) rfl ?_
        refine J_goto (pc' := 5) dX0_members_34 (by decide) ?_
        refine J_sub [1, 2, 3, 4, 0] (lv' := [(0, .ref b), (1, .ref a1), (2, .int x2), (3, .int x3), (4, .int (x4 + (1 : Int32)))]) rfl ?_
        exact ih hs ha1 h hK
      · replace h := j_ip c4 h
        refine J_iload_n (pc' := 25) (i := 3) (n := 3) dX0_members_24 rfl rfl rfl ?_
        refine J_iconst (pc' := 26) (v := (1 : Int32)) dX0_members_25 rfl ic_1 ?_
        refine J_iload (pc' := 28) (i := 4) (n := 4) dX0_members_26 rfl rfl ?_
        refine J_ishl (pc' := 29) dX0_members_28 rfl ?_
        refine J_ior (pc' := 30) dX0_members_29 rfl ?_
        refine J_istore_n (pc' := 31) (i := 3) (lv' := [(3, .int (x3 ||| ((1 : Int32) <<< (x4 &&& 31)))), (0, .ref b), (1, .ref a1), (2, .int x2), (4, .int x4)]) dX0_members_30 rfl rfl (by decide) rfl ?_
        refine J_iinc (pc' := 34) (i := 4) (n := 4) (v := (x4 + (1 : Int32))) (lv' := [(4, .int (x4 + (1 : Int32))), (3, .int (x3 ||| ((1 : Int32) <<< (x4 &&& 31)))), (0, .ref b), (1, .ref a1), (2, .int x2)]) dX0_members_31 rfl rfl (j_inc _ _ rfl _) (by decide) rfl ?_
        refine J_goto (pc' := 5) dX0_members_34 (by decide) ?_
        refine J_sub [2, 3, 4, 1, 0] (lv' := [(0, .ref b), (1, .ref a1), (2, .int x2), (3, .int (x3 ||| ((1 : Int32) <<< (x4 &&& 31)))), (4, .int (x4 + (1 : Int32)))]) rfl ?_
        exact ih hs ha1 h hK
set_option maxHeartbeats 4000000 in
theorem c_X0_members {l : Launch} {G : j_G} {M : j_M} {b : Nat} {a1 : Nat} {x2 : Int32} (hs : sh_b b M.2.2) (ha1 : sh_a a1 22 M.2.2) {r : Int32} (h : f_X0_members M b a1 x2 = some r) : j_Sp l G md_X0_members 1 (0, 0) [.ref b, .ref a1, .int x2] M (po (some (.int r)) M) := by
  refine j_Sp.of (by decide) (Nat.le_of_ble_eq_true rfl) ?_
  show JT_X0_members l G M r 0 [(0, .ref b), (1, .ref a1), (2, .int x2)] [] M
  unfold f_X0_members at h
  refine J_iconst (pc' := 1) (v := (0 : Int32)) dX0_members_0 rfl ic_0 ?_
  refine J_istore_n (pc' := 2) (i := 3) (lv' := [(3, .int (0 : Int32)), (0, .ref b), (1, .ref a1), (2, .int x2)]) dX0_members_1 rfl rfl (by decide) rfl ?_
  refine J_iconst (pc' := 3) (v := (0 : Int32)) dX0_members_2 rfl ic_0 ?_
  refine J_istore (pc' := 5) (i := 4) (lv' := [(4, .int (0 : Int32)), (3, .int (0 : Int32)), (0, .ref b), (1, .ref a1), (2, .int x2)]) dX0_members_3 rfl (by decide) rfl ?_
  refine J_sub [2, 3, 4, 1, 0] (lv' := [(0, .ref b), (1, .ref a1), (2, .int x2), (3, .int (0 : Int32)), (4, .int (0 : Int32))]) rfl ?_
  refine L_X0_members_L5 j_fu hs ha1 h (fun y5 y6 h => ?_)
  refine J_iload_n (pc' := 38) (i := 3) (n := 0) dX0_members_37 rfl rfl rfl ?_
  exact J_iret rfl dX0_members_38 ⟨rfl, Nat.le_refl _⟩ (j_pIs h)
abbrev JT_X0_others (l : Launch) (G : j_G) (M : j_M) (r : Int32) : Nat → List (Nat × Value) → List Value → j_M → Prop := JJ l G md_X0_others (j_rm 2 (0, 0)) (0, 0) (0, 0) (po (some (.int r)) M)
noncomputable def f_X0_others (M : j_M) (b : Nat) (a1 : Nat) (x2 : Int32) (x3 : Int32) : Option Int32 :=
  (f_X0_members M b a1 x3).bind fun v1 => (some (v1 &&& (((1 : Int32) <<< (x2 &&& 31)) ^^^ ((-1) : Int32))))
set_option maxHeartbeats 4000000 in
theorem c_X0_others {l : Launch} {G : j_G} {M : j_M} {b : Nat} {a1 : Nat} {x2 : Int32} {x3 : Int32} (hs : sh_b b M.2.2) (ha1 : sh_a a1 22 M.2.2) {r : Int32} (h : f_X0_others M b a1 x2 x3 = some r) : j_Sp l G md_X0_others 2 (0, 0) [.ref b, .ref a1, .int x2, .int x3] M (po (some (.int r)) M) := by
  refine j_Sp.of (by decide) (Nat.le_of_ble_eq_true rfl) ?_
  show JT_X0_others l G M r 0 [(0, .ref b), (1, .ref a1), (2, .int x2), (3, .int x3)] [] M
  unfold f_X0_others at h
  refine J_aload_n (pc' := 1) (i := 0) (n := 0) dX0_others_0 rfl rfl rfl ?_
  refine J_aload_n (pc' := 2) (i := 1) (n := 1) dX0_others_1 rfl rfl rfl ?_
  refine J_iload_n (pc' := 3) (i := 3) (n := 3) dX0_others_2 rfl rfl rfl ?_
  obtain ⟨v1, e2, h⟩ := bi_inv h
  refine J_callV (pc' := 6) (as := [.ref a1, .int x3]) (rest := []) dX0_others_3 rfl lk_X0_78 rfl 0 (by decide) rfl (b_o hs) (b_no hs) (c_X0_members hs ⟨(a_s ha1), (a_n ha1)⟩ e2) ⟨Nat.le_of_ble_eq_true rfl, Nat.le_of_ble_eq_true rfl⟩ (Nat.le_of_ble_eq_true rfl) ⟨Nat.le_of_ble_eq_true rfl, Nat.le_of_ble_eq_true rfl⟩ (j_kq ?_)
  refine J_iconst (pc' := 7) (v := (1 : Int32)) dX0_others_6 rfl ic_1 ?_
  refine J_iload_n (pc' := 8) (i := 2) (n := 2) dX0_others_7 rfl rfl rfl ?_
  refine J_ishl (pc' := 9) dX0_others_8 rfl ?_
  refine J_iconst (pc' := 10) (v := ((-1) : Int32)) dX0_others_9 rfl ic_m1 ?_
  refine J_ixor (pc' := 11) dX0_others_10 rfl ?_
  refine J_iand (pc' := 12) dX0_others_11 rfl ?_
  exact J_iret rfl dX0_others_12 ⟨rfl, Nat.le_refl _⟩ (j_pIs h)
abbrev JT_X9_has (l : Launch) (G : j_G) (M : j_M) (r : Int32) : Nat → List (Nat × Value) → List Value → j_M → Prop := JJ l G md_X9_has (j_rm 1 (0, 0)) (0, 0) (0, 0) (po (some (.int r)) M)
def f_X9_has (x0 : Int32) (x1 : Int32) : Int32 :=
  if ((x0 >>> (x1 &&& 31)) &&& (1 : Int32)) = 0 then ((0 : Int32)) else ((1 : Int32))
theorem z_X9_has (x0 : Int32) (x1 : Int32) : f_X9_has x0 x1 = 0 ∨ f_X9_has x0 x1 = 1 := by
  unfold f_X9_has
  try simp only [tl, jn]
  repeat' split
  all_goals first | exact Or.inl rfl | exact Or.inr rfl
set_option maxHeartbeats 4000000 in
theorem c_X9_has {l : Launch} {G : j_G} {M : j_M} {x0 : Int32} {x1 : Int32}  {r : Int32} (h : f_X9_has x0 x1 = r) : j_Sp l G md_X9_has 1 (0, 0) [.int x0, .int x1] M (po (some (.int r)) M) := by
  refine j_Sp.of (by decide) (Nat.le_of_ble_eq_true rfl) ?_
  show JT_X9_has l G M r 0 [(0, .int x0), (1, .int x1)] [] M
  unfold f_X9_has at h
  refine J_iload_n (pc' := 1) (i := 0) (n := 0) dX9_has_0 rfl rfl rfl ?_
  refine J_iload_n (pc' := 2) (i := 1) (n := 1) dX9_has_1 rfl rfl rfl ?_
  refine J_ishr (pc' := 3) dX9_has_2 rfl ?_
  refine J_iconst (pc' := 4) (v := (1 : Int32)) dX9_has_3 rfl ic_1 ?_
  refine J_iand (pc' := 5) dX9_has_4 rfl ?_
  refine J_if_eq (pc' := 8) (tgt := 12) dX9_has_5 rfl (by decide) (fun c1 => ?_) (fun c1 => ?_)
  · replace h := j_ip c1 h
    refine J_iconst (pc' := 13) (v := (0 : Int32)) dX9_has_12 rfl ic_0 ?_
    exact J_zret (ty := .boolean) rfl rfl dX9_has_13 ⟨rfl, Nat.le_refl _⟩ (j_pI h)
  · replace h := j_iq c1 h
    refine J_iconst (pc' := 9) (v := (1 : Int32)) dX9_has_8 rfl ic_1 ?_
    refine J_goto (pc' := 13) dX9_has_9 (by decide) ?_
    exact J_zret (ty := .boolean) rfl rfl dX9_has_13 ⟨rfl, Nat.le_refl _⟩ (j_pI h)
abbrev JT_X0_greatestPace (l : Launch) (G : j_G) (M : j_M) (r : Int32) : Nat → List (Nat × Value) → List Value → j_M → Prop := JJ l G md_X0_greatestPace (j_rm 2 (0, 0)) (0, 0) (0, 0) (po (some (.int r)) M)
noncomputable def f_X0_greatestPace_L4 : Nat → Nat → j_M → Int32 → Int32 → Int32 → (Int32 → Int32 → Option Int32) → Option Int32
  | 0, _, _, _, _, _, _ => none
  | n + 1, b, M, x1, x2, x3, K =>
    if (j_I M b 9) ≤ x3 then (K x2 x3) else (tl (f_X9_has x1 x3) fun v2 => (if v2 = 0 then (f_X0_greatestPace_L4 n b M x1 x2 (x3 + (1 : Int32)) K) else (a_i M (b + 4) 7 x3 fun v5 => (tl (if x2 < v5 then v5 else x2) fun v7 => (f_X0_greatestPace_L4 n b M x1 v7 (x3 + (1 : Int32)) K)))))
noncomputable def f_X0_greatestPace (M : j_M) (b : Nat) (x1 : Int32) : Option Int32 :=
  f_X0_greatestPace_L4 j_fu b M x1 (0 : Int32) (0 : Int32) (fun (y9 : Int32) (y10 : Int32) => (some y9))
set_option maxHeartbeats 4000000 in
theorem L_X0_greatestPace_L4 {l : Launch} {G : j_G} {b : Nat} {r : Int32} : ∀ (n : Nat) {x1 : Int32} {x2 : Int32} {x3 : Int32} {M : j_M} (hs : sh_b b M.2.2) {K : Int32 → Int32 → Option Int32}, f_X0_greatestPace_L4 n b M x1 x2 x3 K = some r → (∀ (y2 : Int32) (y3 : Int32), K y2 y3 = some r → JT_X0_greatestPace l G M r 37 [(2, .int y2)] [] M) → JT_X0_greatestPace l G M r 4 [(0, .ref b), (1, .int x1), (2, .int x2), (3, .int x3)] [] M := by
  intro n
  induction n with
  | zero =>
    intro x1 x2 x3 M hs K h hK
    rw [f_X0_greatestPace_L4] at h; cases h
  | succ n ih =>
    intro x1 x2 x3 M hs K h hK
    rw [f_X0_greatestPace_L4] at h
    refine J_iload_n (pc' := 5) (i := 3) (n := 3) dX0_greatestPace_4 rfl rfl rfl ?_
    refine J_aload_n (pc' := 6) (i := 0) (n := 0) dX0_greatestPace_5 rfl rfl rfl ?_
    refine J_getI (pc' := 9) dX0_greatestPace_6 rfl fl_X0_58 rfl (b_o hs) (b_no hs) ?_
    refine J_icmp_ge (pc' := 12) (tgt := 37) dX0_greatestPace_9 rfl (by decide) (fun c1 => ?_) (fun c1 => ?_)
    · replace h := j_ip c1 h
      refine J_sub [2] (lv' := [(2, .int x2)]) rfl ?_
      exact hK x2 x3  h
    · replace h := j_iq c1 h
      refine J_iload_n (pc' := 13) (i := 1) (n := 1) dX0_greatestPace_12 rfl rfl rfl ?_
      refine J_iload_n (pc' := 14) (i := 3) (n := 3) dX0_greatestPace_13 rfl rfl rfl ?_
      obtain ⟨v2, e3, h⟩ := tl_inv h
      refine J_callSN (pc' := 17) (as := [.int x1, .int x3]) (rest := []) dX0_greatestPace_14 rfl lk_X0_106 rfl (c_X9_has e3) ⟨Nat.le_of_ble_eq_true rfl, Nat.le_of_ble_eq_true rfl⟩ (Nat.le_of_ble_eq_true rfl) ⟨Nat.le_of_ble_eq_true rfl, Nat.le_of_ble_eq_true rfl⟩ (j_kq ?_)
      refine J_if_eq (pc' := 20) (tgt := 31) dX0_greatestPace_17 rfl (by decide) (fun c4 => ?_) (fun c4 => ?_)
      · replace h := j_ip c4 h
        refine J_iinc (pc' := 34) (i := 3) (n := 3) (v := (x3 + (1 : Int32))) (lv' := [(3, .int (x3 + (1 : Int32))), (0, .ref b), (1, .int x1), (2, .int x2)]) dX0_greatestPace_31 rfl rfl (j_inc _ _ rfl _) (by decide) rfl ?_
        refine J_goto (pc' := 4) dX0_greatestPace_34 (by decide) ?_
        refine J_sub [1, 2, 3, 0] (lv' := [(0, .ref b), (1, .int x1), (2, .int x2), (3, .int (x3 + (1 : Int32)))]) rfl ?_
        exact ih hs h hK
      · replace h := j_iq c4 h
        refine J_iload_n (pc' := 21) (i := 2) (n := 2) dX0_greatestPace_20 rfl rfl rfl ?_
        refine J_aload_n (pc' := 22) (i := 0) (n := 0) dX0_greatestPace_21 rfl rfl rfl ?_
        refine J_getR (pc' := 25) (b := (b + 4)) dX0_greatestPace_22 rfl fl_X0_21 rfl (b_o hs) (b_no hs) (b_r4 hs) ?_
        refine J_iload_n (pc' := 26) (i := 3) (n := 3) dX0_greatestPace_25 rfl rfl rfl ?_
        obtain ⟨v5, e6, h⟩ := a_i_inv h
        refine J_ialde (pc' := 27) dX0_greatestPace_26 rfl (b_s4 hs) (b_n hs (Nat.le_of_ble_eq_true rfl)) e6 ?_
        obtain ⟨v7, e8, h⟩ := tl_inv h
        refine J_maxe (pc' := 30) dX0_greatestPace_27 rfl lk_X0_110 ⟨Nat.le_of_ble_eq_true rfl, Nat.le_of_ble_eq_true rfl, Nat.le_of_ble_eq_true rfl, Nat.le_of_ble_eq_true rfl⟩ e8 ?_
        refine J_istore_n (pc' := 31) (i := 2) (lv' := [(2, .int v7), (0, .ref b), (1, .int x1), (3, .int x3)]) dX0_greatestPace_30 rfl rfl (by decide) rfl ?_
        refine J_iinc (pc' := 34) (i := 3) (n := 3) (v := (x3 + (1 : Int32))) (lv' := [(3, .int (x3 + (1 : Int32))), (2, .int v7), (0, .ref b), (1, .int x1)]) dX0_greatestPace_31 rfl rfl (j_inc _ _ rfl _) (by decide) rfl ?_
        refine J_goto (pc' := 4) dX0_greatestPace_34 (by decide) ?_
        refine J_sub [2, 3, 1, 0] (lv' := [(0, .ref b), (1, .int x1), (2, .int v7), (3, .int (x3 + (1 : Int32)))]) rfl ?_
        exact ih hs h hK
set_option maxHeartbeats 4000000 in
theorem c_X0_greatestPace {l : Launch} {G : j_G} {M : j_M} {b : Nat} {x1 : Int32} (hs : sh_b b M.2.2) {r : Int32} (h : f_X0_greatestPace M b x1 = some r) : j_Sp l G md_X0_greatestPace 2 (0, 0) [.ref b, .int x1] M (po (some (.int r)) M) := by
  refine j_Sp.of (by decide) (Nat.le_of_ble_eq_true rfl) ?_
  show JT_X0_greatestPace l G M r 0 [(0, .ref b), (1, .int x1)] [] M
  unfold f_X0_greatestPace at h
  refine J_iconst (pc' := 1) (v := (0 : Int32)) dX0_greatestPace_0 rfl ic_0 ?_
  refine J_istore_n (pc' := 2) (i := 2) (lv' := [(2, .int (0 : Int32)), (0, .ref b), (1, .int x1)]) dX0_greatestPace_1 rfl rfl (by decide) rfl ?_
  refine J_iconst (pc' := 3) (v := (0 : Int32)) dX0_greatestPace_2 rfl ic_0 ?_
  refine J_istore_n (pc' := 4) (i := 3) (lv' := [(3, .int (0 : Int32)), (2, .int (0 : Int32)), (0, .ref b), (1, .int x1)]) dX0_greatestPace_3 rfl rfl (by decide) rfl ?_
  refine J_sub [2, 3, 1, 0] (lv' := [(0, .ref b), (1, .int x1), (2, .int (0 : Int32)), (3, .int (0 : Int32))]) rfl ?_
  refine L_X0_greatestPace_L4 j_fu hs h (fun y9 y10 h => ?_)
  refine J_iload_n (pc' := 38) (i := 2) (n := 0) dX0_greatestPace_37 rfl rfl rfl ?_
  exact J_iret rfl dX0_greatestPace_38 ⟨rfl, Nat.le_refl _⟩ (j_pIs h)
abbrev JT_X0_slowerThan (l : Launch) (G : j_G) (M : j_M) (r : Int32) : Nat → List (Nat × Value) → List Value → j_M → Prop := JJ l G md_X0_slowerThan (j_rm 2 (0, 0)) (0, 0) (0, 0) (po (some (.int r)) M)
noncomputable def f_X0_slowerThan_L5 : Nat → Nat → j_M → Int32 → Int32 → Int32 → Int32 → (Int32 → Int32 → Option Int32) → Option Int32
  | 0, _, _, _, _, _, _, _ => none
  | n + 1, b, M, x1, x2, x3, x4, K =>
    if (j_I M b 9) ≤ x4 then (K x3 x4) else (tl (f_X9_has x2 x4) fun v2 => (if v2 = 0 then (f_X0_slowerThan_L5 n b M x1 x2 x3 (x4 + (1 : Int32)) K) else (a_i M (b + 4) 7 x4 fun v5 => (a_i M (b + 4) 7 x1 fun v7 => (if v5 ≤ v7 then (f_X0_slowerThan_L5 n b M x1 x2 x3 (x4 + (1 : Int32)) K) else (f_X0_slowerThan_L5 n b M x1 x2 (x3 + (1 : Int32)) (x4 + (1 : Int32)) K))))))
noncomputable def f_X0_slowerThan (M : j_M) (b : Nat) (x1 : Int32) (x2 : Int32) : Option Int32 :=
  f_X0_slowerThan_L5 j_fu b M x1 x2 (0 : Int32) (0 : Int32) (fun (y10 : Int32) (y11 : Int32) => (some y10))
set_option maxHeartbeats 4000000 in
theorem L_X0_slowerThan_L5 {l : Launch} {G : j_G} {b : Nat} {r : Int32} : ∀ (n : Nat) {x1 : Int32} {x2 : Int32} {x3 : Int32} {x4 : Int32} {M : j_M} (hs : sh_b b M.2.2) {K : Int32 → Int32 → Option Int32}, f_X0_slowerThan_L5 n b M x1 x2 x3 x4 K = some r → (∀ (y3 : Int32) (y4 : Int32), K y3 y4 = some r → JT_X0_slowerThan l G M r 48 [(3, .int y3)] [] M) → JT_X0_slowerThan l G M r 5 [(0, .ref b), (1, .int x1), (2, .int x2), (3, .int x3), (4, .int x4)] [] M := by
  intro n
  induction n with
  | zero =>
    intro x1 x2 x3 x4 M hs K h hK
    rw [f_X0_slowerThan_L5] at h; cases h
  | succ n ih =>
    intro x1 x2 x3 x4 M hs K h hK
    rw [f_X0_slowerThan_L5] at h
    refine J_iload (pc' := 7) (i := 4) (n := 4) dX0_slowerThan_5 rfl rfl ?_
    refine J_aload_n (pc' := 8) (i := 0) (n := 0) dX0_slowerThan_7 rfl rfl rfl ?_
    refine J_getI (pc' := 11) dX0_slowerThan_8 rfl fl_X0_58 rfl (b_o hs) (b_no hs) ?_
    refine J_icmp_ge (pc' := 14) (tgt := 48) dX0_slowerThan_11 rfl (by decide) (fun c1 => ?_) (fun c1 => ?_)
    · replace h := j_ip c1 h
      refine J_sub [3] (lv' := [(3, .int x3)]) rfl ?_
      exact hK x3 x4  h
    · replace h := j_iq c1 h
      refine J_iload_n (pc' := 15) (i := 2) (n := 2) dX0_slowerThan_14 rfl rfl rfl ?_
      refine J_iload (pc' := 17) (i := 4) (n := 4) dX0_slowerThan_15 rfl rfl ?_
      obtain ⟨v2, e3, h⟩ := tl_inv h
      refine J_callSN (pc' := 20) (as := [.int x2, .int x4]) (rest := []) dX0_slowerThan_17 rfl lk_X0_106 rfl (c_X9_has e3) ⟨Nat.le_of_ble_eq_true rfl, Nat.le_of_ble_eq_true rfl⟩ (Nat.le_of_ble_eq_true rfl) ⟨Nat.le_of_ble_eq_true rfl, Nat.le_of_ble_eq_true rfl⟩ (j_kq ?_)
      refine J_if_eq (pc' := 23) (tgt := 42) dX0_slowerThan_20 rfl (by decide) (fun c4 => ?_) (fun c4 => ?_)
      · replace h := j_ip c4 h
        refine J_iinc (pc' := 45) (i := 4) (n := 4) (v := (x4 + (1 : Int32))) (lv' := [(4, .int (x4 + (1 : Int32))), (0, .ref b), (1, .int x1), (2, .int x2), (3, .int x3)]) dX0_slowerThan_42 rfl rfl (j_inc _ _ rfl _) (by decide) rfl ?_
        refine J_goto (pc' := 5) dX0_slowerThan_45 (by decide) ?_
        refine J_sub [1, 2, 3, 4, 0] (lv' := [(0, .ref b), (1, .int x1), (2, .int x2), (3, .int x3), (4, .int (x4 + (1 : Int32)))]) rfl ?_
        exact ih hs h hK
      · replace h := j_iq c4 h
        refine J_aload_n (pc' := 24) (i := 0) (n := 0) dX0_slowerThan_23 rfl rfl rfl ?_
        refine J_getR (pc' := 27) (b := (b + 4)) dX0_slowerThan_24 rfl fl_X0_21 rfl (b_o hs) (b_no hs) (b_r4 hs) ?_
        refine J_iload (pc' := 29) (i := 4) (n := 4) dX0_slowerThan_27 rfl rfl ?_
        obtain ⟨v5, e6, h⟩ := a_i_inv h
        refine J_ialde (pc' := 30) dX0_slowerThan_29 rfl (b_s4 hs) (b_n hs (Nat.le_of_ble_eq_true rfl)) e6 ?_
        refine J_aload_n (pc' := 31) (i := 0) (n := 0) dX0_slowerThan_30 rfl rfl rfl ?_
        refine J_getR (pc' := 34) (b := (b + 4)) dX0_slowerThan_31 rfl fl_X0_21 rfl (b_o hs) (b_no hs) (b_r4 hs) ?_
        refine J_iload_n (pc' := 35) (i := 1) (n := 1) dX0_slowerThan_34 rfl rfl rfl ?_
        obtain ⟨v7, e8, h⟩ := a_i_inv h
        refine J_ialde (pc' := 36) dX0_slowerThan_35 rfl (b_s4 hs) (b_n hs (Nat.le_of_ble_eq_true rfl)) e8 ?_
        refine J_icmp_le (pc' := 39) (tgt := 42) dX0_slowerThan_36 rfl (by decide) (fun c9 => ?_) (fun c9 => ?_)
        · replace h := j_ip c9 h
          refine J_iinc (pc' := 45) (i := 4) (n := 4) (v := (x4 + (1 : Int32))) (lv' := [(4, .int (x4 + (1 : Int32))), (0, .ref b), (1, .int x1), (2, .int x2), (3, .int x3)]) dX0_slowerThan_42 rfl rfl (j_inc _ _ rfl _) (by decide) rfl ?_
          refine J_goto (pc' := 5) dX0_slowerThan_45 (by decide) ?_
          refine J_sub [1, 2, 3, 4, 0] (lv' := [(0, .ref b), (1, .int x1), (2, .int x2), (3, .int x3), (4, .int (x4 + (1 : Int32)))]) rfl ?_
          exact ih hs h hK
        · replace h := j_iq c9 h
          refine J_iinc (pc' := 42) (i := 3) (n := 3) (v := (x3 + (1 : Int32))) (lv' := [(3, .int (x3 + (1 : Int32))), (0, .ref b), (1, .int x1), (2, .int x2), (4, .int x4)]) dX0_slowerThan_39 rfl rfl (j_inc _ _ rfl _) (by decide) rfl ?_
          refine J_iinc (pc' := 45) (i := 4) (n := 4) (v := (x4 + (1 : Int32))) (lv' := [(4, .int (x4 + (1 : Int32))), (3, .int (x3 + (1 : Int32))), (0, .ref b), (1, .int x1), (2, .int x2)]) dX0_slowerThan_42 rfl rfl (j_inc _ _ rfl _) (by decide) rfl ?_
          refine J_goto (pc' := 5) dX0_slowerThan_45 (by decide) ?_
          refine J_sub [2, 3, 4, 1, 0] (lv' := [(0, .ref b), (1, .int x1), (2, .int x2), (3, .int (x3 + (1 : Int32))), (4, .int (x4 + (1 : Int32)))]) rfl ?_
          exact ih hs h hK
set_option maxHeartbeats 4000000 in
theorem c_X0_slowerThan {l : Launch} {G : j_G} {M : j_M} {b : Nat} {x1 : Int32} {x2 : Int32} (hs : sh_b b M.2.2) {r : Int32} (h : f_X0_slowerThan M b x1 x2 = some r) : j_Sp l G md_X0_slowerThan 2 (0, 0) [.ref b, .int x1, .int x2] M (po (some (.int r)) M) := by
  refine j_Sp.of (by decide) (Nat.le_of_ble_eq_true rfl) ?_
  show JT_X0_slowerThan l G M r 0 [(0, .ref b), (1, .int x1), (2, .int x2)] [] M
  unfold f_X0_slowerThan at h
  refine J_iconst (pc' := 1) (v := (0 : Int32)) dX0_slowerThan_0 rfl ic_0 ?_
  refine J_istore_n (pc' := 2) (i := 3) (lv' := [(3, .int (0 : Int32)), (0, .ref b), (1, .int x1), (2, .int x2)]) dX0_slowerThan_1 rfl rfl (by decide) rfl ?_
  refine J_iconst (pc' := 3) (v := (0 : Int32)) dX0_slowerThan_2 rfl ic_0 ?_
  refine J_istore (pc' := 5) (i := 4) (lv' := [(4, .int (0 : Int32)), (3, .int (0 : Int32)), (0, .ref b), (1, .int x1), (2, .int x2)]) dX0_slowerThan_3 rfl (by decide) rfl ?_
  refine J_sub [2, 3, 4, 1, 0] (lv' := [(0, .ref b), (1, .int x1), (2, .int x2), (3, .int (0 : Int32)), (4, .int (0 : Int32))]) rfl ?_
  refine L_X0_slowerThan_L5 j_fu hs h (fun y10 y11 h => ?_)
  refine J_iload_n (pc' := 49) (i := 3) (n := 0) dX0_slowerThan_48 rfl rfl rfl ?_
  exact J_iret rfl dX0_slowerThan_49 ⟨rfl, Nat.le_refl _⟩ (j_pIs h)
abbrev JT_X0_takesAs (l : Launch) (G : j_G) (M : j_M) (r : Int32) : Nat → List (Nat × Value) → List Value → j_M → Prop := JJ l G md_X0_takesAs (j_rm 5 (0, 0)) (0, 0) (0, 0) (po (some (.int r)) M)
noncomputable def f_X0_takesAs (M : j_M) (b : Nat) (x1 : Int32) (x2 : Int32) (x3 : Int32) : Option Int32 :=
  kd x1 fun k1 => (a_i M (b + 4) 7 x2 fun v3 => ((f_X0_greatestPace M b x3).bind fun v5 => ((f_X0_slowerThan M b x2 x3).bind fun v7 => (tl (bc x3) fun v9 => (tl (kt k1 v3 v5 v7 v9) fun v11 => (some v11))))))
set_option maxHeartbeats 4000000 in
theorem c_X0_takesAs {l : Launch} {G : j_G} {M : j_M} {b : Nat} {x1 : Int32} {x2 : Int32} {x3 : Int32} (hs : sh_b b M.2.2) {r : Int32} (h : f_X0_takesAs M b x1 x2 x3 = some r) : j_Sp l G md_X0_takesAs 5 (0, 0) [.ref b, .int x1, .int x2, .int x3] M (po (some (.int r)) M) := by
  refine j_Sp.of (by decide) (Nat.le_of_ble_eq_true rfl) ?_
  show JT_X0_takesAs l G M r 0 [(0, .ref b), (1, .int x1), (2, .int x2), (3, .int x3)] [] M
  unfold f_X0_takesAs at h
  refine J_aload_n (pc' := 1) (i := 0) (n := 0) dX0_takesAs_0 rfl rfl rfl ?_
  refine J_getR (pc' := 4) (b := 10) dX0_takesAs_1 rfl fl_X0_36 rfl (b_o hs) (b_no hs) (b_r0 hs) ?_
  refine J_iload_n (pc' := 5) (i := 1) (n := 1) dX0_takesAs_4 rfl rfl rfl ?_
  obtain ⟨k1, e2, h⟩ := kd_inv h
  refine J_kd (pc' := 6) dX0_takesAs_5 rfl (b_ks hs) (b_kn hs (Nat.le_of_ble_eq_true rfl)) hs e2 ?_
  refine J_aload_n (pc' := 7) (i := 0) (n := 0) dX0_takesAs_6 rfl rfl rfl ?_
  refine J_getR (pc' := 10) (b := (b + 4)) dX0_takesAs_7 rfl fl_X0_21 rfl (b_o hs) (b_no hs) (b_r4 hs) ?_
  refine J_iload_n (pc' := 11) (i := 2) (n := 2) dX0_takesAs_10 rfl rfl rfl ?_
  obtain ⟨v3, e4, h⟩ := a_i_inv h
  refine J_ialde (pc' := 12) dX0_takesAs_11 rfl (b_s4 hs) (b_n hs (Nat.le_of_ble_eq_true rfl)) e4 ?_
  refine J_aload_n (pc' := 13) (i := 0) (n := 0) dX0_takesAs_12 rfl rfl rfl ?_
  refine J_iload_n (pc' := 14) (i := 3) (n := 3) dX0_takesAs_13 rfl rfl rfl ?_
  obtain ⟨v5, e6, h⟩ := bi_inv h
  refine J_callV (pc' := 17) (as := [.int x3]) (rest := [.int v3, .ref (11 + k1)]) dX0_takesAs_14 rfl lk_X0_90 rfl 0 (by decide) rfl (b_o hs) (b_no hs) (c_X0_greatestPace hs e6) ⟨Nat.le_of_ble_eq_true rfl, Nat.le_of_ble_eq_true rfl⟩ (Nat.le_of_ble_eq_true rfl) ⟨Nat.le_of_ble_eq_true rfl, Nat.le_of_ble_eq_true rfl⟩ (j_kq ?_)
  refine J_aload_n (pc' := 18) (i := 0) (n := 0) dX0_takesAs_17 rfl rfl rfl ?_
  refine J_iload_n (pc' := 19) (i := 2) (n := 2) dX0_takesAs_18 rfl rfl rfl ?_
  refine J_iload_n (pc' := 20) (i := 3) (n := 3) dX0_takesAs_19 rfl rfl rfl ?_
  obtain ⟨v7, e8, h⟩ := bi_inv h
  refine J_callV (pc' := 23) (as := [.int x2, .int x3]) (rest := [.int v5, .int v3, .ref (11 + k1)]) dX0_takesAs_20 rfl lk_X0_93 rfl 0 (by decide) rfl (b_o hs) (b_no hs) (c_X0_slowerThan hs e8) ⟨Nat.le_of_ble_eq_true rfl, Nat.le_of_ble_eq_true rfl⟩ (Nat.le_of_ble_eq_true rfl) ⟨Nat.le_of_ble_eq_true rfl, Nat.le_of_ble_eq_true rfl⟩ (j_kq ?_)
  refine J_iload_n (pc' := 24) (i := 3) (n := 3) dX0_takesAs_23 rfl rfl rfl ?_
  obtain ⟨v9, e10, h⟩ := tl_inv h
  refine J_callS (pc' := 27) (as := [.int x3]) (rest := [.int v7, .int v5, .int v3, .ref (11 + k1)]) dX0_takesAs_24 rfl lk_X0_97 rfl (c_bc e10) ⟨Nat.le_of_ble_eq_true rfl, Nat.le_of_ble_eq_true rfl⟩ (Nat.le_of_ble_eq_true rfl) ⟨Nat.le_of_ble_eq_true rfl, Nat.le_of_ble_eq_true rfl⟩ (j_kq ?_)
  obtain ⟨v11, e12, h⟩ := tl_inv h
  refine J_kt (pc' := 30) (rest := []) dX0_takesAs_27 rfl rfl e2.1 hs e12 ⟨Nat.le_of_ble_eq_true rfl, Nat.le_of_ble_eq_true rfl⟩ (Nat.le_of_ble_eq_true rfl) ⟨Nat.le_of_ble_eq_true rfl, Nat.le_of_ble_eq_true rfl⟩ ?_
  exact J_iret rfl dX0_takesAs_30 ⟨rfl, Nat.le_refl _⟩ (j_pIs h)
abbrev JT_X0_takesIn (l : Launch) (G : j_G) (M : j_M) (r : Int32) : Nat → List (Nat × Value) → List Value → j_M → Prop := JJ l G md_X0_takesIn (j_rm 6 (0, 0)) (0, 0) (0, 0) (po (some (.int r)) M)
noncomputable def f_X0_takesIn (M : j_M) (b : Nat) (a1 : Nat) (x2 : Int32) (x3 : Int32) : Option Int32 :=
  a_i M (b + 3) 7 x2 fun v1 => ((f_X0_others M b a1 x2 x3).bind fun v3 => ((f_X0_takesAs M b v1 x2 v3).bind fun v5 => (some v5)))
set_option maxHeartbeats 4000000 in
theorem c_X0_takesIn {l : Launch} {G : j_G} {M : j_M} {b : Nat} {a1 : Nat} {x2 : Int32} {x3 : Int32} (hs : sh_b b M.2.2) (ha1 : sh_a a1 22 M.2.2) {r : Int32} (h : f_X0_takesIn M b a1 x2 x3 = some r) : j_Sp l G md_X0_takesIn 6 (0, 0) [.ref b, .ref a1, .int x2, .int x3] M (po (some (.int r)) M) := by
  refine j_Sp.of (by decide) (Nat.le_of_ble_eq_true rfl) ?_
  show JT_X0_takesIn l G M r 0 [(0, .ref b), (1, .ref a1), (2, .int x2), (3, .int x3)] [] M
  unfold f_X0_takesIn at h
  refine J_aload_n (pc' := 1) (i := 0) (n := 0) dX0_takesIn_0 rfl rfl rfl ?_
  refine J_aload_n (pc' := 2) (i := 0) (n := 0) dX0_takesIn_1 rfl rfl rfl ?_
  refine J_getR (pc' := 5) (b := (b + 3)) dX0_takesIn_2 rfl fl_X0_18 rfl (b_o hs) (b_no hs) (b_r3 hs) ?_
  refine J_iload_n (pc' := 6) (i := 2) (n := 2) dX0_takesIn_5 rfl rfl rfl ?_
  obtain ⟨v1, e2, h⟩ := a_i_inv h
  refine J_ialde (pc' := 7) dX0_takesIn_6 rfl (b_s3 hs) (b_n hs (Nat.le_of_ble_eq_true rfl)) e2 ?_
  refine J_iload_n (pc' := 8) (i := 2) (n := 2) dX0_takesIn_7 rfl rfl rfl ?_
  refine J_aload_n (pc' := 9) (i := 0) (n := 0) dX0_takesIn_8 rfl rfl rfl ?_
  refine J_aload_n (pc' := 10) (i := 1) (n := 1) dX0_takesIn_9 rfl rfl rfl ?_
  refine J_iload_n (pc' := 11) (i := 2) (n := 2) dX0_takesIn_10 rfl rfl rfl ?_
  refine J_iload_n (pc' := 12) (i := 3) (n := 3) dX0_takesIn_11 rfl rfl rfl ?_
  obtain ⟨v3, e4, h⟩ := bi_inv h
  refine J_callV (pc' := 15) (as := [.ref a1, .int x2, .int x3]) (rest := [.int x2, .int v1, .ref b]) dX0_takesIn_12 rfl lk_X0_82 rfl 0 (by decide) rfl (b_o hs) (b_no hs) (c_X0_others hs ⟨(a_s ha1), (a_n ha1)⟩ e4) ⟨Nat.le_of_ble_eq_true rfl, Nat.le_of_ble_eq_true rfl⟩ (Nat.le_of_ble_eq_true rfl) ⟨Nat.le_of_ble_eq_true rfl, Nat.le_of_ble_eq_true rfl⟩ (j_kq ?_)
  obtain ⟨v5, e6, h⟩ := bi_inv h
  refine J_callV (pc' := 18) (as := [.int v1, .int x2, .int v3]) (rest := []) dX0_takesIn_15 rfl lk_X0_86 rfl 0 (by decide) rfl (b_o hs) (b_no hs) (c_X0_takesAs hs e6) ⟨Nat.le_of_ble_eq_true rfl, Nat.le_of_ble_eq_true rfl⟩ (Nat.le_of_ble_eq_true rfl) ⟨Nat.le_of_ble_eq_true rfl, Nat.le_of_ble_eq_true rfl⟩ (j_kq ?_)
  exact J_iret rfl dX0_takesIn_18 ⟨rfl, Nat.le_refl _⟩ (j_pIs h)
abbrev JT_X0_takes (l : Launch) (G : j_G) (M : j_M) (r : Int32) : Nat → List (Nat × Value) → List Value → j_M → Prop := JJ l G md_X0_takes (j_rm 6 (0, 0)) (0, 0) (0, 0) (po (some (.int r)) M)
noncomputable def f_X0_takes (M : j_M) (b : Nat) (x1 : Int32) (x2 : Int32) : Option Int32 :=
  a_i M (b + 3) 7 x1 fun v1 => ((f_X0_takesAs M b v1 x1 x2).bind fun v3 => (some v3))
set_option maxHeartbeats 4000000 in
theorem c_X0_takes {l : Launch} {G : j_G} {M : j_M} {b : Nat} {x1 : Int32} {x2 : Int32} (hs : sh_b b M.2.2) {r : Int32} (h : f_X0_takes M b x1 x2 = some r) : j_Sp l G md_X0_takes 6 (0, 0) [.ref b, .int x1, .int x2] M (po (some (.int r)) M) := by
  refine j_Sp.of (by decide) (Nat.le_of_ble_eq_true rfl) ?_
  show JT_X0_takes l G M r 0 [(0, .ref b), (1, .int x1), (2, .int x2)] [] M
  unfold f_X0_takes at h
  refine J_aload_n (pc' := 1) (i := 0) (n := 0) dX0_takes_0 rfl rfl rfl ?_
  refine J_aload_n (pc' := 2) (i := 0) (n := 0) dX0_takes_1 rfl rfl rfl ?_
  refine J_getR (pc' := 5) (b := (b + 3)) dX0_takes_2 rfl fl_X0_18 rfl (b_o hs) (b_no hs) (b_r3 hs) ?_
  refine J_iload_n (pc' := 6) (i := 1) (n := 1) dX0_takes_5 rfl rfl rfl ?_
  obtain ⟨v1, e2, h⟩ := a_i_inv h
  refine J_ialde (pc' := 7) dX0_takes_6 rfl (b_s3 hs) (b_n hs (Nat.le_of_ble_eq_true rfl)) e2 ?_
  refine J_iload_n (pc' := 8) (i := 1) (n := 1) dX0_takes_7 rfl rfl rfl ?_
  refine J_iload_n (pc' := 9) (i := 2) (n := 2) dX0_takes_8 rfl rfl rfl ?_
  obtain ⟨v3, e4, h⟩ := bi_inv h
  refine J_callV (pc' := 12) (as := [.int v1, .int x1, .int x2]) (rest := []) dX0_takes_9 rfl lk_X0_86 rfl 0 (by decide) rfl (b_o hs) (b_no hs) (c_X0_takesAs hs e4) ⟨Nat.le_of_ble_eq_true rfl, Nat.le_of_ble_eq_true rfl⟩ (Nat.le_of_ble_eq_true rfl) ⟨Nat.le_of_ble_eq_true rfl, Nat.le_of_ble_eq_true rfl⟩ (j_kq ?_)
  exact J_iret rfl dX0_takes_12 ⟨rfl, Nat.le_refl _⟩ (j_pIs h)
abbrev JT_X0_costTo (l : Launch) (G : j_G) (M : j_M) (r : Int32) : Nat → List (Nat × Value) → List Value → j_M → Prop := JJ l G md_X0_costTo (j_rm 7 (0, 0)) (0, 0) (0, 0) (po (some (.int r)) M)
noncomputable def f_X0_costTo_L5 : Nat → Nat → j_M → Int32 → Int32 → Int32 → Int32 → (Int32 → Int32 → Option Int32) → Option Int32
  | 0, _, _, _, _, _, _, _ => none
  | n + 1, b, M, x1, x2, x3, x4, K =>
    if (j_I M b 9) ≤ x4 then (K x3 x4) else (tl (f_X9_has x1 x4) fun v2 => (if v2 = 0 then (f_X0_costTo_L5 n b M x1 x2 x3 (x4 + (1 : Int32)) K) else ((f_X0_takes M b x4 ((x1 &&& (((1 : Int32) <<< (x4 &&& 31)) ^^^ ((-1) : Int32))) ||| ((1 : Int32) <<< (x2 &&& 31)))).bind fun v5 => ((f_X0_takes M b x4 (x1 &&& (((1 : Int32) <<< (x4 &&& 31)) ^^^ ((-1) : Int32)))).bind fun v7 => (f_X0_costTo_L5 n b M x1 x2 (x3 + (v5 - v7)) (x4 + (1 : Int32)) K)))))
noncomputable def f_X0_costTo (M : j_M) (b : Nat) (x1 : Int32) (x2 : Int32) : Option Int32 :=
  f_X0_costTo_L5 j_fu b M x1 x2 (0 : Int32) (0 : Int32) (fun (y9 : Int32) (y10 : Int32) => (some y9))
set_option maxHeartbeats 4000000 in
theorem L_X0_costTo_L5 {l : Launch} {G : j_G} {b : Nat} {r : Int32} : ∀ (n : Nat) {x1 : Int32} {x2 : Int32} {x3 : Int32} {x4 : Int32} {M : j_M} (hs : sh_b b M.2.2) {K : Int32 → Int32 → Option Int32}, f_X0_costTo_L5 n b M x1 x2 x3 x4 K = some r → (∀ (y3 : Int32) (y4 : Int32), K y3 y4 = some r → JT_X0_costTo l G M r 63 [(3, .int y3)] [] M) → JT_X0_costTo l G M r 5 [(0, .ref b), (1, .int x1), (2, .int x2), (3, .int x3), (4, .int x4)] [] M := by
  intro n
  induction n with
  | zero =>
    intro x1 x2 x3 x4 M hs K h hK
    rw [f_X0_costTo_L5] at h; cases h
  | succ n ih =>
    intro x1 x2 x3 x4 M hs K h hK
    rw [f_X0_costTo_L5] at h
    refine J_iload (pc' := 7) (i := 4) (n := 4) dX0_costTo_5 rfl rfl ?_
    refine J_aload_n (pc' := 8) (i := 0) (n := 0) dX0_costTo_7 rfl rfl rfl ?_
    refine J_getI (pc' := 11) dX0_costTo_8 rfl fl_X0_58 rfl (b_o hs) (b_no hs) ?_
    refine J_icmp_ge (pc' := 14) (tgt := 63) dX0_costTo_11 rfl (by decide) (fun c1 => ?_) (fun c1 => ?_)
    · replace h := j_ip c1 h
      refine J_sub [3] (lv' := [(3, .int x3)]) rfl ?_
      exact hK x3 x4  h
    · replace h := j_iq c1 h
      refine J_iload_n (pc' := 15) (i := 1) (n := 1) dX0_costTo_14 rfl rfl rfl ?_
      refine J_iload (pc' := 17) (i := 4) (n := 4) dX0_costTo_15 rfl rfl ?_
      obtain ⟨v2, e3, h⟩ := tl_inv h
      refine J_callSN (pc' := 20) (as := [.int x1, .int x4]) (rest := []) dX0_costTo_17 rfl lk_X0_106 rfl (c_X9_has e3) ⟨Nat.le_of_ble_eq_true rfl, Nat.le_of_ble_eq_true rfl⟩ (Nat.le_of_ble_eq_true rfl) ⟨Nat.le_of_ble_eq_true rfl, Nat.le_of_ble_eq_true rfl⟩ (j_kq ?_)
      refine J_if_eq (pc' := 23) (tgt := 57) dX0_costTo_20 rfl (by decide) (fun c4 => ?_) (fun c4 => ?_)
      · replace h := j_ip c4 h
        refine J_iinc (pc' := 60) (i := 4) (n := 4) (v := (x4 + (1 : Int32))) (lv' := [(4, .int (x4 + (1 : Int32))), (0, .ref b), (1, .int x1), (2, .int x2), (3, .int x3)]) dX0_costTo_57 rfl rfl (j_inc _ _ rfl _) (by decide) rfl ?_
        refine J_goto (pc' := 5) dX0_costTo_60 (by decide) ?_
        refine J_sub [1, 2, 3, 4, 0] (lv' := [(0, .ref b), (1, .int x1), (2, .int x2), (3, .int x3), (4, .int (x4 + (1 : Int32)))]) rfl ?_
        exact ih hs h hK
      · replace h := j_iq c4 h
        refine J_iload_n (pc' := 24) (i := 1) (n := 1) dX0_costTo_23 rfl rfl rfl ?_
        refine J_iconst (pc' := 25) (v := (1 : Int32)) dX0_costTo_24 rfl ic_1 ?_
        refine J_iload (pc' := 27) (i := 4) (n := 4) dX0_costTo_25 rfl rfl ?_
        refine J_ishl (pc' := 28) dX0_costTo_27 rfl ?_
        refine J_iconst (pc' := 29) (v := ((-1) : Int32)) dX0_costTo_28 rfl ic_m1 ?_
        refine J_ixor (pc' := 30) dX0_costTo_29 rfl ?_
        refine J_iand (pc' := 31) dX0_costTo_30 rfl ?_
        refine J_istore (pc' := 33) (i := 5) (lv' := [(5, .int (x1 &&& (((1 : Int32) <<< (x4 &&& 31)) ^^^ ((-1) : Int32)))), (0, .ref b), (1, .int x1), (2, .int x2), (3, .int x3), (4, .int x4)]) dX0_costTo_31 rfl (by decide) rfl ?_
        refine J_iload_n (pc' := 34) (i := 3) (n := 4) dX0_costTo_33 rfl rfl rfl ?_
        refine J_aload_n (pc' := 35) (i := 0) (n := 1) dX0_costTo_34 rfl rfl rfl ?_
        refine J_iload (pc' := 37) (i := 4) (n := 5) dX0_costTo_35 rfl rfl ?_
        refine J_iload (pc' := 39) (i := 5) (n := 0) dX0_costTo_37 rfl rfl ?_
        refine J_iconst (pc' := 40) (v := (1 : Int32)) dX0_costTo_39 rfl ic_1 ?_
        refine J_iload_n (pc' := 41) (i := 2) (n := 3) dX0_costTo_40 rfl rfl rfl ?_
        refine J_ishl (pc' := 42) dX0_costTo_41 rfl ?_
        refine J_ior (pc' := 43) dX0_costTo_42 rfl ?_
        obtain ⟨v5, e6, h⟩ := bi_inv h
        refine J_callV (pc' := 46) (as := [.int x4, .int ((x1 &&& (((1 : Int32) <<< (x4 &&& 31)) ^^^ ((-1) : Int32))) ||| ((1 : Int32) <<< (x2 &&& 31)))]) (rest := [.int x3]) dX0_costTo_43 rfl lk_X0_115 rfl 0 (by decide) rfl (b_o hs) (b_no hs) (c_X0_takes hs e6) ⟨Nat.le_of_ble_eq_true rfl, Nat.le_of_ble_eq_true rfl⟩ (Nat.le_of_ble_eq_true rfl) ⟨Nat.le_of_ble_eq_true rfl, Nat.le_of_ble_eq_true rfl⟩ (j_kq ?_)
        refine J_aload_n (pc' := 47) (i := 0) (n := 1) dX0_costTo_46 rfl rfl rfl ?_
        refine J_iload (pc' := 49) (i := 4) (n := 5) dX0_costTo_47 rfl rfl ?_
        refine J_iload (pc' := 51) (i := 5) (n := 0) dX0_costTo_49 rfl rfl ?_
        obtain ⟨v7, e8, h⟩ := bi_inv h
        refine J_callV (pc' := 54) (as := [.int x4, .int (x1 &&& (((1 : Int32) <<< (x4 &&& 31)) ^^^ ((-1) : Int32)))]) (rest := [.int v5, .int x3]) dX0_costTo_51 rfl lk_X0_115 rfl 0 (by decide) rfl (b_o hs) (b_no hs) (c_X0_takes hs e8) ⟨Nat.le_of_ble_eq_true rfl, Nat.le_of_ble_eq_true rfl⟩ (Nat.le_of_ble_eq_true rfl) ⟨Nat.le_of_ble_eq_true rfl, Nat.le_of_ble_eq_true rfl⟩ (j_kq ?_)
        refine J_isub (pc' := 55) dX0_costTo_54 rfl ?_
        refine J_iadd (pc' := 56) dX0_costTo_55 rfl ?_
        refine J_istore_n (pc' := 57) (i := 3) (lv' := [(3, .int (x3 + (v5 - v7))), (5, .int (x1 &&& (((1 : Int32) <<< (x4 &&& 31)) ^^^ ((-1) : Int32)))), (0, .ref b), (1, .int x1), (2, .int x2), (4, .int x4)]) dX0_costTo_56 rfl rfl (by decide) rfl ?_
        refine J_iinc (pc' := 60) (i := 4) (n := 5) (v := (x4 + (1 : Int32))) (lv' := [(4, .int (x4 + (1 : Int32))), (3, .int (x3 + (v5 - v7))), (5, .int (x1 &&& (((1 : Int32) <<< (x4 &&& 31)) ^^^ ((-1) : Int32)))), (0, .ref b), (1, .int x1), (2, .int x2)]) dX0_costTo_57 rfl rfl (j_inc _ _ rfl _) (by decide) rfl ?_
        refine J_goto (pc' := 5) dX0_costTo_60 (by decide) ?_
        refine J_sub [3, 4, 5, 1, 0] (lv' := [(0, .ref b), (1, .int x1), (2, .int x2), (3, .int (x3 + (v5 - v7))), (4, .int (x4 + (1 : Int32)))]) rfl ?_
        exact ih hs h hK
set_option maxHeartbeats 4000000 in
theorem c_X0_costTo {l : Launch} {G : j_G} {M : j_M} {b : Nat} {x1 : Int32} {x2 : Int32} (hs : sh_b b M.2.2) {r : Int32} (h : f_X0_costTo M b x1 x2 = some r) : j_Sp l G md_X0_costTo 7 (0, 0) [.ref b, .int x1, .int x2] M (po (some (.int r)) M) := by
  refine j_Sp.of (by decide) (Nat.le_of_ble_eq_true rfl) ?_
  show JT_X0_costTo l G M r 0 [(0, .ref b), (1, .int x1), (2, .int x2)] [] M
  unfold f_X0_costTo at h
  refine J_iconst (pc' := 1) (v := (0 : Int32)) dX0_costTo_0 rfl ic_0 ?_
  refine J_istore_n (pc' := 2) (i := 3) (lv' := [(3, .int (0 : Int32)), (0, .ref b), (1, .int x1), (2, .int x2)]) dX0_costTo_1 rfl rfl (by decide) rfl ?_
  refine J_iconst (pc' := 3) (v := (0 : Int32)) dX0_costTo_2 rfl ic_0 ?_
  refine J_istore (pc' := 5) (i := 4) (lv' := [(4, .int (0 : Int32)), (3, .int (0 : Int32)), (0, .ref b), (1, .int x1), (2, .int x2)]) dX0_costTo_3 rfl (by decide) rfl ?_
  refine J_sub [2, 3, 4, 1, 0] (lv' := [(0, .ref b), (1, .int x1), (2, .int x2), (3, .int (0 : Int32)), (4, .int (0 : Int32))]) rfl ?_
  refine L_X0_costTo_L5 j_fu hs h (fun y9 y10 h => ?_)
  refine J_iload_n (pc' := 64) (i := 3) (n := 0) dX0_costTo_63 rfl rfl rfl ?_
  exact J_iret rfl dX0_costTo_64 ⟨rfl, Nat.le_refl _⟩ (j_pIs h)
abbrev JT_X0_leastOpenLane (l : Launch) (G : j_G) (M : j_M) (r : Int32) : Nat → List (Nat × Value) → List Value → j_M → Prop := JJ l G md_X0_leastOpenLane (j_rm 2 (0, 0)) (0, 0) (0, 0) (po (some (.int r)) M)
noncomputable def f_X0_leastOpenLane_L4 : Nat → Nat → j_M → Int32 → Int32 → (Int32 → Int32 → Option Int32) → Option Int32
  | 0, _, _, _, _, _ => none
  | n + 1, b, M, x1, x2, K =>
    if (4 : Int32) ≤ x2 then (K x1 x2) else ((f_X0_isOpen M b x2).bind fun v2 => (if v2 = 0 then (f_X0_leastOpenLane_L4 n b M x1 (x2 + (1 : Int32)) K) else (if x1 = ((-1) : Int32) then (f_X0_leastOpenLane_L4 n b M x2 (x2 + (1 : Int32)) K) else (a_i M (b + 8) 4 x2 fun v6 => (a_i M (b + 8) 4 x1 fun v8 => (if v8 ≤ v6 then (f_X0_leastOpenLane_L4 n b M x1 (x2 + (1 : Int32)) K) else (f_X0_leastOpenLane_L4 n b M x2 (x2 + (1 : Int32)) K)))))))
noncomputable def f_X0_leastOpenLane (M : j_M) (b : Nat) : Option Int32 :=
  f_X0_leastOpenLane_L4 j_fu b M ((-1) : Int32) (0 : Int32) (fun (y11 : Int32) (y12 : Int32) => (some y11))
set_option maxHeartbeats 4000000 in
theorem L_X0_leastOpenLane_L4 {l : Launch} {G : j_G} {b : Nat} {r : Int32} : ∀ (n : Nat) {x1 : Int32} {x2 : Int32} {M : j_M} (hs : sh_b b M.2.2) {K : Int32 → Int32 → Option Int32}, f_X0_leastOpenLane_L4 n b M x1 x2 K = some r → (∀ (y1 : Int32) (y2 : Int32), K y1 y2 = some r → JT_X0_leastOpenLane l G M r 45 [(1, .int y1)] [] M) → JT_X0_leastOpenLane l G M r 4 [(0, .ref b), (1, .int x1), (2, .int x2)] [] M := by
  intro n
  induction n with
  | zero =>
    intro x1 x2 M hs K h hK
    rw [f_X0_leastOpenLane_L4] at h; cases h
  | succ n ih =>
    intro x1 x2 M hs K h hK
    rw [f_X0_leastOpenLane_L4] at h
    refine J_iload_n (pc' := 5) (i := 2) (n := 2) dX0_leastOpenLane_4 rfl rfl rfl ?_
    refine J_iconst (pc' := 6) (v := (4 : Int32)) dX0_leastOpenLane_5 rfl ic_4 ?_
    refine J_icmp_ge (pc' := 9) (tgt := 45) dX0_leastOpenLane_6 rfl (by decide) (fun c1 => ?_) (fun c1 => ?_)
    · replace h := j_ip c1 h
      refine J_sub [1] (lv' := [(1, .int x1)]) rfl ?_
      exact hK x1 x2  h
    · replace h := j_iq c1 h
      refine J_aload_n (pc' := 10) (i := 0) (n := 0) dX0_leastOpenLane_9 rfl rfl rfl ?_
      refine J_iload_n (pc' := 11) (i := 2) (n := 2) dX0_leastOpenLane_10 rfl rfl rfl ?_
      obtain ⟨v2, e3, h⟩ := bi_inv h
      refine J_callV (pc' := 14) (as := [.int x2]) (rest := []) dX0_leastOpenLane_11 rfl lk_X0_68 rfl 0 (by decide) rfl (b_o hs) (b_no hs) (c_X0_isOpen hs e3) ⟨Nat.le_of_ble_eq_true rfl, Nat.le_of_ble_eq_true rfl⟩ (Nat.le_of_ble_eq_true rfl) ⟨Nat.le_of_ble_eq_true rfl, Nat.le_of_ble_eq_true rfl⟩ (j_kq ?_)
      refine J_if_eq (pc' := 17) (tgt := 39) dX0_leastOpenLane_14 rfl (by decide) (fun c4 => ?_) (fun c4 => ?_)
      · replace h := j_ip c4 h
        refine J_iinc (pc' := 42) (i := 2) (n := 2) (v := (x2 + (1 : Int32))) (lv' := [(2, .int (x2 + (1 : Int32))), (0, .ref b), (1, .int x1)]) dX0_leastOpenLane_39 rfl rfl (j_inc _ _ rfl _) (by decide) rfl ?_
        refine J_goto (pc' := 4) dX0_leastOpenLane_42 (by decide) ?_
        refine J_sub [1, 2, 0] (lv' := [(0, .ref b), (1, .int x1), (2, .int (x2 + (1 : Int32)))]) rfl ?_
        exact ih hs h hK
      · replace h := j_iq c4 h
        refine J_iload_n (pc' := 18) (i := 1) (n := 1) dX0_leastOpenLane_17 rfl rfl rfl ?_
        refine J_iconst (pc' := 19) (v := ((-1) : Int32)) dX0_leastOpenLane_18 rfl ic_m1 ?_
        refine J_icmp_eq (pc' := 22) (tgt := 37) dX0_leastOpenLane_19 rfl (by decide) (fun c5 => ?_) (fun c5 => ?_)
        · replace h := j_ip c5 h
          refine J_iload_n (pc' := 38) (i := 2) (n := 2) dX0_leastOpenLane_37 rfl rfl rfl ?_
          refine J_istore_n (pc' := 39) (i := 1) (lv' := [(1, .int x2), (0, .ref b), (2, .int x2)]) dX0_leastOpenLane_38 rfl rfl (by decide) rfl ?_
          refine J_iinc (pc' := 42) (i := 2) (n := 2) (v := (x2 + (1 : Int32))) (lv' := [(2, .int (x2 + (1 : Int32))), (1, .int x2), (0, .ref b)]) dX0_leastOpenLane_39 rfl rfl (j_inc _ _ rfl _) (by decide) rfl ?_
          refine J_goto (pc' := 4) dX0_leastOpenLane_42 (by decide) ?_
          refine J_sub [2, 1, 0] (lv' := [(0, .ref b), (1, .int x2), (2, .int (x2 + (1 : Int32)))]) rfl ?_
          exact ih hs h hK
        · replace h := j_iq c5 h
          refine J_aload_n (pc' := 23) (i := 0) (n := 0) dX0_leastOpenLane_22 rfl rfl rfl ?_
          refine J_getR (pc' := 26) (b := (b + 8)) dX0_leastOpenLane_23 rfl fl_X0_33 rfl (b_o hs) (b_no hs) (b_r8 hs) ?_
          refine J_iload_n (pc' := 27) (i := 2) (n := 2) dX0_leastOpenLane_26 rfl rfl rfl ?_
          obtain ⟨v6, e7, h⟩ := a_i_inv h
          refine J_ialde (pc' := 28) dX0_leastOpenLane_27 rfl (b_s8 hs) (b_n hs (Nat.le_of_ble_eq_true rfl)) e7 ?_
          refine J_aload_n (pc' := 29) (i := 0) (n := 0) dX0_leastOpenLane_28 rfl rfl rfl ?_
          refine J_getR (pc' := 32) (b := (b + 8)) dX0_leastOpenLane_29 rfl fl_X0_33 rfl (b_o hs) (b_no hs) (b_r8 hs) ?_
          refine J_iload_n (pc' := 33) (i := 1) (n := 1) dX0_leastOpenLane_32 rfl rfl rfl ?_
          obtain ⟨v8, e9, h⟩ := a_i_inv h
          refine J_ialde (pc' := 34) dX0_leastOpenLane_33 rfl (b_s8 hs) (b_n hs (Nat.le_of_ble_eq_true rfl)) e9 ?_
          refine J_icmp_ge (pc' := 37) (tgt := 39) dX0_leastOpenLane_34 rfl (by decide) (fun c10 => ?_) (fun c10 => ?_)
          · replace h := j_ip c10 h
            refine J_iinc (pc' := 42) (i := 2) (n := 2) (v := (x2 + (1 : Int32))) (lv' := [(2, .int (x2 + (1 : Int32))), (0, .ref b), (1, .int x1)]) dX0_leastOpenLane_39 rfl rfl (j_inc _ _ rfl _) (by decide) rfl ?_
            refine J_goto (pc' := 4) dX0_leastOpenLane_42 (by decide) ?_
            refine J_sub [1, 2, 0] (lv' := [(0, .ref b), (1, .int x1), (2, .int (x2 + (1 : Int32)))]) rfl ?_
            exact ih hs h hK
          · replace h := j_iq c10 h
            refine J_iload_n (pc' := 38) (i := 2) (n := 2) dX0_leastOpenLane_37 rfl rfl rfl ?_
            refine J_istore_n (pc' := 39) (i := 1) (lv' := [(1, .int x2), (0, .ref b), (2, .int x2)]) dX0_leastOpenLane_38 rfl rfl (by decide) rfl ?_
            refine J_iinc (pc' := 42) (i := 2) (n := 2) (v := (x2 + (1 : Int32))) (lv' := [(2, .int (x2 + (1 : Int32))), (1, .int x2), (0, .ref b)]) dX0_leastOpenLane_39 rfl rfl (j_inc _ _ rfl _) (by decide) rfl ?_
            refine J_goto (pc' := 4) dX0_leastOpenLane_42 (by decide) ?_
            refine J_sub [2, 1, 0] (lv' := [(0, .ref b), (1, .int x2), (2, .int (x2 + (1 : Int32)))]) rfl ?_
            exact ih hs h hK
set_option maxHeartbeats 4000000 in
theorem c_X0_leastOpenLane {l : Launch} {G : j_G} {M : j_M} {b : Nat} (hs : sh_b b M.2.2) {r : Int32} (h : f_X0_leastOpenLane M b = some r) : j_Sp l G md_X0_leastOpenLane 2 (0, 0) [.ref b] M (po (some (.int r)) M) := by
  refine j_Sp.of (by decide) (Nat.le_of_ble_eq_true rfl) ?_
  show JT_X0_leastOpenLane l G M r 0 [(0, .ref b)] [] M
  unfold f_X0_leastOpenLane at h
  refine J_iconst (pc' := 1) (v := ((-1) : Int32)) dX0_leastOpenLane_0 rfl ic_m1 ?_
  refine J_istore_n (pc' := 2) (i := 1) (lv' := [(1, .int ((-1) : Int32)), (0, .ref b)]) dX0_leastOpenLane_1 rfl rfl (by decide) rfl ?_
  refine J_iconst (pc' := 3) (v := (0 : Int32)) dX0_leastOpenLane_2 rfl ic_0 ?_
  refine J_istore_n (pc' := 4) (i := 2) (lv' := [(2, .int (0 : Int32)), (1, .int ((-1) : Int32)), (0, .ref b)]) dX0_leastOpenLane_3 rfl rfl (by decide) rfl ?_
  refine J_sub [2, 1, 0] (lv' := [(0, .ref b), (1, .int ((-1) : Int32)), (2, .int (0 : Int32))]) rfl ?_
  refine L_X0_leastOpenLane_L4 j_fu hs h (fun y11 y12 h => ?_)
  refine J_iload_n (pc' := 46) (i := 1) (n := 0) dX0_leastOpenLane_45 rfl rfl rfl ?_
  exact J_iret rfl dX0_leastOpenLane_46 ⟨rfl, Nat.le_refl _⟩ (j_pIs h)
abbrev JT_X0_quickestLane (l : Launch) (G : j_G) (r : (Int32 × j_M)) : Nat → List (Nat × Value) → List Value → j_M → Prop := JJ l G md_X0_quickestLane (j_rm 7 (0, 0)) (0, 0) (0, 0) (po (some (.int r.1)) r.2)
noncomputable def f_X0_quickestLane_L2 : Nat → Nat → Nat → j_M → Int32 → Int32 → (Int32 → j_M → Option (Int32 × j_M)) → Option (Int32 × j_M)
  | 0, _, _, _, _, _, _ => none
  | n + 1, b, a1, M, x2, x3, K =>
    if (4 : Int32) ≤ x3 then (K x3 M) else ((f_X0_takesIn M b a1 x2 x3).bind fun v2 => (w_i M (b + 8) 4 x3 v2 fun M4 => (f_X0_quickestLane_L2 n b a1 M4 x2 (x3 + (1 : Int32)) K)))
noncomputable def f_X0_quickestLane (M : j_M) (b : Nat) (a1 : Nat) (x2 : Int32) : Option (Int32 × j_M) :=
  f_X0_quickestLane_L2 j_fu b a1 M x2 (0 : Int32) (fun (y8 : Int32) (M9 : j_M) => ((f_X0_leastOpenLane M9 b).bind fun v12 => (some (v12, M9))))
set_option maxHeartbeats 4000000 in
theorem L_X0_quickestLane_L2 {l : Launch} {G : j_G} {b : Nat} {a1 : Nat} {r : (Int32 × j_M)} : ∀ (n : Nat) {x2 : Int32} {x3 : Int32} {M : j_M} (hs : sh_b b M.2.2) (ha1 : sh_a a1 22 M.2.2) {K : Int32 → j_M → Option (Int32 × j_M)}, f_X0_quickestLane_L2 n b a1 M x2 x3 K = some r → (∀ (y3 : Int32) (M1 : j_M), sh_b b M1.2.2 → sh_a a1 22 M1.2.2 → K y3 M1 = some r → JT_X0_quickestLane l G r 26 [(0, .ref b)] [] M1) → JT_X0_quickestLane l G r 2 [(0, .ref b), (1, .ref a1), (2, .int x2), (3, .int x3)] [] M := by
  intro n
  induction n with
  | zero =>
    intro x2 x3 M hs ha1 K h hK
    rw [f_X0_quickestLane_L2] at h; cases h
  | succ n ih =>
    intro x2 x3 M hs ha1 K h hK
    rw [f_X0_quickestLane_L2] at h
    refine J_iload_n (pc' := 3) (i := 3) (n := 3) dX0_quickestLane_2 rfl rfl rfl ?_
    refine J_iconst (pc' := 4) (v := (4 : Int32)) dX0_quickestLane_3 rfl ic_4 ?_
    refine J_icmp_ge (pc' := 7) (tgt := 26) dX0_quickestLane_4 rfl (by decide) (fun c1 => ?_) (fun c1 => ?_)
    · replace h := j_ip c1 h
      refine J_sub [0] (lv' := [(0, .ref b)]) rfl ?_
      exact hK x3 M hs ha1 h
    · replace h := j_iq c1 h
      refine J_aload_n (pc' := 8) (i := 0) (n := 0) dX0_quickestLane_7 rfl rfl rfl ?_
      refine J_getR (pc' := 11) (b := (b + 8)) dX0_quickestLane_8 rfl fl_X0_33 rfl (b_o hs) (b_no hs) (b_r8 hs) ?_
      refine J_iload_n (pc' := 12) (i := 3) (n := 3) dX0_quickestLane_11 rfl rfl rfl ?_
      refine J_aload_n (pc' := 13) (i := 0) (n := 0) dX0_quickestLane_12 rfl rfl rfl ?_
      refine J_aload_n (pc' := 14) (i := 1) (n := 1) dX0_quickestLane_13 rfl rfl rfl ?_
      refine J_iload_n (pc' := 15) (i := 2) (n := 2) dX0_quickestLane_14 rfl rfl rfl ?_
      refine J_iload_n (pc' := 16) (i := 3) (n := 3) dX0_quickestLane_15 rfl rfl rfl ?_
      obtain ⟨v2, e3, h⟩ := bi_inv h
      refine J_callV (pc' := 19) (as := [.ref a1, .int x2, .int x3]) (rest := [.int x3, .ref (b + 8)]) dX0_quickestLane_16 rfl lk_X0_117 rfl 0 (by decide) rfl (b_o hs) (b_no hs) (c_X0_takesIn hs ⟨(a_s ha1), (a_n ha1)⟩ e3) ⟨Nat.le_of_ble_eq_true rfl, Nat.le_of_ble_eq_true rfl⟩ (Nat.le_of_ble_eq_true rfl) ⟨Nat.le_of_ble_eq_true rfl, Nat.le_of_ble_eq_true rfl⟩ (j_kq ?_)
      obtain ⟨M4, e5, h⟩ := w_i_inv h
      have g6 : sh_b b M4.2.2 := j_shI e5.2 hs
      have g7 : sh_a a1 22 M4.2.2 := j_shI e5.2 ha1
      refine J_iaste (pc' := 20) dX0_quickestLane_19 rfl (b_s8 hs) (b_n hs (Nat.le_of_ble_eq_true rfl)) e5 ?_
      refine J_iinc (pc' := 23) (i := 3) (n := 3) (v := (x3 + (1 : Int32))) (lv' := [(3, .int (x3 + (1 : Int32))), (0, .ref b), (1, .ref a1), (2, .int x2)]) dX0_quickestLane_20 rfl rfl (j_inc _ _ rfl _) (by decide) rfl ?_
      refine J_goto (pc' := 2) dX0_quickestLane_23 (by decide) ?_
      refine J_sub [1, 2, 3, 0] (lv' := [(0, .ref b), (1, .ref a1), (2, .int x2), (3, .int (x3 + (1 : Int32)))]) rfl ?_
      exact ih g6 g7 h hK
set_option maxHeartbeats 4000000 in
theorem c_X0_quickestLane {l : Launch} {G : j_G} {M : j_M} {b : Nat} {a1 : Nat} {x2 : Int32} (hs : sh_b b M.2.2) (ha1 : sh_a a1 22 M.2.2) {r : (Int32 × j_M)} (h : f_X0_quickestLane M b a1 x2 = some r) : j_Sp l G md_X0_quickestLane 7 (0, 0) [.ref b, .ref a1, .int x2] M (po (some (.int r.1)) r.2) := by
  refine j_Sp.of (by decide) (Nat.le_of_ble_eq_true rfl) ?_
  show JT_X0_quickestLane l G r 0 [(0, .ref b), (1, .ref a1), (2, .int x2)] [] M
  unfold f_X0_quickestLane at h
  refine J_iconst (pc' := 1) (v := (0 : Int32)) dX0_quickestLane_0 rfl ic_0 ?_
  refine J_istore_n (pc' := 2) (i := 3) (lv' := [(3, .int (0 : Int32)), (0, .ref b), (1, .ref a1), (2, .int x2)]) dX0_quickestLane_1 rfl rfl (by decide) rfl ?_
  refine J_sub [1, 2, 3, 0] (lv' := [(0, .ref b), (1, .ref a1), (2, .int x2), (3, .int (0 : Int32))]) rfl ?_
  refine L_X0_quickestLane_L2 j_fu hs ha1 h (fun y8 M9 g10 g11 h => ?_)
  refine J_aload_n (pc' := 27) (i := 0) (n := 0) dX0_quickestLane_26 rfl rfl rfl ?_
  obtain ⟨v12, e13, h⟩ := bi_inv h
  refine J_callV (pc' := 30) (as := []) (rest := []) dX0_quickestLane_27 rfl lk_X0_120 rfl 0 (by decide) rfl (b_o g10) (b_no g10) (c_X0_leastOpenLane g10 e13) ⟨Nat.le_of_ble_eq_true rfl, Nat.le_of_ble_eq_true rfl⟩ (Nat.le_of_ble_eq_true rfl) ⟨Nat.le_of_ble_eq_true rfl, Nat.le_of_ble_eq_true rfl⟩ (j_kq ?_)
  exact J_iret rfl dX0_quickestLane_30 ⟨rfl, Nat.le_refl _⟩ (j_pW h)
abbrev JT_X0_swimsAMinute (l : Launch) (G : j_G) (r : (Int32 × j_M)) : Nat → List (Nat × Value) → List Value → j_M → Prop := JJ l G md_X0_swimsAMinute (j_rm 7 (0, 0)) (0, 0) (0, 0) (po (some (.int r.1)) r.2)
noncomputable def f_X0_swimsAMinute (M : j_M) (b : Nat) (a1 : Nat) (x2 : Int32) : Option (Int32 × j_M) :=
  a_i M a1 22 ((1 : Int32) + x2) fun v1 => ((f_X0_takesIn M b a1 x2 v1).bind fun v3 => (a_i M a1 22 ((15 : Int32) + x2) fun v5 => (jn (fun (v8 : Int32) => (a_i M a1 22 ((8 : Int32) + x2) fun v11 => (w_i M a1 22 ((8 : Int32) + x2) (v11 + v8) fun M13 => (w_i M13 a1 22 ((15 : Int32) + x2) ((v5 + (60 : Int32)) - (v8 * v3)) fun M17 => (some (v8, M17)))))) (fun K9 => (if v3 ≤ 0 then (K9 (0 : Int32)) else (d_i (v5 + (60 : Int32)) v3 fun v21 => (K9 v21)))))))
set_option maxHeartbeats 4000000 in
theorem c_X0_swimsAMinute {l : Launch} {G : j_G} {M : j_M} {b : Nat} {a1 : Nat} {x2 : Int32} (hs : sh_b b M.2.2) (ha1 : sh_a a1 22 M.2.2) {r : (Int32 × j_M)} (h : f_X0_swimsAMinute M b a1 x2 = some r) : j_Sp l G md_X0_swimsAMinute 7 (0, 0) [.ref b, .ref a1, .int x2] M (po (some (.int r.1)) r.2) := by
  refine j_Sp.of (by decide) (Nat.le_of_ble_eq_true rfl) ?_
  show JT_X0_swimsAMinute l G r 0 [(0, .ref b), (1, .ref a1), (2, .int x2)] [] M
  unfold f_X0_swimsAMinute at h
  refine J_aload_n (pc' := 1) (i := 0) (n := 0) dX0_swimsAMinute_0 rfl rfl rfl ?_
  refine J_aload_n (pc' := 2) (i := 1) (n := 1) dX0_swimsAMinute_1 rfl rfl rfl ?_
  refine J_iload_n (pc' := 3) (i := 2) (n := 2) dX0_swimsAMinute_2 rfl rfl rfl ?_
  refine J_aload_n (pc' := 4) (i := 1) (n := 1) dX0_swimsAMinute_3 rfl rfl rfl ?_
  refine J_iconst (pc' := 5) (v := (1 : Int32)) dX0_swimsAMinute_4 rfl ic_1 ?_
  refine J_iload_n (pc' := 6) (i := 2) (n := 2) dX0_swimsAMinute_5 rfl rfl rfl ?_
  refine J_iadd (pc' := 7) dX0_swimsAMinute_6 rfl ?_
  obtain ⟨v1, e2, h⟩ := a_i_inv h
  refine J_ialde (pc' := 8) dX0_swimsAMinute_7 rfl (a_s ha1) (a_n ha1) e2 ?_
  obtain ⟨v3, e4, h⟩ := bi_inv h
  refine J_callV (pc' := 11) (as := [.ref a1, .int x2, .int v1]) (rest := []) dX0_swimsAMinute_8 rfl lk_X0_117 rfl 0 (by decide) rfl (b_o hs) (b_no hs) (c_X0_takesIn hs ⟨(a_s ha1), (a_n ha1)⟩ e4) ⟨Nat.le_of_ble_eq_true rfl, Nat.le_of_ble_eq_true rfl⟩ (Nat.le_of_ble_eq_true rfl) ⟨Nat.le_of_ble_eq_true rfl, Nat.le_of_ble_eq_true rfl⟩ (j_kq ?_)
  refine J_istore_n (pc' := 12) (i := 3) (lv' := [(3, .int v3), (0, .ref b), (1, .ref a1), (2, .int x2)]) dX0_swimsAMinute_11 rfl rfl (by decide) rfl ?_
  refine J_aload_n (pc' := 13) (i := 1) (n := 2) dX0_swimsAMinute_12 rfl rfl rfl ?_
  refine J_bipush (pc' := 15) (v := (15 : Int32)) dX0_swimsAMinute_13 rfl bp_15 ?_
  refine J_iload_n (pc' := 16) (i := 2) (n := 3) dX0_swimsAMinute_15 rfl rfl rfl ?_
  refine J_iadd (pc' := 17) dX0_swimsAMinute_16 rfl ?_
  obtain ⟨v5, e6, h⟩ := a_i_inv h
  refine J_ialde (pc' := 18) dX0_swimsAMinute_17 rfl (a_s ha1) (a_n ha1) e6 ?_
  refine J_bipush (pc' := 20) (v := (60 : Int32)) dX0_swimsAMinute_18 rfl bp_60 ?_
  refine J_iadd (pc' := 21) dX0_swimsAMinute_20 rfl ?_
  refine J_istore (pc' := 23) (i := 4) (lv' := [(4, .int (v5 + (60 : Int32))), (3, .int v3), (0, .ref b), (1, .ref a1), (2, .int x2)]) dX0_swimsAMinute_21 rfl (by decide) rfl ?_
  refine J_iload_n (pc' := 24) (i := 3) (n := 1) dX0_swimsAMinute_23 rfl rfl rfl ?_
  refine J_join (C := fun (v8 : Int32) => JT_X0_swimsAMinute l G r 35 [(1, .ref a1), (2, .int x2), (3, .int v3), (4, .int (v5 + (60 : Int32)))] [.int v8] M) h (fun v8 h => ?_) (fun K9 h10 h => ?_)
  · refine J_istore (pc' := 37) (i := 5) (lv' := [(5, .int v8), (1, .ref a1), (2, .int x2), (3, .int v3), (4, .int (v5 + (60 : Int32)))]) dX0_swimsAMinute_35 rfl (by decide) rfl ?_
    refine J_aload_n (pc' := 38) (i := 1) (n := 1) dX0_swimsAMinute_37 rfl rfl rfl ?_
    refine J_bipush (pc' := 40) (v := (8 : Int32)) dX0_swimsAMinute_38 rfl bp_8 ?_
    refine J_iload_n (pc' := 41) (i := 2) (n := 2) dX0_swimsAMinute_40 rfl rfl rfl ?_
    refine J_iadd (pc' := 42) dX0_swimsAMinute_41 rfl ?_
    refine J_dup2 (pc' := 43) dX0_swimsAMinute_42 rfl rfl rfl ?_
    obtain ⟨v11, e12, h⟩ := a_i_inv h
    refine J_ialde (pc' := 44) dX0_swimsAMinute_43 rfl (a_s ha1) (a_n ha1) e12 ?_
    refine J_iload (pc' := 46) (i := 5) (n := 0) dX0_swimsAMinute_44 rfl rfl ?_
    refine J_iadd (pc' := 47) dX0_swimsAMinute_46 rfl ?_
    obtain ⟨M13, e14, h⟩ := w_i_inv h
    have g15 : sh_b b M13.2.2 := j_shI e14.2 hs
    have g16 : sh_a a1 22 M13.2.2 := j_shI e14.2 ha1
    refine J_iaste (pc' := 48) dX0_swimsAMinute_47 rfl (a_s ha1) (a_n ha1) e14 ?_
    refine J_aload_n (pc' := 49) (i := 1) (n := 1) dX0_swimsAMinute_48 rfl rfl rfl ?_
    refine J_bipush (pc' := 51) (v := (15 : Int32)) dX0_swimsAMinute_49 rfl bp_15 ?_
    refine J_iload_n (pc' := 52) (i := 2) (n := 2) dX0_swimsAMinute_51 rfl rfl rfl ?_
    refine J_iadd (pc' := 53) dX0_swimsAMinute_52 rfl ?_
    refine J_iload (pc' := 55) (i := 4) (n := 4) dX0_swimsAMinute_53 rfl rfl ?_
    refine J_iload (pc' := 57) (i := 5) (n := 0) dX0_swimsAMinute_55 rfl rfl ?_
    refine J_iload_n (pc' := 58) (i := 3) (n := 3) dX0_swimsAMinute_57 rfl rfl rfl ?_
    refine J_imul (pc' := 59) dX0_swimsAMinute_58 rfl ?_
    refine J_isub (pc' := 60) dX0_swimsAMinute_59 rfl ?_
    obtain ⟨M17, e18, h⟩ := w_i_inv h
    have g19 : sh_b b M17.2.2 := j_shI e18.2 g15
    have g20 : sh_a a1 22 M17.2.2 := j_shI e18.2 g16
    refine J_iaste (pc' := 61) dX0_swimsAMinute_60 rfl (a_s g16) (a_n g16) e18 ?_
    refine J_iload (pc' := 63) (i := 5) (n := 0) dX0_swimsAMinute_61 rfl rfl ?_
    exact J_iret rfl dX0_swimsAMinute_63 ⟨rfl, Nat.le_refl _⟩ (j_pW h)
  · refine J_if_le (pc' := 27) (tgt := 34) dX0_swimsAMinute_24 rfl (by decide) (fun c7 => ?_) (fun c7 => ?_)
    · replace h := j_ip c7 h
      refine J_iconst (pc' := 35) (v := (0 : Int32)) dX0_swimsAMinute_34 rfl ic_0 ?_
      refine J_sub [3, 4, 1, 0] (lv' := [(1, .ref a1), (2, .int x2), (3, .int v3), (4, .int (v5 + (60 : Int32)))]) rfl ?_
      exact h10 (0 : Int32) h
    · replace h := j_iq c7 h
      refine J_iload (pc' := 29) (i := 4) (n := 0) dX0_swimsAMinute_27 rfl rfl ?_
      refine J_iload_n (pc' := 30) (i := 3) (n := 1) dX0_swimsAMinute_29 rfl rfl rfl ?_
      obtain ⟨v21, e22, h⟩ := d_i_inv h
      refine J_dive (pc' := 31) dX0_swimsAMinute_30 rfl e22 ?_
      refine J_goto (pc' := 35) dX0_swimsAMinute_31 (by decide) ?_
      refine J_sub [3, 4, 1, 0] (lv' := [(1, .ref a1), (2, .int x2), (3, .int v3), (4, .int (v5 + (60 : Int32)))]) rfl ?_
      exact h10 v21 h
abbrev JT_X0_minuteGoesBy (l : Launch) (G : j_G) (r : (Int32 × j_M)) : Nat → List (Nat × Value) → List Value → j_M → Prop := JJ l G md_X0_minuteGoesBy (j_rm 8 (0, 0)) (0, 0) (0, 0) (po (some (.int r.1)) r.2)
noncomputable def f_X0_minuteGoesBy_L22 : Nat → Nat → Nat → j_M → Int32 → Int32 → (Int32 → Int32 → j_M → Option (Int32 × j_M)) → Option (Int32 × j_M)
  | 0, _, _, _, _, _, _ => none
  | n + 1, b, a1, M, x2, x3, K =>
    if (j_I M b 9) ≤ x3 then (K x2 x3 M) else ((f_X0_swimsAMinute M b a1 x3).bind fun q11 => j_ck M q11.2 (f_X0_minuteGoesBy_L22 n b a1 q11.2 (x2 + q11.1) (x3 + (1 : Int32)) K))
noncomputable def f_X0_minuteGoesBy (M : j_M) (b : Nat) (a1 : Nat) : Option (Int32 × j_M) :=
  a_i M a1 22 (0 : Int32) fun v1 => (if v1 < (999 : Int32) then (a_i M a1 22 (0 : Int32) fun v4 => (w_i M a1 22 (0 : Int32) (v4 + (1 : Int32)) fun M6 => (f_X0_minuteGoesBy_L22 j_fu b a1 M6 (0 : Int32) (0 : Int32) (fun (y16 : Int32) (y17 : Int32) (M18 : j_M) => (some (y16, M18)))))) else (some ((0 : Int32), M)))
set_option maxHeartbeats 4000000 in
theorem L_X0_minuteGoesBy_L22 {l : Launch} {G : j_G} {b : Nat} {a1 : Nat} {r : (Int32 × j_M)} : ∀ (n : Nat) {x2 : Int32} {x3 : Int32} {M : j_M} (hs : sh_b b M.2.2) (ha1 : sh_a a1 22 M.2.2) {K : Int32 → Int32 → j_M → Option (Int32 × j_M)}, f_X0_minuteGoesBy_L22 n b a1 M x2 x3 K = some r → (∀ (y2 : Int32) (y3 : Int32) (M1 : j_M), sh_b b M1.2.2 → sh_a a1 22 M1.2.2 → K y2 y3 M1 = some r → JT_X0_minuteGoesBy l G r 45 [(2, .int y2)] [] M1) → JT_X0_minuteGoesBy l G r 22 [(0, .ref b), (1, .ref a1), (2, .int x2), (3, .int x3)] [] M := by
  intro n
  induction n with
  | zero =>
    intro x2 x3 M hs ha1 K h hK
    rw [f_X0_minuteGoesBy_L22] at h; cases h
  | succ n ih =>
    intro x2 x3 M hs ha1 K h hK
    rw [f_X0_minuteGoesBy_L22] at h
    refine J_iload_n (pc' := 23) (i := 3) (n := 3) dX0_minuteGoesBy_22 rfl rfl rfl ?_
    refine J_aload_n (pc' := 24) (i := 0) (n := 0) dX0_minuteGoesBy_23 rfl rfl rfl ?_
    refine J_getI (pc' := 27) dX0_minuteGoesBy_24 rfl fl_X0_58 rfl (b_o hs) (b_no hs) ?_
    refine J_icmp_ge (pc' := 30) (tgt := 45) dX0_minuteGoesBy_27 rfl (by decide) (fun c10 => ?_) (fun c10 => ?_)
    · replace h := j_ip c10 h
      refine J_sub [2] (lv' := [(2, .int x2)]) rfl ?_
      exact hK x2 x3 M hs ha1 h
    · replace h := j_iq c10 h
      refine J_iload_n (pc' := 31) (i := 2) (n := 2) dX0_minuteGoesBy_30 rfl rfl rfl ?_
      refine J_aload_n (pc' := 32) (i := 0) (n := 0) dX0_minuteGoesBy_31 rfl rfl rfl ?_
      refine J_aload_n (pc' := 33) (i := 1) (n := 1) dX0_minuteGoesBy_32 rfl rfl rfl ?_
      refine J_iload_n (pc' := 34) (i := 3) (n := 3) dX0_minuteGoesBy_33 rfl rfl rfl ?_
      obtain ⟨q11, e12, h⟩ := bi_inv h
      obtain ⟨c13, h⟩ := j_ck_inv h
      refine J_callV (pc' := 37) (as := [.ref a1, .int x3]) (rest := [.int x2]) dX0_minuteGoesBy_34 rfl lk_X0_124 rfl 0 (by decide) rfl (b_o hs) (b_no hs) (c_X0_swimsAMinute hs ⟨(a_s ha1), (a_n ha1)⟩ e12) ⟨Nat.le_of_ble_eq_true rfl, Nat.le_of_ble_eq_true rfl⟩ (Nat.le_of_ble_eq_true rfl) ⟨Nat.le_of_ble_eq_true rfl, Nat.le_of_ble_eq_true rfl⟩ (j_kq ?_)
      have g14 : sh_b b q11.2.2.2 := j_shE c13 hs
      have g15 : sh_a a1 22 q11.2.2.2 := j_shE c13 ha1
      refine J_iadd (pc' := 38) dX0_minuteGoesBy_37 rfl ?_
      refine J_istore_n (pc' := 39) (i := 2) (lv' := [(2, .int (x2 + q11.1)), (0, .ref b), (1, .ref a1), (3, .int x3)]) dX0_minuteGoesBy_38 rfl rfl (by decide) rfl ?_
      refine J_iinc (pc' := 42) (i := 3) (n := 3) (v := (x3 + (1 : Int32))) (lv' := [(3, .int (x3 + (1 : Int32))), (2, .int (x2 + q11.1)), (0, .ref b), (1, .ref a1)]) dX0_minuteGoesBy_39 rfl rfl (j_inc _ _ rfl _) (by decide) rfl ?_
      refine J_goto (pc' := 22) dX0_minuteGoesBy_42 (by decide) ?_
      refine J_sub [2, 3, 1, 0] (lv' := [(0, .ref b), (1, .ref a1), (2, .int (x2 + q11.1)), (3, .int (x3 + (1 : Int32)))]) rfl ?_
      exact ih g14 g15 h hK
set_option maxHeartbeats 4000000 in
theorem c_X0_minuteGoesBy {l : Launch} {G : j_G} {M : j_M} {b : Nat} {a1 : Nat} (hs : sh_b b M.2.2) (ha1 : sh_a a1 22 M.2.2) {r : (Int32 × j_M)} (h : f_X0_minuteGoesBy M b a1 = some r) : j_Sp l G md_X0_minuteGoesBy 8 (0, 0) [.ref b, .ref a1] M (po (some (.int r.1)) r.2) := by
  refine j_Sp.of (by decide) (Nat.le_of_ble_eq_true rfl) ?_
  show JT_X0_minuteGoesBy l G r 0 [(0, .ref b), (1, .ref a1)] [] M
  unfold f_X0_minuteGoesBy at h
  refine J_aload_n (pc' := 1) (i := 1) (n := 1) dX0_minuteGoesBy_0 rfl rfl rfl ?_
  refine J_iconst (pc' := 2) (v := (0 : Int32)) dX0_minuteGoesBy_1 rfl ic_0 ?_
  obtain ⟨v1, e2, h⟩ := a_i_inv h
  refine J_ialde (pc' := 3) dX0_minuteGoesBy_2 rfl (a_s ha1) (a_n ha1) e2 ?_
  refine J_sipush (pc' := 6) (v := (999 : Int32)) dX0_minuteGoesBy_3 rfl sp_999 ?_
  refine J_icmp_lt (pc' := 9) (tgt := 11) dX0_minuteGoesBy_6 rfl (by decide) (fun c3 => ?_) (fun c3 => ?_)
  · replace h := j_ip c3 h
    refine J_aload_n (pc' := 12) (i := 1) (n := 1) dX0_minuteGoesBy_11 rfl rfl rfl ?_
    refine J_iconst (pc' := 13) (v := (0 : Int32)) dX0_minuteGoesBy_12 rfl ic_0 ?_
    refine J_dup2 (pc' := 14) dX0_minuteGoesBy_13 rfl rfl rfl ?_
    obtain ⟨v4, e5, h⟩ := a_i_inv h
    refine J_ialde (pc' := 15) dX0_minuteGoesBy_14 rfl (a_s ha1) (a_n ha1) e5 ?_
    refine J_iconst (pc' := 16) (v := (1 : Int32)) dX0_minuteGoesBy_15 rfl ic_1 ?_
    refine J_iadd (pc' := 17) dX0_minuteGoesBy_16 rfl ?_
    obtain ⟨M6, e7, h⟩ := w_i_inv h
    have g8 : sh_b b M6.2.2 := j_shI e7.2 hs
    have g9 : sh_a a1 22 M6.2.2 := j_shI e7.2 ha1
    refine J_iaste (pc' := 18) dX0_minuteGoesBy_17 rfl (a_s ha1) (a_n ha1) e7 ?_
    refine J_iconst (pc' := 19) (v := (0 : Int32)) dX0_minuteGoesBy_18 rfl ic_0 ?_
    refine J_istore_n (pc' := 20) (i := 2) (lv' := [(2, .int (0 : Int32)), (0, .ref b), (1, .ref a1)]) dX0_minuteGoesBy_19 rfl rfl (by decide) rfl ?_
    refine J_iconst (pc' := 21) (v := (0 : Int32)) dX0_minuteGoesBy_20 rfl ic_0 ?_
    refine J_istore_n (pc' := 22) (i := 3) (lv' := [(3, .int (0 : Int32)), (2, .int (0 : Int32)), (0, .ref b), (1, .ref a1)]) dX0_minuteGoesBy_21 rfl rfl (by decide) rfl ?_
    refine J_sub [2, 3, 1, 0] (lv' := [(0, .ref b), (1, .ref a1), (2, .int (0 : Int32)), (3, .int (0 : Int32))]) rfl ?_
    refine L_X0_minuteGoesBy_L22 j_fu g8 g9 h (fun y16 y17 M18 g19 g20 h => ?_)
    refine J_iload_n (pc' := 46) (i := 2) (n := 0) dX0_minuteGoesBy_45 rfl rfl rfl ?_
    exact J_iret rfl dX0_minuteGoesBy_46 ⟨rfl, Nat.le_refl _⟩ (j_pW h)
  · replace h := j_iq c3 h
    refine J_iconst (pc' := 10) (v := (0 : Int32)) dX0_minuteGoesBy_9 rfl ic_0 ?_
    exact J_iret rfl dX0_minuteGoesBy_10 ⟨rfl, Nat.le_refl _⟩ (j_pW h)
abbrev JT_X0_writeDown (l : Launch) (G : j_G) (r : (Int32 × j_M)) : Nat → List (Nat × Value) → List Value → j_M → Prop := JJ l G md_X0_writeDown (j_rm 1 (0, 0)) (0, 0) (0, 0) (po (some (.int r.1)) r.2)
noncomputable def f_X0_writeDown (M : j_M) (b : Nat) (x1 : Int32) (x2 : Int32) (x3 : Int32) (x4 : Int32) (x5 : Int32) : Option (Int32 × j_M) :=
  if (j_I M b 11) < (6 : Int32) then (w_i M (b + 7) 30 ((j_I M b 11) * (5 : Int32)) x1 fun M2 => (w_i M2 (b + 7) 30 (((j_I M b 11) * (5 : Int32)) + (1 : Int32)) x2 fun M5 => (w_i M5 (b + 7) 30 (((j_I M b 11) * (5 : Int32)) + (2 : Int32)) x3 fun M8 => (w_i M8 (b + 7) 30 (((j_I M b 11) * (5 : Int32)) + (3 : Int32)) x4 fun M11 => (w_i M11 (b + 7) 30 (((j_I M b 11) * (5 : Int32)) + (4 : Int32)) x5 fun M14 => (tl (j_sI M14 b 11 ((j_I M14 b 11) + (1 : Int32))) fun M17 => (some ((j_I M17 b 11), M17)))))))) else (some (((-1) : Int32), M))
set_option maxHeartbeats 4000000 in
theorem c_X0_writeDown {l : Launch} {G : j_G} {M : j_M} {b : Nat} {x1 : Int32} {x2 : Int32} {x3 : Int32} {x4 : Int32} {x5 : Int32} (hs : sh_b b M.2.2) {r : (Int32 × j_M)} (h : f_X0_writeDown M b x1 x2 x3 x4 x5 = some r) : j_Sp l G md_X0_writeDown 1 (0, 0) [.ref b, .int x1, .int x2, .int x3, .int x4, .int x5] M (po (some (.int r.1)) r.2) := by
  refine j_Sp.of (by decide) (Nat.le_of_ble_eq_true rfl) ?_
  show JT_X0_writeDown l G r 0 [(0, .ref b), (1, .int x1), (2, .int x2), (3, .int x3), (4, .int x4), (5, .int x5)] [] M
  unfold f_X0_writeDown at h
  refine J_aload_n (pc' := 1) (i := 0) (n := 0) dX0_writeDown_0 rfl rfl rfl ?_
  refine J_getI (pc' := 4) dX0_writeDown_1 rfl fl_X0_65 rfl (b_o hs) (b_no hs) ?_
  refine J_bipush (pc' := 6) (v := (6 : Int32)) dX0_writeDown_4 rfl bp_6 ?_
  refine J_icmp_lt (pc' := 9) (tgt := 11) dX0_writeDown_6 rfl (by decide) (fun c1 => ?_) (fun c1 => ?_)
  · replace h := j_ip c1 h
    refine J_aload_n (pc' := 12) (i := 0) (n := 0) dX0_writeDown_11 rfl rfl rfl ?_
    refine J_getI (pc' := 15) dX0_writeDown_12 rfl fl_X0_65 rfl (b_o hs) (b_no hs) ?_
    refine J_iconst (pc' := 16) (v := (5 : Int32)) dX0_writeDown_15 rfl ic_5 ?_
    refine J_imul (pc' := 17) dX0_writeDown_16 rfl ?_
    refine J_istore (pc' := 19) (i := 6) (lv' := [(6, .int ((j_I M b 11) * (5 : Int32))), (0, .ref b), (1, .int x1), (2, .int x2), (3, .int x3), (4, .int x4), (5, .int x5)]) dX0_writeDown_17 rfl (by decide) rfl ?_
    refine J_aload_n (pc' := 20) (i := 0) (n := 1) dX0_writeDown_19 rfl rfl rfl ?_
    refine J_getR (pc' := 23) (b := (b + 7)) dX0_writeDown_20 rfl fl_X0_30 rfl (b_o hs) (b_no hs) (b_r7 hs) ?_
    refine J_iload (pc' := 25) (i := 6) (n := 0) dX0_writeDown_23 rfl rfl ?_
    refine J_iload_n (pc' := 26) (i := 1) (n := 2) dX0_writeDown_25 rfl rfl rfl ?_
    obtain ⟨M2, e3, h⟩ := w_i_inv h
    have g4 : sh_b b M2.2.2 := j_shI e3.2 hs
    refine J_iaste (pc' := 27) dX0_writeDown_26 rfl (b_s7 hs) (b_n hs (Nat.le_of_ble_eq_true rfl)) e3 ?_
    refine J_aload_n (pc' := 28) (i := 0) (n := 1) dX0_writeDown_27 rfl rfl rfl ?_
    refine J_getR (pc' := 31) (b := (b + 7)) dX0_writeDown_28 rfl fl_X0_30 rfl (b_o g4) (b_no g4) (b_r7 g4) ?_
    refine J_iload (pc' := 33) (i := 6) (n := 0) dX0_writeDown_31 rfl rfl ?_
    refine J_iconst (pc' := 34) (v := (1 : Int32)) dX0_writeDown_33 rfl ic_1 ?_
    refine J_iadd (pc' := 35) dX0_writeDown_34 rfl ?_
    refine J_iload_n (pc' := 36) (i := 2) (n := 3) dX0_writeDown_35 rfl rfl rfl ?_
    obtain ⟨M5, e6, h⟩ := w_i_inv h
    have g7 : sh_b b M5.2.2 := j_shI e6.2 g4
    refine J_iaste (pc' := 37) dX0_writeDown_36 rfl (b_s7 g4) (b_n g4 (Nat.le_of_ble_eq_true rfl)) e6 ?_
    refine J_aload_n (pc' := 38) (i := 0) (n := 1) dX0_writeDown_37 rfl rfl rfl ?_
    refine J_getR (pc' := 41) (b := (b + 7)) dX0_writeDown_38 rfl fl_X0_30 rfl (b_o g7) (b_no g7) (b_r7 g7) ?_
    refine J_iload (pc' := 43) (i := 6) (n := 0) dX0_writeDown_41 rfl rfl ?_
    refine J_iconst (pc' := 44) (v := (2 : Int32)) dX0_writeDown_43 rfl ic_2 ?_
    refine J_iadd (pc' := 45) dX0_writeDown_44 rfl ?_
    refine J_iload_n (pc' := 46) (i := 3) (n := 4) dX0_writeDown_45 rfl rfl rfl ?_
    obtain ⟨M8, e9, h⟩ := w_i_inv h
    have g10 : sh_b b M8.2.2 := j_shI e9.2 g7
    refine J_iaste (pc' := 47) dX0_writeDown_46 rfl (b_s7 g7) (b_n g7 (Nat.le_of_ble_eq_true rfl)) e9 ?_
    refine J_aload_n (pc' := 48) (i := 0) (n := 1) dX0_writeDown_47 rfl rfl rfl ?_
    refine J_getR (pc' := 51) (b := (b + 7)) dX0_writeDown_48 rfl fl_X0_30 rfl (b_o g10) (b_no g10) (b_r7 g10) ?_
    refine J_iload (pc' := 53) (i := 6) (n := 0) dX0_writeDown_51 rfl rfl ?_
    refine J_iconst (pc' := 54) (v := (3 : Int32)) dX0_writeDown_53 rfl ic_3 ?_
    refine J_iadd (pc' := 55) dX0_writeDown_54 rfl ?_
    refine J_iload (pc' := 57) (i := 4) (n := 5) dX0_writeDown_55 rfl rfl ?_
    obtain ⟨M11, e12, h⟩ := w_i_inv h
    have g13 : sh_b b M11.2.2 := j_shI e12.2 g10
    refine J_iaste (pc' := 58) dX0_writeDown_57 rfl (b_s7 g10) (b_n g10 (Nat.le_of_ble_eq_true rfl)) e12 ?_
    refine J_aload_n (pc' := 59) (i := 0) (n := 1) dX0_writeDown_58 rfl rfl rfl ?_
    refine J_getR (pc' := 62) (b := (b + 7)) dX0_writeDown_59 rfl fl_X0_30 rfl (b_o g13) (b_no g13) (b_r7 g13) ?_
    refine J_iload (pc' := 64) (i := 6) (n := 0) dX0_writeDown_62 rfl rfl ?_
    refine J_iconst (pc' := 65) (v := (4 : Int32)) dX0_writeDown_64 rfl ic_4 ?_
    refine J_iadd (pc' := 66) dX0_writeDown_65 rfl ?_
    refine J_iload (pc' := 68) (i := 5) (n := 6) dX0_writeDown_66 rfl rfl ?_
    obtain ⟨M14, e15, h⟩ := w_i_inv h
    have g16 : sh_b b M14.2.2 := j_shI e15.2 g13
    refine J_iaste (pc' := 69) dX0_writeDown_68 rfl (b_s7 g13) (b_n g13 (Nat.le_of_ble_eq_true rfl)) e15 ?_
    refine J_aload_n (pc' := 70) (i := 0) (n := 1) dX0_writeDown_69 rfl rfl rfl ?_
    refine J_dup (pc' := 71) dX0_writeDown_70 rfl rfl ?_
    refine J_getI (pc' := 74) dX0_writeDown_71 rfl fl_X0_65 rfl (b_o g16) (b_no g16) ?_
    refine J_iconst (pc' := 75) (v := (1 : Int32)) dX0_writeDown_74 rfl ic_1 ?_
    refine J_iadd (pc' := 76) dX0_writeDown_75 rfl ?_
    obtain ⟨M17, e18, h⟩ := tl_inv h
    have g19 : sh_b b M17.2.2 := j_shI e18 g16
    refine J_putIe (pc' := 79) dX0_writeDown_76 rfl fl_X0_65 ⟨rfl, rfl, rfl⟩ (b_o g16) (b_no g16) e18 ?_
    refine J_aload_n (pc' := 80) (i := 0) (n := 1) dX0_writeDown_79 rfl rfl rfl ?_
    refine J_getI (pc' := 83) dX0_writeDown_80 rfl fl_X0_65 rfl (b_o g19) (b_no g19) ?_
    exact J_iret rfl dX0_writeDown_83 ⟨rfl, Nat.le_refl _⟩ (j_pW h)
  · replace h := j_iq c1 h
    refine J_iconst (pc' := 10) (v := ((-1) : Int32)) dX0_writeDown_9 rfl ic_m1 ?_
    exact J_iret rfl dX0_writeDown_10 ⟨rfl, Nat.le_refl _⟩ (j_pW h)
abbrev JT_X0_notesFit (l : Launch) (G : j_G) (M : j_M) (r : Int32) : Nat → List (Nat × Value) → List Value → j_M → Prop := JJ l G md_X0_notesFit (j_rm 5 (0, 0)) (0, 0) (0, 0) (po (some (.int r)) M)
noncomputable def f_X0_notesFit_L3 : Nat → Nat → j_M → Int32 → Int32 → Int32 → Int32 → (Int32 → Option Int32) → Option Int32
  | 0, _, _, _, _, _, _, _ => none
  | n + 1, b, M, x1, x2, x3, x4, K =>
    if (j_I M b 11) ≤ x4 then (K x4) else (kd x2 fun k2 => (a_i M (b + 7) 30 ((x4 * (5 : Int32)) + (2 : Int32)) fun v4 => (a_i M (b + 7) 30 ((x4 * (5 : Int32)) + (3 : Int32)) fun v6 => (a_i M (b + 7) 30 ((x4 * (5 : Int32)) + (4 : Int32)) fun v8 => (tl (kt k2 x3 v4 v6 v8) fun v10 => (a_i M (b + 7) 30 (x4 * (5 : Int32)) fun v12 => (if v12 = x1 then (a_i M (b + 7) 30 ((x4 * (5 : Int32)) + (1 : Int32)) fun v15 => (if v15 = v10 then (f_X0_notesFit_L3 n b M x1 x2 x3 (x4 + (1 : Int32)) K) else (some (0 : Int32)))) else (f_X0_notesFit_L3 n b M x1 x2 x3 (x4 + (1 : Int32)) K))))))))
noncomputable def f_X0_notesFit (M : j_M) (b : Nat) (x1 : Int32) (x2 : Int32) (x3 : Int32) : Option Int32 :=
  f_X0_notesFit_L3 j_fu b M x1 x2 x3 (0 : Int32) (fun (y18 : Int32) => (some (1 : Int32)))
set_option maxHeartbeats 4000000 in
theorem L_X0_notesFit_L3 {l : Launch} {G : j_G} {b : Nat} {r : Int32} : ∀ (n : Nat) {x1 : Int32} {x2 : Int32} {x3 : Int32} {x4 : Int32} {M : j_M} (hs : sh_b b M.2.2) {K : Int32 → Option Int32}, f_X0_notesFit_L3 n b M x1 x2 x3 x4 K = some r → (∀ (y4 : Int32), K y4 = some r → JT_X0_notesFit l G M r 90 [] [] M) → JT_X0_notesFit l G M r 3 [(0, .ref b), (1, .int x1), (2, .int x2), (3, .int x3), (4, .int x4)] [] M := by
  intro n
  induction n with
  | zero =>
    intro x1 x2 x3 x4 M hs K h hK
    rw [f_X0_notesFit_L3] at h; cases h
  | succ n ih =>
    intro x1 x2 x3 x4 M hs K h hK
    rw [f_X0_notesFit_L3] at h
    refine J_iload (pc' := 5) (i := 4) (n := 4) dX0_notesFit_3 rfl rfl ?_
    refine J_aload_n (pc' := 6) (i := 0) (n := 0) dX0_notesFit_5 rfl rfl rfl ?_
    refine J_getI (pc' := 9) dX0_notesFit_6 rfl fl_X0_65 rfl (b_o hs) (b_no hs) ?_
    refine J_icmp_ge (pc' := 12) (tgt := 90) dX0_notesFit_9 rfl (by decide) (fun c1 => ?_) (fun c1 => ?_)
    · replace h := j_ip c1 h
      refine J_sub [] (lv' := []) rfl ?_
      exact hK x4  h
    · replace h := j_iq c1 h
      refine J_iload (pc' := 14) (i := 4) (n := 4) dX0_notesFit_12 rfl rfl ?_
      refine J_iconst (pc' := 15) (v := (5 : Int32)) dX0_notesFit_14 rfl ic_5 ?_
      refine J_imul (pc' := 16) dX0_notesFit_15 rfl ?_
      refine J_istore (pc' := 18) (i := 5) (lv' := [(5, .int (x4 * (5 : Int32))), (0, .ref b), (1, .int x1), (2, .int x2), (3, .int x3), (4, .int x4)]) dX0_notesFit_16 rfl (by decide) rfl ?_
      refine J_aload_n (pc' := 19) (i := 0) (n := 1) dX0_notesFit_18 rfl rfl rfl ?_
      refine J_getR (pc' := 22) (b := 10) dX0_notesFit_19 rfl fl_X0_36 rfl (b_o hs) (b_no hs) (b_r0 hs) ?_
      refine J_iload_n (pc' := 23) (i := 2) (n := 3) dX0_notesFit_22 rfl rfl rfl ?_
      obtain ⟨k2, e3, h⟩ := kd_inv h
      refine J_kd (pc' := 24) dX0_notesFit_23 rfl (b_ks hs) (b_kn hs (Nat.le_of_ble_eq_true rfl)) hs e3 ?_
      refine J_iload_n (pc' := 25) (i := 3) (n := 4) dX0_notesFit_24 rfl rfl rfl ?_
      refine J_aload_n (pc' := 26) (i := 0) (n := 1) dX0_notesFit_25 rfl rfl rfl ?_
      refine J_getR (pc' := 29) (b := (b + 7)) dX0_notesFit_26 rfl fl_X0_30 rfl (b_o hs) (b_no hs) (b_r7 hs) ?_
      refine J_iload (pc' := 31) (i := 5) (n := 0) dX0_notesFit_29 rfl rfl ?_
      refine J_iconst (pc' := 32) (v := (2 : Int32)) dX0_notesFit_31 rfl ic_2 ?_
      refine J_iadd (pc' := 33) dX0_notesFit_32 rfl ?_
      obtain ⟨v4, e5, h⟩ := a_i_inv h
      refine J_ialde (pc' := 34) dX0_notesFit_33 rfl (b_s7 hs) (b_n hs (Nat.le_of_ble_eq_true rfl)) e5 ?_
      refine J_aload_n (pc' := 35) (i := 0) (n := 1) dX0_notesFit_34 rfl rfl rfl ?_
      refine J_getR (pc' := 38) (b := (b + 7)) dX0_notesFit_35 rfl fl_X0_30 rfl (b_o hs) (b_no hs) (b_r7 hs) ?_
      refine J_iload (pc' := 40) (i := 5) (n := 0) dX0_notesFit_38 rfl rfl ?_
      refine J_iconst (pc' := 41) (v := (3 : Int32)) dX0_notesFit_40 rfl ic_3 ?_
      refine J_iadd (pc' := 42) dX0_notesFit_41 rfl ?_
      obtain ⟨v6, e7, h⟩ := a_i_inv h
      refine J_ialde (pc' := 43) dX0_notesFit_42 rfl (b_s7 hs) (b_n hs (Nat.le_of_ble_eq_true rfl)) e7 ?_
      refine J_aload_n (pc' := 44) (i := 0) (n := 1) dX0_notesFit_43 rfl rfl rfl ?_
      refine J_getR (pc' := 47) (b := (b + 7)) dX0_notesFit_44 rfl fl_X0_30 rfl (b_o hs) (b_no hs) (b_r7 hs) ?_
      refine J_iload (pc' := 49) (i := 5) (n := 0) dX0_notesFit_47 rfl rfl ?_
      refine J_iconst (pc' := 50) (v := (4 : Int32)) dX0_notesFit_49 rfl ic_4 ?_
      refine J_iadd (pc' := 51) dX0_notesFit_50 rfl ?_
      obtain ⟨v8, e9, h⟩ := a_i_inv h
      refine J_ialde (pc' := 52) dX0_notesFit_51 rfl (b_s7 hs) (b_n hs (Nat.le_of_ble_eq_true rfl)) e9 ?_
      obtain ⟨v10, e11, h⟩ := tl_inv h
      refine J_kt (pc' := 55) (rest := []) dX0_notesFit_52 rfl rfl e3.1 hs e11 ⟨Nat.le_of_ble_eq_true rfl, Nat.le_of_ble_eq_true rfl⟩ (Nat.le_of_ble_eq_true rfl) ⟨Nat.le_of_ble_eq_true rfl, Nat.le_of_ble_eq_true rfl⟩ ?_
      refine J_istore (pc' := 57) (i := 6) (lv' := [(6, .int v10), (5, .int (x4 * (5 : Int32))), (0, .ref b), (1, .int x1), (2, .int x2), (3, .int x3), (4, .int x4)]) dX0_notesFit_55 rfl (by decide) rfl ?_
      refine J_aload_n (pc' := 58) (i := 0) (n := 2) dX0_notesFit_57 rfl rfl rfl ?_
      refine J_getR (pc' := 61) (b := (b + 7)) dX0_notesFit_58 rfl fl_X0_30 rfl (b_o hs) (b_no hs) (b_r7 hs) ?_
      refine J_iload (pc' := 63) (i := 5) (n := 1) dX0_notesFit_61 rfl rfl ?_
      obtain ⟨v12, e13, h⟩ := a_i_inv h
      refine J_ialde (pc' := 64) dX0_notesFit_63 rfl (b_s7 hs) (b_n hs (Nat.le_of_ble_eq_true rfl)) e13 ?_
      refine J_iload_n (pc' := 65) (i := 1) (n := 3) dX0_notesFit_64 rfl rfl rfl ?_
      refine J_icmp_ne (pc' := 68) (tgt := 84) dX0_notesFit_65 rfl (by decide) (fun c14 => ?_) (fun c14 => ?_)
      · replace h := j_iq c14 h
        refine J_iinc (pc' := 87) (i := 4) (n := 6) (v := (x4 + (1 : Int32))) (lv' := [(4, .int (x4 + (1 : Int32))), (6, .int v10), (5, .int (x4 * (5 : Int32))), (0, .ref b), (1, .int x1), (2, .int x2), (3, .int x3)]) dX0_notesFit_84 rfl rfl (j_inc _ _ rfl _) (by decide) rfl ?_
        refine J_goto (pc' := 3) dX0_notesFit_87 (by decide) ?_
        refine J_sub [3, 4, 5, 6, 0] (lv' := [(0, .ref b), (1, .int x1), (2, .int x2), (3, .int x3), (4, .int (x4 + (1 : Int32)))]) rfl ?_
        exact ih hs h hK
      · replace h := j_ip c14 h
        refine J_aload_n (pc' := 69) (i := 0) (n := 2) dX0_notesFit_68 rfl rfl rfl ?_
        refine J_getR (pc' := 72) (b := (b + 7)) dX0_notesFit_69 rfl fl_X0_30 rfl (b_o hs) (b_no hs) (b_r7 hs) ?_
        refine J_iload (pc' := 74) (i := 5) (n := 1) dX0_notesFit_72 rfl rfl ?_
        refine J_iconst (pc' := 75) (v := (1 : Int32)) dX0_notesFit_74 rfl ic_1 ?_
        refine J_iadd (pc' := 76) dX0_notesFit_75 rfl ?_
        obtain ⟨v15, e16, h⟩ := a_i_inv h
        refine J_ialde (pc' := 77) dX0_notesFit_76 rfl (b_s7 hs) (b_n hs (Nat.le_of_ble_eq_true rfl)) e16 ?_
        refine J_iload (pc' := 79) (i := 6) (n := 0) dX0_notesFit_77 rfl rfl ?_
        refine J_icmp_eq (pc' := 82) (tgt := 84) dX0_notesFit_79 rfl (by decide) (fun c17 => ?_) (fun c17 => ?_)
        · replace h := j_ip c17 h
          refine J_iinc (pc' := 87) (i := 4) (n := 6) (v := (x4 + (1 : Int32))) (lv' := [(4, .int (x4 + (1 : Int32))), (6, .int v10), (5, .int (x4 * (5 : Int32))), (0, .ref b), (1, .int x1), (2, .int x2), (3, .int x3)]) dX0_notesFit_84 rfl rfl (j_inc _ _ rfl _) (by decide) rfl ?_
          refine J_goto (pc' := 3) dX0_notesFit_87 (by decide) ?_
          refine J_sub [3, 4, 5, 6, 0] (lv' := [(0, .ref b), (1, .int x1), (2, .int x2), (3, .int x3), (4, .int (x4 + (1 : Int32)))]) rfl ?_
          exact ih hs h hK
        · replace h := j_iq c17 h
          refine J_iconst (pc' := 83) (v := (0 : Int32)) dX0_notesFit_82 rfl ic_0 ?_
          exact J_zret (ty := .boolean) rfl rfl dX0_notesFit_83 ⟨rfl, Nat.le_refl _⟩ (j_pIs h)
set_option maxHeartbeats 4000000 in
theorem c_X0_notesFit {l : Launch} {G : j_G} {M : j_M} {b : Nat} {x1 : Int32} {x2 : Int32} {x3 : Int32} (hs : sh_b b M.2.2) {r : Int32} (h : f_X0_notesFit M b x1 x2 x3 = some r) : j_Sp l G md_X0_notesFit 5 (0, 0) [.ref b, .int x1, .int x2, .int x3] M (po (some (.int r)) M) := by
  refine j_Sp.of (by decide) (Nat.le_of_ble_eq_true rfl) ?_
  show JT_X0_notesFit l G M r 0 [(0, .ref b), (1, .int x1), (2, .int x2), (3, .int x3)] [] M
  unfold f_X0_notesFit at h
  refine J_iconst (pc' := 1) (v := (0 : Int32)) dX0_notesFit_0 rfl ic_0 ?_
  refine J_istore (pc' := 3) (i := 4) (lv' := [(4, .int (0 : Int32)), (0, .ref b), (1, .int x1), (2, .int x2), (3, .int x3)]) dX0_notesFit_1 rfl (by decide) rfl ?_
  refine J_sub [1, 2, 3, 4, 0] (lv' := [(0, .ref b), (1, .int x1), (2, .int x2), (3, .int x3), (4, .int (0 : Int32))]) rfl ?_
  refine L_X0_notesFit_L3 j_fu hs h (fun y18 h => ?_)
  refine J_iconst (pc' := 91) (v := (1 : Int32)) dX0_notesFit_90 rfl ic_1 ?_
  exact J_zret (ty := .boolean) rfl rfl dX0_notesFit_91 ⟨rfl, Nat.le_refl _⟩ (j_pIs h)
abbrev JT_X0_digestFrom (l : Launch) (G : j_G) (M : j_M) (r : Int64) : Nat → List (Nat × Value) → List Value → j_M → Prop := JJ l G md_X0_digestFrom (j_rm 1 (0, 0)) (0, 0) (0, 0) (po (some (.long r)) M)
noncomputable def f_X0_digestFrom_L5 : Nat → Nat → j_M → Int64 → Int32 → (Int64 → Int32 → Option Int64) → Option Int64
  | 0, _, _, _, _, _ => none
  | n + 1, b, M, x3, x5, K =>
    if (4 : Int32) ≤ x5 then (K x3 x5) else (a_i M (b + 1) 4 x5 fun v2 => (a_i M (b + 2) 4 x5 fun v4 => (f_X0_digestFrom_L5 n b M (((31 : Int64) * (((31 : Int64) * x3) + (v2).toInt64)) + (v4).toInt64) (x5 + (1 : Int32)) K)))
noncomputable def f_X0_digestFrom_L50 : Nat → Nat → j_M → Int64 → Int32 → (Int64 → Int32 → Option Int64) → Option Int64
  | 0, _, _, _, _, _ => none
  | n + 1, b, M, x3, x5, K =>
    if (j_I M b 9) ≤ x5 then (K x3 x5) else (a_i M (b + 3) 7 x5 fun v9 => (a_i M (b + 4) 7 x5 fun v11 => (a_i M (b + 5) 22 ((1 : Int32) + x5) fun v13 => (a_i M (b + 5) 22 ((8 : Int32) + x5) fun v15 => (a_i M (b + 5) 22 ((15 : Int32) + x5) fun v17 => (f_X0_digestFrom_L50 n b M (((31 : Int64) * (((31 : Int64) * (((31 : Int64) * (((31 : Int64) * (((31 : Int64) * x3) + (v9).toInt64)) + (v11).toInt64)) + (v13).toInt64)) + (v15).toInt64)) + (v17).toInt64) (x5 + (1 : Int32)) K))))))
noncomputable def f_X0_digestFrom_L151 : Nat → Nat → j_M → Int64 → Int32 → (Int64 → Int32 → Option Int64) → Option Int64
  | 0, _, _, _, _, _ => none
  | n + 1, b, M, x3, x5, K =>
    if ((j_I M b 11) * (5 : Int32)) ≤ x5 then (K x3 x5) else (a_i M (b + 7) 30 x5 fun v22 => (f_X0_digestFrom_L151 n b M (((31 : Int64) * x3) + (v22).toInt64) (x5 + (1 : Int32)) K))
noncomputable def f_X0_digestFrom (M : j_M) (b : Nat) (x1 : Int64) : Option Int64 :=
  f_X0_digestFrom_L5 j_fu b M x1 (0 : Int32) (fun (y6 : Int64) (y7 : Int32) => (f_X0_digestFrom_L50 j_fu b M y6 (0 : Int32) (fun (y19 : Int64) (y20 : Int32) => (f_X0_digestFrom_L151 j_fu b M y19 (0 : Int32) (fun (y24 : Int64) (y25 : Int32) => (some y24))))))
set_option maxHeartbeats 4000000 in
theorem L_X0_digestFrom_L5 {l : Launch} {G : j_G} {b : Nat} {r : Int64} : ∀ (n : Nat) {x3 : Int64} {x5 : Int32} {M : j_M} (hs : sh_b b M.2.2) {K : Int64 → Int32 → Option Int64}, f_X0_digestFrom_L5 n b M x3 x5 K = some r → (∀ (y3 : Int64) (y5 : Int32), K y3 y5 = some r → JT_X0_digestFrom l G M r 47 [(0, .ref b), (3, .long y3)] [] M) → JT_X0_digestFrom l G M r 5 [(0, .ref b), (3, .long x3), (5, .int x5)] [] M := by
  intro n
  induction n with
  | zero =>
    intro x3 x5 M hs K h hK
    rw [f_X0_digestFrom_L5] at h; cases h
  | succ n ih =>
    intro x3 x5 M hs K h hK
    rw [f_X0_digestFrom_L5] at h
    refine J_iload (pc' := 7) (i := 5) (n := 2) dX0_digestFrom_5 rfl rfl ?_
    refine J_iconst (pc' := 8) (v := (4 : Int32)) dX0_digestFrom_7 rfl ic_4 ?_
    refine J_icmp_ge (pc' := 11) (tgt := 47) dX0_digestFrom_8 rfl (by decide) (fun c1 => ?_) (fun c1 => ?_)
    · replace h := j_ip c1 h
      refine J_sub [0, 1] (lv' := [(0, .ref b), (3, .long x3)]) rfl ?_
      exact hK x3 x5  h
    · replace h := j_iq c1 h
      refine J_ldc2 (pc' := 14) (v := (31 : Int64)) dX0_digestFrom_11 rfl wd_888 ?_
      refine J_lload_n (pc' := 15) (i := 3) (n := 1) dX0_digestFrom_14 rfl rfl rfl ?_
      refine J_lmul (pc' := 16) dX0_digestFrom_15 rfl ?_
      refine J_aload_n (pc' := 17) (i := 0) (n := 0) dX0_digestFrom_16 rfl rfl rfl ?_
      refine J_getR (pc' := 20) (b := (b + 1)) dX0_digestFrom_17 rfl fl_X0_11 rfl (b_o hs) (b_no hs) (b_r1 hs) ?_
      refine J_iload (pc' := 22) (i := 5) (n := 2) dX0_digestFrom_20 rfl rfl ?_
      obtain ⟨v2, e3, h⟩ := a_i_inv h
      refine J_ialde (pc' := 23) dX0_digestFrom_22 rfl (b_s1 hs) (b_n hs (Nat.le_of_ble_eq_true rfl)) e3 ?_
      refine J_i2l (pc' := 24) dX0_digestFrom_23 rfl ?_
      refine J_ladd (pc' := 25) dX0_digestFrom_24 rfl ?_
      refine J_lstore_n (pc' := 26) (i := 3) (lv' := [(3, .long (((31 : Int64) * x3) + (v2).toInt64)), (0, .ref b), (5, .int x5)]) dX0_digestFrom_25 rfl rfl (by decide) rfl ?_
      refine J_ldc2 (pc' := 29) (v := (31 : Int64)) dX0_digestFrom_26 rfl wd_888 ?_
      refine J_lload_n (pc' := 30) (i := 3) (n := 0) dX0_digestFrom_29 rfl rfl rfl ?_
      refine J_lmul (pc' := 31) dX0_digestFrom_30 rfl ?_
      refine J_aload_n (pc' := 32) (i := 0) (n := 1) dX0_digestFrom_31 rfl rfl rfl ?_
      refine J_getR (pc' := 35) (b := (b + 2)) dX0_digestFrom_32 rfl fl_X0_15 rfl (b_o hs) (b_no hs) (b_r2 hs) ?_
      refine J_iload (pc' := 37) (i := 5) (n := 2) dX0_digestFrom_35 rfl rfl ?_
      obtain ⟨v4, e5, h⟩ := a_i_inv h
      refine J_ialde (pc' := 38) dX0_digestFrom_37 rfl (b_s2 hs) (b_n hs (Nat.le_of_ble_eq_true rfl)) e5 ?_
      refine J_i2l (pc' := 39) dX0_digestFrom_38 rfl ?_
      refine J_ladd (pc' := 40) dX0_digestFrom_39 rfl ?_
      refine J_lstore_n (pc' := 41) (i := 3) (lv' := [(3, .long (((31 : Int64) * (((31 : Int64) * x3) + (v2).toInt64)) + (v4).toInt64)), (0, .ref b), (5, .int x5)]) dX0_digestFrom_40 rfl rfl (by decide) rfl ?_
      refine J_iinc (pc' := 44) (i := 5) (n := 2) (v := (x5 + (1 : Int32))) (lv' := [(5, .int (x5 + (1 : Int32))), (3, .long (((31 : Int64) * (((31 : Int64) * x3) + (v2).toInt64)) + (v4).toInt64)), (0, .ref b)]) dX0_digestFrom_41 rfl rfl (j_inc _ _ rfl _) (by decide) rfl ?_
      refine J_goto (pc' := 5) dX0_digestFrom_44 (by decide) ?_
      refine J_sub [2, 1, 0] (lv' := [(0, .ref b), (3, .long (((31 : Int64) * (((31 : Int64) * x3) + (v2).toInt64)) + (v4).toInt64)), (5, .int (x5 + (1 : Int32)))]) rfl ?_
      exact ih hs h hK
set_option maxHeartbeats 4000000 in
theorem L_X0_digestFrom_L50 {l : Launch} {G : j_G} {b : Nat} {r : Int64} : ∀ (n : Nat) {x3 : Int64} {x5 : Int32} {M : j_M} (hs : sh_b b M.2.2) {K : Int64 → Int32 → Option Int64}, f_X0_digestFrom_L50 n b M x3 x5 K = some r → (∀ (y3 : Int64) (y5 : Int32), K y3 y5 = some r → JT_X0_digestFrom l G M r 148 [(0, .ref b), (3, .long y3)] [] M) → JT_X0_digestFrom l G M r 50 [(0, .ref b), (3, .long x3), (5, .int x5)] [] M := by
  intro n
  induction n with
  | zero =>
    intro x3 x5 M hs K h hK
    rw [f_X0_digestFrom_L50] at h; cases h
  | succ n ih =>
    intro x3 x5 M hs K h hK
    rw [f_X0_digestFrom_L50] at h
    refine J_iload (pc' := 52) (i := 5) (n := 2) dX0_digestFrom_50 rfl rfl ?_
    refine J_aload_n (pc' := 53) (i := 0) (n := 0) dX0_digestFrom_52 rfl rfl rfl ?_
    refine J_getI (pc' := 56) dX0_digestFrom_53 rfl fl_X0_58 rfl (b_o hs) (b_no hs) ?_
    refine J_icmp_ge (pc' := 59) (tgt := 148) dX0_digestFrom_56 rfl (by decide) (fun c8 => ?_) (fun c8 => ?_)
    · replace h := j_ip c8 h
      refine J_sub [0, 1] (lv' := [(0, .ref b), (3, .long x3)]) rfl ?_
      exact hK x3 x5  h
    · replace h := j_iq c8 h
      refine J_ldc2 (pc' := 62) (v := (31 : Int64)) dX0_digestFrom_59 rfl wd_888 ?_
      refine J_lload_n (pc' := 63) (i := 3) (n := 1) dX0_digestFrom_62 rfl rfl rfl ?_
      refine J_lmul (pc' := 64) dX0_digestFrom_63 rfl ?_
      refine J_aload_n (pc' := 65) (i := 0) (n := 0) dX0_digestFrom_64 rfl rfl rfl ?_
      refine J_getR (pc' := 68) (b := (b + 3)) dX0_digestFrom_65 rfl fl_X0_18 rfl (b_o hs) (b_no hs) (b_r3 hs) ?_
      refine J_iload (pc' := 70) (i := 5) (n := 2) dX0_digestFrom_68 rfl rfl ?_
      obtain ⟨v9, e10, h⟩ := a_i_inv h
      refine J_ialde (pc' := 71) dX0_digestFrom_70 rfl (b_s3 hs) (b_n hs (Nat.le_of_ble_eq_true rfl)) e10 ?_
      refine J_i2l (pc' := 72) dX0_digestFrom_71 rfl ?_
      refine J_ladd (pc' := 73) dX0_digestFrom_72 rfl ?_
      refine J_lstore_n (pc' := 74) (i := 3) (lv' := [(3, .long (((31 : Int64) * x3) + (v9).toInt64)), (0, .ref b), (5, .int x5)]) dX0_digestFrom_73 rfl rfl (by decide) rfl ?_
      refine J_ldc2 (pc' := 77) (v := (31 : Int64)) dX0_digestFrom_74 rfl wd_888 ?_
      refine J_lload_n (pc' := 78) (i := 3) (n := 0) dX0_digestFrom_77 rfl rfl rfl ?_
      refine J_lmul (pc' := 79) dX0_digestFrom_78 rfl ?_
      refine J_aload_n (pc' := 80) (i := 0) (n := 1) dX0_digestFrom_79 rfl rfl rfl ?_
      refine J_getR (pc' := 83) (b := (b + 4)) dX0_digestFrom_80 rfl fl_X0_21 rfl (b_o hs) (b_no hs) (b_r4 hs) ?_
      refine J_iload (pc' := 85) (i := 5) (n := 2) dX0_digestFrom_83 rfl rfl ?_
      obtain ⟨v11, e12, h⟩ := a_i_inv h
      refine J_ialde (pc' := 86) dX0_digestFrom_85 rfl (b_s4 hs) (b_n hs (Nat.le_of_ble_eq_true rfl)) e12 ?_
      refine J_i2l (pc' := 87) dX0_digestFrom_86 rfl ?_
      refine J_ladd (pc' := 88) dX0_digestFrom_87 rfl ?_
      refine J_lstore_n (pc' := 89) (i := 3) (lv' := [(3, .long (((31 : Int64) * (((31 : Int64) * x3) + (v9).toInt64)) + (v11).toInt64)), (0, .ref b), (5, .int x5)]) dX0_digestFrom_88 rfl rfl (by decide) rfl ?_
      refine J_ldc2 (pc' := 92) (v := (31 : Int64)) dX0_digestFrom_89 rfl wd_888 ?_
      refine J_lload_n (pc' := 93) (i := 3) (n := 0) dX0_digestFrom_92 rfl rfl rfl ?_
      refine J_lmul (pc' := 94) dX0_digestFrom_93 rfl ?_
      refine J_aload_n (pc' := 95) (i := 0) (n := 1) dX0_digestFrom_94 rfl rfl rfl ?_
      refine J_getR (pc' := 98) (b := (b + 5)) dX0_digestFrom_95 rfl fl_X0_24 rfl (b_o hs) (b_no hs) (b_r5 hs) ?_
      refine J_iconst (pc' := 99) (v := (1 : Int32)) dX0_digestFrom_98 rfl ic_1 ?_
      refine J_iload (pc' := 101) (i := 5) (n := 2) dX0_digestFrom_99 rfl rfl ?_
      refine J_iadd (pc' := 102) dX0_digestFrom_101 rfl ?_
      obtain ⟨v13, e14, h⟩ := a_i_inv h
      refine J_ialde (pc' := 103) dX0_digestFrom_102 rfl (b_s5 hs) (b_n hs (Nat.le_of_ble_eq_true rfl)) e14 ?_
      refine J_i2l (pc' := 104) dX0_digestFrom_103 rfl ?_
      refine J_ladd (pc' := 105) dX0_digestFrom_104 rfl ?_
      refine J_lstore_n (pc' := 106) (i := 3) (lv' := [(3, .long (((31 : Int64) * (((31 : Int64) * (((31 : Int64) * x3) + (v9).toInt64)) + (v11).toInt64)) + (v13).toInt64)), (0, .ref b), (5, .int x5)]) dX0_digestFrom_105 rfl rfl (by decide) rfl ?_
      refine J_ldc2 (pc' := 109) (v := (31 : Int64)) dX0_digestFrom_106 rfl wd_888 ?_
      refine J_lload_n (pc' := 110) (i := 3) (n := 0) dX0_digestFrom_109 rfl rfl rfl ?_
      refine J_lmul (pc' := 111) dX0_digestFrom_110 rfl ?_
      refine J_aload_n (pc' := 112) (i := 0) (n := 1) dX0_digestFrom_111 rfl rfl rfl ?_
      refine J_getR (pc' := 115) (b := (b + 5)) dX0_digestFrom_112 rfl fl_X0_24 rfl (b_o hs) (b_no hs) (b_r5 hs) ?_
      refine J_bipush (pc' := 117) (v := (8 : Int32)) dX0_digestFrom_115 rfl bp_8 ?_
      refine J_iload (pc' := 119) (i := 5) (n := 2) dX0_digestFrom_117 rfl rfl ?_
      refine J_iadd (pc' := 120) dX0_digestFrom_119 rfl ?_
      obtain ⟨v15, e16, h⟩ := a_i_inv h
      refine J_ialde (pc' := 121) dX0_digestFrom_120 rfl (b_s5 hs) (b_n hs (Nat.le_of_ble_eq_true rfl)) e16 ?_
      refine J_i2l (pc' := 122) dX0_digestFrom_121 rfl ?_
      refine J_ladd (pc' := 123) dX0_digestFrom_122 rfl ?_
      refine J_lstore_n (pc' := 124) (i := 3) (lv' := [(3, .long (((31 : Int64) * (((31 : Int64) * (((31 : Int64) * (((31 : Int64) * x3) + (v9).toInt64)) + (v11).toInt64)) + (v13).toInt64)) + (v15).toInt64)), (0, .ref b), (5, .int x5)]) dX0_digestFrom_123 rfl rfl (by decide) rfl ?_
      refine J_ldc2 (pc' := 127) (v := (31 : Int64)) dX0_digestFrom_124 rfl wd_888 ?_
      refine J_lload_n (pc' := 128) (i := 3) (n := 0) dX0_digestFrom_127 rfl rfl rfl ?_
      refine J_lmul (pc' := 129) dX0_digestFrom_128 rfl ?_
      refine J_aload_n (pc' := 130) (i := 0) (n := 1) dX0_digestFrom_129 rfl rfl rfl ?_
      refine J_getR (pc' := 133) (b := (b + 5)) dX0_digestFrom_130 rfl fl_X0_24 rfl (b_o hs) (b_no hs) (b_r5 hs) ?_
      refine J_bipush (pc' := 135) (v := (15 : Int32)) dX0_digestFrom_133 rfl bp_15 ?_
      refine J_iload (pc' := 137) (i := 5) (n := 2) dX0_digestFrom_135 rfl rfl ?_
      refine J_iadd (pc' := 138) dX0_digestFrom_137 rfl ?_
      obtain ⟨v17, e18, h⟩ := a_i_inv h
      refine J_ialde (pc' := 139) dX0_digestFrom_138 rfl (b_s5 hs) (b_n hs (Nat.le_of_ble_eq_true rfl)) e18 ?_
      refine J_i2l (pc' := 140) dX0_digestFrom_139 rfl ?_
      refine J_ladd (pc' := 141) dX0_digestFrom_140 rfl ?_
      refine J_lstore_n (pc' := 142) (i := 3) (lv' := [(3, .long (((31 : Int64) * (((31 : Int64) * (((31 : Int64) * (((31 : Int64) * (((31 : Int64) * x3) + (v9).toInt64)) + (v11).toInt64)) + (v13).toInt64)) + (v15).toInt64)) + (v17).toInt64)), (0, .ref b), (5, .int x5)]) dX0_digestFrom_141 rfl rfl (by decide) rfl ?_
      refine J_iinc (pc' := 145) (i := 5) (n := 2) (v := (x5 + (1 : Int32))) (lv' := [(5, .int (x5 + (1 : Int32))), (3, .long (((31 : Int64) * (((31 : Int64) * (((31 : Int64) * (((31 : Int64) * (((31 : Int64) * x3) + (v9).toInt64)) + (v11).toInt64)) + (v13).toInt64)) + (v15).toInt64)) + (v17).toInt64)), (0, .ref b)]) dX0_digestFrom_142 rfl rfl (j_inc _ _ rfl _) (by decide) rfl ?_
      refine J_goto (pc' := 50) dX0_digestFrom_145 (by decide) ?_
      refine J_sub [2, 1, 0] (lv' := [(0, .ref b), (3, .long (((31 : Int64) * (((31 : Int64) * (((31 : Int64) * (((31 : Int64) * (((31 : Int64) * x3) + (v9).toInt64)) + (v11).toInt64)) + (v13).toInt64)) + (v15).toInt64)) + (v17).toInt64)), (5, .int (x5 + (1 : Int32)))]) rfl ?_
      exact ih hs h hK
set_option maxHeartbeats 4000000 in
theorem L_X0_digestFrom_L151 {l : Launch} {G : j_G} {b : Nat} {r : Int64} : ∀ (n : Nat) {x3 : Int64} {x5 : Int32} {M : j_M} (hs : sh_b b M.2.2) {K : Int64 → Int32 → Option Int64}, f_X0_digestFrom_L151 n b M x3 x5 K = some r → (∀ (y3 : Int64) (y5 : Int32), K y3 y5 = some r → JT_X0_digestFrom l G M r 183 [(3, .long y3)] [] M) → JT_X0_digestFrom l G M r 151 [(0, .ref b), (3, .long x3), (5, .int x5)] [] M := by
  intro n
  induction n with
  | zero =>
    intro x3 x5 M hs K h hK
    rw [f_X0_digestFrom_L151] at h; cases h
  | succ n ih =>
    intro x3 x5 M hs K h hK
    rw [f_X0_digestFrom_L151] at h
    refine J_iload (pc' := 153) (i := 5) (n := 2) dX0_digestFrom_151 rfl rfl ?_
    refine J_aload_n (pc' := 154) (i := 0) (n := 0) dX0_digestFrom_153 rfl rfl rfl ?_
    refine J_getI (pc' := 157) dX0_digestFrom_154 rfl fl_X0_65 rfl (b_o hs) (b_no hs) ?_
    refine J_iconst (pc' := 158) (v := (5 : Int32)) dX0_digestFrom_157 rfl ic_5 ?_
    refine J_imul (pc' := 159) dX0_digestFrom_158 rfl ?_
    refine J_icmp_ge (pc' := 162) (tgt := 183) dX0_digestFrom_159 rfl (by decide) (fun c21 => ?_) (fun c21 => ?_)
    · replace h := j_ip c21 h
      refine J_sub [1] (lv' := [(3, .long x3)]) rfl ?_
      exact hK x3 x5  h
    · replace h := j_iq c21 h
      refine J_ldc2 (pc' := 165) (v := (31 : Int64)) dX0_digestFrom_162 rfl wd_888 ?_
      refine J_lload_n (pc' := 166) (i := 3) (n := 1) dX0_digestFrom_165 rfl rfl rfl ?_
      refine J_lmul (pc' := 167) dX0_digestFrom_166 rfl ?_
      refine J_aload_n (pc' := 168) (i := 0) (n := 0) dX0_digestFrom_167 rfl rfl rfl ?_
      refine J_getR (pc' := 171) (b := (b + 7)) dX0_digestFrom_168 rfl fl_X0_30 rfl (b_o hs) (b_no hs) (b_r7 hs) ?_
      refine J_iload (pc' := 173) (i := 5) (n := 2) dX0_digestFrom_171 rfl rfl ?_
      obtain ⟨v22, e23, h⟩ := a_i_inv h
      refine J_ialde (pc' := 174) dX0_digestFrom_173 rfl (b_s7 hs) (b_n hs (Nat.le_of_ble_eq_true rfl)) e23 ?_
      refine J_i2l (pc' := 175) dX0_digestFrom_174 rfl ?_
      refine J_ladd (pc' := 176) dX0_digestFrom_175 rfl ?_
      refine J_lstore_n (pc' := 177) (i := 3) (lv' := [(3, .long (((31 : Int64) * x3) + (v22).toInt64)), (0, .ref b), (5, .int x5)]) dX0_digestFrom_176 rfl rfl (by decide) rfl ?_
      refine J_iinc (pc' := 180) (i := 5) (n := 2) (v := (x5 + (1 : Int32))) (lv' := [(5, .int (x5 + (1 : Int32))), (3, .long (((31 : Int64) * x3) + (v22).toInt64)), (0, .ref b)]) dX0_digestFrom_177 rfl rfl (j_inc _ _ rfl _) (by decide) rfl ?_
      refine J_goto (pc' := 151) dX0_digestFrom_180 (by decide) ?_
      refine J_sub [2, 1, 0] (lv' := [(0, .ref b), (3, .long (((31 : Int64) * x3) + (v22).toInt64)), (5, .int (x5 + (1 : Int32)))]) rfl ?_
      exact ih hs h hK
set_option maxHeartbeats 4000000 in
theorem c_X0_digestFrom {l : Launch} {G : j_G} {M : j_M} {b : Nat} {x1 : Int64} (hs : sh_b b M.2.2) {r : Int64} (h : f_X0_digestFrom M b x1 = some r) : j_Sp l G md_X0_digestFrom 1 (0, 0) [.ref b, .long x1] M (po (some (.long r)) M) := by
  refine j_Sp.of (by decide) (Nat.le_of_ble_eq_true rfl) ?_
  show JT_X0_digestFrom l G M r 0 [(0, .ref b), (1, .long x1)] [] M
  unfold f_X0_digestFrom at h
  refine J_lload_n (pc' := 1) (i := 1) (n := 1) dX0_digestFrom_0 rfl rfl rfl ?_
  refine J_lstore_n (pc' := 2) (i := 3) (lv' := [(3, .long x1), (0, .ref b), (1, .long x1)]) dX0_digestFrom_1 rfl rfl (by decide) rfl ?_
  refine J_iconst (pc' := 3) (v := (0 : Int32)) dX0_digestFrom_2 rfl ic_0 ?_
  refine J_istore (pc' := 5) (i := 5) (lv' := [(5, .int (0 : Int32)), (3, .long x1), (0, .ref b), (1, .long x1)]) dX0_digestFrom_3 rfl (by decide) rfl ?_
  refine J_sub [2, 1, 0] (lv' := [(0, .ref b), (3, .long x1), (5, .int (0 : Int32))]) rfl ?_
  refine L_X0_digestFrom_L5 j_fu hs h (fun y6 y7 h => ?_)
  refine J_iconst (pc' := 48) (v := (0 : Int32)) dX0_digestFrom_47 rfl ic_0 ?_
  refine J_istore (pc' := 50) (i := 5) (lv' := [(5, .int (0 : Int32)), (0, .ref b), (3, .long y6)]) dX0_digestFrom_48 rfl (by decide) rfl ?_
  refine J_sub [1, 2, 0] (lv' := [(0, .ref b), (3, .long y6), (5, .int (0 : Int32))]) rfl ?_
  refine L_X0_digestFrom_L50 j_fu hs h (fun y19 y20 h => ?_)
  refine J_iconst (pc' := 149) (v := (0 : Int32)) dX0_digestFrom_148 rfl ic_0 ?_
  refine J_istore (pc' := 151) (i := 5) (lv' := [(5, .int (0 : Int32)), (0, .ref b), (3, .long y19)]) dX0_digestFrom_149 rfl (by decide) rfl ?_
  refine J_sub [1, 2, 0] (lv' := [(0, .ref b), (3, .long y19), (5, .int (0 : Int32))]) rfl ?_
  refine L_X0_digestFrom_L151 j_fu hs h (fun y24 y25 h => ?_)
  refine J_lload_n (pc' := 184) (i := 3) (n := 0) dX0_digestFrom_183 rfl rfl rfl ?_
  exact J_lret rfl dX0_digestFrom_184 ⟨rfl, Nat.le_refl _⟩ (j_pLs h)
abbrev JT_X7_add (l : Launch) (G : j_G) (r : (Int32 × j_M)) : Nat → List (Nat × Value) → List Value → j_M → Prop := JJ l G md_X7_add (j_rm 1 (0, 0)) (0, 0) (0, 0) (po (some (.int r.1)) r.2)
noncomputable def f_X7_add (M : j_M) (x1 : Int32) : Option (Int32 × j_M) :=
  jn (fun (M2 : j_M) => (some ((j_I M2 7 1), M2))) (fun K3 => (if (150 : Int32) ≤ (j_I M 7 1) then (K3 M) else (w_i M 8 150 (j_I M 7 1) (vp_nar .char ((x1).toUInt32 % 65536).toInt32) fun M6 => (tl (j_sI M6 7 1 ((j_I M6 7 1) + (1 : Int32))) fun M9 => (K3 M9)))))
set_option maxHeartbeats 4000000 in
theorem c_X7_add {l : Launch} {G : j_G} {M : j_M} {x1 : Int32} (hs : sh_x M.2.2) {r : (Int32 × j_M)} (h : f_X7_add M x1 = some r) : j_Sp l G md_X7_add 1 (0, 0) [.ref 7, .int x1] M (po (some (.int r.1)) r.2) := by
  refine j_Sp.of (by decide) (Nat.le_of_ble_eq_true rfl) ?_
  show JT_X7_add l G r 0 [(0, .ref 7), (1, .int x1)] [] M
  unfold f_X7_add at h
  refine J_aload_n (pc' := 1) (i := 0) (n := 0) dX7_add_0 rfl rfl rfl ?_
  refine J_getI (pc' := 4) dX7_add_1 rfl fl_X7_15 rfl (x_o7 hs) (x_n hs (Nat.le_of_ble_eq_true rfl)) ?_
  refine J_sipush (pc' := 7) (v := (150 : Int32)) dX7_add_4 rfl sp_150 ?_
  refine J_join (C := fun (M2 : j_M) => sh_x M2.2.2 → JT_X7_add l G r 31 [(0, .ref 7)] [] M2) h (fun M2 h => ?_) (fun K3 h4 h => ?_)
  · intro g5
    refine J_aload_n (pc' := 32) (i := 0) (n := 0) dX7_add_31 rfl rfl rfl ?_
    refine J_getI (pc' := 35) dX7_add_32 rfl fl_X7_15 rfl (x_o7 g5) (x_n g5 (Nat.le_of_ble_eq_true rfl)) ?_
    exact J_iret rfl dX7_add_35 ⟨rfl, Nat.le_refl _⟩ (j_pW h)
  · refine J_icmp_ge (pc' := 10) (tgt := 31) dX7_add_7 rfl (by decide) (fun c1 => ?_) (fun c1 => ?_)
    · replace h := j_ip c1 h
      refine J_sub [0] (lv' := [(0, .ref 7)]) rfl ?_
      exact h4 M h hs
    · replace h := j_iq c1 h
      refine J_aload_n (pc' := 11) (i := 0) (n := 0) dX7_add_10 rfl rfl rfl ?_
      refine J_getR (pc' := 14) (b := 8) dX7_add_11 rfl fl_X7_11 rfl (x_o7 hs) (x_n hs (Nat.le_of_ble_eq_true rfl)) (x_t0 hs) ?_
      refine J_aload_n (pc' := 15) (i := 0) (n := 0) dX7_add_14 rfl rfl rfl ?_
      refine J_getI (pc' := 18) dX7_add_15 rfl fl_X7_15 rfl (x_o7 hs) (x_n hs (Nat.le_of_ble_eq_true rfl)) ?_
      refine J_iload_n (pc' := 19) (i := 1) (n := 1) dX7_add_18 rfl rfl rfl ?_
      refine J_i2c (pc' := 20) dX7_add_19 rfl ?_
      obtain ⟨M6, e7, h⟩ := w_i_inv h
      have g8 : sh_x M6.2.2 := j_shI e7.2 hs
      refine J_caste (pc' := 21) dX7_add_20 rfl (x_s8 hs) (x_n hs (Nat.le_of_ble_eq_true rfl)) e7 ?_
      refine J_aload_n (pc' := 22) (i := 0) (n := 0) dX7_add_21 rfl rfl rfl ?_
      refine J_dup (pc' := 23) dX7_add_22 rfl rfl ?_
      refine J_getI (pc' := 26) dX7_add_23 rfl fl_X7_15 rfl (x_o7 g8) (x_n g8 (Nat.le_of_ble_eq_true rfl)) ?_
      refine J_iconst (pc' := 27) (v := (1 : Int32)) dX7_add_26 rfl ic_1 ?_
      refine J_iadd (pc' := 28) dX7_add_27 rfl ?_
      obtain ⟨M9, e10, h⟩ := tl_inv h
      have g11 : sh_x M9.2.2 := j_shI e10 g8
      refine J_putIe (pc' := 31) dX7_add_28 rfl fl_X7_15 ⟨rfl, rfl, rfl⟩ (x_o7 g8) (x_n g8 (Nat.le_of_ble_eq_true rfl)) e10 ?_
      refine J_sub [0] (lv' := [(0, .ref 7)]) rfl ?_
      exact h4 M9 h g11
abbrev JT_X7_sortAt (l : Launch) (G : j_G) (M : j_M) (r : Int32) : Nat → List (Nat × Value) → List Value → j_M → Prop := JJ l G md_X7_sortAt (j_rm 1 (0, 0)) (0, 0) (0, 0) (po (some (.int r)) M)
noncomputable def f_X7_sortAt (M : j_M) (x1 : Int32) : Option Int32 :=
  a_i M 8 150 x1 fun v1 => (if v1 < (97 : Int32) then (if v1 < (48 : Int32) then (some (3 : Int32)) else (if (57 : Int32) < v1 then (some (3 : Int32)) else (some (2 : Int32)))) else (if (122 : Int32) < v1 then (if v1 < (48 : Int32) then (some (3 : Int32)) else (if (57 : Int32) < v1 then (some (3 : Int32)) else (some (2 : Int32)))) else (some (1 : Int32))))
set_option maxHeartbeats 4000000 in
theorem c_X7_sortAt {l : Launch} {G : j_G} {M : j_M} {x1 : Int32} (hs : sh_x M.2.2) {r : Int32} (h : f_X7_sortAt M x1 = some r) : j_Sp l G md_X7_sortAt 1 (0, 0) [.ref 7, .int x1] M (po (some (.int r)) M) := by
  refine j_Sp.of (by decide) (Nat.le_of_ble_eq_true rfl) ?_
  show JT_X7_sortAt l G M r 0 [(0, .ref 7), (1, .int x1)] [] M
  unfold f_X7_sortAt at h
  refine J_aload_n (pc' := 1) (i := 0) (n := 0) dX7_sortAt_0 rfl rfl rfl ?_
  refine J_getR (pc' := 4) (b := 8) dX7_sortAt_1 rfl fl_X7_11 rfl (x_o7 hs) (x_n hs (Nat.le_of_ble_eq_true rfl)) (x_t0 hs) ?_
  refine J_iload_n (pc' := 5) (i := 1) (n := 1) dX7_sortAt_4 rfl rfl rfl ?_
  obtain ⟨v1, e2, h⟩ := a_i_inv h
  refine J_calde (pc' := 6) dX7_sortAt_5 rfl (x_s8 hs) (x_n hs (Nat.le_of_ble_eq_true rfl)) e2 ?_
  refine J_istore_n (pc' := 7) (i := 2) (lv' := [(2, .int v1), (0, .ref 7), (1, .int x1)]) dX7_sortAt_6 rfl rfl (by decide) rfl ?_
  refine J_iload_n (pc' := 8) (i := 2) (n := 0) dX7_sortAt_7 rfl rfl rfl ?_
  refine J_bipush (pc' := 10) (v := (97 : Int32)) dX7_sortAt_8 rfl bp_97 ?_
  refine J_icmp_lt (pc' := 13) (tgt := 21) dX7_sortAt_10 rfl (by decide) (fun c3 => ?_) (fun c3 => ?_)
  · replace h := j_ip c3 h
    refine J_iload_n (pc' := 22) (i := 2) (n := 0) dX7_sortAt_21 rfl rfl rfl ?_
    refine J_bipush (pc' := 24) (v := (48 : Int32)) dX7_sortAt_22 rfl bp_48 ?_
    refine J_icmp_lt (pc' := 27) (tgt := 37) dX7_sortAt_24 rfl (by decide) (fun c4 => ?_) (fun c4 => ?_)
    · replace h := j_ip c4 h
      refine J_iconst (pc' := 38) (v := (3 : Int32)) dX7_sortAt_37 rfl ic_3 ?_
      exact J_iret rfl dX7_sortAt_38 ⟨rfl, Nat.le_refl _⟩ (j_pIs h)
    · replace h := j_iq c4 h
      refine J_iload_n (pc' := 28) (i := 2) (n := 0) dX7_sortAt_27 rfl rfl rfl ?_
      refine J_bipush (pc' := 30) (v := (57 : Int32)) dX7_sortAt_28 rfl bp_57 ?_
      refine J_icmp_gt (pc' := 33) (tgt := 37) dX7_sortAt_30 rfl (by decide) (fun c5 => ?_) (fun c5 => ?_)
      · replace h := j_ip c5 h
        refine J_iconst (pc' := 38) (v := (3 : Int32)) dX7_sortAt_37 rfl ic_3 ?_
        exact J_iret rfl dX7_sortAt_38 ⟨rfl, Nat.le_refl _⟩ (j_pIs h)
      · replace h := j_iq c5 h
        refine J_iconst (pc' := 34) (v := (2 : Int32)) dX7_sortAt_33 rfl ic_2 ?_
        refine J_goto (pc' := 38) dX7_sortAt_34 (by decide) ?_
        exact J_iret rfl dX7_sortAt_38 ⟨rfl, Nat.le_refl _⟩ (j_pIs h)
  · replace h := j_iq c3 h
    refine J_iload_n (pc' := 14) (i := 2) (n := 0) dX7_sortAt_13 rfl rfl rfl ?_
    refine J_bipush (pc' := 16) (v := (122 : Int32)) dX7_sortAt_14 rfl bp_122 ?_
    refine J_icmp_gt (pc' := 19) (tgt := 21) dX7_sortAt_16 rfl (by decide) (fun c6 => ?_) (fun c6 => ?_)
    · replace h := j_ip c6 h
      refine J_iload_n (pc' := 22) (i := 2) (n := 0) dX7_sortAt_21 rfl rfl rfl ?_
      refine J_bipush (pc' := 24) (v := (48 : Int32)) dX7_sortAt_22 rfl bp_48 ?_
      refine J_icmp_lt (pc' := 27) (tgt := 37) dX7_sortAt_24 rfl (by decide) (fun c7 => ?_) (fun c7 => ?_)
      · replace h := j_ip c7 h
        refine J_iconst (pc' := 38) (v := (3 : Int32)) dX7_sortAt_37 rfl ic_3 ?_
        exact J_iret rfl dX7_sortAt_38 ⟨rfl, Nat.le_refl _⟩ (j_pIs h)
      · replace h := j_iq c7 h
        refine J_iload_n (pc' := 28) (i := 2) (n := 0) dX7_sortAt_27 rfl rfl rfl ?_
        refine J_bipush (pc' := 30) (v := (57 : Int32)) dX7_sortAt_28 rfl bp_57 ?_
        refine J_icmp_gt (pc' := 33) (tgt := 37) dX7_sortAt_30 rfl (by decide) (fun c8 => ?_) (fun c8 => ?_)
        · replace h := j_ip c8 h
          refine J_iconst (pc' := 38) (v := (3 : Int32)) dX7_sortAt_37 rfl ic_3 ?_
          exact J_iret rfl dX7_sortAt_38 ⟨rfl, Nat.le_refl _⟩ (j_pIs h)
        · replace h := j_iq c8 h
          refine J_iconst (pc' := 34) (v := (2 : Int32)) dX7_sortAt_33 rfl ic_2 ?_
          refine J_goto (pc' := 38) dX7_sortAt_34 (by decide) ?_
          exact J_iret rfl dX7_sortAt_38 ⟨rfl, Nat.le_refl _⟩ (j_pIs h)
    · replace h := j_iq c6 h
      refine J_iconst (pc' := 20) (v := (1 : Int32)) dX7_sortAt_19 rfl ic_1 ?_
      exact J_iret rfl dX7_sortAt_20 ⟨rfl, Nat.le_refl _⟩ (j_pIs h)
abbrev JT_X7_next (l : Launch) (G : j_G) (r : j_M) : Nat → List (Nat × Value) → List Value → j_M → Prop := JJ l G md_X7_next (j_rm 2 (0, 0)) (0, 0) (0, 0) (po none r)
noncomputable def f_X7_next_L8 : Nat → j_M → (j_M → Option j_M) → Option j_M
  | 0, _, _ => none
  | n + 1, M, K =>
    if (j_I M 7 1) ≤ (j_I M 7 2) then (K M) else (a_i M 8 150 (j_I M 7 2) fun v5 => (if v5 = (32 : Int32) then (tl (j_sI M 7 2 ((j_I M 7 2) + (1 : Int32))) fun M8 => (f_X7_next_L8 n  M8  K)) else (K M)))
noncomputable def f_X7_next_L84 : Nat → j_M → Int32 → (j_M → Option j_M) → Option j_M
  | 0, _, _, _ => none
  | n + 1, M, x1, K =>
    if (j_I M 7 1) ≤ (j_I M 7 3) then (K M) else (if x1 = (3 : Int32) then (K M) else ((f_X7_sortAt M (j_I M 7 3)).bind fun v24 => (if v24 = x1 then (tl (j_sI M 7 3 ((j_I M 7 3) + (1 : Int32))) fun M27 => (f_X7_next_L84 n  M27 x1 K)) else (K M))))
noncomputable def f_X7_next (M : j_M)  : Option j_M :=
  tl (j_sI M 7 2 (j_I M 7 3)) fun M1 => (f_X7_next_L8 j_fu  M1  (fun (M11 : j_M) => (tl (j_sI M11 7 3 (j_I M11 7 2)) fun M13 => (if (j_I M13 7 1) ≤ (j_I M13 7 3) then (some M13) else ((f_X7_sortAt M13 (j_I M13 7 3)).bind fun v17 => (tl (j_sI M13 7 3 ((j_I M13 7 3) + (1 : Int32))) fun M19 => (f_X7_next_L84 j_fu  M19 v17 (fun (M30 : j_M) => (some M30)))))))))
set_option maxHeartbeats 4000000 in
theorem L_X7_next_L8 {l : Launch} {G : j_G}  {r : j_M} : ∀ (n : Nat)  {M : j_M} (hs : sh_x M.2.2) {K : j_M → Option j_M}, f_X7_next_L8 n  M  K = some r → (∀ (M1 : j_M), sh_x M1.2.2 → K M1 = some r → JT_X7_next l G r 46 [(0, .ref 7)] [] M1) → JT_X7_next l G r 8 [(0, .ref 7)] [] M := by
  intro n
  induction n with
  | zero =>
    intro  M hs K h hK
    rw [f_X7_next_L8] at h; cases h
  | succ n ih =>
    intro  M hs K h hK
    rw [f_X7_next_L8] at h
    refine J_aload_n (pc' := 9) (i := 0) (n := 0) dX7_next_8 rfl rfl rfl ?_
    refine J_getI (pc' := 12) dX7_next_9 rfl fl_X7_19 rfl (x_o7 hs) (x_n hs (Nat.le_of_ble_eq_true rfl)) ?_
    refine J_aload_n (pc' := 13) (i := 0) (n := 0) dX7_next_12 rfl rfl rfl ?_
    refine J_getI (pc' := 16) dX7_next_13 rfl fl_X7_15 rfl (x_o7 hs) (x_n hs (Nat.le_of_ble_eq_true rfl)) ?_
    refine J_icmp_ge (pc' := 19) (tgt := 46) dX7_next_16 rfl (by decide) (fun c4 => ?_) (fun c4 => ?_)
    · replace h := j_ip c4 h
      exact hK M hs h
    · replace h := j_iq c4 h
      refine J_aload_n (pc' := 20) (i := 0) (n := 0) dX7_next_19 rfl rfl rfl ?_
      refine J_getR (pc' := 23) (b := 8) dX7_next_20 rfl fl_X7_11 rfl (x_o7 hs) (x_n hs (Nat.le_of_ble_eq_true rfl)) (x_t0 hs) ?_
      refine J_aload_n (pc' := 24) (i := 0) (n := 0) dX7_next_23 rfl rfl rfl ?_
      refine J_getI (pc' := 27) dX7_next_24 rfl fl_X7_19 rfl (x_o7 hs) (x_n hs (Nat.le_of_ble_eq_true rfl)) ?_
      obtain ⟨v5, e6, h⟩ := a_i_inv h
      refine J_calde (pc' := 28) dX7_next_27 rfl (x_s8 hs) (x_n hs (Nat.le_of_ble_eq_true rfl)) e6 ?_
      refine J_bipush (pc' := 30) (v := (32 : Int32)) dX7_next_28 rfl bp_32 ?_
      refine J_icmp_ne (pc' := 33) (tgt := 46) dX7_next_30 rfl (by decide) (fun c7 => ?_) (fun c7 => ?_)
      · replace h := j_iq c7 h
        exact hK M hs h
      · replace h := j_ip c7 h
        refine J_aload_n (pc' := 34) (i := 0) (n := 0) dX7_next_33 rfl rfl rfl ?_
        refine J_dup (pc' := 35) dX7_next_34 rfl rfl ?_
        refine J_getI (pc' := 38) dX7_next_35 rfl fl_X7_19 rfl (x_o7 hs) (x_n hs (Nat.le_of_ble_eq_true rfl)) ?_
        refine J_iconst (pc' := 39) (v := (1 : Int32)) dX7_next_38 rfl ic_1 ?_
        refine J_iadd (pc' := 40) dX7_next_39 rfl ?_
        obtain ⟨M8, e9, h⟩ := tl_inv h
        have g10 : sh_x M8.2.2 := j_shI e9 hs
        refine J_putIe (pc' := 43) dX7_next_40 rfl fl_X7_19 ⟨rfl, rfl, rfl⟩ (x_o7 hs) (x_n hs (Nat.le_of_ble_eq_true rfl)) e9 ?_
        refine J_goto (pc' := 8) dX7_next_43 (by decide) ?_
        exact ih g10 h hK
set_option maxHeartbeats 4000000 in
theorem L_X7_next_L84 {l : Launch} {G : j_G}  {r : j_M} : ∀ (n : Nat) {x1 : Int32} {M : j_M} (hs : sh_x M.2.2) {K : j_M → Option j_M}, f_X7_next_L84 n  M x1 K = some r → (∀ (M1 : j_M), sh_x M1.2.2 → K M1 = some r → JT_X7_next l G r 125 [] [] M1) → JT_X7_next l G r 84 [(0, .ref 7), (1, .int x1)] [] M := by
  intro n
  induction n with
  | zero =>
    intro x1 M hs K h hK
    rw [f_X7_next_L84] at h; cases h
  | succ n ih =>
    intro x1 M hs K h hK
    rw [f_X7_next_L84] at h
    refine J_aload_n (pc' := 85) (i := 0) (n := 0) dX7_next_84 rfl rfl rfl ?_
    refine J_getI (pc' := 88) dX7_next_85 rfl fl_X7_22 rfl (x_o7 hs) (x_n hs (Nat.le_of_ble_eq_true rfl)) ?_
    refine J_aload_n (pc' := 89) (i := 0) (n := 0) dX7_next_88 rfl rfl rfl ?_
    refine J_getI (pc' := 92) dX7_next_89 rfl fl_X7_15 rfl (x_o7 hs) (x_n hs (Nat.le_of_ble_eq_true rfl)) ?_
    refine J_icmp_ge (pc' := 95) (tgt := 125) dX7_next_92 rfl (by decide) (fun c22 => ?_) (fun c22 => ?_)
    · replace h := j_ip c22 h
      refine J_sub [] (lv' := []) rfl ?_
      exact hK M hs h
    · replace h := j_iq c22 h
      refine J_iload_n (pc' := 96) (i := 1) (n := 1) dX7_next_95 rfl rfl rfl ?_
      refine J_iconst (pc' := 97) (v := (3 : Int32)) dX7_next_96 rfl ic_3 ?_
      refine J_icmp_eq (pc' := 100) (tgt := 125) dX7_next_97 rfl (by decide) (fun c23 => ?_) (fun c23 => ?_)
      · replace h := j_ip c23 h
        refine J_sub [] (lv' := []) rfl ?_
        exact hK M hs h
      · replace h := j_iq c23 h
        refine J_aload_n (pc' := 101) (i := 0) (n := 0) dX7_next_100 rfl rfl rfl ?_
        refine J_aload_n (pc' := 102) (i := 0) (n := 0) dX7_next_101 rfl rfl rfl ?_
        refine J_getI (pc' := 105) dX7_next_102 rfl fl_X7_22 rfl (x_o7 hs) (x_n hs (Nat.le_of_ble_eq_true rfl)) ?_
        obtain ⟨v24, e25, h⟩ := bi_inv h
        refine J_callV (pc' := 108) (as := [.int (j_I M 7 3)]) (rest := []) dX7_next_105 rfl lk_X7_104 rfl 7 (by decide) rfl (x_o7 hs) (x_n hs (Nat.le_of_ble_eq_true rfl)) (c_X7_sortAt hs e25) ⟨Nat.le_of_ble_eq_true rfl, Nat.le_of_ble_eq_true rfl⟩ (Nat.le_of_ble_eq_true rfl) ⟨Nat.le_of_ble_eq_true rfl, Nat.le_of_ble_eq_true rfl⟩ (j_kq ?_)
        refine J_iload_n (pc' := 109) (i := 1) (n := 1) dX7_next_108 rfl rfl rfl ?_
        refine J_icmp_ne (pc' := 112) (tgt := 125) dX7_next_109 rfl (by decide) (fun c26 => ?_) (fun c26 => ?_)
        · replace h := j_iq c26 h
          refine J_sub [] (lv' := []) rfl ?_
          exact hK M hs h
        · replace h := j_ip c26 h
          refine J_aload_n (pc' := 113) (i := 0) (n := 0) dX7_next_112 rfl rfl rfl ?_
          refine J_dup (pc' := 114) dX7_next_113 rfl rfl ?_
          refine J_getI (pc' := 117) dX7_next_114 rfl fl_X7_22 rfl (x_o7 hs) (x_n hs (Nat.le_of_ble_eq_true rfl)) ?_
          refine J_iconst (pc' := 118) (v := (1 : Int32)) dX7_next_117 rfl ic_1 ?_
          refine J_iadd (pc' := 119) dX7_next_118 rfl ?_
          obtain ⟨M27, e28, h⟩ := tl_inv h
          have g29 : sh_x M27.2.2 := j_shI e28 hs
          refine J_putIe (pc' := 122) dX7_next_119 rfl fl_X7_22 ⟨rfl, rfl, rfl⟩ (x_o7 hs) (x_n hs (Nat.le_of_ble_eq_true rfl)) e28 ?_
          refine J_goto (pc' := 84) dX7_next_122 (by decide) ?_
          exact ih g29 h hK
set_option maxHeartbeats 4000000 in
theorem c_X7_next {l : Launch} {G : j_G} {M : j_M}  (hs : sh_x M.2.2) {r : j_M} (h : f_X7_next M  = some r) : j_Sp l G md_X7_next 2 (0, 0) [.ref 7] M (po none r) := by
  refine j_Sp.of (by decide) (Nat.le_of_ble_eq_true rfl) ?_
  show JT_X7_next l G r 0 [(0, .ref 7)] [] M
  unfold f_X7_next at h
  refine J_aload_n (pc' := 1) (i := 0) (n := 0) dX7_next_0 rfl rfl rfl ?_
  refine J_aload_n (pc' := 2) (i := 0) (n := 0) dX7_next_1 rfl rfl rfl ?_
  refine J_getI (pc' := 5) dX7_next_2 rfl fl_X7_22 rfl (x_o7 hs) (x_n hs (Nat.le_of_ble_eq_true rfl)) ?_
  obtain ⟨M1, e2, h⟩ := tl_inv h
  have g3 : sh_x M1.2.2 := j_shI e2 hs
  refine J_putIe (pc' := 8) dX7_next_5 rfl fl_X7_19 ⟨rfl, rfl, rfl⟩ (x_o7 hs) (x_n hs (Nat.le_of_ble_eq_true rfl)) e2 ?_
  refine L_X7_next_L8 j_fu g3 h (fun M11 g12 h => ?_)
  refine J_aload_n (pc' := 47) (i := 0) (n := 0) dX7_next_46 rfl rfl rfl ?_
  refine J_aload_n (pc' := 48) (i := 0) (n := 0) dX7_next_47 rfl rfl rfl ?_
  refine J_getI (pc' := 51) dX7_next_48 rfl fl_X7_19 rfl (x_o7 g12) (x_n g12 (Nat.le_of_ble_eq_true rfl)) ?_
  obtain ⟨M13, e14, h⟩ := tl_inv h
  have g15 : sh_x M13.2.2 := j_shI e14 g12
  refine J_putIe (pc' := 54) dX7_next_51 rfl fl_X7_22 ⟨rfl, rfl, rfl⟩ (x_o7 g12) (x_n g12 (Nat.le_of_ble_eq_true rfl)) e14 ?_
  refine J_aload_n (pc' := 55) (i := 0) (n := 0) dX7_next_54 rfl rfl rfl ?_
  refine J_getI (pc' := 58) dX7_next_55 rfl fl_X7_22 rfl (x_o7 g15) (x_n g15 (Nat.le_of_ble_eq_true rfl)) ?_
  refine J_aload_n (pc' := 59) (i := 0) (n := 0) dX7_next_58 rfl rfl rfl ?_
  refine J_getI (pc' := 62) dX7_next_59 rfl fl_X7_15 rfl (x_o7 g15) (x_n g15 (Nat.le_of_ble_eq_true rfl)) ?_
  refine J_icmp_ge (pc' := 65) (tgt := 125) dX7_next_62 rfl (by decide) (fun c16 => ?_) (fun c16 => ?_)
  · replace h := j_ip c16 h
    exact J_vret rfl dX7_next_125 ⟨rfl, Nat.le_refl _⟩ (j_pV h)
  · replace h := j_iq c16 h
    refine J_aload_n (pc' := 66) (i := 0) (n := 0) dX7_next_65 rfl rfl rfl ?_
    refine J_aload_n (pc' := 67) (i := 0) (n := 0) dX7_next_66 rfl rfl rfl ?_
    refine J_getI (pc' := 70) dX7_next_67 rfl fl_X7_22 rfl (x_o7 g15) (x_n g15 (Nat.le_of_ble_eq_true rfl)) ?_
    obtain ⟨v17, e18, h⟩ := bi_inv h
    refine J_callV (pc' := 73) (as := [.int (j_I M13 7 3)]) (rest := []) dX7_next_70 rfl lk_X7_104 rfl 7 (by decide) rfl (x_o7 g15) (x_n g15 (Nat.le_of_ble_eq_true rfl)) (c_X7_sortAt g15 e18) ⟨Nat.le_of_ble_eq_true rfl, Nat.le_of_ble_eq_true rfl⟩ (Nat.le_of_ble_eq_true rfl) ⟨Nat.le_of_ble_eq_true rfl, Nat.le_of_ble_eq_true rfl⟩ (j_kq ?_)
    refine J_istore_n (pc' := 74) (i := 1) (lv' := [(1, .int v17), (0, .ref 7)]) dX7_next_73 rfl rfl (by decide) rfl ?_
    refine J_aload_n (pc' := 75) (i := 0) (n := 1) dX7_next_74 rfl rfl rfl ?_
    refine J_dup (pc' := 76) dX7_next_75 rfl rfl ?_
    refine J_getI (pc' := 79) dX7_next_76 rfl fl_X7_22 rfl (x_o7 g15) (x_n g15 (Nat.le_of_ble_eq_true rfl)) ?_
    refine J_iconst (pc' := 80) (v := (1 : Int32)) dX7_next_79 rfl ic_1 ?_
    refine J_iadd (pc' := 81) dX7_next_80 rfl ?_
    obtain ⟨M19, e20, h⟩ := tl_inv h
    have g21 : sh_x M19.2.2 := j_shI e20 g15
    refine J_putIe (pc' := 84) dX7_next_81 rfl fl_X7_22 ⟨rfl, rfl, rfl⟩ (x_o7 g15) (x_n g15 (Nat.le_of_ble_eq_true rfl)) e20 ?_
    refine J_sub [1, 0] (lv' := [(0, .ref 7), (1, .int v17)]) rfl ?_
    refine L_X7_next_L84 j_fu g21 h (fun M30 g31 h => ?_)
    exact J_vret rfl dX7_next_125 ⟨rfl, Nat.le_refl _⟩ (j_pV h)
