abbrev JT_X4_place (l : Launch) (G : j_G) (k : Nat) (r : j_M) : Nat → List (Nat × Value) → List Value → j_M → Prop := JJ l G md_X4_place (j_rm (k + 11) (0, 0)) (0, 0) (0, 0) (po none r)
section
variable (f_X4_placeR : j_M → Int32 → Int32 → Option j_M)
noncomputable def f_X4_place_L50 : Nat → j_M → Int32 → Int32 → Int32 → Int32 → (Int32 → Int32 → j_M → Option j_M) → Option j_M
  | 0, _, _, _, _, _, _ => none
  | n + 1, M, x2, x3, x4, x5, K =>
    if (4 : Int32) ≤ x5 then (K x4 x5 M) else (if x4 = 0 then ((f_X0_isOpen M 17 x5).bind fun v12 => (if v12 = 0 then (f_X4_place_L50 n  M x2 x3 x4 (x5 + (1 : Int32)) K) else (a_i M 4 4 x5 fun v15 => (jn (fun (v18 : Int32) => (w_i M 5 7 x2 x5 fun M21 => (w_i M21 4 4 x5 (v15 ||| ((1 : Int32) <<< (x2 &&& 31))) fun M24 => ((f_X0_takes M24 17 x2 v15).bind fun v27 => ((f_X0_costTo M24 17 v15 x2).bind fun v29 => ((f_X4_placeR M24 (x2 + (1 : Int32)) ((x3 + v27) + v29)).bind fun q31 => j_ck M24 q31 (w_i q31 4 4 x5 v15 fun M35 => (f_X4_place_L50 n  M35 x2 x3 v18 (x5 + (1 : Int32)) K)))))))) (fun K19 => (if v15 = 0 then (K19 (1 : Int32)) else (K19 (0 : Int32)))))))) else (K x4 x5 M))
noncomputable def f_X4_placeB (M : j_M) (x2 : Int32) (x3 : Int32) : Option j_M :=
  if x3 < (j_I M 3 3) then (if (j_I M 17 9) ≤ x2 then (tl (j_sI M 3 3 x3) fun M3 => (c_i M3 5 7 (0 : Int32) 6 7 (0 : Int32) (7 : Int32) fun M6 => (some M6))) else (if x2 < (7 : Int32) then (f_X4_place_L50 f_X4_placeR j_fu  M x2 x3 (0 : Int32) (0 : Int32) (fun (y38 : Int32) (y39 : Int32) (M40 : j_M) => (some M40))) else (tl (j_sI M 3 3 x3) fun M42 => (c_i M42 5 7 (0 : Int32) 6 7 (0 : Int32) (7 : Int32) fun M45 => (some M45))))) else (some M)
set_option maxHeartbeats 4000000 in
theorem L_X4_place_L50 {l : Launch} {G : j_G} {k : Nat} (hrec : ∀ (M : j_M) (a b : Int32) (r : j_M), sh_x M.2.2 → f_X4_placeR M a b = some r → j_Sp l G md_X4_place (k + 10) (0, 0) [.ref 3, .ref 17, .int a, .int b] M (po none r))  {r : j_M} : ∀ (n : Nat) {x2 : Int32} {x3 : Int32} {x4 : Int32} {x5 : Int32} {M : j_M} (hs : sh_x M.2.2) {K : Int32 → Int32 → j_M → Option j_M}, f_X4_place_L50 f_X4_placeR n  M x2 x3 x4 x5 K = some r → (∀ (y4 : Int32) (y5 : Int32) (M1 : j_M), sh_x M1.2.2 → K y4 y5 M1 = some r → JT_X4_place l G k r 152 [] [] M1) → JT_X4_place l G k r 50 [(0, .ref 3), (1, .ref 17), (2, .int x2), (3, .int x3), (4, .int x4), (5, .int x5)] [] M := by
  intro n
  induction n with
  | zero =>
    intro x2 x3 x4 x5 M hs K h hK
    rw [f_X4_place_L50] at h; cases h
  | succ n ih =>
    intro x2 x3 x4 x5 M hs K h hK
    rw [f_X4_place_L50] at h
    refine J_iload (pc' := 52) (i := 5) (n := 5) dX4_place_50 rfl rfl ?_
    refine J_iconst (pc' := 53) (v := (4 : Int32)) dX4_place_52 rfl ic_4 ?_
    refine J_icmp_ge (pc' := 56) (tgt := 152) dX4_place_53 rfl (by decide) (fun c10 => ?_) (fun c10 => ?_)
    · replace h := j_ip c10 h
      refine J_sub [] (lv' := []) rfl ?_
      exact hK x4 x5 M hs h
    · replace h := j_iq c10 h
      refine J_iload (pc' := 58) (i := 4) (n := 4) dX4_place_56 rfl rfl ?_
      refine J_if_ne (pc' := 61) (tgt := 152) dX4_place_58 rfl (by decide) (fun c11 => ?_) (fun c11 => ?_)
      · replace h := j_iq c11 h
        refine J_sub [] (lv' := []) rfl ?_
        exact hK x4 x5 M hs h
      · replace h := j_ip c11 h
        refine J_aload_n (pc' := 62) (i := 1) (n := 1) dX4_place_61 rfl rfl rfl ?_
        refine J_iload (pc' := 64) (i := 5) (n := 5) dX4_place_62 rfl rfl ?_
        obtain ⟨v12, e13, h⟩ := bi_inv h
        refine J_callVN (pc' := 67) (as := [.int x5]) (rest := []) dX4_place_64 rfl lk_X4_43 rfl 0 (by decide) rfl (b_o (x_b17 hs)) (b_no (x_b17 hs)) (c_X0_isOpen (x_b17 hs) e13) ⟨Nat.le_trans (m := 11) (Nat.le_of_ble_eq_true rfl) (by show 11 ≤ k + 11; omega), Nat.le_trans (m := 440) (Nat.le_of_ble_eq_true rfl) (by show 440 ≤ 40 * (k + 11); omega)⟩ (Nat.le_of_ble_eq_true rfl) ⟨Nat.le_of_ble_eq_true rfl, Nat.le_of_ble_eq_true rfl⟩ (j_kq ?_)
        refine J_if_eq (pc' := 70) (tgt := 146) dX4_place_67 rfl (by decide) (fun c14 => ?_) (fun c14 => ?_)
        · replace h := j_ip c14 h
          refine J_iinc (pc' := 149) (i := 5) (n := 5) (v := (x5 + (1 : Int32))) (lv' := [(5, .int (x5 + (1 : Int32))), (0, .ref 3), (1, .ref 17), (2, .int x2), (3, .int x3), (4, .int x4)]) dX4_place_146 rfl rfl (j_inc _ _ rfl _) (by decide) rfl ?_
          refine J_goto (pc' := 50) dX4_place_149 (by decide) ?_
          refine J_sub [1, 2, 3, 4, 5, 0] (lv' := [(0, .ref 3), (1, .ref 17), (2, .int x2), (3, .int x3), (4, .int x4), (5, .int (x5 + (1 : Int32)))]) rfl ?_
          exact ih hs h hK
        · replace h := j_iq c14 h
          refine J_aload_n (pc' := 71) (i := 0) (n := 0) dX4_place_70 rfl rfl rfl ?_
          refine J_getR (pc' := 74) (b := 4) dX4_place_71 rfl fl_X4_9 rfl (x_o3 hs) (x_n hs (Nat.le_of_ble_eq_true rfl)) (x_p0 hs) ?_
          refine J_iload (pc' := 76) (i := 5) (n := 5) dX4_place_74 rfl rfl ?_
          obtain ⟨v15, e16, h⟩ := a_i_inv h
          refine J_ialde (pc' := 77) dX4_place_76 rfl (x_s4 hs) (x_n hs (Nat.le_of_ble_eq_true rfl)) e16 ?_
          refine J_istore (pc' := 79) (i := 6) (lv' := [(6, .int v15), (0, .ref 3), (1, .ref 17), (2, .int x2), (3, .int x3), (4, .int x4), (5, .int x5)]) dX4_place_77 rfl (by decide) rfl ?_
          refine J_iload (pc' := 81) (i := 6) (n := 0) dX4_place_79 rfl rfl ?_
          refine J_join (C := fun (v18 : Int32) => JT_X4_place l G k r 89 [(0, .ref 3), (1, .ref 17), (2, .int x2), (3, .int x3), (5, .int x5), (6, .int v15)] [.int v18] M) h (fun v18 h => ?_) (fun K19 h20 h => ?_)
          · refine J_istore (pc' := 91) (i := 4) (lv' := [(4, .int v18), (0, .ref 3), (1, .ref 17), (2, .int x2), (3, .int x3), (5, .int x5), (6, .int v15)]) dX4_place_89 rfl (by decide) rfl ?_
            refine J_aload_n (pc' := 92) (i := 0) (n := 1) dX4_place_91 rfl rfl rfl ?_
            refine J_getR (pc' := 95) (b := 5) dX4_place_92 rfl fl_X4_15 rfl (x_o3 hs) (x_n hs (Nat.le_of_ble_eq_true rfl)) (x_p1 hs) ?_
            refine J_iload_n (pc' := 96) (i := 2) (n := 3) dX4_place_95 rfl rfl rfl ?_
            refine J_iload (pc' := 98) (i := 5) (n := 5) dX4_place_96 rfl rfl ?_
            obtain ⟨M21, e22, h⟩ := w_i_inv h
            have g23 : sh_x M21.2.2 := j_shI e22.2 hs
            refine J_iaste (pc' := 99) dX4_place_98 rfl (x_s5 hs) (x_n hs (Nat.le_of_ble_eq_true rfl)) e22 ?_
            refine J_aload_n (pc' := 100) (i := 0) (n := 1) dX4_place_99 rfl rfl rfl ?_
            refine J_getR (pc' := 103) (b := 4) dX4_place_100 rfl fl_X4_9 rfl (x_o3 g23) (x_n g23 (Nat.le_of_ble_eq_true rfl)) (x_p0 g23) ?_
            refine J_iload (pc' := 105) (i := 5) (n := 5) dX4_place_103 rfl rfl ?_
            refine J_iload (pc' := 107) (i := 6) (n := 6) dX4_place_105 rfl rfl ?_
            refine J_iconst (pc' := 108) (v := (1 : Int32)) dX4_place_107 rfl ic_1 ?_
            refine J_iload_n (pc' := 109) (i := 2) (n := 3) dX4_place_108 rfl rfl rfl ?_
            refine J_ishl (pc' := 110) dX4_place_109 rfl ?_
            refine J_ior (pc' := 111) dX4_place_110 rfl ?_
            obtain ⟨M24, e25, h⟩ := w_i_inv h
            have g26 : sh_x M24.2.2 := j_shI e25.2 g23
            refine J_iaste (pc' := 112) dX4_place_111 rfl (x_s4 g23) (x_n g23 (Nat.le_of_ble_eq_true rfl)) e25 ?_
            refine J_aload_n (pc' := 113) (i := 0) (n := 1) dX4_place_112 rfl rfl rfl ?_
            refine J_aload_n (pc' := 114) (i := 1) (n := 2) dX4_place_113 rfl rfl rfl ?_
            refine J_iload_n (pc' := 115) (i := 2) (n := 3) dX4_place_114 rfl rfl rfl ?_
            refine J_iconst (pc' := 116) (v := (1 : Int32)) dX4_place_115 rfl ic_1 ?_
            refine J_iadd (pc' := 117) dX4_place_116 rfl ?_
            refine J_iload_n (pc' := 118) (i := 3) (n := 4) dX4_place_117 rfl rfl rfl ?_
            refine J_aload_n (pc' := 119) (i := 1) (n := 2) dX4_place_118 rfl rfl rfl ?_
            refine J_iload_n (pc' := 120) (i := 2) (n := 3) dX4_place_119 rfl rfl rfl ?_
            refine J_iload (pc' := 122) (i := 6) (n := 6) dX4_place_120 rfl rfl ?_
            obtain ⟨v27, e28, h⟩ := bi_inv h
            refine J_callVN (pc' := 125) (as := [.int x2, .int v15]) (rest := [.int x3, .int (x2 + (1 : Int32)), .ref 17, .ref 3]) dX4_place_122 rfl lk_X4_47 rfl 0 (by decide) rfl (b_o (x_b17 g26)) (b_no (x_b17 g26)) (c_X0_takes (x_b17 g26) e28) ⟨Nat.le_trans (m := 11) (Nat.le_of_ble_eq_true rfl) (by show 11 ≤ k + 11; omega), Nat.le_trans (m := 440) (Nat.le_of_ble_eq_true rfl) (by show 440 ≤ 40 * (k + 11); omega)⟩ (Nat.le_of_ble_eq_true rfl) ⟨Nat.le_of_ble_eq_true rfl, Nat.le_of_ble_eq_true rfl⟩ (j_kq ?_)
            refine J_iadd (pc' := 126) dX4_place_125 rfl ?_
            refine J_aload_n (pc' := 127) (i := 1) (n := 2) dX4_place_126 rfl rfl rfl ?_
            refine J_iload (pc' := 129) (i := 6) (n := 6) dX4_place_127 rfl rfl ?_
            refine J_iload_n (pc' := 130) (i := 2) (n := 3) dX4_place_129 rfl rfl rfl ?_
            obtain ⟨v29, e30, h⟩ := bi_inv h
            refine J_callVN (pc' := 133) (as := [.int v15, .int x2]) (rest := [.int (x3 + v27), .int (x2 + (1 : Int32)), .ref 17, .ref 3]) dX4_place_130 rfl lk_X4_51 rfl 0 (by decide) rfl (b_o (x_b17 g26)) (b_no (x_b17 g26)) (c_X0_costTo (x_b17 g26) e30) ⟨Nat.le_trans (m := 11) (Nat.le_of_ble_eq_true rfl) (by show 11 ≤ k + 11; omega), Nat.le_trans (m := 440) (Nat.le_of_ble_eq_true rfl) (by show 440 ≤ 40 * (k + 11); omega)⟩ (Nat.le_of_ble_eq_true rfl) ⟨Nat.le_of_ble_eq_true rfl, Nat.le_of_ble_eq_true rfl⟩ (j_kq ?_)
            refine J_iadd (pc' := 134) dX4_place_133 rfl ?_
            obtain ⟨q31, e32, h⟩ := bi_inv h
            obtain ⟨c33, h⟩ := j_ck_inv h
            refine J_callV (pc' := 137) (as := [.ref 17, .int (x2 + (1 : Int32)), .int ((x3 + v27) + v29)]) (rest := []) dX4_place_134 rfl lk_X4_54 rfl 4 (by decide) rfl (x_o3 g26) (x_n g26 (Nat.le_of_ble_eq_true rfl)) (hrec _ _ _ _ g26 e32) ⟨Nat.le_refl _, by show 8 + (7 + 11) + 40 * (k + 10) ≤ 40 * (k + 11); omega⟩ (Nat.le_of_ble_eq_true rfl) ⟨Nat.le_of_ble_eq_true rfl, Nat.le_of_ble_eq_true rfl⟩ (j_kv ?_)
            have g34 : sh_x q31.2.2 := j_shE c33 g26
            refine J_aload_n (pc' := 138) (i := 0) (n := 1) dX4_place_137 rfl rfl rfl ?_
            refine J_getR (pc' := 141) (b := 4) dX4_place_138 rfl fl_X4_9 rfl (x_o3 g34) (x_n g34 (Nat.le_of_ble_eq_true rfl)) (x_p0 g34) ?_
            refine J_iload (pc' := 143) (i := 5) (n := 5) dX4_place_141 rfl rfl ?_
            refine J_iload (pc' := 145) (i := 6) (n := 6) dX4_place_143 rfl rfl ?_
            obtain ⟨M35, e36, h⟩ := w_i_inv h
            have g37 : sh_x M35.2.2 := j_shI e36.2 g34
            refine J_iaste (pc' := 146) dX4_place_145 rfl (x_s4 g34) (x_n g34 (Nat.le_of_ble_eq_true rfl)) e36 ?_
            refine J_iinc (pc' := 149) (i := 5) (n := 5) (v := (x5 + (1 : Int32))) (lv' := [(5, .int (x5 + (1 : Int32))), (4, .int v18), (0, .ref 3), (1, .ref 17), (2, .int x2), (3, .int x3), (6, .int v15)]) dX4_place_146 rfl rfl (j_inc _ _ rfl _) (by decide) rfl ?_
            refine J_goto (pc' := 50) dX4_place_149 (by decide) ?_
            refine J_sub [2, 3, 4, 5, 1, 0] (lv' := [(0, .ref 3), (1, .ref 17), (2, .int x2), (3, .int x3), (4, .int v18), (5, .int (x5 + (1 : Int32)))]) rfl ?_
            exact ih g37 h hK
          · refine J_if_ne (pc' := 84) (tgt := 88) dX4_place_81 rfl (by decide) (fun c17 => ?_) (fun c17 => ?_)
            · replace h := j_iq c17 h
              refine J_iconst (pc' := 89) (v := (0 : Int32)) dX4_place_88 rfl ic_0 ?_
              refine J_sub [1, 2, 3, 4, 6, 0] (lv' := [(0, .ref 3), (1, .ref 17), (2, .int x2), (3, .int x3), (5, .int x5), (6, .int v15)]) rfl ?_
              exact h20 (0 : Int32) h
            · replace h := j_ip c17 h
              refine J_iconst (pc' := 85) (v := (1 : Int32)) dX4_place_84 rfl ic_1 ?_
              refine J_goto (pc' := 89) dX4_place_85 (by decide) ?_
              refine J_sub [1, 2, 3, 4, 6, 0] (lv' := [(0, .ref 3), (1, .ref 17), (2, .int x2), (3, .int x3), (5, .int x5), (6, .int v15)]) rfl ?_
              exact h20 (1 : Int32) h
set_option maxHeartbeats 4000000 in
theorem c_X4_placeB {l : Launch} {G : j_G} {k : Nat} (hrec : ∀ (M : j_M) (a b : Int32) (r : j_M), sh_x M.2.2 → f_X4_placeR M a b = some r → j_Sp l G md_X4_place (k + 10) (0, 0) [.ref 3, .ref 17, .int a, .int b] M (po none r)) {M : j_M} {x2 : Int32} {x3 : Int32} (hs : sh_x M.2.2) {r : j_M} (h : f_X4_placeB f_X4_placeR M x2 x3 = some r) : j_Sp l G md_X4_place (k + 11) (0, 0) [.ref 3, .ref 17, .int x2, .int x3] M (po none r) := by
  refine j_Sp.of (by decide) (Nat.le_of_ble_eq_true rfl) ?_
  show JT_X4_place l G k r 0 [(0, .ref 3), (1, .ref 17), (2, .int x2), (3, .int x3)] [] M
  unfold f_X4_placeB at h
  refine J_iload_n (pc' := 1) (i := 3) (n := 3) dX4_place_0 rfl rfl rfl ?_
  refine J_aload_n (pc' := 2) (i := 0) (n := 0) dX4_place_1 rfl rfl rfl ?_
  refine J_getI (pc' := 5) dX4_place_2 rfl fl_X4_28 rfl (x_o3 hs) (x_n hs (Nat.le_of_ble_eq_true rfl)) ?_
  refine J_icmp_lt (pc' := 8) (tgt := 9) dX4_place_5 rfl (by decide) (fun c1 => ?_) (fun c1 => ?_)
  · replace h := j_ip c1 h
    refine J_iload_n (pc' := 10) (i := 2) (n := 2) dX4_place_9 rfl rfl rfl ?_
    refine J_aload_n (pc' := 11) (i := 1) (n := 1) dX4_place_10 rfl rfl rfl ?_
    refine J_getI (pc' := 14) dX4_place_11 rfl fl_X4_32 rfl (b_o (x_b17 hs)) (b_no (x_b17 hs)) ?_
    refine J_icmp_ge (pc' := 17) (tgt := 23) dX4_place_14 rfl (by decide) (fun c2 => ?_) (fun c2 => ?_)
    · replace h := j_ip c2 h
      refine J_aload_n (pc' := 24) (i := 0) (n := 0) dX4_place_23 rfl rfl rfl ?_
      refine J_iload_n (pc' := 25) (i := 3) (n := 3) dX4_place_24 rfl rfl rfl ?_
      obtain ⟨M3, e4, h⟩ := tl_inv h
      have g5 : sh_x M3.2.2 := j_shI e4 hs
      refine J_putIe (pc' := 28) dX4_place_25 rfl fl_X4_28 ⟨rfl, rfl, rfl⟩ (x_o3 hs) (x_n hs (Nat.le_of_ble_eq_true rfl)) e4 ?_
      refine J_aload_n (pc' := 29) (i := 0) (n := 0) dX4_place_28 rfl rfl rfl ?_
      refine J_getR (pc' := 32) (b := 5) dX4_place_29 rfl fl_X4_15 rfl (x_o3 g5) (x_n g5 (Nat.le_of_ble_eq_true rfl)) (x_p1 g5) ?_
      refine J_iconst (pc' := 33) (v := (0 : Int32)) dX4_place_32 rfl ic_0 ?_
      refine J_aload_n (pc' := 34) (i := 0) (n := 0) dX4_place_33 rfl rfl rfl ?_
      refine J_getR (pc' := 37) (b := 6) dX4_place_34 rfl fl_X4_18 rfl (x_o3 g5) (x_n g5 (Nat.le_of_ble_eq_true rfl)) (x_p2 g5) ?_
      refine J_iconst (pc' := 38) (v := (0 : Int32)) dX4_place_37 rfl ic_0 ?_
      refine J_bipush (pc' := 40) (v := (7 : Int32)) dX4_place_38 rfl bp_7 ?_
      obtain ⟨M6, e7, h⟩ := c_i_inv h
      have g8 : sh_x M6.2.2 := j_shC e7.2 g5
      refine J_copye (pc' := 43) dX4_place_40 rfl lk_X4_37 (x_s5 g5) (x_n g5 (Nat.le_of_ble_eq_true rfl)) (x_s6 g5) (x_n g5 (Nat.le_of_ble_eq_true rfl)) ⟨by show 1 ≤ k + 11; omega, Nat.le_trans (m := 440) (Nat.le_of_ble_eq_true rfl) (by show 440 ≤ 40 * (k + 11); omega)⟩ e7 ?_
      exact J_vret rfl dX4_place_43 ⟨rfl, Nat.le_refl _⟩ (j_pV h)
    · replace h := j_iq c2 h
      refine J_iload_n (pc' := 18) (i := 2) (n := 2) dX4_place_17 rfl rfl rfl ?_
      refine J_bipush (pc' := 20) (v := (7 : Int32)) dX4_place_18 rfl bp_7 ?_
      refine J_icmp_lt (pc' := 23) (tgt := 44) dX4_place_20 rfl (by decide) (fun c9 => ?_) (fun c9 => ?_)
      · replace h := j_ip c9 h
        refine J_iconst (pc' := 45) (v := (0 : Int32)) dX4_place_44 rfl ic_0 ?_
        refine J_istore (pc' := 47) (i := 4) (lv' := [(4, .int (0 : Int32)), (0, .ref 3), (1, .ref 17), (2, .int x2), (3, .int x3)]) dX4_place_45 rfl (by decide) rfl ?_
        refine J_iconst (pc' := 48) (v := (0 : Int32)) dX4_place_47 rfl ic_0 ?_
        refine J_istore (pc' := 50) (i := 5) (lv' := [(5, .int (0 : Int32)), (4, .int (0 : Int32)), (0, .ref 3), (1, .ref 17), (2, .int x2), (3, .int x3)]) dX4_place_48 rfl (by decide) rfl ?_
        refine J_sub [2, 3, 4, 5, 1, 0] (lv' := [(0, .ref 3), (1, .ref 17), (2, .int x2), (3, .int x3), (4, .int (0 : Int32)), (5, .int (0 : Int32))]) rfl ?_
        refine L_X4_place_L50 f_X4_placeR hrec j_fu hs h (fun y38 y39 M40 g41 h => ?_)
        exact J_vret rfl dX4_place_152 ⟨rfl, Nat.le_refl _⟩ (j_pV h)
      · replace h := j_iq c9 h
        refine J_aload_n (pc' := 24) (i := 0) (n := 0) dX4_place_23 rfl rfl rfl ?_
        refine J_iload_n (pc' := 25) (i := 3) (n := 3) dX4_place_24 rfl rfl rfl ?_
        obtain ⟨M42, e43, h⟩ := tl_inv h
        have g44 : sh_x M42.2.2 := j_shI e43 hs
        refine J_putIe (pc' := 28) dX4_place_25 rfl fl_X4_28 ⟨rfl, rfl, rfl⟩ (x_o3 hs) (x_n hs (Nat.le_of_ble_eq_true rfl)) e43 ?_
        refine J_aload_n (pc' := 29) (i := 0) (n := 0) dX4_place_28 rfl rfl rfl ?_
        refine J_getR (pc' := 32) (b := 5) dX4_place_29 rfl fl_X4_15 rfl (x_o3 g44) (x_n g44 (Nat.le_of_ble_eq_true rfl)) (x_p1 g44) ?_
        refine J_iconst (pc' := 33) (v := (0 : Int32)) dX4_place_32 rfl ic_0 ?_
        refine J_aload_n (pc' := 34) (i := 0) (n := 0) dX4_place_33 rfl rfl rfl ?_
        refine J_getR (pc' := 37) (b := 6) dX4_place_34 rfl fl_X4_18 rfl (x_o3 g44) (x_n g44 (Nat.le_of_ble_eq_true rfl)) (x_p2 g44) ?_
        refine J_iconst (pc' := 38) (v := (0 : Int32)) dX4_place_37 rfl ic_0 ?_
        refine J_bipush (pc' := 40) (v := (7 : Int32)) dX4_place_38 rfl bp_7 ?_
        obtain ⟨M45, e46, h⟩ := c_i_inv h
        have g47 : sh_x M45.2.2 := j_shC e46.2 g44
        refine J_copye (pc' := 43) dX4_place_40 rfl lk_X4_37 (x_s5 g44) (x_n g44 (Nat.le_of_ble_eq_true rfl)) (x_s6 g44) (x_n g44 (Nat.le_of_ble_eq_true rfl)) ⟨by show 1 ≤ k + 11; omega, Nat.le_trans (m := 440) (Nat.le_of_ble_eq_true rfl) (by show 440 ≤ 40 * (k + 11); omega)⟩ e46 ?_
        exact J_vret rfl dX4_place_43 ⟨rfl, Nat.le_refl _⟩ (j_pV h)
  · replace h := j_iq c1 h
    exact J_vret rfl dX4_place_8 ⟨rfl, Nat.le_refl _⟩ (j_pV h)
end
/-- place, with so many levels left -/
noncomputable def f_X4_placeK : Nat → j_M → Int32 → Int32 → Option j_M
  | 0, _, _, _ => none
  | k + 1, M, a, b => f_X4_placeB (f_X4_placeK k) M a b
theorem c_X4_placeK {l : Launch} {G : j_G} : ∀ (k : Nat) (M : j_M) (a b : Int32) (r : j_M), sh_x M.2.2 → f_X4_placeK k M a b = some r → j_Sp l G md_X4_place (k + 10) (0, 0) [.ref 3, .ref 17, .int a, .int b] M (po none r) := by
  intro k
  induction k with
  | zero => intro M a b r hs h; rw [f_X4_placeK] at h; cases h
  | succ k ih =>
    intro M a b r hs h
    rw [f_X4_placeK] at h
    exact c_X4_placeB _ ih hs h
noncomputable def f_X4_place (M : j_M) (x2 x3 : Int32) : Option j_M := f_X4_placeK 9 M x2 x3
theorem c_X4_place {l : Launch} {G : j_G} {M : j_M} {x2 x3 : Int32} (hs : sh_x M.2.2) {r : j_M} (h : f_X4_place M x2 x3 = some r) : j_Sp l G md_X4_place 19 (0, 0) [.ref 3, .ref 17, .int x2, .int x3] M (po none r) := c_X4_placeK 9 M x2 x3 r hs h
abbrev JT_X9_all (l : Launch) (G : j_G) (r : (Int32 × j_M)) : Nat → List (Nat × Value) → List Value → j_M → Prop := JJ l G md_X9_all (j_rm 20 (0, 0)) (0, 0) (0, 0) (po (some (.int r.1)) r.2)
noncomputable def f_X9_all (M : j_M) (x1 : Int32) : Option (Int32 × j_M) :=
  if x1 = ((-1) : Int32) then ((f_X4_begin M).bind fun q2 => j_ck M q2 ((f_X4_place q2 (0 : Int32) (0 : Int32)).bind fun q6 => j_ck q2 q6 (if x1 = ((-1) : Int32) then (some ((j_I q6 3 3), q6)) else (a_i q6 6 7 x1 fun v11 => (some (v11, q6)))))) else (tl (f_X9_isOne M x1) fun v13 => (if v13 = 0 then ((f_X9_badAsTen M).bind fun q27 => j_ck M q27.2 (some (q27.1, q27.2))) else ((f_X4_begin M).bind fun q16 => j_ck M q16 ((f_X4_place q16 (0 : Int32) (0 : Int32)).bind fun q20 => j_ck q16 q20 (if x1 = ((-1) : Int32) then (some ((j_I q20 3 3), q20)) else (a_i q20 6 7 x1 fun v25 => (some (v25, q20))))))))
set_option maxHeartbeats 4000000 in
theorem c_X9_all {l : Launch} {G : j_G} {M : j_M} {x1 : Int32} (hs : sh_x M.2.2) {r : (Int32 × j_M)} (h : f_X9_all M x1 = some r) : j_Sp l G md_X9_all 20 (0, 0) [.ref 0, .int x1] M (po (some (.int r.1)) r.2) := by
  refine j_Sp.of (by decide) (Nat.le_of_ble_eq_true rfl) ?_
  show JT_X9_all l G r 0 [(0, .ref 0), (1, .int x1)] [] M
  unfold f_X9_all at h
  refine J_iload_n (pc' := 1) (i := 1) (n := 1) dX9_all_0 rfl rfl rfl ?_
  refine J_iconst (pc' := 2) (v := ((-1) : Int32)) dX9_all_1 rfl ic_m1 ?_
  refine J_icmp_eq (pc' := 5) (tgt := 18) dX9_all_2 rfl (by decide) (fun c1 => ?_) (fun c1 => ?_)
  · replace h := j_ip c1 h
    refine J_aload_n (pc' := 19) (i := 0) (n := 0) dX9_all_18 rfl rfl rfl ?_
    refine J_getR (pc' := 22) (b := 3) dX9_all_19 rfl fl_X9_22 rfl (x_o hs) (x_n hs (Nat.le_of_ble_eq_true rfl)) (x_r4 hs) ?_
    obtain ⟨q2, e3, h⟩ := bi_inv h
    obtain ⟨c4, h⟩ := j_ck_inv h
    refine J_callVN (pc' := 25) (as := []) (rest := []) dX9_all_22 rfl lk_X9_212 rfl 4 (by decide) rfl (x_o3 hs) (x_n hs (Nat.le_of_ble_eq_true rfl)) (c_X4_begin hs e3) ⟨Nat.le_of_ble_eq_true rfl, Nat.le_of_ble_eq_true rfl⟩ (Nat.le_of_ble_eq_true rfl) ⟨Nat.le_of_ble_eq_true rfl, Nat.le_of_ble_eq_true rfl⟩ (j_kv ?_)
    have g5 : sh_x q2.2.2 := j_shE c4 hs
    refine J_aload_n (pc' := 26) (i := 0) (n := 0) dX9_all_25 rfl rfl rfl ?_
    refine J_getR (pc' := 29) (b := 3) dX9_all_26 rfl fl_X9_22 rfl (x_o g5) (x_n g5 (Nat.le_of_ble_eq_true rfl)) (x_r4 g5) ?_
    refine J_aload_n (pc' := 30) (i := 0) (n := 0) dX9_all_29 rfl rfl rfl ?_
    refine J_getR (pc' := 33) (b := 17) dX9_all_30 rfl fl_X9_75 rfl (x_o g5) (x_n g5 (Nat.le_of_ble_eq_true rfl)) (x_r0 g5) ?_
    refine J_iconst (pc' := 34) (v := (0 : Int32)) dX9_all_33 rfl ic_0 ?_
    refine J_iconst (pc' := 35) (v := (0 : Int32)) dX9_all_34 rfl ic_0 ?_
    obtain ⟨q6, e7, h⟩ := bi_inv h
    obtain ⟨c8, h⟩ := j_ck_inv h
    refine J_callVN (pc' := 38) (as := [.ref 17, .int (0 : Int32), .int (0 : Int32)]) (rest := []) dX9_all_35 rfl lk_X9_213 rfl 4 (by decide) rfl (x_o3 g5) (x_n g5 (Nat.le_of_ble_eq_true rfl)) (c_X4_place g5 e7) ⟨Nat.le_of_ble_eq_true rfl, Nat.le_of_ble_eq_true rfl⟩ (Nat.le_of_ble_eq_true rfl) ⟨Nat.le_of_ble_eq_true rfl, Nat.le_of_ble_eq_true rfl⟩ (j_kv ?_)
    have g9 : sh_x q6.2.2 := j_shE c8 g5
    refine J_iload_n (pc' := 39) (i := 1) (n := 1) dX9_all_38 rfl rfl rfl ?_
    refine J_iconst (pc' := 40) (v := ((-1) : Int32)) dX9_all_39 rfl ic_m1 ?_
    refine J_icmp_ne (pc' := 43) (tgt := 53) dX9_all_40 rfl (by decide) (fun c10 => ?_) (fun c10 => ?_)
    · replace h := j_iq c10 h
      refine J_aload_n (pc' := 54) (i := 0) (n := 0) dX9_all_53 rfl rfl rfl ?_
      refine J_getR (pc' := 57) (b := 3) dX9_all_54 rfl fl_X9_22 rfl (x_o g9) (x_n g9 (Nat.le_of_ble_eq_true rfl)) (x_r4 g9) ?_
      refine J_getR (pc' := 60) (b := 6) dX9_all_57 rfl fl_X9_220 rfl (x_o3 g9) (x_n g9 (Nat.le_of_ble_eq_true rfl)) (x_p2 g9) ?_
      refine J_iload_n (pc' := 61) (i := 1) (n := 1) dX9_all_60 rfl rfl rfl ?_
      obtain ⟨v11, e12, h⟩ := a_i_inv h
      refine J_ialde (pc' := 62) dX9_all_61 rfl (x_s6 g9) (x_n g9 (Nat.le_of_ble_eq_true rfl)) e12 ?_
      exact J_iret rfl dX9_all_62 ⟨rfl, Nat.le_refl _⟩ (j_pW h)
    · replace h := j_ip c10 h
      refine J_aload_n (pc' := 44) (i := 0) (n := 0) dX9_all_43 rfl rfl rfl ?_
      refine J_getR (pc' := 47) (b := 3) dX9_all_44 rfl fl_X9_22 rfl (x_o g9) (x_n g9 (Nat.le_of_ble_eq_true rfl)) (x_r4 g9) ?_
      refine J_getI (pc' := 50) dX9_all_47 rfl fl_X9_217 rfl (x_o3 g9) (x_n g9 (Nat.le_of_ble_eq_true rfl)) ?_
      refine J_goto (pc' := 62) dX9_all_50 (by decide) ?_
      exact J_iret rfl dX9_all_62 ⟨rfl, Nat.le_refl _⟩ (j_pW h)
  · replace h := j_iq c1 h
    refine J_aload_n (pc' := 6) (i := 0) (n := 0) dX9_all_5 rfl rfl rfl ?_
    refine J_iload_n (pc' := 7) (i := 1) (n := 1) dX9_all_6 rfl rfl rfl ?_
    obtain ⟨v13, e14, h⟩ := tl_inv h
    refine J_callV (pc' := 10) (as := [.int x1]) (rest := []) dX9_all_7 rfl lk_X9_153 rfl 9 (by decide) rfl (x_o hs) (x_n hs (Nat.le_of_ble_eq_true rfl)) (c_X9_isOne hs e14) ⟨Nat.le_of_ble_eq_true rfl, Nat.le_of_ble_eq_true rfl⟩ (Nat.le_of_ble_eq_true rfl) ⟨Nat.le_of_ble_eq_true rfl, Nat.le_of_ble_eq_true rfl⟩ (j_kq ?_)
    refine J_if_ne (pc' := 13) (tgt := 18) dX9_all_10 rfl (by decide) (fun c15 => ?_) (fun c15 => ?_)
    · replace h := j_iq c15 h
      refine J_aload_n (pc' := 19) (i := 0) (n := 0) dX9_all_18 rfl rfl rfl ?_
      refine J_getR (pc' := 22) (b := 3) dX9_all_19 rfl fl_X9_22 rfl (x_o hs) (x_n hs (Nat.le_of_ble_eq_true rfl)) (x_r4 hs) ?_
      obtain ⟨q16, e17, h⟩ := bi_inv h
      obtain ⟨c18, h⟩ := j_ck_inv h
      refine J_callVN (pc' := 25) (as := []) (rest := []) dX9_all_22 rfl lk_X9_212 rfl 4 (by decide) rfl (x_o3 hs) (x_n hs (Nat.le_of_ble_eq_true rfl)) (c_X4_begin hs e17) ⟨Nat.le_of_ble_eq_true rfl, Nat.le_of_ble_eq_true rfl⟩ (Nat.le_of_ble_eq_true rfl) ⟨Nat.le_of_ble_eq_true rfl, Nat.le_of_ble_eq_true rfl⟩ (j_kv ?_)
      have g19 : sh_x q16.2.2 := j_shE c18 hs
      refine J_aload_n (pc' := 26) (i := 0) (n := 0) dX9_all_25 rfl rfl rfl ?_
      refine J_getR (pc' := 29) (b := 3) dX9_all_26 rfl fl_X9_22 rfl (x_o g19) (x_n g19 (Nat.le_of_ble_eq_true rfl)) (x_r4 g19) ?_
      refine J_aload_n (pc' := 30) (i := 0) (n := 0) dX9_all_29 rfl rfl rfl ?_
      refine J_getR (pc' := 33) (b := 17) dX9_all_30 rfl fl_X9_75 rfl (x_o g19) (x_n g19 (Nat.le_of_ble_eq_true rfl)) (x_r0 g19) ?_
      refine J_iconst (pc' := 34) (v := (0 : Int32)) dX9_all_33 rfl ic_0 ?_
      refine J_iconst (pc' := 35) (v := (0 : Int32)) dX9_all_34 rfl ic_0 ?_
      obtain ⟨q20, e21, h⟩ := bi_inv h
      obtain ⟨c22, h⟩ := j_ck_inv h
      refine J_callVN (pc' := 38) (as := [.ref 17, .int (0 : Int32), .int (0 : Int32)]) (rest := []) dX9_all_35 rfl lk_X9_213 rfl 4 (by decide) rfl (x_o3 g19) (x_n g19 (Nat.le_of_ble_eq_true rfl)) (c_X4_place g19 e21) ⟨Nat.le_of_ble_eq_true rfl, Nat.le_of_ble_eq_true rfl⟩ (Nat.le_of_ble_eq_true rfl) ⟨Nat.le_of_ble_eq_true rfl, Nat.le_of_ble_eq_true rfl⟩ (j_kv ?_)
      have g23 : sh_x q20.2.2 := j_shE c22 g19
      refine J_iload_n (pc' := 39) (i := 1) (n := 1) dX9_all_38 rfl rfl rfl ?_
      refine J_iconst (pc' := 40) (v := ((-1) : Int32)) dX9_all_39 rfl ic_m1 ?_
      refine J_icmp_ne (pc' := 43) (tgt := 53) dX9_all_40 rfl (by decide) (fun c24 => ?_) (fun c24 => ?_)
      · replace h := j_iq c24 h
        refine J_aload_n (pc' := 54) (i := 0) (n := 0) dX9_all_53 rfl rfl rfl ?_
        refine J_getR (pc' := 57) (b := 3) dX9_all_54 rfl fl_X9_22 rfl (x_o g23) (x_n g23 (Nat.le_of_ble_eq_true rfl)) (x_r4 g23) ?_
        refine J_getR (pc' := 60) (b := 6) dX9_all_57 rfl fl_X9_220 rfl (x_o3 g23) (x_n g23 (Nat.le_of_ble_eq_true rfl)) (x_p2 g23) ?_
        refine J_iload_n (pc' := 61) (i := 1) (n := 1) dX9_all_60 rfl rfl rfl ?_
        obtain ⟨v25, e26, h⟩ := a_i_inv h
        refine J_ialde (pc' := 62) dX9_all_61 rfl (x_s6 g23) (x_n g23 (Nat.le_of_ble_eq_true rfl)) e26 ?_
        exact J_iret rfl dX9_all_62 ⟨rfl, Nat.le_refl _⟩ (j_pW h)
      · replace h := j_ip c24 h
        refine J_aload_n (pc' := 44) (i := 0) (n := 0) dX9_all_43 rfl rfl rfl ?_
        refine J_getR (pc' := 47) (b := 3) dX9_all_44 rfl fl_X9_22 rfl (x_o g23) (x_n g23 (Nat.le_of_ble_eq_true rfl)) (x_r4 g23) ?_
        refine J_getI (pc' := 50) dX9_all_47 rfl fl_X9_217 rfl (x_o3 g23) (x_n g23 (Nat.le_of_ble_eq_true rfl)) ?_
        refine J_goto (pc' := 62) dX9_all_50 (by decide) ?_
        exact J_iret rfl dX9_all_62 ⟨rfl, Nat.le_refl _⟩ (j_pW h)
    · replace h := j_ip c15 h
      refine J_aload_n (pc' := 14) (i := 0) (n := 0) dX9_all_13 rfl rfl rfl ?_
      obtain ⟨q27, e28, h⟩ := bi_inv h
      obtain ⟨c29, h⟩ := j_ck_inv h
      refine J_callV (pc' := 17) (as := []) (rest := []) dX9_all_14 rfl lk_X9_209 rfl 9 (by decide) rfl (x_o hs) (x_n hs (Nat.le_of_ble_eq_true rfl)) (c_X9_badAsTen hs e28) ⟨Nat.le_of_ble_eq_true rfl, Nat.le_of_ble_eq_true rfl⟩ (Nat.le_of_ble_eq_true rfl) ⟨Nat.le_of_ble_eq_true rfl, Nat.le_of_ble_eq_true rfl⟩ (j_kq ?_)
      have g30 : sh_x q27.2.2.2 := j_shE c29 hs
      exact J_iret rfl dX9_all_17 ⟨rfl, Nat.le_refl _⟩ (j_pW h)