abbrev JT_X10_minute (l : Launch) (G : j_G) (r : (Int32 × j_M)) : Nat → List (Nat × Value) → List Value → j_M → Prop := JJ l G md_X10_minute (j_rm 4 (0, 0)) (0, 0) (0, 0) (po (some (.int r.1)) r.2)
noncomputable def f_X10_minute_L61 : Nat → j_M → Int32 → Int32 → Int32 → (Int32 → Int32 → j_M → Option (Int32 × j_M)) → Option (Int32 × j_M)
  | 0, _, _, _, _, _ => none
  | n + 1, M, x2, x3, x4, K =>
    (f_X10_many M).bind fun v18 => (if v18 ≤ x4 then (K x3 x4 M) else (if x2 ≤ 0 then (K x3 x4 M) else (a_i M 40 7 x4 fun v22 => ((f_X10_secondsIn M x4 v22).bind fun q24 => j_ck M q24.2 (a_i q24.2 36 250 ((23 : Int32) + x4) fun v28 => (a_i q24.2 36 250 ((16 : Int32) + x4) fun v30 => (d_i (v28 + ((60 : Int32) * x2)) q24.1 fun v32 => (w_i q24.2 36 250 ((16 : Int32) + x4) (v30 + v32) fun M34 => (r_i (v28 + ((60 : Int32) * x2)) q24.1 fun v37 => (w_i M34 36 250 ((23 : Int32) + x4) v37 fun M39 => (d_i (v28 + ((60 : Int32) * x2)) q24.1 fun v42 => (f_X10_minute_L61 n  M39 x2 (x3 + v42) (x4 + (1 : Int32)) K))))))))))))
noncomputable def f_X10_minute (M : j_M) (x1 : Int32) : Option (Int32 × j_M) :=
  tl (f_X10_in (x1).toInt64 (1 : Int64) (60 : Int64)) fun v1 => (if v1 = 0 then ((f_X10_bad M ((-2) : Int32)).bind fun q55 => j_ck M q55.2 (some (q55.1, q55.2))) else (a_i M 36 250 (1 : Int32) fun v4 => (jn (fun (v7 : Int32) => ((f_X10_keep M).bind fun q10 => j_ck M q10 ((f_X10_layHand q10).bind fun q14 => j_ck q10 q14 (f_X10_minute_L61 j_fu  q14 v7 (0 : Int32) (0 : Int32) (fun (y44 : Int32) (y45 : Int32) (M46 : j_M) => (a_i M46 36 250 (1 : Int32) fun v48 => (w_i M46 36 250 (1 : Int32) (v48 + v7) fun M50 => (some (y44, M50))))))))) (fun K8 => (if (v4 + x1) ≤ (999 : Int32) then (K8 x1) else (a_i M 36 250 (1 : Int32) fun v53 => (K8 ((999 : Int32) - v53))))))))
set_option maxHeartbeats 4000000 in
theorem L_X10_minute_L61 {l : Launch} {G : j_G}  {r : (Int32 × j_M)} : ∀ (n : Nat) {x2 : Int32} {x3 : Int32} {x4 : Int32} {M : j_M} (hs : sh_m M.2.2) {K : Int32 → Int32 → j_M → Option (Int32 × j_M)}, f_X10_minute_L61 n  M x2 x3 x4 K = some r → (∀ (y3 : Int32) (y4 : Int32) (M1 : j_M), sh_m M1.2.2 → K y3 y4 M1 = some r → JT_X10_minute l G r 153 [(0, .ref 35), (2, .int x2), (3, .int y3)] [] M1) → JT_X10_minute l G r 61 [(0, .ref 35), (2, .int x2), (3, .int x3), (4, .int x4)] [] M := by
  intro n
  induction n with
  | zero =>
    intro x2 x3 x4 M hs K h hK
    rw [f_X10_minute_L61] at h; cases h
  | succ n ih =>
    intro x2 x3 x4 M hs K h hK
    rw [f_X10_minute_L61] at h
    refine J_iload (pc' := 63) (i := 4) (n := 3) dX10_minute_61 rfl rfl ?_
    refine J_aload_n (pc' := 64) (i := 0) (n := 0) dX10_minute_63 rfl rfl rfl ?_
    obtain ⟨v18, e19, h⟩ := bi_inv h
    refine J_callV (pc' := 67) (as := []) (rest := [.int x4]) dX10_minute_64 rfl lk_X10_64 rfl 10 (by decide) rfl (m_o hs) (m_n hs (Nat.le_of_ble_eq_true rfl)) (c_X10_many hs e19) ⟨Nat.le_of_ble_eq_true rfl, Nat.le_of_ble_eq_true rfl⟩ (Nat.le_of_ble_eq_true rfl) ⟨Nat.le_of_ble_eq_true rfl, Nat.le_of_ble_eq_true rfl⟩ (j_kq ?_)
    refine J_icmp_ge (pc' := 70) (tgt := 153) dX10_minute_67 rfl (by decide) (fun c20 => ?_) (fun c20 => ?_)
    · replace h := j_ip c20 h
      refine J_sub [0, 1, 2] (lv' := [(0, .ref 35), (2, .int x2), (3, .int x3)]) rfl ?_
      exact hK x3 x4 M hs h
    · replace h := j_iq c20 h
      refine J_iload_n (pc' := 71) (i := 2) (n := 1) dX10_minute_70 rfl rfl rfl ?_
      refine J_if_le (pc' := 74) (tgt := 153) dX10_minute_71 rfl (by decide) (fun c21 => ?_) (fun c21 => ?_)
      · replace h := j_ip c21 h
        refine J_sub [0, 1, 2] (lv' := [(0, .ref 35), (2, .int x2), (3, .int x3)]) rfl ?_
        exact hK x3 x4 M hs h
      · replace h := j_iq c21 h
        refine J_aload_n (pc' := 75) (i := 0) (n := 0) dX10_minute_74 rfl rfl rfl ?_
        refine J_iload (pc' := 77) (i := 4) (n := 3) dX10_minute_75 rfl rfl ?_
        refine J_aload_n (pc' := 78) (i := 0) (n := 0) dX10_minute_77 rfl rfl rfl ?_
        refine J_getR (pc' := 81) (b := 40) dX10_minute_78 rfl fl_X10_27 rfl (m_o hs) (m_n hs (Nat.le_of_ble_eq_true rfl)) (m_r6 hs) ?_
        refine J_iload (pc' := 83) (i := 4) (n := 3) dX10_minute_81 rfl rfl ?_
        obtain ⟨v22, e23, h⟩ := a_i_inv h
        refine J_ialde (pc' := 84) dX10_minute_83 rfl (m_s40 hs) (m_n hs (Nat.le_of_ble_eq_true rfl)) e23 ?_
        obtain ⟨q24, e25, h⟩ := bi_inv h
        obtain ⟨c26, h⟩ := j_ck_inv h
        refine J_callV (pc' := 87) (as := [.int x4, .int v22]) (rest := []) dX10_minute_84 rfl lk_X10_143 rfl 10 (by decide) rfl (m_o hs) (m_n hs (Nat.le_of_ble_eq_true rfl)) (c_X10_secondsIn hs e25) ⟨Nat.le_of_ble_eq_true rfl, Nat.le_of_ble_eq_true rfl⟩ (Nat.le_of_ble_eq_true rfl) ⟨Nat.le_of_ble_eq_true rfl, Nat.le_of_ble_eq_true rfl⟩ (j_kq ?_)
        have g27 : sh_m q24.2.2.2 := j_shE c26 hs
        refine J_istore (pc' := 89) (i := 5) (lv' := [(5, .int q24.1), (0, .ref 35), (2, .int x2), (3, .int x3), (4, .int x4)]) dX10_minute_87 rfl (by decide) rfl ?_
        refine J_aload_n (pc' := 90) (i := 0) (n := 1) dX10_minute_89 rfl rfl rfl ?_
        refine J_getR (pc' := 93) (b := 36) dX10_minute_90 rfl fl_X10_7 rfl (m_o g27) (m_n g27 (Nat.le_of_ble_eq_true rfl)) (m_r0 g27) ?_
        refine J_bipush (pc' := 95) (v := (23 : Int32)) dX10_minute_93 rfl bp_23 ?_
        refine J_iload (pc' := 97) (i := 4) (n := 4) dX10_minute_95 rfl rfl ?_
        refine J_iadd (pc' := 98) dX10_minute_97 rfl ?_
        obtain ⟨v28, e29, h⟩ := a_i_inv h
        refine J_ialde (pc' := 99) dX10_minute_98 rfl (m_s36 g27) (m_n g27 (Nat.le_of_ble_eq_true rfl)) e29 ?_
        refine J_bipush (pc' := 101) (v := (60 : Int32)) dX10_minute_99 rfl bp_60 ?_
        refine J_iload_n (pc' := 102) (i := 2) (n := 2) dX10_minute_101 rfl rfl rfl ?_
        refine J_imul (pc' := 103) dX10_minute_102 rfl ?_
        refine J_iadd (pc' := 104) dX10_minute_103 rfl ?_
        refine J_istore (pc' := 106) (i := 6) (lv' := [(6, .int (v28 + ((60 : Int32) * x2))), (5, .int q24.1), (0, .ref 35), (2, .int x2), (3, .int x3), (4, .int x4)]) dX10_minute_104 rfl (by decide) rfl ?_
        refine J_aload_n (pc' := 107) (i := 0) (n := 2) dX10_minute_106 rfl rfl rfl ?_
        refine J_getR (pc' := 110) (b := 36) dX10_minute_107 rfl fl_X10_7 rfl (m_o g27) (m_n g27 (Nat.le_of_ble_eq_true rfl)) (m_r0 g27) ?_
        refine J_bipush (pc' := 112) (v := (16 : Int32)) dX10_minute_110 rfl bp_16 ?_
        refine J_iload (pc' := 114) (i := 4) (n := 5) dX10_minute_112 rfl rfl ?_
        refine J_iadd (pc' := 115) dX10_minute_114 rfl ?_
        refine J_dup2 (pc' := 116) dX10_minute_115 rfl rfl rfl ?_
        obtain ⟨v30, e31, h⟩ := a_i_inv h
        refine J_ialde (pc' := 117) dX10_minute_116 rfl (m_s36 g27) (m_n g27 (Nat.le_of_ble_eq_true rfl)) e31 ?_
        refine J_iload (pc' := 119) (i := 6) (n := 0) dX10_minute_117 rfl rfl ?_
        refine J_iload (pc' := 121) (i := 5) (n := 1) dX10_minute_119 rfl rfl ?_
        obtain ⟨v32, e33, h⟩ := d_i_inv h
        refine J_dive (pc' := 122) dX10_minute_121 rfl e33 ?_
        refine J_iadd (pc' := 123) dX10_minute_122 rfl ?_
        obtain ⟨M34, e35, h⟩ := w_i_inv h
        have g36 : sh_m M34.2.2 := j_shI e35.2 g27
        refine J_iaste (pc' := 124) dX10_minute_123 rfl (m_s36 g27) (m_n g27 (Nat.le_of_ble_eq_true rfl)) e35 ?_
        refine J_aload_n (pc' := 125) (i := 0) (n := 2) dX10_minute_124 rfl rfl rfl ?_
        refine J_getR (pc' := 128) (b := 36) dX10_minute_125 rfl fl_X10_7 rfl (m_o g36) (m_n g36 (Nat.le_of_ble_eq_true rfl)) (m_r0 g36) ?_
        refine J_bipush (pc' := 130) (v := (23 : Int32)) dX10_minute_128 rfl bp_23 ?_
        refine J_iload (pc' := 132) (i := 4) (n := 5) dX10_minute_130 rfl rfl ?_
        refine J_iadd (pc' := 133) dX10_minute_132 rfl ?_
        refine J_iload (pc' := 135) (i := 6) (n := 0) dX10_minute_133 rfl rfl ?_
        refine J_iload (pc' := 137) (i := 5) (n := 1) dX10_minute_135 rfl rfl ?_
        obtain ⟨v37, e38, h⟩ := r_i_inv h
        refine J_reme (pc' := 138) dX10_minute_137 rfl e38 ?_
        obtain ⟨M39, e40, h⟩ := w_i_inv h
        have g41 : sh_m M39.2.2 := j_shI e40.2 g36
        refine J_iaste (pc' := 139) dX10_minute_138 rfl (m_s36 g36) (m_n g36 (Nat.le_of_ble_eq_true rfl)) e40 ?_
        refine J_iload_n (pc' := 140) (i := 3) (n := 4) dX10_minute_139 rfl rfl rfl ?_
        refine J_iload (pc' := 142) (i := 6) (n := 0) dX10_minute_140 rfl rfl ?_
        refine J_iload (pc' := 144) (i := 5) (n := 1) dX10_minute_142 rfl rfl ?_
        obtain ⟨v42, e43, h⟩ := d_i_inv h
        refine J_dive (pc' := 145) dX10_minute_144 rfl e43 ?_
        refine J_iadd (pc' := 146) dX10_minute_145 rfl ?_
        refine J_istore_n (pc' := 147) (i := 3) (lv' := [(3, .int (x3 + v42)), (6, .int (v28 + ((60 : Int32) * x2))), (5, .int q24.1), (0, .ref 35), (2, .int x2), (4, .int x4)]) dX10_minute_146 rfl rfl (by decide) rfl ?_
        refine J_iinc (pc' := 150) (i := 4) (n := 5) (v := (x4 + (1 : Int32))) (lv' := [(4, .int (x4 + (1 : Int32))), (3, .int (x3 + v42)), (6, .int (v28 + ((60 : Int32) * x2))), (5, .int q24.1), (0, .ref 35), (2, .int x2)]) dX10_minute_147 rfl rfl (j_inc _ _ rfl _) (by decide) rfl ?_
        refine J_goto (pc' := 61) dX10_minute_150 (by decide) ?_
        refine J_sub [4, 5, 1, 0] (lv' := [(0, .ref 35), (2, .int x2), (3, .int (x3 + v42)), (4, .int (x4 + (1 : Int32)))]) rfl ?_
        exact ih g41 h hK
set_option maxHeartbeats 4000000 in
theorem c_X10_minute {l : Launch} {G : j_G} {M : j_M} {x1 : Int32} (hs : sh_m M.2.2) {r : (Int32 × j_M)} (h : f_X10_minute M x1 = some r) : j_Sp l G md_X10_minute 4 (0, 0) [.ref 35, .int x1] M (po (some (.int r.1)) r.2) := by
  refine j_Sp.of (by decide) (Nat.le_of_ble_eq_true rfl) ?_
  show JT_X10_minute l G r 0 [(0, .ref 35), (1, .int x1)] [] M
  unfold f_X10_minute at h
  refine J_iload_n (pc' := 1) (i := 1) (n := 1) dX10_minute_0 rfl rfl rfl ?_
  refine J_i2l (pc' := 2) dX10_minute_1 rfl ?_
  refine J_lconst (pc' := 3) (v := (1 : Int64)) dX10_minute_2 rfl rfl ?_
  refine J_ldc2 (pc' := 6) (v := (60 : Int64)) dX10_minute_3 rfl wd_1050 ?_
  obtain ⟨v1, e2, h⟩ := tl_inv h
  refine J_callS (pc' := 9) (as := [.long (x1).toInt64, .long (1 : Int64), .long (60 : Int64)]) (rest := []) dX10_minute_6 rfl lk_X10_68 rfl (c_X10_in e2) ⟨Nat.le_of_ble_eq_true rfl, Nat.le_of_ble_eq_true rfl⟩ (Nat.le_of_ble_eq_true rfl) ⟨Nat.le_of_ble_eq_true rfl, Nat.le_of_ble_eq_true rfl⟩ (j_kq ?_)
  refine J_if_ne (pc' := 12) (tgt := 19) dX10_minute_9 rfl (by decide) (fun c3 => ?_) (fun c3 => ?_)
  · replace h := j_iq c3 h
    refine J_aload_n (pc' := 20) (i := 0) (n := 0) dX10_minute_19 rfl rfl rfl ?_
    refine J_getR (pc' := 23) (b := 36) dX10_minute_20 rfl fl_X10_7 rfl (m_o hs) (m_n hs (Nat.le_of_ble_eq_true rfl)) (m_r0 hs) ?_
    refine J_iconst (pc' := 24) (v := (1 : Int32)) dX10_minute_23 rfl ic_1 ?_
    obtain ⟨v4, e5, h⟩ := a_i_inv h
    refine J_ialde (pc' := 25) dX10_minute_24 rfl (m_s36 hs) (m_n hs (Nat.le_of_ble_eq_true rfl)) e5 ?_
    refine J_iload_n (pc' := 26) (i := 1) (n := 1) dX10_minute_25 rfl rfl rfl ?_
    refine J_iadd (pc' := 27) dX10_minute_26 rfl ?_
    refine J_sipush (pc' := 30) (v := (999 : Int32)) dX10_minute_27 rfl sp_999 ?_
    refine J_join (C := fun (v7 : Int32) => JT_X10_minute l G r 47 [(0, .ref 35)] [.int v7] M) h (fun v7 h => ?_) (fun K8 h9 h => ?_)
    · refine J_istore_n (pc' := 48) (i := 2) (lv' := [(2, .int v7), (0, .ref 35)]) dX10_minute_47 rfl rfl (by decide) rfl ?_
      refine J_iconst (pc' := 49) (v := (0 : Int32)) dX10_minute_48 rfl ic_0 ?_
      refine J_istore_n (pc' := 50) (i := 3) (lv' := [(3, .int (0 : Int32)), (2, .int v7), (0, .ref 35)]) dX10_minute_49 rfl rfl (by decide) rfl ?_
      refine J_aload_n (pc' := 51) (i := 0) (n := 2) dX10_minute_50 rfl rfl rfl ?_
      obtain ⟨q10, e11, h⟩ := bi_inv h
      obtain ⟨c12, h⟩ := j_ck_inv h
      refine J_callV (pc' := 54) (as := []) (rest := []) dX10_minute_51 rfl lk_X10_135 rfl 10 (by decide) rfl (m_o hs) (m_n hs (Nat.le_of_ble_eq_true rfl)) (c_X10_keep hs e11) ⟨Nat.le_of_ble_eq_true rfl, Nat.le_of_ble_eq_true rfl⟩ (Nat.le_of_ble_eq_true rfl) ⟨Nat.le_of_ble_eq_true rfl, Nat.le_of_ble_eq_true rfl⟩ (j_kv ?_)
      have g13 : sh_m q10.2.2 := j_shE c12 hs
      refine J_aload_n (pc' := 55) (i := 0) (n := 2) dX10_minute_54 rfl rfl rfl ?_
      obtain ⟨q14, e15, h⟩ := bi_inv h
      obtain ⟨c16, h⟩ := j_ck_inv h
      refine J_callV (pc' := 58) (as := []) (rest := []) dX10_minute_55 rfl lk_X10_140 rfl 10 (by decide) rfl (m_o g13) (m_n g13 (Nat.le_of_ble_eq_true rfl)) (c_X10_layHand g13 e15) ⟨Nat.le_of_ble_eq_true rfl, Nat.le_of_ble_eq_true rfl⟩ (Nat.le_of_ble_eq_true rfl) ⟨Nat.le_of_ble_eq_true rfl, Nat.le_of_ble_eq_true rfl⟩ (j_kv ?_)
      have g17 : sh_m q14.2.2 := j_shE c16 g13
      refine J_iconst (pc' := 59) (v := (0 : Int32)) dX10_minute_58 rfl ic_0 ?_
      refine J_istore (pc' := 61) (i := 4) (lv' := [(4, .int (0 : Int32)), (3, .int (0 : Int32)), (2, .int v7), (0, .ref 35)]) dX10_minute_59 rfl (by decide) rfl ?_
      refine J_sub [3, 2, 1, 0] (lv' := [(0, .ref 35), (2, .int v7), (3, .int (0 : Int32)), (4, .int (0 : Int32))]) rfl ?_
      refine L_X10_minute_L61 j_fu g17 h (fun y44 y45 M46 g47 h => ?_)
      refine J_aload_n (pc' := 154) (i := 0) (n := 0) dX10_minute_153 rfl rfl rfl ?_
      refine J_getR (pc' := 157) (b := 36) dX10_minute_154 rfl fl_X10_7 rfl (m_o g47) (m_n g47 (Nat.le_of_ble_eq_true rfl)) (m_r0 g47) ?_
      refine J_iconst (pc' := 158) (v := (1 : Int32)) dX10_minute_157 rfl ic_1 ?_
      refine J_dup2 (pc' := 159) dX10_minute_158 rfl rfl rfl ?_
      obtain ⟨v48, e49, h⟩ := a_i_inv h
      refine J_ialde (pc' := 160) dX10_minute_159 rfl (m_s36 g47) (m_n g47 (Nat.le_of_ble_eq_true rfl)) e49 ?_
      refine J_iload_n (pc' := 161) (i := 2) (n := 1) dX10_minute_160 rfl rfl rfl ?_
      refine J_iadd (pc' := 162) dX10_minute_161 rfl ?_
      obtain ⟨M50, e51, h⟩ := w_i_inv h
      have g52 : sh_m M50.2.2 := j_shI e51.2 g47
      refine J_iaste (pc' := 163) dX10_minute_162 rfl (m_s36 g47) (m_n g47 (Nat.le_of_ble_eq_true rfl)) e51 ?_
      refine J_iload_n (pc' := 164) (i := 3) (n := 2) dX10_minute_163 rfl rfl rfl ?_
      exact J_iret rfl dX10_minute_164 ⟨rfl, Nat.le_refl _⟩ (j_pW h)
    · refine J_icmp_le (pc' := 33) (tgt := 46) dX10_minute_30 rfl (by decide) (fun c6 => ?_) (fun c6 => ?_)
      · replace h := j_ip c6 h
        refine J_iload_n (pc' := 47) (i := 1) (n := 1) dX10_minute_46 rfl rfl rfl ?_
        refine J_sub [0] (lv' := [(0, .ref 35)]) rfl ?_
        exact h9 x1 h
      · replace h := j_iq c6 h
        refine J_sipush (pc' := 36) (v := (999 : Int32)) dX10_minute_33 rfl sp_999 ?_
        refine J_aload_n (pc' := 37) (i := 0) (n := 0) dX10_minute_36 rfl rfl rfl ?_
        refine J_getR (pc' := 40) (b := 36) dX10_minute_37 rfl fl_X10_7 rfl (m_o hs) (m_n hs (Nat.le_of_ble_eq_true rfl)) (m_r0 hs) ?_
        refine J_iconst (pc' := 41) (v := (1 : Int32)) dX10_minute_40 rfl ic_1 ?_
        obtain ⟨v53, e54, h⟩ := a_i_inv h
        refine J_ialde (pc' := 42) dX10_minute_41 rfl (m_s36 hs) (m_n hs (Nat.le_of_ble_eq_true rfl)) e54 ?_
        refine J_isub (pc' := 43) dX10_minute_42 rfl ?_
        refine J_goto (pc' := 47) dX10_minute_43 (by decide) ?_
        refine J_sub [0] (lv' := [(0, .ref 35)]) rfl ?_
        exact h9 ((999 : Int32) - v53) h
  · replace h := j_ip c3 h
    refine J_aload_n (pc' := 13) (i := 0) (n := 0) dX10_minute_12 rfl rfl rfl ?_
    refine J_bipush (pc' := 15) (v := ((-2) : Int32)) dX10_minute_13 rfl bp_m2 ?_
    obtain ⟨q55, e56, h⟩ := bi_inv h
    obtain ⟨c57, h⟩ := j_ck_inv h
    refine J_callV (pc' := 18) (as := [.int ((-2) : Int32)]) (rest := []) dX10_minute_15 rfl lk_X10_84 rfl 10 (by decide) rfl (m_o hs) (m_n hs (Nat.le_of_ble_eq_true rfl)) (c_X10_bad hs e56) ⟨Nat.le_of_ble_eq_true rfl, Nat.le_of_ble_eq_true rfl⟩ (Nat.le_of_ble_eq_true rfl) ⟨Nat.le_of_ble_eq_true rfl, Nat.le_of_ble_eq_true rfl⟩ (j_kq ?_)
    have g58 : sh_m q55.2.2.2 := j_shE c57 hs
    exact J_iret rfl dX10_minute_18 ⟨rfl, Nat.le_refl _⟩ (j_pW h)
abbrev JT_X10_undo (l : Launch) (G : j_G) (r : (Int32 × j_M)) : Nat → List (Nat × Value) → List Value → j_M → Prop := JJ l G md_X10_undo (j_rm 2 (0, 0)) (0, 0) (0, 0) (po (some (.int r.1)) r.2)
noncomputable def f_X10_undo_L39 : Nat → j_M → Int32 → Int32 → (Int32 → j_M → Option (Int32 × j_M)) → Option (Int32 × j_M)
  | 0, _, _, _, _ => none
  | n + 1, M, x1, x2, K =>
    if (21 : Int32) ≤ x2 then (K x2 M) else (a_i M 36 250 (x1 + x2) fun v12 => (w_i M 36 250 ((9 : Int32) + x2) v12 fun M14 => (f_X10_undo_L39 n  M14 x1 (x2 + (1 : Int32)) K)))
noncomputable def f_X10_undo (M : j_M)  : Option (Int32 × j_M) :=
  a_i M 36 250 (3 : Int32) fun v1 => (if v1 = 0 then ((f_X10_no M).bind fun q27 => j_ck M q27.2 (some (q27.1, q27.2))) else (a_i M 36 250 (3 : Int32) fun v4 => (w_i M 36 250 (3 : Int32) (v4 - (1 : Int32)) fun M6 => (a_i M6 36 250 (3 : Int32) fun v9 => (f_X10_undo_L39 j_fu  M6 ((74 : Int32) + ((22 : Int32) * v9)) (0 : Int32) (fun (y17 : Int32) (M18 : j_M) => (a_i M18 36 250 (((74 : Int32) + ((22 : Int32) * v9)) + (21 : Int32)) fun v20 => (w_i M18 36 250 (1 : Int32) v20 fun M22 => (a_i M22 36 250 (1 : Int32) fun v25 => (some (v25, M22)))))))))))
set_option maxHeartbeats 4000000 in
theorem L_X10_undo_L39 {l : Launch} {G : j_G}  {r : (Int32 × j_M)} : ∀ (n : Nat) {x1 : Int32} {x2 : Int32} {M : j_M} (hs : sh_m M.2.2) {K : Int32 → j_M → Option (Int32 × j_M)}, f_X10_undo_L39 n  M x1 x2 K = some r → (∀ (y2 : Int32) (M1 : j_M), sh_m M1.2.2 → K y2 M1 = some r → JT_X10_undo l G r 68 [(0, .ref 35), (1, .int x1)] [] M1) → JT_X10_undo l G r 39 [(0, .ref 35), (1, .int x1), (2, .int x2)] [] M := by
  intro n
  induction n with
  | zero =>
    intro x1 x2 M hs K h hK
    rw [f_X10_undo_L39] at h; cases h
  | succ n ih =>
    intro x1 x2 M hs K h hK
    rw [f_X10_undo_L39] at h
    refine J_iload_n (pc' := 40) (i := 2) (n := 2) dX10_undo_39 rfl rfl rfl ?_
    refine J_bipush (pc' := 42) (v := (21 : Int32)) dX10_undo_40 rfl bp_21 ?_
    refine J_icmp_ge (pc' := 45) (tgt := 68) dX10_undo_42 rfl (by decide) (fun c11 => ?_) (fun c11 => ?_)
    · replace h := j_ip c11 h
      refine J_sub [0, 1] (lv' := [(0, .ref 35), (1, .int x1)]) rfl ?_
      exact hK x2 M hs h
    · replace h := j_iq c11 h
      refine J_aload_n (pc' := 46) (i := 0) (n := 0) dX10_undo_45 rfl rfl rfl ?_
      refine J_getR (pc' := 49) (b := 36) dX10_undo_46 rfl fl_X10_7 rfl (m_o hs) (m_n hs (Nat.le_of_ble_eq_true rfl)) (m_r0 hs) ?_
      refine J_bipush (pc' := 51) (v := (9 : Int32)) dX10_undo_49 rfl bp_9 ?_
      refine J_iload_n (pc' := 52) (i := 2) (n := 2) dX10_undo_51 rfl rfl rfl ?_
      refine J_iadd (pc' := 53) dX10_undo_52 rfl ?_
      refine J_aload_n (pc' := 54) (i := 0) (n := 0) dX10_undo_53 rfl rfl rfl ?_
      refine J_getR (pc' := 57) (b := 36) dX10_undo_54 rfl fl_X10_7 rfl (m_o hs) (m_n hs (Nat.le_of_ble_eq_true rfl)) (m_r0 hs) ?_
      refine J_iload_n (pc' := 58) (i := 1) (n := 1) dX10_undo_57 rfl rfl rfl ?_
      refine J_iload_n (pc' := 59) (i := 2) (n := 2) dX10_undo_58 rfl rfl rfl ?_
      refine J_iadd (pc' := 60) dX10_undo_59 rfl ?_
      obtain ⟨v12, e13, h⟩ := a_i_inv h
      refine J_ialde (pc' := 61) dX10_undo_60 rfl (m_s36 hs) (m_n hs (Nat.le_of_ble_eq_true rfl)) e13 ?_
      obtain ⟨M14, e15, h⟩ := w_i_inv h
      have g16 : sh_m M14.2.2 := j_shI e15.2 hs
      refine J_iaste (pc' := 62) dX10_undo_61 rfl (m_s36 hs) (m_n hs (Nat.le_of_ble_eq_true rfl)) e15 ?_
      refine J_iinc (pc' := 65) (i := 2) (n := 2) (v := (x2 + (1 : Int32))) (lv' := [(2, .int (x2 + (1 : Int32))), (0, .ref 35), (1, .int x1)]) dX10_undo_62 rfl rfl (j_inc _ _ rfl _) (by decide) rfl ?_
      refine J_goto (pc' := 39) dX10_undo_65 (by decide) ?_
      refine J_sub [1, 2, 0] (lv' := [(0, .ref 35), (1, .int x1), (2, .int (x2 + (1 : Int32)))]) rfl ?_
      exact ih g16 h hK
set_option maxHeartbeats 4000000 in
theorem c_X10_undo {l : Launch} {G : j_G} {M : j_M}  (hs : sh_m M.2.2) {r : (Int32 × j_M)} (h : f_X10_undo M  = some r) : j_Sp l G md_X10_undo 2 (0, 0) [.ref 35] M (po (some (.int r.1)) r.2) := by
  refine j_Sp.of (by decide) (Nat.le_of_ble_eq_true rfl) ?_
  show JT_X10_undo l G r 0 [(0, .ref 35)] [] M
  unfold f_X10_undo at h
  refine J_aload_n (pc' := 1) (i := 0) (n := 0) dX10_undo_0 rfl rfl rfl ?_
  refine J_getR (pc' := 4) (b := 36) dX10_undo_1 rfl fl_X10_7 rfl (m_o hs) (m_n hs (Nat.le_of_ble_eq_true rfl)) (m_r0 hs) ?_
  refine J_iconst (pc' := 5) (v := (3 : Int32)) dX10_undo_4 rfl ic_3 ?_
  obtain ⟨v1, e2, h⟩ := a_i_inv h
  refine J_ialde (pc' := 6) dX10_undo_5 rfl (m_s36 hs) (m_n hs (Nat.le_of_ble_eq_true rfl)) e2 ?_
  refine J_if_ne (pc' := 9) (tgt := 14) dX10_undo_6 rfl (by decide) (fun c3 => ?_) (fun c3 => ?_)
  · replace h := j_iq c3 h
    refine J_aload_n (pc' := 15) (i := 0) (n := 0) dX10_undo_14 rfl rfl rfl ?_
    refine J_getR (pc' := 18) (b := 36) dX10_undo_15 rfl fl_X10_7 rfl (m_o hs) (m_n hs (Nat.le_of_ble_eq_true rfl)) (m_r0 hs) ?_
    refine J_iconst (pc' := 19) (v := (3 : Int32)) dX10_undo_18 rfl ic_3 ?_
    refine J_dup2 (pc' := 20) dX10_undo_19 rfl rfl rfl ?_
    obtain ⟨v4, e5, h⟩ := a_i_inv h
    refine J_ialde (pc' := 21) dX10_undo_20 rfl (m_s36 hs) (m_n hs (Nat.le_of_ble_eq_true rfl)) e5 ?_
    refine J_iconst (pc' := 22) (v := (1 : Int32)) dX10_undo_21 rfl ic_1 ?_
    refine J_isub (pc' := 23) dX10_undo_22 rfl ?_
    obtain ⟨M6, e7, h⟩ := w_i_inv h
    have g8 : sh_m M6.2.2 := j_shI e7.2 hs
    refine J_iaste (pc' := 24) dX10_undo_23 rfl (m_s36 hs) (m_n hs (Nat.le_of_ble_eq_true rfl)) e7 ?_
    refine J_bipush (pc' := 26) (v := (74 : Int32)) dX10_undo_24 rfl bp_74 ?_
    refine J_bipush (pc' := 28) (v := (22 : Int32)) dX10_undo_26 rfl bp_22 ?_
    refine J_aload_n (pc' := 29) (i := 0) (n := 0) dX10_undo_28 rfl rfl rfl ?_
    refine J_getR (pc' := 32) (b := 36) dX10_undo_29 rfl fl_X10_7 rfl (m_o g8) (m_n g8 (Nat.le_of_ble_eq_true rfl)) (m_r0 g8) ?_
    refine J_iconst (pc' := 33) (v := (3 : Int32)) dX10_undo_32 rfl ic_3 ?_
    obtain ⟨v9, e10, h⟩ := a_i_inv h
    refine J_ialde (pc' := 34) dX10_undo_33 rfl (m_s36 g8) (m_n g8 (Nat.le_of_ble_eq_true rfl)) e10 ?_
    refine J_imul (pc' := 35) dX10_undo_34 rfl ?_
    refine J_iadd (pc' := 36) dX10_undo_35 rfl ?_
    refine J_istore_n (pc' := 37) (i := 1) (lv' := [(1, .int ((74 : Int32) + ((22 : Int32) * v9))), (0, .ref 35)]) dX10_undo_36 rfl rfl (by decide) rfl ?_
    refine J_iconst (pc' := 38) (v := (0 : Int32)) dX10_undo_37 rfl ic_0 ?_
    refine J_istore_n (pc' := 39) (i := 2) (lv' := [(2, .int (0 : Int32)), (1, .int ((74 : Int32) + ((22 : Int32) * v9))), (0, .ref 35)]) dX10_undo_38 rfl rfl (by decide) rfl ?_
    refine J_sub [2, 1, 0] (lv' := [(0, .ref 35), (1, .int ((74 : Int32) + ((22 : Int32) * v9))), (2, .int (0 : Int32))]) rfl ?_
    refine L_X10_undo_L39 j_fu g8 h (fun y17 M18 g19 h => ?_)
    refine J_aload_n (pc' := 69) (i := 0) (n := 0) dX10_undo_68 rfl rfl rfl ?_
    refine J_getR (pc' := 72) (b := 36) dX10_undo_69 rfl fl_X10_7 rfl (m_o g19) (m_n g19 (Nat.le_of_ble_eq_true rfl)) (m_r0 g19) ?_
    refine J_iconst (pc' := 73) (v := (1 : Int32)) dX10_undo_72 rfl ic_1 ?_
    refine J_aload_n (pc' := 74) (i := 0) (n := 0) dX10_undo_73 rfl rfl rfl ?_
    refine J_getR (pc' := 77) (b := 36) dX10_undo_74 rfl fl_X10_7 rfl (m_o g19) (m_n g19 (Nat.le_of_ble_eq_true rfl)) (m_r0 g19) ?_
    refine J_iload_n (pc' := 78) (i := 1) (n := 1) dX10_undo_77 rfl rfl rfl ?_
    refine J_bipush (pc' := 80) (v := (21 : Int32)) dX10_undo_78 rfl bp_21 ?_
    refine J_iadd (pc' := 81) dX10_undo_80 rfl ?_
    obtain ⟨v20, e21, h⟩ := a_i_inv h
    refine J_ialde (pc' := 82) dX10_undo_81 rfl (m_s36 g19) (m_n g19 (Nat.le_of_ble_eq_true rfl)) e21 ?_
    obtain ⟨M22, e23, h⟩ := w_i_inv h
    have g24 : sh_m M22.2.2 := j_shI e23.2 g19
    refine J_iaste (pc' := 83) dX10_undo_82 rfl (m_s36 g19) (m_n g19 (Nat.le_of_ble_eq_true rfl)) e23 ?_
    refine J_aload_n (pc' := 84) (i := 0) (n := 0) dX10_undo_83 rfl rfl rfl ?_
    refine J_getR (pc' := 87) (b := 36) dX10_undo_84 rfl fl_X10_7 rfl (m_o g24) (m_n g24 (Nat.le_of_ble_eq_true rfl)) (m_r0 g24) ?_
    refine J_iconst (pc' := 88) (v := (1 : Int32)) dX10_undo_87 rfl ic_1 ?_
    obtain ⟨v25, e26, h⟩ := a_i_inv h
    refine J_ialde (pc' := 89) dX10_undo_88 rfl (m_s36 g24) (m_n g24 (Nat.le_of_ble_eq_true rfl)) e26 ?_
    exact J_iret rfl dX10_undo_89 ⟨rfl, Nat.le_refl _⟩ (j_pW h)
  · replace h := j_ip c3 h
    refine J_aload_n (pc' := 10) (i := 0) (n := 0) dX10_undo_9 rfl rfl rfl ?_
    obtain ⟨q27, e28, h⟩ := bi_inv h
    obtain ⟨c29, h⟩ := j_ck_inv h
    refine J_callV (pc' := 13) (as := []) (rest := []) dX10_undo_10 rfl lk_X10_92 rfl 10 (by decide) rfl (m_o hs) (m_n hs (Nat.le_of_ble_eq_true rfl)) (c_X10_no hs e28) ⟨Nat.le_of_ble_eq_true rfl, Nat.le_of_ble_eq_true rfl⟩ (Nat.le_of_ble_eq_true rfl) ⟨Nat.le_of_ble_eq_true rfl, Nat.le_of_ble_eq_true rfl⟩ (j_kq ?_)
    have g30 : sh_m q27.2.2.2 := j_shE c29 hs
    exact J_iret rfl dX10_undo_13 ⟨rfl, Nat.le_refl _⟩ (j_pW h)
abbrev JT_X10_of (l : Launch) (G : j_G) (r : (Int32 × j_M)) : Nat → List (Nat × Value) → List Value → j_M → Prop := JJ l G md_X10_of (j_rm 3 (0, 0)) (0, 0) (0, 0) (po (some (.int r.1)) r.2)
noncomputable def f_X10_of (M : j_M) (x1 : Int32) (x2 : Int32) : Option (Int32 × j_M) :=
  (f_X10_isOne M x1).bind fun v1 => (if v1 = 0 then ((f_X10_bad M ((-2) : Int32)).bind fun q4 => j_ck M q4.2 (some (q4.1, q4.2))) else (tl (f_X10_in (x2).toInt64 (0 : Int64) (5 : Int64)) fun v8 => (if v8 = 0 then ((f_X10_bad M ((-2) : Int32)).bind fun q32 => j_ck M q32.2 (some (q32.1, q32.2))) else (if x2 = (0 : Int32) then (a_i M 36 250 ((30 : Int32) + x1) fun v12 => (some (v12, M))) else (if x2 = (1 : Int32) then ((f_X10_paceOf M x1).bind fun v15 => (some (v15, M))) else (if x2 = (2 : Int32) then (a_i M 36 250 ((9 : Int32) + x1) fun v18 => (some (v18, M))) else (if x2 = (3 : Int32) then (a_i M 36 250 ((16 : Int32) + x1) fun v21 => (some (v21, M))) else (if x2 = (4 : Int32) then (a_i M 36 250 ((23 : Int32) + x1) fun v24 => (some (v24, M))) else (a_i M 36 250 ((30 : Int32) + x1) fun v26 => ((f_X10_paceOf M x1).bind fun v28 => (tl (f_X10_believesAs v26 v28) fun v30 => (some (v30, M)))))))))))))
set_option maxHeartbeats 4000000 in
theorem c_X10_of {l : Launch} {G : j_G} {M : j_M} {x1 : Int32} {x2 : Int32} (hs : sh_m M.2.2) {r : (Int32 × j_M)} (h : f_X10_of M x1 x2 = some r) : j_Sp l G md_X10_of 3 (0, 0) [.ref 35, .int x1, .int x2] M (po (some (.int r.1)) r.2) := by
  refine j_Sp.of (by decide) (Nat.le_of_ble_eq_true rfl) ?_
  show JT_X10_of l G r 0 [(0, .ref 35), (1, .int x1), (2, .int x2)] [] M
  unfold f_X10_of at h
  refine J_aload_n (pc' := 1) (i := 0) (n := 0) dX10_of_0 rfl rfl rfl ?_
  refine J_iload_n (pc' := 2) (i := 1) (n := 1) dX10_of_1 rfl rfl rfl ?_
  obtain ⟨v1, e2, h⟩ := bi_inv h
  refine J_callV (pc' := 5) (as := [.int x1]) (rest := []) dX10_of_2 rfl lk_X10_132 rfl 10 (by decide) rfl (m_o hs) (m_n hs (Nat.le_of_ble_eq_true rfl)) (c_X10_isOne hs e2) ⟨Nat.le_of_ble_eq_true rfl, Nat.le_of_ble_eq_true rfl⟩ (Nat.le_of_ble_eq_true rfl) ⟨Nat.le_of_ble_eq_true rfl, Nat.le_of_ble_eq_true rfl⟩ (j_kq ?_)
  refine J_if_eq (pc' := 8) (tgt := 20) dX10_of_5 rfl (by decide) (fun c3 => ?_) (fun c3 => ?_)
  · replace h := j_ip c3 h
    refine J_aload_n (pc' := 21) (i := 0) (n := 0) dX10_of_20 rfl rfl rfl ?_
    refine J_bipush (pc' := 23) (v := ((-2) : Int32)) dX10_of_21 rfl bp_m2 ?_
    obtain ⟨q4, e5, h⟩ := bi_inv h
    obtain ⟨c6, h⟩ := j_ck_inv h
    refine J_callV (pc' := 26) (as := [.int ((-2) : Int32)]) (rest := []) dX10_of_23 rfl lk_X10_84 rfl 10 (by decide) rfl (m_o hs) (m_n hs (Nat.le_of_ble_eq_true rfl)) (c_X10_bad hs e5) ⟨Nat.le_of_ble_eq_true rfl, Nat.le_of_ble_eq_true rfl⟩ (Nat.le_of_ble_eq_true rfl) ⟨Nat.le_of_ble_eq_true rfl, Nat.le_of_ble_eq_true rfl⟩ (j_kq ?_)
    have g7 : sh_m q4.2.2.2 := j_shE c6 hs
    exact J_iret rfl dX10_of_26 ⟨rfl, Nat.le_refl _⟩ (j_pW h)
  · replace h := j_iq c3 h
    refine J_iload_n (pc' := 9) (i := 2) (n := 2) dX10_of_8 rfl rfl rfl ?_
    refine J_i2l (pc' := 10) dX10_of_9 rfl ?_
    refine J_lconst (pc' := 11) (v := (0 : Int64)) dX10_of_10 rfl rfl ?_
    refine J_ldc2 (pc' := 14) (v := (5 : Int64)) dX10_of_11 rfl wd_1017 ?_
    obtain ⟨v8, e9, h⟩ := tl_inv h
    refine J_callS (pc' := 17) (as := [.long (x2).toInt64, .long (0 : Int64), .long (5 : Int64)]) (rest := []) dX10_of_14 rfl lk_X10_68 rfl (c_X10_in e9) ⟨Nat.le_of_ble_eq_true rfl, Nat.le_of_ble_eq_true rfl⟩ (Nat.le_of_ble_eq_true rfl) ⟨Nat.le_of_ble_eq_true rfl, Nat.le_of_ble_eq_true rfl⟩ (j_kq ?_)
    refine J_if_ne (pc' := 20) (tgt := 27) dX10_of_17 rfl (by decide) (fun c10 => ?_) (fun c10 => ?_)
    · replace h := j_iq c10 h
      refine J_iload_n (pc' := 28) (i := 2) (n := 2) dX10_of_27 rfl rfl rfl ?_
      by_cases c11 : x2 = (0 : Int32)
      · replace h := j_ip c11 h
        refine J_tin (tgt := 64) dX10_of_28 (0 : Int32) c11 ⟨by decide, by decide, rfl, by decide⟩ ?_
        refine J_aload_n (pc' := 65) (i := 0) (n := 0) dX10_of_64 rfl rfl rfl ?_
        refine J_getR (pc' := 68) (b := 36) dX10_of_65 rfl fl_X10_7 rfl (m_o hs) (m_n hs (Nat.le_of_ble_eq_true rfl)) (m_r0 hs) ?_
        refine J_bipush (pc' := 70) (v := (30 : Int32)) dX10_of_68 rfl bp_30 ?_
        refine J_iload_n (pc' := 71) (i := 1) (n := 1) dX10_of_70 rfl rfl rfl ?_
        refine J_iadd (pc' := 72) dX10_of_71 rfl ?_
        obtain ⟨v12, e13, h⟩ := a_i_inv h
        refine J_ialde (pc' := 73) dX10_of_72 rfl (m_s36 hs) (m_n hs (Nat.le_of_ble_eq_true rfl)) e13 ?_
        exact J_iret rfl dX10_of_73 ⟨rfl, Nat.le_refl _⟩ (j_pW h)
      replace h := j_iq c11 h
      by_cases c14 : x2 = (1 : Int32)
      · replace h := j_ip c14 h
        refine J_tin (tgt := 74) dX10_of_28 (1 : Int32) c14 ⟨by decide, by decide, rfl, by decide⟩ ?_
        refine J_aload_n (pc' := 75) (i := 0) (n := 0) dX10_of_74 rfl rfl rfl ?_
        refine J_iload_n (pc' := 76) (i := 1) (n := 1) dX10_of_75 rfl rfl rfl ?_
        obtain ⟨v15, e16, h⟩ := bi_inv h
        refine J_callV (pc' := 79) (as := [.int x1]) (rest := []) dX10_of_76 rfl lk_X10_121 rfl 10 (by decide) rfl (m_o hs) (m_n hs (Nat.le_of_ble_eq_true rfl)) (c_X10_paceOf hs e16) ⟨Nat.le_of_ble_eq_true rfl, Nat.le_of_ble_eq_true rfl⟩ (Nat.le_of_ble_eq_true rfl) ⟨Nat.le_of_ble_eq_true rfl, Nat.le_of_ble_eq_true rfl⟩ (j_kq ?_)
        exact J_iret rfl dX10_of_79 ⟨rfl, Nat.le_refl _⟩ (j_pW h)
      replace h := j_iq c14 h
      by_cases c17 : x2 = (2 : Int32)
      · replace h := j_ip c17 h
        refine J_tin (tgt := 80) dX10_of_28 (2 : Int32) c17 ⟨by decide, by decide, rfl, by decide⟩ ?_
        refine J_aload_n (pc' := 81) (i := 0) (n := 0) dX10_of_80 rfl rfl rfl ?_
        refine J_getR (pc' := 84) (b := 36) dX10_of_81 rfl fl_X10_7 rfl (m_o hs) (m_n hs (Nat.le_of_ble_eq_true rfl)) (m_r0 hs) ?_
        refine J_bipush (pc' := 86) (v := (9 : Int32)) dX10_of_84 rfl bp_9 ?_
        refine J_iload_n (pc' := 87) (i := 1) (n := 1) dX10_of_86 rfl rfl rfl ?_
        refine J_iadd (pc' := 88) dX10_of_87 rfl ?_
        obtain ⟨v18, e19, h⟩ := a_i_inv h
        refine J_ialde (pc' := 89) dX10_of_88 rfl (m_s36 hs) (m_n hs (Nat.le_of_ble_eq_true rfl)) e19 ?_
        exact J_iret rfl dX10_of_89 ⟨rfl, Nat.le_refl _⟩ (j_pW h)
      replace h := j_iq c17 h
      by_cases c20 : x2 = (3 : Int32)
      · replace h := j_ip c20 h
        refine J_tin (tgt := 90) dX10_of_28 (3 : Int32) c20 ⟨by decide, by decide, rfl, by decide⟩ ?_
        refine J_aload_n (pc' := 91) (i := 0) (n := 0) dX10_of_90 rfl rfl rfl ?_
        refine J_getR (pc' := 94) (b := 36) dX10_of_91 rfl fl_X10_7 rfl (m_o hs) (m_n hs (Nat.le_of_ble_eq_true rfl)) (m_r0 hs) ?_
        refine J_bipush (pc' := 96) (v := (16 : Int32)) dX10_of_94 rfl bp_16 ?_
        refine J_iload_n (pc' := 97) (i := 1) (n := 1) dX10_of_96 rfl rfl rfl ?_
        refine J_iadd (pc' := 98) dX10_of_97 rfl ?_
        obtain ⟨v21, e22, h⟩ := a_i_inv h
        refine J_ialde (pc' := 99) dX10_of_98 rfl (m_s36 hs) (m_n hs (Nat.le_of_ble_eq_true rfl)) e22 ?_
        exact J_iret rfl dX10_of_99 ⟨rfl, Nat.le_refl _⟩ (j_pW h)
      replace h := j_iq c20 h
      by_cases c23 : x2 = (4 : Int32)
      · replace h := j_ip c23 h
        refine J_tin (tgt := 100) dX10_of_28 (4 : Int32) c23 ⟨by decide, by decide, rfl, by decide⟩ ?_
        refine J_aload_n (pc' := 101) (i := 0) (n := 0) dX10_of_100 rfl rfl rfl ?_
        refine J_getR (pc' := 104) (b := 36) dX10_of_101 rfl fl_X10_7 rfl (m_o hs) (m_n hs (Nat.le_of_ble_eq_true rfl)) (m_r0 hs) ?_
        refine J_bipush (pc' := 106) (v := (23 : Int32)) dX10_of_104 rfl bp_23 ?_
        refine J_iload_n (pc' := 107) (i := 1) (n := 1) dX10_of_106 rfl rfl rfl ?_
        refine J_iadd (pc' := 108) dX10_of_107 rfl ?_
        obtain ⟨v24, e25, h⟩ := a_i_inv h
        refine J_ialde (pc' := 109) dX10_of_108 rfl (m_s36 hs) (m_n hs (Nat.le_of_ble_eq_true rfl)) e25 ?_
        exact J_iret rfl dX10_of_109 ⟨rfl, Nat.le_refl _⟩ (j_pW h)
      replace h := j_iq c23 h
      refine J_tout (tgt := 110) dX10_of_28 (j_out0_4 c11 c14 c17 c20 c23) (by decide) ?_
      refine J_aload_n (pc' := 111) (i := 0) (n := 0) dX10_of_110 rfl rfl rfl ?_
      refine J_getR (pc' := 114) (b := 36) dX10_of_111 rfl fl_X10_7 rfl (m_o hs) (m_n hs (Nat.le_of_ble_eq_true rfl)) (m_r0 hs) ?_
      refine J_bipush (pc' := 116) (v := (30 : Int32)) dX10_of_114 rfl bp_30 ?_
      refine J_iload_n (pc' := 117) (i := 1) (n := 1) dX10_of_116 rfl rfl rfl ?_
      refine J_iadd (pc' := 118) dX10_of_117 rfl ?_
      obtain ⟨v26, e27, h⟩ := a_i_inv h
      refine J_ialde (pc' := 119) dX10_of_118 rfl (m_s36 hs) (m_n hs (Nat.le_of_ble_eq_true rfl)) e27 ?_
      refine J_aload_n (pc' := 120) (i := 0) (n := 0) dX10_of_119 rfl rfl rfl ?_
      refine J_iload_n (pc' := 121) (i := 1) (n := 1) dX10_of_120 rfl rfl rfl ?_
      obtain ⟨v28, e29, h⟩ := bi_inv h
      refine J_callV (pc' := 124) (as := [.int x1]) (rest := [.int v26]) dX10_of_121 rfl lk_X10_121 rfl 10 (by decide) rfl (m_o hs) (m_n hs (Nat.le_of_ble_eq_true rfl)) (c_X10_paceOf hs e29) ⟨Nat.le_of_ble_eq_true rfl, Nat.le_of_ble_eq_true rfl⟩ (Nat.le_of_ble_eq_true rfl) ⟨Nat.le_of_ble_eq_true rfl, Nat.le_of_ble_eq_true rfl⟩ (j_kq ?_)
      obtain ⟨v30, e31, h⟩ := tl_inv h
      refine J_callS (pc' := 127) (as := [.int v26, .int v28]) (rest := []) dX10_of_124 rfl lk_X10_147 rfl (c_X10_believesAs e31) ⟨Nat.le_of_ble_eq_true rfl, Nat.le_of_ble_eq_true rfl⟩ (Nat.le_of_ble_eq_true rfl) ⟨Nat.le_of_ble_eq_true rfl, Nat.le_of_ble_eq_true rfl⟩ (j_kq ?_)
      exact J_iret rfl dX10_of_127 ⟨rfl, Nat.le_refl _⟩ (j_pW h)
    · replace h := j_ip c10 h
      refine J_aload_n (pc' := 21) (i := 0) (n := 0) dX10_of_20 rfl rfl rfl ?_
      refine J_bipush (pc' := 23) (v := ((-2) : Int32)) dX10_of_21 rfl bp_m2 ?_
      obtain ⟨q32, e33, h⟩ := bi_inv h
      obtain ⟨c34, h⟩ := j_ck_inv h
      refine J_callV (pc' := 26) (as := [.int ((-2) : Int32)]) (rest := []) dX10_of_23 rfl lk_X10_84 rfl 10 (by decide) rfl (m_o hs) (m_n hs (Nat.le_of_ble_eq_true rfl)) (c_X10_bad hs e33) ⟨Nat.le_of_ble_eq_true rfl, Nat.le_of_ble_eq_true rfl⟩ (Nat.le_of_ble_eq_true rfl) ⟨Nat.le_of_ble_eq_true rfl, Nat.le_of_ble_eq_true rfl⟩ (j_kq ?_)
      have g35 : sh_m q32.2.2.2 := j_shE c34 hs
      exact J_iret rfl dX10_of_26 ⟨rfl, Nat.le_refl _⟩ (j_pW h)
abbrev JT_X10_lane (l : Launch) (G : j_G) (r : (Int32 × j_M)) : Nat → List (Nat × Value) → List Value → j_M → Prop := JJ l G md_X10_lane (j_rm 3 (0, 0)) (0, 0) (0, 0) (po (some (.int r.1)) r.2)
noncomputable def f_X10_lane (M : j_M) (x1 : Int32) (x2 : Int32) : Option (Int32 × j_M) :=
  tl (f_X10_isLane x1) fun v1 => (if v1 = 0 then ((f_X10_bad M ((-2) : Int32)).bind fun q4 => j_ck M q4.2 (some (q4.1, q4.2))) else (tl (f_X10_in (x2).toInt64 (0 : Int64) (2 : Int64)) fun v8 => (if v8 = 0 then ((f_X10_bad M ((-2) : Int32)).bind fun q19 => j_ck M q19.2 (some (q19.1, q19.2))) else (if x2 = 0 then (a_i M 36 250 ((4 : Int32) + x1) fun v17 => (some (v17, M))) else (if x2 = (1 : Int32) then (a_i M 36 250 (8 : Int32) fun v15 => (some (((v15 >>> (x1 &&& 31)) &&& (1 : Int32)), M))) else ((f_X10_whoIsIn M 36 250 x1).bind fun v13 => (some (v13, M))))))))
set_option maxHeartbeats 4000000 in
theorem c_X10_lane {l : Launch} {G : j_G} {M : j_M} {x1 : Int32} {x2 : Int32} (hs : sh_m M.2.2) {r : (Int32 × j_M)} (h : f_X10_lane M x1 x2 = some r) : j_Sp l G md_X10_lane 3 (0, 0) [.ref 35, .int x1, .int x2] M (po (some (.int r.1)) r.2) := by
  refine j_Sp.of (by decide) (Nat.le_of_ble_eq_true rfl) ?_
  show JT_X10_lane l G r 0 [(0, .ref 35), (1, .int x1), (2, .int x2)] [] M
  unfold f_X10_lane at h
  refine J_iload_n (pc' := 1) (i := 1) (n := 1) dX10_lane_0 rfl rfl rfl ?_
  obtain ⟨v1, e2, h⟩ := tl_inv h
  refine J_callS (pc' := 4) (as := [.int x1]) (rest := []) dX10_lane_1 rfl lk_X10_78 rfl (c_X10_isLane e2) ⟨Nat.le_of_ble_eq_true rfl, Nat.le_of_ble_eq_true rfl⟩ (Nat.le_of_ble_eq_true rfl) ⟨Nat.le_of_ble_eq_true rfl, Nat.le_of_ble_eq_true rfl⟩ (j_kq ?_)
  refine J_if_eq (pc' := 7) (tgt := 19) dX10_lane_4 rfl (by decide) (fun c3 => ?_) (fun c3 => ?_)
  · replace h := j_ip c3 h
    refine J_aload_n (pc' := 20) (i := 0) (n := 0) dX10_lane_19 rfl rfl rfl ?_
    refine J_bipush (pc' := 22) (v := ((-2) : Int32)) dX10_lane_20 rfl bp_m2 ?_
    obtain ⟨q4, e5, h⟩ := bi_inv h
    obtain ⟨c6, h⟩ := j_ck_inv h
    refine J_callV (pc' := 25) (as := [.int ((-2) : Int32)]) (rest := []) dX10_lane_22 rfl lk_X10_84 rfl 10 (by decide) rfl (m_o hs) (m_n hs (Nat.le_of_ble_eq_true rfl)) (c_X10_bad hs e5) ⟨Nat.le_of_ble_eq_true rfl, Nat.le_of_ble_eq_true rfl⟩ (Nat.le_of_ble_eq_true rfl) ⟨Nat.le_of_ble_eq_true rfl, Nat.le_of_ble_eq_true rfl⟩ (j_kq ?_)
    have g7 : sh_m q4.2.2.2 := j_shE c6 hs
    exact J_iret rfl dX10_lane_25 ⟨rfl, Nat.le_refl _⟩ (j_pW h)
  · replace h := j_iq c3 h
    refine J_iload_n (pc' := 8) (i := 2) (n := 2) dX10_lane_7 rfl rfl rfl ?_
    refine J_i2l (pc' := 9) dX10_lane_8 rfl ?_
    refine J_lconst (pc' := 10) (v := (0 : Int64)) dX10_lane_9 rfl rfl ?_
    refine J_ldc2 (pc' := 13) (v := (2 : Int64)) dX10_lane_10 rfl wd_997 ?_
    obtain ⟨v8, e9, h⟩ := tl_inv h
    refine J_callS (pc' := 16) (as := [.long (x2).toInt64, .long (0 : Int64), .long (2 : Int64)]) (rest := []) dX10_lane_13 rfl lk_X10_68 rfl (c_X10_in e9) ⟨Nat.le_of_ble_eq_true rfl, Nat.le_of_ble_eq_true rfl⟩ (Nat.le_of_ble_eq_true rfl) ⟨Nat.le_of_ble_eq_true rfl, Nat.le_of_ble_eq_true rfl⟩ (j_kq ?_)
    refine J_if_ne (pc' := 19) (tgt := 26) dX10_lane_16 rfl (by decide) (fun c10 => ?_) (fun c10 => ?_)
    · replace h := j_iq c10 h
      refine J_iload_n (pc' := 27) (i := 2) (n := 2) dX10_lane_26 rfl rfl rfl ?_
      refine J_if_ne (pc' := 30) (tgt := 41) dX10_lane_27 rfl (by decide) (fun c11 => ?_) (fun c11 => ?_)
      · replace h := j_iq c11 h
        refine J_iload_n (pc' := 42) (i := 2) (n := 2) dX10_lane_41 rfl rfl rfl ?_
        refine J_iconst (pc' := 43) (v := (1 : Int32)) dX10_lane_42 rfl ic_1 ?_
        refine J_icmp_ne (pc' := 46) (tgt := 60) dX10_lane_43 rfl (by decide) (fun c12 => ?_) (fun c12 => ?_)
        · replace h := j_iq c12 h
          refine J_aload_n (pc' := 61) (i := 0) (n := 0) dX10_lane_60 rfl rfl rfl ?_
          refine J_getR (pc' := 64) (b := 36) dX10_lane_61 rfl fl_X10_7 rfl (m_o hs) (m_n hs (Nat.le_of_ble_eq_true rfl)) (m_r0 hs) ?_
          refine J_iload_n (pc' := 65) (i := 1) (n := 1) dX10_lane_64 rfl rfl rfl ?_
          obtain ⟨v13, e14, h⟩ := bi_inv h
          refine J_callS (pc' := 68) (as := [.ref 36, .int x1]) (rest := []) dX10_lane_65 rfl lk_X10_88 rfl (c_X10_whoIsIn ⟨(m_s36 hs), (m_n hs (Nat.le_of_ble_eq_true rfl))⟩ e14) ⟨Nat.le_of_ble_eq_true rfl, Nat.le_of_ble_eq_true rfl⟩ (Nat.le_of_ble_eq_true rfl) ⟨Nat.le_of_ble_eq_true rfl, Nat.le_of_ble_eq_true rfl⟩ (j_kq ?_)
          exact J_iret rfl dX10_lane_68 ⟨rfl, Nat.le_refl _⟩ (j_pW h)
        · replace h := j_ip c12 h
          refine J_aload_n (pc' := 47) (i := 0) (n := 0) dX10_lane_46 rfl rfl rfl ?_
          refine J_getR (pc' := 50) (b := 36) dX10_lane_47 rfl fl_X10_7 rfl (m_o hs) (m_n hs (Nat.le_of_ble_eq_true rfl)) (m_r0 hs) ?_
          refine J_bipush (pc' := 52) (v := (8 : Int32)) dX10_lane_50 rfl bp_8 ?_
          obtain ⟨v15, e16, h⟩ := a_i_inv h
          refine J_ialde (pc' := 53) dX10_lane_52 rfl (m_s36 hs) (m_n hs (Nat.le_of_ble_eq_true rfl)) e16 ?_
          refine J_iload_n (pc' := 54) (i := 1) (n := 1) dX10_lane_53 rfl rfl rfl ?_
          refine J_ishr (pc' := 55) dX10_lane_54 rfl ?_
          refine J_iconst (pc' := 56) (v := (1 : Int32)) dX10_lane_55 rfl ic_1 ?_
          refine J_iand (pc' := 57) dX10_lane_56 rfl ?_
          refine J_goto (pc' := 68) dX10_lane_57 (by decide) ?_
          exact J_iret rfl dX10_lane_68 ⟨rfl, Nat.le_refl _⟩ (j_pW h)
      · replace h := j_ip c11 h
        refine J_aload_n (pc' := 31) (i := 0) (n := 0) dX10_lane_30 rfl rfl rfl ?_
        refine J_getR (pc' := 34) (b := 36) dX10_lane_31 rfl fl_X10_7 rfl (m_o hs) (m_n hs (Nat.le_of_ble_eq_true rfl)) (m_r0 hs) ?_
        refine J_iconst (pc' := 35) (v := (4 : Int32)) dX10_lane_34 rfl ic_4 ?_
        refine J_iload_n (pc' := 36) (i := 1) (n := 1) dX10_lane_35 rfl rfl rfl ?_
        refine J_iadd (pc' := 37) dX10_lane_36 rfl ?_
        obtain ⟨v17, e18, h⟩ := a_i_inv h
        refine J_ialde (pc' := 38) dX10_lane_37 rfl (m_s36 hs) (m_n hs (Nat.le_of_ble_eq_true rfl)) e18 ?_
        refine J_goto (pc' := 68) dX10_lane_38 (by decide) ?_
        exact J_iret rfl dX10_lane_68 ⟨rfl, Nat.le_refl _⟩ (j_pW h)
    · replace h := j_ip c10 h
      refine J_aload_n (pc' := 20) (i := 0) (n := 0) dX10_lane_19 rfl rfl rfl ?_
      refine J_bipush (pc' := 22) (v := ((-2) : Int32)) dX10_lane_20 rfl bp_m2 ?_
      obtain ⟨q19, e20, h⟩ := bi_inv h
      obtain ⟨c21, h⟩ := j_ck_inv h
      refine J_callV (pc' := 25) (as := [.int ((-2) : Int32)]) (rest := []) dX10_lane_22 rfl lk_X10_84 rfl 10 (by decide) rfl (m_o hs) (m_n hs (Nat.le_of_ble_eq_true rfl)) (c_X10_bad hs e20) ⟨Nat.le_of_ble_eq_true rfl, Nat.le_of_ble_eq_true rfl⟩ (Nat.le_of_ble_eq_true rfl) ⟨Nat.le_of_ble_eq_true rfl, Nat.le_of_ble_eq_true rfl⟩ (j_kq ?_)
      have g22 : sh_m q19.2.2.2 := j_shE c21 hs
      exact J_iret rfl dX10_lane_25 ⟨rfl, Nat.le_refl _⟩ (j_pW h)
abbrev JT_X10_seconds (l : Launch) (G : j_G) (r : (Int32 × j_M)) : Nat → List (Nat × Value) → List Value → j_M → Prop := JJ l G md_X10_seconds (j_rm 4 (0, 0)) (0, 0) (0, 0) (po (some (.int r.1)) r.2)
noncomputable def f_X10_seconds (M : j_M) (x1 : Int32) (x2 : Int32) (x3 : Int32) : Option (Int32 × j_M) :=
  (f_X10_isOne M x1).bind fun v1 => (if v1 = 0 then ((f_X10_bad M ((-2) : Int32)).bind fun q4 => j_ck M q4.2 (some (q4.1, q4.2))) else (tl (f_X10_isLane x2) fun v8 => (if v8 = 0 then ((f_X10_bad M ((-2) : Int32)).bind fun q11 => j_ck M q11.2 (some (q11.1, q11.2))) else (tl (f_X10_in (x3).toInt64 (0 : Int64) (2 : Int64)) fun v15 => (if v15 = 0 then ((f_X10_bad M ((-2) : Int32)).bind fun q28 => j_ck M q28.2 (some (q28.1, q28.2))) else ((f_X10_layHand M).bind fun q18 => j_ck M q18 ((f_X10_secondsIn q18 x1 x2).bind fun q22 => j_ck q18 q22.2 (if x3 = 0 then (some (q22.1, q22.2)) else (if x3 = (1 : Int32) then (some ((j_I q22.2 35 8), q22.2)) else (some ((j_I q22.2 35 9), q22.2)))))))))))
set_option maxHeartbeats 4000000 in
theorem c_X10_seconds {l : Launch} {G : j_G} {M : j_M} {x1 : Int32} {x2 : Int32} {x3 : Int32} (hs : sh_m M.2.2) {r : (Int32 × j_M)} (h : f_X10_seconds M x1 x2 x3 = some r) : j_Sp l G md_X10_seconds 4 (0, 0) [.ref 35, .int x1, .int x2, .int x3] M (po (some (.int r.1)) r.2) := by
  refine j_Sp.of (by decide) (Nat.le_of_ble_eq_true rfl) ?_
  show JT_X10_seconds l G r 0 [(0, .ref 35), (1, .int x1), (2, .int x2), (3, .int x3)] [] M
  unfold f_X10_seconds at h
  refine J_aload_n (pc' := 1) (i := 0) (n := 0) dX10_seconds_0 rfl rfl rfl ?_
  refine J_iload_n (pc' := 2) (i := 1) (n := 1) dX10_seconds_1 rfl rfl rfl ?_
  obtain ⟨v1, e2, h⟩ := bi_inv h
  refine J_callV (pc' := 5) (as := [.int x1]) (rest := []) dX10_seconds_2 rfl lk_X10_132 rfl 10 (by decide) rfl (m_o hs) (m_n hs (Nat.le_of_ble_eq_true rfl)) (c_X10_isOne hs e2) ⟨Nat.le_of_ble_eq_true rfl, Nat.le_of_ble_eq_true rfl⟩ (Nat.le_of_ble_eq_true rfl) ⟨Nat.le_of_ble_eq_true rfl, Nat.le_of_ble_eq_true rfl⟩ (j_kq ?_)
  refine J_if_eq (pc' := 8) (tgt := 27) dX10_seconds_5 rfl (by decide) (fun c3 => ?_) (fun c3 => ?_)
  · replace h := j_ip c3 h
    refine J_aload_n (pc' := 28) (i := 0) (n := 0) dX10_seconds_27 rfl rfl rfl ?_
    refine J_bipush (pc' := 30) (v := ((-2) : Int32)) dX10_seconds_28 rfl bp_m2 ?_
    obtain ⟨q4, e5, h⟩ := bi_inv h
    obtain ⟨c6, h⟩ := j_ck_inv h
    refine J_callV (pc' := 33) (as := [.int ((-2) : Int32)]) (rest := []) dX10_seconds_30 rfl lk_X10_84 rfl 10 (by decide) rfl (m_o hs) (m_n hs (Nat.le_of_ble_eq_true rfl)) (c_X10_bad hs e5) ⟨Nat.le_of_ble_eq_true rfl, Nat.le_of_ble_eq_true rfl⟩ (Nat.le_of_ble_eq_true rfl) ⟨Nat.le_of_ble_eq_true rfl, Nat.le_of_ble_eq_true rfl⟩ (j_kq ?_)
    have g7 : sh_m q4.2.2.2 := j_shE c6 hs
    exact J_iret rfl dX10_seconds_33 ⟨rfl, Nat.le_refl _⟩ (j_pW h)
  · replace h := j_iq c3 h
    refine J_iload_n (pc' := 9) (i := 2) (n := 2) dX10_seconds_8 rfl rfl rfl ?_
    obtain ⟨v8, e9, h⟩ := tl_inv h
    refine J_callS (pc' := 12) (as := [.int x2]) (rest := []) dX10_seconds_9 rfl lk_X10_78 rfl (c_X10_isLane e9) ⟨Nat.le_of_ble_eq_true rfl, Nat.le_of_ble_eq_true rfl⟩ (Nat.le_of_ble_eq_true rfl) ⟨Nat.le_of_ble_eq_true rfl, Nat.le_of_ble_eq_true rfl⟩ (j_kq ?_)
    refine J_if_eq (pc' := 15) (tgt := 27) dX10_seconds_12 rfl (by decide) (fun c10 => ?_) (fun c10 => ?_)
    · replace h := j_ip c10 h
      refine J_aload_n (pc' := 28) (i := 0) (n := 0) dX10_seconds_27 rfl rfl rfl ?_
      refine J_bipush (pc' := 30) (v := ((-2) : Int32)) dX10_seconds_28 rfl bp_m2 ?_
      obtain ⟨q11, e12, h⟩ := bi_inv h
      obtain ⟨c13, h⟩ := j_ck_inv h
      refine J_callV (pc' := 33) (as := [.int ((-2) : Int32)]) (rest := []) dX10_seconds_30 rfl lk_X10_84 rfl 10 (by decide) rfl (m_o hs) (m_n hs (Nat.le_of_ble_eq_true rfl)) (c_X10_bad hs e12) ⟨Nat.le_of_ble_eq_true rfl, Nat.le_of_ble_eq_true rfl⟩ (Nat.le_of_ble_eq_true rfl) ⟨Nat.le_of_ble_eq_true rfl, Nat.le_of_ble_eq_true rfl⟩ (j_kq ?_)
      have g14 : sh_m q11.2.2.2 := j_shE c13 hs
      exact J_iret rfl dX10_seconds_33 ⟨rfl, Nat.le_refl _⟩ (j_pW h)
    · replace h := j_iq c10 h
      refine J_iload_n (pc' := 16) (i := 3) (n := 3) dX10_seconds_15 rfl rfl rfl ?_
      refine J_i2l (pc' := 17) dX10_seconds_16 rfl ?_
      refine J_lconst (pc' := 18) (v := (0 : Int64)) dX10_seconds_17 rfl rfl ?_
      refine J_ldc2 (pc' := 21) (v := (2 : Int64)) dX10_seconds_18 rfl wd_997 ?_
      obtain ⟨v15, e16, h⟩ := tl_inv h
      refine J_callS (pc' := 24) (as := [.long (x3).toInt64, .long (0 : Int64), .long (2 : Int64)]) (rest := []) dX10_seconds_21 rfl lk_X10_68 rfl (c_X10_in e16) ⟨Nat.le_of_ble_eq_true rfl, Nat.le_of_ble_eq_true rfl⟩ (Nat.le_of_ble_eq_true rfl) ⟨Nat.le_of_ble_eq_true rfl, Nat.le_of_ble_eq_true rfl⟩ (j_kq ?_)
      refine J_if_ne (pc' := 27) (tgt := 34) dX10_seconds_24 rfl (by decide) (fun c17 => ?_) (fun c17 => ?_)
      · replace h := j_iq c17 h
        refine J_aload_n (pc' := 35) (i := 0) (n := 0) dX10_seconds_34 rfl rfl rfl ?_
        obtain ⟨q18, e19, h⟩ := bi_inv h
        obtain ⟨c20, h⟩ := j_ck_inv h
        refine J_callV (pc' := 38) (as := []) (rest := []) dX10_seconds_35 rfl lk_X10_140 rfl 10 (by decide) rfl (m_o hs) (m_n hs (Nat.le_of_ble_eq_true rfl)) (c_X10_layHand hs e19) ⟨Nat.le_of_ble_eq_true rfl, Nat.le_of_ble_eq_true rfl⟩ (Nat.le_of_ble_eq_true rfl) ⟨Nat.le_of_ble_eq_true rfl, Nat.le_of_ble_eq_true rfl⟩ (j_kv ?_)
        have g21 : sh_m q18.2.2 := j_shE c20 hs
        refine J_aload_n (pc' := 39) (i := 0) (n := 0) dX10_seconds_38 rfl rfl rfl ?_
        refine J_iload_n (pc' := 40) (i := 1) (n := 1) dX10_seconds_39 rfl rfl rfl ?_
        refine J_iload_n (pc' := 41) (i := 2) (n := 2) dX10_seconds_40 rfl rfl rfl ?_
        obtain ⟨q22, e23, h⟩ := bi_inv h
        obtain ⟨c24, h⟩ := j_ck_inv h
        refine J_callV (pc' := 44) (as := [.int x1, .int x2]) (rest := []) dX10_seconds_41 rfl lk_X10_143 rfl 10 (by decide) rfl (m_o g21) (m_n g21 (Nat.le_of_ble_eq_true rfl)) (c_X10_secondsIn g21 e23) ⟨Nat.le_of_ble_eq_true rfl, Nat.le_of_ble_eq_true rfl⟩ (Nat.le_of_ble_eq_true rfl) ⟨Nat.le_of_ble_eq_true rfl, Nat.le_of_ble_eq_true rfl⟩ (j_kq ?_)
        have g25 : sh_m q22.2.2.2 := j_shE c24 g21
        refine J_istore (pc' := 46) (i := 4) (lv' := [(4, .int q22.1), (0, .ref 35), (1, .int x1), (2, .int x2), (3, .int x3)]) dX10_seconds_44 rfl (by decide) rfl ?_
        refine J_iload_n (pc' := 47) (i := 3) (n := 4) dX10_seconds_46 rfl rfl rfl ?_
        refine J_if_ne (pc' := 50) (tgt := 55) dX10_seconds_47 rfl (by decide) (fun c26 => ?_) (fun c26 => ?_)
        · replace h := j_iq c26 h
          refine J_iload_n (pc' := 56) (i := 3) (n := 4) dX10_seconds_55 rfl rfl rfl ?_
          refine J_iconst (pc' := 57) (v := (1 : Int32)) dX10_seconds_56 rfl ic_1 ?_
          refine J_icmp_ne (pc' := 60) (tgt := 67) dX10_seconds_57 rfl (by decide) (fun c27 => ?_) (fun c27 => ?_)
          · replace h := j_iq c27 h
            refine J_aload_n (pc' := 68) (i := 0) (n := 1) dX10_seconds_67 rfl rfl rfl ?_
            refine J_getI (pc' := 71) dX10_seconds_68 rfl fl_X10_118 rfl (m_o g25) (m_n g25 (Nat.le_of_ble_eq_true rfl)) ?_
            exact J_iret rfl dX10_seconds_71 ⟨rfl, Nat.le_refl _⟩ (j_pW h)
          · replace h := j_ip c27 h
            refine J_aload_n (pc' := 61) (i := 0) (n := 1) dX10_seconds_60 rfl rfl rfl ?_
            refine J_getI (pc' := 64) dX10_seconds_61 rfl fl_X10_115 rfl (m_o g25) (m_n g25 (Nat.le_of_ble_eq_true rfl)) ?_
            refine J_goto (pc' := 71) dX10_seconds_64 (by decide) ?_
            exact J_iret rfl dX10_seconds_71 ⟨rfl, Nat.le_refl _⟩ (j_pW h)
        · replace h := j_ip c26 h
          refine J_iload (pc' := 52) (i := 4) (n := 0) dX10_seconds_50 rfl rfl ?_
          refine J_goto (pc' := 71) dX10_seconds_52 (by decide) ?_
          exact J_iret rfl dX10_seconds_71 ⟨rfl, Nat.le_refl _⟩ (j_pW h)
      · replace h := j_ip c17 h
        refine J_aload_n (pc' := 28) (i := 0) (n := 0) dX10_seconds_27 rfl rfl rfl ?_
        refine J_bipush (pc' := 30) (v := ((-2) : Int32)) dX10_seconds_28 rfl bp_m2 ?_
        obtain ⟨q28, e29, h⟩ := bi_inv h
        obtain ⟨c30, h⟩ := j_ck_inv h
        refine J_callV (pc' := 33) (as := [.int ((-2) : Int32)]) (rest := []) dX10_seconds_30 rfl lk_X10_84 rfl 10 (by decide) rfl (m_o hs) (m_n hs (Nat.le_of_ble_eq_true rfl)) (c_X10_bad hs e29) ⟨Nat.le_of_ble_eq_true rfl, Nat.le_of_ble_eq_true rfl⟩ (Nat.le_of_ble_eq_true rfl) ⟨Nat.le_of_ble_eq_true rfl, Nat.le_of_ble_eq_true rfl⟩ (j_kq ?_)
        have g31 : sh_m q28.2.2.2 := j_shE c30 hs
        exact J_iret rfl dX10_seconds_33 ⟨rfl, Nat.le_refl _⟩ (j_pW h)
abbrev JT_X10_lengths (l : Launch) (G : j_G) (r : (Int32 × j_M)) : Nat → List (Nat × Value) → List Value → j_M → Prop := JJ l G md_X10_lengths (j_rm 4 (0, 0)) (0, 0) (0, 0) (po (some (.int r.1)) r.2)
noncomputable def f_X10_lengths (M : j_M) (x1 : Int32) (x2 : Int32) : Option (Int32 × j_M) :=
  (f_X10_isOne M x1).bind fun v1 => (if v1 = 0 then ((f_X10_bad M ((-2) : Int32)).bind fun q4 => j_ck M q4.2 (some (q4.1, q4.2))) else (tl (f_X10_in (x2).toInt64 (0 : Int64) (60 : Int64)) fun v8 => (if v8 = 0 then ((f_X10_bad M ((-2) : Int32)).bind fun q28 => j_ck M q28.2 (some (q28.1, q28.2))) else ((f_X10_layHand M).bind fun q11 => j_ck M q11 (a_i q11 36 250 ((23 : Int32) + x1) fun v15 => (a_i q11 40 7 x1 fun v17 => ((f_X10_secondsIn q11 x1 v17).bind fun q19 => j_ck q11 q19.2 (d_i (v15 + ((60 : Int32) * x2)) q19.1 fun v23 => (a_i q19.2 36 250 ((16 : Int32) + x1) fun v25 => (if x2 = 0 then (some ((v25 + (0 : Int32)), q19.2)) else (some ((v25 + v23), q19.2))))))))))))
set_option maxHeartbeats 4000000 in
theorem c_X10_lengths {l : Launch} {G : j_G} {M : j_M} {x1 : Int32} {x2 : Int32} (hs : sh_m M.2.2) {r : (Int32 × j_M)} (h : f_X10_lengths M x1 x2 = some r) : j_Sp l G md_X10_lengths 4 (0, 0) [.ref 35, .int x1, .int x2] M (po (some (.int r.1)) r.2) := by
  refine j_Sp.of (by decide) (Nat.le_of_ble_eq_true rfl) ?_
  show JT_X10_lengths l G r 0 [(0, .ref 35), (1, .int x1), (2, .int x2)] [] M
  unfold f_X10_lengths at h
  refine J_aload_n (pc' := 1) (i := 0) (n := 0) dX10_lengths_0 rfl rfl rfl ?_
  refine J_iload_n (pc' := 2) (i := 1) (n := 1) dX10_lengths_1 rfl rfl rfl ?_
  obtain ⟨v1, e2, h⟩ := bi_inv h
  refine J_callV (pc' := 5) (as := [.int x1]) (rest := []) dX10_lengths_2 rfl lk_X10_132 rfl 10 (by decide) rfl (m_o hs) (m_n hs (Nat.le_of_ble_eq_true rfl)) (c_X10_isOne hs e2) ⟨Nat.le_of_ble_eq_true rfl, Nat.le_of_ble_eq_true rfl⟩ (Nat.le_of_ble_eq_true rfl) ⟨Nat.le_of_ble_eq_true rfl, Nat.le_of_ble_eq_true rfl⟩ (j_kq ?_)
  refine J_if_eq (pc' := 8) (tgt := 20) dX10_lengths_5 rfl (by decide) (fun c3 => ?_) (fun c3 => ?_)
  · replace h := j_ip c3 h
    refine J_aload_n (pc' := 21) (i := 0) (n := 0) dX10_lengths_20 rfl rfl rfl ?_
    refine J_bipush (pc' := 23) (v := ((-2) : Int32)) dX10_lengths_21 rfl bp_m2 ?_
    obtain ⟨q4, e5, h⟩ := bi_inv h
    obtain ⟨c6, h⟩ := j_ck_inv h
    refine J_callV (pc' := 26) (as := [.int ((-2) : Int32)]) (rest := []) dX10_lengths_23 rfl lk_X10_84 rfl 10 (by decide) rfl (m_o hs) (m_n hs (Nat.le_of_ble_eq_true rfl)) (c_X10_bad hs e5) ⟨Nat.le_of_ble_eq_true rfl, Nat.le_of_ble_eq_true rfl⟩ (Nat.le_of_ble_eq_true rfl) ⟨Nat.le_of_ble_eq_true rfl, Nat.le_of_ble_eq_true rfl⟩ (j_kq ?_)
    have g7 : sh_m q4.2.2.2 := j_shE c6 hs
    exact J_iret rfl dX10_lengths_26 ⟨rfl, Nat.le_refl _⟩ (j_pW h)
  · replace h := j_iq c3 h
    refine J_iload_n (pc' := 9) (i := 2) (n := 2) dX10_lengths_8 rfl rfl rfl ?_
    refine J_i2l (pc' := 10) dX10_lengths_9 rfl ?_
    refine J_lconst (pc' := 11) (v := (0 : Int64)) dX10_lengths_10 rfl rfl ?_
    refine J_ldc2 (pc' := 14) (v := (60 : Int64)) dX10_lengths_11 rfl wd_1050 ?_
    obtain ⟨v8, e9, h⟩ := tl_inv h
    refine J_callS (pc' := 17) (as := [.long (x2).toInt64, .long (0 : Int64), .long (60 : Int64)]) (rest := []) dX10_lengths_14 rfl lk_X10_68 rfl (c_X10_in e9) ⟨Nat.le_of_ble_eq_true rfl, Nat.le_of_ble_eq_true rfl⟩ (Nat.le_of_ble_eq_true rfl) ⟨Nat.le_of_ble_eq_true rfl, Nat.le_of_ble_eq_true rfl⟩ (j_kq ?_)
    refine J_if_ne (pc' := 20) (tgt := 27) dX10_lengths_17 rfl (by decide) (fun c10 => ?_) (fun c10 => ?_)
    · replace h := j_iq c10 h
      refine J_aload_n (pc' := 28) (i := 0) (n := 0) dX10_lengths_27 rfl rfl rfl ?_
      obtain ⟨q11, e12, h⟩ := bi_inv h
      obtain ⟨c13, h⟩ := j_ck_inv h
      refine J_callV (pc' := 31) (as := []) (rest := []) dX10_lengths_28 rfl lk_X10_140 rfl 10 (by decide) rfl (m_o hs) (m_n hs (Nat.le_of_ble_eq_true rfl)) (c_X10_layHand hs e12) ⟨Nat.le_of_ble_eq_true rfl, Nat.le_of_ble_eq_true rfl⟩ (Nat.le_of_ble_eq_true rfl) ⟨Nat.le_of_ble_eq_true rfl, Nat.le_of_ble_eq_true rfl⟩ (j_kv ?_)
      have g14 : sh_m q11.2.2 := j_shE c13 hs
      refine J_aload_n (pc' := 32) (i := 0) (n := 0) dX10_lengths_31 rfl rfl rfl ?_
      refine J_getR (pc' := 35) (b := 36) dX10_lengths_32 rfl fl_X10_7 rfl (m_o g14) (m_n g14 (Nat.le_of_ble_eq_true rfl)) (m_r0 g14) ?_
      refine J_bipush (pc' := 37) (v := (23 : Int32)) dX10_lengths_35 rfl bp_23 ?_
      refine J_iload_n (pc' := 38) (i := 1) (n := 1) dX10_lengths_37 rfl rfl rfl ?_
      refine J_iadd (pc' := 39) dX10_lengths_38 rfl ?_
      obtain ⟨v15, e16, h⟩ := a_i_inv h
      refine J_ialde (pc' := 40) dX10_lengths_39 rfl (m_s36 g14) (m_n g14 (Nat.le_of_ble_eq_true rfl)) e16 ?_
      refine J_bipush (pc' := 42) (v := (60 : Int32)) dX10_lengths_40 rfl bp_60 ?_
      refine J_iload_n (pc' := 43) (i := 2) (n := 2) dX10_lengths_42 rfl rfl rfl ?_
      refine J_imul (pc' := 44) dX10_lengths_43 rfl ?_
      refine J_iadd (pc' := 45) dX10_lengths_44 rfl ?_
      refine J_aload_n (pc' := 46) (i := 0) (n := 0) dX10_lengths_45 rfl rfl rfl ?_
      refine J_iload_n (pc' := 47) (i := 1) (n := 1) dX10_lengths_46 rfl rfl rfl ?_
      refine J_aload_n (pc' := 48) (i := 0) (n := 0) dX10_lengths_47 rfl rfl rfl ?_
      refine J_getR (pc' := 51) (b := 40) dX10_lengths_48 rfl fl_X10_27 rfl (m_o g14) (m_n g14 (Nat.le_of_ble_eq_true rfl)) (m_r6 g14) ?_
      refine J_iload_n (pc' := 52) (i := 1) (n := 1) dX10_lengths_51 rfl rfl rfl ?_
      obtain ⟨v17, e18, h⟩ := a_i_inv h
      refine J_ialde (pc' := 53) dX10_lengths_52 rfl (m_s40 g14) (m_n g14 (Nat.le_of_ble_eq_true rfl)) e18 ?_
      obtain ⟨q19, e20, h⟩ := bi_inv h
      obtain ⟨c21, h⟩ := j_ck_inv h
      refine J_callV (pc' := 56) (as := [.int x1, .int v17]) (rest := [.int (v15 + ((60 : Int32) * x2))]) dX10_lengths_53 rfl lk_X10_143 rfl 10 (by decide) rfl (m_o g14) (m_n g14 (Nat.le_of_ble_eq_true rfl)) (c_X10_secondsIn g14 e20) ⟨Nat.le_of_ble_eq_true rfl, Nat.le_of_ble_eq_true rfl⟩ (Nat.le_of_ble_eq_true rfl) ⟨Nat.le_of_ble_eq_true rfl, Nat.le_of_ble_eq_true rfl⟩ (j_kq ?_)
      have g22 : sh_m q19.2.2.2 := j_shE c21 g14
      obtain ⟨v23, e24, h⟩ := d_i_inv h
      refine J_dive (pc' := 57) dX10_lengths_56 rfl e24 ?_
      refine J_istore_n (pc' := 58) (i := 3) (lv' := [(3, .int v23), (0, .ref 35), (1, .int x1), (2, .int x2)]) dX10_lengths_57 rfl rfl (by decide) rfl ?_
      refine J_aload_n (pc' := 59) (i := 0) (n := 1) dX10_lengths_58 rfl rfl rfl ?_
      refine J_getR (pc' := 62) (b := 36) dX10_lengths_59 rfl fl_X10_7 rfl (m_o g22) (m_n g22 (Nat.le_of_ble_eq_true rfl)) (m_r0 g22) ?_
      refine J_bipush (pc' := 64) (v := (16 : Int32)) dX10_lengths_62 rfl bp_16 ?_
      refine J_iload_n (pc' := 65) (i := 1) (n := 2) dX10_lengths_64 rfl rfl rfl ?_
      refine J_iadd (pc' := 66) dX10_lengths_65 rfl ?_
      obtain ⟨v25, e26, h⟩ := a_i_inv h
      refine J_ialde (pc' := 67) dX10_lengths_66 rfl (m_s36 g22) (m_n g22 (Nat.le_of_ble_eq_true rfl)) e26 ?_
      refine J_iload_n (pc' := 68) (i := 2) (n := 3) dX10_lengths_67 rfl rfl rfl ?_
      refine J_if_ne (pc' := 71) (tgt := 75) dX10_lengths_68 rfl (by decide) (fun c27 => ?_) (fun c27 => ?_)
      · replace h := j_iq c27 h
        refine J_iload_n (pc' := 76) (i := 3) (n := 0) dX10_lengths_75 rfl rfl rfl ?_
        refine J_iadd (pc' := 77) dX10_lengths_76 rfl ?_
        exact J_iret rfl dX10_lengths_77 ⟨rfl, Nat.le_refl _⟩ (j_pW h)
      · replace h := j_ip c27 h
        refine J_iconst (pc' := 72) (v := (0 : Int32)) dX10_lengths_71 rfl ic_0 ?_
        refine J_goto (pc' := 76) dX10_lengths_72 (by decide) ?_
        refine J_iadd (pc' := 77) dX10_lengths_76 rfl ?_
        exact J_iret rfl dX10_lengths_77 ⟨rfl, Nat.le_refl _⟩ (j_pW h)
    · replace h := j_ip c10 h
      refine J_aload_n (pc' := 21) (i := 0) (n := 0) dX10_lengths_20 rfl rfl rfl ?_
      refine J_bipush (pc' := 23) (v := ((-2) : Int32)) dX10_lengths_21 rfl bp_m2 ?_
      obtain ⟨q28, e29, h⟩ := bi_inv h
      obtain ⟨c30, h⟩ := j_ck_inv h
      refine J_callV (pc' := 26) (as := [.int ((-2) : Int32)]) (rest := []) dX10_lengths_23 rfl lk_X10_84 rfl 10 (by decide) rfl (m_o hs) (m_n hs (Nat.le_of_ble_eq_true rfl)) (c_X10_bad hs e29) ⟨Nat.le_of_ble_eq_true rfl, Nat.le_of_ble_eq_true rfl⟩ (Nat.le_of_ble_eq_true rfl) ⟨Nat.le_of_ble_eq_true rfl, Nat.le_of_ble_eq_true rfl⟩ (j_kq ?_)
      have g31 : sh_m q28.2.2.2 := j_shE c30 hs
      exact J_iret rfl dX10_lengths_26 ⟨rfl, Nat.le_refl _⟩ (j_pW h)
abbrev JT_X10_bestOf (l : Launch) (G : j_G) (r : (Int32 × j_M)) : Nat → List (Nat × Value) → List Value → j_M → Prop := JJ l G md_X10_bestOf (j_rm 4 (0, 0)) (0, 0) (0, 0) (po (some (.int r.1)) r.2)
noncomputable def f_X10_bestOf_L8 : Nat → j_M → Int32 → Int32 → Int32 → Int32 → (Int32 → Int32 → Int32 → j_M → Option (Int32 × j_M)) → Option (Int32 × j_M)
  | 0, _, _, _, _, _, _ => none
  | n + 1, M, x1, x2, x3, x4, K =>
    if (4 : Int32) ≤ x4 then (K x2 x3 x4 M) else ((f_X10_isOpen M x4).bind fun v2 => (jn2 (fun (v5 : Int32) (M6 : j_M) => (jn (fun (v11 : Int32) => (if x3 ≤ v5 then (f_X10_bestOf_L8 n  M6 x1 v11 x3 (x4 + (1 : Int32)) K) else (f_X10_bestOf_L8 n  M6 x1 v11 v5 (x4 + (1 : Int32)) K))) (fun K12 => (if x3 ≤ v5 then (K12 x2) else (K12 x4))))) (fun K7 => (if v2 = 0 then (K7 (1000000 : Int32) M) else ((f_X10_secondsIn M x1 x4).bind fun q15 => j_ck M q15.2 (K7 q15.1 q15.2))))))
noncomputable def f_X10_bestOf (M : j_M) (x1 : Int32) : Option (Int32 × j_M) :=
  f_X10_bestOf_L8 j_fu  M x1 ((-1) : Int32) (1000000 : Int32) (0 : Int32) (fun (y19 : Int32) (y20 : Int32) (y21 : Int32) (M22 : j_M) => (some (y19, M22)))
set_option maxHeartbeats 4000000 in
theorem L_X10_bestOf_L8 {l : Launch} {G : j_G}  {r : (Int32 × j_M)} : ∀ (n : Nat) {x1 : Int32} {x2 : Int32} {x3 : Int32} {x4 : Int32} {M : j_M} (hs : sh_m M.2.2) {K : Int32 → Int32 → Int32 → j_M → Option (Int32 × j_M)}, f_X10_bestOf_L8 n  M x1 x2 x3 x4 K = some r → (∀ (y2 : Int32) (y3 : Int32) (y4 : Int32) (M1 : j_M), sh_m M1.2.2 → K y2 y3 y4 M1 = some r → JT_X10_bestOf l G r 69 [(2, .int y2)] [] M1) → JT_X10_bestOf l G r 8 [(0, .ref 35), (1, .int x1), (2, .int x2), (3, .int x3), (4, .int x4)] [] M := by
  intro n
  induction n with
  | zero =>
    intro x1 x2 x3 x4 M hs K h hK
    rw [f_X10_bestOf_L8] at h; cases h
  | succ n ih =>
    intro x1 x2 x3 x4 M hs K h hK
    rw [f_X10_bestOf_L8] at h
    refine J_iload (pc' := 10) (i := 4) (n := 4) dX10_bestOf_8 rfl rfl ?_
    refine J_iconst (pc' := 11) (v := (4 : Int32)) dX10_bestOf_10 rfl ic_4 ?_
    refine J_icmp_ge (pc' := 14) (tgt := 69) dX10_bestOf_11 rfl (by decide) (fun c1 => ?_) (fun c1 => ?_)
    · replace h := j_ip c1 h
      refine J_sub [2] (lv' := [(2, .int x2)]) rfl ?_
      exact hK x2 x3 x4 M hs h
    · replace h := j_iq c1 h
      refine J_aload_n (pc' := 15) (i := 0) (n := 0) dX10_bestOf_14 rfl rfl rfl ?_
      refine J_iload (pc' := 17) (i := 4) (n := 4) dX10_bestOf_15 rfl rfl ?_
      obtain ⟨v2, e3, h⟩ := bi_inv h
      refine J_callV (pc' := 20) (as := [.int x4]) (rest := []) dX10_bestOf_17 rfl lk_X10_101 rfl 10 (by decide) rfl (m_o hs) (m_n hs (Nat.le_of_ble_eq_true rfl)) (c_X10_isOpen hs e3) ⟨Nat.le_of_ble_eq_true rfl, Nat.le_of_ble_eq_true rfl⟩ (Nat.le_of_ble_eq_true rfl) ⟨Nat.le_of_ble_eq_true rfl, Nat.le_of_ble_eq_true rfl⟩ (j_kq ?_)
      refine J_join2 (C := fun (v5 : Int32) (M6 : j_M) => sh_m M6.2.2 → JT_X10_bestOf l G r 35 [(0, .ref 35), (1, .int x1), (2, .int x2), (3, .int x3), (4, .int x4)] [.int v5] M6) h (fun v5 M6 h => ?_) (fun K7 h8 h => ?_)
      · intro g9
        refine J_istore (pc' := 37) (i := 5) (lv' := [(5, .int v5), (0, .ref 35), (1, .int x1), (2, .int x2), (3, .int x3), (4, .int x4)]) dX10_bestOf_35 rfl (by decide) rfl ?_
        refine J_iload (pc' := 39) (i := 5) (n := 0) dX10_bestOf_37 rfl rfl ?_
        refine J_iload_n (pc' := 40) (i := 3) (n := 4) dX10_bestOf_39 rfl rfl rfl ?_
        refine J_join (C := fun (v11 : Int32) => JT_X10_bestOf l G r 49 [(0, .ref 35), (1, .int x1), (3, .int x3), (4, .int x4), (5, .int v5)] [.int v11] M6) h (fun v11 h => ?_) (fun K12 h13 h => ?_)
        · refine J_istore_n (pc' := 50) (i := 2) (lv' := [(2, .int v11), (0, .ref 35), (1, .int x1), (3, .int x3), (4, .int x4), (5, .int v5)]) dX10_bestOf_49 rfl rfl (by decide) rfl ?_
          refine J_iload (pc' := 52) (i := 5) (n := 5) dX10_bestOf_50 rfl rfl ?_
          refine J_iload_n (pc' := 53) (i := 3) (n := 3) dX10_bestOf_52 rfl rfl rfl ?_
          refine J_icmp_ge (pc' := 56) (tgt := 61) dX10_bestOf_53 rfl (by decide) (fun c14 => ?_) (fun c14 => ?_)
          · replace h := j_ip c14 h
            refine J_iload_n (pc' := 62) (i := 3) (n := 3) dX10_bestOf_61 rfl rfl rfl ?_
            refine J_istore_n (pc' := 63) (i := 3) (lv' := [(3, .int x3), (2, .int v11), (0, .ref 35), (1, .int x1), (4, .int x4), (5, .int v5)]) dX10_bestOf_62 rfl rfl (by decide) rfl ?_
            refine J_iinc (pc' := 66) (i := 4) (n := 4) (v := (x4 + (1 : Int32))) (lv' := [(4, .int (x4 + (1 : Int32))), (3, .int x3), (2, .int v11), (0, .ref 35), (1, .int x1), (5, .int v5)]) dX10_bestOf_63 rfl rfl (j_inc _ _ rfl _) (by decide) rfl ?_
            refine J_goto (pc' := 8) dX10_bestOf_66 (by decide) ?_
            refine J_sub [3, 4, 2, 1, 0] (lv' := [(0, .ref 35), (1, .int x1), (2, .int v11), (3, .int x3), (4, .int (x4 + (1 : Int32)))]) rfl ?_
            exact ih g9 h hK
          · replace h := j_iq c14 h
            refine J_iload (pc' := 58) (i := 5) (n := 5) dX10_bestOf_56 rfl rfl ?_
            refine J_goto (pc' := 62) dX10_bestOf_58 (by decide) ?_
            refine J_istore_n (pc' := 63) (i := 3) (lv' := [(3, .int v5), (2, .int v11), (0, .ref 35), (1, .int x1), (4, .int x4), (5, .int v5)]) dX10_bestOf_62 rfl rfl (by decide) rfl ?_
            refine J_iinc (pc' := 66) (i := 4) (n := 4) (v := (x4 + (1 : Int32))) (lv' := [(4, .int (x4 + (1 : Int32))), (3, .int v5), (2, .int v11), (0, .ref 35), (1, .int x1), (5, .int v5)]) dX10_bestOf_63 rfl rfl (j_inc _ _ rfl _) (by decide) rfl ?_
            refine J_goto (pc' := 8) dX10_bestOf_66 (by decide) ?_
            refine J_sub [3, 4, 2, 1, 0] (lv' := [(0, .ref 35), (1, .int x1), (2, .int v11), (3, .int v5), (4, .int (x4 + (1 : Int32)))]) rfl ?_
            exact ih g9 h hK
        · refine J_icmp_ge (pc' := 43) (tgt := 48) dX10_bestOf_40 rfl (by decide) (fun c10 => ?_) (fun c10 => ?_)
          · replace h := j_ip c10 h
            refine J_iload_n (pc' := 49) (i := 2) (n := 3) dX10_bestOf_48 rfl rfl rfl ?_
            refine J_sub [1, 2, 4, 5, 0] (lv' := [(0, .ref 35), (1, .int x1), (3, .int x3), (4, .int x4), (5, .int v5)]) rfl ?_
            exact h13 x2 h
          · replace h := j_iq c10 h
            refine J_iload (pc' := 45) (i := 4) (n := 5) dX10_bestOf_43 rfl rfl ?_
            refine J_goto (pc' := 49) dX10_bestOf_45 (by decide) ?_
            refine J_sub [1, 2, 4, 5, 0] (lv' := [(0, .ref 35), (1, .int x1), (3, .int x3), (4, .int x4), (5, .int v5)]) rfl ?_
            exact h13 x4 h
      · refine J_if_eq (pc' := 23) (tgt := 33) dX10_bestOf_20 rfl (by decide) (fun c4 => ?_) (fun c4 => ?_)
        · replace h := j_ip c4 h
          refine J_ldc (pc' := 35) (v := (1000000 : Int32)) dX10_bestOf_33 rfl wd_1101 ?_
          exact h8 (1000000 : Int32) M h hs
        · replace h := j_iq c4 h
          refine J_aload_n (pc' := 24) (i := 0) (n := 0) dX10_bestOf_23 rfl rfl rfl ?_
          refine J_iload_n (pc' := 25) (i := 1) (n := 1) dX10_bestOf_24 rfl rfl rfl ?_
          refine J_iload (pc' := 27) (i := 4) (n := 4) dX10_bestOf_25 rfl rfl ?_
          obtain ⟨q15, e16, h⟩ := bi_inv h
          obtain ⟨c17, h⟩ := j_ck_inv h
          refine J_callV (pc' := 30) (as := [.int x1, .int x4]) (rest := []) dX10_bestOf_27 rfl lk_X10_143 rfl 10 (by decide) rfl (m_o hs) (m_n hs (Nat.le_of_ble_eq_true rfl)) (c_X10_secondsIn hs e16) ⟨Nat.le_of_ble_eq_true rfl, Nat.le_of_ble_eq_true rfl⟩ (Nat.le_of_ble_eq_true rfl) ⟨Nat.le_of_ble_eq_true rfl, Nat.le_of_ble_eq_true rfl⟩ (j_kq ?_)
          have g18 : sh_m q15.2.2.2 := j_shE c17 hs
          refine J_goto (pc' := 35) dX10_bestOf_30 (by decide) ?_
          exact h8 q15.1 q15.2 h g18
set_option maxHeartbeats 4000000 in
theorem c_X10_bestOf {l : Launch} {G : j_G} {M : j_M} {x1 : Int32} (hs : sh_m M.2.2) {r : (Int32 × j_M)} (h : f_X10_bestOf M x1 = some r) : j_Sp l G md_X10_bestOf 4 (0, 0) [.ref 35, .int x1] M (po (some (.int r.1)) r.2) := by
  refine j_Sp.of (by decide) (Nat.le_of_ble_eq_true rfl) ?_
  show JT_X10_bestOf l G r 0 [(0, .ref 35), (1, .int x1)] [] M
  unfold f_X10_bestOf at h
  refine J_iconst (pc' := 1) (v := ((-1) : Int32)) dX10_bestOf_0 rfl ic_m1 ?_
  refine J_istore_n (pc' := 2) (i := 2) (lv' := [(2, .int ((-1) : Int32)), (0, .ref 35), (1, .int x1)]) dX10_bestOf_1 rfl rfl (by decide) rfl ?_
  refine J_ldc (pc' := 4) (v := (1000000 : Int32)) dX10_bestOf_2 rfl wd_1101 ?_
  refine J_istore_n (pc' := 5) (i := 3) (lv' := [(3, .int (1000000 : Int32)), (2, .int ((-1) : Int32)), (0, .ref 35), (1, .int x1)]) dX10_bestOf_4 rfl rfl (by decide) rfl ?_
  refine J_iconst (pc' := 6) (v := (0 : Int32)) dX10_bestOf_5 rfl ic_0 ?_
  refine J_istore (pc' := 8) (i := 4) (lv' := [(4, .int (0 : Int32)), (3, .int (1000000 : Int32)), (2, .int ((-1) : Int32)), (0, .ref 35), (1, .int x1)]) dX10_bestOf_6 rfl (by decide) rfl ?_
  refine J_sub [3, 4, 2, 1, 0] (lv' := [(0, .ref 35), (1, .int x1), (2, .int ((-1) : Int32)), (3, .int (1000000 : Int32)), (4, .int (0 : Int32))]) rfl ?_
  refine L_X10_bestOf_L8 j_fu hs h (fun y19 y20 y21 M22 g23 h => ?_)
  refine J_iload_n (pc' := 70) (i := 2) (n := 0) dX10_bestOf_69 rfl rfl rfl ?_
  exact J_iret rfl dX10_bestOf_70 ⟨rfl, Nat.le_refl _⟩ (j_pW h)
abbrev JT_X10_best (l : Launch) (G : j_G) (r : (Int32 × j_M)) : Nat → List (Nat × Value) → List Value → j_M → Prop := JJ l G md_X10_best (j_rm 5 (0, 0)) (0, 0) (0, 0) (po (some (.int r.1)) r.2)
noncomputable def f_X10_best (M : j_M) (x1 : Int32) : Option (Int32 × j_M) :=
  (f_X10_isOne M x1).bind fun v1 => (if v1 = 0 then ((f_X10_bad M ((-2) : Int32)).bind fun q12 => j_ck M q12.2 (some (q12.1, q12.2))) else ((f_X10_layHand M).bind fun q4 => j_ck M q4 ((f_X10_bestOf q4 x1).bind fun q8 => j_ck q4 q8.2 (some (q8.1, q8.2)))))
set_option maxHeartbeats 4000000 in
theorem c_X10_best {l : Launch} {G : j_G} {M : j_M} {x1 : Int32} (hs : sh_m M.2.2) {r : (Int32 × j_M)} (h : f_X10_best M x1 = some r) : j_Sp l G md_X10_best 5 (0, 0) [.ref 35, .int x1] M (po (some (.int r.1)) r.2) := by
  refine j_Sp.of (by decide) (Nat.le_of_ble_eq_true rfl) ?_
  show JT_X10_best l G r 0 [(0, .ref 35), (1, .int x1)] [] M
  unfold f_X10_best at h
  refine J_aload_n (pc' := 1) (i := 0) (n := 0) dX10_best_0 rfl rfl rfl ?_
  refine J_iload_n (pc' := 2) (i := 1) (n := 1) dX10_best_1 rfl rfl rfl ?_
  obtain ⟨v1, e2, h⟩ := bi_inv h
  refine J_callV (pc' := 5) (as := [.int x1]) (rest := []) dX10_best_2 rfl lk_X10_132 rfl 10 (by decide) rfl (m_o hs) (m_n hs (Nat.le_of_ble_eq_true rfl)) (c_X10_isOne hs e2) ⟨Nat.le_of_ble_eq_true rfl, Nat.le_of_ble_eq_true rfl⟩ (Nat.le_of_ble_eq_true rfl) ⟨Nat.le_of_ble_eq_true rfl, Nat.le_of_ble_eq_true rfl⟩ (j_kq ?_)
  refine J_if_ne (pc' := 8) (tgt := 15) dX10_best_5 rfl (by decide) (fun c3 => ?_) (fun c3 => ?_)
  · replace h := j_iq c3 h
    refine J_aload_n (pc' := 16) (i := 0) (n := 0) dX10_best_15 rfl rfl rfl ?_
    obtain ⟨q4, e5, h⟩ := bi_inv h
    obtain ⟨c6, h⟩ := j_ck_inv h
    refine J_callV (pc' := 19) (as := []) (rest := []) dX10_best_16 rfl lk_X10_140 rfl 10 (by decide) rfl (m_o hs) (m_n hs (Nat.le_of_ble_eq_true rfl)) (c_X10_layHand hs e5) ⟨Nat.le_of_ble_eq_true rfl, Nat.le_of_ble_eq_true rfl⟩ (Nat.le_of_ble_eq_true rfl) ⟨Nat.le_of_ble_eq_true rfl, Nat.le_of_ble_eq_true rfl⟩ (j_kv ?_)
    have g7 : sh_m q4.2.2 := j_shE c6 hs
    refine J_aload_n (pc' := 20) (i := 0) (n := 0) dX10_best_19 rfl rfl rfl ?_
    refine J_iload_n (pc' := 21) (i := 1) (n := 1) dX10_best_20 rfl rfl rfl ?_
    obtain ⟨q8, e9, h⟩ := bi_inv h
    obtain ⟨c10, h⟩ := j_ck_inv h
    refine J_callV (pc' := 24) (as := [.int x1]) (rest := []) dX10_best_21 rfl lk_X10_151 rfl 10 (by decide) rfl (m_o g7) (m_n g7 (Nat.le_of_ble_eq_true rfl)) (c_X10_bestOf g7 e9) ⟨Nat.le_of_ble_eq_true rfl, Nat.le_of_ble_eq_true rfl⟩ (Nat.le_of_ble_eq_true rfl) ⟨Nat.le_of_ble_eq_true rfl, Nat.le_of_ble_eq_true rfl⟩ (j_kq ?_)
    have g11 : sh_m q8.2.2.2 := j_shE c10 g7
    exact J_iret rfl dX10_best_24 ⟨rfl, Nat.le_refl _⟩ (j_pW h)
  · replace h := j_ip c3 h
    refine J_aload_n (pc' := 9) (i := 0) (n := 0) dX10_best_8 rfl rfl rfl ?_
    refine J_bipush (pc' := 11) (v := ((-2) : Int32)) dX10_best_9 rfl bp_m2 ?_
    obtain ⟨q12, e13, h⟩ := bi_inv h
    obtain ⟨c14, h⟩ := j_ck_inv h
    refine J_callV (pc' := 14) (as := [.int ((-2) : Int32)]) (rest := []) dX10_best_11 rfl lk_X10_84 rfl 10 (by decide) rfl (m_o hs) (m_n hs (Nat.le_of_ble_eq_true rfl)) (c_X10_bad hs e13) ⟨Nat.le_of_ble_eq_true rfl, Nat.le_of_ble_eq_true rfl⟩ (Nat.le_of_ble_eq_true rfl) ⟨Nat.le_of_ble_eq_true rfl, Nat.le_of_ble_eq_true rfl⟩ (j_kq ?_)
    have g15 : sh_m q12.2.2.2 := j_shE c14 hs
    exact J_iret rfl dX10_best_14 ⟨rfl, Nat.le_refl _⟩ (j_pW h)
abbrev JT_X10_sumOthers (l : Launch) (G : j_G) (r : (Int32 × j_M)) : Nat → List (Nat × Value) → List Value → j_M → Prop := JJ l G md_X10_sumOthers (j_rm 4 (0, 0)) (0, 0) (0, 0) (po (some (.int r.1)) r.2)
noncomputable def f_X10_sumOthers_L5 : Nat → j_M → Int32 → Int32 → Int32 → Int32 → (Int32 → Int32 → j_M → Option (Int32 × j_M)) → Option (Int32 × j_M)
  | 0, _, _, _, _, _, _ => none
  | n + 1, M, x1, x2, x3, x4, K =>
    (f_X10_many M).bind fun v1 => (if v1 ≤ x4 then (K x3 x4 M) else (if x4 = x1 then (f_X10_sumOthers_L5 n  M x1 x2 (x3 + (0 : Int32)) (x4 + (1 : Int32)) K) else (a_i M 40 7 x4 fun v5 => (if v5 = x2 then ((f_X10_secondsIn M x4 x2).bind fun q8 => j_ck M q8.2 (f_X10_sumOthers_L5 n  q8.2 x1 x2 (x3 + q8.1) (x4 + (1 : Int32)) K)) else (f_X10_sumOthers_L5 n  M x1 x2 (x3 + (0 : Int32)) (x4 + (1 : Int32)) K)))))
noncomputable def f_X10_sumOthers (M : j_M) (x1 : Int32) (x2 : Int32) : Option (Int32 × j_M) :=
  f_X10_sumOthers_L5 j_fu  M x1 x2 (0 : Int32) (0 : Int32) (fun (y12 : Int32) (y13 : Int32) (M14 : j_M) => (some (y12, M14)))
set_option maxHeartbeats 4000000 in
theorem L_X10_sumOthers_L5 {l : Launch} {G : j_G}  {r : (Int32 × j_M)} : ∀ (n : Nat) {x1 : Int32} {x2 : Int32} {x3 : Int32} {x4 : Int32} {M : j_M} (hs : sh_m M.2.2) {K : Int32 → Int32 → j_M → Option (Int32 × j_M)}, f_X10_sumOthers_L5 n  M x1 x2 x3 x4 K = some r → (∀ (y3 : Int32) (y4 : Int32) (M1 : j_M), sh_m M1.2.2 → K y3 y4 M1 = some r → JT_X10_sumOthers l G r 51 [(3, .int y3)] [] M1) → JT_X10_sumOthers l G r 5 [(0, .ref 35), (1, .int x1), (2, .int x2), (3, .int x3), (4, .int x4)] [] M := by
  intro n
  induction n with
  | zero =>
    intro x1 x2 x3 x4 M hs K h hK
    rw [f_X10_sumOthers_L5] at h; cases h
  | succ n ih =>
    intro x1 x2 x3 x4 M hs K h hK
    rw [f_X10_sumOthers_L5] at h
    refine J_iload (pc' := 7) (i := 4) (n := 4) dX10_sumOthers_5 rfl rfl ?_
    refine J_aload_n (pc' := 8) (i := 0) (n := 0) dX10_sumOthers_7 rfl rfl rfl ?_
    obtain ⟨v1, e2, h⟩ := bi_inv h
    refine J_callV (pc' := 11) (as := []) (rest := [.int x4]) dX10_sumOthers_8 rfl lk_X10_64 rfl 10 (by decide) rfl (m_o hs) (m_n hs (Nat.le_of_ble_eq_true rfl)) (c_X10_many hs e2) ⟨Nat.le_of_ble_eq_true rfl, Nat.le_of_ble_eq_true rfl⟩ (Nat.le_of_ble_eq_true rfl) ⟨Nat.le_of_ble_eq_true rfl, Nat.le_of_ble_eq_true rfl⟩ (j_kq ?_)
    refine J_icmp_ge (pc' := 14) (tgt := 51) dX10_sumOthers_11 rfl (by decide) (fun c3 => ?_) (fun c3 => ?_)
    · replace h := j_ip c3 h
      refine J_sub [3] (lv' := [(3, .int x3)]) rfl ?_
      exact hK x3 x4 M hs h
    · replace h := j_iq c3 h
      refine J_iload_n (pc' := 15) (i := 3) (n := 3) dX10_sumOthers_14 rfl rfl rfl ?_
      refine J_iload (pc' := 17) (i := 4) (n := 4) dX10_sumOthers_15 rfl rfl ?_
      refine J_iload_n (pc' := 18) (i := 1) (n := 1) dX10_sumOthers_17 rfl rfl rfl ?_
      refine J_icmp_eq (pc' := 21) (tgt := 42) dX10_sumOthers_18 rfl (by decide) (fun c4 => ?_) (fun c4 => ?_)
      · replace h := j_ip c4 h
        refine J_iconst (pc' := 43) (v := (0 : Int32)) dX10_sumOthers_42 rfl ic_0 ?_
        refine J_iadd (pc' := 44) dX10_sumOthers_43 rfl ?_
        refine J_istore_n (pc' := 45) (i := 3) (lv' := [(3, .int (x3 + (0 : Int32))), (0, .ref 35), (1, .int x1), (2, .int x2), (4, .int x4)]) dX10_sumOthers_44 rfl rfl (by decide) rfl ?_
        refine J_iinc (pc' := 48) (i := 4) (n := 4) (v := (x4 + (1 : Int32))) (lv' := [(4, .int (x4 + (1 : Int32))), (3, .int (x3 + (0 : Int32))), (0, .ref 35), (1, .int x1), (2, .int x2)]) dX10_sumOthers_45 rfl rfl (j_inc _ _ rfl _) (by decide) rfl ?_
        refine J_goto (pc' := 5) dX10_sumOthers_48 (by decide) ?_
        refine J_sub [2, 3, 4, 1, 0] (lv' := [(0, .ref 35), (1, .int x1), (2, .int x2), (3, .int (x3 + (0 : Int32))), (4, .int (x4 + (1 : Int32)))]) rfl ?_
        exact ih hs h hK
      · replace h := j_iq c4 h
        refine J_aload_n (pc' := 22) (i := 0) (n := 0) dX10_sumOthers_21 rfl rfl rfl ?_
        refine J_getR (pc' := 25) (b := 40) dX10_sumOthers_22 rfl fl_X10_27 rfl (m_o hs) (m_n hs (Nat.le_of_ble_eq_true rfl)) (m_r6 hs) ?_
        refine J_iload (pc' := 27) (i := 4) (n := 4) dX10_sumOthers_25 rfl rfl ?_
        obtain ⟨v5, e6, h⟩ := a_i_inv h
        refine J_ialde (pc' := 28) dX10_sumOthers_27 rfl (m_s40 hs) (m_n hs (Nat.le_of_ble_eq_true rfl)) e6 ?_
        refine J_iload_n (pc' := 29) (i := 2) (n := 2) dX10_sumOthers_28 rfl rfl rfl ?_
        refine J_icmp_ne (pc' := 32) (tgt := 42) dX10_sumOthers_29 rfl (by decide) (fun c7 => ?_) (fun c7 => ?_)
        · replace h := j_iq c7 h
          refine J_iconst (pc' := 43) (v := (0 : Int32)) dX10_sumOthers_42 rfl ic_0 ?_
          refine J_iadd (pc' := 44) dX10_sumOthers_43 rfl ?_
          refine J_istore_n (pc' := 45) (i := 3) (lv' := [(3, .int (x3 + (0 : Int32))), (0, .ref 35), (1, .int x1), (2, .int x2), (4, .int x4)]) dX10_sumOthers_44 rfl rfl (by decide) rfl ?_
          refine J_iinc (pc' := 48) (i := 4) (n := 4) (v := (x4 + (1 : Int32))) (lv' := [(4, .int (x4 + (1 : Int32))), (3, .int (x3 + (0 : Int32))), (0, .ref 35), (1, .int x1), (2, .int x2)]) dX10_sumOthers_45 rfl rfl (j_inc _ _ rfl _) (by decide) rfl ?_
          refine J_goto (pc' := 5) dX10_sumOthers_48 (by decide) ?_
          refine J_sub [2, 3, 4, 1, 0] (lv' := [(0, .ref 35), (1, .int x1), (2, .int x2), (3, .int (x3 + (0 : Int32))), (4, .int (x4 + (1 : Int32)))]) rfl ?_
          exact ih hs h hK
        · replace h := j_ip c7 h
          refine J_aload_n (pc' := 33) (i := 0) (n := 0) dX10_sumOthers_32 rfl rfl rfl ?_
          refine J_iload (pc' := 35) (i := 4) (n := 4) dX10_sumOthers_33 rfl rfl ?_
          refine J_iload_n (pc' := 36) (i := 2) (n := 2) dX10_sumOthers_35 rfl rfl rfl ?_
          obtain ⟨q8, e9, h⟩ := bi_inv h
          obtain ⟨c10, h⟩ := j_ck_inv h
          refine J_callV (pc' := 39) (as := [.int x4, .int x2]) (rest := [.int x3]) dX10_sumOthers_36 rfl lk_X10_143 rfl 10 (by decide) rfl (m_o hs) (m_n hs (Nat.le_of_ble_eq_true rfl)) (c_X10_secondsIn hs e9) ⟨Nat.le_of_ble_eq_true rfl, Nat.le_of_ble_eq_true rfl⟩ (Nat.le_of_ble_eq_true rfl) ⟨Nat.le_of_ble_eq_true rfl, Nat.le_of_ble_eq_true rfl⟩ (j_kq ?_)
          have g11 : sh_m q8.2.2.2 := j_shE c10 hs
          refine J_goto (pc' := 43) dX10_sumOthers_39 (by decide) ?_
          refine J_iadd (pc' := 44) dX10_sumOthers_43 rfl ?_
          refine J_istore_n (pc' := 45) (i := 3) (lv' := [(3, .int (x3 + q8.1)), (0, .ref 35), (1, .int x1), (2, .int x2), (4, .int x4)]) dX10_sumOthers_44 rfl rfl (by decide) rfl ?_
          refine J_iinc (pc' := 48) (i := 4) (n := 4) (v := (x4 + (1 : Int32))) (lv' := [(4, .int (x4 + (1 : Int32))), (3, .int (x3 + q8.1)), (0, .ref 35), (1, .int x1), (2, .int x2)]) dX10_sumOthers_45 rfl rfl (j_inc _ _ rfl _) (by decide) rfl ?_
          refine J_goto (pc' := 5) dX10_sumOthers_48 (by decide) ?_
          refine J_sub [2, 3, 4, 1, 0] (lv' := [(0, .ref 35), (1, .int x1), (2, .int x2), (3, .int (x3 + q8.1)), (4, .int (x4 + (1 : Int32)))]) rfl ?_
          exact ih g11 h hK
set_option maxHeartbeats 4000000 in
theorem c_X10_sumOthers {l : Launch} {G : j_G} {M : j_M} {x1 : Int32} {x2 : Int32} (hs : sh_m M.2.2) {r : (Int32 × j_M)} (h : f_X10_sumOthers M x1 x2 = some r) : j_Sp l G md_X10_sumOthers 4 (0, 0) [.ref 35, .int x1, .int x2] M (po (some (.int r.1)) r.2) := by
  refine j_Sp.of (by decide) (Nat.le_of_ble_eq_true rfl) ?_
  show JT_X10_sumOthers l G r 0 [(0, .ref 35), (1, .int x1), (2, .int x2)] [] M
  unfold f_X10_sumOthers at h
  refine J_iconst (pc' := 1) (v := (0 : Int32)) dX10_sumOthers_0 rfl ic_0 ?_
  refine J_istore_n (pc' := 2) (i := 3) (lv' := [(3, .int (0 : Int32)), (0, .ref 35), (1, .int x1), (2, .int x2)]) dX10_sumOthers_1 rfl rfl (by decide) rfl ?_
  refine J_iconst (pc' := 3) (v := (0 : Int32)) dX10_sumOthers_2 rfl ic_0 ?_
  refine J_istore (pc' := 5) (i := 4) (lv' := [(4, .int (0 : Int32)), (3, .int (0 : Int32)), (0, .ref 35), (1, .int x1), (2, .int x2)]) dX10_sumOthers_3 rfl (by decide) rfl ?_
  refine J_sub [2, 3, 4, 1, 0] (lv' := [(0, .ref 35), (1, .int x1), (2, .int x2), (3, .int (0 : Int32)), (4, .int (0 : Int32))]) rfl ?_
  refine L_X10_sumOthers_L5 j_fu hs h (fun y12 y13 M14 g15 h => ?_)
  refine J_iload_n (pc' := 52) (i := 3) (n := 0) dX10_sumOthers_51 rfl rfl rfl ?_
  exact J_iret rfl dX10_sumOthers_52 ⟨rfl, Nat.le_refl _⟩ (j_pW h)
abbrev JT_X10_costOf (l : Launch) (G : j_G) (r : (Int32 × j_M)) : Nat → List (Nat × Value) → List Value → j_M → Prop := JJ l G md_X10_costOf (j_rm 5 (0, 0)) (0, 0) (0, 0) (po (some (.int r.1)) r.2)
noncomputable def f_X10_costOf (M : j_M) (x1 : Int32) (x2 : Int32) : Option (Int32 × j_M) :=
  (f_X10_layHand M).bind fun q1 => j_ck M q1 (w_i q1 40 7 x1 x2 fun M5 => ((f_X10_sumOthers M5 x1 x2).bind fun q8 => j_ck M5 q8.2 (w_i q8.2 40 7 x1 ((-1) : Int32) fun M12 => ((f_X10_sumOthers M12 x1 x2).bind fun q15 => j_ck M12 q15.2 (some ((q8.1 - q15.1), q15.2))))))
set_option maxHeartbeats 4000000 in
theorem c_X10_costOf {l : Launch} {G : j_G} {M : j_M} {x1 : Int32} {x2 : Int32} (hs : sh_m M.2.2) {r : (Int32 × j_M)} (h : f_X10_costOf M x1 x2 = some r) : j_Sp l G md_X10_costOf 5 (0, 0) [.ref 35, .int x1, .int x2] M (po (some (.int r.1)) r.2) := by
  refine j_Sp.of (by decide) (Nat.le_of_ble_eq_true rfl) ?_
  show JT_X10_costOf l G r 0 [(0, .ref 35), (1, .int x1), (2, .int x2)] [] M
  unfold f_X10_costOf at h
  refine J_aload_n (pc' := 1) (i := 0) (n := 0) dX10_costOf_0 rfl rfl rfl ?_
  obtain ⟨q1, e2, h⟩ := bi_inv h
  obtain ⟨c3, h⟩ := j_ck_inv h
  refine J_callV (pc' := 4) (as := []) (rest := []) dX10_costOf_1 rfl lk_X10_140 rfl 10 (by decide) rfl (m_o hs) (m_n hs (Nat.le_of_ble_eq_true rfl)) (c_X10_layHand hs e2) ⟨Nat.le_of_ble_eq_true rfl, Nat.le_of_ble_eq_true rfl⟩ (Nat.le_of_ble_eq_true rfl) ⟨Nat.le_of_ble_eq_true rfl, Nat.le_of_ble_eq_true rfl⟩ (j_kv ?_)
  have g4 : sh_m q1.2.2 := j_shE c3 hs
  refine J_aload_n (pc' := 5) (i := 0) (n := 0) dX10_costOf_4 rfl rfl rfl ?_
  refine J_getR (pc' := 8) (b := 40) dX10_costOf_5 rfl fl_X10_27 rfl (m_o g4) (m_n g4 (Nat.le_of_ble_eq_true rfl)) (m_r6 g4) ?_
  refine J_iload_n (pc' := 9) (i := 1) (n := 1) dX10_costOf_8 rfl rfl rfl ?_
  refine J_iload_n (pc' := 10) (i := 2) (n := 2) dX10_costOf_9 rfl rfl rfl ?_
  obtain ⟨M5, e6, h⟩ := w_i_inv h
  have g7 : sh_m M5.2.2 := j_shI e6.2 g4
  refine J_iaste (pc' := 11) dX10_costOf_10 rfl (m_s40 g4) (m_n g4 (Nat.le_of_ble_eq_true rfl)) e6 ?_
  refine J_aload_n (pc' := 12) (i := 0) (n := 0) dX10_costOf_11 rfl rfl rfl ?_
  refine J_iload_n (pc' := 13) (i := 1) (n := 1) dX10_costOf_12 rfl rfl rfl ?_
  refine J_iload_n (pc' := 14) (i := 2) (n := 2) dX10_costOf_13 rfl rfl rfl ?_
  obtain ⟨q8, e9, h⟩ := bi_inv h
  obtain ⟨c10, h⟩ := j_ck_inv h
  refine J_callV (pc' := 17) (as := [.int x1, .int x2]) (rest := []) dX10_costOf_14 rfl lk_X10_154 rfl 10 (by decide) rfl (m_o g7) (m_n g7 (Nat.le_of_ble_eq_true rfl)) (c_X10_sumOthers g7 e9) ⟨Nat.le_of_ble_eq_true rfl, Nat.le_of_ble_eq_true rfl⟩ (Nat.le_of_ble_eq_true rfl) ⟨Nat.le_of_ble_eq_true rfl, Nat.le_of_ble_eq_true rfl⟩ (j_kq ?_)
  have g11 : sh_m q8.2.2.2 := j_shE c10 g7
  refine J_istore_n (pc' := 18) (i := 3) (lv' := [(3, .int q8.1), (0, .ref 35), (1, .int x1), (2, .int x2)]) dX10_costOf_17 rfl rfl (by decide) rfl ?_
  refine J_aload_n (pc' := 19) (i := 0) (n := 1) dX10_costOf_18 rfl rfl rfl ?_
  refine J_getR (pc' := 22) (b := 40) dX10_costOf_19 rfl fl_X10_27 rfl (m_o g11) (m_n g11 (Nat.le_of_ble_eq_true rfl)) (m_r6 g11) ?_
  refine J_iload_n (pc' := 23) (i := 1) (n := 2) dX10_costOf_22 rfl rfl rfl ?_
  refine J_iconst (pc' := 24) (v := ((-1) : Int32)) dX10_costOf_23 rfl ic_m1 ?_
  obtain ⟨M12, e13, h⟩ := w_i_inv h
  have g14 : sh_m M12.2.2 := j_shI e13.2 g11
  refine J_iaste (pc' := 25) dX10_costOf_24 rfl (m_s40 g11) (m_n g11 (Nat.le_of_ble_eq_true rfl)) e13 ?_
  refine J_iload_n (pc' := 26) (i := 3) (n := 0) dX10_costOf_25 rfl rfl rfl ?_
  refine J_aload_n (pc' := 27) (i := 0) (n := 1) dX10_costOf_26 rfl rfl rfl ?_
  refine J_iload_n (pc' := 28) (i := 1) (n := 2) dX10_costOf_27 rfl rfl rfl ?_
  refine J_iload_n (pc' := 29) (i := 2) (n := 3) dX10_costOf_28 rfl rfl rfl ?_
  obtain ⟨q15, e16, h⟩ := bi_inv h
  obtain ⟨c17, h⟩ := j_ck_inv h
  refine J_callV (pc' := 32) (as := [.int x1, .int x2]) (rest := [.int q8.1]) dX10_costOf_29 rfl lk_X10_154 rfl 10 (by decide) rfl (m_o g14) (m_n g14 (Nat.le_of_ble_eq_true rfl)) (c_X10_sumOthers g14 e16) ⟨Nat.le_of_ble_eq_true rfl, Nat.le_of_ble_eq_true rfl⟩ (Nat.le_of_ble_eq_true rfl) ⟨Nat.le_of_ble_eq_true rfl, Nat.le_of_ble_eq_true rfl⟩ (j_kq ?_)
  have g18 : sh_m q15.2.2.2 := j_shE c17 g14
  refine J_isub (pc' := 33) dX10_costOf_32 rfl ?_
  exact J_iret rfl dX10_costOf_33 ⟨rfl, Nat.le_refl _⟩ (j_pW h)
abbrev JT_X10_cost (l : Launch) (G : j_G) (r : (Int32 × j_M)) : Nat → List (Nat × Value) → List Value → j_M → Prop := JJ l G md_X10_cost (j_rm 6 (0, 0)) (0, 0) (0, 0) (po (some (.int r.1)) r.2)
noncomputable def f_X10_cost (M : j_M) (x1 : Int32) (x2 : Int32) : Option (Int32 × j_M) :=
  (f_X10_isOne M x1).bind fun v1 => (if v1 = 0 then ((f_X10_bad M ((-2) : Int32)).bind fun q4 => j_ck M q4.2 (some (q4.1, q4.2))) else (tl (f_X10_isLane x2) fun v8 => (if v8 = 0 then ((f_X10_bad M ((-2) : Int32)).bind fun q22 => j_ck M q22.2 (some (q22.1, q22.2))) else ((f_X10_isOpen M x2).bind fun v11 => (if v11 = 0 then ((f_X10_no M).bind fun q14 => j_ck M q14.2 (some (q14.1, q14.2))) else ((f_X10_costOf M x1 x2).bind fun q18 => j_ck M q18.2 (some (q18.1, q18.2))))))))
set_option maxHeartbeats 4000000 in
theorem c_X10_cost {l : Launch} {G : j_G} {M : j_M} {x1 : Int32} {x2 : Int32} (hs : sh_m M.2.2) {r : (Int32 × j_M)} (h : f_X10_cost M x1 x2 = some r) : j_Sp l G md_X10_cost 6 (0, 0) [.ref 35, .int x1, .int x2] M (po (some (.int r.1)) r.2) := by
  refine j_Sp.of (by decide) (Nat.le_of_ble_eq_true rfl) ?_
  show JT_X10_cost l G r 0 [(0, .ref 35), (1, .int x1), (2, .int x2)] [] M
  unfold f_X10_cost at h
  refine J_aload_n (pc' := 1) (i := 0) (n := 0) dX10_cost_0 rfl rfl rfl ?_
  refine J_iload_n (pc' := 2) (i := 1) (n := 1) dX10_cost_1 rfl rfl rfl ?_
  obtain ⟨v1, e2, h⟩ := bi_inv h
  refine J_callV (pc' := 5) (as := [.int x1]) (rest := []) dX10_cost_2 rfl lk_X10_132 rfl 10 (by decide) rfl (m_o hs) (m_n hs (Nat.le_of_ble_eq_true rfl)) (c_X10_isOne hs e2) ⟨Nat.le_of_ble_eq_true rfl, Nat.le_of_ble_eq_true rfl⟩ (Nat.le_of_ble_eq_true rfl) ⟨Nat.le_of_ble_eq_true rfl, Nat.le_of_ble_eq_true rfl⟩ (j_kq ?_)
  refine J_if_eq (pc' := 8) (tgt := 15) dX10_cost_5 rfl (by decide) (fun c3 => ?_) (fun c3 => ?_)
  · replace h := j_ip c3 h
    refine J_aload_n (pc' := 16) (i := 0) (n := 0) dX10_cost_15 rfl rfl rfl ?_
    refine J_bipush (pc' := 18) (v := ((-2) : Int32)) dX10_cost_16 rfl bp_m2 ?_
    obtain ⟨q4, e5, h⟩ := bi_inv h
    obtain ⟨c6, h⟩ := j_ck_inv h
    refine J_callV (pc' := 21) (as := [.int ((-2) : Int32)]) (rest := []) dX10_cost_18 rfl lk_X10_84 rfl 10 (by decide) rfl (m_o hs) (m_n hs (Nat.le_of_ble_eq_true rfl)) (c_X10_bad hs e5) ⟨Nat.le_of_ble_eq_true rfl, Nat.le_of_ble_eq_true rfl⟩ (Nat.le_of_ble_eq_true rfl) ⟨Nat.le_of_ble_eq_true rfl, Nat.le_of_ble_eq_true rfl⟩ (j_kq ?_)
    have g7 : sh_m q4.2.2.2 := j_shE c6 hs
    exact J_iret rfl dX10_cost_21 ⟨rfl, Nat.le_refl _⟩ (j_pW h)
  · replace h := j_iq c3 h
    refine J_iload_n (pc' := 9) (i := 2) (n := 2) dX10_cost_8 rfl rfl rfl ?_
    obtain ⟨v8, e9, h⟩ := tl_inv h
    refine J_callS (pc' := 12) (as := [.int x2]) (rest := []) dX10_cost_9 rfl lk_X10_78 rfl (c_X10_isLane e9) ⟨Nat.le_of_ble_eq_true rfl, Nat.le_of_ble_eq_true rfl⟩ (Nat.le_of_ble_eq_true rfl) ⟨Nat.le_of_ble_eq_true rfl, Nat.le_of_ble_eq_true rfl⟩ (j_kq ?_)
    refine J_if_ne (pc' := 15) (tgt := 22) dX10_cost_12 rfl (by decide) (fun c10 => ?_) (fun c10 => ?_)
    · replace h := j_iq c10 h
      refine J_aload_n (pc' := 23) (i := 0) (n := 0) dX10_cost_22 rfl rfl rfl ?_
      refine J_iload_n (pc' := 24) (i := 2) (n := 2) dX10_cost_23 rfl rfl rfl ?_
      obtain ⟨v11, e12, h⟩ := bi_inv h
      refine J_callV (pc' := 27) (as := [.int x2]) (rest := []) dX10_cost_24 rfl lk_X10_101 rfl 10 (by decide) rfl (m_o hs) (m_n hs (Nat.le_of_ble_eq_true rfl)) (c_X10_isOpen hs e12) ⟨Nat.le_of_ble_eq_true rfl, Nat.le_of_ble_eq_true rfl⟩ (Nat.le_of_ble_eq_true rfl) ⟨Nat.le_of_ble_eq_true rfl, Nat.le_of_ble_eq_true rfl⟩ (j_kq ?_)
      refine J_if_eq (pc' := 30) (tgt := 39) dX10_cost_27 rfl (by decide) (fun c13 => ?_) (fun c13 => ?_)
      · replace h := j_ip c13 h
        refine J_aload_n (pc' := 40) (i := 0) (n := 0) dX10_cost_39 rfl rfl rfl ?_
        obtain ⟨q14, e15, h⟩ := bi_inv h
        obtain ⟨c16, h⟩ := j_ck_inv h
        refine J_callV (pc' := 43) (as := []) (rest := []) dX10_cost_40 rfl lk_X10_92 rfl 10 (by decide) rfl (m_o hs) (m_n hs (Nat.le_of_ble_eq_true rfl)) (c_X10_no hs e15) ⟨Nat.le_of_ble_eq_true rfl, Nat.le_of_ble_eq_true rfl⟩ (Nat.le_of_ble_eq_true rfl) ⟨Nat.le_of_ble_eq_true rfl, Nat.le_of_ble_eq_true rfl⟩ (j_kq ?_)
        have g17 : sh_m q14.2.2.2 := j_shE c16 hs
        exact J_iret rfl dX10_cost_43 ⟨rfl, Nat.le_refl _⟩ (j_pW h)
      · replace h := j_iq c13 h
        refine J_aload_n (pc' := 31) (i := 0) (n := 0) dX10_cost_30 rfl rfl rfl ?_
        refine J_iload_n (pc' := 32) (i := 1) (n := 1) dX10_cost_31 rfl rfl rfl ?_
        refine J_iload_n (pc' := 33) (i := 2) (n := 2) dX10_cost_32 rfl rfl rfl ?_
        obtain ⟨q18, e19, h⟩ := bi_inv h
        obtain ⟨c20, h⟩ := j_ck_inv h
        refine J_callV (pc' := 36) (as := [.int x1, .int x2]) (rest := []) dX10_cost_33 rfl lk_X10_157 rfl 10 (by decide) rfl (m_o hs) (m_n hs (Nat.le_of_ble_eq_true rfl)) (c_X10_costOf hs e19) ⟨Nat.le_of_ble_eq_true rfl, Nat.le_of_ble_eq_true rfl⟩ (Nat.le_of_ble_eq_true rfl) ⟨Nat.le_of_ble_eq_true rfl, Nat.le_of_ble_eq_true rfl⟩ (j_kq ?_)
        have g21 : sh_m q18.2.2.2 := j_shE c20 hs
        refine J_goto (pc' := 43) dX10_cost_36 (by decide) ?_
        exact J_iret rfl dX10_cost_43 ⟨rfl, Nat.le_refl _⟩ (j_pW h)
    · replace h := j_ip c10 h
      refine J_aload_n (pc' := 16) (i := 0) (n := 0) dX10_cost_15 rfl rfl rfl ?_
      refine J_bipush (pc' := 18) (v := ((-2) : Int32)) dX10_cost_16 rfl bp_m2 ?_
      obtain ⟨q22, e23, h⟩ := bi_inv h
      obtain ⟨c24, h⟩ := j_ck_inv h
      refine J_callV (pc' := 21) (as := [.int ((-2) : Int32)]) (rest := []) dX10_cost_18 rfl lk_X10_84 rfl 10 (by decide) rfl (m_o hs) (m_n hs (Nat.le_of_ble_eq_true rfl)) (c_X10_bad hs e23) ⟨Nat.le_of_ble_eq_true rfl, Nat.le_of_ble_eq_true rfl⟩ (Nat.le_of_ble_eq_true rfl) ⟨Nat.le_of_ble_eq_true rfl, Nat.le_of_ble_eq_true rfl⟩ (j_kq ?_)
      have g25 : sh_m q22.2.2.2 := j_shE c24 hs
      exact J_iret rfl dX10_cost_21 ⟨rfl, Nat.le_refl _⟩ (j_pW h)
abbrev JT_X10_where (l : Launch) (G : j_G) (r : (Int32 × j_M)) : Nat → List (Nat × Value) → List Value → j_M → Prop := JJ l G md_X10_where (j_rm 6 (0, 0)) (0, 0) (0, 0) (po (some (.int r.1)) r.2)
noncomputable def f_X10_where_L23 : Nat → j_M → Int32 → Int32 → Int32 → Int32 → (Int32 → Int32 → Int32 → j_M → Option (Int32 × j_M)) → Option (Int32 × j_M)
  | 0, _, _, _, _, _, _ => none
  | n + 1, M, x1, x2, x3, x4, K =>
    if (4 : Int32) ≤ x4 then (K x2 x3 x4 M) else ((f_X10_isOpen M x4).bind fun v5 => (jn2 (fun (v8 : Int32) (M9 : j_M) => (jn (fun (v14 : Int32) => (if x3 ≤ v8 then (f_X10_where_L23 n  M9 x1 v14 x3 (x4 + (1 : Int32)) K) else (f_X10_where_L23 n  M9 x1 v14 v8 (x4 + (1 : Int32)) K))) (fun K15 => (if x3 ≤ v8 then (K15 x2) else (K15 x4))))) (fun K10 => (if v5 = 0 then (K10 (1000000 : Int32) M) else ((f_X10_costOf M x1 x4).bind fun q18 => j_ck M q18.2 (K10 q18.1 q18.2))))))
noncomputable def f_X10_where (M : j_M) (x1 : Int32) : Option (Int32 × j_M) :=
  (f_X10_isOne M x1).bind fun v1 => (if v1 = 0 then ((f_X10_bad M ((-2) : Int32)).bind fun q27 => j_ck M q27.2 (some (q27.1, q27.2))) else (f_X10_where_L23 j_fu  M x1 ((-1) : Int32) (1000000 : Int32) (0 : Int32) (fun (y22 : Int32) (y23 : Int32) (y24 : Int32) (M25 : j_M) => (some (y22, M25)))))
set_option maxHeartbeats 4000000 in
theorem L_X10_where_L23 {l : Launch} {G : j_G}  {r : (Int32 × j_M)} : ∀ (n : Nat) {x1 : Int32} {x2 : Int32} {x3 : Int32} {x4 : Int32} {M : j_M} (hs : sh_m M.2.2) {K : Int32 → Int32 → Int32 → j_M → Option (Int32 × j_M)}, f_X10_where_L23 n  M x1 x2 x3 x4 K = some r → (∀ (y2 : Int32) (y3 : Int32) (y4 : Int32) (M1 : j_M), sh_m M1.2.2 → K y2 y3 y4 M1 = some r → JT_X10_where l G r 84 [(2, .int y2)] [] M1) → JT_X10_where l G r 23 [(0, .ref 35), (1, .int x1), (2, .int x2), (3, .int x3), (4, .int x4)] [] M := by
  intro n
  induction n with
  | zero =>
    intro x1 x2 x3 x4 M hs K h hK
    rw [f_X10_where_L23] at h; cases h
  | succ n ih =>
    intro x1 x2 x3 x4 M hs K h hK
    rw [f_X10_where_L23] at h
    refine J_iload (pc' := 25) (i := 4) (n := 4) dX10_where_23 rfl rfl ?_
    refine J_iconst (pc' := 26) (v := (4 : Int32)) dX10_where_25 rfl ic_4 ?_
    refine J_icmp_ge (pc' := 29) (tgt := 84) dX10_where_26 rfl (by decide) (fun c4 => ?_) (fun c4 => ?_)
    · replace h := j_ip c4 h
      refine J_sub [2] (lv' := [(2, .int x2)]) rfl ?_
      exact hK x2 x3 x4 M hs h
    · replace h := j_iq c4 h
      refine J_aload_n (pc' := 30) (i := 0) (n := 0) dX10_where_29 rfl rfl rfl ?_
      refine J_iload (pc' := 32) (i := 4) (n := 4) dX10_where_30 rfl rfl ?_
      obtain ⟨v5, e6, h⟩ := bi_inv h
      refine J_callV (pc' := 35) (as := [.int x4]) (rest := []) dX10_where_32 rfl lk_X10_101 rfl 10 (by decide) rfl (m_o hs) (m_n hs (Nat.le_of_ble_eq_true rfl)) (c_X10_isOpen hs e6) ⟨Nat.le_of_ble_eq_true rfl, Nat.le_of_ble_eq_true rfl⟩ (Nat.le_of_ble_eq_true rfl) ⟨Nat.le_of_ble_eq_true rfl, Nat.le_of_ble_eq_true rfl⟩ (j_kq ?_)
      refine J_join2 (C := fun (v8 : Int32) (M9 : j_M) => sh_m M9.2.2 → JT_X10_where l G r 50 [(0, .ref 35), (1, .int x1), (2, .int x2), (3, .int x3), (4, .int x4)] [.int v8] M9) h (fun v8 M9 h => ?_) (fun K10 h11 h => ?_)
      · intro g12
        refine J_istore (pc' := 52) (i := 5) (lv' := [(5, .int v8), (0, .ref 35), (1, .int x1), (2, .int x2), (3, .int x3), (4, .int x4)]) dX10_where_50 rfl (by decide) rfl ?_
        refine J_iload (pc' := 54) (i := 5) (n := 0) dX10_where_52 rfl rfl ?_
        refine J_iload_n (pc' := 55) (i := 3) (n := 4) dX10_where_54 rfl rfl rfl ?_
        refine J_join (C := fun (v14 : Int32) => JT_X10_where l G r 64 [(0, .ref 35), (1, .int x1), (3, .int x3), (4, .int x4), (5, .int v8)] [.int v14] M9) h (fun v14 h => ?_) (fun K15 h16 h => ?_)
        · refine J_istore_n (pc' := 65) (i := 2) (lv' := [(2, .int v14), (0, .ref 35), (1, .int x1), (3, .int x3), (4, .int x4), (5, .int v8)]) dX10_where_64 rfl rfl (by decide) rfl ?_
          refine J_iload (pc' := 67) (i := 5) (n := 5) dX10_where_65 rfl rfl ?_
          refine J_iload_n (pc' := 68) (i := 3) (n := 3) dX10_where_67 rfl rfl rfl ?_
          refine J_icmp_ge (pc' := 71) (tgt := 76) dX10_where_68 rfl (by decide) (fun c17 => ?_) (fun c17 => ?_)
          · replace h := j_ip c17 h
            refine J_iload_n (pc' := 77) (i := 3) (n := 3) dX10_where_76 rfl rfl rfl ?_
            refine J_istore_n (pc' := 78) (i := 3) (lv' := [(3, .int x3), (2, .int v14), (0, .ref 35), (1, .int x1), (4, .int x4), (5, .int v8)]) dX10_where_77 rfl rfl (by decide) rfl ?_
            refine J_iinc (pc' := 81) (i := 4) (n := 4) (v := (x4 + (1 : Int32))) (lv' := [(4, .int (x4 + (1 : Int32))), (3, .int x3), (2, .int v14), (0, .ref 35), (1, .int x1), (5, .int v8)]) dX10_where_78 rfl rfl (j_inc _ _ rfl _) (by decide) rfl ?_
            refine J_goto (pc' := 23) dX10_where_81 (by decide) ?_
            refine J_sub [3, 4, 2, 1, 0] (lv' := [(0, .ref 35), (1, .int x1), (2, .int v14), (3, .int x3), (4, .int (x4 + (1 : Int32)))]) rfl ?_
            exact ih g12 h hK
          · replace h := j_iq c17 h
            refine J_iload (pc' := 73) (i := 5) (n := 5) dX10_where_71 rfl rfl ?_
            refine J_goto (pc' := 77) dX10_where_73 (by decide) ?_
            refine J_istore_n (pc' := 78) (i := 3) (lv' := [(3, .int v8), (2, .int v14), (0, .ref 35), (1, .int x1), (4, .int x4), (5, .int v8)]) dX10_where_77 rfl rfl (by decide) rfl ?_
            refine J_iinc (pc' := 81) (i := 4) (n := 4) (v := (x4 + (1 : Int32))) (lv' := [(4, .int (x4 + (1 : Int32))), (3, .int v8), (2, .int v14), (0, .ref 35), (1, .int x1), (5, .int v8)]) dX10_where_78 rfl rfl (j_inc _ _ rfl _) (by decide) rfl ?_
            refine J_goto (pc' := 23) dX10_where_81 (by decide) ?_
            refine J_sub [3, 4, 2, 1, 0] (lv' := [(0, .ref 35), (1, .int x1), (2, .int v14), (3, .int v8), (4, .int (x4 + (1 : Int32)))]) rfl ?_
            exact ih g12 h hK
        · refine J_icmp_ge (pc' := 58) (tgt := 63) dX10_where_55 rfl (by decide) (fun c13 => ?_) (fun c13 => ?_)
          · replace h := j_ip c13 h
            refine J_iload_n (pc' := 64) (i := 2) (n := 3) dX10_where_63 rfl rfl rfl ?_
            refine J_sub [1, 2, 4, 5, 0] (lv' := [(0, .ref 35), (1, .int x1), (3, .int x3), (4, .int x4), (5, .int v8)]) rfl ?_
            exact h16 x2 h
          · replace h := j_iq c13 h
            refine J_iload (pc' := 60) (i := 4) (n := 5) dX10_where_58 rfl rfl ?_
            refine J_goto (pc' := 64) dX10_where_60 (by decide) ?_
            refine J_sub [1, 2, 4, 5, 0] (lv' := [(0, .ref 35), (1, .int x1), (3, .int x3), (4, .int x4), (5, .int v8)]) rfl ?_
            exact h16 x4 h
      · refine J_if_eq (pc' := 38) (tgt := 48) dX10_where_35 rfl (by decide) (fun c7 => ?_) (fun c7 => ?_)
        · replace h := j_ip c7 h
          refine J_ldc (pc' := 50) (v := (1000000 : Int32)) dX10_where_48 rfl wd_1101 ?_
          exact h11 (1000000 : Int32) M h hs
        · replace h := j_iq c7 h
          refine J_aload_n (pc' := 39) (i := 0) (n := 0) dX10_where_38 rfl rfl rfl ?_
          refine J_iload_n (pc' := 40) (i := 1) (n := 1) dX10_where_39 rfl rfl rfl ?_
          refine J_iload (pc' := 42) (i := 4) (n := 4) dX10_where_40 rfl rfl ?_
          obtain ⟨q18, e19, h⟩ := bi_inv h
          obtain ⟨c20, h⟩ := j_ck_inv h
          refine J_callV (pc' := 45) (as := [.int x1, .int x4]) (rest := []) dX10_where_42 rfl lk_X10_157 rfl 10 (by decide) rfl (m_o hs) (m_n hs (Nat.le_of_ble_eq_true rfl)) (c_X10_costOf hs e19) ⟨Nat.le_of_ble_eq_true rfl, Nat.le_of_ble_eq_true rfl⟩ (Nat.le_of_ble_eq_true rfl) ⟨Nat.le_of_ble_eq_true rfl, Nat.le_of_ble_eq_true rfl⟩ (j_kq ?_)
          have g21 : sh_m q18.2.2.2 := j_shE c20 hs
          refine J_goto (pc' := 50) dX10_where_45 (by decide) ?_
          exact h11 q18.1 q18.2 h g21
set_option maxHeartbeats 4000000 in
theorem c_X10_where {l : Launch} {G : j_G} {M : j_M} {x1 : Int32} (hs : sh_m M.2.2) {r : (Int32 × j_M)} (h : f_X10_where M x1 = some r) : j_Sp l G md_X10_where 6 (0, 0) [.ref 35, .int x1] M (po (some (.int r.1)) r.2) := by
  refine j_Sp.of (by decide) (Nat.le_of_ble_eq_true rfl) ?_
  show JT_X10_where l G r 0 [(0, .ref 35), (1, .int x1)] [] M
  unfold f_X10_where at h
  refine J_aload_n (pc' := 1) (i := 0) (n := 0) dX10_where_0 rfl rfl rfl ?_
  refine J_iload_n (pc' := 2) (i := 1) (n := 1) dX10_where_1 rfl rfl rfl ?_
  obtain ⟨v1, e2, h⟩ := bi_inv h
  refine J_callV (pc' := 5) (as := [.int x1]) (rest := []) dX10_where_2 rfl lk_X10_132 rfl 10 (by decide) rfl (m_o hs) (m_n hs (Nat.le_of_ble_eq_true rfl)) (c_X10_isOne hs e2) ⟨Nat.le_of_ble_eq_true rfl, Nat.le_of_ble_eq_true rfl⟩ (Nat.le_of_ble_eq_true rfl) ⟨Nat.le_of_ble_eq_true rfl, Nat.le_of_ble_eq_true rfl⟩ (j_kq ?_)
  refine J_if_ne (pc' := 8) (tgt := 15) dX10_where_5 rfl (by decide) (fun c3 => ?_) (fun c3 => ?_)
  · replace h := j_iq c3 h
    refine J_iconst (pc' := 16) (v := ((-1) : Int32)) dX10_where_15 rfl ic_m1 ?_
    refine J_istore_n (pc' := 17) (i := 2) (lv' := [(2, .int ((-1) : Int32)), (0, .ref 35), (1, .int x1)]) dX10_where_16 rfl rfl (by decide) rfl ?_
    refine J_ldc (pc' := 19) (v := (1000000 : Int32)) dX10_where_17 rfl wd_1101 ?_
    refine J_istore_n (pc' := 20) (i := 3) (lv' := [(3, .int (1000000 : Int32)), (2, .int ((-1) : Int32)), (0, .ref 35), (1, .int x1)]) dX10_where_19 rfl rfl (by decide) rfl ?_
    refine J_iconst (pc' := 21) (v := (0 : Int32)) dX10_where_20 rfl ic_0 ?_
    refine J_istore (pc' := 23) (i := 4) (lv' := [(4, .int (0 : Int32)), (3, .int (1000000 : Int32)), (2, .int ((-1) : Int32)), (0, .ref 35), (1, .int x1)]) dX10_where_21 rfl (by decide) rfl ?_
    refine J_sub [3, 4, 2, 1, 0] (lv' := [(0, .ref 35), (1, .int x1), (2, .int ((-1) : Int32)), (3, .int (1000000 : Int32)), (4, .int (0 : Int32))]) rfl ?_
    refine L_X10_where_L23 j_fu hs h (fun y22 y23 y24 M25 g26 h => ?_)
    refine J_iload_n (pc' := 85) (i := 2) (n := 0) dX10_where_84 rfl rfl rfl ?_
    exact J_iret rfl dX10_where_85 ⟨rfl, Nat.le_refl _⟩ (j_pW h)
  · replace h := j_ip c3 h
    refine J_aload_n (pc' := 9) (i := 0) (n := 0) dX10_where_8 rfl rfl rfl ?_
    refine J_bipush (pc' := 11) (v := ((-2) : Int32)) dX10_where_9 rfl bp_m2 ?_
    obtain ⟨q27, e28, h⟩ := bi_inv h
    obtain ⟨c29, h⟩ := j_ck_inv h
    refine J_callV (pc' := 14) (as := [.int ((-2) : Int32)]) (rest := []) dX10_where_11 rfl lk_X10_84 rfl 10 (by decide) rfl (m_o hs) (m_n hs (Nat.le_of_ble_eq_true rfl)) (c_X10_bad hs e28) ⟨Nat.le_of_ble_eq_true rfl, Nat.le_of_ble_eq_true rfl⟩ (Nat.le_of_ble_eq_true rfl) ⟨Nat.le_of_ble_eq_true rfl, Nat.le_of_ble_eq_true rfl⟩ (j_kq ?_)
    have g30 : sh_m q27.2.2.2 := j_shE c29 hs
    exact J_iret rfl dX10_where_14 ⟨rfl, Nat.le_refl _⟩ (j_pW h)
abbrev JT_X10_obey (l : Launch) (G : j_G) (r : (Int32 × j_M)) : Nat → List (Nat × Value) → List Value → j_M → Prop := JJ l G md_X10_obey (j_rm 2 (0, 0)) (0, 0) (0, 0) (po (some (.int r.1)) r.2)
noncomputable def f_X10_obey_L21 : Nat → j_M → Int32 → Int32 → Int32 → (Int32 → Int32 → Option (Int32 × j_M)) → Option (Int32 × j_M)
  | 0, _, _, _, _, _ => none
  | n + 1, M, x1, x2, x3, K =>
    (f_X10_many M).bind fun v4 => (if v4 ≤ x3 then (K x2 x3) else (jn (fun (v8 : Int32) => (a_i M 36 250 ((9 : Int32) + x3) fun v11 => (a_i M 36 250 ((4 : Int32) + v11) fun v13 => (tl (f_X10_signOf v8) fun v15 => (if v13 = v15 then (f_X10_obey_L21 n  M x1 (x2 ||| ((1 : Int32) <<< (x3 &&& 31))) (x3 + (1 : Int32)) K) else (f_X10_obey_L21 n  M x1 (x2 ||| (0 : Int32)) (x3 + (1 : Int32)) K)))))) (fun K9 => (if x1 = 0 then ((f_X10_paceOf M x3).bind fun v24 => (K9 v24)) else (a_i M 36 250 ((30 : Int32) + x3) fun v18 => ((f_X10_paceOf M x3).bind fun v20 => (tl (f_X10_believesAs v18 v20) fun v22 => (K9 v22))))))))
noncomputable def f_X10_obey (M : j_M) (x1 : Int32) : Option (Int32 × j_M) :=
  tl (f_X10_in (x1).toInt64 (0 : Int64) (1 : Int64)) fun v1 => (if v1 = 0 then ((f_X10_bad M ((-2) : Int32)).bind fun q28 => j_ck M q28.2 (some (q28.1, q28.2))) else (f_X10_obey_L21 j_fu  M x1 (0 : Int32) (0 : Int32) (fun (y26 : Int32) (y27 : Int32) => (some (y26, M)))))
set_option maxHeartbeats 4000000 in
theorem L_X10_obey_L21 {l : Launch} {G : j_G}  {r : (Int32 × j_M)} : ∀ (n : Nat) {x1 : Int32} {x2 : Int32} {x3 : Int32} {M : j_M} (hs : sh_m M.2.2) {K : Int32 → Int32 → Option (Int32 × j_M)}, f_X10_obey_L21 n  M x1 x2 x3 K = some r → (∀ (y2 : Int32) (y3 : Int32), K y2 y3 = some r → JT_X10_obey l G r 100 [(2, .int y2)] [] M) → JT_X10_obey l G r 21 [(0, .ref 35), (1, .int x1), (2, .int x2), (3, .int x3)] [] M := by
  intro n
  induction n with
  | zero =>
    intro x1 x2 x3 M hs K h hK
    rw [f_X10_obey_L21] at h; cases h
  | succ n ih =>
    intro x1 x2 x3 M hs K h hK
    rw [f_X10_obey_L21] at h
    refine J_iload_n (pc' := 22) (i := 3) (n := 3) dX10_obey_21 rfl rfl rfl ?_
    refine J_aload_n (pc' := 23) (i := 0) (n := 0) dX10_obey_22 rfl rfl rfl ?_
    obtain ⟨v4, e5, h⟩ := bi_inv h
    refine J_callV (pc' := 26) (as := []) (rest := [.int x3]) dX10_obey_23 rfl lk_X10_64 rfl 10 (by decide) rfl (m_o hs) (m_n hs (Nat.le_of_ble_eq_true rfl)) (c_X10_many hs e5) ⟨Nat.le_of_ble_eq_true rfl, Nat.le_of_ble_eq_true rfl⟩ (Nat.le_of_ble_eq_true rfl) ⟨Nat.le_of_ble_eq_true rfl, Nat.le_of_ble_eq_true rfl⟩ (j_kq ?_)
    refine J_icmp_ge (pc' := 29) (tgt := 100) dX10_obey_26 rfl (by decide) (fun c6 => ?_) (fun c6 => ?_)
    · replace h := j_ip c6 h
      refine J_sub [2] (lv' := [(2, .int x2)]) rfl ?_
      exact hK x2 x3  h
    · replace h := j_iq c6 h
      refine J_iload_n (pc' := 30) (i := 1) (n := 1) dX10_obey_29 rfl rfl rfl ?_
      refine J_join (C := fun (v8 : Int32) => JT_X10_obey l G r 58 [(0, .ref 35), (1, .int x1), (2, .int x2), (3, .int x3)] [.int v8] M) h (fun v8 h => ?_) (fun K9 h10 h => ?_)
      · refine J_istore (pc' := 60) (i := 4) (lv' := [(4, .int v8), (0, .ref 35), (1, .int x1), (2, .int x2), (3, .int x3)]) dX10_obey_58 rfl (by decide) rfl ?_
        refine J_iload_n (pc' := 61) (i := 2) (n := 3) dX10_obey_60 rfl rfl rfl ?_
        refine J_aload_n (pc' := 62) (i := 0) (n := 1) dX10_obey_61 rfl rfl rfl ?_
        refine J_getR (pc' := 65) (b := 36) dX10_obey_62 rfl fl_X10_7 rfl (m_o hs) (m_n hs (Nat.le_of_ble_eq_true rfl)) (m_r0 hs) ?_
        refine J_iconst (pc' := 66) (v := (4 : Int32)) dX10_obey_65 rfl ic_4 ?_
        refine J_aload_n (pc' := 67) (i := 0) (n := 1) dX10_obey_66 rfl rfl rfl ?_
        refine J_getR (pc' := 70) (b := 36) dX10_obey_67 rfl fl_X10_7 rfl (m_o hs) (m_n hs (Nat.le_of_ble_eq_true rfl)) (m_r0 hs) ?_
        refine J_bipush (pc' := 72) (v := (9 : Int32)) dX10_obey_70 rfl bp_9 ?_
        refine J_iload_n (pc' := 73) (i := 3) (n := 4) dX10_obey_72 rfl rfl rfl ?_
        refine J_iadd (pc' := 74) dX10_obey_73 rfl ?_
        obtain ⟨v11, e12, h⟩ := a_i_inv h
        refine J_ialde (pc' := 75) dX10_obey_74 rfl (m_s36 hs) (m_n hs (Nat.le_of_ble_eq_true rfl)) e12 ?_
        refine J_iadd (pc' := 76) dX10_obey_75 rfl ?_
        obtain ⟨v13, e14, h⟩ := a_i_inv h
        refine J_ialde (pc' := 77) dX10_obey_76 rfl (m_s36 hs) (m_n hs (Nat.le_of_ble_eq_true rfl)) e14 ?_
        refine J_iload (pc' := 79) (i := 4) (n := 0) dX10_obey_77 rfl rfl ?_
        obtain ⟨v15, e16, h⟩ := tl_inv h
        refine J_callS (pc' := 82) (as := [.int v8]) (rest := [.int v13, .int x2]) dX10_obey_79 rfl lk_X10_160 rfl (c_X10_signOf e16) ⟨Nat.le_of_ble_eq_true rfl, Nat.le_of_ble_eq_true rfl⟩ (Nat.le_of_ble_eq_true rfl) ⟨Nat.le_of_ble_eq_true rfl, Nat.le_of_ble_eq_true rfl⟩ (j_kq ?_)
        refine J_icmp_ne (pc' := 85) (tgt := 91) dX10_obey_82 rfl (by decide) (fun c17 => ?_) (fun c17 => ?_)
        · replace h := j_iq c17 h
          refine J_iconst (pc' := 92) (v := (0 : Int32)) dX10_obey_91 rfl ic_0 ?_
          refine J_ior (pc' := 93) dX10_obey_92 rfl ?_
          refine J_istore_n (pc' := 94) (i := 2) (lv' := [(2, .int (x2 ||| (0 : Int32))), (4, .int v8), (0, .ref 35), (1, .int x1), (3, .int x3)]) dX10_obey_93 rfl rfl (by decide) rfl ?_
          refine J_iinc (pc' := 97) (i := 3) (n := 4) (v := (x3 + (1 : Int32))) (lv' := [(3, .int (x3 + (1 : Int32))), (2, .int (x2 ||| (0 : Int32))), (4, .int v8), (0, .ref 35), (1, .int x1)]) dX10_obey_94 rfl rfl (j_inc _ _ rfl _) (by decide) rfl ?_
          refine J_goto (pc' := 21) dX10_obey_97 (by decide) ?_
          refine J_sub [3, 4, 1, 0] (lv' := [(0, .ref 35), (1, .int x1), (2, .int (x2 ||| (0 : Int32))), (3, .int (x3 + (1 : Int32)))]) rfl ?_
          exact ih hs h hK
        · replace h := j_ip c17 h
          refine J_iconst (pc' := 86) (v := (1 : Int32)) dX10_obey_85 rfl ic_1 ?_
          refine J_iload_n (pc' := 87) (i := 3) (n := 4) dX10_obey_86 rfl rfl rfl ?_
          refine J_ishl (pc' := 88) dX10_obey_87 rfl ?_
          refine J_goto (pc' := 92) dX10_obey_88 (by decide) ?_
          refine J_ior (pc' := 93) dX10_obey_92 rfl ?_
          refine J_istore_n (pc' := 94) (i := 2) (lv' := [(2, .int (x2 ||| ((1 : Int32) <<< (x3 &&& 31)))), (4, .int v8), (0, .ref 35), (1, .int x1), (3, .int x3)]) dX10_obey_93 rfl rfl (by decide) rfl ?_
          refine J_iinc (pc' := 97) (i := 3) (n := 4) (v := (x3 + (1 : Int32))) (lv' := [(3, .int (x3 + (1 : Int32))), (2, .int (x2 ||| ((1 : Int32) <<< (x3 &&& 31)))), (4, .int v8), (0, .ref 35), (1, .int x1)]) dX10_obey_94 rfl rfl (j_inc _ _ rfl _) (by decide) rfl ?_
          refine J_goto (pc' := 21) dX10_obey_97 (by decide) ?_
          refine J_sub [3, 4, 1, 0] (lv' := [(0, .ref 35), (1, .int x1), (2, .int (x2 ||| ((1 : Int32) <<< (x3 &&& 31)))), (3, .int (x3 + (1 : Int32)))]) rfl ?_
          exact ih hs h hK
      · refine J_if_ne (pc' := 33) (tgt := 41) dX10_obey_30 rfl (by decide) (fun c7 => ?_) (fun c7 => ?_)
        · replace h := j_iq c7 h
          refine J_aload_n (pc' := 42) (i := 0) (n := 0) dX10_obey_41 rfl rfl rfl ?_
          refine J_getR (pc' := 45) (b := 36) dX10_obey_42 rfl fl_X10_7 rfl (m_o hs) (m_n hs (Nat.le_of_ble_eq_true rfl)) (m_r0 hs) ?_
          refine J_bipush (pc' := 47) (v := (30 : Int32)) dX10_obey_45 rfl bp_30 ?_
          refine J_iload_n (pc' := 48) (i := 3) (n := 3) dX10_obey_47 rfl rfl rfl ?_
          refine J_iadd (pc' := 49) dX10_obey_48 rfl ?_
          obtain ⟨v18, e19, h⟩ := a_i_inv h
          refine J_ialde (pc' := 50) dX10_obey_49 rfl (m_s36 hs) (m_n hs (Nat.le_of_ble_eq_true rfl)) e19 ?_
          refine J_aload_n (pc' := 51) (i := 0) (n := 0) dX10_obey_50 rfl rfl rfl ?_
          refine J_iload_n (pc' := 52) (i := 3) (n := 3) dX10_obey_51 rfl rfl rfl ?_
          obtain ⟨v20, e21, h⟩ := bi_inv h
          refine J_callV (pc' := 55) (as := [.int x3]) (rest := [.int v18]) dX10_obey_52 rfl lk_X10_121 rfl 10 (by decide) rfl (m_o hs) (m_n hs (Nat.le_of_ble_eq_true rfl)) (c_X10_paceOf hs e21) ⟨Nat.le_of_ble_eq_true rfl, Nat.le_of_ble_eq_true rfl⟩ (Nat.le_of_ble_eq_true rfl) ⟨Nat.le_of_ble_eq_true rfl, Nat.le_of_ble_eq_true rfl⟩ (j_kq ?_)
          obtain ⟨v22, e23, h⟩ := tl_inv h
          refine J_callS (pc' := 58) (as := [.int v18, .int v20]) (rest := []) dX10_obey_55 rfl lk_X10_147 rfl (c_X10_believesAs e23) ⟨Nat.le_of_ble_eq_true rfl, Nat.le_of_ble_eq_true rfl⟩ (Nat.le_of_ble_eq_true rfl) ⟨Nat.le_of_ble_eq_true rfl, Nat.le_of_ble_eq_true rfl⟩ (j_kq ?_)
          exact h10 v22 h
        · replace h := j_ip c7 h
          refine J_aload_n (pc' := 34) (i := 0) (n := 0) dX10_obey_33 rfl rfl rfl ?_
          refine J_iload_n (pc' := 35) (i := 3) (n := 3) dX10_obey_34 rfl rfl rfl ?_
          obtain ⟨v24, e25, h⟩ := bi_inv h
          refine J_callV (pc' := 38) (as := [.int x3]) (rest := []) dX10_obey_35 rfl lk_X10_121 rfl 10 (by decide) rfl (m_o hs) (m_n hs (Nat.le_of_ble_eq_true rfl)) (c_X10_paceOf hs e25) ⟨Nat.le_of_ble_eq_true rfl, Nat.le_of_ble_eq_true rfl⟩ (Nat.le_of_ble_eq_true rfl) ⟨Nat.le_of_ble_eq_true rfl, Nat.le_of_ble_eq_true rfl⟩ (j_kq ?_)
          refine J_goto (pc' := 58) dX10_obey_38 (by decide) ?_
          exact h10 v24 h
set_option maxHeartbeats 4000000 in
theorem c_X10_obey {l : Launch} {G : j_G} {M : j_M} {x1 : Int32} (hs : sh_m M.2.2) {r : (Int32 × j_M)} (h : f_X10_obey M x1 = some r) : j_Sp l G md_X10_obey 2 (0, 0) [.ref 35, .int x1] M (po (some (.int r.1)) r.2) := by
  refine j_Sp.of (by decide) (Nat.le_of_ble_eq_true rfl) ?_
  show JT_X10_obey l G r 0 [(0, .ref 35), (1, .int x1)] [] M
  unfold f_X10_obey at h
  refine J_iload_n (pc' := 1) (i := 1) (n := 1) dX10_obey_0 rfl rfl rfl ?_
  refine J_i2l (pc' := 2) dX10_obey_1 rfl ?_
  refine J_lconst (pc' := 3) (v := (0 : Int64)) dX10_obey_2 rfl rfl ?_
  refine J_lconst (pc' := 4) (v := (1 : Int64)) dX10_obey_3 rfl rfl ?_
  obtain ⟨v1, e2, h⟩ := tl_inv h
  refine J_callS (pc' := 7) (as := [.long (x1).toInt64, .long (0 : Int64), .long (1 : Int64)]) (rest := []) dX10_obey_4 rfl lk_X10_68 rfl (c_X10_in e2) ⟨Nat.le_of_ble_eq_true rfl, Nat.le_of_ble_eq_true rfl⟩ (Nat.le_of_ble_eq_true rfl) ⟨Nat.le_of_ble_eq_true rfl, Nat.le_of_ble_eq_true rfl⟩ (j_kq ?_)
  refine J_if_ne (pc' := 10) (tgt := 17) dX10_obey_7 rfl (by decide) (fun c3 => ?_) (fun c3 => ?_)
  · replace h := j_iq c3 h
    refine J_iconst (pc' := 18) (v := (0 : Int32)) dX10_obey_17 rfl ic_0 ?_
    refine J_istore_n (pc' := 19) (i := 2) (lv' := [(2, .int (0 : Int32)), (0, .ref 35), (1, .int x1)]) dX10_obey_18 rfl rfl (by decide) rfl ?_
    refine J_iconst (pc' := 20) (v := (0 : Int32)) dX10_obey_19 rfl ic_0 ?_
    refine J_istore_n (pc' := 21) (i := 3) (lv' := [(3, .int (0 : Int32)), (2, .int (0 : Int32)), (0, .ref 35), (1, .int x1)]) dX10_obey_20 rfl rfl (by decide) rfl ?_
    refine J_sub [2, 3, 1, 0] (lv' := [(0, .ref 35), (1, .int x1), (2, .int (0 : Int32)), (3, .int (0 : Int32))]) rfl ?_
    refine L_X10_obey_L21 j_fu hs h (fun y26 y27 h => ?_)
    refine J_iload_n (pc' := 101) (i := 2) (n := 0) dX10_obey_100 rfl rfl rfl ?_
    exact J_iret rfl dX10_obey_101 ⟨rfl, Nat.le_refl _⟩ (j_pW h)
  · replace h := j_ip c3 h
    refine J_aload_n (pc' := 11) (i := 0) (n := 0) dX10_obey_10 rfl rfl rfl ?_
    refine J_bipush (pc' := 13) (v := ((-2) : Int32)) dX10_obey_11 rfl bp_m2 ?_
    obtain ⟨q28, e29, h⟩ := bi_inv h
    obtain ⟨c30, h⟩ := j_ck_inv h
    refine J_callV (pc' := 16) (as := [.int ((-2) : Int32)]) (rest := []) dX10_obey_13 rfl lk_X10_84 rfl 10 (by decide) rfl (m_o hs) (m_n hs (Nat.le_of_ble_eq_true rfl)) (c_X10_bad hs e29) ⟨Nat.le_of_ble_eq_true rfl, Nat.le_of_ble_eq_true rfl⟩ (Nat.le_of_ble_eq_true rfl) ⟨Nat.le_of_ble_eq_true rfl, Nat.le_of_ble_eq_true rfl⟩ (j_kq ?_)
    have g31 : sh_m q28.2.2.2 := j_shE c30 hs
    exact J_iret rfl dX10_obey_16 ⟨rfl, Nat.le_refl _⟩ (j_pW h)
abbrev JT_X10_sumAll (l : Launch) (G : j_G) (r : (Int32 × j_M)) : Nat → List (Nat × Value) → List Value → j_M → Prop := JJ l G md_X10_sumAll (j_rm 4 (0, 0)) (0, 0) (0, 0) (po (some (.int r.1)) r.2)
noncomputable def f_X10_sumAll_L4 : Nat → j_M → Int32 → Int32 → (Int32 → Int32 → j_M → Option (Int32 × j_M)) → Option (Int32 × j_M)
  | 0, _, _, _, _ => none
  | n + 1, M, x1, x2, K =>
    (f_X10_many M).bind fun v1 => (if v1 ≤ x2 then (K x1 x2 M) else (a_i M 40 7 x2 fun v4 => ((f_X10_secondsIn M x2 v4).bind fun q6 => j_ck M q6.2 (f_X10_sumAll_L4 n  q6.2 (x1 + q6.1) (x2 + (1 : Int32)) K))))
noncomputable def f_X10_sumAll (M : j_M)  : Option (Int32 × j_M) :=
  f_X10_sumAll_L4 j_fu  M (0 : Int32) (0 : Int32) (fun (y10 : Int32) (y11 : Int32) (M12 : j_M) => (some (y10, M12)))
set_option maxHeartbeats 4000000 in
theorem L_X10_sumAll_L4 {l : Launch} {G : j_G}  {r : (Int32 × j_M)} : ∀ (n : Nat) {x1 : Int32} {x2 : Int32} {M : j_M} (hs : sh_m M.2.2) {K : Int32 → Int32 → j_M → Option (Int32 × j_M)}, f_X10_sumAll_L4 n  M x1 x2 K = some r → (∀ (y1 : Int32) (y2 : Int32) (M1 : j_M), sh_m M1.2.2 → K y1 y2 M1 = some r → JT_X10_sumAll l G r 32 [(1, .int y1)] [] M1) → JT_X10_sumAll l G r 4 [(0, .ref 35), (1, .int x1), (2, .int x2)] [] M := by
  intro n
  induction n with
  | zero =>
    intro x1 x2 M hs K h hK
    rw [f_X10_sumAll_L4] at h; cases h
  | succ n ih =>
    intro x1 x2 M hs K h hK
    rw [f_X10_sumAll_L4] at h
    refine J_iload_n (pc' := 5) (i := 2) (n := 2) dX10_sumAll_4 rfl rfl rfl ?_
    refine J_aload_n (pc' := 6) (i := 0) (n := 0) dX10_sumAll_5 rfl rfl rfl ?_
    obtain ⟨v1, e2, h⟩ := bi_inv h
    refine J_callV (pc' := 9) (as := []) (rest := [.int x2]) dX10_sumAll_6 rfl lk_X10_64 rfl 10 (by decide) rfl (m_o hs) (m_n hs (Nat.le_of_ble_eq_true rfl)) (c_X10_many hs e2) ⟨Nat.le_of_ble_eq_true rfl, Nat.le_of_ble_eq_true rfl⟩ (Nat.le_of_ble_eq_true rfl) ⟨Nat.le_of_ble_eq_true rfl, Nat.le_of_ble_eq_true rfl⟩ (j_kq ?_)
    refine J_icmp_ge (pc' := 12) (tgt := 32) dX10_sumAll_9 rfl (by decide) (fun c3 => ?_) (fun c3 => ?_)
    · replace h := j_ip c3 h
      refine J_sub [1] (lv' := [(1, .int x1)]) rfl ?_
      exact hK x1 x2 M hs h
    · replace h := j_iq c3 h
      refine J_iload_n (pc' := 13) (i := 1) (n := 1) dX10_sumAll_12 rfl rfl rfl ?_
      refine J_aload_n (pc' := 14) (i := 0) (n := 0) dX10_sumAll_13 rfl rfl rfl ?_
      refine J_iload_n (pc' := 15) (i := 2) (n := 2) dX10_sumAll_14 rfl rfl rfl ?_
      refine J_aload_n (pc' := 16) (i := 0) (n := 0) dX10_sumAll_15 rfl rfl rfl ?_
      refine J_getR (pc' := 19) (b := 40) dX10_sumAll_16 rfl fl_X10_27 rfl (m_o hs) (m_n hs (Nat.le_of_ble_eq_true rfl)) (m_r6 hs) ?_
      refine J_iload_n (pc' := 20) (i := 2) (n := 2) dX10_sumAll_19 rfl rfl rfl ?_
      obtain ⟨v4, e5, h⟩ := a_i_inv h
      refine J_ialde (pc' := 21) dX10_sumAll_20 rfl (m_s40 hs) (m_n hs (Nat.le_of_ble_eq_true rfl)) e5 ?_
      obtain ⟨q6, e7, h⟩ := bi_inv h
      obtain ⟨c8, h⟩ := j_ck_inv h
      refine J_callV (pc' := 24) (as := [.int x2, .int v4]) (rest := [.int x1]) dX10_sumAll_21 rfl lk_X10_143 rfl 10 (by decide) rfl (m_o hs) (m_n hs (Nat.le_of_ble_eq_true rfl)) (c_X10_secondsIn hs e7) ⟨Nat.le_of_ble_eq_true rfl, Nat.le_of_ble_eq_true rfl⟩ (Nat.le_of_ble_eq_true rfl) ⟨Nat.le_of_ble_eq_true rfl, Nat.le_of_ble_eq_true rfl⟩ (j_kq ?_)
      have g9 : sh_m q6.2.2.2 := j_shE c8 hs
      refine J_iadd (pc' := 25) dX10_sumAll_24 rfl ?_
      refine J_istore_n (pc' := 26) (i := 1) (lv' := [(1, .int (x1 + q6.1)), (0, .ref 35), (2, .int x2)]) dX10_sumAll_25 rfl rfl (by decide) rfl ?_
      refine J_iinc (pc' := 29) (i := 2) (n := 2) (v := (x2 + (1 : Int32))) (lv' := [(2, .int (x2 + (1 : Int32))), (1, .int (x1 + q6.1)), (0, .ref 35)]) dX10_sumAll_26 rfl rfl (j_inc _ _ rfl _) (by decide) rfl ?_
      refine J_goto (pc' := 4) dX10_sumAll_29 (by decide) ?_
      refine J_sub [2, 1, 0] (lv' := [(0, .ref 35), (1, .int (x1 + q6.1)), (2, .int (x2 + (1 : Int32)))]) rfl ?_
      exact ih g9 h hK
set_option maxHeartbeats 4000000 in
theorem c_X10_sumAll {l : Launch} {G : j_G} {M : j_M}  (hs : sh_m M.2.2) {r : (Int32 × j_M)} (h : f_X10_sumAll M  = some r) : j_Sp l G md_X10_sumAll 4 (0, 0) [.ref 35] M (po (some (.int r.1)) r.2) := by
  refine j_Sp.of (by decide) (Nat.le_of_ble_eq_true rfl) ?_
  show JT_X10_sumAll l G r 0 [(0, .ref 35)] [] M
  unfold f_X10_sumAll at h
  refine J_iconst (pc' := 1) (v := (0 : Int32)) dX10_sumAll_0 rfl ic_0 ?_
  refine J_istore_n (pc' := 2) (i := 1) (lv' := [(1, .int (0 : Int32)), (0, .ref 35)]) dX10_sumAll_1 rfl rfl (by decide) rfl ?_
  refine J_iconst (pc' := 3) (v := (0 : Int32)) dX10_sumAll_2 rfl ic_0 ?_
  refine J_istore_n (pc' := 4) (i := 2) (lv' := [(2, .int (0 : Int32)), (1, .int (0 : Int32)), (0, .ref 35)]) dX10_sumAll_3 rfl rfl (by decide) rfl ?_
  refine J_sub [2, 1, 0] (lv' := [(0, .ref 35), (1, .int (0 : Int32)), (2, .int (0 : Int32))]) rfl ?_
  refine L_X10_sumAll_L4 j_fu hs h (fun y10 y11 M12 g13 h => ?_)
  refine J_iload_n (pc' := 33) (i := 1) (n := 0) dX10_sumAll_32 rfl rfl rfl ?_
  exact J_iret rfl dX10_sumAll_33 ⟨rfl, Nat.le_refl _⟩ (j_pW h)
abbrev JT_X10_layLies (l : Launch) (G : j_G) (r : (Int32 × j_M)) : Nat → List (Nat × Value) → List Value → j_M → Prop := JJ l G md_X10_layLies (j_rm 3 (0, 0)) (0, 0) (0, 0) (po (some (.int r.1)) r.2)
noncomputable def f_X10_layLies_L4 : Nat → j_M → Int32 → Int32 → Int32 → (Int32 → Int32 → j_M → Option (Int32 × j_M)) → Option (Int32 × j_M)
  | 0, _, _, _, _, _ => none
  | n + 1, M, x1, x2, x3, K =>
    (f_X10_many M).bind fun v1 => (if v1 ≤ x3 then (K x2 x3 M) else ((f_X10_many M).bind fun v4 => (w_i M 40 7 x3 ((x1 >>> (((2 : Int32) * ((v4 - (1 : Int32)) - x3)) &&& 31)) &&& (3 : Int32)) fun M6 => (if x2 = 0 then (f_X10_layLies_L4 n  M6 x1 (0 : Int32) (x3 + (1 : Int32)) K) else (a_i M6 40 7 x3 fun v10 => ((f_X10_isOpen M6 v10).bind fun v12 => (if v12 = 0 then (f_X10_layLies_L4 n  M6 x1 (0 : Int32) (x3 + (1 : Int32)) K) else (f_X10_layLies_L4 n  M6 x1 (1 : Int32) (x3 + (1 : Int32)) K))))))))
noncomputable def f_X10_layLies (M : j_M) (x1 : Int32) : Option (Int32 × j_M) :=
  f_X10_layLies_L4 j_fu  M x1 (1 : Int32) (0 : Int32) (fun (y15 : Int32) (y16 : Int32) (M17 : j_M) => (z_b y15 (some (y15, M17))))
set_option maxHeartbeats 4000000 in
theorem L_X10_layLies_L4 {l : Launch} {G : j_G}  {r : (Int32 × j_M)} : ∀ (n : Nat) {x1 : Int32} {x2 : Int32} {x3 : Int32} {M : j_M} (hs : sh_m M.2.2) {K : Int32 → Int32 → j_M → Option (Int32 × j_M)}, f_X10_layLies_L4 n  M x1 x2 x3 K = some r → (∀ (y2 : Int32) (y3 : Int32) (M1 : j_M), sh_m M1.2.2 → K y2 y3 M1 = some r → JT_X10_layLies l G r 61 [(2, .int y2)] [] M1) → JT_X10_layLies l G r 4 [(0, .ref 35), (1, .int x1), (2, .int x2), (3, .int x3)] [] M := by
  intro n
  induction n with
  | zero =>
    intro x1 x2 x3 M hs K h hK
    rw [f_X10_layLies_L4] at h; cases h
  | succ n ih =>
    intro x1 x2 x3 M hs K h hK
    rw [f_X10_layLies_L4] at h
    refine J_iload_n (pc' := 5) (i := 3) (n := 3) dX10_layLies_4 rfl rfl rfl ?_
    refine J_aload_n (pc' := 6) (i := 0) (n := 0) dX10_layLies_5 rfl rfl rfl ?_
    obtain ⟨v1, e2, h⟩ := bi_inv h
    refine J_callV (pc' := 9) (as := []) (rest := [.int x3]) dX10_layLies_6 rfl lk_X10_64 rfl 10 (by decide) rfl (m_o hs) (m_n hs (Nat.le_of_ble_eq_true rfl)) (c_X10_many hs e2) ⟨Nat.le_of_ble_eq_true rfl, Nat.le_of_ble_eq_true rfl⟩ (Nat.le_of_ble_eq_true rfl) ⟨Nat.le_of_ble_eq_true rfl, Nat.le_of_ble_eq_true rfl⟩ (j_kq ?_)
    refine J_icmp_ge (pc' := 12) (tgt := 61) dX10_layLies_9 rfl (by decide) (fun c3 => ?_) (fun c3 => ?_)
    · replace h := j_ip c3 h
      refine J_sub [2] (lv' := [(2, .int x2)]) rfl ?_
      exact hK x2 x3 M hs h
    · replace h := j_iq c3 h
      refine J_aload_n (pc' := 13) (i := 0) (n := 0) dX10_layLies_12 rfl rfl rfl ?_
      refine J_getR (pc' := 16) (b := 40) dX10_layLies_13 rfl fl_X10_27 rfl (m_o hs) (m_n hs (Nat.le_of_ble_eq_true rfl)) (m_r6 hs) ?_
      refine J_iload_n (pc' := 17) (i := 3) (n := 3) dX10_layLies_16 rfl rfl rfl ?_
      refine J_iload_n (pc' := 18) (i := 1) (n := 1) dX10_layLies_17 rfl rfl rfl ?_
      refine J_iconst (pc' := 19) (v := (2 : Int32)) dX10_layLies_18 rfl ic_2 ?_
      refine J_aload_n (pc' := 20) (i := 0) (n := 0) dX10_layLies_19 rfl rfl rfl ?_
      obtain ⟨v4, e5, h⟩ := bi_inv h
      refine J_callV (pc' := 23) (as := []) (rest := [.int (2 : Int32), .int x1, .int x3, .ref 40]) dX10_layLies_20 rfl lk_X10_64 rfl 10 (by decide) rfl (m_o hs) (m_n hs (Nat.le_of_ble_eq_true rfl)) (c_X10_many hs e5) ⟨Nat.le_of_ble_eq_true rfl, Nat.le_of_ble_eq_true rfl⟩ (Nat.le_of_ble_eq_true rfl) ⟨Nat.le_of_ble_eq_true rfl, Nat.le_of_ble_eq_true rfl⟩ (j_kq ?_)
      refine J_iconst (pc' := 24) (v := (1 : Int32)) dX10_layLies_23 rfl ic_1 ?_
      refine J_isub (pc' := 25) dX10_layLies_24 rfl ?_
      refine J_iload_n (pc' := 26) (i := 3) (n := 3) dX10_layLies_25 rfl rfl rfl ?_
      refine J_isub (pc' := 27) dX10_layLies_26 rfl ?_
      refine J_imul (pc' := 28) dX10_layLies_27 rfl ?_
      refine J_ishr (pc' := 29) dX10_layLies_28 rfl ?_
      refine J_iconst (pc' := 30) (v := (3 : Int32)) dX10_layLies_29 rfl ic_3 ?_
      refine J_iand (pc' := 31) dX10_layLies_30 rfl ?_
      obtain ⟨M6, e7, h⟩ := w_i_inv h
      have g8 : sh_m M6.2.2 := j_shI e7.2 hs
      refine J_iaste (pc' := 32) dX10_layLies_31 rfl (m_s40 hs) (m_n hs (Nat.le_of_ble_eq_true rfl)) e7 ?_
      refine J_iload_n (pc' := 33) (i := 2) (n := 2) dX10_layLies_32 rfl rfl rfl ?_
      refine J_if_eq (pc' := 36) (tgt := 53) dX10_layLies_33 rfl (by decide) (fun c9 => ?_) (fun c9 => ?_)
      · replace h := j_ip c9 h
        refine J_iconst (pc' := 54) (v := (0 : Int32)) dX10_layLies_53 rfl ic_0 ?_
        refine J_istore_n (pc' := 55) (i := 2) (lv' := [(2, .int (0 : Int32)), (0, .ref 35), (1, .int x1), (3, .int x3)]) dX10_layLies_54 rfl rfl (by decide) rfl ?_
        refine J_iinc (pc' := 58) (i := 3) (n := 3) (v := (x3 + (1 : Int32))) (lv' := [(3, .int (x3 + (1 : Int32))), (2, .int (0 : Int32)), (0, .ref 35), (1, .int x1)]) dX10_layLies_55 rfl rfl (j_inc _ _ rfl _) (by decide) rfl ?_
        refine J_goto (pc' := 4) dX10_layLies_58 (by decide) ?_
        refine J_sub [2, 3, 1, 0] (lv' := [(0, .ref 35), (1, .int x1), (2, .int (0 : Int32)), (3, .int (x3 + (1 : Int32)))]) rfl ?_
        exact ih g8 h hK
      · replace h := j_iq c9 h
        refine J_aload_n (pc' := 37) (i := 0) (n := 0) dX10_layLies_36 rfl rfl rfl ?_
        refine J_aload_n (pc' := 38) (i := 0) (n := 0) dX10_layLies_37 rfl rfl rfl ?_
        refine J_getR (pc' := 41) (b := 40) dX10_layLies_38 rfl fl_X10_27 rfl (m_o g8) (m_n g8 (Nat.le_of_ble_eq_true rfl)) (m_r6 g8) ?_
        refine J_iload_n (pc' := 42) (i := 3) (n := 3) dX10_layLies_41 rfl rfl rfl ?_
        obtain ⟨v10, e11, h⟩ := a_i_inv h
        refine J_ialde (pc' := 43) dX10_layLies_42 rfl (m_s40 g8) (m_n g8 (Nat.le_of_ble_eq_true rfl)) e11 ?_
        obtain ⟨v12, e13, h⟩ := bi_inv h
        refine J_callV (pc' := 46) (as := [.int v10]) (rest := []) dX10_layLies_43 rfl lk_X10_101 rfl 10 (by decide) rfl (m_o g8) (m_n g8 (Nat.le_of_ble_eq_true rfl)) (c_X10_isOpen g8 e13) ⟨Nat.le_of_ble_eq_true rfl, Nat.le_of_ble_eq_true rfl⟩ (Nat.le_of_ble_eq_true rfl) ⟨Nat.le_of_ble_eq_true rfl, Nat.le_of_ble_eq_true rfl⟩ (j_kq ?_)
        refine J_if_eq (pc' := 49) (tgt := 53) dX10_layLies_46 rfl (by decide) (fun c14 => ?_) (fun c14 => ?_)
        · replace h := j_ip c14 h
          refine J_iconst (pc' := 54) (v := (0 : Int32)) dX10_layLies_53 rfl ic_0 ?_
          refine J_istore_n (pc' := 55) (i := 2) (lv' := [(2, .int (0 : Int32)), (0, .ref 35), (1, .int x1), (3, .int x3)]) dX10_layLies_54 rfl rfl (by decide) rfl ?_
          refine J_iinc (pc' := 58) (i := 3) (n := 3) (v := (x3 + (1 : Int32))) (lv' := [(3, .int (x3 + (1 : Int32))), (2, .int (0 : Int32)), (0, .ref 35), (1, .int x1)]) dX10_layLies_55 rfl rfl (j_inc _ _ rfl _) (by decide) rfl ?_
          refine J_goto (pc' := 4) dX10_layLies_58 (by decide) ?_
          refine J_sub [2, 3, 1, 0] (lv' := [(0, .ref 35), (1, .int x1), (2, .int (0 : Int32)), (3, .int (x3 + (1 : Int32)))]) rfl ?_
          exact ih g8 h hK
        · replace h := j_iq c14 h
          refine J_iconst (pc' := 50) (v := (1 : Int32)) dX10_layLies_49 rfl ic_1 ?_
          refine J_goto (pc' := 54) dX10_layLies_50 (by decide) ?_
          refine J_istore_n (pc' := 55) (i := 2) (lv' := [(2, .int (1 : Int32)), (0, .ref 35), (1, .int x1), (3, .int x3)]) dX10_layLies_54 rfl rfl (by decide) rfl ?_
          refine J_iinc (pc' := 58) (i := 3) (n := 3) (v := (x3 + (1 : Int32))) (lv' := [(3, .int (x3 + (1 : Int32))), (2, .int (1 : Int32)), (0, .ref 35), (1, .int x1)]) dX10_layLies_55 rfl rfl (j_inc _ _ rfl _) (by decide) rfl ?_
          refine J_goto (pc' := 4) dX10_layLies_58 (by decide) ?_
          refine J_sub [2, 3, 1, 0] (lv' := [(0, .ref 35), (1, .int x1), (2, .int (1 : Int32)), (3, .int (x3 + (1 : Int32)))]) rfl ?_
          exact ih g8 h hK
set_option maxHeartbeats 4000000 in
theorem c_X10_layLies {l : Launch} {G : j_G} {M : j_M} {x1 : Int32} (hs : sh_m M.2.2) {r : (Int32 × j_M)} (h : f_X10_layLies M x1 = some r) : j_Sp l G md_X10_layLies 3 (0, 0) [.ref 35, .int x1] M (po (some (.int r.1)) r.2) := by
  refine j_Sp.of (by decide) (Nat.le_of_ble_eq_true rfl) ?_
  show JT_X10_layLies l G r 0 [(0, .ref 35), (1, .int x1)] [] M
  unfold f_X10_layLies at h
  refine J_iconst (pc' := 1) (v := (1 : Int32)) dX10_layLies_0 rfl ic_1 ?_
  refine J_istore_n (pc' := 2) (i := 2) (lv' := [(2, .int (1 : Int32)), (0, .ref 35), (1, .int x1)]) dX10_layLies_1 rfl rfl (by decide) rfl ?_
  refine J_iconst (pc' := 3) (v := (0 : Int32)) dX10_layLies_2 rfl ic_0 ?_
  refine J_istore_n (pc' := 4) (i := 3) (lv' := [(3, .int (0 : Int32)), (2, .int (1 : Int32)), (0, .ref 35), (1, .int x1)]) dX10_layLies_3 rfl rfl (by decide) rfl ?_
  refine J_sub [2, 3, 1, 0] (lv' := [(0, .ref 35), (1, .int x1), (2, .int (1 : Int32)), (3, .int (0 : Int32))]) rfl ?_
  refine L_X10_layLies_L4 j_fu hs h (fun y15 y16 M17 g18 h => ?_)
  refine J_iload_n (pc' := 62) (i := 2) (n := 0) dX10_layLies_61 rfl rfl rfl ?_
  obtain ⟨hz, h⟩ := z_b_inv h
  exact J_zret (ty := .boolean) rfl (j_zb hz) dX10_layLies_62 ⟨rfl, Nat.le_refl _⟩ (j_pW h)
