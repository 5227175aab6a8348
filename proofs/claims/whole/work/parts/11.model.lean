abbrev JT_X10_lane (l : Launch) (G : j_G) (r : (Int32 × j_M)) : Nat → List (Nat × Value) → List Value → j_M → Prop := JJ l G md_X10_lane (j_rm 3 (0, 0)) (0, 0) (0, 0) (po (some (.int r.1)) r.2)
noncomputable def f_X10_lane (M : j_M) (x1 : Int32) (x2 : Int32) : Option (Int32 × j_M) :=
  tl (f_X10_isLane x1) fun v1 => (if v1 = 0 then ((f_X10_bad M ((-2) : Int32)).bind fun q4 => j_ck M q4.2 (some (q4.1, q4.2))) else (tl (f_X10_in (x2).toInt64 (0 : Int64) (2 : Int64)) fun v8 => (if v8 = 0 then ((f_X10_bad M ((-2) : Int32)).bind fun q19 => j_ck M q19.2 (some (q19.1, q19.2))) else (if x2 = 0 then (a_i M 36 250 ((4 : Int32) + x1) fun v17 => (some (v17, M))) else (if x2 = (1 : Int32) then (a_i M 36 250 (8 : Int32) fun v15 => (some (((v15 >>> (x1 &&& 31)) &&& (1 : Int32)), M))) else ((f_X10_whoIsIn M 36 250 x1).bind fun v13 => (some (v13, M))))))))
set_option maxHeartbeats 4000000 in
theorem c_X10_lane {l : Launch} {G : j_G} {M : j_M} {x1 : Int32} {x2 : Int32} (hs : sh_m M.2.2) {r : (Int32 × j_M)} (h : f_X10_lane M x1 x2 = some r) : j_Sp l G md_X10_lane 3 (0, 0) [.ref 35, .int x1, .int x2] M (po (some (.int r.1)) r.2) := by
  refine j_Sp.of (by decide) (Nat.le_of_ble_eq_true rfl) ?_
  show JT_X10_lane l G r 0 [(0, .ref 35), (1, .int x1), (2, .int x2)] [] M
  unfold f_X10_lane at h
  refine J_iload_n (pc' := 1) (i := 1) (n := 1) dX10_lane_0 rfl rfl rfl ?_
  obtain ⟨v1, e2, h⟩ := tl_inv h
  refine J_callS (pc' := 4) (as := [.int x1]) (rest := []) dX10_lane_1 rfl lk_X10_78 rfl (c_X10_isLane e2) ⟨Nat.le_of_ble_eq_true rfl, Nat.le_of_ble_eq_true rfl⟩ (Nat.le_of_ble_eq_true rfl) ⟨Nat.le_of_ble_eq_true rfl, Nat.le_of_ble_eq_true rfl⟩ (j_kq ?_)
  refine J_if_eq (pc' := 7) (tgt := 19) dX10_lane_4 rfl (by decide) (fun c3 => ?_) (fun c3 => ?_)
  · replace h := j_ip c3 h
    refine J_aload_n (pc' := 20) (i := 0) (n := 0) dX10_lane_19 rfl rfl rfl ?_
    refine J_bipush (pc' := 22) (v := ((-2) : Int32)) dX10_lane_20 rfl bp_m2 ?_
    obtain ⟨q4, e5, h⟩ := bi_inv h
    obtain ⟨c6, h⟩ := j_ck_inv h
    refine J_callV (pc' := 25) (as := [.int ((-2) : Int32)]) (rest := []) dX10_lane_22 rfl lk_X10_84 rfl 10 (by decide) rfl (m_o hs) (m_n hs (Nat.le_of_ble_eq_true rfl)) (c_X10_bad hs e5) ⟨Nat.le_of_ble_eq_true rfl, Nat.le_of_ble_eq_true rfl⟩ (Nat.le_of_ble_eq_true rfl) ⟨Nat.le_of_ble_eq_true rfl, Nat.le_of_ble_eq_true rfl⟩ (j_kq ?_)
    have g7 : sh_m q4.2.2.2 := j_shE c6 hs
    exact J_iret rfl dX10_lane_25 ⟨rfl, Nat.le_refl _⟩ (j_pW h)
  · replace h := j_iq c3 h
    refine J_iload_n (pc' := 8) (i := 2) (n := 2) dX10_lane_7 rfl rfl rfl ?_
    refine J_i2l (pc' := 9) dX10_lane_8 rfl ?_
    refine J_lconst (pc' := 10) (v := (0 : Int64)) dX10_lane_9 rfl rfl ?_
    refine J_ldc2 (pc' := 13) (v := (2 : Int64)) dX10_lane_10 rfl wd_997 ?_
    obtain ⟨v8, e9, h⟩ := tl_inv h
    refine J_callS (pc' := 16) (as := [.long (x2).toInt64, .long (0 : Int64), .long (2 : Int64)]) (rest := []) dX10_lane_13 rfl lk_X10_68 rfl (c_X10_in e9) ⟨Nat.le_of_ble_eq_true rfl, Nat.le_of_ble_eq_true rfl⟩ (Nat.le_of_ble_eq_true rfl) ⟨Nat.le_of_ble_eq_true rfl, Nat.le_of_ble_eq_true rfl⟩ (j_kq ?_)
    refine J_if_ne (pc' := 19) (tgt := 26) dX10_lane_16 rfl (by decide) (fun c10 => ?_) (fun c10 => ?_)
    · replace h := j_iq c10 h
      refine J_iload_n (pc' := 27) (i := 2) (n := 2) dX10_lane_26 rfl rfl rfl ?_
      refine J_if_ne (pc' := 30) (tgt := 41) dX10_lane_27 rfl (by decide) (fun c11 => ?_) (fun c11 => ?_)
      · replace h := j_iq c11 h
        refine J_iload_n (pc' := 42) (i := 2) (n := 2) dX10_lane_41 rfl rfl rfl ?_
        refine J_iconst (pc' := 43) (v := (1 : Int32)) dX10_lane_42 rfl ic_1 ?_
        refine J_icmp_ne (pc' := 46) (tgt := 60) dX10_lane_43 rfl (by decide) (fun c12 => ?_) (fun c12 => ?_)
        · replace h := j_iq c12 h
          refine J_aload_n (pc' := 61) (i := 0) (n := 0) dX10_lane_60 rfl rfl rfl ?_
          refine J_getR (pc' := 64) (b := 36) dX10_lane_61 rfl fl_X10_7 rfl (m_o hs) (m_n hs (Nat.le_of_ble_eq_true rfl)) (m_r0 hs) ?_
          refine J_iload_n (pc' := 65) (i := 1) (n := 1) dX10_lane_64 rfl rfl rfl ?_
          obtain ⟨v13, e14, h⟩ := bi_inv h
          refine J_callS (pc' := 68) (as := [.ref 36, .int x1]) (rest := []) dX10_lane_65 rfl lk_X10_88 rfl (c_X10_whoIsIn ⟨(m_s36 hs), (m_n hs (Nat.le_of_ble_eq_true rfl))⟩ e14) ⟨Nat.le_of_ble_eq_true rfl, Nat.le_of_ble_eq_true rfl⟩ (Nat.le_of_ble_eq_true rfl) ⟨Nat.le_of_ble_eq_true rfl, Nat.le_of_ble_eq_true rfl⟩ (j_kq ?_)
          exact J_iret rfl dX10_lane_68 ⟨rfl, Nat.le_refl _⟩ (j_pW h)
        · replace h := j_ip c12 h
          refine J_aload_n (pc' := 47) (i := 0) (n := 0) dX10_lane_46 rfl rfl rfl ?_
          refine J_getR (pc' := 50) (b := 36) dX10_lane_47 rfl fl_X10_7 rfl (m_o hs) (m_n hs (Nat.le_of_ble_eq_true rfl)) (m_r0 hs) ?_
          refine J_bipush (pc' := 52) (v := (8 : Int32)) dX10_lane_50 rfl bp_8 ?_
          obtain ⟨v15, e16, h⟩ := a_i_inv h
          refine J_ialde (pc' := 53) dX10_lane_52 rfl (m_s36 hs) (m_n hs (Nat.le_of_ble_eq_true rfl)) e16 ?_
          refine J_iload_n (pc' := 54) (i := 1) (n := 1) dX10_lane_53 rfl rfl rfl ?_
          refine J_ishr (pc' := 55) dX10_lane_54 rfl ?_
          refine J_iconst (pc' := 56) (v := (1 : Int32)) dX10_lane_55 rfl ic_1 ?_
          refine J_iand (pc' := 57) dX10_lane_56 rfl ?_
          refine J_goto (pc' := 68) dX10_lane_57 (by decide) ?_
          exact J_iret rfl dX10_lane_68 ⟨rfl, Nat.le_refl _⟩ (j_pW h)
      · replace h := j_ip c11 h
        refine J_aload_n (pc' := 31) (i := 0) (n := 0) dX10_lane_30 rfl rfl rfl ?_
        refine J_getR (pc' := 34) (b := 36) dX10_lane_31 rfl fl_X10_7 rfl (m_o hs) (m_n hs (Nat.le_of_ble_eq_true rfl)) (m_r0 hs) ?_
        refine J_iconst (pc' := 35) (v := (4 : Int32)) dX10_lane_34 rfl ic_4 ?_
        refine J_iload_n (pc' := 36) (i := 1) (n := 1) dX10_lane_35 rfl rfl rfl ?_
        refine J_iadd (pc' := 37) dX10_lane_36 rfl ?_
        obtain ⟨v17, e18, h⟩ := a_i_inv h
        refine J_ialde (pc' := 38) dX10_lane_37 rfl (m_s36 hs) (m_n hs (Nat.le_of_ble_eq_true rfl)) e18 ?_
        refine J_goto (pc' := 68) dX10_lane_38 (by decide) ?_
        exact J_iret rfl dX10_lane_68 ⟨rfl, Nat.le_refl _⟩ (j_pW h)
    · replace h := j_ip c10 h
      refine J_aload_n (pc' := 20) (i := 0) (n := 0) dX10_lane_19 rfl rfl rfl ?_
      refine J_bipush (pc' := 22) (v := ((-2) : Int32)) dX10_lane_20 rfl bp_m2 ?_
      obtain ⟨q19, e20, h⟩ := bi_inv h
      obtain ⟨c21, h⟩ := j_ck_inv h
      refine J_callV (pc' := 25) (as := [.int ((-2) : Int32)]) (rest := []) dX10_lane_22 rfl lk_X10_84 rfl 10 (by decide) rfl (m_o hs) (m_n hs (Nat.le_of_ble_eq_true rfl)) (c_X10_bad hs e20) ⟨Nat.le_of_ble_eq_true rfl, Nat.le_of_ble_eq_true rfl⟩ (Nat.le_of_ble_eq_true rfl) ⟨Nat.le_of_ble_eq_true rfl, Nat.le_of_ble_eq_true rfl⟩ (j_kq ?_)
      have g22 : sh_m q19.2.2.2 := j_shE c21 hs
      exact J_iret rfl dX10_lane_25 ⟨rfl, Nat.le_refl _⟩ (j_pW h)
abbrev JT_X10_seconds (l : Launch) (G : j_G) (r : (Int32 × j_M)) : Nat → List (Nat × Value) → List Value → j_M → Prop := JJ l G md_X10_seconds (j_rm 4 (0, 0)) (0, 0) (0, 0) (po (some (.int r.1)) r.2)
noncomputable def f_X10_seconds (M : j_M) (x1 : Int32) (x2 : Int32) (x3 : Int32) : Option (Int32 × j_M) :=
  (f_X10_isOne M x1).bind fun v1 => (if v1 = 0 then ((f_X10_bad M ((-2) : Int32)).bind fun q4 => j_ck M q4.2 (some (q4.1, q4.2))) else (tl (f_X10_isLane x2) fun v8 => (if v8 = 0 then ((f_X10_bad M ((-2) : Int32)).bind fun q11 => j_ck M q11.2 (some (q11.1, q11.2))) else (tl (f_X10_in (x3).toInt64 (0 : Int64) (2 : Int64)) fun v15 => (if v15 = 0 then ((f_X10_bad M ((-2) : Int32)).bind fun q28 => j_ck M q28.2 (some (q28.1, q28.2))) else ((f_X10_layHand M).bind fun q18 => j_ck M q18 ((f_X10_secondsIn q18 x1 x2).bind fun q22 => j_ck q18 q22.2 (if x3 = 0 then (some (q22.1, q22.2)) else (if x3 = (1 : Int32) then (some ((j_I q22.2 35 8), q22.2)) else (some ((j_I q22.2 35 9), q22.2)))))))))))
set_option maxHeartbeats 4000000 in
theorem c_X10_seconds {l : Launch} {G : j_G} {M : j_M} {x1 : Int32} {x2 : Int32} {x3 : Int32} (hs : sh_m M.2.2) {r : (Int32 × j_M)} (h : f_X10_seconds M x1 x2 x3 = some r) : j_Sp l G md_X10_seconds 4 (0, 0) [.ref 35, .int x1, .int x2, .int x3] M (po (some (.int r.1)) r.2) := by
  refine j_Sp.of (by decide) (Nat.le_of_ble_eq_true rfl) ?_
  show JT_X10_seconds l G r 0 [(0, .ref 35), (1, .int x1), (2, .int x2), (3, .int x3)] [] M
  unfold f_X10_seconds at h
  refine J_aload_n (pc' := 1) (i := 0) (n := 0) dX10_seconds_0 rfl rfl rfl ?_
  refine J_iload_n (pc' := 2) (i := 1) (n := 1) dX10_seconds_1 rfl rfl rfl ?_
  obtain ⟨v1, e2, h⟩ := bi_inv h
  refine J_callV (pc' := 5) (as := [.int x1]) (rest := []) dX10_seconds_2 rfl lk_X10_132 rfl 10 (by decide) rfl (m_o hs) (m_n hs (Nat.le_of_ble_eq_true rfl)) (c_X10_isOne hs e2) ⟨Nat.le_of_ble_eq_true rfl, Nat.le_of_ble_eq_true rfl⟩ (Nat.le_of_ble_eq_true rfl) ⟨Nat.le_of_ble_eq_true rfl, Nat.le_of_ble_eq_true rfl⟩ (j_kq ?_)
  refine J_if_eq (pc' := 8) (tgt := 27) dX10_seconds_5 rfl (by decide) (fun c3 => ?_) (fun c3 => ?_)
  · replace h := j_ip c3 h
    refine J_aload_n (pc' := 28) (i := 0) (n := 0) dX10_seconds_27 rfl rfl rfl ?_
    refine J_bipush (pc' := 30) (v := ((-2) : Int32)) dX10_seconds_28 rfl bp_m2 ?_
    obtain ⟨q4, e5, h⟩ := bi_inv h
    obtain ⟨c6, h⟩ := j_ck_inv h
    refine J_callV (pc' := 33) (as := [.int ((-2) : Int32)]) (rest := []) dX10_seconds_30 rfl lk_X10_84 rfl 10 (by decide) rfl (m_o hs) (m_n hs (Nat.le_of_ble_eq_true rfl)) (c_X10_bad hs e5) ⟨Nat.le_of_ble_eq_true rfl, Nat.le_of_ble_eq_true rfl⟩ (Nat.le_of_ble_eq_true rfl) ⟨Nat.le_of_ble_eq_true rfl, Nat.le_of_ble_eq_true rfl⟩ (j_kq ?_)
    have g7 : sh_m q4.2.2.2 := j_shE c6 hs
    exact J_iret rfl dX10_seconds_33 ⟨rfl, Nat.le_refl _⟩ (j_pW h)
  · replace h := j_iq c3 h
    refine J_iload_n (pc' := 9) (i := 2) (n := 2) dX10_seconds_8 rfl rfl rfl ?_
    obtain ⟨v8, e9, h⟩ := tl_inv h
    refine J_callS (pc' := 12) (as := [.int x2]) (rest := []) dX10_seconds_9 rfl lk_X10_78 rfl (c_X10_isLane e9) ⟨Nat.le_of_ble_eq_true rfl, Nat.le_of_ble_eq_true rfl⟩ (Nat.le_of_ble_eq_true rfl) ⟨Nat.le_of_ble_eq_true rfl, Nat.le_of_ble_eq_true rfl⟩ (j_kq ?_)
    refine J_if_eq (pc' := 15) (tgt := 27) dX10_seconds_12 rfl (by decide) (fun c10 => ?_) (fun c10 => ?_)
    · replace h := j_ip c10 h
      refine J_aload_n (pc' := 28) (i := 0) (n := 0) dX10_seconds_27 rfl rfl rfl ?_
      refine J_bipush (pc' := 30) (v := ((-2) : Int32)) dX10_seconds_28 rfl bp_m2 ?_
      obtain ⟨q11, e12, h⟩ := bi_inv h
      obtain ⟨c13, h⟩ := j_ck_inv h
      refine J_callV (pc' := 33) (as := [.int ((-2) : Int32)]) (rest := []) dX10_seconds_30 rfl lk_X10_84 rfl 10 (by decide) rfl (m_o hs) (m_n hs (Nat.le_of_ble_eq_true rfl)) (c_X10_bad hs e12) ⟨Nat.le_of_ble_eq_true rfl, Nat.le_of_ble_eq_true rfl⟩ (Nat.le_of_ble_eq_true rfl) ⟨Nat.le_of_ble_eq_true rfl, Nat.le_of_ble_eq_true rfl⟩ (j_kq ?_)
      have g14 : sh_m q11.2.2.2 := j_shE c13 hs
      exact J_iret rfl dX10_seconds_33 ⟨rfl, Nat.le_refl _⟩ (j_pW h)
    · replace h := j_iq c10 h
      refine J_iload_n (pc' := 16) (i := 3) (n := 3) dX10_seconds_15 rfl rfl rfl ?_
      refine J_i2l (pc' := 17) dX10_seconds_16 rfl ?_
      refine J_lconst (pc' := 18) (v := (0 : Int64)) dX10_seconds_17 rfl rfl ?_
      refine J_ldc2 (pc' := 21) (v := (2 : Int64)) dX10_seconds_18 rfl wd_997 ?_
      obtain ⟨v15, e16, h⟩ := tl_inv h
      refine J_callS (pc' := 24) (as := [.long (x3).toInt64, .long (0 : Int64), .long (2 : Int64)]) (rest := []) dX10_seconds_21 rfl lk_X10_68 rfl (c_X10_in e16) ⟨Nat.le_of_ble_eq_true rfl, Nat.le_of_ble_eq_true rfl⟩ (Nat.le_of_ble_eq_true rfl) ⟨Nat.le_of_ble_eq_true rfl, Nat.le_of_ble_eq_true rfl⟩ (j_kq ?_)
      refine J_if_ne (pc' := 27) (tgt := 34) dX10_seconds_24 rfl (by decide) (fun c17 => ?_) (fun c17 => ?_)
      · replace h := j_iq c17 h
        refine J_aload_n (pc' := 35) (i := 0) (n := 0) dX10_seconds_34 rfl rfl rfl ?_
        obtain ⟨q18, e19, h⟩ := bi_inv h
        obtain ⟨c20, h⟩ := j_ck_inv h
        refine J_callV (pc' := 38) (as := []) (rest := []) dX10_seconds_35 rfl lk_X10_140 rfl 10 (by decide) rfl (m_o hs) (m_n hs (Nat.le_of_ble_eq_true rfl)) (c_X10_layHand hs e19) ⟨Nat.le_of_ble_eq_true rfl, Nat.le_of_ble_eq_true rfl⟩ (Nat.le_of_ble_eq_true rfl) ⟨Nat.le_of_ble_eq_true rfl, Nat.le_of_ble_eq_true rfl⟩ (j_kv ?_)
        have g21 : sh_m q18.2.2 := j_shE c20 hs
        refine J_aload_n (pc' := 39) (i := 0) (n := 0) dX10_seconds_38 rfl rfl rfl ?_
        refine J_iload_n (pc' := 40) (i := 1) (n := 1) dX10_seconds_39 rfl rfl rfl ?_
        refine J_iload_n (pc' := 41) (i := 2) (n := 2) dX10_seconds_40 rfl rfl rfl ?_
        obtain ⟨q22, e23, h⟩ := bi_inv h
        obtain ⟨c24, h⟩ := j_ck_inv h
        refine J_callV (pc' := 44) (as := [.int x1, .int x2]) (rest := []) dX10_seconds_41 rfl lk_X10_143 rfl 10 (by decide) rfl (m_o g21) (m_n g21 (Nat.le_of_ble_eq_true rfl)) (c_X10_secondsIn g21 e23) ⟨Nat.le_of_ble_eq_true rfl, Nat.le_of_ble_eq_true rfl⟩ (Nat.le_of_ble_eq_true rfl) ⟨Nat.le_of_ble_eq_true rfl, Nat.le_of_ble_eq_true rfl⟩ (j_kq ?_)
        have g25 : sh_m q22.2.2.2 := j_shE c24 g21
        refine J_istore (pc' := 46) (i := 4) (lv' := [(4, .int q22.1), (0, .ref 35), (1, .int x1), (2, .int x2), (3, .int x3)]) dX10_seconds_44 rfl (by decide) rfl ?_
        refine J_iload_n (pc' := 47) (i := 3) (n := 4) dX10_seconds_46 rfl rfl rfl ?_
        refine J_if_ne (pc' := 50) (tgt := 55) dX10_seconds_47 rfl (by decide) (fun c26 => ?_) (fun c26 => ?_)
        · replace h := j_iq c26 h
          refine J_iload_n (pc' := 56) (i := 3) (n := 4) dX10_seconds_55 rfl rfl rfl ?_
          refine J_iconst (pc' := 57) (v := (1 : Int32)) dX10_seconds_56 rfl ic_1 ?_
          refine J_icmp_ne (pc' := 60) (tgt := 67) dX10_seconds_57 rfl (by decide) (fun c27 => ?_) (fun c27 => ?_)
          · replace h := j_iq c27 h
            refine J_aload_n (pc' := 68) (i := 0) (n := 1) dX10_seconds_67 rfl rfl rfl ?_
            refine J_getI (pc' := 71) dX10_seconds_68 rfl fl_X10_118 rfl (m_o g25) (m_n g25 (Nat.le_of_ble_eq_true rfl)) ?_
            exact J_iret rfl dX10_seconds_71 ⟨rfl, Nat.le_refl _⟩ (j_pW h)
          · replace h := j_ip c27 h
            refine J_aload_n (pc' := 61) (i := 0) (n := 1) dX10_seconds_60 rfl rfl rfl ?_
            refine J_getI (pc' := 64) dX10_seconds_61 rfl fl_X10_115 rfl (m_o g25) (m_n g25 (Nat.le_of_ble_eq_true rfl)) ?_
            refine J_goto (pc' := 71) dX10_seconds_64 (by decide) ?_
            exact J_iret rfl dX10_seconds_71 ⟨rfl, Nat.le_refl _⟩ (j_pW h)
        · replace h := j_ip c26 h
          refine J_iload (pc' := 52) (i := 4) (n := 0) dX10_seconds_50 rfl rfl ?_
          refine J_goto (pc' := 71) dX10_seconds_52 (by decide) ?_
          exact J_iret rfl dX10_seconds_71 ⟨rfl, Nat.le_refl _⟩ (j_pW h)
      · replace h := j_ip c17 h
        refine J_aload_n (pc' := 28) (i := 0) (n := 0) dX10_seconds_27 rfl rfl rfl ?_
        refine J_bipush (pc' := 30) (v := ((-2) : Int32)) dX10_seconds_28 rfl bp_m2 ?_
        obtain ⟨q28, e29, h⟩ := bi_inv h
        obtain ⟨c30, h⟩ := j_ck_inv h
        refine J_callV (pc' := 33) (as := [.int ((-2) : Int32)]) (rest := []) dX10_seconds_30 rfl lk_X10_84 rfl 10 (by decide) rfl (m_o hs) (m_n hs (Nat.le_of_ble_eq_true rfl)) (c_X10_bad hs e29) ⟨Nat.le_of_ble_eq_true rfl, Nat.le_of_ble_eq_true rfl⟩ (Nat.le_of_ble_eq_true rfl) ⟨Nat.le_of_ble_eq_true rfl, Nat.le_of_ble_eq_true rfl⟩ (j_kq ?_)
        have g31 : sh_m q28.2.2.2 := j_shE c30 hs
        exact J_iret rfl dX10_seconds_33 ⟨rfl, Nat.le_refl _⟩ (j_pW h)
abbrev JT_X10_lengths (l : Launch) (G : j_G) (r : (Int32 × j_M)) : Nat → List (Nat × Value) → List Value → j_M → Prop := JJ l G md_X10_lengths (j_rm 4 (0, 0)) (0, 0) (0, 0) (po (some (.int r.1)) r.2)
noncomputable def f_X10_lengths (M : j_M) (x1 : Int32) (x2 : Int32) : Option (Int32 × j_M) :=
  (f_X10_isOne M x1).bind fun v1 => (if v1 = 0 then ((f_X10_bad M ((-2) : Int32)).bind fun q4 => j_ck M q4.2 (some (q4.1, q4.2))) else (tl (f_X10_in (x2).toInt64 (0 : Int64) (60 : Int64)) fun v8 => (if v8 = 0 then ((f_X10_bad M ((-2) : Int32)).bind fun q28 => j_ck M q28.2 (some (q28.1, q28.2))) else ((f_X10_layHand M).bind fun q11 => j_ck M q11 (a_i q11 36 250 ((23 : Int32) + x1) fun v15 => (a_i q11 40 7 x1 fun v17 => ((f_X10_secondsIn q11 x1 v17).bind fun q19 => j_ck q11 q19.2 (d_i (v15 + ((60 : Int32) * x2)) q19.1 fun v23 => (a_i q19.2 36 250 ((16 : Int32) + x1) fun v25 => (if x2 = 0 then (some ((v25 + (0 : Int32)), q19.2)) else (some ((v25 + v23), q19.2))))))))))))
set_option maxHeartbeats 4000000 in
theorem c_X10_lengths {l : Launch} {G : j_G} {M : j_M} {x1 : Int32} {x2 : Int32} (hs : sh_m M.2.2) {r : (Int32 × j_M)} (h : f_X10_lengths M x1 x2 = some r) : j_Sp l G md_X10_lengths 4 (0, 0) [.ref 35, .int x1, .int x2] M (po (some (.int r.1)) r.2) := by
  refine j_Sp.of (by decide) (Nat.le_of_ble_eq_true rfl) ?_
  show JT_X10_lengths l G r 0 [(0, .ref 35), (1, .int x1), (2, .int x2)] [] M
  unfold f_X10_lengths at h
  refine J_aload_n (pc' := 1) (i := 0) (n := 0) dX10_lengths_0 rfl rfl rfl ?_
  refine J_iload_n (pc' := 2) (i := 1) (n := 1) dX10_lengths_1 rfl rfl rfl ?_
  obtain ⟨v1, e2, h⟩ := bi_inv h
  refine J_callV (pc' := 5) (as := [.int x1]) (rest := []) dX10_lengths_2 rfl lk_X10_132 rfl 10 (by decide) rfl (m_o hs) (m_n hs (Nat.le_of_ble_eq_true rfl)) (c_X10_isOne hs e2) ⟨Nat.le_of_ble_eq_true rfl, Nat.le_of_ble_eq_true rfl⟩ (Nat.le_of_ble_eq_true rfl) ⟨Nat.le_of_ble_eq_true rfl, Nat.le_of_ble_eq_true rfl⟩ (j_kq ?_)
  refine J_if_eq (pc' := 8) (tgt := 20) dX10_lengths_5 rfl (by decide) (fun c3 => ?_) (fun c3 => ?_)
  · replace h := j_ip c3 h
    refine J_aload_n (pc' := 21) (i := 0) (n := 0) dX10_lengths_20 rfl rfl rfl ?_
    refine J_bipush (pc' := 23) (v := ((-2) : Int32)) dX10_lengths_21 rfl bp_m2 ?_
    obtain ⟨q4, e5, h⟩ := bi_inv h
    obtain ⟨c6, h⟩ := j_ck_inv h
    refine J_callV (pc' := 26) (as := [.int ((-2) : Int32)]) (rest := []) dX10_lengths_23 rfl lk_X10_84 rfl 10 (by decide) rfl (m_o hs) (m_n hs (Nat.le_of_ble_eq_true rfl)) (c_X10_bad hs e5) ⟨Nat.le_of_ble_eq_true rfl, Nat.le_of_ble_eq_true rfl⟩ (Nat.le_of_ble_eq_true rfl) ⟨Nat.le_of_ble_eq_true rfl, Nat.le_of_ble_eq_true rfl⟩ (j_kq ?_)
    have g7 : sh_m q4.2.2.2 := j_shE c6 hs
    exact J_iret rfl dX10_lengths_26 ⟨rfl, Nat.le_refl _⟩ (j_pW h)
  · replace h := j_iq c3 h
    refine J_iload_n (pc' := 9) (i := 2) (n := 2) dX10_lengths_8 rfl rfl rfl ?_
    refine J_i2l (pc' := 10) dX10_lengths_9 rfl ?_
    refine J_lconst (pc' := 11) (v := (0 : Int64)) dX10_lengths_10 rfl rfl ?_
    refine J_ldc2 (pc' := 14) (v := (60 : Int64)) dX10_lengths_11 rfl wd_1050 ?_
    obtain ⟨v8, e9, h⟩ := tl_inv h
    refine J_callS (pc' := 17) (as := [.long (x2).toInt64, .long (0 : Int64), .long (60 : Int64)]) (rest := []) dX10_lengths_14 rfl lk_X10_68 rfl (c_X10_in e9) ⟨Nat.le_of_ble_eq_true rfl, Nat.le_of_ble_eq_true rfl⟩ (Nat.le_of_ble_eq_true rfl) ⟨Nat.le_of_ble_eq_true rfl, Nat.le_of_ble_eq_true rfl⟩ (j_kq ?_)
    refine J_if_ne (pc' := 20) (tgt := 27) dX10_lengths_17 rfl (by decide) (fun c10 => ?_) (fun c10 => ?_)
    · replace h := j_iq c10 h
      refine J_aload_n (pc' := 28) (i := 0) (n := 0) dX10_lengths_27 rfl rfl rfl ?_
      obtain ⟨q11, e12, h⟩ := bi_inv h
      obtain ⟨c13, h⟩ := j_ck_inv h
      refine J_callV (pc' := 31) (as := []) (rest := []) dX10_lengths_28 rfl lk_X10_140 rfl 10 (by decide) rfl (m_o hs) (m_n hs (Nat.le_of_ble_eq_true rfl)) (c_X10_layHand hs e12) ⟨Nat.le_of_ble_eq_true rfl, Nat.le_of_ble_eq_true rfl⟩ (Nat.le_of_ble_eq_true rfl) ⟨Nat.le_of_ble_eq_true rfl, Nat.le_of_ble_eq_true rfl⟩ (j_kv ?_)
      have g14 : sh_m q11.2.2 := j_shE c13 hs
      refine J_aload_n (pc' := 32) (i := 0) (n := 0) dX10_lengths_31 rfl rfl rfl ?_
      refine J_getR (pc' := 35) (b := 36) dX10_lengths_32 rfl fl_X10_7 rfl (m_o g14) (m_n g14 (Nat.le_of_ble_eq_true rfl)) (m_r0 g14) ?_
      refine J_bipush (pc' := 37) (v := (23 : Int32)) dX10_lengths_35 rfl bp_23 ?_
      refine J_iload_n (pc' := 38) (i := 1) (n := 1) dX10_lengths_37 rfl rfl rfl ?_
      refine J_iadd (pc' := 39) dX10_lengths_38 rfl ?_
      obtain ⟨v15, e16, h⟩ := a_i_inv h
      refine J_ialde (pc' := 40) dX10_lengths_39 rfl (m_s36 g14) (m_n g14 (Nat.le_of_ble_eq_true rfl)) e16 ?_
      refine J_bipush (pc' := 42) (v := (60 : Int32)) dX10_lengths_40 rfl bp_60 ?_
      refine J_iload_n (pc' := 43) (i := 2) (n := 2) dX10_lengths_42 rfl rfl rfl ?_
      refine J_imul (pc' := 44) dX10_lengths_43 rfl ?_
      refine J_iadd (pc' := 45) dX10_lengths_44 rfl ?_
      refine J_aload_n (pc' := 46) (i := 0) (n := 0) dX10_lengths_45 rfl rfl rfl ?_
      refine J_iload_n (pc' := 47) (i := 1) (n := 1) dX10_lengths_46 rfl rfl rfl ?_
      refine J_aload_n (pc' := 48) (i := 0) (n := 0) dX10_lengths_47 rfl rfl rfl ?_
      refine J_getR (pc' := 51) (b := 40) dX10_lengths_48 rfl fl_X10_27 rfl (m_o g14) (m_n g14 (Nat.le_of_ble_eq_true rfl)) (m_r6 g14) ?_
      refine J_iload_n (pc' := 52) (i := 1) (n := 1) dX10_lengths_51 rfl rfl rfl ?_
      obtain ⟨v17, e18, h⟩ := a_i_inv h
      refine J_ialde (pc' := 53) dX10_lengths_52 rfl (m_s40 g14) (m_n g14 (Nat.le_of_ble_eq_true rfl)) e18 ?_
      obtain ⟨q19, e20, h⟩ := bi_inv h
      obtain ⟨c21, h⟩ := j_ck_inv h
      refine J_callV (pc' := 56) (as := [.int x1, .int v17]) (rest := [.int (v15 + ((60 : Int32) * x2))]) dX10_lengths_53 rfl lk_X10_143 rfl 10 (by decide) rfl (m_o g14) (m_n g14 (Nat.le_of_ble_eq_true rfl)) (c_X10_secondsIn g14 e20) ⟨Nat.le_of_ble_eq_true rfl, Nat.le_of_ble_eq_true rfl⟩ (Nat.le_of_ble_eq_true rfl) ⟨Nat.le_of_ble_eq_true rfl, Nat.le_of_ble_eq_true rfl⟩ (j_kq ?_)
      have g22 : sh_m q19.2.2.2 := j_shE c21 g14
      obtain ⟨v23, e24, h⟩ := d_i_inv h
      refine J_dive (pc' := 57) dX10_lengths_56 rfl e24 ?_
      refine J_istore_n (pc' := 58) (i := 3) (lv' := [(3, .int v23), (0, .ref 35), (1, .int x1), (2, .int x2)]) dX10_lengths_57 rfl rfl (by decide) rfl ?_
      refine J_aload_n (pc' := 59) (i := 0) (n := 1) dX10_lengths_58 rfl rfl rfl ?_
      refine J_getR (pc' := 62) (b := 36) dX10_lengths_59 rfl fl_X10_7 rfl (m_o g22) (m_n g22 (Nat.le_of_ble_eq_true rfl)) (m_r0 g22) ?_
      refine J_bipush (pc' := 64) (v := (16 : Int32)) dX10_lengths_62 rfl bp_16 ?_
      refine J_iload_n (pc' := 65) (i := 1) (n := 2) dX10_lengths_64 rfl rfl rfl ?_
      refine J_iadd (pc' := 66) dX10_lengths_65 rfl ?_
      obtain ⟨v25, e26, h⟩ := a_i_inv h
      refine J_ialde (pc' := 67) dX10_lengths_66 rfl (m_s36 g22) (m_n g22 (Nat.le_of_ble_eq_true rfl)) e26 ?_
      refine J_iload_n (pc' := 68) (i := 2) (n := 3) dX10_lengths_67 rfl rfl rfl ?_
      refine J_if_ne (pc' := 71) (tgt := 75) dX10_lengths_68 rfl (by decide) (fun c27 => ?_) (fun c27 => ?_)
      · replace h := j_iq c27 h
        refine J_iload_n (pc' := 76) (i := 3) (n := 0) dX10_lengths_75 rfl rfl rfl ?_
        refine J_iadd (pc' := 77) dX10_lengths_76 rfl ?_
        exact J_iret rfl dX10_lengths_77 ⟨rfl, Nat.le_refl _⟩ (j_pW h)
      · replace h := j_ip c27 h
        refine J_iconst (pc' := 72) (v := (0 : Int32)) dX10_lengths_71 rfl ic_0 ?_
        refine J_goto (pc' := 76) dX10_lengths_72 (by decide) ?_
        refine J_iadd (pc' := 77) dX10_lengths_76 rfl ?_
        exact J_iret rfl dX10_lengths_77 ⟨rfl, Nat.le_refl _⟩ (j_pW h)
    · replace h := j_ip c10 h
      refine J_aload_n (pc' := 21) (i := 0) (n := 0) dX10_lengths_20 rfl rfl rfl ?_
      refine J_bipush (pc' := 23) (v := ((-2) : Int32)) dX10_lengths_21 rfl bp_m2 ?_
      obtain ⟨q28, e29, h⟩ := bi_inv h
      obtain ⟨c30, h⟩ := j_ck_inv h
      refine J_callV (pc' := 26) (as := [.int ((-2) : Int32)]) (rest := []) dX10_lengths_23 rfl lk_X10_84 rfl 10 (by decide) rfl (m_o hs) (m_n hs (Nat.le_of_ble_eq_true rfl)) (c_X10_bad hs e29) ⟨Nat.le_of_ble_eq_true rfl, Nat.le_of_ble_eq_true rfl⟩ (Nat.le_of_ble_eq_true rfl) ⟨Nat.le_of_ble_eq_true rfl, Nat.le_of_ble_eq_true rfl⟩ (j_kq ?_)
      have g31 : sh_m q28.2.2.2 := j_shE c30 hs
      exact J_iret rfl dX10_lengths_26 ⟨rfl, Nat.le_refl _⟩ (j_pW h)
abbrev JT_X10_bestOf (l : Launch) (G : j_G) (r : (Int32 × j_M)) : Nat → List (Nat × Value) → List Value → j_M → Prop := JJ l G md_X10_bestOf (j_rm 4 (0, 0)) (0, 0) (0, 0) (po (some (.int r.1)) r.2)
noncomputable def f_X10_bestOf_L8 : Nat → j_M → Int32 → Int32 → Int32 → Int32 → (Int32 → Int32 → Int32 → j_M → Option (Int32 × j_M)) → Option (Int32 × j_M)
  | 0, _, _, _, _, _, _ => none
  | n + 1, M, x1, x2, x3, x4, K =>
    if (4 : Int32) ≤ x4 then (K x2 x3 x4 M) else ((f_X10_isOpen M x4).bind fun v2 => (jn2 (fun (v5 : Int32) (M6 : j_M) => (jn (fun (v11 : Int32) => (if x3 ≤ v5 then (f_X10_bestOf_L8 n  M6 x1 v11 x3 (x4 + (1 : Int32)) K) else (f_X10_bestOf_L8 n  M6 x1 v11 v5 (x4 + (1 : Int32)) K))) (fun K12 => (if x3 ≤ v5 then (K12 x2) else (K12 x4))))) (fun K7 => (if v2 = 0 then (K7 (1000000 : Int32) M) else ((f_X10_secondsIn M x1 x4).bind fun q15 => j_ck M q15.2 (K7 q15.1 q15.2))))))
noncomputable def f_X10_bestOf (M : j_M) (x1 : Int32) : Option (Int32 × j_M) :=
  f_X10_bestOf_L8 j_fu  M x1 ((-1) : Int32) (1000000 : Int32) (0 : Int32) (fun (y19 : Int32) (y20 : Int32) (y21 : Int32) (M22 : j_M) => (some (y19, M22)))
set_option maxHeartbeats 4000000 in
theorem L_X10_bestOf_L8 {l : Launch} {G : j_G}  {r : (Int32 × j_M)} : ∀ (n : Nat) {x1 : Int32} {x2 : Int32} {x3 : Int32} {x4 : Int32} {M : j_M} (hs : sh_m M.2.2) {K : Int32 → Int32 → Int32 → j_M → Option (Int32 × j_M)}, f_X10_bestOf_L8 n  M x1 x2 x3 x4 K = some r → (∀ (y2 : Int32) (y3 : Int32) (y4 : Int32) (M1 : j_M), sh_m M1.2.2 → K y2 y3 y4 M1 = some r → JT_X10_bestOf l G r 69 [(2, .int y2)] [] M1) → JT_X10_bestOf l G r 8 [(0, .ref 35), (1, .int x1), (2, .int x2), (3, .int x3), (4, .int x4)] [] M := by
  intro n
  induction n with
  | zero =>
    intro x1 x2 x3 x4 M hs K h hK
    rw [f_X10_bestOf_L8] at h; cases h
  | succ n ih =>
    intro x1 x2 x3 x4 M hs K h hK
    rw [f_X10_bestOf_L8] at h
    refine J_iload (pc' := 10) (i := 4) (n := 4) dX10_bestOf_8 rfl rfl ?_
    refine J_iconst (pc' := 11) (v := (4 : Int32)) dX10_bestOf_10 rfl ic_4 ?_
    refine J_icmp_ge (pc' := 14) (tgt := 69) dX10_bestOf_11 rfl (by decide) (fun c1 => ?_) (fun c1 => ?_)
    · replace h := j_ip c1 h
      refine J_sub [2] (lv' := [(2, .int x2)]) rfl ?_
      exact hK x2 x3 x4 M hs h
    · replace h := j_iq c1 h
      refine J_aload_n (pc' := 15) (i := 0) (n := 0) dX10_bestOf_14 rfl rfl rfl ?_
      refine J_iload (pc' := 17) (i := 4) (n := 4) dX10_bestOf_15 rfl rfl ?_
      obtain ⟨v2, e3, h⟩ := bi_inv h
      refine J_callV (pc' := 20) (as := [.int x4]) (rest := []) dX10_bestOf_17 rfl lk_X10_101 rfl 10 (by decide) rfl (m_o hs) (m_n hs (Nat.le_of_ble_eq_true rfl)) (c_X10_isOpen hs e3) ⟨Nat.le_of_ble_eq_true rfl, Nat.le_of_ble_eq_true rfl⟩ (Nat.le_of_ble_eq_true rfl) ⟨Nat.le_of_ble_eq_true rfl, Nat.le_of_ble_eq_true rfl⟩ (j_kq ?_)
      refine J_join2 (C := fun (v5 : Int32) (M6 : j_M) => sh_m M6.2.2 → JT_X10_bestOf l G r 35 [(0, .ref 35), (1, .int x1), (2, .int x2), (3, .int x3), (4, .int x4)] [.int v5] M6) h (fun v5 M6 h => ?_) (fun K7 h8 h => ?_)
      · intro g9
        refine J_istore (pc' := 37) (i := 5) (lv' := [(5, .int v5), (0, .ref 35), (1, .int x1), (2, .int x2), (3, .int x3), (4, .int x4)]) dX10_bestOf_35 rfl (by decide) rfl ?_
        refine J_iload (pc' := 39) (i := 5) (n := 0) dX10_bestOf_37 rfl rfl ?_
        refine J_iload_n (pc' := 40) (i := 3) (n := 4) dX10_bestOf_39 rfl rfl rfl ?_
        refine J_join (C := fun (v11 : Int32) => JT_X10_bestOf l G r 49 [(0, .ref 35), (1, .int x1), (3, .int x3), (4, .int x4), (5, .int v5)] [.int v11] M6) h (fun v11 h => ?_) (fun K12 h13 h => ?_)
        · refine J_istore_n (pc' := 50) (i := 2) (lv' := [(2, .int v11), (0, .ref 35), (1, .int x1), (3, .int x3), (4, .int x4), (5, .int v5)]) dX10_bestOf_49 rfl rfl (by decide) rfl ?_
          refine J_iload (pc' := 52) (i := 5) (n := 5) dX10_bestOf_50 rfl rfl ?_
          refine J_iload_n (pc' := 53) (i := 3) (n := 3) dX10_bestOf_52 rfl rfl rfl ?_
          refine J_icmp_ge (pc' := 56) (tgt := 61) dX10_bestOf_53 rfl (by decide) (fun c14 => ?_) (fun c14 => ?_)
          · replace h := j_ip c14 h
            refine J_iload_n (pc' := 62) (i := 3) (n := 3) dX10_bestOf_61 rfl rfl rfl ?_
            refine J_istore_n (pc' := 63) (i := 3) (lv' := [(3, .int x3), (2, .int v11), (0, .ref 35), (1, .int x1), (4, .int x4), (5, .int v5)]) dX10_bestOf_62 rfl rfl (by decide) rfl ?_
            refine J_iinc (pc' := 66) (i := 4) (n := 4) (v := (x4 + (1 : Int32))) (lv' := [(4, .int (x4 + (1 : Int32))), (3, .int x3), (2, .int v11), (0, .ref 35), (1, .int x1), (5, .int v5)]) dX10_bestOf_63 rfl rfl (j_inc _ _ rfl _) (by decide) rfl ?_
            refine J_goto (pc' := 8) dX10_bestOf_66 (by decide) ?_
            refine J_sub [3, 4, 2, 1, 0] (lv' := [(0, .ref 35), (1, .int x1), (2, .int v11), (3, .int x3), (4, .int (x4 + (1 : Int32)))]) rfl ?_
            exact ih g9 h hK
          · replace h := j_iq c14 h
            refine J_iload (pc' := 58) (i := 5) (n := 5) dX10_bestOf_56 rfl rfl ?_
            refine J_goto (pc' := 62) dX10_bestOf_58 (by decide) ?_
            refine J_istore_n (pc' := 63) (i := 3) (lv' := [(3, .int v5), (2, .int v11), (0, .ref 35), (1, .int x1), (4, .int x4), (5, .int v5)]) dX10_bestOf_62 rfl rfl (by decide) rfl ?_
            refine J_iinc (pc' := 66) (i := 4) (n := 4) (v := (x4 + (1 : Int32))) (lv' := [(4, .int (x4 + (1 : Int32))), (3, .int v5), (2, .int v11), (0, .ref 35), (1, .int x1), (5, .int v5)]) dX10_bestOf_63 rfl rfl (j_inc _ _ rfl _) (by decide) rfl ?_
            refine J_goto (pc' := 8) dX10_bestOf_66 (by decide) ?_
            refine J_sub [3, 4, 2, 1, 0] (lv' := [(0, .ref 35), (1, .int x1), (2, .int v11), (3, .int v5), (4, .int (x4 + (1 : Int32)))]) rfl ?_
            exact ih g9 h hK
        · refine J_icmp_ge (pc' := 43) (tgt := 48) dX10_bestOf_40 rfl (by decide) (fun c10 => ?_) (fun c10 => ?_)
          · replace h := j_ip c10 h
            refine J_iload_n (pc' := 49) (i := 2) (n := 3) dX10_bestOf_48 rfl rfl rfl ?_
            refine J_sub [1, 2, 4, 5, 0] (lv' := [(0, .ref 35), (1, .int x1), (3, .int x3), (4, .int x4), (5, .int v5)]) rfl ?_
            exact h13 x2 h
          · replace h := j_iq c10 h
            refine J_iload (pc' := 45) (i := 4) (n := 5) dX10_bestOf_43 rfl rfl ?_
            refine J_goto (pc' := 49) dX10_bestOf_45 (by decide) ?_
            refine J_sub [1, 2, 4, 5, 0] (lv' := [(0, .ref 35), (1, .int x1), (3, .int x3), (4, .int x4), (5, .int v5)]) rfl ?_
            exact h13 x4 h
      · refine J_if_eq (pc' := 23) (tgt := 33) dX10_bestOf_20 rfl (by decide) (fun c4 => ?_) (fun c4 => ?_)
        · replace h := j_ip c4 h
          refine J_ldc (pc' := 35) (v := (1000000 : Int32)) dX10_bestOf_33 rfl wd_1101 ?_
          exact h8 (1000000 : Int32) M h hs
        · replace h := j_iq c4 h
          refine J_aload_n (pc' := 24) (i := 0) (n := 0) dX10_bestOf_23 rfl rfl rfl ?_
          refine J_iload_n (pc' := 25) (i := 1) (n := 1) dX10_bestOf_24 rfl rfl rfl ?_
          refine J_iload (pc' := 27) (i := 4) (n := 4) dX10_bestOf_25 rfl rfl ?_
          obtain ⟨q15, e16, h⟩ := bi_inv h
          obtain ⟨c17, h⟩ := j_ck_inv h
          refine J_callV (pc' := 30) (as := [.int x1, .int x4]) (rest := []) dX10_bestOf_27 rfl lk_X10_143 rfl 10 (by decide) rfl (m_o hs) (m_n hs (Nat.le_of_ble_eq_true rfl)) (c_X10_secondsIn hs e16) ⟨Nat.le_of_ble_eq_true rfl, Nat.le_of_ble_eq_true rfl⟩ (Nat.le_of_ble_eq_true rfl) ⟨Nat.le_of_ble_eq_true rfl, Nat.le_of_ble_eq_true rfl⟩ (j_kq ?_)
          have g18 : sh_m q15.2.2.2 := j_shE c17 hs
          refine J_goto (pc' := 35) dX10_bestOf_30 (by decide) ?_
          exact h8 q15.1 q15.2 h g18
set_option maxHeartbeats 4000000 in
theorem c_X10_bestOf {l : Launch} {G : j_G} {M : j_M} {x1 : Int32} (hs : sh_m M.2.2) {r : (Int32 × j_M)} (h : f_X10_bestOf M x1 = some r) : j_Sp l G md_X10_bestOf 4 (0, 0) [.ref 35, .int x1] M (po (some (.int r.1)) r.2) := by
  refine j_Sp.of (by decide) (Nat.le_of_ble_eq_true rfl) ?_
  show JT_X10_bestOf l G r 0 [(0, .ref 35), (1, .int x1)] [] M
  unfold f_X10_bestOf at h
  refine J_iconst (pc' := 1) (v := ((-1) : Int32)) dX10_bestOf_0 rfl ic_m1 ?_
  refine J_istore_n (pc' := 2) (i := 2) (lv' := [(2, .int ((-1) : Int32)), (0, .ref 35), (1, .int x1)]) dX10_bestOf_1 rfl rfl (by decide) rfl ?_
  refine J_ldc (pc' := 4) (v := (1000000 : Int32)) dX10_bestOf_2 rfl wd_1101 ?_
  refine J_istore_n (pc' := 5) (i := 3) (lv' := [(3, .int (1000000 : Int32)), (2, .int ((-1) : Int32)), (0, .ref 35), (1, .int x1)]) dX10_bestOf_4 rfl rfl (by decide) rfl ?_
  refine J_iconst (pc' := 6) (v := (0 : Int32)) dX10_bestOf_5 rfl ic_0 ?_
  refine J_istore (pc' := 8) (i := 4) (lv' := [(4, .int (0 : Int32)), (3, .int (1000000 : Int32)), (2, .int ((-1) : Int32)), (0, .ref 35), (1, .int x1)]) dX10_bestOf_6 rfl (by decide) rfl ?_
  refine J_sub [3, 4, 2, 1, 0] (lv' := [(0, .ref 35), (1, .int x1), (2, .int ((-1) : Int32)), (3, .int (1000000 : Int32)), (4, .int (0 : Int32))]) rfl ?_
  refine L_X10_bestOf_L8 j_fu hs h (fun y19 y20 y21 M22 g23 h => ?_)
  refine J_iload_n (pc' := 70) (i := 2) (n := 0) dX10_bestOf_69 rfl rfl rfl ?_
  exact J_iret rfl dX10_bestOf_70 ⟨rfl, Nat.le_refl _⟩ (j_pW h)
abbrev JT_X10_best (l : Launch) (G : j_G) (r : (Int32 × j_M)) : Nat → List (Nat × Value) → List Value → j_M → Prop := JJ l G md_X10_best (j_rm 5 (0, 0)) (0, 0) (0, 0) (po (some (.int r.1)) r.2)
noncomputable def f_X10_best (M : j_M) (x1 : Int32) : Option (Int32 × j_M) :=
  (f_X10_isOne M x1).bind fun v1 => (if v1 = 0 then ((f_X10_bad M ((-2) : Int32)).bind fun q12 => j_ck M q12.2 (some (q12.1, q12.2))) else ((f_X10_layHand M).bind fun q4 => j_ck M q4 ((f_X10_bestOf q4 x1).bind fun q8 => j_ck q4 q8.2 (some (q8.1, q8.2)))))
set_option maxHeartbeats 4000000 in
theorem c_X10_best {l : Launch} {G : j_G} {M : j_M} {x1 : Int32} (hs : sh_m M.2.2) {r : (Int32 × j_M)} (h : f_X10_best M x1 = some r) : j_Sp l G md_X10_best 5 (0, 0) [.ref 35, .int x1] M (po (some (.int r.1)) r.2) := by
  refine j_Sp.of (by decide) (Nat.le_of_ble_eq_true rfl) ?_
  show JT_X10_best l G r 0 [(0, .ref 35), (1, .int x1)] [] M
  unfold f_X10_best at h
  refine J_aload_n (pc' := 1) (i := 0) (n := 0) dX10_best_0 rfl rfl rfl ?_
  refine J_iload_n (pc' := 2) (i := 1) (n := 1) dX10_best_1 rfl rfl rfl ?_
  obtain ⟨v1, e2, h⟩ := bi_inv h
  refine J_callV (pc' := 5) (as := [.int x1]) (rest := []) dX10_best_2 rfl lk_X10_132 rfl 10 (by decide) rfl (m_o hs) (m_n hs (Nat.le_of_ble_eq_true rfl)) (c_X10_isOne hs e2) ⟨Nat.le_of_ble_eq_true rfl, Nat.le_of_ble_eq_true rfl⟩ (Nat.le_of_ble_eq_true rfl) ⟨Nat.le_of_ble_eq_true rfl, Nat.le_of_ble_eq_true rfl⟩ (j_kq ?_)
  refine J_if_ne (pc' := 8) (tgt := 15) dX10_best_5 rfl (by decide) (fun c3 => ?_) (fun c3 => ?_)
  · replace h := j_iq c3 h
    refine J_aload_n (pc' := 16) (i := 0) (n := 0) dX10_best_15 rfl rfl rfl ?_
    obtain ⟨q4, e5, h⟩ := bi_inv h
    obtain ⟨c6, h⟩ := j_ck_inv h
    refine J_callV (pc' := 19) (as := []) (rest := []) dX10_best_16 rfl lk_X10_140 rfl 10 (by decide) rfl (m_o hs) (m_n hs (Nat.le_of_ble_eq_true rfl)) (c_X10_layHand hs e5) ⟨Nat.le_of_ble_eq_true rfl, Nat.le_of_ble_eq_true rfl⟩ (Nat.le_of_ble_eq_true rfl) ⟨Nat.le_of_ble_eq_true rfl, Nat.le_of_ble_eq_true rfl⟩ (j_kv ?_)
    have g7 : sh_m q4.2.2 := j_shE c6 hs
    refine J_aload_n (pc' := 20) (i := 0) (n := 0) dX10_best_19 rfl rfl rfl ?_
    refine J_iload_n (pc' := 21) (i := 1) (n := 1) dX10_best_20 rfl rfl rfl ?_
    obtain ⟨q8, e9, h⟩ := bi_inv h
    obtain ⟨c10, h⟩ := j_ck_inv h
    refine J_callV (pc' := 24) (as := [.int x1]) (rest := []) dX10_best_21 rfl lk_X10_151 rfl 10 (by decide) rfl (m_o g7) (m_n g7 (Nat.le_of_ble_eq_true rfl)) (c_X10_bestOf g7 e9) ⟨Nat.le_of_ble_eq_true rfl, Nat.le_of_ble_eq_true rfl⟩ (Nat.le_of_ble_eq_true rfl) ⟨Nat.le_of_ble_eq_true rfl, Nat.le_of_ble_eq_true rfl⟩ (j_kq ?_)
    have g11 : sh_m q8.2.2.2 := j_shE c10 g7
    exact J_iret rfl dX10_best_24 ⟨rfl, Nat.le_refl _⟩ (j_pW h)
  · replace h := j_ip c3 h
    refine J_aload_n (pc' := 9) (i := 0) (n := 0) dX10_best_8 rfl rfl rfl ?_
    refine J_bipush (pc' := 11) (v := ((-2) : Int32)) dX10_best_9 rfl bp_m2 ?_
    obtain ⟨q12, e13, h⟩ := bi_inv h
    obtain ⟨c14, h⟩ := j_ck_inv h
    refine J_callV (pc' := 14) (as := [.int ((-2) : Int32)]) (rest := []) dX10_best_11 rfl lk_X10_84 rfl 10 (by decide) rfl (m_o hs) (m_n hs (Nat.le_of_ble_eq_true rfl)) (c_X10_bad hs e13) ⟨Nat.le_of_ble_eq_true rfl, Nat.le_of_ble_eq_true rfl⟩ (Nat.le_of_ble_eq_true rfl) ⟨Nat.le_of_ble_eq_true rfl, Nat.le_of_ble_eq_true rfl⟩ (j_kq ?_)
    have g15 : sh_m q12.2.2.2 := j_shE c14 hs
    exact J_iret rfl dX10_best_14 ⟨rfl, Nat.le_refl _⟩ (j_pW h)
abbrev JT_X10_sumOthers (l : Launch) (G : j_G) (r : (Int32 × j_M)) : Nat → List (Nat × Value) → List Value → j_M → Prop := JJ l G md_X10_sumOthers (j_rm 4 (0, 0)) (0, 0) (0, 0) (po (some (.int r.1)) r.2)
noncomputable def f_X10_sumOthers_L5 : Nat → j_M → Int32 → Int32 → Int32 → Int32 → (Int32 → Int32 → j_M → Option (Int32 × j_M)) → Option (Int32 × j_M)
  | 0, _, _, _, _, _, _ => none
  | n + 1, M, x1, x2, x3, x4, K =>
    (f_X10_many M).bind fun v1 => (if v1 ≤ x4 then (K x3 x4 M) else (if x4 = x1 then (f_X10_sumOthers_L5 n  M x1 x2 (x3 + (0 : Int32)) (x4 + (1 : Int32)) K) else (a_i M 40 7 x4 fun v5 => (if v5 = x2 then ((f_X10_secondsIn M x4 x2).bind fun q8 => j_ck M q8.2 (f_X10_sumOthers_L5 n  q8.2 x1 x2 (x3 + q8.1) (x4 + (1 : Int32)) K)) else (f_X10_sumOthers_L5 n  M x1 x2 (x3 + (0 : Int32)) (x4 + (1 : Int32)) K)))))
noncomputable def f_X10_sumOthers (M : j_M) (x1 : Int32) (x2 : Int32) : Option (Int32 × j_M) :=
  f_X10_sumOthers_L5 j_fu  M x1 x2 (0 : Int32) (0 : Int32) (fun (y12 : Int32) (y13 : Int32) (M14 : j_M) => (some (y12, M14)))
set_option maxHeartbeats 4000000 in
theorem L_X10_sumOthers_L5 {l : Launch} {G : j_G}  {r : (Int32 × j_M)} : ∀ (n : Nat) {x1 : Int32} {x2 : Int32} {x3 : Int32} {x4 : Int32} {M : j_M} (hs : sh_m M.2.2) {K : Int32 → Int32 → j_M → Option (Int32 × j_M)}, f_X10_sumOthers_L5 n  M x1 x2 x3 x4 K = some r → (∀ (y3 : Int32) (y4 : Int32) (M1 : j_M), sh_m M1.2.2 → K y3 y4 M1 = some r → JT_X10_sumOthers l G r 51 [(3, .int y3)] [] M1) → JT_X10_sumOthers l G r 5 [(0, .ref 35), (1, .int x1), (2, .int x2), (3, .int x3), (4, .int x4)] [] M := by
  intro n
  induction n with
  | zero =>
    intro x1 x2 x3 x4 M hs K h hK
    rw [f_X10_sumOthers_L5] at h; cases h
  | succ n ih =>
    intro x1 x2 x3 x4 M hs K h hK
    rw [f_X10_sumOthers_L5] at h
    refine J_iload (pc' := 7) (i := 4) (n := 4) dX10_sumOthers_5 rfl rfl ?_
    refine J_aload_n (pc' := 8) (i := 0) (n := 0) dX10_sumOthers_7 rfl rfl rfl ?_
    obtain ⟨v1, e2, h⟩ := bi_inv h
    refine J_callV (pc' := 11) (as := []) (rest := [.int x4]) dX10_sumOthers_8 rfl lk_X10_64 rfl 10 (by decide) rfl (m_o hs) (m_n hs (Nat.le_of_ble_eq_true rfl)) (c_X10_many hs e2) ⟨Nat.le_of_ble_eq_true rfl, Nat.le_of_ble_eq_true rfl⟩ (Nat.le_of_ble_eq_true rfl) ⟨Nat.le_of_ble_eq_true rfl, Nat.le_of_ble_eq_true rfl⟩ (j_kq ?_)
    refine J_icmp_ge (pc' := 14) (tgt := 51) dX10_sumOthers_11 rfl (by decide) (fun c3 => ?_) (fun c3 => ?_)
    · replace h := j_ip c3 h
      refine J_sub [3] (lv' := [(3, .int x3)]) rfl ?_
      exact hK x3 x4 M hs h
    · replace h := j_iq c3 h
      refine J_iload_n (pc' := 15) (i := 3) (n := 3) dX10_sumOthers_14 rfl rfl rfl ?_
      refine J_iload (pc' := 17) (i := 4) (n := 4) dX10_sumOthers_15 rfl rfl ?_
      refine J_iload_n (pc' := 18) (i := 1) (n := 1) dX10_sumOthers_17 rfl rfl rfl ?_
      refine J_icmp_eq (pc' := 21) (tgt := 42) dX10_sumOthers_18 rfl (by decide) (fun c4 => ?_) (fun c4 => ?_)
      · replace h := j_ip c4 h
        refine J_iconst (pc' := 43) (v := (0 : Int32)) dX10_sumOthers_42 rfl ic_0 ?_
        refine J_iadd (pc' := 44) dX10_sumOthers_43 rfl ?_
        refine J_istore_n (pc' := 45) (i := 3) (lv' := [(3, .int (x3 + (0 : Int32))), (0, .ref 35), (1, .int x1), (2, .int x2), (4, .int x4)]) dX10_sumOthers_44 rfl rfl (by decide) rfl ?_
        refine J_iinc (pc' := 48) (i := 4) (n := 4) (v := (x4 + (1 : Int32))) (lv' := [(4, .int (x4 + (1 : Int32))), (3, .int (x3 + (0 : Int32))), (0, .ref 35), (1, .int x1), (2, .int x2)]) dX10_sumOthers_45 rfl rfl (j_inc _ _ rfl _) (by decide) rfl ?_
        refine J_goto (pc' := 5) dX10_sumOthers_48 (by decide) ?_
        refine J_sub [2, 3, 4, 1, 0] (lv' := [(0, .ref 35), (1, .int x1), (2, .int x2), (3, .int (x3 + (0 : Int32))), (4, .int (x4 + (1 : Int32)))]) rfl ?_
        exact ih hs h hK
      · replace h := j_iq c4 h
        refine J_aload_n (pc' := 22) (i := 0) (n := 0) dX10_sumOthers_21 rfl rfl rfl ?_
        refine J_getR (pc' := 25) (b := 40) dX10_sumOthers_22 rfl fl_X10_27 rfl (m_o hs) (m_n hs (Nat.le_of_ble_eq_true rfl)) (m_r6 hs) ?_
        refine J_iload (pc' := 27) (i := 4) (n := 4) dX10_sumOthers_25 rfl rfl ?_
        obtain ⟨v5, e6, h⟩ := a_i_inv h
        refine J_ialde (pc' := 28) dX10_sumOthers_27 rfl (m_s40 hs) (m_n hs (Nat.le_of_ble_eq_true rfl)) e6 ?_
        refine J_iload_n (pc' := 29) (i := 2) (n := 2) dX10_sumOthers_28 rfl rfl rfl ?_
        refine J_icmp_ne (pc' := 32) (tgt := 42) dX10_sumOthers_29 rfl (by decide) (fun c7 => ?_) (fun c7 => ?_)
        · replace h := j_iq c7 h
          refine J_iconst (pc' := 43) (v := (0 : Int32)) dX10_sumOthers_42 rfl ic_0 ?_
          refine J_iadd (pc' := 44) dX10_sumOthers_43 rfl ?_
          refine J_istore_n (pc' := 45) (i := 3) (lv' := [(3, .int (x3 + (0 : Int32))), (0, .ref 35), (1, .int x1), (2, .int x2), (4, .int x4)]) dX10_sumOthers_44 rfl rfl (by decide) rfl ?_
          refine J_iinc (pc' := 48) (i := 4) (n := 4) (v := (x4 + (1 : Int32))) (lv' := [(4, .int (x4 + (1 : Int32))), (3, .int (x3 + (0 : Int32))), (0, .ref 35), (1, .int x1), (2, .int x2)]) dX10_sumOthers_45 rfl rfl (j_inc _ _ rfl _) (by decide) rfl ?_
          refine J_goto (pc' := 5) dX10_sumOthers_48 (by decide) ?_
          refine J_sub [2, 3, 4, 1, 0] (lv' := [(0, .ref 35), (1, .int x1), (2, .int x2), (3, .int (x3 + (0 : Int32))), (4, .int (x4 + (1 : Int32)))]) rfl ?_
          exact ih hs h hK
        · replace h := j_ip c7 h
          refine J_aload_n (pc' := 33) (i := 0) (n := 0) dX10_sumOthers_32 rfl rfl rfl ?_
          refine J_iload (pc' := 35) (i := 4) (n := 4) dX10_sumOthers_33 rfl rfl ?_
          refine J_iload_n (pc' := 36) (i := 2) (n := 2) dX10_sumOthers_35 rfl rfl rfl ?_
          obtain ⟨q8, e9, h⟩ := bi_inv h
          obtain ⟨c10, h⟩ := j_ck_inv h
          refine J_callV (pc' := 39) (as := [.int x4, .int x2]) (rest := [.int x3]) dX10_sumOthers_36 rfl lk_X10_143 rfl 10 (by decide) rfl (m_o hs) (m_n hs (Nat.le_of_ble_eq_true rfl)) (c_X10_secondsIn hs e9) ⟨Nat.le_of_ble_eq_true rfl, Nat.le_of_ble_eq_true rfl⟩ (Nat.le_of_ble_eq_true rfl) ⟨Nat.le_of_ble_eq_true rfl, Nat.le_of_ble_eq_true rfl⟩ (j_kq ?_)
          have g11 : sh_m q8.2.2.2 := j_shE c10 hs
          refine J_goto (pc' := 43) dX10_sumOthers_39 (by decide) ?_
          refine J_iadd (pc' := 44) dX10_sumOthers_43 rfl ?_
          refine J_istore_n (pc' := 45) (i := 3) (lv' := [(3, .int (x3 + q8.1)), (0, .ref 35), (1, .int x1), (2, .int x2), (4, .int x4)]) dX10_sumOthers_44 rfl rfl (by decide) rfl ?_
          refine J_iinc (pc' := 48) (i := 4) (n := 4) (v := (x4 + (1 : Int32))) (lv' := [(4, .int (x4 + (1 : Int32))), (3, .int (x3 + q8.1)), (0, .ref 35), (1, .int x1), (2, .int x2)]) dX10_sumOthers_45 rfl rfl (j_inc _ _ rfl _) (by decide) rfl ?_
          refine J_goto (pc' := 5) dX10_sumOthers_48 (by decide) ?_
          refine J_sub [2, 3, 4, 1, 0] (lv' := [(0, .ref 35), (1, .int x1), (2, .int x2), (3, .int (x3 + q8.1)), (4, .int (x4 + (1 : Int32)))]) rfl ?_
          exact ih g11 h hK
set_option maxHeartbeats 4000000 in
theorem c_X10_sumOthers {l : Launch} {G : j_G} {M : j_M} {x1 : Int32} {x2 : Int32} (hs : sh_m M.2.2) {r : (Int32 × j_M)} (h : f_X10_sumOthers M x1 x2 = some r) : j_Sp l G md_X10_sumOthers 4 (0, 0) [.ref 35, .int x1, .int x2] M (po (some (.int r.1)) r.2) := by
  refine j_Sp.of (by decide) (Nat.le_of_ble_eq_true rfl) ?_
  show JT_X10_sumOthers l G r 0 [(0, .ref 35), (1, .int x1), (2, .int x2)] [] M
  unfold f_X10_sumOthers at h
  refine J_iconst (pc' := 1) (v := (0 : Int32)) dX10_sumOthers_0 rfl ic_0 ?_
  refine J_istore_n (pc' := 2) (i := 3) (lv' := [(3, .int (0 : Int32)), (0, .ref 35), (1, .int x1), (2, .int x2)]) dX10_sumOthers_1 rfl rfl (by decide) rfl ?_
  refine J_iconst (pc' := 3) (v := (0 : Int32)) dX10_sumOthers_2 rfl ic_0 ?_
  refine J_istore (pc' := 5) (i := 4) (lv' := [(4, .int (0 : Int32)), (3, .int (0 : Int32)), (0, .ref 35), (1, .int x1), (2, .int x2)]) dX10_sumOthers_3 rfl (by decide) rfl ?_
  refine J_sub [2, 3, 4, 1, 0] (lv' := [(0, .ref 35), (1, .int x1), (2, .int x2), (3, .int (0 : Int32)), (4, .int (0 : Int32))]) rfl ?_
  refine L_X10_sumOthers_L5 j_fu hs h (fun y12 y13 M14 g15 h => ?_)
  refine J_iload_n (pc' := 52) (i := 3) (n := 0) dX10_sumOthers_51 rfl rfl rfl ?_
  exact J_iret rfl dX10_sumOthers_52 ⟨rfl, Nat.le_refl _⟩ (j_pW h)
abbrev JT_X10_costOf (l : Launch) (G : j_G) (r : (Int32 × j_M)) : Nat → List (Nat × Value) → List Value → j_M → Prop := JJ l G md_X10_costOf (j_rm 5 (0, 0)) (0, 0) (0, 0) (po (some (.int r.1)) r.2)
noncomputable def f_X10_costOf (M : j_M) (x1 : Int32) (x2 : Int32) : Option (Int32 × j_M) :=
  (f_X10_layHand M).bind fun q1 => j_ck M q1 (w_i q1 40 7 x1 x2 fun M5 => ((f_X10_sumOthers M5 x1 x2).bind fun q8 => j_ck M5 q8.2 (w_i q8.2 40 7 x1 ((-1) : Int32) fun M12 => ((f_X10_sumOthers M12 x1 x2).bind fun q15 => j_ck M12 q15.2 (some ((q8.1 - q15.1), q15.2))))))
set_option maxHeartbeats 4000000 in
theorem c_X10_costOf {l : Launch} {G : j_G} {M : j_M} {x1 : Int32} {x2 : Int32} (hs : sh_m M.2.2) {r : (Int32 × j_M)} (h : f_X10_costOf M x1 x2 = some r) : j_Sp l G md_X10_costOf 5 (0, 0) [.ref 35, .int x1, .int x2] M (po (some (.int r.1)) r.2) := by
  refine j_Sp.of (by decide) (Nat.le_of_ble_eq_true rfl) ?_
  show JT_X10_costOf l G r 0 [(0, .ref 35), (1, .int x1), (2, .int x2)] [] M
  unfold f_X10_costOf at h
  refine J_aload_n (pc' := 1) (i := 0) (n := 0) dX10_costOf_0 rfl rfl rfl ?_
  obtain ⟨q1, e2, h⟩ := bi_inv h
  obtain ⟨c3, h⟩ := j_ck_inv h
  refine J_callV (pc' := 4) (as := []) (rest := []) dX10_costOf_1 rfl lk_X10_140 rfl 10 (by decide) rfl (m_o hs) (m_n hs (Nat.le_of_ble_eq_true rfl)) (c_X10_layHand hs e2) ⟨Nat.le_of_ble_eq_true rfl, Nat.le_of_ble_eq_true rfl⟩ (Nat.le_of_ble_eq_true rfl) ⟨Nat.le_of_ble_eq_true rfl, Nat.le_of_ble_eq_true rfl⟩ (j_kv ?_)
  have g4 : sh_m q1.2.2 := j_shE c3 hs
  refine J_aload_n (pc' := 5) (i := 0) (n := 0) dX10_costOf_4 rfl rfl rfl ?_
  refine J_getR (pc' := 8) (b := 40) dX10_costOf_5 rfl fl_X10_27 rfl (m_o g4) (m_n g4 (Nat.le_of_ble_eq_true rfl)) (m_r6 g4) ?_
  refine J_iload_n (pc' := 9) (i := 1) (n := 1) dX10_costOf_8 rfl rfl rfl ?_
  refine J_iload_n (pc' := 10) (i := 2) (n := 2) dX10_costOf_9 rfl rfl rfl ?_
  obtain ⟨M5, e6, h⟩ := w_i_inv h
  have g7 : sh_m M5.2.2 := j_shI e6.2 g4
  refine J_iaste (pc' := 11) dX10_costOf_10 rfl (m_s40 g4) (m_n g4 (Nat.le_of_ble_eq_true rfl)) e6 ?_
  refine J_aload_n (pc' := 12) (i := 0) (n := 0) dX10_costOf_11 rfl rfl rfl ?_
  refine J_iload_n (pc' := 13) (i := 1) (n := 1) dX10_costOf_12 rfl rfl rfl ?_
  refine J_iload_n (pc' := 14) (i := 2) (n := 2) dX10_costOf_13 rfl rfl rfl ?_
  obtain ⟨q8, e9, h⟩ := bi_inv h
  obtain ⟨c10, h⟩ := j_ck_inv h
  refine J_callV (pc' := 17) (as := [.int x1, .int x2]) (rest := []) dX10_costOf_14 rfl lk_X10_154 rfl 10 (by decide) rfl (m_o g7) (m_n g7 (Nat.le_of_ble_eq_true rfl)) (c_X10_sumOthers g7 e9) ⟨Nat.le_of_ble_eq_true rfl, Nat.le_of_ble_eq_true rfl⟩ (Nat.le_of_ble_eq_true rfl) ⟨Nat.le_of_ble_eq_true rfl, Nat.le_of_ble_eq_true rfl⟩ (j_kq ?_)
  have g11 : sh_m q8.2.2.2 := j_shE c10 g7
  refine J_istore_n (pc' := 18) (i := 3) (lv' := [(3, .int q8.1), (0, .ref 35), (1, .int x1), (2, .int x2)]) dX10_costOf_17 rfl rfl (by decide) rfl ?_
  refine J_aload_n (pc' := 19) (i := 0) (n := 1) dX10_costOf_18 rfl rfl rfl ?_
  refine J_getR (pc' := 22) (b := 40) dX10_costOf_19 rfl fl_X10_27 rfl (m_o g11) (m_n g11 (Nat.le_of_ble_eq_true rfl)) (m_r6 g11) ?_
  refine J_iload_n (pc' := 23) (i := 1) (n := 2) dX10_costOf_22 rfl rfl rfl ?_
  refine J_iconst (pc' := 24) (v := ((-1) : Int32)) dX10_costOf_23 rfl ic_m1 ?_
  obtain ⟨M12, e13, h⟩ := w_i_inv h
  have g14 : sh_m M12.2.2 := j_shI e13.2 g11
  refine J_iaste (pc' := 25) dX10_costOf_24 rfl (m_s40 g11) (m_n g11 (Nat.le_of_ble_eq_true rfl)) e13 ?_
  refine J_iload_n (pc' := 26) (i := 3) (n := 0) dX10_costOf_25 rfl rfl rfl ?_
  refine J_aload_n (pc' := 27) (i := 0) (n := 1) dX10_costOf_26 rfl rfl rfl ?_
  refine J_iload_n (pc' := 28) (i := 1) (n := 2) dX10_costOf_27 rfl rfl rfl ?_
  refine J_iload_n (pc' := 29) (i := 2) (n := 3) dX10_costOf_28 rfl rfl rfl ?_
  obtain ⟨q15, e16, h⟩ := bi_inv h
  obtain ⟨c17, h⟩ := j_ck_inv h
  refine J_callV (pc' := 32) (as := [.int x1, .int x2]) (rest := [.int q8.1]) dX10_costOf_29 rfl lk_X10_154 rfl 10 (by decide) rfl (m_o g14) (m_n g14 (Nat.le_of_ble_eq_true rfl)) (c_X10_sumOthers g14 e16) ⟨Nat.le_of_ble_eq_true rfl, Nat.le_of_ble_eq_true rfl⟩ (Nat.le_of_ble_eq_true rfl) ⟨Nat.le_of_ble_eq_true rfl, Nat.le_of_ble_eq_true rfl⟩ (j_kq ?_)
  have g18 : sh_m q15.2.2.2 := j_shE c17 g14
  refine J_isub (pc' := 33) dX10_costOf_32 rfl ?_
  exact J_iret rfl dX10_costOf_33 ⟨rfl, Nat.le_refl _⟩ (j_pW h)
abbrev JT_X10_cost (l : Launch) (G : j_G) (r : (Int32 × j_M)) : Nat → List (Nat × Value) → List Value → j_M → Prop := JJ l G md_X10_cost (j_rm 6 (0, 0)) (0, 0) (0, 0) (po (some (.int r.1)) r.2)
noncomputable def f_X10_cost (M : j_M) (x1 : Int32) (x2 : Int32) : Option (Int32 × j_M) :=
  (f_X10_isOne M x1).bind fun v1 => (if v1 = 0 then ((f_X10_bad M ((-2) : Int32)).bind fun q4 => j_ck M q4.2 (some (q4.1, q4.2))) else (tl (f_X10_isLane x2) fun v8 => (if v8 = 0 then ((f_X10_bad M ((-2) : Int32)).bind fun q22 => j_ck M q22.2 (some (q22.1, q22.2))) else ((f_X10_isOpen M x2).bind fun v11 => (if v11 = 0 then ((f_X10_no M).bind fun q14 => j_ck M q14.2 (some (q14.1, q14.2))) else ((f_X10_costOf M x1 x2).bind fun q18 => j_ck M q18.2 (some (q18.1, q18.2))))))))
set_option maxHeartbeats 4000000 in
theorem c_X10_cost {l : Launch} {G : j_G} {M : j_M} {x1 : Int32} {x2 : Int32} (hs : sh_m M.2.2) {r : (Int32 × j_M)} (h : f_X10_cost M x1 x2 = some r) : j_Sp l G md_X10_cost 6 (0, 0) [.ref 35, .int x1, .int x2] M (po (some (.int r.1)) r.2) := by
  refine j_Sp.of (by decide) (Nat.le_of_ble_eq_true rfl) ?_
  show JT_X10_cost l G r 0 [(0, .ref 35), (1, .int x1), (2, .int x2)] [] M
  unfold f_X10_cost at h
  refine J_aload_n (pc' := 1) (i := 0) (n := 0) dX10_cost_0 rfl rfl rfl ?_
  refine J_iload_n (pc' := 2) (i := 1) (n := 1) dX10_cost_1 rfl rfl rfl ?_
  obtain ⟨v1, e2, h⟩ := bi_inv h
  refine J_callV (pc' := 5) (as := [.int x1]) (rest := []) dX10_cost_2 rfl lk_X10_132 rfl 10 (by decide) rfl (m_o hs) (m_n hs (Nat.le_of_ble_eq_true rfl)) (c_X10_isOne hs e2) ⟨Nat.le_of_ble_eq_true rfl, Nat.le_of_ble_eq_true rfl⟩ (Nat.le_of_ble_eq_true rfl) ⟨Nat.le_of_ble_eq_true rfl, Nat.le_of_ble_eq_true rfl⟩ (j_kq ?_)
  refine J_if_eq (pc' := 8) (tgt := 15) dX10_cost_5 rfl (by decide) (fun c3 => ?_) (fun c3 => ?_)
  · replace h := j_ip c3 h
    refine J_aload_n (pc' := 16) (i := 0) (n := 0) dX10_cost_15 rfl rfl rfl ?_
    refine J_bipush (pc' := 18) (v := ((-2) : Int32)) dX10_cost_16 rfl bp_m2 ?_
    obtain ⟨q4, e5, h⟩ := bi_inv h
    obtain ⟨c6, h⟩ := j_ck_inv h
    refine J_callV (pc' := 21) (as := [.int ((-2) : Int32)]) (rest := []) dX10_cost_18 rfl lk_X10_84 rfl 10 (by decide) rfl (m_o hs) (m_n hs (Nat.le_of_ble_eq_true rfl)) (c_X10_bad hs e5) ⟨Nat.le_of_ble_eq_true rfl, Nat.le_of_ble_eq_true rfl⟩ (Nat.le_of_ble_eq_true rfl) ⟨Nat.le_of_ble_eq_true rfl, Nat.le_of_ble_eq_true rfl⟩ (j_kq ?_)
    have g7 : sh_m q4.2.2.2 := j_shE c6 hs
    exact J_iret rfl dX10_cost_21 ⟨rfl, Nat.le_refl _⟩ (j_pW h)
  · replace h := j_iq c3 h
    refine J_iload_n (pc' := 9) (i := 2) (n := 2) dX10_cost_8 rfl rfl rfl ?_
    obtain ⟨v8, e9, h⟩ := tl_inv h
    refine J_callS (pc' := 12) (as := [.int x2]) (rest := []) dX10_cost_9 rfl lk_X10_78 rfl (c_X10_isLane e9) ⟨Nat.le_of_ble_eq_true rfl, Nat.le_of_ble_eq_true rfl⟩ (Nat.le_of_ble_eq_true rfl) ⟨Nat.le_of_ble_eq_true rfl, Nat.le_of_ble_eq_true rfl⟩ (j_kq ?_)
    refine J_if_ne (pc' := 15) (tgt := 22) dX10_cost_12 rfl (by decide) (fun c10 => ?_) (fun c10 => ?_)
    · replace h := j_iq c10 h
      refine J_aload_n (pc' := 23) (i := 0) (n := 0) dX10_cost_22 rfl rfl rfl ?_
      refine J_iload_n (pc' := 24) (i := 2) (n := 2) dX10_cost_23 rfl rfl rfl ?_
      obtain ⟨v11, e12, h⟩ := bi_inv h
      refine J_callV (pc' := 27) (as := [.int x2]) (rest := []) dX10_cost_24 rfl lk_X10_101 rfl 10 (by decide) rfl (m_o hs) (m_n hs (Nat.le_of_ble_eq_true rfl)) (c_X10_isOpen hs e12) ⟨Nat.le_of_ble_eq_true rfl, Nat.le_of_ble_eq_true rfl⟩ (Nat.le_of_ble_eq_true rfl) ⟨Nat.le_of_ble_eq_true rfl, Nat.le_of_ble_eq_true rfl⟩ (j_kq ?_)
      refine J_if_eq (pc' := 30) (tgt := 39) dX10_cost_27 rfl (by decide) (fun c13 => ?_) (fun c13 => ?_)
      · replace h := j_ip c13 h
        refine J_aload_n (pc' := 40) (i := 0) (n := 0) dX10_cost_39 rfl rfl rfl ?_
        obtain ⟨q14, e15, h⟩ := bi_inv h
        obtain ⟨c16, h⟩ := j_ck_inv h
        refine J_callV (pc' := 43) (as := []) (rest := []) dX10_cost_40 rfl lk_X10_92 rfl 10 (by decide) rfl (m_o hs) (m_n hs (Nat.le_of_ble_eq_true rfl)) (c_X10_no hs e15) ⟨Nat.le_of_ble_eq_true rfl, Nat.le_of_ble_eq_true rfl⟩ (Nat.le_of_ble_eq_true rfl) ⟨Nat.le_of_ble_eq_true rfl, Nat.le_of_ble_eq_true rfl⟩ (j_kq ?_)
        have g17 : sh_m q14.2.2.2 := j_shE c16 hs
        exact J_iret rfl dX10_cost_43 ⟨rfl, Nat.le_refl _⟩ (j_pW h)
      · replace h := j_iq c13 h
        refine J_aload_n (pc' := 31) (i := 0) (n := 0) dX10_cost_30 rfl rfl rfl ?_
        refine J_iload_n (pc' := 32) (i := 1) (n := 1) dX10_cost_31 rfl rfl rfl ?_
        refine J_iload_n (pc' := 33) (i := 2) (n := 2) dX10_cost_32 rfl rfl rfl ?_
        obtain ⟨q18, e19, h⟩ := bi_inv h
        obtain ⟨c20, h⟩ := j_ck_inv h
        refine J_callV (pc' := 36) (as := [.int x1, .int x2]) (rest := []) dX10_cost_33 rfl lk_X10_157 rfl 10 (by decide) rfl (m_o hs) (m_n hs (Nat.le_of_ble_eq_true rfl)) (c_X10_costOf hs e19) ⟨Nat.le_of_ble_eq_true rfl, Nat.le_of_ble_eq_true rfl⟩ (Nat.le_of_ble_eq_true rfl) ⟨Nat.le_of_ble_eq_true rfl, Nat.le_of_ble_eq_true rfl⟩ (j_kq ?_)
        have g21 : sh_m q18.2.2.2 := j_shE c20 hs
        refine J_goto (pc' := 43) dX10_cost_36 (by decide) ?_
        exact J_iret rfl dX10_cost_43 ⟨rfl, Nat.le_refl _⟩ (j_pW h)
    · replace h := j_ip c10 h
      refine J_aload_n (pc' := 16) (i := 0) (n := 0) dX10_cost_15 rfl rfl rfl ?_
      refine J_bipush (pc' := 18) (v := ((-2) : Int32)) dX10_cost_16 rfl bp_m2 ?_
      obtain ⟨q22, e23, h⟩ := bi_inv h
      obtain ⟨c24, h⟩ := j_ck_inv h
      refine J_callV (pc' := 21) (as := [.int ((-2) : Int32)]) (rest := []) dX10_cost_18 rfl lk_X10_84 rfl 10 (by decide) rfl (m_o hs) (m_n hs (Nat.le_of_ble_eq_true rfl)) (c_X10_bad hs e23) ⟨Nat.le_of_ble_eq_true rfl, Nat.le_of_ble_eq_true rfl⟩ (Nat.le_of_ble_eq_true rfl) ⟨Nat.le_of_ble_eq_true rfl, Nat.le_of_ble_eq_true rfl⟩ (j_kq ?_)
      have g25 : sh_m q22.2.2.2 := j_shE c24 hs
      exact J_iret rfl dX10_cost_21 ⟨rfl, Nat.le_refl _⟩ (j_pW h)
abbrev JT_X10_where (l : Launch) (G : j_G) (r : (Int32 × j_M)) : Nat → List (Nat × Value) → List Value → j_M → Prop := JJ l G md_X10_where (j_rm 6 (0, 0)) (0, 0) (0, 0) (po (some (.int r.1)) r.2)
noncomputable def f_X10_where_L23 : Nat → j_M → Int32 → Int32 → Int32 → Int32 → (Int32 → Int32 → Int32 → j_M → Option (Int32 × j_M)) → Option (Int32 × j_M)
  | 0, _, _, _, _, _, _ => none
  | n + 1, M, x1, x2, x3, x4, K =>
    if (4 : Int32) ≤ x4 then (K x2 x3 x4 M) else ((f_X10_isOpen M x4).bind fun v5 => (jn2 (fun (v8 : Int32) (M9 : j_M) => (jn (fun (v14 : Int32) => (if x3 ≤ v8 then (f_X10_where_L23 n  M9 x1 v14 x3 (x4 + (1 : Int32)) K) else (f_X10_where_L23 n  M9 x1 v14 v8 (x4 + (1 : Int32)) K))) (fun K15 => (if x3 ≤ v8 then (K15 x2) else (K15 x4))))) (fun K10 => (if v5 = 0 then (K10 (1000000 : Int32) M) else ((f_X10_costOf M x1 x4).bind fun q18 => j_ck M q18.2 (K10 q18.1 q18.2))))))
noncomputable def f_X10_where (M : j_M) (x1 : Int32) : Option (Int32 × j_M) :=
  (f_X10_isOne M x1).bind fun v1 => (if v1 = 0 then ((f_X10_bad M ((-2) : Int32)).bind fun q27 => j_ck M q27.2 (some (q27.1, q27.2))) else (f_X10_where_L23 j_fu  M x1 ((-1) : Int32) (1000000 : Int32) (0 : Int32) (fun (y22 : Int32) (y23 : Int32) (y24 : Int32) (M25 : j_M) => (some (y22, M25)))))
set_option maxHeartbeats 4000000 in
theorem L_X10_where_L23 {l : Launch} {G : j_G}  {r : (Int32 × j_M)} : ∀ (n : Nat) {x1 : Int32} {x2 : Int32} {x3 : Int32} {x4 : Int32} {M : j_M} (hs : sh_m M.2.2) {K : Int32 → Int32 → Int32 → j_M → Option (Int32 × j_M)}, f_X10_where_L23 n  M x1 x2 x3 x4 K = some r → (∀ (y2 : Int32) (y3 : Int32) (y4 : Int32) (M1 : j_M), sh_m M1.2.2 → K y2 y3 y4 M1 = some r → JT_X10_where l G r 84 [(2, .int y2)] [] M1) → JT_X10_where l G r 23 [(0, .ref 35), (1, .int x1), (2, .int x2), (3, .int x3), (4, .int x4)] [] M := by
  intro n
  induction n with
  | zero =>
    intro x1 x2 x3 x4 M hs K h hK
    rw [f_X10_where_L23] at h; cases h
  | succ n ih =>
    intro x1 x2 x3 x4 M hs K h hK
    rw [f_X10_where_L23] at h
    refine J_iload (pc' := 25) (i := 4) (n := 4) dX10_where_23 rfl rfl ?_
    refine J_iconst (pc' := 26) (v := (4 : Int32)) dX10_where_25 rfl ic_4 ?_
    refine J_icmp_ge (pc' := 29) (tgt := 84) dX10_where_26 rfl (by decide) (fun c4 => ?_) (fun c4 => ?_)
    · replace h := j_ip c4 h
      refine J_sub [2] (lv' := [(2, .int x2)]) rfl ?_
      exact hK x2 x3 x4 M hs h
    · replace h := j_iq c4 h
      refine J_aload_n (pc' := 30) (i := 0) (n := 0) dX10_where_29 rfl rfl rfl ?_
      refine J_iload (pc' := 32) (i := 4) (n := 4) dX10_where_30 rfl rfl ?_
      obtain ⟨v5, e6, h⟩ := bi_inv h
      refine J_callV (pc' := 35) (as := [.int x4]) (rest := []) dX10_where_32 rfl lk_X10_101 rfl 10 (by decide) rfl (m_o hs) (m_n hs (Nat.le_of_ble_eq_true rfl)) (c_X10_isOpen hs e6) ⟨Nat.le_of_ble_eq_true rfl, Nat.le_of_ble_eq_true rfl⟩ (Nat.le_of_ble_eq_true rfl) ⟨Nat.le_of_ble_eq_true rfl, Nat.le_of_ble_eq_true rfl⟩ (j_kq ?_)
      refine J_join2 (C := fun (v8 : Int32) (M9 : j_M) => sh_m M9.2.2 → JT_X10_where l G r 50 [(0, .ref 35), (1, .int x1), (2, .int x2), (3, .int x3), (4, .int x4)] [.int v8] M9) h (fun v8 M9 h => ?_) (fun K10 h11 h => ?_)
      · intro g12
        refine J_istore (pc' := 52) (i := 5) (lv' := [(5, .int v8), (0, .ref 35), (1, .int x1), (2, .int x2), (3, .int x3), (4, .int x4)]) dX10_where_50 rfl (by decide) rfl ?_
        refine J_iload (pc' := 54) (i := 5) (n := 0) dX10_where_52 rfl rfl ?_
        refine J_iload_n (pc' := 55) (i := 3) (n := 4) dX10_where_54 rfl rfl rfl ?_
        refine J_join (C := fun (v14 : Int32) => JT_X10_where l G r 64 [(0, .ref 35), (1, .int x1), (3, .int x3), (4, .int x4), (5, .int v8)] [.int v14] M9) h (fun v14 h => ?_) (fun K15 h16 h => ?_)
        · refine J_istore_n (pc' := 65) (i := 2) (lv' := [(2, .int v14), (0, .ref 35), (1, .int x1), (3, .int x3), (4, .int x4), (5, .int v8)]) dX10_where_64 rfl rfl (by decide) rfl ?_
          refine J_iload (pc' := 67) (i := 5) (n := 5) dX10_where_65 rfl rfl ?_
          refine J_iload_n (pc' := 68) (i := 3) (n := 3) dX10_where_67 rfl rfl rfl ?_
          refine J_icmp_ge (pc' := 71) (tgt := 76) dX10_where_68 rfl (by decide) (fun c17 => ?_) (fun c17 => ?_)
          · replace h := j_ip c17 h
            refine J_iload_n (pc' := 77) (i := 3) (n := 3) dX10_where_76 rfl rfl rfl ?_
            refine J_istore_n (pc' := 78) (i := 3) (lv' := [(3, .int x3), (2, .int v14), (0, .ref 35), (1, .int x1), (4, .int x4), (5, .int v8)]) dX10_where_77 rfl rfl (by decide) rfl ?_
            refine J_iinc (pc' := 81) (i := 4) (n := 4) (v := (x4 + (1 : Int32))) (lv' := [(4, .int (x4 + (1 : Int32))), (3, .int x3), (2, .int v14), (0, .ref 35), (1, .int x1), (5, .int v8)]) dX10_where_78 rfl rfl (j_inc _ _ rfl _) (by decide) rfl ?_
            refine J_goto (pc' := 23) dX10_where_81 (by decide) ?_
            refine J_sub [3, 4, 2, 1, 0] (lv' := [(0, .ref 35), (1, .int x1), (2, .int v14), (3, .int x3), (4, .int (x4 + (1 : Int32)))]) rfl ?_
            exact ih g12 h hK
          · replace h := j_iq c17 h
            refine J_iload (pc' := 73) (i := 5) (n := 5) dX10_where_71 rfl rfl ?_
            refine J_goto (pc' := 77) dX10_where_73 (by decide) ?_
            refine J_istore_n (pc' := 78) (i := 3) (lv' := [(3, .int v8), (2, .int v14), (0, .ref 35), (1, .int x1), (4, .int x4), (5, .int v8)]) dX10_where_77 rfl rfl (by decide) rfl ?_
            refine J_iinc (pc' := 81) (i := 4) (n := 4) (v := (x4 + (1 : Int32))) (lv' := [(4, .int (x4 + (1 : Int32))), (3, .int v8), (2, .int v14), (0, .ref 35), (1, .int x1), (5, .int v8)]) dX10_where_78 rfl rfl (j_inc _ _ rfl _) (by decide) rfl ?_
            refine J_goto (pc' := 23) dX10_where_81 (by decide) ?_
            refine J_sub [3, 4, 2, 1, 0] (lv' := [(0, .ref 35), (1, .int x1), (2, .int v14), (3, .int v8), (4, .int (x4 + (1 : Int32)))]) rfl ?_
            exact ih g12 h hK
        · refine J_icmp_ge (pc' := 58) (tgt := 63) dX10_where_55 rfl (by decide) (fun c13 => ?_) (fun c13 => ?_)
          · replace h := j_ip c13 h
            refine J_iload_n (pc' := 64) (i := 2) (n := 3) dX10_where_63 rfl rfl rfl ?_
            refine J_sub [1, 2, 4, 5, 0] (lv' := [(0, .ref 35), (1, .int x1), (3, .int x3), (4, .int x4), (5, .int v8)]) rfl ?_
            exact h16 x2 h
          · replace h := j_iq c13 h
            refine J_iload (pc' := 60) (i := 4) (n := 5) dX10_where_58 rfl rfl ?_
            refine J_goto (pc' := 64) dX10_where_60 (by decide) ?_
            refine J_sub [1, 2, 4, 5, 0] (lv' := [(0, .ref 35), (1, .int x1), (3, .int x3), (4, .int x4), (5, .int v8)]) rfl ?_
            exact h16 x4 h
      · refine J_if_eq (pc' := 38) (tgt := 48) dX10_where_35 rfl (by decide) (fun c7 => ?_) (fun c7 => ?_)
        · replace h := j_ip c7 h
          refine J_ldc (pc' := 50) (v := (1000000 : Int32)) dX10_where_48 rfl wd_1101 ?_
          exact h11 (1000000 : Int32) M h hs
        · replace h := j_iq c7 h
          refine J_aload_n (pc' := 39) (i := 0) (n := 0) dX10_where_38 rfl rfl rfl ?_
          refine J_iload_n (pc' := 40) (i := 1) (n := 1) dX10_where_39 rfl rfl rfl ?_
          refine J_iload (pc' := 42) (i := 4) (n := 4) dX10_where_40 rfl rfl ?_
          obtain ⟨q18, e19, h⟩ := bi_inv h
          obtain ⟨c20, h⟩ := j_ck_inv h
          refine J_callV (pc' := 45) (as := [.int x1, .int x4]) (rest := []) dX10_where_42 rfl lk_X10_157 rfl 10 (by decide) rfl (m_o hs) (m_n hs (Nat.le_of_ble_eq_true rfl)) (c_X10_costOf hs e19) ⟨Nat.le_of_ble_eq_true rfl, Nat.le_of_ble_eq_true rfl⟩ (Nat.le_of_ble_eq_true rfl) ⟨Nat.le_of_ble_eq_true rfl, Nat.le_of_ble_eq_true rfl⟩ (j_kq ?_)
          have g21 : sh_m q18.2.2.2 := j_shE c20 hs
          refine J_goto (pc' := 50) dX10_where_45 (by decide) ?_
          exact h11 q18.1 q18.2 h g21
set_option maxHeartbeats 4000000 in
theorem c_X10_where {l : Launch} {G : j_G} {M : j_M} {x1 : Int32} (hs : sh_m M.2.2) {r : (Int32 × j_M)} (h : f_X10_where M x1 = some r) : j_Sp l G md_X10_where 6 (0, 0) [.ref 35, .int x1] M (po (some (.int r.1)) r.2) := by
  refine j_Sp.of (by decide) (Nat.le_of_ble_eq_true rfl) ?_
  show JT_X10_where l G r 0 [(0, .ref 35), (1, .int x1)] [] M
  unfold f_X10_where at h
  refine J_aload_n (pc' := 1) (i := 0) (n := 0) dX10_where_0 rfl rfl rfl ?_
  refine J_iload_n (pc' := 2) (i := 1) (n := 1) dX10_where_1 rfl rfl rfl ?_
  obtain ⟨v1, e2, h⟩ := bi_inv h
  refine J_callV (pc' := 5) (as := [.int x1]) (rest := []) dX10_where_2 rfl lk_X10_132 rfl 10 (by decide) rfl (m_o hs) (m_n hs (Nat.le_of_ble_eq_true rfl)) (c_X10_isOne hs e2) ⟨Nat.le_of_ble_eq_true rfl, Nat.le_of_ble_eq_true rfl⟩ (Nat.le_of_ble_eq_true rfl) ⟨Nat.le_of_ble_eq_true rfl, Nat.le_of_ble_eq_true rfl⟩ (j_kq ?_)
  refine J_if_ne (pc' := 8) (tgt := 15) dX10_where_5 rfl (by decide) (fun c3 => ?_) (fun c3 => ?_)
  · replace h := j_iq c3 h
    refine J_iconst (pc' := 16) (v := ((-1) : Int32)) dX10_where_15 rfl ic_m1 ?_
    refine J_istore_n (pc' := 17) (i := 2) (lv' := [(2, .int ((-1) : Int32)), (0, .ref 35), (1, .int x1)]) dX10_where_16 rfl rfl (by decide) rfl ?_
    refine J_ldc (pc' := 19) (v := (1000000 : Int32)) dX10_where_17 rfl wd_1101 ?_
    refine J_istore_n (pc' := 20) (i := 3) (lv' := [(3, .int (1000000 : Int32)), (2, .int ((-1) : Int32)), (0, .ref 35), (1, .int x1)]) dX10_where_19 rfl rfl (by decide) rfl ?_
    refine J_iconst (pc' := 21) (v := (0 : Int32)) dX10_where_20 rfl ic_0 ?_
    refine J_istore (pc' := 23) (i := 4) (lv' := [(4, .int (0 : Int32)), (3, .int (1000000 : Int32)), (2, .int ((-1) : Int32)), (0, .ref 35), (1, .int x1)]) dX10_where_21 rfl (by decide) rfl ?_
    refine J_sub [3, 4, 2, 1, 0] (lv' := [(0, .ref 35), (1, .int x1), (2, .int ((-1) : Int32)), (3, .int (1000000 : Int32)), (4, .int (0 : Int32))]) rfl ?_
    refine L_X10_where_L23 j_fu hs h (fun y22 y23 y24 M25 g26 h => ?_)
    refine J_iload_n (pc' := 85) (i := 2) (n := 0) dX10_where_84 rfl rfl rfl ?_
    exact J_iret rfl dX10_where_85 ⟨rfl, Nat.le_refl _⟩ (j_pW h)
  · replace h := j_ip c3 h
    refine J_aload_n (pc' := 9) (i := 0) (n := 0) dX10_where_8 rfl rfl rfl ?_
    refine J_bipush (pc' := 11) (v := ((-2) : Int32)) dX10_where_9 rfl bp_m2 ?_
    obtain ⟨q27, e28, h⟩ := bi_inv h
    obtain ⟨c29, h⟩ := j_ck_inv h
    refine J_callV (pc' := 14) (as := [.int ((-2) : Int32)]) (rest := []) dX10_where_11 rfl lk_X10_84 rfl 10 (by decide) rfl (m_o hs) (m_n hs (Nat.le_of_ble_eq_true rfl)) (c_X10_bad hs e28) ⟨Nat.le_of_ble_eq_true rfl, Nat.le_of_ble_eq_true rfl⟩ (Nat.le_of_ble_eq_true rfl) ⟨Nat.le_of_ble_eq_true rfl, Nat.le_of_ble_eq_true rfl⟩ (j_kq ?_)
    have g30 : sh_m q27.2.2.2 := j_shE c29 hs
    exact J_iret rfl dX10_where_14 ⟨rfl, Nat.le_refl _⟩ (j_pW h)
abbrev JT_X10_obey (l : Launch) (G : j_G) (r : (Int32 × j_M)) : Nat → List (Nat × Value) → List Value → j_M → Prop := JJ l G md_X10_obey (j_rm 2 (0, 0)) (0, 0) (0, 0) (po (some (.int r.1)) r.2)
noncomputable def f_X10_obey_L21 : Nat → j_M → Int32 → Int32 → Int32 → (Int32 → Int32 → Option (Int32 × j_M)) → Option (Int32 × j_M)
  | 0, _, _, _, _, _ => none
  | n + 1, M, x1, x2, x3, K =>
    (f_X10_many M).bind fun v4 => (if v4 ≤ x3 then (K x2 x3) else (jn (fun (v8 : Int32) => (a_i M 36 250 ((9 : Int32) + x3) fun v11 => (a_i M 36 250 ((4 : Int32) + v11) fun v13 => (tl (f_X10_signOf v8) fun v15 => (if v13 = v15 then (f_X10_obey_L21 n  M x1 (x2 ||| ((1 : Int32) <<< (x3 &&& 31))) (x3 + (1 : Int32)) K) else (f_X10_obey_L21 n  M x1 (x2 ||| (0 : Int32)) (x3 + (1 : Int32)) K)))))) (fun K9 => (if x1 = 0 then ((f_X10_paceOf M x3).bind fun v24 => (K9 v24)) else (a_i M 36 250 ((30 : Int32) + x3) fun v18 => ((f_X10_paceOf M x3).bind fun v20 => (tl (f_X10_believesAs v18 v20) fun v22 => (K9 v22))))))))
noncomputable def f_X10_obey (M : j_M) (x1 : Int32) : Option (Int32 × j_M) :=
  tl (f_X10_in (x1).toInt64 (0 : Int64) (1 : Int64)) fun v1 => (if v1 = 0 then ((f_X10_bad M ((-2) : Int32)).bind fun q28 => j_ck M q28.2 (some (q28.1, q28.2))) else (f_X10_obey_L21 j_fu  M x1 (0 : Int32) (0 : Int32) (fun (y26 : Int32) (y27 : Int32) => (some (y26, M)))))
set_option maxHeartbeats 4000000 in
theorem L_X10_obey_L21 {l : Launch} {G : j_G}  {r : (Int32 × j_M)} : ∀ (n : Nat) {x1 : Int32} {x2 : Int32} {x3 : Int32} {M : j_M} (hs : sh_m M.2.2) {K : Int32 → Int32 → Option (Int32 × j_M)}, f_X10_obey_L21 n  M x1 x2 x3 K = some r → (∀ (y2 : Int32) (y3 : Int32), K y2 y3 = some r → JT_X10_obey l G r 100 [(2, .int y2)] [] M) → JT_X10_obey l G r 21 [(0, .ref 35), (1, .int x1), (2, .int x2), (3, .int x3)] [] M := by
  intro n
  induction n with
  | zero =>
    intro x1 x2 x3 M hs K h hK
    rw [f_X10_obey_L21] at h; cases h
  | succ n ih =>
    intro x1 x2 x3 M hs K h hK
    rw [f_X10_obey_L21] at h
    refine J_iload_n (pc' := 22) (i := 3) (n := 3) dX10_obey_21 rfl rfl rfl ?_
    refine J_aload_n (pc' := 23) (i := 0) (n := 0) dX10_obey_22 rfl rfl rfl ?_
    obtain ⟨v4, e5, h⟩ := bi_inv h
    refine J_callV (pc' := 26) (as := []) (rest := [.int x3]) dX10_obey_23 rfl lk_X10_64 rfl 10 (by decide) rfl (m_o hs) (m_n hs (Nat.le_of_ble_eq_true rfl)) (c_X10_many hs e5) ⟨Nat.le_of_ble_eq_true rfl, Nat.le_of_ble_eq_true rfl⟩ (Nat.le_of_ble_eq_true rfl) ⟨Nat.le_of_ble_eq_true rfl, Nat.le_of_ble_eq_true rfl⟩ (j_kq ?_)
    refine J_icmp_ge (pc' := 29) (tgt := 100) dX10_obey_26 rfl (by decide) (fun c6 => ?_) (fun c6 => ?_)
    · replace h := j_ip c6 h
      refine J_sub [2] (lv' := [(2, .int x2)]) rfl ?_
      exact hK x2 x3  h
    · replace h := j_iq c6 h
      refine J_iload_n (pc' := 30) (i := 1) (n := 1) dX10_obey_29 rfl rfl rfl ?_
      refine J_join (C := fun (v8 : Int32) => JT_X10_obey l G r 58 [(0, .ref 35), (1, .int x1), (2, .int x2), (3, .int x3)] [.int v8] M) h (fun v8 h => ?_) (fun K9 h10 h => ?_)
      · refine J_istore (pc' := 60) (i := 4) (lv' := [(4, .int v8), (0, .ref 35), (1, .int x1), (2, .int x2), (3, .int x3)]) dX10_obey_58 rfl (by decide) rfl ?_
        refine J_iload_n (pc' := 61) (i := 2) (n := 3) dX10_obey_60 rfl rfl rfl ?_
        refine J_aload_n (pc' := 62) (i := 0) (n := 1) dX10_obey_61 rfl rfl rfl ?_
        refine J_getR (pc' := 65) (b := 36) dX10_obey_62 rfl fl_X10_7 rfl (m_o hs) (m_n hs (Nat.le_of_ble_eq_true rfl)) (m_r0 hs) ?_
        refine J_iconst (pc' := 66) (v := (4 : Int32)) dX10_obey_65 rfl ic_4 ?_
        refine J_aload_n (pc' := 67) (i := 0) (n := 1) dX10_obey_66 rfl rfl rfl ?_
        refine J_getR (pc' := 70) (b := 36) dX10_obey_67 rfl fl_X10_7 rfl (m_o hs) (m_n hs (Nat.le_of_ble_eq_true rfl)) (m_r0 hs) ?_
        refine J_bipush (pc' := 72) (v := (9 : Int32)) dX10_obey_70 rfl bp_9 ?_
        refine J_iload_n (pc' := 73) (i := 3) (n := 4) dX10_obey_72 rfl rfl rfl ?_
        refine J_iadd (pc' := 74) dX10_obey_73 rfl ?_
        obtain ⟨v11, e12, h⟩ := a_i_inv h
        refine J_ialde (pc' := 75) dX10_obey_74 rfl (m_s36 hs) (m_n hs (Nat.le_of_ble_eq_true rfl)) e12 ?_
        refine J_iadd (pc' := 76) dX10_obey_75 rfl ?_
        obtain ⟨v13, e14, h⟩ := a_i_inv h
        refine J_ialde (pc' := 77) dX10_obey_76 rfl (m_s36 hs) (m_n hs (Nat.le_of_ble_eq_true rfl)) e14 ?_
        refine J_iload (pc' := 79) (i := 4) (n := 0) dX10_obey_77 rfl rfl ?_
        obtain ⟨v15, e16, h⟩ := tl_inv h
        refine J_callS (pc' := 82) (as := [.int v8]) (rest := [.int v13, .int x2]) dX10_obey_79 rfl lk_X10_160 rfl (c_X10_signOf e16) ⟨Nat.le_of_ble_eq_true rfl, Nat.le_of_ble_eq_true rfl⟩ (Nat.le_of_ble_eq_true rfl) ⟨Nat.le_of_ble_eq_true rfl, Nat.le_of_ble_eq_true rfl⟩ (j_kq ?_)
        refine J_icmp_ne (pc' := 85) (tgt := 91) dX10_obey_82 rfl (by decide) (fun c17 => ?_) (fun c17 => ?_)
        · replace h := j_iq c17 h
          refine J_iconst (pc' := 92) (v := (0 : Int32)) dX10_obey_91 rfl ic_0 ?_
          refine J_ior (pc' := 93) dX10_obey_92 rfl ?_
          refine J_istore_n (pc' := 94) (i := 2) (lv' := [(2, .int (x2 ||| (0 : Int32))), (4, .int v8), (0, .ref 35), (1, .int x1), (3, .int x3)]) dX10_obey_93 rfl rfl (by decide) rfl ?_
          refine J_iinc (pc' := 97) (i := 3) (n := 4) (v := (x3 + (1 : Int32))) (lv' := [(3, .int (x3 + (1 : Int32))), (2, .int (x2 ||| (0 : Int32))), (4, .int v8), (0, .ref 35), (1, .int x1)]) dX10_obey_94 rfl rfl (j_inc _ _ rfl _) (by decide) rfl ?_
          refine J_goto (pc' := 21) dX10_obey_97 (by decide) ?_
          refine J_sub [3, 4, 1, 0] (lv' := [(0, .ref 35), (1, .int x1), (2, .int (x2 ||| (0 : Int32))), (3, .int (x3 + (1 : Int32)))]) rfl ?_
          exact ih hs h hK
        · replace h := j_ip c17 h
          refine J_iconst (pc' := 86) (v := (1 : Int32)) dX10_obey_85 rfl ic_1 ?_
          refine J_iload_n (pc' := 87) (i := 3) (n := 4) dX10_obey_86 rfl rfl rfl ?_
          refine J_ishl (pc' := 88) dX10_obey_87 rfl ?_
          refine J_goto (pc' := 92) dX10_obey_88 (by decide) ?_
          refine J_ior (pc' := 93) dX10_obey_92 rfl ?_
          refine J_istore_n (pc' := 94) (i := 2) (lv' := [(2, .int (x2 ||| ((1 : Int32) <<< (x3 &&& 31)))), (4, .int v8), (0, .ref 35), (1, .int x1), (3, .int x3)]) dX10_obey_93 rfl rfl (by decide) rfl ?_
          refine J_iinc (pc' := 97) (i := 3) (n := 4) (v := (x3 + (1 : Int32))) (lv' := [(3, .int (x3 + (1 : Int32))), (2, .int (x2 ||| ((1 : Int32) <<< (x3 &&& 31)))), (4, .int v8), (0, .ref 35), (1, .int x1)]) dX10_obey_94 rfl rfl (j_inc _ _ rfl _) (by decide) rfl ?_
          refine J_goto (pc' := 21) dX10_obey_97 (by decide) ?_
          refine J_sub [3, 4, 1, 0] (lv' := [(0, .ref 35), (1, .int x1), (2, .int (x2 ||| ((1 : Int32) <<< (x3 &&& 31)))), (3, .int (x3 + (1 : Int32)))]) rfl ?_
          exact ih hs h hK
      · refine J_if_ne (pc' := 33) (tgt := 41) dX10_obey_30 rfl (by decide) (fun c7 => ?_) (fun c7 => ?_)
        · replace h := j_iq c7 h
          refine J_aload_n (pc' := 42) (i := 0) (n := 0) dX10_obey_41 rfl rfl rfl ?_
          refine J_getR (pc' := 45) (b := 36) dX10_obey_42 rfl fl_X10_7 rfl (m_o hs) (m_n hs (Nat.le_of_ble_eq_true rfl)) (m_r0 hs) ?_
          refine J_bipush (pc' := 47) (v := (30 : Int32)) dX10_obey_45 rfl bp_30 ?_
          refine J_iload_n (pc' := 48) (i := 3) (n := 3) dX10_obey_47 rfl rfl rfl ?_
          refine J_iadd (pc' := 49) dX10_obey_48 rfl ?_
          obtain ⟨v18, e19, h⟩ := a_i_inv h
          refine J_ialde (pc' := 50) dX10_obey_49 rfl (m_s36 hs) (m_n hs (Nat.le_of_ble_eq_true rfl)) e19 ?_
          refine J_aload_n (pc' := 51) (i := 0) (n := 0) dX10_obey_50 rfl rfl rfl ?_
          refine J_iload_n (pc' := 52) (i := 3) (n := 3) dX10_obey_51 rfl rfl rfl ?_
          obtain ⟨v20, e21, h⟩ := bi_inv h
          refine J_callV (pc' := 55) (as := [.int x3]) (rest := [.int v18]) dX10_obey_52 rfl lk_X10_121 rfl 10 (by decide) rfl (m_o hs) (m_n hs (Nat.le_of_ble_eq_true rfl)) (c_X10_paceOf hs e21) ⟨Nat.le_of_ble_eq_true rfl, Nat.le_of_ble_eq_true rfl⟩ (Nat.le_of_ble_eq_true rfl) ⟨Nat.le_of_ble_eq_true rfl, Nat.le_of_ble_eq_true rfl⟩ (j_kq ?_)
          obtain ⟨v22, e23, h⟩ := tl_inv h
          refine J_callS (pc' := 58) (as := [.int v18, .int v20]) (rest := []) dX10_obey_55 rfl lk_X10_147 rfl (c_X10_believesAs e23) ⟨Nat.le_of_ble_eq_true rfl, Nat.le_of_ble_eq_true rfl⟩ (Nat.le_of_ble_eq_true rfl) ⟨Nat.le_of_ble_eq_true rfl, Nat.le_of_ble_eq_true rfl⟩ (j_kq ?_)
          exact h10 v22 h
        · replace h := j_ip c7 h
          refine J_aload_n (pc' := 34) (i := 0) (n := 0) dX10_obey_33 rfl rfl rfl ?_
          refine J_iload_n (pc' := 35) (i := 3) (n := 3) dX10_obey_34 rfl rfl rfl ?_
          obtain ⟨v24, e25, h⟩ := bi_inv h
          refine J_callV (pc' := 38) (as := [.int x3]) (rest := []) dX10_obey_35 rfl lk_X10_121 rfl 10 (by decide) rfl (m_o hs) (m_n hs (Nat.le_of_ble_eq_true rfl)) (c_X10_paceOf hs e25) ⟨Nat.le_of_ble_eq_true rfl, Nat.le_of_ble_eq_true rfl⟩ (Nat.le_of_ble_eq_true rfl) ⟨Nat.le_of_ble_eq_true rfl, Nat.le_of_ble_eq_true rfl⟩ (j_kq ?_)
          refine J_goto (pc' := 58) dX10_obey_38 (by decide) ?_
          exact h10 v24 h
set_option maxHeartbeats 4000000 in
theorem c_X10_obey {l : Launch} {G : j_G} {M : j_M} {x1 : Int32} (hs : sh_m M.2.2) {r : (Int32 × j_M)} (h : f_X10_obey M x1 = some r) : j_Sp l G md_X10_obey 2 (0, 0) [.ref 35, .int x1] M (po (some (.int r.1)) r.2) := by
  refine j_Sp.of (by decide) (Nat.le_of_ble_eq_true rfl) ?_
  show JT_X10_obey l G r 0 [(0, .ref 35), (1, .int x1)] [] M
  unfold f_X10_obey at h
  refine J_iload_n (pc' := 1) (i := 1) (n := 1) dX10_obey_0 rfl rfl rfl ?_
  refine J_i2l (pc' := 2) dX10_obey_1 rfl ?_
  refine J_lconst (pc' := 3) (v := (0 : Int64)) dX10_obey_2 rfl rfl ?_
  refine J_lconst (pc' := 4) (v := (1 : Int64)) dX10_obey_3 rfl rfl ?_
  obtain ⟨v1, e2, h⟩ := tl_inv h
  refine J_callS (pc' := 7) (as := [.long (x1).toInt64, .long (0 : Int64), .long (1 : Int64)]) (rest := []) dX10_obey_4 rfl lk_X10_68 rfl (c_X10_in e2) ⟨Nat.le_of_ble_eq_true rfl, Nat.le_of_ble_eq_true rfl⟩ (Nat.le_of_ble_eq_true rfl) ⟨Nat.le_of_ble_eq_true rfl, Nat.le_of_ble_eq_true rfl⟩ (j_kq ?_)
  refine J_if_ne (pc' := 10) (tgt := 17) dX10_obey_7 rfl (by decide) (fun c3 => ?_) (fun c3 => ?_)
  · replace h := j_iq c3 h
    refine J_iconst (pc' := 18) (v := (0 : Int32)) dX10_obey_17 rfl ic_0 ?_
    refine J_istore_n (pc' := 19) (i := 2) (lv' := [(2, .int (0 : Int32)), (0, .ref 35), (1, .int x1)]) dX10_obey_18 rfl rfl (by decide) rfl ?_
    refine J_iconst (pc' := 20) (v := (0 : Int32)) dX10_obey_19 rfl ic_0 ?_
    refine J_istore_n (pc' := 21) (i := 3) (lv' := [(3, .int (0 : Int32)), (2, .int (0 : Int32)), (0, .ref 35), (1, .int x1)]) dX10_obey_20 rfl rfl (by decide) rfl ?_
    refine J_sub [2, 3, 1, 0] (lv' := [(0, .ref 35), (1, .int x1), (2, .int (0 : Int32)), (3, .int (0 : Int32))]) rfl ?_
    refine L_X10_obey_L21 j_fu hs h (fun y26 y27 h => ?_)
    refine J_iload_n (pc' := 101) (i := 2) (n := 0) dX10_obey_100 rfl rfl rfl ?_
    exact J_iret rfl dX10_obey_101 ⟨rfl, Nat.le_refl _⟩ (j_pW h)
  · replace h := j_ip c3 h
    refine J_aload_n (pc' := 11) (i := 0) (n := 0) dX10_obey_10 rfl rfl rfl ?_
    refine J_bipush (pc' := 13) (v := ((-2) : Int32)) dX10_obey_11 rfl bp_m2 ?_
    obtain ⟨q28, e29, h⟩ := bi_inv h
    obtain ⟨c30, h⟩ := j_ck_inv h
    refine J_callV (pc' := 16) (as := [.int ((-2) : Int32)]) (rest := []) dX10_obey_13 rfl lk_X10_84 rfl 10 (by decide) rfl (m_o hs) (m_n hs (Nat.le_of_ble_eq_true rfl)) (c_X10_bad hs e29) ⟨Nat.le_of_ble_eq_true rfl, Nat.le_of_ble_eq_true rfl⟩ (Nat.le_of_ble_eq_true rfl) ⟨Nat.le_of_ble_eq_true rfl, Nat.le_of_ble_eq_true rfl⟩ (j_kq ?_)
    have g31 : sh_m q28.2.2.2 := j_shE c30 hs
    exact J_iret rfl dX10_obey_16 ⟨rfl, Nat.le_refl _⟩ (j_pW h)
abbrev JT_X10_sumAll (l : Launch) (G : j_G) (r : (Int32 × j_M)) : Nat → List (Nat × Value) → List Value → j_M → Prop := JJ l G md_X10_sumAll (j_rm 4 (0, 0)) (0, 0) (0, 0) (po (some (.int r.1)) r.2)
noncomputable def f_X10_sumAll_L4 : Nat → j_M → Int32 → Int32 → (Int32 → Int32 → j_M → Option (Int32 × j_M)) → Option (Int32 × j_M)
  | 0, _, _, _, _ => none
  | n + 1, M, x1, x2, K =>
    (f_X10_many M).bind fun v1 => (if v1 ≤ x2 then (K x1 x2 M) else (a_i M 40 7 x2 fun v4 => ((f_X10_secondsIn M x2 v4).bind fun q6 => j_ck M q6.2 (f_X10_sumAll_L4 n  q6.2 (x1 + q6.1) (x2 + (1 : Int32)) K))))
noncomputable def f_X10_sumAll (M : j_M)  : Option (Int32 × j_M) :=
  f_X10_sumAll_L4 j_fu  M (0 : Int32) (0 : Int32) (fun (y10 : Int32) (y11 : Int32) (M12 : j_M) => (some (y10, M12)))
set_option maxHeartbeats 4000000 in
theorem L_X10_sumAll_L4 {l : Launch} {G : j_G}  {r : (Int32 × j_M)} : ∀ (n : Nat) {x1 : Int32} {x2 : Int32} {M : j_M} (hs : sh_m M.2.2) {K : Int32 → Int32 → j_M → Option (Int32 × j_M)}, f_X10_sumAll_L4 n  M x1 x2 K = some r → (∀ (y1 : Int32) (y2 : Int32) (M1 : j_M), sh_m M1.2.2 → K y1 y2 M1 = some r → JT_X10_sumAll l G r 32 [(1, .int y1)] [] M1) → JT_X10_sumAll l G r 4 [(0, .ref 35), (1, .int x1), (2, .int x2)] [] M := by
  intro n
  induction n with
  | zero =>
    intro x1 x2 M hs K h hK
    rw [f_X10_sumAll_L4] at h; cases h
  | succ n ih =>
    intro x1 x2 M hs K h hK
    rw [f_X10_sumAll_L4] at h
    refine J_iload_n (pc' := 5) (i := 2) (n := 2) dX10_sumAll_4 rfl rfl rfl ?_
    refine J_aload_n (pc' := 6) (i := 0) (n := 0) dX10_sumAll_5 rfl rfl rfl ?_
    obtain ⟨v1, e2, h⟩ := bi_inv h
    refine J_callV (pc' := 9) (as := []) (rest := [.int x2]) dX10_sumAll_6 rfl lk_X10_64 rfl 10 (by decide) rfl (m_o hs) (m_n hs (Nat.le_of_ble_eq_true rfl)) (c_X10_many hs e2) ⟨Nat.le_of_ble_eq_true rfl, Nat.le_of_ble_eq_true rfl⟩ (Nat.le_of_ble_eq_true rfl) ⟨Nat.le_of_ble_eq_true rfl, Nat.le_of_ble_eq_true rfl⟩ (j_kq ?_)
    refine J_icmp_ge (pc' := 12) (tgt := 32) dX10_sumAll_9 rfl (by decide) (fun c3 => ?_) (fun c3 => ?_)
    · replace h := j_ip c3 h
      refine J_sub [1] (lv' := [(1, .int x1)]) rfl ?_
      exact hK x1 x2 M hs h
    · replace h := j_iq c3 h
      refine J_iload_n (pc' := 13) (i := 1) (n := 1) dX10_sumAll_12 rfl rfl rfl ?_
      refine J_aload_n (pc' := 14) (i := 0) (n := 0) dX10_sumAll_13 rfl rfl rfl ?_
      refine J_iload_n (pc' := 15) (i := 2) (n := 2) dX10_sumAll_14 rfl rfl rfl ?_
      refine J_aload_n (pc' := 16) (i := 0) (n := 0) dX10_sumAll_15 rfl rfl rfl ?_
      refine J_getR (pc' := 19) (b := 40) dX10_sumAll_16 rfl fl_X10_27 rfl (m_o hs) (m_n hs (Nat.le_of_ble_eq_true rfl)) (m_r6 hs) ?_
      refine J_iload_n (pc' := 20) (i := 2) (n := 2) dX10_sumAll_19 rfl rfl rfl ?_
      obtain ⟨v4, e5, h⟩ := a_i_inv h
      refine J_ialde (pc' := 21) dX10_sumAll_20 rfl (m_s40 hs) (m_n hs (Nat.le_of_ble_eq_true rfl)) e5 ?_
      obtain ⟨q6, e7, h⟩ := bi_inv h
      obtain ⟨c8, h⟩ := j_ck_inv h
      refine J_callV (pc' := 24) (as := [.int x2, .int v4]) (rest := [.int x1]) dX10_sumAll_21 rfl lk_X10_143 rfl 10 (by decide) rfl (m_o hs) (m_n hs (Nat.le_of_ble_eq_true rfl)) (c_X10_secondsIn hs e7) ⟨Nat.le_of_ble_eq_true rfl, Nat.le_of_ble_eq_true rfl⟩ (Nat.le_of_ble_eq_true rfl) ⟨Nat.le_of_ble_eq_true rfl, Nat.le_of_ble_eq_true rfl⟩ (j_kq ?_)
      have g9 : sh_m q6.2.2.2 := j_shE c8 hs
      refine J_iadd (pc' := 25) dX10_sumAll_24 rfl ?_
      refine J_istore_n (pc' := 26) (i := 1) (lv' := [(1, .int (x1 + q6.1)), (0, .ref 35), (2, .int x2)]) dX10_sumAll_25 rfl rfl (by decide) rfl ?_
      refine J_iinc (pc' := 29) (i := 2) (n := 2) (v := (x2 + (1 : Int32))) (lv' := [(2, .int (x2 + (1 : Int32))), (1, .int (x1 + q6.1)), (0, .ref 35)]) dX10_sumAll_26 rfl rfl (j_inc _ _ rfl _) (by decide) rfl ?_
      refine J_goto (pc' := 4) dX10_sumAll_29 (by decide) ?_
      refine J_sub [2, 1, 0] (lv' := [(0, .ref 35), (1, .int (x1 + q6.1)), (2, .int (x2 + (1 : Int32)))]) rfl ?_
      exact ih g9 h hK
set_option maxHeartbeats 4000000 in
theorem c_X10_sumAll {l : Launch} {G : j_G} {M : j_M}  (hs : sh_m M.2.2) {r : (Int32 × j_M)} (h : f_X10_sumAll M  = some r) : j_Sp l G md_X10_sumAll 4 (0, 0) [.ref 35] M (po (some (.int r.1)) r.2) := by
  refine j_Sp.of (by decide) (Nat.le_of_ble_eq_true rfl) ?_
  show JT_X10_sumAll l G r 0 [(0, .ref 35)] [] M
  unfold f_X10_sumAll at h
  refine J_iconst (pc' := 1) (v := (0 : Int32)) dX10_sumAll_0 rfl ic_0 ?_
  refine J_istore_n (pc' := 2) (i := 1) (lv' := [(1, .int (0 : Int32)), (0, .ref 35)]) dX10_sumAll_1 rfl rfl (by decide) rfl ?_
  refine J_iconst (pc' := 3) (v := (0 : Int32)) dX10_sumAll_2 rfl ic_0 ?_
  refine J_istore_n (pc' := 4) (i := 2) (lv' := [(2, .int (0 : Int32)), (1, .int (0 : Int32)), (0, .ref 35)]) dX10_sumAll_3 rfl rfl (by decide) rfl ?_
  refine J_sub [2, 1, 0] (lv' := [(0, .ref 35), (1, .int (0 : Int32)), (2, .int (0 : Int32))]) rfl ?_
  refine L_X10_sumAll_L4 j_fu hs h (fun y10 y11 M12 g13 h => ?_)
  refine J_iload_n (pc' := 33) (i := 1) (n := 0) dX10_sumAll_32 rfl rfl rfl ?_
  exact J_iret rfl dX10_sumAll_33 ⟨rfl, Nat.le_refl _⟩ (j_pW h)
abbrev JT_X10_layLies (l : Launch) (G : j_G) (r : (Int32 × j_M)) : Nat → List (Nat × Value) → List Value → j_M → Prop := JJ l G md_X10_layLies (j_rm 3 (0, 0)) (0, 0) (0, 0) (po (some (.int r.1)) r.2)
noncomputable def f_X10_layLies_L4 : Nat → j_M → Int32 → Int32 → Int32 → (Int32 → Int32 → j_M → Option (Int32 × j_M)) → Option (Int32 × j_M)
  | 0, _, _, _, _, _ => none
  | n + 1, M, x1, x2, x3, K =>
    (f_X10_many M).bind fun v1 => (if v1 ≤ x3 then (K x2 x3 M) else ((f_X10_many M).bind fun v4 => (w_i M 40 7 x3 ((x1 >>> (((2 : Int32) * ((v4 - (1 : Int32)) - x3)) &&& 31)) &&& (3 : Int32)) fun M6 => (if x2 = 0 then (f_X10_layLies_L4 n  M6 x1 (0 : Int32) (x3 + (1 : Int32)) K) else (a_i M6 40 7 x3 fun v10 => ((f_X10_isOpen M6 v10).bind fun v12 => (if v12 = 0 then (f_X10_layLies_L4 n  M6 x1 (0 : Int32) (x3 + (1 : Int32)) K) else (f_X10_layLies_L4 n  M6 x1 (1 : Int32) (x3 + (1 : Int32)) K))))))))
noncomputable def f_X10_layLies (M : j_M) (x1 : Int32) : Option (Int32 × j_M) :=
  f_X10_layLies_L4 j_fu  M x1 (1 : Int32) (0 : Int32) (fun (y15 : Int32) (y16 : Int32) (M17 : j_M) => (z_b y15 (some (y15, M17))))
set_option maxHeartbeats 4000000 in
theorem L_X10_layLies_L4 {l : Launch} {G : j_G}  {r : (Int32 × j_M)} : ∀ (n : Nat) {x1 : Int32} {x2 : Int32} {x3 : Int32} {M : j_M} (hs : sh_m M.2.2) {K : Int32 → Int32 → j_M → Option (Int32 × j_M)}, f_X10_layLies_L4 n  M x1 x2 x3 K = some r → (∀ (y2 : Int32) (y3 : Int32) (M1 : j_M), sh_m M1.2.2 → K y2 y3 M1 = some r → JT_X10_layLies l G r 61 [(2, .int y2)] [] M1) → JT_X10_layLies l G r 4 [(0, .ref 35), (1, .int x1), (2, .int x2), (3, .int x3)] [] M := by
  intro n
  induction n with
  | zero =>
    intro x1 x2 x3 M hs K h hK
    rw [f_X10_layLies_L4] at h; cases h
  | succ n ih =>
    intro x1 x2 x3 M hs K h hK
    rw [f_X10_layLies_L4] at h
    refine J_iload_n (pc' := 5) (i := 3) (n := 3) dX10_layLies_4 rfl rfl rfl ?_
    refine J_aload_n (pc' := 6) (i := 0) (n := 0) dX10_layLies_5 rfl rfl rfl ?_
    obtain ⟨v1, e2, h⟩ := bi_inv h
    refine J_callV (pc' := 9) (as := []) (rest := [.int x3]) dX10_layLies_6 rfl lk_X10_64 rfl 10 (by decide) rfl (m_o hs) (m_n hs (Nat.le_of_ble_eq_true rfl)) (c_X10_many hs e2) ⟨Nat.le_of_ble_eq_true rfl, Nat.le_of_ble_eq_true rfl⟩ (Nat.le_of_ble_eq_true rfl) ⟨Nat.le_of_ble_eq_true rfl, Nat.le_of_ble_eq_true rfl⟩ (j_kq ?_)
    refine J_icmp_ge (pc' := 12) (tgt := 61) dX10_layLies_9 rfl (by decide) (fun c3 => ?_) (fun c3 => ?_)
    · replace h := j_ip c3 h
      refine J_sub [2] (lv' := [(2, .int x2)]) rfl ?_
      exact hK x2 x3 M hs h
    · replace h := j_iq c3 h
      refine J_aload_n (pc' := 13) (i := 0) (n := 0) dX10_layLies_12 rfl rfl rfl ?_
      refine J_getR (pc' := 16) (b := 40) dX10_layLies_13 rfl fl_X10_27 rfl (m_o hs) (m_n hs (Nat.le_of_ble_eq_true rfl)) (m_r6 hs) ?_
      refine J_iload_n (pc' := 17) (i := 3) (n := 3) dX10_layLies_16 rfl rfl rfl ?_
      refine J_iload_n (pc' := 18) (i := 1) (n := 1) dX10_layLies_17 rfl rfl rfl ?_
      refine J_iconst (pc' := 19) (v := (2 : Int32)) dX10_layLies_18 rfl ic_2 ?_
      refine J_aload_n (pc' := 20) (i := 0) (n := 0) dX10_layLies_19 rfl rfl rfl ?_
      obtain ⟨v4, e5, h⟩ := bi_inv h
      refine J_callV (pc' := 23) (as := []) (rest := [.int (2 : Int32), .int x1, .int x3, .ref 40]) dX10_layLies_20 rfl lk_X10_64 rfl 10 (by decide) rfl (m_o hs) (m_n hs (Nat.le_of_ble_eq_true rfl)) (c_X10_many hs e5) ⟨Nat.le_of_ble_eq_true rfl, Nat.le_of_ble_eq_true rfl⟩ (Nat.le_of_ble_eq_true rfl) ⟨Nat.le_of_ble_eq_true rfl, Nat.le_of_ble_eq_true rfl⟩ (j_kq ?_)
      refine J_iconst (pc' := 24) (v := (1 : Int32)) dX10_layLies_23 rfl ic_1 ?_
      refine J_isub (pc' := 25) dX10_layLies_24 rfl ?_
      refine J_iload_n (pc' := 26) (i := 3) (n := 3) dX10_layLies_25 rfl rfl rfl ?_
      refine J_isub (pc' := 27) dX10_layLies_26 rfl ?_
      refine J_imul (pc' := 28) dX10_layLies_27 rfl ?_
      refine J_ishr (pc' := 29) dX10_layLies_28 rfl ?_
      refine J_iconst (pc' := 30) (v := (3 : Int32)) dX10_layLies_29 rfl ic_3 ?_
      refine J_iand (pc' := 31) dX10_layLies_30 rfl ?_
      obtain ⟨M6, e7, h⟩ := w_i_inv h
      have g8 : sh_m M6.2.2 := j_shI e7.2 hs
      refine J_iaste (pc' := 32) dX10_layLies_31 rfl (m_s40 hs) (m_n hs (Nat.le_of_ble_eq_true rfl)) e7 ?_
      refine J_iload_n (pc' := 33) (i := 2) (n := 2) dX10_layLies_32 rfl rfl rfl ?_
      refine J_if_eq (pc' := 36) (tgt := 53) dX10_layLies_33 rfl (by decide) (fun c9 => ?_) (fun c9 => ?_)
      · replace h := j_ip c9 h
        refine J_iconst (pc' := 54) (v := (0 : Int32)) dX10_layLies_53 rfl ic_0 ?_
        refine J_istore_n (pc' := 55) (i := 2) (lv' := [(2, .int (0 : Int32)), (0, .ref 35), (1, .int x1), (3, .int x3)]) dX10_layLies_54 rfl rfl (by decide) rfl ?_
        refine J_iinc (pc' := 58) (i := 3) (n := 3) (v := (x3 + (1 : Int32))) (lv' := [(3, .int (x3 + (1 : Int32))), (2, .int (0 : Int32)), (0, .ref 35), (1, .int x1)]) dX10_layLies_55 rfl rfl (j_inc _ _ rfl _) (by decide) rfl ?_
        refine J_goto (pc' := 4) dX10_layLies_58 (by decide) ?_
        refine J_sub [2, 3, 1, 0] (lv' := [(0, .ref 35), (1, .int x1), (2, .int (0 : Int32)), (3, .int (x3 + (1 : Int32)))]) rfl ?_
        exact ih g8 h hK
      · replace h := j_iq c9 h
        refine J_aload_n (pc' := 37) (i := 0) (n := 0) dX10_layLies_36 rfl rfl rfl ?_
        refine J_aload_n (pc' := 38) (i := 0) (n := 0) dX10_layLies_37 rfl rfl rfl ?_
        refine J_getR (pc' := 41) (b := 40) dX10_layLies_38 rfl fl_X10_27 rfl (m_o g8) (m_n g8 (Nat.le_of_ble_eq_true rfl)) (m_r6 g8) ?_
        refine J_iload_n (pc' := 42) (i := 3) (n := 3) dX10_layLies_41 rfl rfl rfl ?_
        obtain ⟨v10, e11, h⟩ := a_i_inv h
        refine J_ialde (pc' := 43) dX10_layLies_42 rfl (m_s40 g8) (m_n g8 (Nat.le_of_ble_eq_true rfl)) e11 ?_
        obtain ⟨v12, e13, h⟩ := bi_inv h
        refine J_callV (pc' := 46) (as := [.int v10]) (rest := []) dX10_layLies_43 rfl lk_X10_101 rfl 10 (by decide) rfl (m_o g8) (m_n g8 (Nat.le_of_ble_eq_true rfl)) (c_X10_isOpen g8 e13) ⟨Nat.le_of_ble_eq_true rfl, Nat.le_of_ble_eq_true rfl⟩ (Nat.le_of_ble_eq_true rfl) ⟨Nat.le_of_ble_eq_true rfl, Nat.le_of_ble_eq_true rfl⟩ (j_kq ?_)
        refine J_if_eq (pc' := 49) (tgt := 53) dX10_layLies_46 rfl (by decide) (fun c14 => ?_) (fun c14 => ?_)
        · replace h := j_ip c14 h
          refine J_iconst (pc' := 54) (v := (0 : Int32)) dX10_layLies_53 rfl ic_0 ?_
          refine J_istore_n (pc' := 55) (i := 2) (lv' := [(2, .int (0 : Int32)), (0, .ref 35), (1, .int x1), (3, .int x3)]) dX10_layLies_54 rfl rfl (by decide) rfl ?_
          refine J_iinc (pc' := 58) (i := 3) (n := 3) (v := (x3 + (1 : Int32))) (lv' := [(3, .int (x3 + (1 : Int32))), (2, .int (0 : Int32)), (0, .ref 35), (1, .int x1)]) dX10_layLies_55 rfl rfl (j_inc _ _ rfl _) (by decide) rfl ?_
          refine J_goto (pc' := 4) dX10_layLies_58 (by decide) ?_
          refine J_sub [2, 3, 1, 0] (lv' := [(0, .ref 35), (1, .int x1), (2, .int (0 : Int32)), (3, .int (x3 + (1 : Int32)))]) rfl ?_
          exact ih g8 h hK
        · replace h := j_iq c14 h
          refine J_iconst (pc' := 50) (v := (1 : Int32)) dX10_layLies_49 rfl ic_1 ?_
          refine J_goto (pc' := 54) dX10_layLies_50 (by decide) ?_
          refine J_istore_n (pc' := 55) (i := 2) (lv' := [(2, .int (1 : Int32)), (0, .ref 35), (1, .int x1), (3, .int x3)]) dX10_layLies_54 rfl rfl (by decide) rfl ?_
          refine J_iinc (pc' := 58) (i := 3) (n := 3) (v := (x3 + (1 : Int32))) (lv' := [(3, .int (x3 + (1 : Int32))), (2, .int (1 : Int32)), (0, .ref 35), (1, .int x1)]) dX10_layLies_55 rfl rfl (j_inc _ _ rfl _) (by decide) rfl ?_
          refine J_goto (pc' := 4) dX10_layLies_58 (by decide) ?_
          refine J_sub [2, 3, 1, 0] (lv' := [(0, .ref 35), (1, .int x1), (2, .int (1 : Int32)), (3, .int (x3 + (1 : Int32)))]) rfl ?_
          exact ih g8 h hK
set_option maxHeartbeats 4000000 in
theorem c_X10_layLies {l : Launch} {G : j_G} {M : j_M} {x1 : Int32} (hs : sh_m M.2.2) {r : (Int32 × j_M)} (h : f_X10_layLies M x1 = some r) : j_Sp l G md_X10_layLies 3 (0, 0) [.ref 35, .int x1] M (po (some (.int r.1)) r.2) := by
  refine j_Sp.of (by decide) (Nat.le_of_ble_eq_true rfl) ?_
  show JT_X10_layLies l G r 0 [(0, .ref 35), (1, .int x1)] [] M
  unfold f_X10_layLies at h
  refine J_iconst (pc' := 1) (v := (1 : Int32)) dX10_layLies_0 rfl ic_1 ?_
  refine J_istore_n (pc' := 2) (i := 2) (lv' := [(2, .int (1 : Int32)), (0, .ref 35), (1, .int x1)]) dX10_layLies_1 rfl rfl (by decide) rfl ?_
  refine J_iconst (pc' := 3) (v := (0 : Int32)) dX10_layLies_2 rfl ic_0 ?_
  refine J_istore_n (pc' := 4) (i := 3) (lv' := [(3, .int (0 : Int32)), (2, .int (1 : Int32)), (0, .ref 35), (1, .int x1)]) dX10_layLies_3 rfl rfl (by decide) rfl ?_
  refine J_sub [2, 3, 1, 0] (lv' := [(0, .ref 35), (1, .int x1), (2, .int (1 : Int32)), (3, .int (0 : Int32))]) rfl ?_
  refine L_X10_layLies_L4 j_fu hs h (fun y15 y16 M17 g18 h => ?_)
  refine J_iload_n (pc' := 62) (i := 2) (n := 0) dX10_layLies_61 rfl rfl rfl ?_
  obtain ⟨hz, h⟩ := z_b_inv h
  exact J_zret (ty := .boolean) rfl (j_zb hz) dX10_layLies_62 ⟨rfl, Nat.le_refl _⟩ (j_pW h)
abbrev JT_X10_all (l : Launch) (G : j_G) (r : (Int32 × j_M)) : Nat → List (Nat × Value) → List Value → j_M → Prop := JJ l G md_X10_all (j_rm 5 (0, 0)) (0, 0) (0, 0) (po (some (.int r.1)) r.2)
noncomputable def f_X10_all_L64 : Nat → j_M → Int32 → Int32 → Int32 → Int32 → Int32 → (Int32 → j_M → Option (Int32 × j_M)) → Option (Int32 × j_M)
  | 0, _, _, _, _, _, _, _ => none
  | n + 1, M, x1, x2, x3, x4, x5, K =>
    (f_X10_many M).bind fun v19 => (if v19 ≤ x5 then (K x5 M) else (if x2 ≤ x4 then (K x5 M) else (a_i M 40 7 x5 fun v23 => (w_i M 41 7 x5 v23 fun M25 => (f_X10_all_L64 n  M25 x1 x2 x3 x4 (x5 + (1 : Int32)) K)))))
noncomputable def f_X10_all_L30 : Nat → j_M → Int32 → Int32 → Int32 → (Int32 → Int32 → j_M → Option (Int32 × j_M)) → Option (Int32 × j_M)
  | 0, _, _, _, _, _ => none
  | n + 1, M, x1, x2, x3, K =>
    (f_X10_many M).bind fun v6 => (if ((1 : Int32) <<< (((2 : Int32) * v6) &&& 31)) ≤ x3 then (K x2 x3 M) else ((f_X10_layLies M x3).bind fun q9 => j_ck M q9.2 (jn2 (fun (v14 : Int32) (M15 : j_M) => (f_X10_all_L64 j_fu  M15 x1 x2 x3 v14 (0 : Int32) (fun (y28 : Int32) (M29 : j_M) => (if x2 ≤ v14 then (f_X10_all_L30 n  M29 x1 x2 (x3 + (1 : Int32)) K) else (f_X10_all_L30 n  M29 x1 v14 (x3 + (1 : Int32)) K))))) (fun K16 => (if q9.1 = 0 then (K16 (1000000 : Int32) q9.2) else ((f_X10_sumAll q9.2).bind fun q32 => j_ck q9.2 q32.2 (K16 q32.1 q32.2)))))))
noncomputable def f_X10_all (M : j_M) (x1 : Int32) : Option (Int32 × j_M) :=
  (f_X10_many M).bind fun v1 => (tl (f_X10_in (x1).toInt64 ((-1) : Int64) ((v1 - (1 : Int32))).toInt64) fun v3 => (if v3 = 0 then ((f_X10_bad M ((-10) : Int32)).bind fun q43 => j_ck M q43.2 (some (q43.1, q43.2))) else (f_X10_all_L30 j_fu  M x1 (1000000 : Int32) (0 : Int32) (fun (y36 : Int32) (y37 : Int32) (M38 : j_M) => (if x1 = ((-1) : Int32) then (some (y36, M38)) else (a_i M38 41 7 x1 fun v41 => (some (v41, M38))))))))
set_option maxHeartbeats 4000000 in
theorem L_X10_all_L64 {l : Launch} {G : j_G}  {r : (Int32 × j_M)} : ∀ (n : Nat) {x1 : Int32} {x2 : Int32} {x3 : Int32} {x4 : Int32} {x5 : Int32} {M : j_M} (hs : sh_m M.2.2) {K : Int32 → j_M → Option (Int32 × j_M)}, f_X10_all_L64 n  M x1 x2 x3 x4 x5 K = some r → (∀ (y5 : Int32) (M1 : j_M), sh_m M1.2.2 → K y5 M1 = some r → JT_X10_all l G r 99 [(0, .ref 35), (1, .int x1), (2, .int x2), (3, .int x3), (4, .int x4)] [] M1) → JT_X10_all l G r 64 [(0, .ref 35), (1, .int x1), (2, .int x2), (3, .int x3), (4, .int x4), (5, .int x5)] [] M := by
  intro n
  induction n with
  | zero =>
    intro x1 x2 x3 x4 x5 M hs K h hK
    rw [f_X10_all_L64] at h; cases h
  | succ n ih =>
    intro x1 x2 x3 x4 x5 M hs K h hK
    rw [f_X10_all_L64] at h
    refine J_iload (pc' := 66) (i := 5) (n := 5) dX10_all_64 rfl rfl ?_
    refine J_aload_n (pc' := 67) (i := 0) (n := 0) dX10_all_66 rfl rfl rfl ?_
    obtain ⟨v19, e20, h⟩ := bi_inv h
    refine J_callV (pc' := 70) (as := []) (rest := [.int x5]) dX10_all_67 rfl lk_X10_64 rfl 10 (by decide) rfl (m_o hs) (m_n hs (Nat.le_of_ble_eq_true rfl)) (c_X10_many hs e20) ⟨Nat.le_of_ble_eq_true rfl, Nat.le_of_ble_eq_true rfl⟩ (Nat.le_of_ble_eq_true rfl) ⟨Nat.le_of_ble_eq_true rfl, Nat.le_of_ble_eq_true rfl⟩ (j_kq ?_)
    refine J_icmp_ge (pc' := 73) (tgt := 99) dX10_all_70 rfl (by decide) (fun c21 => ?_) (fun c21 => ?_)
    · replace h := j_ip c21 h
      refine J_sub [0, 1, 2, 3, 4] (lv' := [(0, .ref 35), (1, .int x1), (2, .int x2), (3, .int x3), (4, .int x4)]) rfl ?_
      exact hK x5 M hs h
    · replace h := j_iq c21 h
      refine J_iload (pc' := 75) (i := 4) (n := 4) dX10_all_73 rfl rfl ?_
      refine J_iload_n (pc' := 76) (i := 2) (n := 2) dX10_all_75 rfl rfl rfl ?_
      refine J_icmp_ge (pc' := 79) (tgt := 99) dX10_all_76 rfl (by decide) (fun c22 => ?_) (fun c22 => ?_)
      · replace h := j_ip c22 h
        refine J_sub [0, 1, 2, 3, 4] (lv' := [(0, .ref 35), (1, .int x1), (2, .int x2), (3, .int x3), (4, .int x4)]) rfl ?_
        exact hK x5 M hs h
      · replace h := j_iq c22 h
        refine J_aload_n (pc' := 80) (i := 0) (n := 0) dX10_all_79 rfl rfl rfl ?_
        refine J_getR (pc' := 83) (b := 41) dX10_all_80 rfl fl_X10_30 rfl (m_o hs) (m_n hs (Nat.le_of_ble_eq_true rfl)) (m_r10 hs) ?_
        refine J_iload (pc' := 85) (i := 5) (n := 5) dX10_all_83 rfl rfl ?_
        refine J_aload_n (pc' := 86) (i := 0) (n := 0) dX10_all_85 rfl rfl rfl ?_
        refine J_getR (pc' := 89) (b := 40) dX10_all_86 rfl fl_X10_27 rfl (m_o hs) (m_n hs (Nat.le_of_ble_eq_true rfl)) (m_r6 hs) ?_
        refine J_iload (pc' := 91) (i := 5) (n := 5) dX10_all_89 rfl rfl ?_
        obtain ⟨v23, e24, h⟩ := a_i_inv h
        refine J_ialde (pc' := 92) dX10_all_91 rfl (m_s40 hs) (m_n hs (Nat.le_of_ble_eq_true rfl)) e24 ?_
        obtain ⟨M25, e26, h⟩ := w_i_inv h
        have g27 : sh_m M25.2.2 := j_shI e26.2 hs
        refine J_iaste (pc' := 93) dX10_all_92 rfl (m_s41 hs) (m_n hs (Nat.le_of_ble_eq_true rfl)) e26 ?_
        refine J_iinc (pc' := 96) (i := 5) (n := 5) (v := (x5 + (1 : Int32))) (lv' := [(5, .int (x5 + (1 : Int32))), (0, .ref 35), (1, .int x1), (2, .int x2), (3, .int x3), (4, .int x4)]) dX10_all_93 rfl rfl (j_inc _ _ rfl _) (by decide) rfl ?_
        refine J_goto (pc' := 64) dX10_all_96 (by decide) ?_
        refine J_sub [1, 2, 3, 4, 5, 0] (lv' := [(0, .ref 35), (1, .int x1), (2, .int x2), (3, .int x3), (4, .int x4), (5, .int (x5 + (1 : Int32)))]) rfl ?_
        exact ih g27 h hK
set_option maxHeartbeats 4000000 in
theorem L_X10_all_L30 {l : Launch} {G : j_G}  {r : (Int32 × j_M)} : ∀ (n : Nat) {x1 : Int32} {x2 : Int32} {x3 : Int32} {M : j_M} (hs : sh_m M.2.2) {K : Int32 → Int32 → j_M → Option (Int32 × j_M)}, f_X10_all_L30 n  M x1 x2 x3 K = some r → (∀ (y2 : Int32) (y3 : Int32) (M1 : j_M), sh_m M1.2.2 → K y2 y3 M1 = some r → JT_X10_all l G r 118 [(0, .ref 35), (1, .int x1), (2, .int y2)] [] M1) → JT_X10_all l G r 30 [(0, .ref 35), (1, .int x1), (2, .int x2), (3, .int x3)] [] M := by
  intro n
  induction n with
  | zero =>
    intro x1 x2 x3 M hs K h hK
    rw [f_X10_all_L30] at h; cases h
  | succ n ih =>
    intro x1 x2 x3 M hs K h hK
    rw [f_X10_all_L30] at h
    refine J_iload_n (pc' := 31) (i := 3) (n := 3) dX10_all_30 rfl rfl rfl ?_
    refine J_iconst (pc' := 32) (v := (1 : Int32)) dX10_all_31 rfl ic_1 ?_
    refine J_iconst (pc' := 33) (v := (2 : Int32)) dX10_all_32 rfl ic_2 ?_
    refine J_aload_n (pc' := 34) (i := 0) (n := 0) dX10_all_33 rfl rfl rfl ?_
    obtain ⟨v6, e7, h⟩ := bi_inv h
    refine J_callV (pc' := 37) (as := []) (rest := [.int (2 : Int32), .int (1 : Int32), .int x3]) dX10_all_34 rfl lk_X10_64 rfl 10 (by decide) rfl (m_o hs) (m_n hs (Nat.le_of_ble_eq_true rfl)) (c_X10_many hs e7) ⟨Nat.le_of_ble_eq_true rfl, Nat.le_of_ble_eq_true rfl⟩ (Nat.le_of_ble_eq_true rfl) ⟨Nat.le_of_ble_eq_true rfl, Nat.le_of_ble_eq_true rfl⟩ (j_kq ?_)
    refine J_imul (pc' := 38) dX10_all_37 rfl ?_
    refine J_ishl (pc' := 39) dX10_all_38 rfl ?_
    refine J_icmp_ge (pc' := 42) (tgt := 118) dX10_all_39 rfl (by decide) (fun c8 => ?_) (fun c8 => ?_)
    · replace h := j_ip c8 h
      refine J_sub [0, 1, 2] (lv' := [(0, .ref 35), (1, .int x1), (2, .int x2)]) rfl ?_
      exact hK x2 x3 M hs h
    · replace h := j_iq c8 h
      refine J_aload_n (pc' := 43) (i := 0) (n := 0) dX10_all_42 rfl rfl rfl ?_
      refine J_iload_n (pc' := 44) (i := 3) (n := 3) dX10_all_43 rfl rfl rfl ?_
      obtain ⟨q9, e10, h⟩ := bi_inv h
      obtain ⟨c11, h⟩ := j_ck_inv h
      refine J_callV (pc' := 47) (as := [.int x3]) (rest := []) dX10_all_44 rfl lk_X10_165 rfl 10 (by decide) rfl (m_o hs) (m_n hs (Nat.le_of_ble_eq_true rfl)) (c_X10_layLies hs e10) ⟨Nat.le_of_ble_eq_true rfl, Nat.le_of_ble_eq_true rfl⟩ (Nat.le_of_ble_eq_true rfl) ⟨Nat.le_of_ble_eq_true rfl, Nat.le_of_ble_eq_true rfl⟩ (j_kq ?_)
      have g12 : sh_m q9.2.2.2 := j_shE c11 hs
      refine J_join2 (C := fun (v14 : Int32) (M15 : j_M) => sh_m M15.2.2 → JT_X10_all l G r 59 [(0, .ref 35), (1, .int x1), (2, .int x2), (3, .int x3)] [.int v14] M15) h (fun v14 M15 h => ?_) (fun K16 h17 h => ?_)
      · intro g18
        refine J_istore (pc' := 61) (i := 4) (lv' := [(4, .int v14), (0, .ref 35), (1, .int x1), (2, .int x2), (3, .int x3)]) dX10_all_59 rfl (by decide) rfl ?_
        refine J_iconst (pc' := 62) (v := (0 : Int32)) dX10_all_61 rfl ic_0 ?_
        refine J_istore (pc' := 64) (i := 5) (lv' := [(5, .int (0 : Int32)), (4, .int v14), (0, .ref 35), (1, .int x1), (2, .int x2), (3, .int x3)]) dX10_all_62 rfl (by decide) rfl ?_
        refine J_sub [2, 3, 4, 5, 1, 0] (lv' := [(0, .ref 35), (1, .int x1), (2, .int x2), (3, .int x3), (4, .int v14), (5, .int (0 : Int32))]) rfl ?_
        refine L_X10_all_L64 j_fu g18 h (fun y28 M29 g30 h => ?_)
        refine J_iload (pc' := 101) (i := 4) (n := 4) dX10_all_99 rfl rfl ?_
        refine J_iload_n (pc' := 102) (i := 2) (n := 2) dX10_all_101 rfl rfl rfl ?_
        refine J_icmp_ge (pc' := 105) (tgt := 110) dX10_all_102 rfl (by decide) (fun c31 => ?_) (fun c31 => ?_)
        · replace h := j_ip c31 h
          refine J_iload_n (pc' := 111) (i := 2) (n := 2) dX10_all_110 rfl rfl rfl ?_
          refine J_istore_n (pc' := 112) (i := 2) (lv' := [(2, .int x2), (0, .ref 35), (1, .int x1), (3, .int x3), (4, .int v14)]) dX10_all_111 rfl rfl (by decide) rfl ?_
          refine J_iinc (pc' := 115) (i := 3) (n := 3) (v := (x3 + (1 : Int32))) (lv' := [(3, .int (x3 + (1 : Int32))), (2, .int x2), (0, .ref 35), (1, .int x1), (4, .int v14)]) dX10_all_112 rfl rfl (j_inc _ _ rfl _) (by decide) rfl ?_
          refine J_goto (pc' := 30) dX10_all_115 (by decide) ?_
          refine J_sub [2, 3, 1, 0] (lv' := [(0, .ref 35), (1, .int x1), (2, .int x2), (3, .int (x3 + (1 : Int32)))]) rfl ?_
          exact ih g30 h hK
        · replace h := j_iq c31 h
          refine J_iload (pc' := 107) (i := 4) (n := 4) dX10_all_105 rfl rfl ?_
          refine J_goto (pc' := 111) dX10_all_107 (by decide) ?_
          refine J_istore_n (pc' := 112) (i := 2) (lv' := [(2, .int v14), (0, .ref 35), (1, .int x1), (3, .int x3), (4, .int v14)]) dX10_all_111 rfl rfl (by decide) rfl ?_
          refine J_iinc (pc' := 115) (i := 3) (n := 3) (v := (x3 + (1 : Int32))) (lv' := [(3, .int (x3 + (1 : Int32))), (2, .int v14), (0, .ref 35), (1, .int x1), (4, .int v14)]) dX10_all_112 rfl rfl (j_inc _ _ rfl _) (by decide) rfl ?_
          refine J_goto (pc' := 30) dX10_all_115 (by decide) ?_
          refine J_sub [2, 3, 1, 0] (lv' := [(0, .ref 35), (1, .int x1), (2, .int v14), (3, .int (x3 + (1 : Int32)))]) rfl ?_
          exact ih g30 h hK
      · refine J_if_eq (pc' := 50) (tgt := 57) dX10_all_47 rfl (by decide) (fun c13 => ?_) (fun c13 => ?_)
        · replace h := j_ip c13 h
          refine J_ldc (pc' := 59) (v := (1000000 : Int32)) dX10_all_57 rfl wd_1101 ?_
          exact h17 (1000000 : Int32) q9.2 h g12
        · replace h := j_iq c13 h
          refine J_aload_n (pc' := 51) (i := 0) (n := 0) dX10_all_50 rfl rfl rfl ?_
          obtain ⟨q32, e33, h⟩ := bi_inv h
          obtain ⟨c34, h⟩ := j_ck_inv h
          refine J_callV (pc' := 54) (as := []) (rest := []) dX10_all_51 rfl lk_X10_168 rfl 10 (by decide) rfl (m_o g12) (m_n g12 (Nat.le_of_ble_eq_true rfl)) (c_X10_sumAll g12 e33) ⟨Nat.le_of_ble_eq_true rfl, Nat.le_of_ble_eq_true rfl⟩ (Nat.le_of_ble_eq_true rfl) ⟨Nat.le_of_ble_eq_true rfl, Nat.le_of_ble_eq_true rfl⟩ (j_kq ?_)
          have g35 : sh_m q32.2.2.2 := j_shE c34 g12
          refine J_goto (pc' := 59) dX10_all_54 (by decide) ?_
          exact h17 q32.1 q32.2 h g35
set_option maxHeartbeats 4000000 in
theorem c_X10_all {l : Launch} {G : j_G} {M : j_M} {x1 : Int32} (hs : sh_m M.2.2) {r : (Int32 × j_M)} (h : f_X10_all M x1 = some r) : j_Sp l G md_X10_all 5 (0, 0) [.ref 35, .int x1] M (po (some (.int r.1)) r.2) := by
  refine j_Sp.of (by decide) (Nat.le_of_ble_eq_true rfl) ?_
  show JT_X10_all l G r 0 [(0, .ref 35), (1, .int x1)] [] M
  unfold f_X10_all at h
  refine J_iload_n (pc' := 1) (i := 1) (n := 1) dX10_all_0 rfl rfl rfl ?_
  refine J_i2l (pc' := 2) dX10_all_1 rfl ?_
  refine J_ldc2 (pc' := 5) (v := ((-1) : Int64)) dX10_all_2 rfl wd_1129 ?_
  refine J_aload_n (pc' := 6) (i := 0) (n := 0) dX10_all_5 rfl rfl rfl ?_
  obtain ⟨v1, e2, h⟩ := bi_inv h
  refine J_callV (pc' := 9) (as := []) (rest := [.long ((-1) : Int64), .long (x1).toInt64]) dX10_all_6 rfl lk_X10_64 rfl 10 (by decide) rfl (m_o hs) (m_n hs (Nat.le_of_ble_eq_true rfl)) (c_X10_many hs e2) ⟨Nat.le_of_ble_eq_true rfl, Nat.le_of_ble_eq_true rfl⟩ (Nat.le_of_ble_eq_true rfl) ⟨Nat.le_of_ble_eq_true rfl, Nat.le_of_ble_eq_true rfl⟩ (j_kq ?_)
  refine J_iconst (pc' := 10) (v := (1 : Int32)) dX10_all_9 rfl ic_1 ?_
  refine J_isub (pc' := 11) dX10_all_10 rfl ?_
  refine J_i2l (pc' := 12) dX10_all_11 rfl ?_
  obtain ⟨v3, e4, h⟩ := tl_inv h
  refine J_callS (pc' := 15) (as := [.long (x1).toInt64, .long ((-1) : Int64), .long ((v1 - (1 : Int32))).toInt64]) (rest := []) dX10_all_12 rfl lk_X10_68 rfl (c_X10_in e4) ⟨Nat.le_of_ble_eq_true rfl, Nat.le_of_ble_eq_true rfl⟩ (Nat.le_of_ble_eq_true rfl) ⟨Nat.le_of_ble_eq_true rfl, Nat.le_of_ble_eq_true rfl⟩ (j_kq ?_)
  refine J_if_ne (pc' := 18) (tgt := 25) dX10_all_15 rfl (by decide) (fun c5 => ?_) (fun c5 => ?_)
  · replace h := j_iq c5 h
    refine J_ldc (pc' := 27) (v := (1000000 : Int32)) dX10_all_25 rfl wd_1101 ?_
    refine J_istore_n (pc' := 28) (i := 2) (lv' := [(2, .int (1000000 : Int32)), (0, .ref 35), (1, .int x1)]) dX10_all_27 rfl rfl (by decide) rfl ?_
    refine J_iconst (pc' := 29) (v := (0 : Int32)) dX10_all_28 rfl ic_0 ?_
    refine J_istore_n (pc' := 30) (i := 3) (lv' := [(3, .int (0 : Int32)), (2, .int (1000000 : Int32)), (0, .ref 35), (1, .int x1)]) dX10_all_29 rfl rfl (by decide) rfl ?_
    refine J_sub [2, 3, 1, 0] (lv' := [(0, .ref 35), (1, .int x1), (2, .int (1000000 : Int32)), (3, .int (0 : Int32))]) rfl ?_
    refine L_X10_all_L30 j_fu hs h (fun y36 y37 M38 g39 h => ?_)
    refine J_iload_n (pc' := 119) (i := 1) (n := 1) dX10_all_118 rfl rfl rfl ?_
    refine J_iconst (pc' := 120) (v := ((-1) : Int32)) dX10_all_119 rfl ic_m1 ?_
    refine J_icmp_ne (pc' := 123) (tgt := 127) dX10_all_120 rfl (by decide) (fun c40 => ?_) (fun c40 => ?_)
    · replace h := j_iq c40 h
      refine J_aload_n (pc' := 128) (i := 0) (n := 0) dX10_all_127 rfl rfl rfl ?_
      refine J_getR (pc' := 131) (b := 41) dX10_all_128 rfl fl_X10_30 rfl (m_o g39) (m_n g39 (Nat.le_of_ble_eq_true rfl)) (m_r10 g39) ?_
      refine J_iload_n (pc' := 132) (i := 1) (n := 1) dX10_all_131 rfl rfl rfl ?_
      obtain ⟨v41, e42, h⟩ := a_i_inv h
      refine J_ialde (pc' := 133) dX10_all_132 rfl (m_s41 g39) (m_n g39 (Nat.le_of_ble_eq_true rfl)) e42 ?_
      exact J_iret rfl dX10_all_133 ⟨rfl, Nat.le_refl _⟩ (j_pW h)
    · replace h := j_ip c40 h
      refine J_iload_n (pc' := 124) (i := 2) (n := 2) dX10_all_123 rfl rfl rfl ?_
      refine J_goto (pc' := 133) dX10_all_124 (by decide) ?_
      exact J_iret rfl dX10_all_133 ⟨rfl, Nat.le_refl _⟩ (j_pW h)
  · replace h := j_ip c5 h
    refine J_aload_n (pc' := 19) (i := 0) (n := 0) dX10_all_18 rfl rfl rfl ?_
    refine J_bipush (pc' := 21) (v := ((-10) : Int32)) dX10_all_19 rfl bp_m10 ?_
    obtain ⟨q43, e44, h⟩ := bi_inv h
    obtain ⟨c45, h⟩ := j_ck_inv h
    refine J_callV (pc' := 24) (as := [.int ((-10) : Int32)]) (rest := []) dX10_all_21 rfl lk_X10_84 rfl 10 (by decide) rfl (m_o hs) (m_n hs (Nat.le_of_ble_eq_true rfl)) (c_X10_bad hs e44) ⟨Nat.le_of_ble_eq_true rfl, Nat.le_of_ble_eq_true rfl⟩ (Nat.le_of_ble_eq_true rfl) ⟨Nat.le_of_ble_eq_true rfl, Nat.le_of_ble_eq_true rfl⟩ (j_kq ?_)
    have g46 : sh_m q43.2.2.2 := j_shE c45 hs
    exact J_iret rfl dX10_all_24 ⟨rfl, Nat.le_refl _⟩ (j_pW h)
abbrev JT_X10_changes (l : Launch) (G : j_G) (r : (Int32 × j_M)) : Nat → List (Nat × Value) → List Value → j_M → Prop := JJ l G md_X10_changes (j_rm 5 (0, 0)) (0, 0) (0, 0) (po (some (.int r.1)) r.2)
noncomputable def f_X10_changes_L42 : Nat → j_M → Int32 → Int32 → Int32 → Int32 → (Int32 → Int32 → Int32 → j_M → Option (Int32 × j_M)) → Option (Int32 × j_M)
  | 0, _, _, _, _, _, _ => none
  | n + 1, M, x1, x2, x3, x4, K =>
    (f_X10_many M).bind fun v11 => (if v11 ≤ x4 then (K x2 x3 x4 M) else (if (60 : Int32) ≤ x2 then (K x2 x3 x4 M) else ((f_X10_bestOf M x4).bind fun q15 => j_ck M q15.2 ((f_X10_secondsIn q15.2 x4 q15.1).bind fun q19 => j_ck q15.2 q19.2 (a_i q19.2 40 7 x4 fun v23 => ((f_X10_secondsIn q19.2 x4 v23).bind fun q25 => j_ck q19.2 q25.2 (if q25.1 ≤ q19.1 then (f_X10_changes_L42 n  q25.2 x1 x2 x3 (x4 + (1 : Int32)) K) else (w_i q25.2 40 7 x4 q15.1 fun M30 => (f_X10_changes_L42 n  M30 x1 (x2 + (1 : Int32)) (1 : Int32) (x4 + (1 : Int32)) K)))))))))
noncomputable def f_X10_changes_L33 : Nat → j_M → Int32 → Int32 → Int32 → (Int32 → Int32 → j_M → Option (Int32 × j_M)) → Option (Int32 × j_M)
  | 0, _, _, _, _, _ => none
  | n + 1, M, x1, x2, x3, K =>
    if x3 = 0 then (K x2 x3 M) else (f_X10_changes_L42 j_fu  M x1 x2 (0 : Int32) (0 : Int32) (fun (y33 : Int32) (y34 : Int32) (y35 : Int32) (M36 : j_M) => (if y34 = 0 then (f_X10_changes_L33 n  M36 x1 y33 (0 : Int32) K) else (if (60 : Int32) ≤ y33 then (f_X10_changes_L33 n  M36 x1 y33 (0 : Int32) K) else (f_X10_changes_L33 n  M36 x1 y33 (1 : Int32) K)))))
noncomputable def f_X10_changes (M : j_M) (x1 : Int32) : Option (Int32 × j_M) :=
  (f_X10_many M).bind fun v1 => (tl (f_X10_in (x1).toInt64 ((-1) : Int64) ((v1 - (1 : Int32))).toInt64) fun v3 => (if v3 = 0 then ((f_X10_bad M ((-10) : Int32)).bind fun q47 => j_ck M q47.2 (some (q47.1, q47.2))) else ((f_X10_layHand M).bind fun q6 => j_ck M q6 (f_X10_changes_L33 j_fu  q6 x1 (0 : Int32) (1 : Int32) (fun (y40 : Int32) (y41 : Int32) (M42 : j_M) => (if x1 = ((-1) : Int32) then (some (y40, M42)) else (a_i M42 40 7 x1 fun v45 => (some (v45, M42)))))))))
set_option maxHeartbeats 4000000 in
theorem L_X10_changes_L42 {l : Launch} {G : j_G}  {r : (Int32 × j_M)} : ∀ (n : Nat) {x1 : Int32} {x2 : Int32} {x3 : Int32} {x4 : Int32} {M : j_M} (hs : sh_m M.2.2) {K : Int32 → Int32 → Int32 → j_M → Option (Int32 × j_M)}, f_X10_changes_L42 n  M x1 x2 x3 x4 K = some r → (∀ (y2 : Int32) (y3 : Int32) (y4 : Int32) (M1 : j_M), sh_m M1.2.2 → K y2 y3 y4 M1 = some r → JT_X10_changes l G r 109 [(0, .ref 35), (1, .int x1), (2, .int y2), (3, .int y3)] [] M1) → JT_X10_changes l G r 42 [(0, .ref 35), (1, .int x1), (2, .int x2), (3, .int x3), (4, .int x4)] [] M := by
  intro n
  induction n with
  | zero =>
    intro x1 x2 x3 x4 M hs K h hK
    rw [f_X10_changes_L42] at h; cases h
  | succ n ih =>
    intro x1 x2 x3 x4 M hs K h hK
    rw [f_X10_changes_L42] at h
    refine J_iload (pc' := 44) (i := 4) (n := 4) dX10_changes_42 rfl rfl ?_
    refine J_aload_n (pc' := 45) (i := 0) (n := 0) dX10_changes_44 rfl rfl rfl ?_
    obtain ⟨v11, e12, h⟩ := bi_inv h
    refine J_callV (pc' := 48) (as := []) (rest := [.int x4]) dX10_changes_45 rfl lk_X10_64 rfl 10 (by decide) rfl (m_o hs) (m_n hs (Nat.le_of_ble_eq_true rfl)) (c_X10_many hs e12) ⟨Nat.le_of_ble_eq_true rfl, Nat.le_of_ble_eq_true rfl⟩ (Nat.le_of_ble_eq_true rfl) ⟨Nat.le_of_ble_eq_true rfl, Nat.le_of_ble_eq_true rfl⟩ (j_kq ?_)
    refine J_icmp_ge (pc' := 51) (tgt := 109) dX10_changes_48 rfl (by decide) (fun c13 => ?_) (fun c13 => ?_)
    · replace h := j_ip c13 h
      refine J_sub [0, 1, 2, 3] (lv' := [(0, .ref 35), (1, .int x1), (2, .int x2), (3, .int x3)]) rfl ?_
      exact hK x2 x3 x4 M hs h
    · replace h := j_iq c13 h
      refine J_iload_n (pc' := 52) (i := 2) (n := 2) dX10_changes_51 rfl rfl rfl ?_
      refine J_bipush (pc' := 54) (v := (60 : Int32)) dX10_changes_52 rfl bp_60 ?_
      refine J_icmp_ge (pc' := 57) (tgt := 109) dX10_changes_54 rfl (by decide) (fun c14 => ?_) (fun c14 => ?_)
      · replace h := j_ip c14 h
        refine J_sub [0, 1, 2, 3] (lv' := [(0, .ref 35), (1, .int x1), (2, .int x2), (3, .int x3)]) rfl ?_
        exact hK x2 x3 x4 M hs h
      · replace h := j_iq c14 h
        refine J_aload_n (pc' := 58) (i := 0) (n := 0) dX10_changes_57 rfl rfl rfl ?_
        refine J_iload (pc' := 60) (i := 4) (n := 4) dX10_changes_58 rfl rfl ?_
        obtain ⟨q15, e16, h⟩ := bi_inv h
        obtain ⟨c17, h⟩ := j_ck_inv h
        refine J_callV (pc' := 63) (as := [.int x4]) (rest := []) dX10_changes_60 rfl lk_X10_151 rfl 10 (by decide) rfl (m_o hs) (m_n hs (Nat.le_of_ble_eq_true rfl)) (c_X10_bestOf hs e16) ⟨Nat.le_of_ble_eq_true rfl, Nat.le_of_ble_eq_true rfl⟩ (Nat.le_of_ble_eq_true rfl) ⟨Nat.le_of_ble_eq_true rfl, Nat.le_of_ble_eq_true rfl⟩ (j_kq ?_)
        have g18 : sh_m q15.2.2.2 := j_shE c17 hs
        refine J_istore (pc' := 65) (i := 5) (lv' := [(5, .int q15.1), (0, .ref 35), (1, .int x1), (2, .int x2), (3, .int x3), (4, .int x4)]) dX10_changes_63 rfl (by decide) rfl ?_
        refine J_aload_n (pc' := 66) (i := 0) (n := 1) dX10_changes_65 rfl rfl rfl ?_
        refine J_iload (pc' := 68) (i := 4) (n := 5) dX10_changes_66 rfl rfl ?_
        refine J_iload (pc' := 70) (i := 5) (n := 0) dX10_changes_68 rfl rfl ?_
        obtain ⟨q19, e20, h⟩ := bi_inv h
        obtain ⟨c21, h⟩ := j_ck_inv h
        refine J_callV (pc' := 73) (as := [.int x4, .int q15.1]) (rest := []) dX10_changes_70 rfl lk_X10_143 rfl 10 (by decide) rfl (m_o g18) (m_n g18 (Nat.le_of_ble_eq_true rfl)) (c_X10_secondsIn g18 e20) ⟨Nat.le_of_ble_eq_true rfl, Nat.le_of_ble_eq_true rfl⟩ (Nat.le_of_ble_eq_true rfl) ⟨Nat.le_of_ble_eq_true rfl, Nat.le_of_ble_eq_true rfl⟩ (j_kq ?_)
        have g22 : sh_m q19.2.2.2 := j_shE c21 g18
        refine J_aload_n (pc' := 74) (i := 0) (n := 1) dX10_changes_73 rfl rfl rfl ?_
        refine J_iload (pc' := 76) (i := 4) (n := 5) dX10_changes_74 rfl rfl ?_
        refine J_aload_n (pc' := 77) (i := 0) (n := 1) dX10_changes_76 rfl rfl rfl ?_
        refine J_getR (pc' := 80) (b := 40) dX10_changes_77 rfl fl_X10_27 rfl (m_o g22) (m_n g22 (Nat.le_of_ble_eq_true rfl)) (m_r6 g22) ?_
        refine J_iload (pc' := 82) (i := 4) (n := 5) dX10_changes_80 rfl rfl ?_
        obtain ⟨v23, e24, h⟩ := a_i_inv h
        refine J_ialde (pc' := 83) dX10_changes_82 rfl (m_s40 g22) (m_n g22 (Nat.le_of_ble_eq_true rfl)) e24 ?_
        obtain ⟨q25, e26, h⟩ := bi_inv h
        obtain ⟨c27, h⟩ := j_ck_inv h
        refine J_callV (pc' := 86) (as := [.int x4, .int v23]) (rest := [.int q19.1]) dX10_changes_83 rfl lk_X10_143 rfl 10 (by decide) rfl (m_o g22) (m_n g22 (Nat.le_of_ble_eq_true rfl)) (c_X10_secondsIn g22 e26) ⟨Nat.le_of_ble_eq_true rfl, Nat.le_of_ble_eq_true rfl⟩ (Nat.le_of_ble_eq_true rfl) ⟨Nat.le_of_ble_eq_true rfl, Nat.le_of_ble_eq_true rfl⟩ (j_kq ?_)
        have g28 : sh_m q25.2.2.2 := j_shE c27 g22
        refine J_icmp_ge (pc' := 89) (tgt := 103) dX10_changes_86 rfl (by decide) (fun c29 => ?_) (fun c29 => ?_)
        · replace h := j_ip c29 h
          refine J_iinc (pc' := 106) (i := 4) (n := 5) (v := (x4 + (1 : Int32))) (lv' := [(4, .int (x4 + (1 : Int32))), (5, .int q15.1), (0, .ref 35), (1, .int x1), (2, .int x2), (3, .int x3)]) dX10_changes_103 rfl rfl (j_inc _ _ rfl _) (by decide) rfl ?_
          refine J_goto (pc' := 42) dX10_changes_106 (by decide) ?_
          refine J_sub [2, 3, 4, 5, 0] (lv' := [(0, .ref 35), (1, .int x1), (2, .int x2), (3, .int x3), (4, .int (x4 + (1 : Int32)))]) rfl ?_
          exact ih g28 h hK
        · replace h := j_iq c29 h
          refine J_aload_n (pc' := 90) (i := 0) (n := 1) dX10_changes_89 rfl rfl rfl ?_
          refine J_getR (pc' := 93) (b := 40) dX10_changes_90 rfl fl_X10_27 rfl (m_o g28) (m_n g28 (Nat.le_of_ble_eq_true rfl)) (m_r6 g28) ?_
          refine J_iload (pc' := 95) (i := 4) (n := 5) dX10_changes_93 rfl rfl ?_
          refine J_iload (pc' := 97) (i := 5) (n := 0) dX10_changes_95 rfl rfl ?_
          obtain ⟨M30, e31, h⟩ := w_i_inv h
          have g32 : sh_m M30.2.2 := j_shI e31.2 g28
          refine J_iaste (pc' := 98) dX10_changes_97 rfl (m_s40 g28) (m_n g28 (Nat.le_of_ble_eq_true rfl)) e31 ?_
          refine J_iconst (pc' := 99) (v := (1 : Int32)) dX10_changes_98 rfl ic_1 ?_
          refine J_istore_n (pc' := 100) (i := 3) (lv' := [(3, .int (1 : Int32)), (5, .int q15.1), (0, .ref 35), (1, .int x1), (2, .int x2), (4, .int x4)]) dX10_changes_99 rfl rfl (by decide) rfl ?_
          refine J_iinc (pc' := 103) (i := 2) (n := 4) (v := (x2 + (1 : Int32))) (lv' := [(2, .int (x2 + (1 : Int32))), (3, .int (1 : Int32)), (5, .int q15.1), (0, .ref 35), (1, .int x1), (4, .int x4)]) dX10_changes_100 rfl rfl (j_inc _ _ rfl _) (by decide) rfl ?_
          refine J_iinc (pc' := 106) (i := 4) (n := 5) (v := (x4 + (1 : Int32))) (lv' := [(4, .int (x4 + (1 : Int32))), (2, .int (x2 + (1 : Int32))), (3, .int (1 : Int32)), (5, .int q15.1), (0, .ref 35), (1, .int x1)]) dX10_changes_103 rfl rfl (j_inc _ _ rfl _) (by decide) rfl ?_
          refine J_goto (pc' := 42) dX10_changes_106 (by decide) ?_
          refine J_sub [4, 5, 1, 2, 0] (lv' := [(0, .ref 35), (1, .int x1), (2, .int (x2 + (1 : Int32))), (3, .int (1 : Int32)), (4, .int (x4 + (1 : Int32)))]) rfl ?_
          exact ih g32 h hK
set_option maxHeartbeats 4000000 in
theorem L_X10_changes_L33 {l : Launch} {G : j_G}  {r : (Int32 × j_M)} : ∀ (n : Nat) {x1 : Int32} {x2 : Int32} {x3 : Int32} {M : j_M} (hs : sh_m M.2.2) {K : Int32 → Int32 → j_M → Option (Int32 × j_M)}, f_X10_changes_L33 n  M x1 x2 x3 K = some r → (∀ (y2 : Int32) (y3 : Int32) (M1 : j_M), sh_m M1.2.2 → K y2 y3 M1 = some r → JT_X10_changes l G r 128 [(0, .ref 35), (1, .int x1), (2, .int y2)] [] M1) → JT_X10_changes l G r 33 [(0, .ref 35), (1, .int x1), (2, .int x2), (3, .int x3)] [] M := by
  intro n
  induction n with
  | zero =>
    intro x1 x2 x3 M hs K h hK
    rw [f_X10_changes_L33] at h; cases h
  | succ n ih =>
    intro x1 x2 x3 M hs K h hK
    rw [f_X10_changes_L33] at h
    refine J_iload_n (pc' := 34) (i := 3) (n := 3) dX10_changes_33 rfl rfl rfl ?_
    refine J_if_eq (pc' := 37) (tgt := 128) dX10_changes_34 rfl (by decide) (fun c10 => ?_) (fun c10 => ?_)
    · replace h := j_ip c10 h
      refine J_sub [0, 1, 2] (lv' := [(0, .ref 35), (1, .int x1), (2, .int x2)]) rfl ?_
      exact hK x2 x3 M hs h
    · replace h := j_iq c10 h
      refine J_iconst (pc' := 38) (v := (0 : Int32)) dX10_changes_37 rfl ic_0 ?_
      refine J_istore_n (pc' := 39) (i := 3) (lv' := [(3, .int (0 : Int32)), (0, .ref 35), (1, .int x1), (2, .int x2)]) dX10_changes_38 rfl rfl (by decide) rfl ?_
      refine J_iconst (pc' := 40) (v := (0 : Int32)) dX10_changes_39 rfl ic_0 ?_
      refine J_istore (pc' := 42) (i := 4) (lv' := [(4, .int (0 : Int32)), (3, .int (0 : Int32)), (0, .ref 35), (1, .int x1), (2, .int x2)]) dX10_changes_40 rfl (by decide) rfl ?_
      refine J_sub [2, 3, 4, 1, 0] (lv' := [(0, .ref 35), (1, .int x1), (2, .int x2), (3, .int (0 : Int32)), (4, .int (0 : Int32))]) rfl ?_
      refine L_X10_changes_L42 j_fu hs h (fun y33 y34 y35 M36 g37 h => ?_)
      refine J_iload_n (pc' := 110) (i := 3) (n := 3) dX10_changes_109 rfl rfl rfl ?_
      refine J_if_eq (pc' := 113) (tgt := 123) dX10_changes_110 rfl (by decide) (fun c38 => ?_) (fun c38 => ?_)
      · replace h := j_ip c38 h
        refine J_iconst (pc' := 124) (v := (0 : Int32)) dX10_changes_123 rfl ic_0 ?_
        refine J_istore_n (pc' := 125) (i := 3) (lv' := [(3, .int (0 : Int32)), (0, .ref 35), (1, .int x1), (2, .int y33)]) dX10_changes_124 rfl rfl (by decide) rfl ?_
        refine J_goto (pc' := 33) dX10_changes_125 (by decide) ?_
        refine J_sub [1, 2, 3, 0] (lv' := [(0, .ref 35), (1, .int x1), (2, .int y33), (3, .int (0 : Int32))]) rfl ?_
        exact ih g37 h hK
      · replace h := j_iq c38 h
        refine J_iload_n (pc' := 114) (i := 2) (n := 2) dX10_changes_113 rfl rfl rfl ?_
        refine J_bipush (pc' := 116) (v := (60 : Int32)) dX10_changes_114 rfl bp_60 ?_
        refine J_icmp_ge (pc' := 119) (tgt := 123) dX10_changes_116 rfl (by decide) (fun c39 => ?_) (fun c39 => ?_)
        · replace h := j_ip c39 h
          refine J_iconst (pc' := 124) (v := (0 : Int32)) dX10_changes_123 rfl ic_0 ?_
          refine J_istore_n (pc' := 125) (i := 3) (lv' := [(3, .int (0 : Int32)), (0, .ref 35), (1, .int x1), (2, .int y33)]) dX10_changes_124 rfl rfl (by decide) rfl ?_
          refine J_goto (pc' := 33) dX10_changes_125 (by decide) ?_
          refine J_sub [1, 2, 3, 0] (lv' := [(0, .ref 35), (1, .int x1), (2, .int y33), (3, .int (0 : Int32))]) rfl ?_
          exact ih g37 h hK
        · replace h := j_iq c39 h
          refine J_iconst (pc' := 120) (v := (1 : Int32)) dX10_changes_119 rfl ic_1 ?_
          refine J_goto (pc' := 124) dX10_changes_120 (by decide) ?_
          refine J_istore_n (pc' := 125) (i := 3) (lv' := [(3, .int (1 : Int32)), (0, .ref 35), (1, .int x1), (2, .int y33)]) dX10_changes_124 rfl rfl (by decide) rfl ?_
          refine J_goto (pc' := 33) dX10_changes_125 (by decide) ?_
          refine J_sub [1, 2, 3, 0] (lv' := [(0, .ref 35), (1, .int x1), (2, .int y33), (3, .int (1 : Int32))]) rfl ?_
          exact ih g37 h hK
set_option maxHeartbeats 4000000 in
theorem c_X10_changes {l : Launch} {G : j_G} {M : j_M} {x1 : Int32} (hs : sh_m M.2.2) {r : (Int32 × j_M)} (h : f_X10_changes M x1 = some r) : j_Sp l G md_X10_changes 5 (0, 0) [.ref 35, .int x1] M (po (some (.int r.1)) r.2) := by
  refine j_Sp.of (by decide) (Nat.le_of_ble_eq_true rfl) ?_
  show JT_X10_changes l G r 0 [(0, .ref 35), (1, .int x1)] [] M
  unfold f_X10_changes at h
  refine J_iload_n (pc' := 1) (i := 1) (n := 1) dX10_changes_0 rfl rfl rfl ?_
  refine J_i2l (pc' := 2) dX10_changes_1 rfl ?_
  refine J_ldc2 (pc' := 5) (v := ((-1) : Int64)) dX10_changes_2 rfl wd_1129 ?_
  refine J_aload_n (pc' := 6) (i := 0) (n := 0) dX10_changes_5 rfl rfl rfl ?_
  obtain ⟨v1, e2, h⟩ := bi_inv h
  refine J_callV (pc' := 9) (as := []) (rest := [.long ((-1) : Int64), .long (x1).toInt64]) dX10_changes_6 rfl lk_X10_64 rfl 10 (by decide) rfl (m_o hs) (m_n hs (Nat.le_of_ble_eq_true rfl)) (c_X10_many hs e2) ⟨Nat.le_of_ble_eq_true rfl, Nat.le_of_ble_eq_true rfl⟩ (Nat.le_of_ble_eq_true rfl) ⟨Nat.le_of_ble_eq_true rfl, Nat.le_of_ble_eq_true rfl⟩ (j_kq ?_)
  refine J_iconst (pc' := 10) (v := (1 : Int32)) dX10_changes_9 rfl ic_1 ?_
  refine J_isub (pc' := 11) dX10_changes_10 rfl ?_
  refine J_i2l (pc' := 12) dX10_changes_11 rfl ?_
  obtain ⟨v3, e4, h⟩ := tl_inv h
  refine J_callS (pc' := 15) (as := [.long (x1).toInt64, .long ((-1) : Int64), .long ((v1 - (1 : Int32))).toInt64]) (rest := []) dX10_changes_12 rfl lk_X10_68 rfl (c_X10_in e4) ⟨Nat.le_of_ble_eq_true rfl, Nat.le_of_ble_eq_true rfl⟩ (Nat.le_of_ble_eq_true rfl) ⟨Nat.le_of_ble_eq_true rfl, Nat.le_of_ble_eq_true rfl⟩ (j_kq ?_)
  refine J_if_ne (pc' := 18) (tgt := 25) dX10_changes_15 rfl (by decide) (fun c5 => ?_) (fun c5 => ?_)
  · replace h := j_iq c5 h
    refine J_iconst (pc' := 26) (v := (0 : Int32)) dX10_changes_25 rfl ic_0 ?_
    refine J_istore_n (pc' := 27) (i := 2) (lv' := [(2, .int (0 : Int32)), (0, .ref 35), (1, .int x1)]) dX10_changes_26 rfl rfl (by decide) rfl ?_
    refine J_iconst (pc' := 28) (v := (1 : Int32)) dX10_changes_27 rfl ic_1 ?_
    refine J_istore_n (pc' := 29) (i := 3) (lv' := [(3, .int (1 : Int32)), (2, .int (0 : Int32)), (0, .ref 35), (1, .int x1)]) dX10_changes_28 rfl rfl (by decide) rfl ?_
    refine J_aload_n (pc' := 30) (i := 0) (n := 2) dX10_changes_29 rfl rfl rfl ?_
    obtain ⟨q6, e7, h⟩ := bi_inv h
    obtain ⟨c8, h⟩ := j_ck_inv h
    refine J_callV (pc' := 33) (as := []) (rest := []) dX10_changes_30 rfl lk_X10_140 rfl 10 (by decide) rfl (m_o hs) (m_n hs (Nat.le_of_ble_eq_true rfl)) (c_X10_layHand hs e7) ⟨Nat.le_of_ble_eq_true rfl, Nat.le_of_ble_eq_true rfl⟩ (Nat.le_of_ble_eq_true rfl) ⟨Nat.le_of_ble_eq_true rfl, Nat.le_of_ble_eq_true rfl⟩ (j_kv ?_)
    have g9 : sh_m q6.2.2 := j_shE c8 hs
    refine J_sub [2, 3, 1, 0] (lv' := [(0, .ref 35), (1, .int x1), (2, .int (0 : Int32)), (3, .int (1 : Int32))]) rfl ?_
    refine L_X10_changes_L33 j_fu g9 h (fun y40 y41 M42 g43 h => ?_)
    refine J_iload_n (pc' := 129) (i := 1) (n := 1) dX10_changes_128 rfl rfl rfl ?_
    refine J_iconst (pc' := 130) (v := ((-1) : Int32)) dX10_changes_129 rfl ic_m1 ?_
    refine J_icmp_ne (pc' := 133) (tgt := 137) dX10_changes_130 rfl (by decide) (fun c44 => ?_) (fun c44 => ?_)
    · replace h := j_iq c44 h
      refine J_aload_n (pc' := 138) (i := 0) (n := 0) dX10_changes_137 rfl rfl rfl ?_
      refine J_getR (pc' := 141) (b := 40) dX10_changes_138 rfl fl_X10_27 rfl (m_o g43) (m_n g43 (Nat.le_of_ble_eq_true rfl)) (m_r6 g43) ?_
      refine J_iload_n (pc' := 142) (i := 1) (n := 1) dX10_changes_141 rfl rfl rfl ?_
      obtain ⟨v45, e46, h⟩ := a_i_inv h
      refine J_ialde (pc' := 143) dX10_changes_142 rfl (m_s40 g43) (m_n g43 (Nat.le_of_ble_eq_true rfl)) e46 ?_
      exact J_iret rfl dX10_changes_143 ⟨rfl, Nat.le_refl _⟩ (j_pW h)
    · replace h := j_ip c44 h
      refine J_iload_n (pc' := 134) (i := 2) (n := 2) dX10_changes_133 rfl rfl rfl ?_
      refine J_goto (pc' := 143) dX10_changes_134 (by decide) ?_
      exact J_iret rfl dX10_changes_143 ⟨rfl, Nat.le_refl _⟩ (j_pW h)
  · replace h := j_ip c5 h
    refine J_aload_n (pc' := 19) (i := 0) (n := 0) dX10_changes_18 rfl rfl rfl ?_
    refine J_bipush (pc' := 21) (v := ((-10) : Int32)) dX10_changes_19 rfl bp_m10 ?_
    obtain ⟨q47, e48, h⟩ := bi_inv h
    obtain ⟨c49, h⟩ := j_ck_inv h
    refine J_callV (pc' := 24) (as := [.int ((-10) : Int32)]) (rest := []) dX10_changes_21 rfl lk_X10_84 rfl 10 (by decide) rfl (m_o hs) (m_n hs (Nat.le_of_ble_eq_true rfl)) (c_X10_bad hs e48) ⟨Nat.le_of_ble_eq_true rfl, Nat.le_of_ble_eq_true rfl⟩ (Nat.le_of_ble_eq_true rfl) ⟨Nat.le_of_ble_eq_true rfl, Nat.le_of_ble_eq_true rfl⟩ (j_kq ?_)
    have g50 : sh_m q47.2.2.2 := j_shE c49 hs
    exact J_iret rfl dX10_changes_24 ⟨rfl, Nat.le_refl _⟩ (j_pW h)
abbrev JT_X10_layStart (l : Launch) (G : j_G) (r : j_M) : Nat → List (Nat × Value) → List Value → j_M → Prop := JJ l G md_X10_layStart (j_rm 2 (0, 0)) (0, 0) (0, 0) (po none r)
noncomputable def f_X10_layStart_L7 : Nat → j_M → Int32 → Int32 → (Int32 → j_M → Option j_M) → Option j_M
  | 0, _, _, _, _ => none
  | n + 1, M, x1, x2, K =>
    (f_X10_many M).bind fun v4 => (if v4 ≤ x2 then (K x2 M) else (a_i M 36 250 ((9 : Int32) + x2) fun v7 => (if v7 = x1 then (w_i M 42 7 (j_I M 35 14) x2 fun M10 => (tl (j_sI M10 35 14 ((j_I M10 35 14) + (1 : Int32))) fun M13 => (f_X10_layStart_L7 n  M13 x1 (x2 + (1 : Int32)) K))) else (f_X10_layStart_L7 n  M x1 (x2 + (1 : Int32)) K))))
noncomputable def f_X10_layStart (M : j_M) (x1 : Int32) : Option j_M :=
  tl (j_sI M 35 14 (0 : Int32)) fun M1 => (f_X10_layStart_L7 j_fu  M1 x1 (0 : Int32) (fun (y16 : Int32) (M17 : j_M) => (some M17)))
set_option maxHeartbeats 4000000 in
theorem L_X10_layStart_L7 {l : Launch} {G : j_G}  {r : j_M} : ∀ (n : Nat) {x1 : Int32} {x2 : Int32} {M : j_M} (hs : sh_m M.2.2) {K : Int32 → j_M → Option j_M}, f_X10_layStart_L7 n  M x1 x2 K = some r → (∀ (y2 : Int32) (M1 : j_M), sh_m M1.2.2 → K y2 M1 = some r → JT_X10_layStart l G r 54 [] [] M1) → JT_X10_layStart l G r 7 [(0, .ref 35), (1, .int x1), (2, .int x2)] [] M := by
  intro n
  induction n with
  | zero =>
    intro x1 x2 M hs K h hK
    rw [f_X10_layStart_L7] at h; cases h
  | succ n ih =>
    intro x1 x2 M hs K h hK
    rw [f_X10_layStart_L7] at h
    refine J_iload_n (pc' := 8) (i := 2) (n := 2) dX10_layStart_7 rfl rfl rfl ?_
    refine J_aload_n (pc' := 9) (i := 0) (n := 0) dX10_layStart_8 rfl rfl rfl ?_
    obtain ⟨v4, e5, h⟩ := bi_inv h
    refine J_callV (pc' := 12) (as := []) (rest := [.int x2]) dX10_layStart_9 rfl lk_X10_64 rfl 10 (by decide) rfl (m_o hs) (m_n hs (Nat.le_of_ble_eq_true rfl)) (c_X10_many hs e5) ⟨Nat.le_of_ble_eq_true rfl, Nat.le_of_ble_eq_true rfl⟩ (Nat.le_of_ble_eq_true rfl) ⟨Nat.le_of_ble_eq_true rfl, Nat.le_of_ble_eq_true rfl⟩ (j_kq ?_)
    refine J_icmp_ge (pc' := 15) (tgt := 54) dX10_layStart_12 rfl (by decide) (fun c6 => ?_) (fun c6 => ?_)
    · replace h := j_ip c6 h
      refine J_sub [] (lv' := []) rfl ?_
      exact hK x2 M hs h
    · replace h := j_iq c6 h
      refine J_aload_n (pc' := 16) (i := 0) (n := 0) dX10_layStart_15 rfl rfl rfl ?_
      refine J_getR (pc' := 19) (b := 36) dX10_layStart_16 rfl fl_X10_7 rfl (m_o hs) (m_n hs (Nat.le_of_ble_eq_true rfl)) (m_r0 hs) ?_
      refine J_bipush (pc' := 21) (v := (9 : Int32)) dX10_layStart_19 rfl bp_9 ?_
      refine J_iload_n (pc' := 22) (i := 2) (n := 2) dX10_layStart_21 rfl rfl rfl ?_
      refine J_iadd (pc' := 23) dX10_layStart_22 rfl ?_
      obtain ⟨v7, e8, h⟩ := a_i_inv h
      refine J_ialde (pc' := 24) dX10_layStart_23 rfl (m_s36 hs) (m_n hs (Nat.le_of_ble_eq_true rfl)) e8 ?_
      refine J_iload_n (pc' := 25) (i := 1) (n := 1) dX10_layStart_24 rfl rfl rfl ?_
      refine J_icmp_ne (pc' := 28) (tgt := 48) dX10_layStart_25 rfl (by decide) (fun c9 => ?_) (fun c9 => ?_)
      · replace h := j_iq c9 h
        refine J_iinc (pc' := 51) (i := 2) (n := 2) (v := (x2 + (1 : Int32))) (lv' := [(2, .int (x2 + (1 : Int32))), (0, .ref 35), (1, .int x1)]) dX10_layStart_48 rfl rfl (j_inc _ _ rfl _) (by decide) rfl ?_
        refine J_goto (pc' := 7) dX10_layStart_51 (by decide) ?_
        refine J_sub [1, 2, 0] (lv' := [(0, .ref 35), (1, .int x1), (2, .int (x2 + (1 : Int32)))]) rfl ?_
        exact ih hs h hK
      · replace h := j_ip c9 h
        refine J_aload_n (pc' := 29) (i := 0) (n := 0) dX10_layStart_28 rfl rfl rfl ?_
        refine J_getR (pc' := 32) (b := 42) dX10_layStart_29 rfl fl_X10_33 rfl (m_o hs) (m_n hs (Nat.le_of_ble_eq_true rfl)) (m_r11 hs) ?_
        refine J_aload_n (pc' := 33) (i := 0) (n := 0) dX10_layStart_32 rfl rfl rfl ?_
        refine J_getI (pc' := 36) dX10_layStart_33 rfl fl_X10_171 rfl (m_o hs) (m_n hs (Nat.le_of_ble_eq_true rfl)) ?_
        refine J_iload_n (pc' := 37) (i := 2) (n := 2) dX10_layStart_36 rfl rfl rfl ?_
        obtain ⟨M10, e11, h⟩ := w_i_inv h
        have g12 : sh_m M10.2.2 := j_shI e11.2 hs
        refine J_iaste (pc' := 38) dX10_layStart_37 rfl (m_s42 hs) (m_n hs (Nat.le_of_ble_eq_true rfl)) e11 ?_
        refine J_aload_n (pc' := 39) (i := 0) (n := 0) dX10_layStart_38 rfl rfl rfl ?_
        refine J_dup (pc' := 40) dX10_layStart_39 rfl rfl ?_
        refine J_getI (pc' := 43) dX10_layStart_40 rfl fl_X10_171 rfl (m_o g12) (m_n g12 (Nat.le_of_ble_eq_true rfl)) ?_
        refine J_iconst (pc' := 44) (v := (1 : Int32)) dX10_layStart_43 rfl ic_1 ?_
        refine J_iadd (pc' := 45) dX10_layStart_44 rfl ?_
        obtain ⟨M13, e14, h⟩ := tl_inv h
        have g15 : sh_m M13.2.2 := j_shI e14 g12
        refine J_putIe (pc' := 48) dX10_layStart_45 rfl fl_X10_171 ⟨rfl, rfl, rfl⟩ (m_o g12) (m_n g12 (Nat.le_of_ble_eq_true rfl)) e14 ?_
        refine J_iinc (pc' := 51) (i := 2) (n := 2) (v := (x2 + (1 : Int32))) (lv' := [(2, .int (x2 + (1 : Int32))), (0, .ref 35), (1, .int x1)]) dX10_layStart_48 rfl rfl (j_inc _ _ rfl _) (by decide) rfl ?_
        refine J_goto (pc' := 7) dX10_layStart_51 (by decide) ?_
        refine J_sub [1, 2, 0] (lv' := [(0, .ref 35), (1, .int x1), (2, .int (x2 + (1 : Int32)))]) rfl ?_
        exact ih g15 h hK
set_option maxHeartbeats 4000000 in
theorem c_X10_layStart {l : Launch} {G : j_G} {M : j_M} {x1 : Int32} (hs : sh_m M.2.2) {r : j_M} (h : f_X10_layStart M x1 = some r) : j_Sp l G md_X10_layStart 2 (0, 0) [.ref 35, .int x1] M (po none r) := by
  refine j_Sp.of (by decide) (Nat.le_of_ble_eq_true rfl) ?_
  show JT_X10_layStart l G r 0 [(0, .ref 35), (1, .int x1)] [] M
  unfold f_X10_layStart at h
  refine J_aload_n (pc' := 1) (i := 0) (n := 0) dX10_layStart_0 rfl rfl rfl ?_
  refine J_iconst (pc' := 2) (v := (0 : Int32)) dX10_layStart_1 rfl ic_0 ?_
  obtain ⟨M1, e2, h⟩ := tl_inv h
  have g3 : sh_m M1.2.2 := j_shI e2 hs
  refine J_putIe (pc' := 5) dX10_layStart_2 rfl fl_X10_171 ⟨rfl, rfl, rfl⟩ (m_o hs) (m_n hs (Nat.le_of_ble_eq_true rfl)) e2 ?_
  refine J_iconst (pc' := 6) (v := (0 : Int32)) dX10_layStart_5 rfl ic_0 ?_
  refine J_istore_n (pc' := 7) (i := 2) (lv' := [(2, .int (0 : Int32)), (0, .ref 35), (1, .int x1)]) dX10_layStart_6 rfl rfl (by decide) rfl ?_
  refine J_sub [1, 2, 0] (lv' := [(0, .ref 35), (1, .int x1), (2, .int (0 : Int32))]) rfl ?_
  refine L_X10_layStart_L7 j_fu g3 h (fun y16 M17 g18 h => ?_)
  exact J_vret rfl dX10_layStart_54 ⟨rfl, Nat.le_refl _⟩ (j_pV h)
abbrev JT_X10_isRowWell (l : Launch) (G : j_G) (M : j_M) (r : Int32) : Nat → List (Nat × Value) → List Value → j_M → Prop := JJ l G md_X10_isRowWell (j_rm 2 (0, 0)) (0, 0) (0, 0) (po (some (.int r)) M)
noncomputable def f_X10_isRowWell_L5 : Nat → j_M → Int32 → Int32 → Int32 → Int32 → (Int32 → Int32 → Option Int32) → Option Int32
  | 0, _, _, _, _, _, _ => none
  | n + 1, M, x1, x2, x3, x4, K =>
    if (j_I M 35 14) ≤ x4 then (K x3 x4) else (if x3 = 0 then (f_X10_isRowWell_L5 n  M x1 x2 (0 : Int32) (x4 + (1 : Int32)) K) else (a_i M 43 7 x4 fun v3 => ((f_X10_paceOf M v3).bind fun v5 => (a_i M 43 7 (x4 - (1 : Int32)) fun v7 => ((f_X10_paceOf M v7).bind fun v9 => (if (x1 + (x2 * v5)) < (x2 * v9) then (f_X10_isRowWell_L5 n  M x1 x2 (0 : Int32) (x4 + (1 : Int32)) K) else (f_X10_isRowWell_L5 n  M x1 x2 (1 : Int32) (x4 + (1 : Int32)) K)))))))
noncomputable def f_X10_isRowWell (M : j_M) (x1 : Int32) (x2 : Int32) : Option Int32 :=
  f_X10_isRowWell_L5 j_fu  M x1 x2 (1 : Int32) (1 : Int32) (fun (y12 : Int32) (y13 : Int32) => (z_b y12 (some y12)))
set_option maxHeartbeats 4000000 in
theorem L_X10_isRowWell_L5 {l : Launch} {G : j_G}  {r : Int32} : ∀ (n : Nat) {x1 : Int32} {x2 : Int32} {x3 : Int32} {x4 : Int32} {M : j_M} (hs : sh_m M.2.2) {K : Int32 → Int32 → Option Int32}, f_X10_isRowWell_L5 n  M x1 x2 x3 x4 K = some r → (∀ (y3 : Int32) (y4 : Int32), K y3 y4 = some r → JT_X10_isRowWell l G M r 63 [(3, .int y3)] [] M) → JT_X10_isRowWell l G M r 5 [(0, .ref 35), (1, .int x1), (2, .int x2), (3, .int x3), (4, .int x4)] [] M := by
  intro n
  induction n with
  | zero =>
    intro x1 x2 x3 x4 M hs K h hK
    rw [f_X10_isRowWell_L5] at h; cases h
  | succ n ih =>
    intro x1 x2 x3 x4 M hs K h hK
    rw [f_X10_isRowWell_L5] at h
    refine J_iload (pc' := 7) (i := 4) (n := 4) dX10_isRowWell_5 rfl rfl ?_
    refine J_aload_n (pc' := 8) (i := 0) (n := 0) dX10_isRowWell_7 rfl rfl rfl ?_
    refine J_getI (pc' := 11) dX10_isRowWell_8 rfl fl_X10_171 rfl (m_o hs) (m_n hs (Nat.le_of_ble_eq_true rfl)) ?_
    refine J_icmp_ge (pc' := 14) (tgt := 63) dX10_isRowWell_11 rfl (by decide) (fun c1 => ?_) (fun c1 => ?_)
    · replace h := j_ip c1 h
      refine J_sub [3] (lv' := [(3, .int x3)]) rfl ?_
      exact hK x3 x4  h
    · replace h := j_iq c1 h
      refine J_iload_n (pc' := 15) (i := 3) (n := 3) dX10_isRowWell_14 rfl rfl rfl ?_
      refine J_if_eq (pc' := 18) (tgt := 55) dX10_isRowWell_15 rfl (by decide) (fun c2 => ?_) (fun c2 => ?_)
      · replace h := j_ip c2 h
        refine J_iconst (pc' := 56) (v := (0 : Int32)) dX10_isRowWell_55 rfl ic_0 ?_
        refine J_istore_n (pc' := 57) (i := 3) (lv' := [(3, .int (0 : Int32)), (0, .ref 35), (1, .int x1), (2, .int x2), (4, .int x4)]) dX10_isRowWell_56 rfl rfl (by decide) rfl ?_
        refine J_iinc (pc' := 60) (i := 4) (n := 4) (v := (x4 + (1 : Int32))) (lv' := [(4, .int (x4 + (1 : Int32))), (3, .int (0 : Int32)), (0, .ref 35), (1, .int x1), (2, .int x2)]) dX10_isRowWell_57 rfl rfl (j_inc _ _ rfl _) (by decide) rfl ?_
        refine J_goto (pc' := 5) dX10_isRowWell_60 (by decide) ?_
        refine J_sub [2, 3, 4, 1, 0] (lv' := [(0, .ref 35), (1, .int x1), (2, .int x2), (3, .int (0 : Int32)), (4, .int (x4 + (1 : Int32)))]) rfl ?_
        exact ih hs h hK
      · replace h := j_iq c2 h
        refine J_iload_n (pc' := 19) (i := 1) (n := 1) dX10_isRowWell_18 rfl rfl rfl ?_
        refine J_iload_n (pc' := 20) (i := 2) (n := 2) dX10_isRowWell_19 rfl rfl rfl ?_
        refine J_aload_n (pc' := 21) (i := 0) (n := 0) dX10_isRowWell_20 rfl rfl rfl ?_
        refine J_aload_n (pc' := 22) (i := 0) (n := 0) dX10_isRowWell_21 rfl rfl rfl ?_
        refine J_getR (pc' := 25) (b := 43) dX10_isRowWell_22 rfl fl_X10_36 rfl (m_o hs) (m_n hs (Nat.le_of_ble_eq_true rfl)) (m_r12 hs) ?_
        refine J_iload (pc' := 27) (i := 4) (n := 4) dX10_isRowWell_25 rfl rfl ?_
        obtain ⟨v3, e4, h⟩ := a_i_inv h
        refine J_ialde (pc' := 28) dX10_isRowWell_27 rfl (m_s43 hs) (m_n hs (Nat.le_of_ble_eq_true rfl)) e4 ?_
        obtain ⟨v5, e6, h⟩ := bi_inv h
        refine J_callV (pc' := 31) (as := [.int v3]) (rest := [.int x2, .int x1]) dX10_isRowWell_28 rfl lk_X10_121 rfl 10 (by decide) rfl (m_o hs) (m_n hs (Nat.le_of_ble_eq_true rfl)) (c_X10_paceOf hs e6) ⟨Nat.le_of_ble_eq_true rfl, Nat.le_of_ble_eq_true rfl⟩ (Nat.le_of_ble_eq_true rfl) ⟨Nat.le_of_ble_eq_true rfl, Nat.le_of_ble_eq_true rfl⟩ (j_kq ?_)
        refine J_imul (pc' := 32) dX10_isRowWell_31 rfl ?_
        refine J_iadd (pc' := 33) dX10_isRowWell_32 rfl ?_
        refine J_iload_n (pc' := 34) (i := 2) (n := 2) dX10_isRowWell_33 rfl rfl rfl ?_
        refine J_aload_n (pc' := 35) (i := 0) (n := 0) dX10_isRowWell_34 rfl rfl rfl ?_
        refine J_aload_n (pc' := 36) (i := 0) (n := 0) dX10_isRowWell_35 rfl rfl rfl ?_
        refine J_getR (pc' := 39) (b := 43) dX10_isRowWell_36 rfl fl_X10_36 rfl (m_o hs) (m_n hs (Nat.le_of_ble_eq_true rfl)) (m_r12 hs) ?_
        refine J_iload (pc' := 41) (i := 4) (n := 4) dX10_isRowWell_39 rfl rfl ?_
        refine J_iconst (pc' := 42) (v := (1 : Int32)) dX10_isRowWell_41 rfl ic_1 ?_
        refine J_isub (pc' := 43) dX10_isRowWell_42 rfl ?_
        obtain ⟨v7, e8, h⟩ := a_i_inv h
        refine J_ialde (pc' := 44) dX10_isRowWell_43 rfl (m_s43 hs) (m_n hs (Nat.le_of_ble_eq_true rfl)) e8 ?_
        obtain ⟨v9, e10, h⟩ := bi_inv h
        refine J_callV (pc' := 47) (as := [.int v7]) (rest := [.int x2, .int (x1 + (x2 * v5))]) dX10_isRowWell_44 rfl lk_X10_121 rfl 10 (by decide) rfl (m_o hs) (m_n hs (Nat.le_of_ble_eq_true rfl)) (c_X10_paceOf hs e10) ⟨Nat.le_of_ble_eq_true rfl, Nat.le_of_ble_eq_true rfl⟩ (Nat.le_of_ble_eq_true rfl) ⟨Nat.le_of_ble_eq_true rfl, Nat.le_of_ble_eq_true rfl⟩ (j_kq ?_)
        refine J_imul (pc' := 48) dX10_isRowWell_47 rfl ?_
        refine J_icmp_lt (pc' := 51) (tgt := 55) dX10_isRowWell_48 rfl (by decide) (fun c11 => ?_) (fun c11 => ?_)
        · replace h := j_ip c11 h
          refine J_iconst (pc' := 56) (v := (0 : Int32)) dX10_isRowWell_55 rfl ic_0 ?_
          refine J_istore_n (pc' := 57) (i := 3) (lv' := [(3, .int (0 : Int32)), (0, .ref 35), (1, .int x1), (2, .int x2), (4, .int x4)]) dX10_isRowWell_56 rfl rfl (by decide) rfl ?_
          refine J_iinc (pc' := 60) (i := 4) (n := 4) (v := (x4 + (1 : Int32))) (lv' := [(4, .int (x4 + (1 : Int32))), (3, .int (0 : Int32)), (0, .ref 35), (1, .int x1), (2, .int x2)]) dX10_isRowWell_57 rfl rfl (j_inc _ _ rfl _) (by decide) rfl ?_
          refine J_goto (pc' := 5) dX10_isRowWell_60 (by decide) ?_
          refine J_sub [2, 3, 4, 1, 0] (lv' := [(0, .ref 35), (1, .int x1), (2, .int x2), (3, .int (0 : Int32)), (4, .int (x4 + (1 : Int32)))]) rfl ?_
          exact ih hs h hK
        · replace h := j_iq c11 h
          refine J_iconst (pc' := 52) (v := (1 : Int32)) dX10_isRowWell_51 rfl ic_1 ?_
          refine J_goto (pc' := 56) dX10_isRowWell_52 (by decide) ?_
          refine J_istore_n (pc' := 57) (i := 3) (lv' := [(3, .int (1 : Int32)), (0, .ref 35), (1, .int x1), (2, .int x2), (4, .int x4)]) dX10_isRowWell_56 rfl rfl (by decide) rfl ?_
          refine J_iinc (pc' := 60) (i := 4) (n := 4) (v := (x4 + (1 : Int32))) (lv' := [(4, .int (x4 + (1 : Int32))), (3, .int (1 : Int32)), (0, .ref 35), (1, .int x1), (2, .int x2)]) dX10_isRowWell_57 rfl rfl (j_inc _ _ rfl _) (by decide) rfl ?_
          refine J_goto (pc' := 5) dX10_isRowWell_60 (by decide) ?_
          refine J_sub [2, 3, 4, 1, 0] (lv' := [(0, .ref 35), (1, .int x1), (2, .int x2), (3, .int (1 : Int32)), (4, .int (x4 + (1 : Int32)))]) rfl ?_
          exact ih hs h hK
set_option maxHeartbeats 4000000 in
theorem c_X10_isRowWell {l : Launch} {G : j_G} {M : j_M} {x1 : Int32} {x2 : Int32} (hs : sh_m M.2.2) {r : Int32} (h : f_X10_isRowWell M x1 x2 = some r) : j_Sp l G md_X10_isRowWell 2 (0, 0) [.ref 35, .int x1, .int x2] M (po (some (.int r)) M) := by
  refine j_Sp.of (by decide) (Nat.le_of_ble_eq_true rfl) ?_
  show JT_X10_isRowWell l G M r 0 [(0, .ref 35), (1, .int x1), (2, .int x2)] [] M
  unfold f_X10_isRowWell at h
  refine J_iconst (pc' := 1) (v := (1 : Int32)) dX10_isRowWell_0 rfl ic_1 ?_
  refine J_istore_n (pc' := 2) (i := 3) (lv' := [(3, .int (1 : Int32)), (0, .ref 35), (1, .int x1), (2, .int x2)]) dX10_isRowWell_1 rfl rfl (by decide) rfl ?_
  refine J_iconst (pc' := 3) (v := (1 : Int32)) dX10_isRowWell_2 rfl ic_1 ?_
  refine J_istore (pc' := 5) (i := 4) (lv' := [(4, .int (1 : Int32)), (3, .int (1 : Int32)), (0, .ref 35), (1, .int x1), (2, .int x2)]) dX10_isRowWell_3 rfl (by decide) rfl ?_
  refine J_sub [2, 3, 4, 1, 0] (lv' := [(0, .ref 35), (1, .int x1), (2, .int x2), (3, .int (1 : Int32)), (4, .int (1 : Int32))]) rfl ?_
  refine L_X10_isRowWell_L5 j_fu hs h (fun y12 y13 h => ?_)
  refine J_iload_n (pc' := 64) (i := 3) (n := 0) dX10_isRowWell_63 rfl rfl rfl ?_
  obtain ⟨hz, h⟩ := z_b_inv h
  exact J_zret (ty := .boolean) rfl (j_zb hz) dX10_isRowWell_64 ⟨rfl, Nat.le_refl _⟩ (j_pIs h)
abbrev JT_X10_layRow (l : Launch) (G : j_G) (r : j_M) : Nat → List (Nat × Value) → List Value → j_M → Prop := JJ l G md_X10_layRow (j_rm 2 (0, 0)) (0, 0) (0, 0) (po none r)
noncomputable def f_X10_layRow_L56 : Nat → j_M → Int32 → Int32 → Int32 → Int32 → Int32 → Int32 → (Int32 → Int32 → Option j_M) → Option j_M
  | 0, _, _, _, _, _, _, _, _ => none
  | n + 1, M, x3, x4, x5, x6, x7, x8, K =>
    if 0 < x7 then (f_X10_layRow_L56 n  M x3 x4 x5 x6 (x7 - ((x3 >>> (x8 &&& 31)) &&& (1 : Int32))) (x8 + (1 : Int32)) K) else (tl (f_X10_has x3 x8) fun v9 => (if v9 = 0 then (f_X10_layRow_L56 n  M x3 x4 x5 x6 (x7 - ((x3 >>> (x8 &&& 31)) &&& (1 : Int32))) (x8 + (1 : Int32)) K) else (K x7 x8)))
noncomputable def f_X10_layRow_L18 : Nat → j_M → Int32 → Int32 → Int32 → Int32 → (Int32 → Int32 → Int32 → Int32 → j_M → Option j_M) → Option j_M
  | 0, _, _, _, _, _, _ => none
  | n + 1, M, x3, x4, x5, x6, K =>
    if (j_I M 35 14) ≤ x6 then (K x3 x4 x5 x6 M) else (d_i x5 ((j_I M 35 14) - x6) fun v2 => (d_i x4 v2 fun v4 => (r_i x4 v2 fun v6 => (f_X10_layRow_L56 j_fu  M x3 v6 v2 x6 v4 (0 : Int32) (fun (y12 : Int32) (y13 : Int32) => (a_i M 42 7 y13 fun v14 => (w_i M 43 7 x6 v14 fun M16 => (f_X10_layRow_L18 n  M16 (x3 &&& (((1 : Int32) <<< (y13 &&& 31)) ^^^ ((-1) : Int32))) v6 v2 (x6 + (1 : Int32)) K))))))))
noncomputable def f_X10_layRow (M : j_M) (x1 : Int32) (x2 : Int32) : Option j_M :=
  f_X10_layRow_L18 j_fu  M (((1 : Int32) <<< ((j_I M 35 14) &&& 31)) - (1 : Int32)) x1 x2 (0 : Int32) (fun (y19 : Int32) (y20 : Int32) (y21 : Int32) (y22 : Int32) (M23 : j_M) => (some M23))
set_option maxHeartbeats 4000000 in
theorem L_X10_layRow_L56 {l : Launch} {G : j_G}  {r : j_M} : ∀ (n : Nat) {x3 : Int32} {x4 : Int32} {x5 : Int32} {x6 : Int32} {x7 : Int32} {x8 : Int32} {M : j_M} (hs : sh_m M.2.2) {K : Int32 → Int32 → Option j_M}, f_X10_layRow_L56 n  M x3 x4 x5 x6 x7 x8 K = some r → (∀ (y7 : Int32) (y8 : Int32), K y7 y8 = some r → JT_X10_layRow l G r 87 [(0, .ref 35), (3, .int x3), (4, .int x4), (5, .int x5), (6, .int x6), (8, .int y8)] [] M) → JT_X10_layRow l G r 56 [(0, .ref 35), (3, .int x3), (4, .int x4), (5, .int x5), (6, .int x6), (7, .int x7), (8, .int x8)] [] M := by
  intro n
  induction n with
  | zero =>
    intro x3 x4 x5 x6 x7 x8 M hs K h hK
    rw [f_X10_layRow_L56] at h; cases h
  | succ n ih =>
    intro x3 x4 x5 x6 x7 x8 M hs K h hK
    rw [f_X10_layRow_L56] at h
    refine J_iload (pc' := 58) (i := 7) (n := 5) dX10_layRow_56 rfl rfl ?_
    refine J_if_gt (pc' := 61) (tgt := 70) dX10_layRow_58 rfl (by decide) (fun c8 => ?_) (fun c8 => ?_)
    · replace h := j_ip c8 h
      refine J_iload (pc' := 72) (i := 7) (n := 5) dX10_layRow_70 rfl rfl ?_
      refine J_iload_n (pc' := 73) (i := 3) (n := 1) dX10_layRow_72 rfl rfl rfl ?_
      refine J_iload (pc' := 75) (i := 8) (n := 6) dX10_layRow_73 rfl rfl ?_
      refine J_ishr (pc' := 76) dX10_layRow_75 rfl ?_
      refine J_iconst (pc' := 77) (v := (1 : Int32)) dX10_layRow_76 rfl ic_1 ?_
      refine J_iand (pc' := 78) dX10_layRow_77 rfl ?_
      refine J_isub (pc' := 79) dX10_layRow_78 rfl ?_
      refine J_istore (pc' := 81) (i := 7) (lv' := [(7, .int (x7 - ((x3 >>> (x8 &&& 31)) &&& (1 : Int32)))), (0, .ref 35), (3, .int x3), (4, .int x4), (5, .int x5), (6, .int x6), (8, .int x8)]) dX10_layRow_79 rfl (by decide) rfl ?_
      refine J_iinc (pc' := 84) (i := 8) (n := 6) (v := (x8 + (1 : Int32))) (lv' := [(8, .int (x8 + (1 : Int32))), (7, .int (x7 - ((x3 >>> (x8 &&& 31)) &&& (1 : Int32)))), (0, .ref 35), (3, .int x3), (4, .int x4), (5, .int x5), (6, .int x6)]) dX10_layRow_81 rfl rfl (j_inc _ _ rfl _) (by decide) rfl ?_
      refine J_goto (pc' := 56) dX10_layRow_84 (by decide) ?_
      refine J_sub [2, 3, 4, 5, 6, 1, 0] (lv' := [(0, .ref 35), (3, .int x3), (4, .int x4), (5, .int x5), (6, .int x6), (7, .int (x7 - ((x3 >>> (x8 &&& 31)) &&& (1 : Int32)))), (8, .int (x8 + (1 : Int32)))]) rfl ?_
      exact ih hs h hK
    · replace h := j_iq c8 h
      refine J_iload_n (pc' := 62) (i := 3) (n := 1) dX10_layRow_61 rfl rfl rfl ?_
      refine J_iload (pc' := 64) (i := 8) (n := 6) dX10_layRow_62 rfl rfl ?_
      obtain ⟨v9, e10, h⟩ := tl_inv h
      refine J_callS (pc' := 67) (as := [.int x3, .int x8]) (rest := []) dX10_layRow_64 rfl lk_X10_74 rfl (c_X10_has e10) ⟨Nat.le_of_ble_eq_true rfl, Nat.le_of_ble_eq_true rfl⟩ (Nat.le_of_ble_eq_true rfl) ⟨Nat.le_of_ble_eq_true rfl, Nat.le_of_ble_eq_true rfl⟩ (j_kq ?_)
      refine J_if_ne (pc' := 70) (tgt := 87) dX10_layRow_67 rfl (by decide) (fun c11 => ?_) (fun c11 => ?_)
      · replace h := j_iq c11 h
        refine J_sub [0, 1, 2, 3, 4, 6] (lv' := [(0, .ref 35), (3, .int x3), (4, .int x4), (5, .int x5), (6, .int x6), (8, .int x8)]) rfl ?_
        exact hK x7 x8  h
      · replace h := j_ip c11 h
        refine J_iload (pc' := 72) (i := 7) (n := 5) dX10_layRow_70 rfl rfl ?_
        refine J_iload_n (pc' := 73) (i := 3) (n := 1) dX10_layRow_72 rfl rfl rfl ?_
        refine J_iload (pc' := 75) (i := 8) (n := 6) dX10_layRow_73 rfl rfl ?_
        refine J_ishr (pc' := 76) dX10_layRow_75 rfl ?_
        refine J_iconst (pc' := 77) (v := (1 : Int32)) dX10_layRow_76 rfl ic_1 ?_
        refine J_iand (pc' := 78) dX10_layRow_77 rfl ?_
        refine J_isub (pc' := 79) dX10_layRow_78 rfl ?_
        refine J_istore (pc' := 81) (i := 7) (lv' := [(7, .int (x7 - ((x3 >>> (x8 &&& 31)) &&& (1 : Int32)))), (0, .ref 35), (3, .int x3), (4, .int x4), (5, .int x5), (6, .int x6), (8, .int x8)]) dX10_layRow_79 rfl (by decide) rfl ?_
        refine J_iinc (pc' := 84) (i := 8) (n := 6) (v := (x8 + (1 : Int32))) (lv' := [(8, .int (x8 + (1 : Int32))), (7, .int (x7 - ((x3 >>> (x8 &&& 31)) &&& (1 : Int32)))), (0, .ref 35), (3, .int x3), (4, .int x4), (5, .int x5), (6, .int x6)]) dX10_layRow_81 rfl rfl (j_inc _ _ rfl _) (by decide) rfl ?_
        refine J_goto (pc' := 56) dX10_layRow_84 (by decide) ?_
        refine J_sub [2, 3, 4, 5, 6, 1, 0] (lv' := [(0, .ref 35), (3, .int x3), (4, .int x4), (5, .int x5), (6, .int x6), (7, .int (x7 - ((x3 >>> (x8 &&& 31)) &&& (1 : Int32)))), (8, .int (x8 + (1 : Int32)))]) rfl ?_
        exact ih hs h hK
set_option maxHeartbeats 4000000 in
theorem L_X10_layRow_L18 {l : Launch} {G : j_G}  {r : j_M} : ∀ (n : Nat) {x3 : Int32} {x4 : Int32} {x5 : Int32} {x6 : Int32} {M : j_M} (hs : sh_m M.2.2) {K : Int32 → Int32 → Int32 → Int32 → j_M → Option j_M}, f_X10_layRow_L18 n  M x3 x4 x5 x6 K = some r → (∀ (y3 : Int32) (y4 : Int32) (y5 : Int32) (y6 : Int32) (M1 : j_M), sh_m M1.2.2 → K y3 y4 y5 y6 M1 = some r → JT_X10_layRow l G r 116 [] [] M1) → JT_X10_layRow l G r 18 [(0, .ref 35), (3, .int x3), (4, .int x4), (5, .int x5), (6, .int x6)] [] M := by
  intro n
  induction n with
  | zero =>
    intro x3 x4 x5 x6 M hs K h hK
    rw [f_X10_layRow_L18] at h; cases h
  | succ n ih =>
    intro x3 x4 x5 x6 M hs K h hK
    rw [f_X10_layRow_L18] at h
    refine J_iload (pc' := 20) (i := 6) (n := 4) dX10_layRow_18 rfl rfl ?_
    refine J_aload_n (pc' := 21) (i := 0) (n := 0) dX10_layRow_20 rfl rfl rfl ?_
    refine J_getI (pc' := 24) dX10_layRow_21 rfl fl_X10_171 rfl (m_o hs) (m_n hs (Nat.le_of_ble_eq_true rfl)) ?_
    refine J_icmp_ge (pc' := 27) (tgt := 116) dX10_layRow_24 rfl (by decide) (fun c1 => ?_) (fun c1 => ?_)
    · replace h := j_ip c1 h
      refine J_sub [] (lv' := []) rfl ?_
      exact hK x3 x4 x5 x6 M hs h
    · replace h := j_iq c1 h
      refine J_iload (pc' := 29) (i := 5) (n := 3) dX10_layRow_27 rfl rfl ?_
      refine J_aload_n (pc' := 30) (i := 0) (n := 0) dX10_layRow_29 rfl rfl rfl ?_
      refine J_getI (pc' := 33) dX10_layRow_30 rfl fl_X10_171 rfl (m_o hs) (m_n hs (Nat.le_of_ble_eq_true rfl)) ?_
      refine J_iload (pc' := 35) (i := 6) (n := 4) dX10_layRow_33 rfl rfl ?_
      refine J_isub (pc' := 36) dX10_layRow_35 rfl ?_
      obtain ⟨v2, e3, h⟩ := d_i_inv h
      refine J_dive (pc' := 37) dX10_layRow_36 rfl e3 ?_
      refine J_istore (pc' := 39) (i := 5) (lv' := [(5, .int v2), (0, .ref 35), (3, .int x3), (4, .int x4), (6, .int x6)]) dX10_layRow_37 rfl (by decide) rfl ?_
      refine J_iload (pc' := 41) (i := 4) (n := 3) dX10_layRow_39 rfl rfl ?_
      refine J_iload (pc' := 43) (i := 5) (n := 0) dX10_layRow_41 rfl rfl ?_
      obtain ⟨v4, e5, h⟩ := d_i_inv h
      refine J_dive (pc' := 44) dX10_layRow_43 rfl e5 ?_
      refine J_istore (pc' := 46) (i := 7) (lv' := [(7, .int v4), (5, .int v2), (0, .ref 35), (3, .int x3), (4, .int x4), (6, .int x6)]) dX10_layRow_44 rfl (by decide) rfl ?_
      refine J_iload (pc' := 48) (i := 4) (n := 4) dX10_layRow_46 rfl rfl ?_
      refine J_iload (pc' := 50) (i := 5) (n := 1) dX10_layRow_48 rfl rfl ?_
      obtain ⟨v6, e7, h⟩ := r_i_inv h
      refine J_reme (pc' := 51) dX10_layRow_50 rfl e7 ?_
      refine J_istore (pc' := 53) (i := 4) (lv' := [(4, .int v6), (7, .int v4), (5, .int v2), (0, .ref 35), (3, .int x3), (6, .int x6)]) dX10_layRow_51 rfl (by decide) rfl ?_
      refine J_iconst (pc' := 54) (v := (0 : Int32)) dX10_layRow_53 rfl ic_0 ?_
      refine J_istore (pc' := 56) (i := 8) (lv' := [(8, .int (0 : Int32)), (4, .int v6), (7, .int v4), (5, .int v2), (0, .ref 35), (3, .int x3), (6, .int x6)]) dX10_layRow_54 rfl (by decide) rfl ?_
      refine J_sub [4, 5, 1, 3, 6, 2, 0] (lv' := [(0, .ref 35), (3, .int x3), (4, .int v6), (5, .int v2), (6, .int x6), (7, .int v4), (8, .int (0 : Int32))]) rfl ?_
      refine L_X10_layRow_L56 j_fu hs h (fun y12 y13 h => ?_)
      refine J_iload_n (pc' := 88) (i := 3) (n := 1) dX10_layRow_87 rfl rfl rfl ?_
      refine J_iconst (pc' := 89) (v := (1 : Int32)) dX10_layRow_88 rfl ic_1 ?_
      refine J_iload (pc' := 91) (i := 8) (n := 5) dX10_layRow_89 rfl rfl ?_
      refine J_ishl (pc' := 92) dX10_layRow_91 rfl ?_
      refine J_iconst (pc' := 93) (v := ((-1) : Int32)) dX10_layRow_92 rfl ic_m1 ?_
      refine J_ixor (pc' := 94) dX10_layRow_93 rfl ?_
      refine J_iand (pc' := 95) dX10_layRow_94 rfl ?_
      refine J_istore_n (pc' := 96) (i := 3) (lv' := [(3, .int (x3 &&& (((1 : Int32) <<< (y13 &&& 31)) ^^^ ((-1) : Int32)))), (0, .ref 35), (4, .int v6), (5, .int v2), (6, .int x6), (8, .int y13)]) dX10_layRow_95 rfl rfl (by decide) rfl ?_
      refine J_aload_n (pc' := 97) (i := 0) (n := 1) dX10_layRow_96 rfl rfl rfl ?_
      refine J_getR (pc' := 100) (b := 43) dX10_layRow_97 rfl fl_X10_36 rfl (m_o hs) (m_n hs (Nat.le_of_ble_eq_true rfl)) (m_r12 hs) ?_
      refine J_iload (pc' := 102) (i := 6) (n := 4) dX10_layRow_100 rfl rfl ?_
      refine J_aload_n (pc' := 103) (i := 0) (n := 1) dX10_layRow_102 rfl rfl rfl ?_
      refine J_getR (pc' := 106) (b := 42) dX10_layRow_103 rfl fl_X10_33 rfl (m_o hs) (m_n hs (Nat.le_of_ble_eq_true rfl)) (m_r11 hs) ?_
      refine J_iload (pc' := 108) (i := 8) (n := 5) dX10_layRow_106 rfl rfl ?_
      obtain ⟨v14, e15, h⟩ := a_i_inv h
      refine J_ialde (pc' := 109) dX10_layRow_108 rfl (m_s42 hs) (m_n hs (Nat.le_of_ble_eq_true rfl)) e15 ?_
      obtain ⟨M16, e17, h⟩ := w_i_inv h
      have g18 : sh_m M16.2.2 := j_shI e17.2 hs
      refine J_iaste (pc' := 110) dX10_layRow_109 rfl (m_s43 hs) (m_n hs (Nat.le_of_ble_eq_true rfl)) e17 ?_
      refine J_iinc (pc' := 113) (i := 6) (n := 4) (v := (x6 + (1 : Int32))) (lv' := [(6, .int (x6 + (1 : Int32))), (3, .int (x3 &&& (((1 : Int32) <<< (y13 &&& 31)) ^^^ ((-1) : Int32)))), (0, .ref 35), (4, .int v6), (5, .int v2), (8, .int y13)]) dX10_layRow_110 rfl rfl (j_inc _ _ rfl _) (by decide) rfl ?_
      refine J_goto (pc' := 18) dX10_layRow_113 (by decide) ?_
      refine J_sub [2, 1, 3, 4, 0] (lv' := [(0, .ref 35), (3, .int (x3 &&& (((1 : Int32) <<< (y13 &&& 31)) ^^^ ((-1) : Int32)))), (4, .int v6), (5, .int v2), (6, .int (x6 + (1 : Int32)))]) rfl ?_
      exact ih g18 h hK
set_option maxHeartbeats 4000000 in
theorem c_X10_layRow {l : Launch} {G : j_G} {M : j_M} {x1 : Int32} {x2 : Int32} (hs : sh_m M.2.2) {r : j_M} (h : f_X10_layRow M x1 x2 = some r) : j_Sp l G md_X10_layRow 2 (0, 0) [.ref 35, .int x1, .int x2] M (po none r) := by
  refine j_Sp.of (by decide) (Nat.le_of_ble_eq_true rfl) ?_
  show JT_X10_layRow l G r 0 [(0, .ref 35), (1, .int x1), (2, .int x2)] [] M
  unfold f_X10_layRow at h
  refine J_iconst (pc' := 1) (v := (1 : Int32)) dX10_layRow_0 rfl ic_1 ?_
  refine J_aload_n (pc' := 2) (i := 0) (n := 0) dX10_layRow_1 rfl rfl rfl ?_
  refine J_getI (pc' := 5) dX10_layRow_2 rfl fl_X10_171 rfl (m_o hs) (m_n hs (Nat.le_of_ble_eq_true rfl)) ?_
  refine J_ishl (pc' := 6) dX10_layRow_5 rfl ?_
  refine J_iconst (pc' := 7) (v := (1 : Int32)) dX10_layRow_6 rfl ic_1 ?_
  refine J_isub (pc' := 8) dX10_layRow_7 rfl ?_
  refine J_istore_n (pc' := 9) (i := 3) (lv' := [(3, .int (((1 : Int32) <<< ((j_I M 35 14) &&& 31)) - (1 : Int32))), (0, .ref 35), (1, .int x1), (2, .int x2)]) dX10_layRow_8 rfl rfl (by decide) rfl ?_
  refine J_iload_n (pc' := 10) (i := 1) (n := 2) dX10_layRow_9 rfl rfl rfl ?_
  refine J_istore (pc' := 12) (i := 4) (lv' := [(4, .int x1), (3, .int (((1 : Int32) <<< ((j_I M 35 14) &&& 31)) - (1 : Int32))), (0, .ref 35), (1, .int x1), (2, .int x2)]) dX10_layRow_10 rfl (by decide) rfl ?_
  refine J_iload_n (pc' := 13) (i := 2) (n := 4) dX10_layRow_12 rfl rfl rfl ?_
  refine J_istore (pc' := 15) (i := 5) (lv' := [(5, .int x2), (4, .int x1), (3, .int (((1 : Int32) <<< ((j_I M 35 14) &&& 31)) - (1 : Int32))), (0, .ref 35), (1, .int x1), (2, .int x2)]) dX10_layRow_13 rfl (by decide) rfl ?_
  refine J_iconst (pc' := 16) (v := (0 : Int32)) dX10_layRow_15 rfl ic_0 ?_
  refine J_istore (pc' := 18) (i := 6) (lv' := [(6, .int (0 : Int32)), (5, .int x2), (4, .int x1), (3, .int (((1 : Int32) <<< ((j_I M 35 14) &&& 31)) - (1 : Int32))), (0, .ref 35), (1, .int x1), (2, .int x2)]) dX10_layRow_16 rfl (by decide) rfl ?_
  refine J_sub [4, 3, 2, 1, 0] (lv' := [(0, .ref 35), (3, .int (((1 : Int32) <<< ((j_I M 35 14) &&& 31)) - (1 : Int32))), (4, .int x1), (5, .int x2), (6, .int (0 : Int32))]) rfl ?_
  refine L_X10_layRow_L18 j_fu hs h (fun y19 y20 y21 y22 M23 g24 h => ?_)
  exact J_vret rfl dX10_layRow_116 ⟨rfl, Nat.le_refl _⟩ (j_pV h)
abbrev JT_X10_order (l : Launch) (G : j_G) (r : (Int32 × j_M)) : Nat → List (Nat × Value) → List Value → j_M → Prop := JJ l G md_X10_order (j_rm 3 (0, 0)) (0, 0) (0, 0) (po (some (.int r.1)) r.2)
noncomputable def f_X10_order_L58 : Nat → j_M → Int32 → Int32 → Int32 → Int32 → Int32 → Int32 → (Int32 → Int32 → Option (Int32 × j_M)) → Option (Int32 × j_M)
  | 0, _, _, _, _, _, _, _, _ => none
  | n + 1, M, x2, x3, x4, x5, x6, x7, K =>
    if (j_I M 35 14) < x7 then (K x5 x7) else (f_X10_order_L58 n  M x2 x3 x4 (x5 * x7) x6 (x7 + (1 : Int32)) K)
noncomputable def f_X10_order_L109 : Nat → j_M → Int32 → Int32 → Int32 → Int32 → Int32 → Int32 → Int32 → Int32 → (Int32 → j_M → Option (Int32 × j_M)) → Option (Int32 × j_M)
  | 0, _, _, _, _, _, _, _, _, _, _ => none
  | n + 1, M, x2, x3, x4, x5, x6, x7, x8, x9, K =>
    if (j_I M 35 14) ≤ x9 then (K x9 M) else (if x8 = 0 then (K x9 M) else (if x6 = 0 then (a_i M 43 7 x9 fun v40 => (w_i M 44 7 x9 v40 fun M42 => (f_X10_order_L109 n  M42 x2 x3 x4 x5 x6 x7 x8 (x9 + (1 : Int32)) K))) else (K x9 M)))
noncomputable def f_X10_order_L83 : Nat → j_M → Int32 → Int32 → Int32 → Int32 → Int32 → Int32 → (Int32 → Int32 → j_M → Option (Int32 × j_M)) → Option (Int32 × j_M)
  | 0, _, _, _, _, _, _, _, _ => none
  | n + 1, M, x2, x3, x4, x5, x6, x7, K =>
    if x5 ≤ x7 then (K x6 x7 M) else ((f_X10_layRow M x7 x5).bind fun q31 => j_ck M q31 ((f_X10_isRowWell q31 x2 x3).bind fun v35 => (f_X10_order_L109 j_fu  q31 x2 x3 x4 x5 x6 x7 v35 (0 : Int32) (fun (y45 : Int32) (M46 : j_M) => (if v35 = 0 then (f_X10_order_L83 n  M46 x2 x3 x4 x5 (x6 + (0 : Int32)) (x7 + (1 : Int32)) K) else (f_X10_order_L83 n  M46 x2 x3 x4 x5 (x6 + (1 : Int32)) (x7 + (1 : Int32)) K))))))
noncomputable def f_X10_order (M : j_M) (x1 : Int32) (x2 : Int32) (x3 : Int32) (x4 : Int32) : Option (Int32 × j_M) :=
  tl (f_X10_isLane x1) fun v1 => (if v1 = 0 then ((f_X10_bad M ((-10) : Int32)).bind fun q4 => j_ck M q4.2 (some (q4.1, q4.2))) else (tl (f_X10_in (x2).toInt64 (0 : Int64) (60 : Int64)) fun v8 => (if v8 = 0 then ((f_X10_bad M ((-10) : Int32)).bind fun q11 => j_ck M q11.2 (some (q11.1, q11.2))) else (tl (f_X10_in (x3).toInt64 (1 : Int64) (9 : Int64)) fun v15 => (if v15 = 0 then ((f_X10_bad M ((-10) : Int32)).bind fun q18 => j_ck M q18.2 (some (q18.1, q18.2))) else (if ((-1) : Int32) ≤ x4 then ((f_X10_layStart M x1).bind fun q23 => j_ck M q23 (f_X10_order_L58 j_fu  q23 x2 x3 x4 (1 : Int32) (0 : Int32) (2 : Int32) (fun (y28 : Int32) (y29 : Int32) => (f_X10_order_L83 j_fu  q23 x2 x3 x4 y28 (0 : Int32) (0 : Int32) (fun (y49 : Int32) (y50 : Int32) (M51 : j_M) => (if x4 = ((-1) : Int32) then (some (y49, M51)) else (if y49 = 0 then (some (((-1) : Int32), M51)) else (if (j_I M51 35 14) ≤ x4 then (some (((-5) : Int32), M51)) else (a_i M51 44 7 x4 fun v56 => (some (v56, M51))))))))))) else ((f_X10_bad M ((-10) : Int32)).bind fun q58 => j_ck M q58.2 (some (q58.1, q58.2)))))))))
set_option maxHeartbeats 4000000 in
theorem L_X10_order_L58 {l : Launch} {G : j_G}  {r : (Int32 × j_M)} : ∀ (n : Nat) {x2 : Int32} {x3 : Int32} {x4 : Int32} {x5 : Int32} {x6 : Int32} {x7 : Int32} {M : j_M} (hs : sh_m M.2.2) {K : Int32 → Int32 → Option (Int32 × j_M)}, f_X10_order_L58 n  M x2 x3 x4 x5 x6 x7 K = some r → (∀ (y5 : Int32) (y7 : Int32), K y5 y7 = some r → JT_X10_order l G r 80 [(0, .ref 35), (2, .int x2), (3, .int x3), (4, .int x4), (5, .int y5), (6, .int x6)] [] M) → JT_X10_order l G r 58 [(0, .ref 35), (2, .int x2), (3, .int x3), (4, .int x4), (5, .int x5), (6, .int x6), (7, .int x7)] [] M := by
  intro n
  induction n with
  | zero =>
    intro x2 x3 x4 x5 x6 x7 M hs K h hK
    rw [f_X10_order_L58] at h; cases h
  | succ n ih =>
    intro x2 x3 x4 x5 x6 x7 M hs K h hK
    rw [f_X10_order_L58] at h
    refine J_iload (pc' := 60) (i := 7) (n := 6) dX10_order_58 rfl rfl ?_
    refine J_aload_n (pc' := 61) (i := 0) (n := 0) dX10_order_60 rfl rfl rfl ?_
    refine J_getI (pc' := 64) dX10_order_61 rfl fl_X10_171 rfl (m_o hs) (m_n hs (Nat.le_of_ble_eq_true rfl)) ?_
    refine J_icmp_gt (pc' := 67) (tgt := 80) dX10_order_64 rfl (by decide) (fun c27 => ?_) (fun c27 => ?_)
    · replace h := j_ip c27 h
      refine J_sub [0, 1, 2, 3, 4, 5] (lv' := [(0, .ref 35), (2, .int x2), (3, .int x3), (4, .int x4), (5, .int x5), (6, .int x6)]) rfl ?_
      exact hK x5 x7  h
    · replace h := j_iq c27 h
      refine J_iload (pc' := 69) (i := 5) (n := 4) dX10_order_67 rfl rfl ?_
      refine J_iload (pc' := 71) (i := 7) (n := 6) dX10_order_69 rfl rfl ?_
      refine J_imul (pc' := 72) dX10_order_71 rfl ?_
      refine J_istore (pc' := 74) (i := 5) (lv' := [(5, .int (x5 * x7)), (0, .ref 35), (2, .int x2), (3, .int x3), (4, .int x4), (6, .int x6), (7, .int x7)]) dX10_order_72 rfl (by decide) rfl ?_
      refine J_iinc (pc' := 77) (i := 7) (n := 6) (v := (x7 + (1 : Int32))) (lv' := [(7, .int (x7 + (1 : Int32))), (5, .int (x5 * x7)), (0, .ref 35), (2, .int x2), (3, .int x3), (4, .int x4), (6, .int x6)]) dX10_order_74 rfl rfl (j_inc _ _ rfl _) (by decide) rfl ?_
      refine J_goto (pc' := 58) dX10_order_77 (by decide) ?_
      refine J_sub [2, 3, 4, 5, 1, 6, 0] (lv' := [(0, .ref 35), (2, .int x2), (3, .int x3), (4, .int x4), (5, .int (x5 * x7)), (6, .int x6), (7, .int (x7 + (1 : Int32)))]) rfl ?_
      exact ih hs h hK
set_option maxHeartbeats 4000000 in
theorem L_X10_order_L109 {l : Launch} {G : j_G}  {r : (Int32 × j_M)} : ∀ (n : Nat) {x2 : Int32} {x3 : Int32} {x4 : Int32} {x5 : Int32} {x6 : Int32} {x7 : Int32} {x8 : Int32} {x9 : Int32} {M : j_M} (hs : sh_m M.2.2) {K : Int32 → j_M → Option (Int32 × j_M)}, f_X10_order_L109 n  M x2 x3 x4 x5 x6 x7 x8 x9 K = some r → (∀ (y9 : Int32) (M1 : j_M), sh_m M1.2.2 → K y9 M1 = some r → JT_X10_order l G r 148 [(0, .ref 35), (2, .int x2), (3, .int x3), (4, .int x4), (5, .int x5), (6, .int x6), (7, .int x7), (8, .int x8)] [] M1) → JT_X10_order l G r 109 [(0, .ref 35), (2, .int x2), (3, .int x3), (4, .int x4), (5, .int x5), (6, .int x6), (7, .int x7), (8, .int x8), (9, .int x9)] [] M := by
  intro n
  induction n with
  | zero =>
    intro x2 x3 x4 x5 x6 x7 x8 x9 M hs K h hK
    rw [f_X10_order_L109] at h; cases h
  | succ n ih =>
    intro x2 x3 x4 x5 x6 x7 x8 x9 M hs K h hK
    rw [f_X10_order_L109] at h
    refine J_iload (pc' := 111) (i := 9) (n := 8) dX10_order_109 rfl rfl ?_
    refine J_aload_n (pc' := 112) (i := 0) (n := 0) dX10_order_111 rfl rfl rfl ?_
    refine J_getI (pc' := 115) dX10_order_112 rfl fl_X10_171 rfl (m_o hs) (m_n hs (Nat.le_of_ble_eq_true rfl)) ?_
    refine J_icmp_ge (pc' := 118) (tgt := 148) dX10_order_115 rfl (by decide) (fun c37 => ?_) (fun c37 => ?_)
    · replace h := j_ip c37 h
      refine J_sub [0, 1, 2, 3, 4, 5, 6, 7] (lv' := [(0, .ref 35), (2, .int x2), (3, .int x3), (4, .int x4), (5, .int x5), (6, .int x6), (7, .int x7), (8, .int x8)]) rfl ?_
      exact hK x9 M hs h
    · replace h := j_iq c37 h
      refine J_iload (pc' := 120) (i := 8) (n := 7) dX10_order_118 rfl rfl ?_
      refine J_if_eq (pc' := 123) (tgt := 148) dX10_order_120 rfl (by decide) (fun c38 => ?_) (fun c38 => ?_)
      · replace h := j_ip c38 h
        refine J_sub [0, 1, 2, 3, 4, 5, 6, 7] (lv' := [(0, .ref 35), (2, .int x2), (3, .int x3), (4, .int x4), (5, .int x5), (6, .int x6), (7, .int x7), (8, .int x8)]) rfl ?_
        exact hK x9 M hs h
      · replace h := j_iq c38 h
        refine J_iload (pc' := 125) (i := 6) (n := 5) dX10_order_123 rfl rfl ?_
        refine J_if_ne (pc' := 128) (tgt := 148) dX10_order_125 rfl (by decide) (fun c39 => ?_) (fun c39 => ?_)
        · replace h := j_iq c39 h
          refine J_sub [0, 1, 2, 3, 4, 5, 6, 7] (lv' := [(0, .ref 35), (2, .int x2), (3, .int x3), (4, .int x4), (5, .int x5), (6, .int x6), (7, .int x7), (8, .int x8)]) rfl ?_
          exact hK x9 M hs h
        · replace h := j_ip c39 h
          refine J_aload_n (pc' := 129) (i := 0) (n := 0) dX10_order_128 rfl rfl rfl ?_
          refine J_getR (pc' := 132) (b := 44) dX10_order_129 rfl fl_X10_39 rfl (m_o hs) (m_n hs (Nat.le_of_ble_eq_true rfl)) (m_r13 hs) ?_
          refine J_iload (pc' := 134) (i := 9) (n := 8) dX10_order_132 rfl rfl ?_
          refine J_aload_n (pc' := 135) (i := 0) (n := 0) dX10_order_134 rfl rfl rfl ?_
          refine J_getR (pc' := 138) (b := 43) dX10_order_135 rfl fl_X10_36 rfl (m_o hs) (m_n hs (Nat.le_of_ble_eq_true rfl)) (m_r12 hs) ?_
          refine J_iload (pc' := 140) (i := 9) (n := 8) dX10_order_138 rfl rfl ?_
          obtain ⟨v40, e41, h⟩ := a_i_inv h
          refine J_ialde (pc' := 141) dX10_order_140 rfl (m_s43 hs) (m_n hs (Nat.le_of_ble_eq_true rfl)) e41 ?_
          obtain ⟨M42, e43, h⟩ := w_i_inv h
          have g44 : sh_m M42.2.2 := j_shI e43.2 hs
          refine J_iaste (pc' := 142) dX10_order_141 rfl (m_s44 hs) (m_n hs (Nat.le_of_ble_eq_true rfl)) e43 ?_
          refine J_iinc (pc' := 145) (i := 9) (n := 8) (v := (x9 + (1 : Int32))) (lv' := [(9, .int (x9 + (1 : Int32))), (0, .ref 35), (2, .int x2), (3, .int x3), (4, .int x4), (5, .int x5), (6, .int x6), (7, .int x7), (8, .int x8)]) dX10_order_142 rfl rfl (j_inc _ _ rfl _) (by decide) rfl ?_
          refine J_goto (pc' := 109) dX10_order_145 (by decide) ?_
          refine J_sub [1, 2, 3, 4, 5, 6, 7, 8, 0] (lv' := [(0, .ref 35), (2, .int x2), (3, .int x3), (4, .int x4), (5, .int x5), (6, .int x6), (7, .int x7), (8, .int x8), (9, .int (x9 + (1 : Int32)))]) rfl ?_
          exact ih g44 h hK
set_option maxHeartbeats 4000000 in
theorem L_X10_order_L83 {l : Launch} {G : j_G}  {r : (Int32 × j_M)} : ∀ (n : Nat) {x2 : Int32} {x3 : Int32} {x4 : Int32} {x5 : Int32} {x6 : Int32} {x7 : Int32} {M : j_M} (hs : sh_m M.2.2) {K : Int32 → Int32 → j_M → Option (Int32 × j_M)}, f_X10_order_L83 n  M x2 x3 x4 x5 x6 x7 K = some r → (∀ (y6 : Int32) (y7 : Int32) (M1 : j_M), sh_m M1.2.2 → K y6 y7 M1 = some r → JT_X10_order l G r 169 [(0, .ref 35), (4, .int x4), (6, .int y6)] [] M1) → JT_X10_order l G r 83 [(0, .ref 35), (2, .int x2), (3, .int x3), (4, .int x4), (5, .int x5), (6, .int x6), (7, .int x7)] [] M := by
  intro n
  induction n with
  | zero =>
    intro x2 x3 x4 x5 x6 x7 M hs K h hK
    rw [f_X10_order_L83] at h; cases h
  | succ n ih =>
    intro x2 x3 x4 x5 x6 x7 M hs K h hK
    rw [f_X10_order_L83] at h
    refine J_iload (pc' := 85) (i := 7) (n := 6) dX10_order_83 rfl rfl ?_
    refine J_iload (pc' := 87) (i := 5) (n := 4) dX10_order_85 rfl rfl ?_
    refine J_icmp_ge (pc' := 90) (tgt := 169) dX10_order_87 rfl (by decide) (fun c30 => ?_) (fun c30 => ?_)
    · replace h := j_ip c30 h
      refine J_sub [0, 3, 5] (lv' := [(0, .ref 35), (4, .int x4), (6, .int x6)]) rfl ?_
      exact hK x6 x7 M hs h
    · replace h := j_iq c30 h
      refine J_aload_n (pc' := 91) (i := 0) (n := 0) dX10_order_90 rfl rfl rfl ?_
      refine J_iload (pc' := 93) (i := 7) (n := 6) dX10_order_91 rfl rfl ?_
      refine J_iload (pc' := 95) (i := 5) (n := 4) dX10_order_93 rfl rfl ?_
      obtain ⟨q31, e32, h⟩ := bi_inv h
      obtain ⟨c33, h⟩ := j_ck_inv h
      refine J_callV (pc' := 98) (as := [.int x7, .int x5]) (rest := []) dX10_order_95 rfl lk_X10_180 rfl 10 (by decide) rfl (m_o hs) (m_n hs (Nat.le_of_ble_eq_true rfl)) (c_X10_layRow hs e32) ⟨Nat.le_of_ble_eq_true rfl, Nat.le_of_ble_eq_true rfl⟩ (Nat.le_of_ble_eq_true rfl) ⟨Nat.le_of_ble_eq_true rfl, Nat.le_of_ble_eq_true rfl⟩ (j_kv ?_)
      have g34 : sh_m q31.2.2 := j_shE c33 hs
      refine J_aload_n (pc' := 99) (i := 0) (n := 0) dX10_order_98 rfl rfl rfl ?_
      refine J_iload_n (pc' := 100) (i := 2) (n := 1) dX10_order_99 rfl rfl rfl ?_
      refine J_iload_n (pc' := 101) (i := 3) (n := 2) dX10_order_100 rfl rfl rfl ?_
      obtain ⟨v35, e36, h⟩ := bi_inv h
      refine J_callV (pc' := 104) (as := [.int x2, .int x3]) (rest := []) dX10_order_101 rfl lk_X10_183 rfl 10 (by decide) rfl (m_o g34) (m_n g34 (Nat.le_of_ble_eq_true rfl)) (c_X10_isRowWell g34 e36) ⟨Nat.le_of_ble_eq_true rfl, Nat.le_of_ble_eq_true rfl⟩ (Nat.le_of_ble_eq_true rfl) ⟨Nat.le_of_ble_eq_true rfl, Nat.le_of_ble_eq_true rfl⟩ (j_kq ?_)
      refine J_istore (pc' := 106) (i := 8) (lv' := [(8, .int v35), (0, .ref 35), (2, .int x2), (3, .int x3), (4, .int x4), (5, .int x5), (6, .int x6), (7, .int x7)]) dX10_order_104 rfl (by decide) rfl ?_
      refine J_iconst (pc' := 107) (v := (0 : Int32)) dX10_order_106 rfl ic_0 ?_
      refine J_istore (pc' := 109) (i := 9) (lv' := [(9, .int (0 : Int32)), (8, .int v35), (0, .ref 35), (2, .int x2), (3, .int x3), (4, .int x4), (5, .int x5), (6, .int x6), (7, .int x7)]) dX10_order_107 rfl (by decide) rfl ?_
      refine J_sub [2, 3, 4, 5, 6, 7, 8, 1, 0] (lv' := [(0, .ref 35), (2, .int x2), (3, .int x3), (4, .int x4), (5, .int x5), (6, .int x6), (7, .int x7), (8, .int v35), (9, .int (0 : Int32))]) rfl ?_
      refine L_X10_order_L109 j_fu g34 h (fun y45 M46 g47 h => ?_)
      refine J_iload (pc' := 150) (i := 6) (n := 5) dX10_order_148 rfl rfl ?_
      refine J_iload (pc' := 152) (i := 8) (n := 7) dX10_order_150 rfl rfl ?_
      refine J_if_eq (pc' := 155) (tgt := 159) dX10_order_152 rfl (by decide) (fun c48 => ?_) (fun c48 => ?_)
      · replace h := j_ip c48 h
        refine J_iconst (pc' := 160) (v := (0 : Int32)) dX10_order_159 rfl ic_0 ?_
        refine J_iadd (pc' := 161) dX10_order_160 rfl ?_
        refine J_istore (pc' := 163) (i := 6) (lv' := [(6, .int (x6 + (0 : Int32))), (0, .ref 35), (2, .int x2), (3, .int x3), (4, .int x4), (5, .int x5), (7, .int x7), (8, .int v35)]) dX10_order_161 rfl (by decide) rfl ?_
        refine J_iinc (pc' := 166) (i := 7) (n := 6) (v := (x7 + (1 : Int32))) (lv' := [(7, .int (x7 + (1 : Int32))), (6, .int (x6 + (0 : Int32))), (0, .ref 35), (2, .int x2), (3, .int x3), (4, .int x4), (5, .int x5), (8, .int v35)]) dX10_order_163 rfl rfl (j_inc _ _ rfl _) (by decide) rfl ?_
        refine J_goto (pc' := 83) dX10_order_166 (by decide) ?_
        refine J_sub [2, 3, 4, 5, 6, 1, 0] (lv' := [(0, .ref 35), (2, .int x2), (3, .int x3), (4, .int x4), (5, .int x5), (6, .int (x6 + (0 : Int32))), (7, .int (x7 + (1 : Int32)))]) rfl ?_
        exact ih g47 h hK
      · replace h := j_iq c48 h
        refine J_iconst (pc' := 156) (v := (1 : Int32)) dX10_order_155 rfl ic_1 ?_
        refine J_goto (pc' := 160) dX10_order_156 (by decide) ?_
        refine J_iadd (pc' := 161) dX10_order_160 rfl ?_
        refine J_istore (pc' := 163) (i := 6) (lv' := [(6, .int (x6 + (1 : Int32))), (0, .ref 35), (2, .int x2), (3, .int x3), (4, .int x4), (5, .int x5), (7, .int x7), (8, .int v35)]) dX10_order_161 rfl (by decide) rfl ?_
        refine J_iinc (pc' := 166) (i := 7) (n := 6) (v := (x7 + (1 : Int32))) (lv' := [(7, .int (x7 + (1 : Int32))), (6, .int (x6 + (1 : Int32))), (0, .ref 35), (2, .int x2), (3, .int x3), (4, .int x4), (5, .int x5), (8, .int v35)]) dX10_order_163 rfl rfl (j_inc _ _ rfl _) (by decide) rfl ?_
        refine J_goto (pc' := 83) dX10_order_166 (by decide) ?_
        refine J_sub [2, 3, 4, 5, 6, 1, 0] (lv' := [(0, .ref 35), (2, .int x2), (3, .int x3), (4, .int x4), (5, .int x5), (6, .int (x6 + (1 : Int32))), (7, .int (x7 + (1 : Int32)))]) rfl ?_
        exact ih g47 h hK
set_option maxHeartbeats 4000000 in
theorem c_X10_order {l : Launch} {G : j_G} {M : j_M} {x1 : Int32} {x2 : Int32} {x3 : Int32} {x4 : Int32} (hs : sh_m M.2.2) {r : (Int32 × j_M)} (h : f_X10_order M x1 x2 x3 x4 = some r) : j_Sp l G md_X10_order 3 (0, 0) [.ref 35, .int x1, .int x2, .int x3, .int x4] M (po (some (.int r.1)) r.2) := by
  refine j_Sp.of (by decide) (Nat.le_of_ble_eq_true rfl) ?_
  show JT_X10_order l G r 0 [(0, .ref 35), (1, .int x1), (2, .int x2), (3, .int x3), (4, .int x4)] [] M
  unfold f_X10_order at h
  refine J_iload_n (pc' := 1) (i := 1) (n := 1) dX10_order_0 rfl rfl rfl ?_
  obtain ⟨v1, e2, h⟩ := tl_inv h
  refine J_callS (pc' := 4) (as := [.int x1]) (rest := []) dX10_order_1 rfl lk_X10_78 rfl (c_X10_isLane e2) ⟨Nat.le_of_ble_eq_true rfl, Nat.le_of_ble_eq_true rfl⟩ (Nat.le_of_ble_eq_true rfl) ⟨Nat.le_of_ble_eq_true rfl, Nat.le_of_ble_eq_true rfl⟩ (j_kq ?_)
  refine J_if_eq (pc' := 7) (tgt := 37) dX10_order_4 rfl (by decide) (fun c3 => ?_) (fun c3 => ?_)
  · replace h := j_ip c3 h
    refine J_aload_n (pc' := 38) (i := 0) (n := 0) dX10_order_37 rfl rfl rfl ?_
    refine J_bipush (pc' := 40) (v := ((-10) : Int32)) dX10_order_38 rfl bp_m10 ?_
    obtain ⟨q4, e5, h⟩ := bi_inv h
    obtain ⟨c6, h⟩ := j_ck_inv h
    refine J_callV (pc' := 43) (as := [.int ((-10) : Int32)]) (rest := []) dX10_order_40 rfl lk_X10_84 rfl 10 (by decide) rfl (m_o hs) (m_n hs (Nat.le_of_ble_eq_true rfl)) (c_X10_bad hs e5) ⟨Nat.le_of_ble_eq_true rfl, Nat.le_of_ble_eq_true rfl⟩ (Nat.le_of_ble_eq_true rfl) ⟨Nat.le_of_ble_eq_true rfl, Nat.le_of_ble_eq_true rfl⟩ (j_kq ?_)
    have g7 : sh_m q4.2.2.2 := j_shE c6 hs
    exact J_iret rfl dX10_order_43 ⟨rfl, Nat.le_refl _⟩ (j_pW h)
  · replace h := j_iq c3 h
    refine J_iload_n (pc' := 8) (i := 2) (n := 2) dX10_order_7 rfl rfl rfl ?_
    refine J_i2l (pc' := 9) dX10_order_8 rfl ?_
    refine J_lconst (pc' := 10) (v := (0 : Int64)) dX10_order_9 rfl rfl ?_
    refine J_ldc2 (pc' := 13) (v := (60 : Int64)) dX10_order_10 rfl wd_1050 ?_
    obtain ⟨v8, e9, h⟩ := tl_inv h
    refine J_callS (pc' := 16) (as := [.long (x2).toInt64, .long (0 : Int64), .long (60 : Int64)]) (rest := []) dX10_order_13 rfl lk_X10_68 rfl (c_X10_in e9) ⟨Nat.le_of_ble_eq_true rfl, Nat.le_of_ble_eq_true rfl⟩ (Nat.le_of_ble_eq_true rfl) ⟨Nat.le_of_ble_eq_true rfl, Nat.le_of_ble_eq_true rfl⟩ (j_kq ?_)
    refine J_if_eq (pc' := 19) (tgt := 37) dX10_order_16 rfl (by decide) (fun c10 => ?_) (fun c10 => ?_)
    · replace h := j_ip c10 h
      refine J_aload_n (pc' := 38) (i := 0) (n := 0) dX10_order_37 rfl rfl rfl ?_
      refine J_bipush (pc' := 40) (v := ((-10) : Int32)) dX10_order_38 rfl bp_m10 ?_
      obtain ⟨q11, e12, h⟩ := bi_inv h
      obtain ⟨c13, h⟩ := j_ck_inv h
      refine J_callV (pc' := 43) (as := [.int ((-10) : Int32)]) (rest := []) dX10_order_40 rfl lk_X10_84 rfl 10 (by decide) rfl (m_o hs) (m_n hs (Nat.le_of_ble_eq_true rfl)) (c_X10_bad hs e12) ⟨Nat.le_of_ble_eq_true rfl, Nat.le_of_ble_eq_true rfl⟩ (Nat.le_of_ble_eq_true rfl) ⟨Nat.le_of_ble_eq_true rfl, Nat.le_of_ble_eq_true rfl⟩ (j_kq ?_)
      have g14 : sh_m q11.2.2.2 := j_shE c13 hs
      exact J_iret rfl dX10_order_43 ⟨rfl, Nat.le_refl _⟩ (j_pW h)
    · replace h := j_iq c10 h
      refine J_iload_n (pc' := 20) (i := 3) (n := 3) dX10_order_19 rfl rfl rfl ?_
      refine J_i2l (pc' := 21) dX10_order_20 rfl ?_
      refine J_lconst (pc' := 22) (v := (1 : Int64)) dX10_order_21 rfl rfl ?_
      refine J_ldc2 (pc' := 25) (v := (9 : Int64)) dX10_order_22 rfl wd_1146 ?_
      obtain ⟨v15, e16, h⟩ := tl_inv h
      refine J_callS (pc' := 28) (as := [.long (x3).toInt64, .long (1 : Int64), .long (9 : Int64)]) (rest := []) dX10_order_25 rfl lk_X10_68 rfl (c_X10_in e16) ⟨Nat.le_of_ble_eq_true rfl, Nat.le_of_ble_eq_true rfl⟩ (Nat.le_of_ble_eq_true rfl) ⟨Nat.le_of_ble_eq_true rfl, Nat.le_of_ble_eq_true rfl⟩ (j_kq ?_)
      refine J_if_eq (pc' := 31) (tgt := 37) dX10_order_28 rfl (by decide) (fun c17 => ?_) (fun c17 => ?_)
      · replace h := j_ip c17 h
        refine J_aload_n (pc' := 38) (i := 0) (n := 0) dX10_order_37 rfl rfl rfl ?_
        refine J_bipush (pc' := 40) (v := ((-10) : Int32)) dX10_order_38 rfl bp_m10 ?_
        obtain ⟨q18, e19, h⟩ := bi_inv h
        obtain ⟨c20, h⟩ := j_ck_inv h
        refine J_callV (pc' := 43) (as := [.int ((-10) : Int32)]) (rest := []) dX10_order_40 rfl lk_X10_84 rfl 10 (by decide) rfl (m_o hs) (m_n hs (Nat.le_of_ble_eq_true rfl)) (c_X10_bad hs e19) ⟨Nat.le_of_ble_eq_true rfl, Nat.le_of_ble_eq_true rfl⟩ (Nat.le_of_ble_eq_true rfl) ⟨Nat.le_of_ble_eq_true rfl, Nat.le_of_ble_eq_true rfl⟩ (j_kq ?_)
        have g21 : sh_m q18.2.2.2 := j_shE c20 hs
        exact J_iret rfl dX10_order_43 ⟨rfl, Nat.le_refl _⟩ (j_pW h)
      · replace h := j_iq c17 h
        refine J_iload (pc' := 33) (i := 4) (n := 4) dX10_order_31 rfl rfl ?_
        refine J_iconst (pc' := 34) (v := ((-1) : Int32)) dX10_order_33 rfl ic_m1 ?_
        refine J_icmp_ge (pc' := 37) (tgt := 44) dX10_order_34 rfl (by decide) (fun c22 => ?_) (fun c22 => ?_)
        · replace h := j_ip c22 h
          refine J_iconst (pc' := 45) (v := (1 : Int32)) dX10_order_44 rfl ic_1 ?_
          refine J_istore (pc' := 47) (i := 5) (lv' := [(5, .int (1 : Int32)), (0, .ref 35), (1, .int x1), (2, .int x2), (3, .int x3), (4, .int x4)]) dX10_order_45 rfl (by decide) rfl ?_
          refine J_iconst (pc' := 48) (v := (0 : Int32)) dX10_order_47 rfl ic_0 ?_
          refine J_istore (pc' := 50) (i := 6) (lv' := [(6, .int (0 : Int32)), (5, .int (1 : Int32)), (0, .ref 35), (1, .int x1), (2, .int x2), (3, .int x3), (4, .int x4)]) dX10_order_48 rfl (by decide) rfl ?_
          refine J_aload_n (pc' := 51) (i := 0) (n := 2) dX10_order_50 rfl rfl rfl ?_
          refine J_iload_n (pc' := 52) (i := 1) (n := 3) dX10_order_51 rfl rfl rfl ?_
          obtain ⟨q23, e24, h⟩ := bi_inv h
          obtain ⟨c25, h⟩ := j_ck_inv h
          refine J_callV (pc' := 55) (as := [.int x1]) (rest := []) dX10_order_52 rfl lk_X10_176 rfl 10 (by decide) rfl (m_o hs) (m_n hs (Nat.le_of_ble_eq_true rfl)) (c_X10_layStart hs e24) ⟨Nat.le_of_ble_eq_true rfl, Nat.le_of_ble_eq_true rfl⟩ (Nat.le_of_ble_eq_true rfl) ⟨Nat.le_of_ble_eq_true rfl, Nat.le_of_ble_eq_true rfl⟩ (j_kv ?_)
          have g26 : sh_m q23.2.2 := j_shE c25 hs
          refine J_iconst (pc' := 56) (v := (2 : Int32)) dX10_order_55 rfl ic_2 ?_
          refine J_istore (pc' := 58) (i := 7) (lv' := [(7, .int (2 : Int32)), (6, .int (0 : Int32)), (5, .int (1 : Int32)), (0, .ref 35), (1, .int x1), (2, .int x2), (3, .int x3), (4, .int x4)]) dX10_order_56 rfl (by decide) rfl ?_
          refine J_sub [3, 5, 6, 7, 2, 1, 0] (lv' := [(0, .ref 35), (2, .int x2), (3, .int x3), (4, .int x4), (5, .int (1 : Int32)), (6, .int (0 : Int32)), (7, .int (2 : Int32))]) rfl ?_
          refine L_X10_order_L58 j_fu g26 h (fun y28 y29 h => ?_)
          refine J_iconst (pc' := 81) (v := (0 : Int32)) dX10_order_80 rfl ic_0 ?_
          refine J_istore (pc' := 83) (i := 7) (lv' := [(7, .int (0 : Int32)), (0, .ref 35), (2, .int x2), (3, .int x3), (4, .int x4), (5, .int y28), (6, .int (0 : Int32))]) dX10_order_81 rfl (by decide) rfl ?_
          refine J_sub [1, 2, 3, 4, 5, 6, 0] (lv' := [(0, .ref 35), (2, .int x2), (3, .int x3), (4, .int x4), (5, .int y28), (6, .int (0 : Int32)), (7, .int (0 : Int32))]) rfl ?_
          refine L_X10_order_L83 j_fu g26 h (fun y49 y50 M51 g52 h => ?_)
          refine J_iload (pc' := 171) (i := 4) (n := 1) dX10_order_169 rfl rfl ?_
          refine J_iconst (pc' := 172) (v := ((-1) : Int32)) dX10_order_171 rfl ic_m1 ?_
          refine J_icmp_ne (pc' := 175) (tgt := 180) dX10_order_172 rfl (by decide) (fun c53 => ?_) (fun c53 => ?_)
          · replace h := j_iq c53 h
            refine J_iload (pc' := 182) (i := 6) (n := 2) dX10_order_180 rfl rfl ?_
            refine J_if_ne (pc' := 185) (tgt := 189) dX10_order_182 rfl (by decide) (fun c54 => ?_) (fun c54 => ?_)
            · replace h := j_iq c54 h
              refine J_iload (pc' := 191) (i := 4) (n := 1) dX10_order_189 rfl rfl ?_
              refine J_aload_n (pc' := 192) (i := 0) (n := 0) dX10_order_191 rfl rfl rfl ?_
              refine J_getI (pc' := 195) dX10_order_192 rfl fl_X10_171 rfl (m_o g52) (m_n g52 (Nat.le_of_ble_eq_true rfl)) ?_
              refine J_icmp_ge (pc' := 198) (tgt := 208) dX10_order_195 rfl (by decide) (fun c55 => ?_) (fun c55 => ?_)
              · replace h := j_ip c55 h
                refine J_bipush (pc' := 210) (v := ((-5) : Int32)) dX10_order_208 rfl bp_m5 ?_
                exact J_iret rfl dX10_order_210 ⟨rfl, Nat.le_refl _⟩ (j_pW h)
              · replace h := j_iq c55 h
                refine J_aload_n (pc' := 199) (i := 0) (n := 0) dX10_order_198 rfl rfl rfl ?_
                refine J_getR (pc' := 202) (b := 44) dX10_order_199 rfl fl_X10_39 rfl (m_o g52) (m_n g52 (Nat.le_of_ble_eq_true rfl)) (m_r13 g52) ?_
                refine J_iload (pc' := 204) (i := 4) (n := 1) dX10_order_202 rfl rfl ?_
                obtain ⟨v56, e57, h⟩ := a_i_inv h
                refine J_ialde (pc' := 205) dX10_order_204 rfl (m_s44 g52) (m_n g52 (Nat.le_of_ble_eq_true rfl)) e57 ?_
                refine J_goto (pc' := 210) dX10_order_205 (by decide) ?_
                exact J_iret rfl dX10_order_210 ⟨rfl, Nat.le_refl _⟩ (j_pW h)
            · replace h := j_ip c54 h
              refine J_iconst (pc' := 186) (v := ((-1) : Int32)) dX10_order_185 rfl ic_m1 ?_
              refine J_goto (pc' := 210) dX10_order_186 (by decide) ?_
              exact J_iret rfl dX10_order_210 ⟨rfl, Nat.le_refl _⟩ (j_pW h)
          · replace h := j_ip c53 h
            refine J_iload (pc' := 177) (i := 6) (n := 2) dX10_order_175 rfl rfl ?_
            refine J_goto (pc' := 210) dX10_order_177 (by decide) ?_
            exact J_iret rfl dX10_order_210 ⟨rfl, Nat.le_refl _⟩ (j_pW h)
        · replace h := j_iq c22 h
          refine J_aload_n (pc' := 38) (i := 0) (n := 0) dX10_order_37 rfl rfl rfl ?_
          refine J_bipush (pc' := 40) (v := ((-10) : Int32)) dX10_order_38 rfl bp_m10 ?_
          obtain ⟨q58, e59, h⟩ := bi_inv h
          obtain ⟨c60, h⟩ := j_ck_inv h
          refine J_callV (pc' := 43) (as := [.int ((-10) : Int32)]) (rest := []) dX10_order_40 rfl lk_X10_84 rfl 10 (by decide) rfl (m_o hs) (m_n hs (Nat.le_of_ble_eq_true rfl)) (c_X10_bad hs e59) ⟨Nat.le_of_ble_eq_true rfl, Nat.le_of_ble_eq_true rfl⟩ (Nat.le_of_ble_eq_true rfl) ⟨Nat.le_of_ble_eq_true rfl, Nat.le_of_ble_eq_true rfl⟩ (j_kq ?_)
          have g61 : sh_m q58.2.2.2 := j_shE c60 hs
          exact J_iret rfl dX10_order_43 ⟨rfl, Nat.le_refl _⟩ (j_pW h)
