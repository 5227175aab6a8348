abbrev JT_X9_changes (l : Launch) (G : j_G) (r : (Int32 × j_M)) : Nat → List (Nat × Value) → List Value → j_M → Prop := JJ l G md_X9_changes (j_rm 9 (0, 0)) (0, 0) (0, 0) (po (some (.int r.1)) r.2)
noncomputable def f_X9_changes (M : j_M) (x1 : Int32) : Option (Int32 × j_M) :=
  if x1 = ((-1) : Int32) then (c_i M (17 + 5) 22 (0 : Int32) 2 22 (0 : Int32) (22 : Int32) fun M2 => ((f_X9_changeTillNobodyWould M2 2).bind fun q5 => j_ck M2 q5.2 (if x1 = ((-1) : Int32) then (some (q5.1, q5.2)) else (a_i q5.2 2 22 ((1 : Int32) + x1) fun v10 => (some (v10, q5.2)))))) else (tl (f_X9_isOne M x1) fun v12 => (if v12 = 0 then ((f_X9_badAsTen M).bind fun q25 => j_ck M q25.2 (some (q25.1, q25.2))) else (c_i M (17 + 5) 22 (0 : Int32) 2 22 (0 : Int32) (22 : Int32) fun M15 => ((f_X9_changeTillNobodyWould M15 2).bind fun q18 => j_ck M15 q18.2 (if x1 = ((-1) : Int32) then (some (q18.1, q18.2)) else (a_i q18.2 2 22 ((1 : Int32) + x1) fun v23 => (some (v23, q18.2))))))))
set_option maxHeartbeats 4000000 in
theorem c_X9_changes {l : Launch} {G : j_G} {M : j_M} {x1 : Int32} (hs : sh_x M.2.2) {r : (Int32 × j_M)} (h : f_X9_changes M x1 = some r) : j_Sp l G md_X9_changes 9 (0, 0) [.ref 0, .int x1] M (po (some (.int r.1)) r.2) := by
  refine j_Sp.of (by decide) (Nat.le_of_ble_eq_true rfl) ?_
  show JT_X9_changes l G r 0 [(0, .ref 0), (1, .int x1)] [] M
  unfold f_X9_changes at h
  refine J_iload_n (pc' := 1) (i := 1) (n := 1) dX9_changes_0 rfl rfl rfl ?_
  refine J_iconst (pc' := 2) (v := ((-1) : Int32)) dX9_changes_1 rfl ic_m1 ?_
  refine J_icmp_eq (pc' := 5) (tgt := 18) dX9_changes_2 rfl (by decide) (fun c1 => ?_) (fun c1 => ?_)
  · replace h := j_ip c1 h
    refine J_aload_n (pc' := 19) (i := 0) (n := 0) dX9_changes_18 rfl rfl rfl ?_
    refine J_getR (pc' := 22) (b := 17) dX9_changes_19 rfl fl_X9_75 rfl (x_o hs) (x_n hs (Nat.le_of_ble_eq_true rfl)) (x_r0 hs) ?_
    refine J_getR (pc' := 25) (b := (17 + 5)) dX9_changes_22 rfl fl_X9_103 rfl (b_o (x_b17 hs)) (b_no (x_b17 hs)) (b_r5 (x_b17 hs)) ?_
    refine J_iconst (pc' := 26) (v := (0 : Int32)) dX9_changes_25 rfl ic_0 ?_
    refine J_aload_n (pc' := 27) (i := 0) (n := 0) dX9_changes_26 rfl rfl rfl ?_
    refine J_getR (pc' := 30) (b := 2) dX9_changes_27 rfl fl_X9_15 rfl (x_o hs) (x_n hs (Nat.le_of_ble_eq_true rfl)) (x_r3 hs) ?_
    refine J_iconst (pc' := 31) (v := (0 : Int32)) dX9_changes_30 rfl ic_0 ?_
    refine J_bipush (pc' := 33) (v := (22 : Int32)) dX9_changes_31 rfl bp_22 ?_
    obtain ⟨M2, e3, h⟩ := c_i_inv h
    have g4 : sh_x M2.2.2 := j_shC e3.2 hs
    refine J_copye (pc' := 36) dX9_changes_33 rfl lk_X9_223 (b_s5 (x_b17 hs)) (b_n (x_b17 hs) (Nat.le_of_ble_eq_true rfl)) (x_s2 hs) (x_n hs (Nat.le_of_ble_eq_true rfl)) ⟨Nat.le_of_ble_eq_true rfl, Nat.le_of_ble_eq_true rfl⟩ e3 ?_
    refine J_aload_n (pc' := 37) (i := 0) (n := 0) dX9_changes_36 rfl rfl rfl ?_
    refine J_aload_n (pc' := 38) (i := 0) (n := 0) dX9_changes_37 rfl rfl rfl ?_
    refine J_getR (pc' := 41) (b := 2) dX9_changes_38 rfl fl_X9_15 rfl (x_o g4) (x_n g4 (Nat.le_of_ble_eq_true rfl)) (x_r3 g4) ?_
    obtain ⟨q5, e6, h⟩ := bi_inv h
    obtain ⟨c7, h⟩ := j_ck_inv h
    refine J_callV (pc' := 44) (as := [.ref 2]) (rest := []) dX9_changes_41 rfl lk_X9_229 rfl 9 (by decide) rfl (x_o g4) (x_n g4 (Nat.le_of_ble_eq_true rfl)) (c_X9_changeTillNobodyWould g4 ⟨(x_s2 g4), (x_n g4 (Nat.le_of_ble_eq_true rfl))⟩ e6) ⟨Nat.le_of_ble_eq_true rfl, Nat.le_of_ble_eq_true rfl⟩ (Nat.le_of_ble_eq_true rfl) ⟨Nat.le_of_ble_eq_true rfl, Nat.le_of_ble_eq_true rfl⟩ (j_kq ?_)
    have g8 : sh_x q5.2.2.2 := j_shE c7 g4
    refine J_istore_n (pc' := 45) (i := 2) (lv' := [(2, .int q5.1), (0, .ref 0), (1, .int x1)]) dX9_changes_44 rfl rfl (by decide) rfl ?_
    refine J_iload_n (pc' := 46) (i := 1) (n := 2) dX9_changes_45 rfl rfl rfl ?_
    refine J_iconst (pc' := 47) (v := ((-1) : Int32)) dX9_changes_46 rfl ic_m1 ?_
    refine J_icmp_ne (pc' := 50) (tgt := 54) dX9_changes_47 rfl (by decide) (fun c9 => ?_) (fun c9 => ?_)
    · replace h := j_iq c9 h
      refine J_aload_n (pc' := 55) (i := 0) (n := 1) dX9_changes_54 rfl rfl rfl ?_
      refine J_getR (pc' := 58) (b := 2) dX9_changes_55 rfl fl_X9_15 rfl (x_o g8) (x_n g8 (Nat.le_of_ble_eq_true rfl)) (x_r3 g8) ?_
      refine J_iconst (pc' := 59) (v := (1 : Int32)) dX9_changes_58 rfl ic_1 ?_
      refine J_iload_n (pc' := 60) (i := 1) (n := 2) dX9_changes_59 rfl rfl rfl ?_
      refine J_iadd (pc' := 61) dX9_changes_60 rfl ?_
      obtain ⟨v10, e11, h⟩ := a_i_inv h
      refine J_ialde (pc' := 62) dX9_changes_61 rfl (x_s2 g8) (x_n g8 (Nat.le_of_ble_eq_true rfl)) e11 ?_
      exact J_iret rfl dX9_changes_62 ⟨rfl, Nat.le_refl _⟩ (j_pW h)
    · replace h := j_ip c9 h
      refine J_iload_n (pc' := 51) (i := 2) (n := 0) dX9_changes_50 rfl rfl rfl ?_
      refine J_goto (pc' := 62) dX9_changes_51 (by decide) ?_
      exact J_iret rfl dX9_changes_62 ⟨rfl, Nat.le_refl _⟩ (j_pW h)
  · replace h := j_iq c1 h
    refine J_aload_n (pc' := 6) (i := 0) (n := 0) dX9_changes_5 rfl rfl rfl ?_
    refine J_iload_n (pc' := 7) (i := 1) (n := 1) dX9_changes_6 rfl rfl rfl ?_
    obtain ⟨v12, e13, h⟩ := tl_inv h
    refine J_callV (pc' := 10) (as := [.int x1]) (rest := []) dX9_changes_7 rfl lk_X9_153 rfl 9 (by decide) rfl (x_o hs) (x_n hs (Nat.le_of_ble_eq_true rfl)) (c_X9_isOne hs e13) ⟨Nat.le_of_ble_eq_true rfl, Nat.le_of_ble_eq_true rfl⟩ (Nat.le_of_ble_eq_true rfl) ⟨Nat.le_of_ble_eq_true rfl, Nat.le_of_ble_eq_true rfl⟩ (j_kq ?_)
    refine J_if_ne (pc' := 13) (tgt := 18) dX9_changes_10 rfl (by decide) (fun c14 => ?_) (fun c14 => ?_)
    · replace h := j_iq c14 h
      refine J_aload_n (pc' := 19) (i := 0) (n := 0) dX9_changes_18 rfl rfl rfl ?_
      refine J_getR (pc' := 22) (b := 17) dX9_changes_19 rfl fl_X9_75 rfl (x_o hs) (x_n hs (Nat.le_of_ble_eq_true rfl)) (x_r0 hs) ?_
      refine J_getR (pc' := 25) (b := (17 + 5)) dX9_changes_22 rfl fl_X9_103 rfl (b_o (x_b17 hs)) (b_no (x_b17 hs)) (b_r5 (x_b17 hs)) ?_
      refine J_iconst (pc' := 26) (v := (0 : Int32)) dX9_changes_25 rfl ic_0 ?_
      refine J_aload_n (pc' := 27) (i := 0) (n := 0) dX9_changes_26 rfl rfl rfl ?_
      refine J_getR (pc' := 30) (b := 2) dX9_changes_27 rfl fl_X9_15 rfl (x_o hs) (x_n hs (Nat.le_of_ble_eq_true rfl)) (x_r3 hs) ?_
      refine J_iconst (pc' := 31) (v := (0 : Int32)) dX9_changes_30 rfl ic_0 ?_
      refine J_bipush (pc' := 33) (v := (22 : Int32)) dX9_changes_31 rfl bp_22 ?_
      obtain ⟨M15, e16, h⟩ := c_i_inv h
      have g17 : sh_x M15.2.2 := j_shC e16.2 hs
      refine J_copye (pc' := 36) dX9_changes_33 rfl lk_X9_223 (b_s5 (x_b17 hs)) (b_n (x_b17 hs) (Nat.le_of_ble_eq_true rfl)) (x_s2 hs) (x_n hs (Nat.le_of_ble_eq_true rfl)) ⟨Nat.le_of_ble_eq_true rfl, Nat.le_of_ble_eq_true rfl⟩ e16 ?_
      refine J_aload_n (pc' := 37) (i := 0) (n := 0) dX9_changes_36 rfl rfl rfl ?_
      refine J_aload_n (pc' := 38) (i := 0) (n := 0) dX9_changes_37 rfl rfl rfl ?_
      refine J_getR (pc' := 41) (b := 2) dX9_changes_38 rfl fl_X9_15 rfl (x_o g17) (x_n g17 (Nat.le_of_ble_eq_true rfl)) (x_r3 g17) ?_
      obtain ⟨q18, e19, h⟩ := bi_inv h
      obtain ⟨c20, h⟩ := j_ck_inv h
      refine J_callV (pc' := 44) (as := [.ref 2]) (rest := []) dX9_changes_41 rfl lk_X9_229 rfl 9 (by decide) rfl (x_o g17) (x_n g17 (Nat.le_of_ble_eq_true rfl)) (c_X9_changeTillNobodyWould g17 ⟨(x_s2 g17), (x_n g17 (Nat.le_of_ble_eq_true rfl))⟩ e19) ⟨Nat.le_of_ble_eq_true rfl, Nat.le_of_ble_eq_true rfl⟩ (Nat.le_of_ble_eq_true rfl) ⟨Nat.le_of_ble_eq_true rfl, Nat.le_of_ble_eq_true rfl⟩ (j_kq ?_)
      have g21 : sh_x q18.2.2.2 := j_shE c20 g17
      refine J_istore_n (pc' := 45) (i := 2) (lv' := [(2, .int q18.1), (0, .ref 0), (1, .int x1)]) dX9_changes_44 rfl rfl (by decide) rfl ?_
      refine J_iload_n (pc' := 46) (i := 1) (n := 2) dX9_changes_45 rfl rfl rfl ?_
      refine J_iconst (pc' := 47) (v := ((-1) : Int32)) dX9_changes_46 rfl ic_m1 ?_
      refine J_icmp_ne (pc' := 50) (tgt := 54) dX9_changes_47 rfl (by decide) (fun c22 => ?_) (fun c22 => ?_)
      · replace h := j_iq c22 h
        refine J_aload_n (pc' := 55) (i := 0) (n := 1) dX9_changes_54 rfl rfl rfl ?_
        refine J_getR (pc' := 58) (b := 2) dX9_changes_55 rfl fl_X9_15 rfl (x_o g21) (x_n g21 (Nat.le_of_ble_eq_true rfl)) (x_r3 g21) ?_
        refine J_iconst (pc' := 59) (v := (1 : Int32)) dX9_changes_58 rfl ic_1 ?_
        refine J_iload_n (pc' := 60) (i := 1) (n := 2) dX9_changes_59 rfl rfl rfl ?_
        refine J_iadd (pc' := 61) dX9_changes_60 rfl ?_
        obtain ⟨v23, e24, h⟩ := a_i_inv h
        refine J_ialde (pc' := 62) dX9_changes_61 rfl (x_s2 g21) (x_n g21 (Nat.le_of_ble_eq_true rfl)) e24 ?_
        exact J_iret rfl dX9_changes_62 ⟨rfl, Nat.le_refl _⟩ (j_pW h)
      · replace h := j_ip c22 h
        refine J_iload_n (pc' := 51) (i := 2) (n := 0) dX9_changes_50 rfl rfl rfl ?_
        refine J_goto (pc' := 62) dX9_changes_51 (by decide) ?_
        exact J_iret rfl dX9_changes_62 ⟨rfl, Nat.le_refl _⟩ (j_pW h)
    · replace h := j_ip c14 h
      refine J_aload_n (pc' := 14) (i := 0) (n := 0) dX9_changes_13 rfl rfl rfl ?_
      obtain ⟨q25, e26, h⟩ := bi_inv h
      obtain ⟨c27, h⟩ := j_ck_inv h
      refine J_callV (pc' := 17) (as := []) (rest := []) dX9_changes_14 rfl lk_X9_209 rfl 9 (by decide) rfl (x_o hs) (x_n hs (Nat.le_of_ble_eq_true rfl)) (c_X9_badAsTen hs e26) ⟨Nat.le_of_ble_eq_true rfl, Nat.le_of_ble_eq_true rfl⟩ (Nat.le_of_ble_eq_true rfl) ⟨Nat.le_of_ble_eq_true rfl, Nat.le_of_ble_eq_true rfl⟩ (j_kq ?_)
      have g28 : sh_x q25.2.2.2 := j_shE c27 hs
      exact J_iret rfl dX9_changes_17 ⟨rfl, Nat.le_refl _⟩ (j_pW h)
abbrev JT_X9_ranksBelow (l : Launch) (G : j_G) (M : j_M) (r : Int32) : Nat → List (Nat × Value) → List Value → j_M → Prop := JJ l G md_X9_ranksBelow (j_rm 1 (0, 0)) (0, 0) (0, 0) (po (some (.int r)) M)
noncomputable def f_X9_ranksBelow (M : j_M) (x1 : Int32) (x2 : Int32) : Option Int32 :=
  a_i M (17 + 4) 7 x1 fun v1 => (a_i M (17 + 4) 7 x2 fun v3 => (if (v1 - v3) < 0 then (some (1 : Int32)) else (if (v1 - v3) = 0 then (if x2 ≤ x1 then (some (0 : Int32)) else (some (1 : Int32))) else (some (0 : Int32)))))
set_option maxHeartbeats 4000000 in
theorem c_X9_ranksBelow {l : Launch} {G : j_G} {M : j_M} {x1 : Int32} {x2 : Int32} (hs : sh_x M.2.2) {r : Int32} (h : f_X9_ranksBelow M x1 x2 = some r) : j_Sp l G md_X9_ranksBelow 1 (0, 0) [.ref 0, .int x1, .int x2] M (po (some (.int r)) M) := by
  refine j_Sp.of (by decide) (Nat.le_of_ble_eq_true rfl) ?_
  show JT_X9_ranksBelow l G M r 0 [(0, .ref 0), (1, .int x1), (2, .int x2)] [] M
  unfold f_X9_ranksBelow at h
  refine J_aload_n (pc' := 1) (i := 0) (n := 0) dX9_ranksBelow_0 rfl rfl rfl ?_
  refine J_getR (pc' := 4) (b := 17) dX9_ranksBelow_1 rfl fl_X9_75 rfl (x_o hs) (x_n hs (Nat.le_of_ble_eq_true rfl)) (x_r0 hs) ?_
  refine J_getR (pc' := 7) (b := (17 + 4)) dX9_ranksBelow_4 rfl fl_X9_172 rfl (b_o (x_b17 hs)) (b_no (x_b17 hs)) (b_r4 (x_b17 hs)) ?_
  refine J_iload_n (pc' := 8) (i := 1) (n := 1) dX9_ranksBelow_7 rfl rfl rfl ?_
  obtain ⟨v1, e2, h⟩ := a_i_inv h
  refine J_ialde (pc' := 9) dX9_ranksBelow_8 rfl (b_s4 (x_b17 hs)) (b_n (x_b17 hs) (Nat.le_of_ble_eq_true rfl)) e2 ?_
  refine J_aload_n (pc' := 10) (i := 0) (n := 0) dX9_ranksBelow_9 rfl rfl rfl ?_
  refine J_getR (pc' := 13) (b := 17) dX9_ranksBelow_10 rfl fl_X9_75 rfl (x_o hs) (x_n hs (Nat.le_of_ble_eq_true rfl)) (x_r0 hs) ?_
  refine J_getR (pc' := 16) (b := (17 + 4)) dX9_ranksBelow_13 rfl fl_X9_172 rfl (b_o (x_b17 hs)) (b_no (x_b17 hs)) (b_r4 (x_b17 hs)) ?_
  refine J_iload_n (pc' := 17) (i := 2) (n := 2) dX9_ranksBelow_16 rfl rfl rfl ?_
  obtain ⟨v3, e4, h⟩ := a_i_inv h
  refine J_ialde (pc' := 18) dX9_ranksBelow_17 rfl (b_s4 (x_b17 hs)) (b_n (x_b17 hs) (Nat.le_of_ble_eq_true rfl)) e4 ?_
  refine J_isub (pc' := 19) dX9_ranksBelow_18 rfl ?_
  refine J_istore_n (pc' := 20) (i := 3) (lv' := [(3, .int (v1 - v3)), (0, .ref 0), (1, .int x1), (2, .int x2)]) dX9_ranksBelow_19 rfl rfl (by decide) rfl ?_
  refine J_iload_n (pc' := 21) (i := 3) (n := 0) dX9_ranksBelow_20 rfl rfl rfl ?_
  refine J_if_lt (pc' := 24) (tgt := 33) dX9_ranksBelow_21 rfl (by decide) (fun c5 => ?_) (fun c5 => ?_)
  · replace h := j_ip c5 h
    refine J_iconst (pc' := 34) (v := (1 : Int32)) dX9_ranksBelow_33 rfl ic_1 ?_
    refine J_goto (pc' := 38) dX9_ranksBelow_34 (by decide) ?_
    exact J_zret (ty := .boolean) rfl rfl dX9_ranksBelow_38 ⟨rfl, Nat.le_refl _⟩ (j_pIs h)
  · replace h := j_iq c5 h
    refine J_iload_n (pc' := 25) (i := 3) (n := 0) dX9_ranksBelow_24 rfl rfl rfl ?_
    refine J_if_ne (pc' := 28) (tgt := 37) dX9_ranksBelow_25 rfl (by decide) (fun c6 => ?_) (fun c6 => ?_)
    · replace h := j_iq c6 h
      refine J_iconst (pc' := 38) (v := (0 : Int32)) dX9_ranksBelow_37 rfl ic_0 ?_
      exact J_zret (ty := .boolean) rfl rfl dX9_ranksBelow_38 ⟨rfl, Nat.le_refl _⟩ (j_pIs h)
    · replace h := j_ip c6 h
      refine J_iload_n (pc' := 29) (i := 1) (n := 2) dX9_ranksBelow_28 rfl rfl rfl ?_
      refine J_iload_n (pc' := 30) (i := 2) (n := 3) dX9_ranksBelow_29 rfl rfl rfl ?_
      refine J_icmp_ge (pc' := 33) (tgt := 37) dX9_ranksBelow_30 rfl (by decide) (fun c7 => ?_) (fun c7 => ?_)
      · replace h := j_ip c7 h
        refine J_iconst (pc' := 38) (v := (0 : Int32)) dX9_ranksBelow_37 rfl ic_0 ?_
        exact J_zret (ty := .boolean) rfl rfl dX9_ranksBelow_38 ⟨rfl, Nat.le_refl _⟩ (j_pIs h)
      · replace h := j_iq c7 h
        refine J_iconst (pc' := 34) (v := (1 : Int32)) dX9_ranksBelow_33 rfl ic_1 ?_
        refine J_goto (pc' := 38) dX9_ranksBelow_34 (by decide) ?_
        exact J_zret (ty := .boolean) rfl rfl dX9_ranksBelow_38 ⟨rfl, Nat.le_refl _⟩ (j_pIs h)
abbrev JT_X9_mayFollow (l : Launch) (G : j_G) (M : j_M) (r : Int32) : Nat → List (Nat × Value) → List Value → j_M → Prop := JJ l G md_X9_mayFollow (j_rm 1 (0, 0)) (0, 0) (0, 0) (po (some (.int r)) M)
noncomputable def f_X9_mayFollow (M : j_M) (x1 : Int32) (x2 : Int32) (x3 : Int32) (x4 : Int32) : Option Int32 :=
  a_i M (17 + 4) 7 x2 fun v1 => (a_i M (17 + 4) 7 x1 fun v3 => (if x3 < (x4 * (v1 - v3)) then (some (0 : Int32)) else (some (1 : Int32))))
set_option maxHeartbeats 4000000 in
theorem c_X9_mayFollow {l : Launch} {G : j_G} {M : j_M} {x1 : Int32} {x2 : Int32} {x3 : Int32} {x4 : Int32} (hs : sh_x M.2.2) {r : Int32} (h : f_X9_mayFollow M x1 x2 x3 x4 = some r) : j_Sp l G md_X9_mayFollow 1 (0, 0) [.ref 0, .int x1, .int x2, .int x3, .int x4] M (po (some (.int r)) M) := by
  refine j_Sp.of (by decide) (Nat.le_of_ble_eq_true rfl) ?_
  show JT_X9_mayFollow l G M r 0 [(0, .ref 0), (1, .int x1), (2, .int x2), (3, .int x3), (4, .int x4)] [] M
  unfold f_X9_mayFollow at h
  refine J_iload (pc' := 2) (i := 4) (n := 4) dX9_mayFollow_0 rfl rfl ?_
  refine J_aload_n (pc' := 3) (i := 0) (n := 0) dX9_mayFollow_2 rfl rfl rfl ?_
  refine J_getR (pc' := 6) (b := 17) dX9_mayFollow_3 rfl fl_X9_75 rfl (x_o hs) (x_n hs (Nat.le_of_ble_eq_true rfl)) (x_r0 hs) ?_
  refine J_getR (pc' := 9) (b := (17 + 4)) dX9_mayFollow_6 rfl fl_X9_172 rfl (b_o (x_b17 hs)) (b_no (x_b17 hs)) (b_r4 (x_b17 hs)) ?_
  refine J_iload_n (pc' := 10) (i := 2) (n := 2) dX9_mayFollow_9 rfl rfl rfl ?_
  obtain ⟨v1, e2, h⟩ := a_i_inv h
  refine J_ialde (pc' := 11) dX9_mayFollow_10 rfl (b_s4 (x_b17 hs)) (b_n (x_b17 hs) (Nat.le_of_ble_eq_true rfl)) e2 ?_
  refine J_aload_n (pc' := 12) (i := 0) (n := 0) dX9_mayFollow_11 rfl rfl rfl ?_
  refine J_getR (pc' := 15) (b := 17) dX9_mayFollow_12 rfl fl_X9_75 rfl (x_o hs) (x_n hs (Nat.le_of_ble_eq_true rfl)) (x_r0 hs) ?_
  refine J_getR (pc' := 18) (b := (17 + 4)) dX9_mayFollow_15 rfl fl_X9_172 rfl (b_o (x_b17 hs)) (b_no (x_b17 hs)) (b_r4 (x_b17 hs)) ?_
  refine J_iload_n (pc' := 19) (i := 1) (n := 1) dX9_mayFollow_18 rfl rfl rfl ?_
  obtain ⟨v3, e4, h⟩ := a_i_inv h
  refine J_ialde (pc' := 20) dX9_mayFollow_19 rfl (b_s4 (x_b17 hs)) (b_n (x_b17 hs) (Nat.le_of_ble_eq_true rfl)) e4 ?_
  refine J_isub (pc' := 21) dX9_mayFollow_20 rfl ?_
  refine J_imul (pc' := 22) dX9_mayFollow_21 rfl ?_
  refine J_iload_n (pc' := 23) (i := 3) (n := 3) dX9_mayFollow_22 rfl rfl rfl ?_
  refine J_icmp_gt (pc' := 26) (tgt := 30) dX9_mayFollow_23 rfl (by decide) (fun c5 => ?_) (fun c5 => ?_)
  · replace h := j_ip c5 h
    refine J_iconst (pc' := 31) (v := (0 : Int32)) dX9_mayFollow_30 rfl ic_0 ?_
    exact J_zret (ty := .boolean) rfl rfl dX9_mayFollow_31 ⟨rfl, Nat.le_refl _⟩ (j_pIs h)
  · replace h := j_iq c5 h
    refine J_iconst (pc' := 27) (v := (1 : Int32)) dX9_mayFollow_26 rfl ic_1 ?_
    refine J_goto (pc' := 31) dX9_mayFollow_27 (by decide) ?_
    exact J_zret (ty := .boolean) rfl rfl dX9_mayFollow_31 ⟨rfl, Nat.le_refl _⟩ (j_pIs h)
abbrev JT_X9_placesFor (l : Launch) (G : j_G) (M : j_M) (r : Int32) : Nat → List (Nat × Value) → List Value → j_M → Prop := JJ l G md_X9_placesFor (j_rm 2 (0, 0)) (0, 0) (0, 0) (po (some (.int r)) M)
noncomputable def f_X9_placesFor_L6 : Nat → j_M → Int32 → Int32 → Int32 → Int32 → Int32 → Int32 → (Int32 → Int32 → Option Int32) → Option Int32
  | 0, _, _, _, _, _, _, _, _ => none
  | n + 1, M, x1, x2, x3, x4, x5, x6, K =>
    if (j_I M 17 9) ≤ x6 then (K x5 x6) else (tl (f_X9_has x2 x6) fun v2 => (if v2 = 0 then (f_X9_placesFor_L6 n  M x1 x2 x3 x4 x5 (x6 + (1 : Int32)) K) else ((f_X9_ranksBelow M x6 x1).bind fun v5 => (if v5 = 0 then (f_X9_placesFor_L6 n  M x1 x2 x3 x4 x5 (x6 + (1 : Int32)) K) else ((f_X9_mayFollow M x6 x1 x3 x4).bind fun v8 => (if v8 = 0 then (f_X9_placesFor_L6 n  M x1 x2 x3 x4 x5 (x6 + (1 : Int32)) K) else (f_X9_placesFor_L6 n  M x1 x2 x3 x4 (x5 + (1 : Int32)) (x6 + (1 : Int32)) K)))))))
noncomputable def f_X9_placesFor (M : j_M) (x1 : Int32) (x2 : Int32) (x3 : Int32) (x4 : Int32) : Option Int32 :=
  f_X9_placesFor_L6 j_fu  M x1 x2 x3 x4 (1 : Int32) (0 : Int32) (fun (y11 : Int32) (y12 : Int32) => (some y11))
set_option maxHeartbeats 4000000 in
theorem L_X9_placesFor_L6 {l : Launch} {G : j_G}  {r : Int32} : ∀ (n : Nat) {x1 : Int32} {x2 : Int32} {x3 : Int32} {x4 : Int32} {x5 : Int32} {x6 : Int32} {M : j_M} (hs : sh_x M.2.2) {K : Int32 → Int32 → Option Int32}, f_X9_placesFor_L6 n  M x1 x2 x3 x4 x5 x6 K = some r → (∀ (y5 : Int32) (y6 : Int32), K y5 y6 = some r → JT_X9_placesFor l G M r 59 [(5, .int y5)] [] M) → JT_X9_placesFor l G M r 6 [(0, .ref 0), (1, .int x1), (2, .int x2), (3, .int x3), (4, .int x4), (5, .int x5), (6, .int x6)] [] M := by
  intro n
  induction n with
  | zero =>
    intro x1 x2 x3 x4 x5 x6 M hs K h hK
    rw [f_X9_placesFor_L6] at h; cases h
  | succ n ih =>
    intro x1 x2 x3 x4 x5 x6 M hs K h hK
    rw [f_X9_placesFor_L6] at h
    refine J_iload (pc' := 8) (i := 6) (n := 6) dX9_placesFor_6 rfl rfl ?_
    refine J_aload_n (pc' := 9) (i := 0) (n := 0) dX9_placesFor_8 rfl rfl rfl ?_
    refine J_getR (pc' := 12) (b := 17) dX9_placesFor_9 rfl fl_X9_75 rfl (x_o hs) (x_n hs (Nat.le_of_ble_eq_true rfl)) (x_r0 hs) ?_
    refine J_getI (pc' := 15) dX9_placesFor_12 rfl fl_X9_82 rfl (b_o (x_b17 hs)) (b_no (x_b17 hs)) ?_
    refine J_icmp_ge (pc' := 18) (tgt := 59) dX9_placesFor_15 rfl (by decide) (fun c1 => ?_) (fun c1 => ?_)
    · replace h := j_ip c1 h
      refine J_sub [5] (lv' := [(5, .int x5)]) rfl ?_
      exact hK x5 x6  h
    · replace h := j_iq c1 h
      refine J_iload_n (pc' := 19) (i := 2) (n := 2) dX9_placesFor_18 rfl rfl rfl ?_
      refine J_iload (pc' := 21) (i := 6) (n := 6) dX9_placesFor_19 rfl rfl ?_
      obtain ⟨v2, e3, h⟩ := tl_inv h
      refine J_callS (pc' := 24) (as := [.int x2, .int x6]) (rest := []) dX9_placesFor_21 rfl lk_X9_314 rfl (c_X9_has e3) ⟨Nat.le_of_ble_eq_true rfl, Nat.le_of_ble_eq_true rfl⟩ (Nat.le_of_ble_eq_true rfl) ⟨Nat.le_of_ble_eq_true rfl, Nat.le_of_ble_eq_true rfl⟩ (j_kq ?_)
      refine J_if_eq (pc' := 27) (tgt := 53) dX9_placesFor_24 rfl (by decide) (fun c4 => ?_) (fun c4 => ?_)
      · replace h := j_ip c4 h
        refine J_iinc (pc' := 56) (i := 6) (n := 6) (v := (x6 + (1 : Int32))) (lv' := [(6, .int (x6 + (1 : Int32))), (0, .ref 0), (1, .int x1), (2, .int x2), (3, .int x3), (4, .int x4), (5, .int x5)]) dX9_placesFor_53 rfl rfl (j_inc _ _ rfl _) (by decide) rfl ?_
        refine J_goto (pc' := 6) dX9_placesFor_56 (by decide) ?_
        refine J_sub [1, 2, 3, 4, 5, 6, 0] (lv' := [(0, .ref 0), (1, .int x1), (2, .int x2), (3, .int x3), (4, .int x4), (5, .int x5), (6, .int (x6 + (1 : Int32)))]) rfl ?_
        exact ih hs h hK
      · replace h := j_iq c4 h
        refine J_aload_n (pc' := 28) (i := 0) (n := 0) dX9_placesFor_27 rfl rfl rfl ?_
        refine J_iload (pc' := 30) (i := 6) (n := 6) dX9_placesFor_28 rfl rfl ?_
        refine J_iload_n (pc' := 31) (i := 1) (n := 1) dX9_placesFor_30 rfl rfl rfl ?_
        obtain ⟨v5, e6, h⟩ := bi_inv h
        refine J_callV (pc' := 34) (as := [.int x6, .int x1]) (rest := []) dX9_placesFor_31 rfl lk_X9_321 rfl 9 (by decide) rfl (x_o hs) (x_n hs (Nat.le_of_ble_eq_true rfl)) (c_X9_ranksBelow hs e6) ⟨Nat.le_of_ble_eq_true rfl, Nat.le_of_ble_eq_true rfl⟩ (Nat.le_of_ble_eq_true rfl) ⟨Nat.le_of_ble_eq_true rfl, Nat.le_of_ble_eq_true rfl⟩ (j_kq ?_)
        refine J_if_eq (pc' := 37) (tgt := 53) dX9_placesFor_34 rfl (by decide) (fun c7 => ?_) (fun c7 => ?_)
        · replace h := j_ip c7 h
          refine J_iinc (pc' := 56) (i := 6) (n := 6) (v := (x6 + (1 : Int32))) (lv' := [(6, .int (x6 + (1 : Int32))), (0, .ref 0), (1, .int x1), (2, .int x2), (3, .int x3), (4, .int x4), (5, .int x5)]) dX9_placesFor_53 rfl rfl (j_inc _ _ rfl _) (by decide) rfl ?_
          refine J_goto (pc' := 6) dX9_placesFor_56 (by decide) ?_
          refine J_sub [1, 2, 3, 4, 5, 6, 0] (lv' := [(0, .ref 0), (1, .int x1), (2, .int x2), (3, .int x3), (4, .int x4), (5, .int x5), (6, .int (x6 + (1 : Int32)))]) rfl ?_
          exact ih hs h hK
        · replace h := j_iq c7 h
          refine J_aload_n (pc' := 38) (i := 0) (n := 0) dX9_placesFor_37 rfl rfl rfl ?_
          refine J_iload (pc' := 40) (i := 6) (n := 6) dX9_placesFor_38 rfl rfl ?_
          refine J_iload_n (pc' := 41) (i := 1) (n := 1) dX9_placesFor_40 rfl rfl rfl ?_
          refine J_iload_n (pc' := 42) (i := 3) (n := 3) dX9_placesFor_41 rfl rfl rfl ?_
          refine J_iload (pc' := 44) (i := 4) (n := 4) dX9_placesFor_42 rfl rfl ?_
          obtain ⟨v8, e9, h⟩ := bi_inv h
          refine J_callV (pc' := 47) (as := [.int x6, .int x1, .int x3, .int x4]) (rest := []) dX9_placesFor_44 rfl lk_X9_324 rfl 9 (by decide) rfl (x_o hs) (x_n hs (Nat.le_of_ble_eq_true rfl)) (c_X9_mayFollow hs e9) ⟨Nat.le_of_ble_eq_true rfl, Nat.le_of_ble_eq_true rfl⟩ (Nat.le_of_ble_eq_true rfl) ⟨Nat.le_of_ble_eq_true rfl, Nat.le_of_ble_eq_true rfl⟩ (j_kq ?_)
          refine J_if_eq (pc' := 50) (tgt := 53) dX9_placesFor_47 rfl (by decide) (fun c10 => ?_) (fun c10 => ?_)
          · replace h := j_ip c10 h
            refine J_iinc (pc' := 56) (i := 6) (n := 6) (v := (x6 + (1 : Int32))) (lv' := [(6, .int (x6 + (1 : Int32))), (0, .ref 0), (1, .int x1), (2, .int x2), (3, .int x3), (4, .int x4), (5, .int x5)]) dX9_placesFor_53 rfl rfl (j_inc _ _ rfl _) (by decide) rfl ?_
            refine J_goto (pc' := 6) dX9_placesFor_56 (by decide) ?_
            refine J_sub [1, 2, 3, 4, 5, 6, 0] (lv' := [(0, .ref 0), (1, .int x1), (2, .int x2), (3, .int x3), (4, .int x4), (5, .int x5), (6, .int (x6 + (1 : Int32)))]) rfl ?_
            exact ih hs h hK
          · replace h := j_iq c10 h
            refine J_iinc (pc' := 53) (i := 5) (n := 5) (v := (x5 + (1 : Int32))) (lv' := [(5, .int (x5 + (1 : Int32))), (0, .ref 0), (1, .int x1), (2, .int x2), (3, .int x3), (4, .int x4), (6, .int x6)]) dX9_placesFor_50 rfl rfl (j_inc _ _ rfl _) (by decide) rfl ?_
            refine J_iinc (pc' := 56) (i := 6) (n := 6) (v := (x6 + (1 : Int32))) (lv' := [(6, .int (x6 + (1 : Int32))), (5, .int (x5 + (1 : Int32))), (0, .ref 0), (1, .int x1), (2, .int x2), (3, .int x3), (4, .int x4)]) dX9_placesFor_53 rfl rfl (j_inc _ _ rfl _) (by decide) rfl ?_
            refine J_goto (pc' := 6) dX9_placesFor_56 (by decide) ?_
            refine J_sub [2, 3, 4, 5, 6, 1, 0] (lv' := [(0, .ref 0), (1, .int x1), (2, .int x2), (3, .int x3), (4, .int x4), (5, .int (x5 + (1 : Int32))), (6, .int (x6 + (1 : Int32)))]) rfl ?_
            exact ih hs h hK
set_option maxHeartbeats 4000000 in
theorem c_X9_placesFor {l : Launch} {G : j_G} {M : j_M} {x1 : Int32} {x2 : Int32} {x3 : Int32} {x4 : Int32} (hs : sh_x M.2.2) {r : Int32} (h : f_X9_placesFor M x1 x2 x3 x4 = some r) : j_Sp l G md_X9_placesFor 2 (0, 0) [.ref 0, .int x1, .int x2, .int x3, .int x4] M (po (some (.int r)) M) := by
  refine j_Sp.of (by decide) (Nat.le_of_ble_eq_true rfl) ?_
  show JT_X9_placesFor l G M r 0 [(0, .ref 0), (1, .int x1), (2, .int x2), (3, .int x3), (4, .int x4)] [] M
  unfold f_X9_placesFor at h
  refine J_iconst (pc' := 1) (v := (1 : Int32)) dX9_placesFor_0 rfl ic_1 ?_
  refine J_istore (pc' := 3) (i := 5) (lv' := [(5, .int (1 : Int32)), (0, .ref 0), (1, .int x1), (2, .int x2), (3, .int x3), (4, .int x4)]) dX9_placesFor_1 rfl (by decide) rfl ?_
  refine J_iconst (pc' := 4) (v := (0 : Int32)) dX9_placesFor_3 rfl ic_0 ?_
  refine J_istore (pc' := 6) (i := 6) (lv' := [(6, .int (0 : Int32)), (5, .int (1 : Int32)), (0, .ref 0), (1, .int x1), (2, .int x2), (3, .int x3), (4, .int x4)]) dX9_placesFor_4 rfl (by decide) rfl ?_
  refine J_sub [2, 3, 4, 5, 6, 1, 0] (lv' := [(0, .ref 0), (1, .int x1), (2, .int x2), (3, .int x3), (4, .int x4), (5, .int (1 : Int32)), (6, .int (0 : Int32))]) rfl ?_
  refine L_X9_placesFor_L6 j_fu hs h (fun y11 y12 h => ?_)
  refine J_iload (pc' := 61) (i := 5) (n := 0) dX9_placesFor_59 rfl rfl ?_
  exact J_iret rfl dX9_placesFor_61 ⟨rfl, Nat.le_refl _⟩ (j_pIs h)
abbrev JT_X9_ordersOf (l : Launch) (G : j_G) (M : j_M) (r : Int32) : Nat → List (Nat × Value) → List Value → j_M → Prop := JJ l G md_X9_ordersOf (j_rm 3 (0, 0)) (0, 0) (0, 0) (po (some (.int r)) M)
noncomputable def f_X9_ordersOf_L6 : Nat → j_M → Int32 → Int32 → Int32 → Int32 → Int32 → (Int32 → Int32 → Option Int32) → Option Int32
  | 0, _, _, _, _, _, _, _ => none
  | n + 1, M, x1, x2, x3, x4, x5, K =>
    if (j_I M 17 9) ≤ x5 then (K x4 x5) else (tl (f_X9_has x1 x5) fun v2 => (if v2 = 0 then (f_X9_ordersOf_L6 n  M x1 x2 x3 x4 (x5 + (1 : Int32)) K) else ((f_X9_placesFor M x5 x1 x2 x3).bind fun v5 => (f_X9_ordersOf_L6 n  M x1 x2 x3 (x4 * v5) (x5 + (1 : Int32)) K))))
noncomputable def f_X9_ordersOf (M : j_M) (x1 : Int32) (x2 : Int32) (x3 : Int32) : Option Int32 :=
  f_X9_ordersOf_L6 j_fu  M x1 x2 x3 (1 : Int32) (0 : Int32) (fun (y7 : Int32) (y8 : Int32) => (some y7))
set_option maxHeartbeats 4000000 in
theorem L_X9_ordersOf_L6 {l : Launch} {G : j_G}  {r : Int32} : ∀ (n : Nat) {x1 : Int32} {x2 : Int32} {x3 : Int32} {x4 : Int32} {x5 : Int32} {M : j_M} (hs : sh_x M.2.2) {K : Int32 → Int32 → Option Int32}, f_X9_ordersOf_L6 n  M x1 x2 x3 x4 x5 K = some r → (∀ (y4 : Int32) (y5 : Int32), K y4 y5 = some r → JT_X9_ordersOf l G M r 47 [(4, .int y4)] [] M) → JT_X9_ordersOf l G M r 6 [(0, .ref 0), (1, .int x1), (2, .int x2), (3, .int x3), (4, .int x4), (5, .int x5)] [] M := by
  intro n
  induction n with
  | zero =>
    intro x1 x2 x3 x4 x5 M hs K h hK
    rw [f_X9_ordersOf_L6] at h; cases h
  | succ n ih =>
    intro x1 x2 x3 x4 x5 M hs K h hK
    rw [f_X9_ordersOf_L6] at h
    refine J_iload (pc' := 8) (i := 5) (n := 5) dX9_ordersOf_6 rfl rfl ?_
    refine J_aload_n (pc' := 9) (i := 0) (n := 0) dX9_ordersOf_8 rfl rfl rfl ?_
    refine J_getR (pc' := 12) (b := 17) dX9_ordersOf_9 rfl fl_X9_75 rfl (x_o hs) (x_n hs (Nat.le_of_ble_eq_true rfl)) (x_r0 hs) ?_
    refine J_getI (pc' := 15) dX9_ordersOf_12 rfl fl_X9_82 rfl (b_o (x_b17 hs)) (b_no (x_b17 hs)) ?_
    refine J_icmp_ge (pc' := 18) (tgt := 47) dX9_ordersOf_15 rfl (by decide) (fun c1 => ?_) (fun c1 => ?_)
    · replace h := j_ip c1 h
      refine J_sub [4] (lv' := [(4, .int x4)]) rfl ?_
      exact hK x4 x5  h
    · replace h := j_iq c1 h
      refine J_iload_n (pc' := 19) (i := 1) (n := 1) dX9_ordersOf_18 rfl rfl rfl ?_
      refine J_iload (pc' := 21) (i := 5) (n := 5) dX9_ordersOf_19 rfl rfl ?_
      obtain ⟨v2, e3, h⟩ := tl_inv h
      refine J_callS (pc' := 24) (as := [.int x1, .int x5]) (rest := []) dX9_ordersOf_21 rfl lk_X9_314 rfl (c_X9_has e3) ⟨Nat.le_of_ble_eq_true rfl, Nat.le_of_ble_eq_true rfl⟩ (Nat.le_of_ble_eq_true rfl) ⟨Nat.le_of_ble_eq_true rfl, Nat.le_of_ble_eq_true rfl⟩ (j_kq ?_)
      refine J_if_eq (pc' := 27) (tgt := 41) dX9_ordersOf_24 rfl (by decide) (fun c4 => ?_) (fun c4 => ?_)
      · replace h := j_ip c4 h
        refine J_iinc (pc' := 44) (i := 5) (n := 5) (v := (x5 + (1 : Int32))) (lv' := [(5, .int (x5 + (1 : Int32))), (0, .ref 0), (1, .int x1), (2, .int x2), (3, .int x3), (4, .int x4)]) dX9_ordersOf_41 rfl rfl (j_inc _ _ rfl _) (by decide) rfl ?_
        refine J_goto (pc' := 6) dX9_ordersOf_44 (by decide) ?_
        refine J_sub [1, 2, 3, 4, 5, 0] (lv' := [(0, .ref 0), (1, .int x1), (2, .int x2), (3, .int x3), (4, .int x4), (5, .int (x5 + (1 : Int32)))]) rfl ?_
        exact ih hs h hK
      · replace h := j_iq c4 h
        refine J_iload (pc' := 29) (i := 4) (n := 4) dX9_ordersOf_27 rfl rfl ?_
        refine J_aload_n (pc' := 30) (i := 0) (n := 0) dX9_ordersOf_29 rfl rfl rfl ?_
        refine J_iload (pc' := 32) (i := 5) (n := 5) dX9_ordersOf_30 rfl rfl ?_
        refine J_iload_n (pc' := 33) (i := 1) (n := 1) dX9_ordersOf_32 rfl rfl rfl ?_
        refine J_iload_n (pc' := 34) (i := 2) (n := 2) dX9_ordersOf_33 rfl rfl rfl ?_
        refine J_iload_n (pc' := 35) (i := 3) (n := 3) dX9_ordersOf_34 rfl rfl rfl ?_
        obtain ⟨v5, e6, h⟩ := bi_inv h
        refine J_callV (pc' := 38) (as := [.int x5, .int x1, .int x2, .int x3]) (rest := [.int x4]) dX9_ordersOf_35 rfl lk_X9_318 rfl 9 (by decide) rfl (x_o hs) (x_n hs (Nat.le_of_ble_eq_true rfl)) (c_X9_placesFor hs e6) ⟨Nat.le_of_ble_eq_true rfl, Nat.le_of_ble_eq_true rfl⟩ (Nat.le_of_ble_eq_true rfl) ⟨Nat.le_of_ble_eq_true rfl, Nat.le_of_ble_eq_true rfl⟩ (j_kq ?_)
        refine J_imul (pc' := 39) dX9_ordersOf_38 rfl ?_
        refine J_istore (pc' := 41) (i := 4) (lv' := [(4, .int (x4 * v5)), (0, .ref 0), (1, .int x1), (2, .int x2), (3, .int x3), (5, .int x5)]) dX9_ordersOf_39 rfl (by decide) rfl ?_
        refine J_iinc (pc' := 44) (i := 5) (n := 5) (v := (x5 + (1 : Int32))) (lv' := [(5, .int (x5 + (1 : Int32))), (4, .int (x4 * v5)), (0, .ref 0), (1, .int x1), (2, .int x2), (3, .int x3)]) dX9_ordersOf_41 rfl rfl (j_inc _ _ rfl _) (by decide) rfl ?_
        refine J_goto (pc' := 6) dX9_ordersOf_44 (by decide) ?_
        refine J_sub [2, 3, 4, 5, 1, 0] (lv' := [(0, .ref 0), (1, .int x1), (2, .int x2), (3, .int x3), (4, .int (x4 * v5)), (5, .int (x5 + (1 : Int32)))]) rfl ?_
        exact ih hs h hK
set_option maxHeartbeats 4000000 in
theorem c_X9_ordersOf {l : Launch} {G : j_G} {M : j_M} {x1 : Int32} {x2 : Int32} {x3 : Int32} (hs : sh_x M.2.2) {r : Int32} (h : f_X9_ordersOf M x1 x2 x3 = some r) : j_Sp l G md_X9_ordersOf 3 (0, 0) [.ref 0, .int x1, .int x2, .int x3] M (po (some (.int r)) M) := by
  refine j_Sp.of (by decide) (Nat.le_of_ble_eq_true rfl) ?_
  show JT_X9_ordersOf l G M r 0 [(0, .ref 0), (1, .int x1), (2, .int x2), (3, .int x3)] [] M
  unfold f_X9_ordersOf at h
  refine J_iconst (pc' := 1) (v := (1 : Int32)) dX9_ordersOf_0 rfl ic_1 ?_
  refine J_istore (pc' := 3) (i := 4) (lv' := [(4, .int (1 : Int32)), (0, .ref 0), (1, .int x1), (2, .int x2), (3, .int x3)]) dX9_ordersOf_1 rfl (by decide) rfl ?_
  refine J_iconst (pc' := 4) (v := (0 : Int32)) dX9_ordersOf_3 rfl ic_0 ?_
  refine J_istore (pc' := 6) (i := 5) (lv' := [(5, .int (0 : Int32)), (4, .int (1 : Int32)), (0, .ref 0), (1, .int x1), (2, .int x2), (3, .int x3)]) dX9_ordersOf_4 rfl (by decide) rfl ?_
  refine J_sub [2, 3, 4, 5, 1, 0] (lv' := [(0, .ref 0), (1, .int x1), (2, .int x2), (3, .int x3), (4, .int (1 : Int32)), (5, .int (0 : Int32))]) rfl ?_
  refine L_X9_ordersOf_L6 j_fu hs h (fun y7 y8 h => ?_)
  refine J_iload (pc' := 49) (i := 4) (n := 0) dX9_ordersOf_47 rfl rfl ?_
  exact J_iret rfl dX9_ordersOf_49 ⟨rfl, Nat.le_refl _⟩ (j_pIs h)
abbrev JT_X9_hasStepAbove (l : Launch) (G : j_G) (M : j_M) (r : Int32) : Nat → List (Nat × Value) → List Value → j_M → Prop := JJ l G md_X9_hasStepAbove (j_rm 2 (0, 0)) (0, 0) (0, 0) (po (some (.int r)) M)
noncomputable def f_X9_hasStepAbove_L3 : Nat → j_M → Int32 → Int32 → Int32 → Int32 → Int32 → Int32 → (Int32 → Option Int32) → Option Int32
  | 0, _, _, _, _, _, _, _, _ => none
  | n + 1, M, x1, x2, x3, x4, x5, x6, K =>
    if (j_I M 17 9) ≤ x6 then (K x6) else (a_i M (17 + 4) 7 x6 fun v2 => (a_i M (17 + 4) 7 x1 fun v4 => (jn (fun (v7 : Int32) => (tl (f_X9_has x3 x6) fun v10 => (if v10 = 0 then (f_X9_hasStepAbove_L3 n  M x1 x2 x3 x4 x5 (x6 + (1 : Int32)) K) else (if v7 = 0 then (f_X9_hasStepAbove_L3 n  M x1 x2 x3 x4 x5 (x6 + (1 : Int32)) K) else ((f_X9_mayFollow M x1 x6 x4 x5).bind fun v14 => (if v14 = 0 then (f_X9_hasStepAbove_L3 n  M x1 x2 x3 x4 x5 (x6 + (1 : Int32)) K) else (some (1 : Int32)))))))) (fun K8 => (if v2 ≤ v4 then (K8 (0 : Int32)) else (a_i M (17 + 4) 7 x6 fun v17 => (a_i M (17 + 4) 7 x2 fun v19 => (if v19 < v17 then (K8 (0 : Int32)) else (K8 (1 : Int32))))))))))
noncomputable def f_X9_hasStepAbove (M : j_M) (x1 : Int32) (x2 : Int32) (x3 : Int32) (x4 : Int32) (x5 : Int32) : Option Int32 :=
  f_X9_hasStepAbove_L3 j_fu  M x1 x2 x3 x4 x5 (0 : Int32) (fun (y22 : Int32) => (some (0 : Int32)))
set_option maxHeartbeats 4000000 in
theorem L_X9_hasStepAbove_L3 {l : Launch} {G : j_G}  {r : Int32} : ∀ (n : Nat) {x1 : Int32} {x2 : Int32} {x3 : Int32} {x4 : Int32} {x5 : Int32} {x6 : Int32} {M : j_M} (hs : sh_x M.2.2) {K : Int32 → Option Int32}, f_X9_hasStepAbove_L3 n  M x1 x2 x3 x4 x5 x6 K = some r → (∀ (y6 : Int32), K y6 = some r → JT_X9_hasStepAbove l G M r 102 [] [] M) → JT_X9_hasStepAbove l G M r 3 [(0, .ref 0), (1, .int x1), (2, .int x2), (3, .int x3), (4, .int x4), (5, .int x5), (6, .int x6)] [] M := by
  intro n
  induction n with
  | zero =>
    intro x1 x2 x3 x4 x5 x6 M hs K h hK
    rw [f_X9_hasStepAbove_L3] at h; cases h
  | succ n ih =>
    intro x1 x2 x3 x4 x5 x6 M hs K h hK
    rw [f_X9_hasStepAbove_L3] at h
    refine J_iload (pc' := 5) (i := 6) (n := 6) dX9_hasStepAbove_3 rfl rfl ?_
    refine J_aload_n (pc' := 6) (i := 0) (n := 0) dX9_hasStepAbove_5 rfl rfl rfl ?_
    refine J_getR (pc' := 9) (b := 17) dX9_hasStepAbove_6 rfl fl_X9_75 rfl (x_o hs) (x_n hs (Nat.le_of_ble_eq_true rfl)) (x_r0 hs) ?_
    refine J_getI (pc' := 12) dX9_hasStepAbove_9 rfl fl_X9_82 rfl (b_o (x_b17 hs)) (b_no (x_b17 hs)) ?_
    refine J_icmp_ge (pc' := 15) (tgt := 102) dX9_hasStepAbove_12 rfl (by decide) (fun c1 => ?_) (fun c1 => ?_)
    · replace h := j_ip c1 h
      refine J_sub [] (lv' := []) rfl ?_
      exact hK x6  h
    · replace h := j_iq c1 h
      refine J_aload_n (pc' := 16) (i := 0) (n := 0) dX9_hasStepAbove_15 rfl rfl rfl ?_
      refine J_getR (pc' := 19) (b := 17) dX9_hasStepAbove_16 rfl fl_X9_75 rfl (x_o hs) (x_n hs (Nat.le_of_ble_eq_true rfl)) (x_r0 hs) ?_
      refine J_getR (pc' := 22) (b := (17 + 4)) dX9_hasStepAbove_19 rfl fl_X9_172 rfl (b_o (x_b17 hs)) (b_no (x_b17 hs)) (b_r4 (x_b17 hs)) ?_
      refine J_iload (pc' := 24) (i := 6) (n := 6) dX9_hasStepAbove_22 rfl rfl ?_
      obtain ⟨v2, e3, h⟩ := a_i_inv h
      refine J_ialde (pc' := 25) dX9_hasStepAbove_24 rfl (b_s4 (x_b17 hs)) (b_n (x_b17 hs) (Nat.le_of_ble_eq_true rfl)) e3 ?_
      refine J_aload_n (pc' := 26) (i := 0) (n := 0) dX9_hasStepAbove_25 rfl rfl rfl ?_
      refine J_getR (pc' := 29) (b := 17) dX9_hasStepAbove_26 rfl fl_X9_75 rfl (x_o hs) (x_n hs (Nat.le_of_ble_eq_true rfl)) (x_r0 hs) ?_
      refine J_getR (pc' := 32) (b := (17 + 4)) dX9_hasStepAbove_29 rfl fl_X9_172 rfl (b_o (x_b17 hs)) (b_no (x_b17 hs)) (b_r4 (x_b17 hs)) ?_
      refine J_iload_n (pc' := 33) (i := 1) (n := 1) dX9_hasStepAbove_32 rfl rfl rfl ?_
      obtain ⟨v4, e5, h⟩ := a_i_inv h
      refine J_ialde (pc' := 34) dX9_hasStepAbove_33 rfl (b_s4 (x_b17 hs)) (b_n (x_b17 hs) (Nat.le_of_ble_eq_true rfl)) e5 ?_
      refine J_join (C := fun (v7 : Int32) => JT_X9_hasStepAbove l G M r 64 [(0, .ref 0), (1, .int x1), (2, .int x2), (3, .int x3), (4, .int x4), (5, .int x5), (6, .int x6)] [.int v7] M) h (fun v7 h => ?_) (fun K8 h9 h => ?_)
      · refine J_istore (pc' := 66) (i := 7) (lv' := [(7, .int v7), (0, .ref 0), (1, .int x1), (2, .int x2), (3, .int x3), (4, .int x4), (5, .int x5), (6, .int x6)]) dX9_hasStepAbove_64 rfl (by decide) rfl ?_
        refine J_iload_n (pc' := 67) (i := 3) (n := 4) dX9_hasStepAbove_66 rfl rfl rfl ?_
        refine J_iload (pc' := 69) (i := 6) (n := 7) dX9_hasStepAbove_67 rfl rfl ?_
        obtain ⟨v10, e11, h⟩ := tl_inv h
        refine J_callS (pc' := 72) (as := [.int x3, .int x6]) (rest := []) dX9_hasStepAbove_69 rfl lk_X9_314 rfl (c_X9_has e11) ⟨Nat.le_of_ble_eq_true rfl, Nat.le_of_ble_eq_true rfl⟩ (Nat.le_of_ble_eq_true rfl) ⟨Nat.le_of_ble_eq_true rfl, Nat.le_of_ble_eq_true rfl⟩ (j_kq ?_)
        refine J_if_eq (pc' := 75) (tgt := 96) dX9_hasStepAbove_72 rfl (by decide) (fun c12 => ?_) (fun c12 => ?_)
        · replace h := j_ip c12 h
          refine J_iinc (pc' := 99) (i := 6) (n := 7) (v := (x6 + (1 : Int32))) (lv' := [(6, .int (x6 + (1 : Int32))), (7, .int v7), (0, .ref 0), (1, .int x1), (2, .int x2), (3, .int x3), (4, .int x4), (5, .int x5)]) dX9_hasStepAbove_96 rfl rfl (j_inc _ _ rfl _) (by decide) rfl ?_
          refine J_goto (pc' := 3) dX9_hasStepAbove_99 (by decide) ?_
          refine J_sub [2, 3, 4, 5, 6, 7, 0] (lv' := [(0, .ref 0), (1, .int x1), (2, .int x2), (3, .int x3), (4, .int x4), (5, .int x5), (6, .int (x6 + (1 : Int32)))]) rfl ?_
          exact ih hs h hK
        · replace h := j_iq c12 h
          refine J_iload (pc' := 77) (i := 7) (n := 0) dX9_hasStepAbove_75 rfl rfl ?_
          refine J_if_eq (pc' := 80) (tgt := 96) dX9_hasStepAbove_77 rfl (by decide) (fun c13 => ?_) (fun c13 => ?_)
          · replace h := j_ip c13 h
            refine J_iinc (pc' := 99) (i := 6) (n := 7) (v := (x6 + (1 : Int32))) (lv' := [(6, .int (x6 + (1 : Int32))), (7, .int v7), (0, .ref 0), (1, .int x1), (2, .int x2), (3, .int x3), (4, .int x4), (5, .int x5)]) dX9_hasStepAbove_96 rfl rfl (j_inc _ _ rfl _) (by decide) rfl ?_
            refine J_goto (pc' := 3) dX9_hasStepAbove_99 (by decide) ?_
            refine J_sub [2, 3, 4, 5, 6, 7, 0] (lv' := [(0, .ref 0), (1, .int x1), (2, .int x2), (3, .int x3), (4, .int x4), (5, .int x5), (6, .int (x6 + (1 : Int32)))]) rfl ?_
            exact ih hs h hK
          · replace h := j_iq c13 h
            refine J_aload_n (pc' := 81) (i := 0) (n := 1) dX9_hasStepAbove_80 rfl rfl rfl ?_
            refine J_iload_n (pc' := 82) (i := 1) (n := 2) dX9_hasStepAbove_81 rfl rfl rfl ?_
            refine J_iload (pc' := 84) (i := 6) (n := 7) dX9_hasStepAbove_82 rfl rfl ?_
            refine J_iload (pc' := 86) (i := 4) (n := 5) dX9_hasStepAbove_84 rfl rfl ?_
            refine J_iload (pc' := 88) (i := 5) (n := 6) dX9_hasStepAbove_86 rfl rfl ?_
            obtain ⟨v14, e15, h⟩ := bi_inv h
            refine J_callV (pc' := 91) (as := [.int x1, .int x6, .int x4, .int x5]) (rest := []) dX9_hasStepAbove_88 rfl lk_X9_324 rfl 9 (by decide) rfl (x_o hs) (x_n hs (Nat.le_of_ble_eq_true rfl)) (c_X9_mayFollow hs e15) ⟨Nat.le_of_ble_eq_true rfl, Nat.le_of_ble_eq_true rfl⟩ (Nat.le_of_ble_eq_true rfl) ⟨Nat.le_of_ble_eq_true rfl, Nat.le_of_ble_eq_true rfl⟩ (j_kq ?_)
            refine J_if_eq (pc' := 94) (tgt := 96) dX9_hasStepAbove_91 rfl (by decide) (fun c16 => ?_) (fun c16 => ?_)
            · replace h := j_ip c16 h
              refine J_iinc (pc' := 99) (i := 6) (n := 7) (v := (x6 + (1 : Int32))) (lv' := [(6, .int (x6 + (1 : Int32))), (7, .int v7), (0, .ref 0), (1, .int x1), (2, .int x2), (3, .int x3), (4, .int x4), (5, .int x5)]) dX9_hasStepAbove_96 rfl rfl (j_inc _ _ rfl _) (by decide) rfl ?_
              refine J_goto (pc' := 3) dX9_hasStepAbove_99 (by decide) ?_
              refine J_sub [2, 3, 4, 5, 6, 7, 0] (lv' := [(0, .ref 0), (1, .int x1), (2, .int x2), (3, .int x3), (4, .int x4), (5, .int x5), (6, .int (x6 + (1 : Int32)))]) rfl ?_
              exact ih hs h hK
            · replace h := j_iq c16 h
              refine J_iconst (pc' := 95) (v := (1 : Int32)) dX9_hasStepAbove_94 rfl ic_1 ?_
              exact J_zret (ty := .boolean) rfl rfl dX9_hasStepAbove_95 ⟨rfl, Nat.le_refl _⟩ (j_pIs h)
      · refine J_icmp_le (pc' := 37) (tgt := 63) dX9_hasStepAbove_34 rfl (by decide) (fun c6 => ?_) (fun c6 => ?_)
        · replace h := j_ip c6 h
          refine J_iconst (pc' := 64) (v := (0 : Int32)) dX9_hasStepAbove_63 rfl ic_0 ?_
          exact h9 (0 : Int32) h
        · replace h := j_iq c6 h
          refine J_aload_n (pc' := 38) (i := 0) (n := 0) dX9_hasStepAbove_37 rfl rfl rfl ?_
          refine J_getR (pc' := 41) (b := 17) dX9_hasStepAbove_38 rfl fl_X9_75 rfl (x_o hs) (x_n hs (Nat.le_of_ble_eq_true rfl)) (x_r0 hs) ?_
          refine J_getR (pc' := 44) (b := (17 + 4)) dX9_hasStepAbove_41 rfl fl_X9_172 rfl (b_o (x_b17 hs)) (b_no (x_b17 hs)) (b_r4 (x_b17 hs)) ?_
          refine J_iload (pc' := 46) (i := 6) (n := 6) dX9_hasStepAbove_44 rfl rfl ?_
          obtain ⟨v17, e18, h⟩ := a_i_inv h
          refine J_ialde (pc' := 47) dX9_hasStepAbove_46 rfl (b_s4 (x_b17 hs)) (b_n (x_b17 hs) (Nat.le_of_ble_eq_true rfl)) e18 ?_
          refine J_aload_n (pc' := 48) (i := 0) (n := 0) dX9_hasStepAbove_47 rfl rfl rfl ?_
          refine J_getR (pc' := 51) (b := 17) dX9_hasStepAbove_48 rfl fl_X9_75 rfl (x_o hs) (x_n hs (Nat.le_of_ble_eq_true rfl)) (x_r0 hs) ?_
          refine J_getR (pc' := 54) (b := (17 + 4)) dX9_hasStepAbove_51 rfl fl_X9_172 rfl (b_o (x_b17 hs)) (b_no (x_b17 hs)) (b_r4 (x_b17 hs)) ?_
          refine J_iload_n (pc' := 55) (i := 2) (n := 2) dX9_hasStepAbove_54 rfl rfl rfl ?_
          obtain ⟨v19, e20, h⟩ := a_i_inv h
          refine J_ialde (pc' := 56) dX9_hasStepAbove_55 rfl (b_s4 (x_b17 hs)) (b_n (x_b17 hs) (Nat.le_of_ble_eq_true rfl)) e20 ?_
          refine J_icmp_gt (pc' := 59) (tgt := 63) dX9_hasStepAbove_56 rfl (by decide) (fun c21 => ?_) (fun c21 => ?_)
          · replace h := j_ip c21 h
            refine J_iconst (pc' := 64) (v := (0 : Int32)) dX9_hasStepAbove_63 rfl ic_0 ?_
            exact h9 (0 : Int32) h
          · replace h := j_iq c21 h
            refine J_iconst (pc' := 60) (v := (1 : Int32)) dX9_hasStepAbove_59 rfl ic_1 ?_
            refine J_goto (pc' := 64) dX9_hasStepAbove_60 (by decide) ?_
            exact h9 (1 : Int32) h
set_option maxHeartbeats 4000000 in
theorem c_X9_hasStepAbove {l : Launch} {G : j_G} {M : j_M} {x1 : Int32} {x2 : Int32} {x3 : Int32} {x4 : Int32} {x5 : Int32} (hs : sh_x M.2.2) {r : Int32} (h : f_X9_hasStepAbove M x1 x2 x3 x4 x5 = some r) : j_Sp l G md_X9_hasStepAbove 2 (0, 0) [.ref 0, .int x1, .int x2, .int x3, .int x4, .int x5] M (po (some (.int r)) M) := by
  refine j_Sp.of (by decide) (Nat.le_of_ble_eq_true rfl) ?_
  show JT_X9_hasStepAbove l G M r 0 [(0, .ref 0), (1, .int x1), (2, .int x2), (3, .int x3), (4, .int x4), (5, .int x5)] [] M
  unfold f_X9_hasStepAbove at h
  refine J_iconst (pc' := 1) (v := (0 : Int32)) dX9_hasStepAbove_0 rfl ic_0 ?_
  refine J_istore (pc' := 3) (i := 6) (lv' := [(6, .int (0 : Int32)), (0, .ref 0), (1, .int x1), (2, .int x2), (3, .int x3), (4, .int x4), (5, .int x5)]) dX9_hasStepAbove_1 rfl (by decide) rfl ?_
  refine J_sub [1, 2, 3, 4, 5, 6, 0] (lv' := [(0, .ref 0), (1, .int x1), (2, .int x2), (3, .int x3), (4, .int x4), (5, .int x5), (6, .int (0 : Int32))]) rfl ?_
  refine L_X9_hasStepAbove_L3 j_fu hs h (fun y22 h => ?_)
  refine J_iconst (pc' := 103) (v := (0 : Int32)) dX9_hasStepAbove_102 rfl ic_0 ?_
  exact J_zret (ty := .boolean) rfl rfl dX9_hasStepAbove_103 ⟨rfl, Nat.le_refl _⟩ (j_pIs h)
abbrev JT_X9_restMayFollow (l : Launch) (G : j_G) (M : j_M) (r : Int32) : Nat → List (Nat × Value) → List Value → j_M → Prop := JJ l G md_X9_restMayFollow (j_rm 3 (0, 0)) (0, 0) (0, 0) (po (some (.int r)) M)
noncomputable def f_X9_restMayFollow_L3 : Nat → j_M → Int32 → Int32 → Int32 → Int32 → Int32 → (Int32 → Option Int32) → Option Int32
  | 0, _, _, _, _, _, _, _ => none
  | n + 1, M, x1, x2, x3, x4, x5, K =>
    if (j_I M 17 9) ≤ x5 then (K x5) else (tl (f_X9_has x2 x5) fun v2 => (if v2 = 0 then (f_X9_restMayFollow_L3 n  M x1 x2 x3 x4 (x5 + (1 : Int32)) K) else (a_i M (17 + 4) 7 x5 fun v5 => (a_i M (17 + 4) 7 x1 fun v7 => (if v7 ≤ v5 then (f_X9_restMayFollow_L3 n  M x1 x2 x3 x4 (x5 + (1 : Int32)) K) else ((f_X9_hasStepAbove M x5 x1 x2 x3 x4).bind fun v10 => (if v10 = 0 then (some (0 : Int32)) else (f_X9_restMayFollow_L3 n  M x1 x2 x3 x4 (x5 + (1 : Int32)) K))))))))
noncomputable def f_X9_restMayFollow (M : j_M) (x1 : Int32) (x2 : Int32) (x3 : Int32) (x4 : Int32) : Option Int32 :=
  f_X9_restMayFollow_L3 j_fu  M x1 x2 x3 x4 (0 : Int32) (fun (y13 : Int32) => (some (1 : Int32)))
set_option maxHeartbeats 4000000 in
theorem L_X9_restMayFollow_L3 {l : Launch} {G : j_G}  {r : Int32} : ∀ (n : Nat) {x1 : Int32} {x2 : Int32} {x3 : Int32} {x4 : Int32} {x5 : Int32} {M : j_M} (hs : sh_x M.2.2) {K : Int32 → Option Int32}, f_X9_restMayFollow_L3 n  M x1 x2 x3 x4 x5 K = some r → (∀ (y5 : Int32), K y5 = some r → JT_X9_restMayFollow l G M r 68 [] [] M) → JT_X9_restMayFollow l G M r 3 [(0, .ref 0), (1, .int x1), (2, .int x2), (3, .int x3), (4, .int x4), (5, .int x5)] [] M := by
  intro n
  induction n with
  | zero =>
    intro x1 x2 x3 x4 x5 M hs K h hK
    rw [f_X9_restMayFollow_L3] at h; cases h
  | succ n ih =>
    intro x1 x2 x3 x4 x5 M hs K h hK
    rw [f_X9_restMayFollow_L3] at h
    refine J_iload (pc' := 5) (i := 5) (n := 5) dX9_restMayFollow_3 rfl rfl ?_
    refine J_aload_n (pc' := 6) (i := 0) (n := 0) dX9_restMayFollow_5 rfl rfl rfl ?_
    refine J_getR (pc' := 9) (b := 17) dX9_restMayFollow_6 rfl fl_X9_75 rfl (x_o hs) (x_n hs (Nat.le_of_ble_eq_true rfl)) (x_r0 hs) ?_
    refine J_getI (pc' := 12) dX9_restMayFollow_9 rfl fl_X9_82 rfl (b_o (x_b17 hs)) (b_no (x_b17 hs)) ?_
    refine J_icmp_ge (pc' := 15) (tgt := 68) dX9_restMayFollow_12 rfl (by decide) (fun c1 => ?_) (fun c1 => ?_)
    · replace h := j_ip c1 h
      refine J_sub [] (lv' := []) rfl ?_
      exact hK x5  h
    · replace h := j_iq c1 h
      refine J_iload_n (pc' := 16) (i := 2) (n := 2) dX9_restMayFollow_15 rfl rfl rfl ?_
      refine J_iload (pc' := 18) (i := 5) (n := 5) dX9_restMayFollow_16 rfl rfl ?_
      obtain ⟨v2, e3, h⟩ := tl_inv h
      refine J_callS (pc' := 21) (as := [.int x2, .int x5]) (rest := []) dX9_restMayFollow_18 rfl lk_X9_314 rfl (c_X9_has e3) ⟨Nat.le_of_ble_eq_true rfl, Nat.le_of_ble_eq_true rfl⟩ (Nat.le_of_ble_eq_true rfl) ⟨Nat.le_of_ble_eq_true rfl, Nat.le_of_ble_eq_true rfl⟩ (j_kq ?_)
      refine J_if_eq (pc' := 24) (tgt := 62) dX9_restMayFollow_21 rfl (by decide) (fun c4 => ?_) (fun c4 => ?_)
      · replace h := j_ip c4 h
        refine J_iinc (pc' := 65) (i := 5) (n := 5) (v := (x5 + (1 : Int32))) (lv' := [(5, .int (x5 + (1 : Int32))), (0, .ref 0), (1, .int x1), (2, .int x2), (3, .int x3), (4, .int x4)]) dX9_restMayFollow_62 rfl rfl (j_inc _ _ rfl _) (by decide) rfl ?_
        refine J_goto (pc' := 3) dX9_restMayFollow_65 (by decide) ?_
        refine J_sub [1, 2, 3, 4, 5, 0] (lv' := [(0, .ref 0), (1, .int x1), (2, .int x2), (3, .int x3), (4, .int x4), (5, .int (x5 + (1 : Int32)))]) rfl ?_
        exact ih hs h hK
      · replace h := j_iq c4 h
        refine J_aload_n (pc' := 25) (i := 0) (n := 0) dX9_restMayFollow_24 rfl rfl rfl ?_
        refine J_getR (pc' := 28) (b := 17) dX9_restMayFollow_25 rfl fl_X9_75 rfl (x_o hs) (x_n hs (Nat.le_of_ble_eq_true rfl)) (x_r0 hs) ?_
        refine J_getR (pc' := 31) (b := (17 + 4)) dX9_restMayFollow_28 rfl fl_X9_172 rfl (b_o (x_b17 hs)) (b_no (x_b17 hs)) (b_r4 (x_b17 hs)) ?_
        refine J_iload (pc' := 33) (i := 5) (n := 5) dX9_restMayFollow_31 rfl rfl ?_
        obtain ⟨v5, e6, h⟩ := a_i_inv h
        refine J_ialde (pc' := 34) dX9_restMayFollow_33 rfl (b_s4 (x_b17 hs)) (b_n (x_b17 hs) (Nat.le_of_ble_eq_true rfl)) e6 ?_
        refine J_aload_n (pc' := 35) (i := 0) (n := 0) dX9_restMayFollow_34 rfl rfl rfl ?_
        refine J_getR (pc' := 38) (b := 17) dX9_restMayFollow_35 rfl fl_X9_75 rfl (x_o hs) (x_n hs (Nat.le_of_ble_eq_true rfl)) (x_r0 hs) ?_
        refine J_getR (pc' := 41) (b := (17 + 4)) dX9_restMayFollow_38 rfl fl_X9_172 rfl (b_o (x_b17 hs)) (b_no (x_b17 hs)) (b_r4 (x_b17 hs)) ?_
        refine J_iload_n (pc' := 42) (i := 1) (n := 1) dX9_restMayFollow_41 rfl rfl rfl ?_
        obtain ⟨v7, e8, h⟩ := a_i_inv h
        refine J_ialde (pc' := 43) dX9_restMayFollow_42 rfl (b_s4 (x_b17 hs)) (b_n (x_b17 hs) (Nat.le_of_ble_eq_true rfl)) e8 ?_
        refine J_icmp_ge (pc' := 46) (tgt := 62) dX9_restMayFollow_43 rfl (by decide) (fun c9 => ?_) (fun c9 => ?_)
        · replace h := j_ip c9 h
          refine J_iinc (pc' := 65) (i := 5) (n := 5) (v := (x5 + (1 : Int32))) (lv' := [(5, .int (x5 + (1 : Int32))), (0, .ref 0), (1, .int x1), (2, .int x2), (3, .int x3), (4, .int x4)]) dX9_restMayFollow_62 rfl rfl (j_inc _ _ rfl _) (by decide) rfl ?_
          refine J_goto (pc' := 3) dX9_restMayFollow_65 (by decide) ?_
          refine J_sub [1, 2, 3, 4, 5, 0] (lv' := [(0, .ref 0), (1, .int x1), (2, .int x2), (3, .int x3), (4, .int x4), (5, .int (x5 + (1 : Int32)))]) rfl ?_
          exact ih hs h hK
        · replace h := j_iq c9 h
          refine J_aload_n (pc' := 47) (i := 0) (n := 0) dX9_restMayFollow_46 rfl rfl rfl ?_
          refine J_iload (pc' := 49) (i := 5) (n := 5) dX9_restMayFollow_47 rfl rfl ?_
          refine J_iload_n (pc' := 50) (i := 1) (n := 1) dX9_restMayFollow_49 rfl rfl rfl ?_
          refine J_iload_n (pc' := 51) (i := 2) (n := 2) dX9_restMayFollow_50 rfl rfl rfl ?_
          refine J_iload_n (pc' := 52) (i := 3) (n := 3) dX9_restMayFollow_51 rfl rfl rfl ?_
          refine J_iload (pc' := 54) (i := 4) (n := 4) dX9_restMayFollow_52 rfl rfl ?_
          obtain ⟨v10, e11, h⟩ := bi_inv h
          refine J_callV (pc' := 57) (as := [.int x5, .int x1, .int x2, .int x3, .int x4]) (rest := []) dX9_restMayFollow_54 rfl lk_X9_334 rfl 9 (by decide) rfl (x_o hs) (x_n hs (Nat.le_of_ble_eq_true rfl)) (c_X9_hasStepAbove hs e11) ⟨Nat.le_of_ble_eq_true rfl, Nat.le_of_ble_eq_true rfl⟩ (Nat.le_of_ble_eq_true rfl) ⟨Nat.le_of_ble_eq_true rfl, Nat.le_of_ble_eq_true rfl⟩ (j_kq ?_)
          refine J_if_ne (pc' := 60) (tgt := 62) dX9_restMayFollow_57 rfl (by decide) (fun c12 => ?_) (fun c12 => ?_)
          · replace h := j_iq c12 h
            refine J_iinc (pc' := 65) (i := 5) (n := 5) (v := (x5 + (1 : Int32))) (lv' := [(5, .int (x5 + (1 : Int32))), (0, .ref 0), (1, .int x1), (2, .int x2), (3, .int x3), (4, .int x4)]) dX9_restMayFollow_62 rfl rfl (j_inc _ _ rfl _) (by decide) rfl ?_
            refine J_goto (pc' := 3) dX9_restMayFollow_65 (by decide) ?_
            refine J_sub [1, 2, 3, 4, 5, 0] (lv' := [(0, .ref 0), (1, .int x1), (2, .int x2), (3, .int x3), (4, .int x4), (5, .int (x5 + (1 : Int32)))]) rfl ?_
            exact ih hs h hK
          · replace h := j_ip c12 h
            refine J_iconst (pc' := 61) (v := (0 : Int32)) dX9_restMayFollow_60 rfl ic_0 ?_
            exact J_zret (ty := .boolean) rfl rfl dX9_restMayFollow_61 ⟨rfl, Nat.le_refl _⟩ (j_pIs h)
set_option maxHeartbeats 4000000 in
theorem c_X9_restMayFollow {l : Launch} {G : j_G} {M : j_M} {x1 : Int32} {x2 : Int32} {x3 : Int32} {x4 : Int32} (hs : sh_x M.2.2) {r : Int32} (h : f_X9_restMayFollow M x1 x2 x3 x4 = some r) : j_Sp l G md_X9_restMayFollow 3 (0, 0) [.ref 0, .int x1, .int x2, .int x3, .int x4] M (po (some (.int r)) M) := by
  refine j_Sp.of (by decide) (Nat.le_of_ble_eq_true rfl) ?_
  show JT_X9_restMayFollow l G M r 0 [(0, .ref 0), (1, .int x1), (2, .int x2), (3, .int x3), (4, .int x4)] [] M
  unfold f_X9_restMayFollow at h
  refine J_iconst (pc' := 1) (v := (0 : Int32)) dX9_restMayFollow_0 rfl ic_0 ?_
  refine J_istore (pc' := 3) (i := 5) (lv' := [(5, .int (0 : Int32)), (0, .ref 0), (1, .int x1), (2, .int x2), (3, .int x3), (4, .int x4)]) dX9_restMayFollow_1 rfl (by decide) rfl ?_
  refine J_sub [1, 2, 3, 4, 5, 0] (lv' := [(0, .ref 0), (1, .int x1), (2, .int x2), (3, .int x3), (4, .int x4), (5, .int (0 : Int32))]) rfl ?_
  refine L_X9_restMayFollow_L3 j_fu hs h (fun y13 h => ?_)
  refine J_iconst (pc' := 69) (v := (1 : Int32)) dX9_restMayFollow_68 rfl ic_1 ?_
  exact J_zret (ty := .boolean) rfl rfl dX9_restMayFollow_69 ⟨rfl, Nat.le_refl _⟩ (j_pIs h)
abbrev JT_X9_nextStarter (l : Launch) (G : j_G) (M : j_M) (r : Int32) : Nat → List (Nat × Value) → List Value → j_M → Prop := JJ l G md_X9_nextStarter (j_rm 4 (0, 0)) (0, 0) (0, 0) (po (some (.int r)) M)
noncomputable def f_X9_nextStarter_L3 : Nat → j_M → Int32 → Int32 → Int32 → Int32 → Int32 → (Int32 → Option Int32) → Option Int32
  | 0, _, _, _, _, _, _, _ => none
  | n + 1, M, x1, x2, x3, x4, x5, K =>
    if (j_I M 17 9) ≤ x5 then (K x5) else (tl (f_X9_has x1 x5) fun v2 => (jn (fun (v5 : Int32) => (if v5 = 0 then (f_X9_nextStarter_L3 n  M x1 x2 x3 x4 (x5 + (1 : Int32)) K) else ((f_X9_restMayFollow M x5 x1 x3 x4).bind fun v9 => (if v9 = 0 then (f_X9_nextStarter_L3 n  M x1 x2 x3 x4 (x5 + (1 : Int32)) K) else (some x5))))) (fun K6 => (if v2 = 0 then (K6 (0 : Int32)) else (if x2 = ((-1) : Int32) then (K6 (1 : Int32)) else ((f_X9_mayFollow M x5 x2 x3 x4).bind fun v13 => (if v13 = 0 then (K6 (0 : Int32)) else (K6 (1 : Int32)))))))))
noncomputable def f_X9_nextStarter (M : j_M) (x1 : Int32) (x2 : Int32) (x3 : Int32) (x4 : Int32) : Option Int32 :=
  f_X9_nextStarter_L3 j_fu  M x1 x2 x3 x4 (0 : Int32) (fun (y16 : Int32) => (some ((-1) : Int32)))
set_option maxHeartbeats 4000000 in
theorem L_X9_nextStarter_L3 {l : Launch} {G : j_G}  {r : Int32} : ∀ (n : Nat) {x1 : Int32} {x2 : Int32} {x3 : Int32} {x4 : Int32} {x5 : Int32} {M : j_M} (hs : sh_x M.2.2) {K : Int32 → Option Int32}, f_X9_nextStarter_L3 n  M x1 x2 x3 x4 x5 K = some r → (∀ (y5 : Int32), K y5 = some r → JT_X9_nextStarter l G M r 76 [] [] M) → JT_X9_nextStarter l G M r 3 [(0, .ref 0), (1, .int x1), (2, .int x2), (3, .int x3), (4, .int x4), (5, .int x5)] [] M := by
  intro n
  induction n with
  | zero =>
    intro x1 x2 x3 x4 x5 M hs K h hK
    rw [f_X9_nextStarter_L3] at h; cases h
  | succ n ih =>
    intro x1 x2 x3 x4 x5 M hs K h hK
    rw [f_X9_nextStarter_L3] at h
    refine J_iload (pc' := 5) (i := 5) (n := 5) dX9_nextStarter_3 rfl rfl ?_
    refine J_aload_n (pc' := 6) (i := 0) (n := 0) dX9_nextStarter_5 rfl rfl rfl ?_
    refine J_getR (pc' := 9) (b := 17) dX9_nextStarter_6 rfl fl_X9_75 rfl (x_o hs) (x_n hs (Nat.le_of_ble_eq_true rfl)) (x_r0 hs) ?_
    refine J_getI (pc' := 12) dX9_nextStarter_9 rfl fl_X9_82 rfl (b_o (x_b17 hs)) (b_no (x_b17 hs)) ?_
    refine J_icmp_ge (pc' := 15) (tgt := 76) dX9_nextStarter_12 rfl (by decide) (fun c1 => ?_) (fun c1 => ?_)
    · replace h := j_ip c1 h
      refine J_sub [] (lv' := []) rfl ?_
      exact hK x5  h
    · replace h := j_iq c1 h
      refine J_iload_n (pc' := 16) (i := 1) (n := 1) dX9_nextStarter_15 rfl rfl rfl ?_
      refine J_iload (pc' := 18) (i := 5) (n := 5) dX9_nextStarter_16 rfl rfl ?_
      obtain ⟨v2, e3, h⟩ := tl_inv h
      refine J_callS (pc' := 21) (as := [.int x1, .int x5]) (rest := []) dX9_nextStarter_18 rfl lk_X9_314 rfl (c_X9_has e3) ⟨Nat.le_of_ble_eq_true rfl, Nat.le_of_ble_eq_true rfl⟩ (Nat.le_of_ble_eq_true rfl) ⟨Nat.le_of_ble_eq_true rfl, Nat.le_of_ble_eq_true rfl⟩ (j_kq ?_)
      refine J_join (C := fun (v5 : Int32) => JT_X9_nextStarter l G M r 47 [(0, .ref 0), (1, .int x1), (2, .int x2), (3, .int x3), (4, .int x4), (5, .int x5)] [.int v5] M) h (fun v5 h => ?_) (fun K6 h7 h => ?_)
      · refine J_istore (pc' := 49) (i := 6) (lv' := [(6, .int v5), (0, .ref 0), (1, .int x1), (2, .int x2), (3, .int x3), (4, .int x4), (5, .int x5)]) dX9_nextStarter_47 rfl (by decide) rfl ?_
        refine J_iload (pc' := 51) (i := 6) (n := 0) dX9_nextStarter_49 rfl rfl ?_
        refine J_if_eq (pc' := 54) (tgt := 70) dX9_nextStarter_51 rfl (by decide) (fun c8 => ?_) (fun c8 => ?_)
        · replace h := j_ip c8 h
          refine J_iinc (pc' := 73) (i := 5) (n := 6) (v := (x5 + (1 : Int32))) (lv' := [(5, .int (x5 + (1 : Int32))), (6, .int v5), (0, .ref 0), (1, .int x1), (2, .int x2), (3, .int x3), (4, .int x4)]) dX9_nextStarter_70 rfl rfl (j_inc _ _ rfl _) (by decide) rfl ?_
          refine J_goto (pc' := 3) dX9_nextStarter_73 (by decide) ?_
          refine J_sub [2, 3, 4, 5, 6, 0] (lv' := [(0, .ref 0), (1, .int x1), (2, .int x2), (3, .int x3), (4, .int x4), (5, .int (x5 + (1 : Int32)))]) rfl ?_
          exact ih hs h hK
        · replace h := j_iq c8 h
          refine J_aload_n (pc' := 55) (i := 0) (n := 1) dX9_nextStarter_54 rfl rfl rfl ?_
          refine J_iload (pc' := 57) (i := 5) (n := 6) dX9_nextStarter_55 rfl rfl ?_
          refine J_iload_n (pc' := 58) (i := 1) (n := 2) dX9_nextStarter_57 rfl rfl rfl ?_
          refine J_iload_n (pc' := 59) (i := 3) (n := 4) dX9_nextStarter_58 rfl rfl rfl ?_
          refine J_iload (pc' := 61) (i := 4) (n := 5) dX9_nextStarter_59 rfl rfl ?_
          obtain ⟨v9, e10, h⟩ := bi_inv h
          refine J_callV (pc' := 64) (as := [.int x5, .int x1, .int x3, .int x4]) (rest := []) dX9_nextStarter_61 rfl lk_X9_331 rfl 9 (by decide) rfl (x_o hs) (x_n hs (Nat.le_of_ble_eq_true rfl)) (c_X9_restMayFollow hs e10) ⟨Nat.le_of_ble_eq_true rfl, Nat.le_of_ble_eq_true rfl⟩ (Nat.le_of_ble_eq_true rfl) ⟨Nat.le_of_ble_eq_true rfl, Nat.le_of_ble_eq_true rfl⟩ (j_kq ?_)
          refine J_if_eq (pc' := 67) (tgt := 70) dX9_nextStarter_64 rfl (by decide) (fun c11 => ?_) (fun c11 => ?_)
          · replace h := j_ip c11 h
            refine J_iinc (pc' := 73) (i := 5) (n := 6) (v := (x5 + (1 : Int32))) (lv' := [(5, .int (x5 + (1 : Int32))), (6, .int v5), (0, .ref 0), (1, .int x1), (2, .int x2), (3, .int x3), (4, .int x4)]) dX9_nextStarter_70 rfl rfl (j_inc _ _ rfl _) (by decide) rfl ?_
            refine J_goto (pc' := 3) dX9_nextStarter_73 (by decide) ?_
            refine J_sub [2, 3, 4, 5, 6, 0] (lv' := [(0, .ref 0), (1, .int x1), (2, .int x2), (3, .int x3), (4, .int x4), (5, .int (x5 + (1 : Int32)))]) rfl ?_
            exact ih hs h hK
          · replace h := j_iq c11 h
            refine J_iload (pc' := 69) (i := 5) (n := 6) dX9_nextStarter_67 rfl rfl ?_
            exact J_iret rfl dX9_nextStarter_69 ⟨rfl, Nat.le_refl _⟩ (j_pIs h)
      · refine J_if_eq (pc' := 24) (tgt := 46) dX9_nextStarter_21 rfl (by decide) (fun c4 => ?_) (fun c4 => ?_)
        · replace h := j_ip c4 h
          refine J_iconst (pc' := 47) (v := (0 : Int32)) dX9_nextStarter_46 rfl ic_0 ?_
          exact h7 (0 : Int32) h
        · replace h := j_iq c4 h
          refine J_iload_n (pc' := 25) (i := 2) (n := 2) dX9_nextStarter_24 rfl rfl rfl ?_
          refine J_iconst (pc' := 26) (v := ((-1) : Int32)) dX9_nextStarter_25 rfl ic_m1 ?_
          refine J_icmp_eq (pc' := 29) (tgt := 42) dX9_nextStarter_26 rfl (by decide) (fun c12 => ?_) (fun c12 => ?_)
          · replace h := j_ip c12 h
            refine J_iconst (pc' := 43) (v := (1 : Int32)) dX9_nextStarter_42 rfl ic_1 ?_
            refine J_goto (pc' := 47) dX9_nextStarter_43 (by decide) ?_
            exact h7 (1 : Int32) h
          · replace h := j_iq c12 h
            refine J_aload_n (pc' := 30) (i := 0) (n := 0) dX9_nextStarter_29 rfl rfl rfl ?_
            refine J_iload (pc' := 32) (i := 5) (n := 5) dX9_nextStarter_30 rfl rfl ?_
            refine J_iload_n (pc' := 33) (i := 2) (n := 2) dX9_nextStarter_32 rfl rfl rfl ?_
            refine J_iload_n (pc' := 34) (i := 3) (n := 3) dX9_nextStarter_33 rfl rfl rfl ?_
            refine J_iload (pc' := 36) (i := 4) (n := 4) dX9_nextStarter_34 rfl rfl ?_
            obtain ⟨v13, e14, h⟩ := bi_inv h
            refine J_callV (pc' := 39) (as := [.int x5, .int x2, .int x3, .int x4]) (rest := []) dX9_nextStarter_36 rfl lk_X9_324 rfl 9 (by decide) rfl (x_o hs) (x_n hs (Nat.le_of_ble_eq_true rfl)) (c_X9_mayFollow hs e14) ⟨Nat.le_of_ble_eq_true rfl, Nat.le_of_ble_eq_true rfl⟩ (Nat.le_of_ble_eq_true rfl) ⟨Nat.le_of_ble_eq_true rfl, Nat.le_of_ble_eq_true rfl⟩ (j_kq ?_)
            refine J_if_eq (pc' := 42) (tgt := 46) dX9_nextStarter_39 rfl (by decide) (fun c15 => ?_) (fun c15 => ?_)
            · replace h := j_ip c15 h
              refine J_iconst (pc' := 47) (v := (0 : Int32)) dX9_nextStarter_46 rfl ic_0 ?_
              exact h7 (0 : Int32) h
            · replace h := j_iq c15 h
              refine J_iconst (pc' := 43) (v := (1 : Int32)) dX9_nextStarter_42 rfl ic_1 ?_
              refine J_goto (pc' := 47) dX9_nextStarter_43 (by decide) ?_
              exact h7 (1 : Int32) h
set_option maxHeartbeats 4000000 in
theorem c_X9_nextStarter {l : Launch} {G : j_G} {M : j_M} {x1 : Int32} {x2 : Int32} {x3 : Int32} {x4 : Int32} (hs : sh_x M.2.2) {r : Int32} (h : f_X9_nextStarter M x1 x2 x3 x4 = some r) : j_Sp l G md_X9_nextStarter 4 (0, 0) [.ref 0, .int x1, .int x2, .int x3, .int x4] M (po (some (.int r)) M) := by
  refine j_Sp.of (by decide) (Nat.le_of_ble_eq_true rfl) ?_
  show JT_X9_nextStarter l G M r 0 [(0, .ref 0), (1, .int x1), (2, .int x2), (3, .int x3), (4, .int x4)] [] M
  unfold f_X9_nextStarter at h
  refine J_iconst (pc' := 1) (v := (0 : Int32)) dX9_nextStarter_0 rfl ic_0 ?_
  refine J_istore (pc' := 3) (i := 5) (lv' := [(5, .int (0 : Int32)), (0, .ref 0), (1, .int x1), (2, .int x2), (3, .int x3), (4, .int x4)]) dX9_nextStarter_1 rfl (by decide) rfl ?_
  refine J_sub [1, 2, 3, 4, 5, 0] (lv' := [(0, .ref 0), (1, .int x1), (2, .int x2), (3, .int x3), (4, .int x4), (5, .int (0 : Int32))]) rfl ?_
  refine L_X9_nextStarter_L3 j_fu hs h (fun y16 h => ?_)
  refine J_iconst (pc' := 77) (v := ((-1) : Int32)) dX9_nextStarter_76 rfl ic_m1 ?_
  exact J_iret rfl dX9_nextStarter_77 ⟨rfl, Nat.le_refl _⟩ (j_pIs h)
abbrev JT_X9_starter (l : Launch) (G : j_G) (M : j_M) (r : Int32) : Nat → List (Nat × Value) → List Value → j_M → Prop := JJ l G md_X9_starter (j_rm 5 (0, 0)) (0, 0) (0, 0) (po (some (.int r)) M)
noncomputable def f_X9_starter_L9 : Nat → j_M → Int32 → Int32 → Int32 → Int32 → Int32 → Int32 → (Int32 → Int32 → Int32 → Option Int32) → Option Int32
  | 0, _, _, _, _, _, _, _, _ => none
  | n + 1, M, x2, x3, x4, x5, x6, x7, K =>
    if x4 < x7 then (K x5 x6 x7) else (if (7 : Int32) ≤ x7 then (K x5 x6 x7) else ((f_X9_nextStarter M x5 x6 x2 x3).bind fun v3 => (if v3 = ((-1) : Int32) then (some ((-1) : Int32)) else (f_X9_starter_L9 n  M x2 x3 x4 (x5 &&& (((1 : Int32) <<< (v3 &&& 31)) ^^^ ((-1) : Int32))) v3 (x7 + (1 : Int32)) K))))
noncomputable def f_X9_starter (M : j_M) (x1 : Int32) (x2 : Int32) (x3 : Int32) (x4 : Int32) : Option Int32 :=
  f_X9_starter_L9 j_fu  M x2 x3 x4 x1 ((-1) : Int32) (0 : Int32) (fun (y6 : Int32) (y7 : Int32) (y8 : Int32) => (some y7))
set_option maxHeartbeats 4000000 in
theorem L_X9_starter_L9 {l : Launch} {G : j_G}  {r : Int32} : ∀ (n : Nat) {x2 : Int32} {x3 : Int32} {x4 : Int32} {x5 : Int32} {x6 : Int32} {x7 : Int32} {M : j_M} (hs : sh_x M.2.2) {K : Int32 → Int32 → Int32 → Option Int32}, f_X9_starter_L9 n  M x2 x3 x4 x5 x6 x7 K = some r → (∀ (y5 : Int32) (y6 : Int32) (y7 : Int32), K y5 y6 y7 = some r → JT_X9_starter l G M r 60 [(6, .int y6)] [] M) → JT_X9_starter l G M r 9 [(0, .ref 0), (2, .int x2), (3, .int x3), (4, .int x4), (5, .int x5), (6, .int x6), (7, .int x7)] [] M := by
  intro n
  induction n with
  | zero =>
    intro x2 x3 x4 x5 x6 x7 M hs K h hK
    rw [f_X9_starter_L9] at h; cases h
  | succ n ih =>
    intro x2 x3 x4 x5 x6 x7 M hs K h hK
    rw [f_X9_starter_L9] at h
    refine J_iload (pc' := 11) (i := 7) (n := 6) dX9_starter_9 rfl rfl ?_
    refine J_iload (pc' := 13) (i := 4) (n := 3) dX9_starter_11 rfl rfl ?_
    refine J_icmp_gt (pc' := 16) (tgt := 60) dX9_starter_13 rfl (by decide) (fun c1 => ?_) (fun c1 => ?_)
    · replace h := j_ip c1 h
      refine J_sub [5] (lv' := [(6, .int x6)]) rfl ?_
      exact hK x5 x6 x7  h
    · replace h := j_iq c1 h
      refine J_iload (pc' := 18) (i := 7) (n := 6) dX9_starter_16 rfl rfl ?_
      refine J_bipush (pc' := 20) (v := (7 : Int32)) dX9_starter_18 rfl bp_7 ?_
      refine J_icmp_ge (pc' := 23) (tgt := 60) dX9_starter_20 rfl (by decide) (fun c2 => ?_) (fun c2 => ?_)
      · replace h := j_ip c2 h
        refine J_sub [5] (lv' := [(6, .int x6)]) rfl ?_
        exact hK x5 x6 x7  h
      · replace h := j_iq c2 h
        refine J_aload_n (pc' := 24) (i := 0) (n := 0) dX9_starter_23 rfl rfl rfl ?_
        refine J_iload (pc' := 26) (i := 5) (n := 4) dX9_starter_24 rfl rfl ?_
        refine J_iload (pc' := 28) (i := 6) (n := 5) dX9_starter_26 rfl rfl ?_
        refine J_iload_n (pc' := 29) (i := 2) (n := 1) dX9_starter_28 rfl rfl rfl ?_
        refine J_iload_n (pc' := 30) (i := 3) (n := 2) dX9_starter_29 rfl rfl rfl ?_
        obtain ⟨v3, e4, h⟩ := bi_inv h
        refine J_callV (pc' := 33) (as := [.int x5, .int x6, .int x2, .int x3]) (rest := []) dX9_starter_30 rfl lk_X9_328 rfl 9 (by decide) rfl (x_o hs) (x_n hs (Nat.le_of_ble_eq_true rfl)) (c_X9_nextStarter hs e4) ⟨Nat.le_of_ble_eq_true rfl, Nat.le_of_ble_eq_true rfl⟩ (Nat.le_of_ble_eq_true rfl) ⟨Nat.le_of_ble_eq_true rfl, Nat.le_of_ble_eq_true rfl⟩ (j_kq ?_)
        refine J_istore (pc' := 35) (i := 6) (lv' := [(6, .int v3), (0, .ref 0), (2, .int x2), (3, .int x3), (4, .int x4), (5, .int x5), (7, .int x7)]) dX9_starter_33 rfl (by decide) rfl ?_
        refine J_iload (pc' := 37) (i := 6) (n := 0) dX9_starter_35 rfl rfl ?_
        refine J_iconst (pc' := 38) (v := ((-1) : Int32)) dX9_starter_37 rfl ic_m1 ?_
        refine J_icmp_ne (pc' := 41) (tgt := 43) dX9_starter_38 rfl (by decide) (fun c5 => ?_) (fun c5 => ?_)
        · replace h := j_iq c5 h
          refine J_iload (pc' := 45) (i := 5) (n := 5) dX9_starter_43 rfl rfl ?_
          refine J_iconst (pc' := 46) (v := (1 : Int32)) dX9_starter_45 rfl ic_1 ?_
          refine J_iload (pc' := 48) (i := 6) (n := 0) dX9_starter_46 rfl rfl ?_
          refine J_ishl (pc' := 49) dX9_starter_48 rfl ?_
          refine J_iconst (pc' := 50) (v := ((-1) : Int32)) dX9_starter_49 rfl ic_m1 ?_
          refine J_ixor (pc' := 51) dX9_starter_50 rfl ?_
          refine J_iand (pc' := 52) dX9_starter_51 rfl ?_
          refine J_istore (pc' := 54) (i := 5) (lv' := [(5, .int (x5 &&& (((1 : Int32) <<< (v3 &&& 31)) ^^^ ((-1) : Int32)))), (6, .int v3), (0, .ref 0), (2, .int x2), (3, .int x3), (4, .int x4), (7, .int x7)]) dX9_starter_52 rfl (by decide) rfl ?_
          refine J_iinc (pc' := 57) (i := 7) (n := 6) (v := (x7 + (1 : Int32))) (lv' := [(7, .int (x7 + (1 : Int32))), (5, .int (x5 &&& (((1 : Int32) <<< (v3 &&& 31)) ^^^ ((-1) : Int32)))), (6, .int v3), (0, .ref 0), (2, .int x2), (3, .int x3), (4, .int x4)]) dX9_starter_54 rfl rfl (j_inc _ _ rfl _) (by decide) rfl ?_
          refine J_goto (pc' := 9) dX9_starter_57 (by decide) ?_
          refine J_sub [3, 4, 5, 6, 1, 2, 0] (lv' := [(0, .ref 0), (2, .int x2), (3, .int x3), (4, .int x4), (5, .int (x5 &&& (((1 : Int32) <<< (v3 &&& 31)) ^^^ ((-1) : Int32)))), (6, .int v3), (7, .int (x7 + (1 : Int32)))]) rfl ?_
          exact ih hs h hK
        · replace h := j_ip c5 h
          refine J_iconst (pc' := 42) (v := ((-1) : Int32)) dX9_starter_41 rfl ic_m1 ?_
          exact J_iret rfl dX9_starter_42 ⟨rfl, Nat.le_refl _⟩ (j_pIs h)
set_option maxHeartbeats 4000000 in
theorem c_X9_starter {l : Launch} {G : j_G} {M : j_M} {x1 : Int32} {x2 : Int32} {x3 : Int32} {x4 : Int32} (hs : sh_x M.2.2) {r : Int32} (h : f_X9_starter M x1 x2 x3 x4 = some r) : j_Sp l G md_X9_starter 5 (0, 0) [.ref 0, .int x1, .int x2, .int x3, .int x4] M (po (some (.int r)) M) := by
  refine j_Sp.of (by decide) (Nat.le_of_ble_eq_true rfl) ?_
  show JT_X9_starter l G M r 0 [(0, .ref 0), (1, .int x1), (2, .int x2), (3, .int x3), (4, .int x4)] [] M
  unfold f_X9_starter at h
  refine J_iload_n (pc' := 1) (i := 1) (n := 1) dX9_starter_0 rfl rfl rfl ?_
  refine J_istore (pc' := 3) (i := 5) (lv' := [(5, .int x1), (0, .ref 0), (1, .int x1), (2, .int x2), (3, .int x3), (4, .int x4)]) dX9_starter_1 rfl (by decide) rfl ?_
  refine J_iconst (pc' := 4) (v := ((-1) : Int32)) dX9_starter_3 rfl ic_m1 ?_
  refine J_istore (pc' := 6) (i := 6) (lv' := [(6, .int ((-1) : Int32)), (5, .int x1), (0, .ref 0), (1, .int x1), (2, .int x2), (3, .int x3), (4, .int x4)]) dX9_starter_4 rfl (by decide) rfl ?_
  refine J_iconst (pc' := 7) (v := (0 : Int32)) dX9_starter_6 rfl ic_0 ?_
  refine J_istore (pc' := 9) (i := 7) (lv' := [(7, .int (0 : Int32)), (6, .int ((-1) : Int32)), (5, .int x1), (0, .ref 0), (1, .int x1), (2, .int x2), (3, .int x3), (4, .int x4)]) dX9_starter_7 rfl (by decide) rfl ?_
  refine J_sub [3, 5, 6, 7, 2, 1, 0] (lv' := [(0, .ref 0), (2, .int x2), (3, .int x3), (4, .int x4), (5, .int x1), (6, .int ((-1) : Int32)), (7, .int (0 : Int32))]) rfl ?_
  refine L_X9_starter_L9 j_fu hs h (fun y6 y7 y8 h => ?_)
  refine J_iload (pc' := 62) (i := 6) (n := 0) dX9_starter_60 rfl rfl ?_
  exact J_iret rfl dX9_starter_62 ⟨rfl, Nat.le_refl _⟩ (j_pIs h)
abbrev JT_X9_order (l : Launch) (G : j_G) (r : (Int32 × j_M)) : Nat → List (Nat × Value) → List Value → j_M → Prop := JJ l G md_X9_order (j_rm 6 (0, 0)) (0, 0) (0, 0) (po (some (.int r.1)) r.2)
noncomputable def f_X9_order (M : j_M) (x1 : Int32) (x2 : Int32) (x3 : Int32) (x4 : Int32) : Option (Int32 × j_M) :=
  tl (f_X9_isLane x1) fun v1 => (if v1 = 0 then ((f_X9_badAsTen M).bind fun q4 => j_ck M q4.2 (some (q4.1, q4.2))) else (tl (f_X9_within x2 (0 : Int32) (60 : Int32)) fun v8 => (if v8 = 0 then ((f_X9_badAsTen M).bind fun q11 => j_ck M q11.2 (some (q11.1, q11.2))) else (tl (f_X9_within x3 (1 : Int32) (9 : Int32)) fun v15 => (if v15 = 0 then ((f_X9_badAsTen M).bind fun q18 => j_ck M q18.2 (some (q18.1, q18.2))) else (if ((-1) : Int32) ≤ x4 then ((f_X0_members M 17 (17 + 5) x1).bind fun v23 => (if x4 = ((-1) : Int32) then ((f_X9_ordersOf M v23 x2 x3).bind fun v31 => (some (v31, M))) else (tl (bc v23) fun v26 => (if x4 < v26 then ((f_X9_starter M v23 x2 x3 x4).bind fun v29 => (some (v29, M))) else (some (((-5) : Int32), M)))))) else ((f_X9_badAsTen M).bind fun q33 => j_ck M q33.2 (some (q33.1, q33.2)))))))))
set_option maxHeartbeats 4000000 in
theorem c_X9_order {l : Launch} {G : j_G} {M : j_M} {x1 : Int32} {x2 : Int32} {x3 : Int32} {x4 : Int32} (hs : sh_x M.2.2) {r : (Int32 × j_M)} (h : f_X9_order M x1 x2 x3 x4 = some r) : j_Sp l G md_X9_order 6 (0, 0) [.ref 0, .int x1, .int x2, .int x3, .int x4] M (po (some (.int r.1)) r.2) := by
  refine j_Sp.of (by decide) (Nat.le_of_ble_eq_true rfl) ?_
  show JT_X9_order l G r 0 [(0, .ref 0), (1, .int x1), (2, .int x2), (3, .int x3), (4, .int x4)] [] M
  unfold f_X9_order at h
  refine J_iload_n (pc' := 1) (i := 1) (n := 1) dX9_order_0 rfl rfl rfl ?_
  obtain ⟨v1, e2, h⟩ := tl_inv h
  refine J_callS (pc' := 4) (as := [.int x1]) (rest := []) dX9_order_1 rfl lk_X9_88 rfl (c_X9_isLane e2) ⟨Nat.le_of_ble_eq_true rfl, Nat.le_of_ble_eq_true rfl⟩ (Nat.le_of_ble_eq_true rfl) ⟨Nat.le_of_ble_eq_true rfl, Nat.le_of_ble_eq_true rfl⟩ (j_kq ?_)
  refine J_if_eq (pc' := 7) (tgt := 33) dX9_order_4 rfl (by decide) (fun c3 => ?_) (fun c3 => ?_)
  · replace h := j_ip c3 h
    refine J_aload_n (pc' := 34) (i := 0) (n := 0) dX9_order_33 rfl rfl rfl ?_
    obtain ⟨q4, e5, h⟩ := bi_inv h
    obtain ⟨c6, h⟩ := j_ck_inv h
    refine J_callV (pc' := 37) (as := []) (rest := []) dX9_order_34 rfl lk_X9_209 rfl 9 (by decide) rfl (x_o hs) (x_n hs (Nat.le_of_ble_eq_true rfl)) (c_X9_badAsTen hs e5) ⟨Nat.le_of_ble_eq_true rfl, Nat.le_of_ble_eq_true rfl⟩ (Nat.le_of_ble_eq_true rfl) ⟨Nat.le_of_ble_eq_true rfl, Nat.le_of_ble_eq_true rfl⟩ (j_kq ?_)
    have g7 : sh_x q4.2.2.2 := j_shE c6 hs
    exact J_iret rfl dX9_order_37 ⟨rfl, Nat.le_refl _⟩ (j_pW h)
  · replace h := j_iq c3 h
    refine J_iload_n (pc' := 8) (i := 2) (n := 2) dX9_order_7 rfl rfl rfl ?_
    refine J_iconst (pc' := 9) (v := (0 : Int32)) dX9_order_8 rfl ic_0 ?_
    refine J_bipush (pc' := 11) (v := (60 : Int32)) dX9_order_9 rfl bp_60 ?_
    obtain ⟨v8, e9, h⟩ := tl_inv h
    refine J_callS (pc' := 14) (as := [.int x2, .int (0 : Int32), .int (60 : Int32)]) (rest := []) dX9_order_11 rfl lk_X9_92 rfl (c_X9_within e9) ⟨Nat.le_of_ble_eq_true rfl, Nat.le_of_ble_eq_true rfl⟩ (Nat.le_of_ble_eq_true rfl) ⟨Nat.le_of_ble_eq_true rfl, Nat.le_of_ble_eq_true rfl⟩ (j_kq ?_)
    refine J_if_eq (pc' := 17) (tgt := 33) dX9_order_14 rfl (by decide) (fun c10 => ?_) (fun c10 => ?_)
    · replace h := j_ip c10 h
      refine J_aload_n (pc' := 34) (i := 0) (n := 0) dX9_order_33 rfl rfl rfl ?_
      obtain ⟨q11, e12, h⟩ := bi_inv h
      obtain ⟨c13, h⟩ := j_ck_inv h
      refine J_callV (pc' := 37) (as := []) (rest := []) dX9_order_34 rfl lk_X9_209 rfl 9 (by decide) rfl (x_o hs) (x_n hs (Nat.le_of_ble_eq_true rfl)) (c_X9_badAsTen hs e12) ⟨Nat.le_of_ble_eq_true rfl, Nat.le_of_ble_eq_true rfl⟩ (Nat.le_of_ble_eq_true rfl) ⟨Nat.le_of_ble_eq_true rfl, Nat.le_of_ble_eq_true rfl⟩ (j_kq ?_)
      have g14 : sh_x q11.2.2.2 := j_shE c13 hs
      exact J_iret rfl dX9_order_37 ⟨rfl, Nat.le_refl _⟩ (j_pW h)
    · replace h := j_iq c10 h
      refine J_iload_n (pc' := 18) (i := 3) (n := 3) dX9_order_17 rfl rfl rfl ?_
      refine J_iconst (pc' := 19) (v := (1 : Int32)) dX9_order_18 rfl ic_1 ?_
      refine J_bipush (pc' := 21) (v := (9 : Int32)) dX9_order_19 rfl bp_9 ?_
      obtain ⟨v15, e16, h⟩ := tl_inv h
      refine J_callS (pc' := 24) (as := [.int x3, .int (1 : Int32), .int (9 : Int32)]) (rest := []) dX9_order_21 rfl lk_X9_92 rfl (c_X9_within e16) ⟨Nat.le_of_ble_eq_true rfl, Nat.le_of_ble_eq_true rfl⟩ (Nat.le_of_ble_eq_true rfl) ⟨Nat.le_of_ble_eq_true rfl, Nat.le_of_ble_eq_true rfl⟩ (j_kq ?_)
      refine J_if_eq (pc' := 27) (tgt := 33) dX9_order_24 rfl (by decide) (fun c17 => ?_) (fun c17 => ?_)
      · replace h := j_ip c17 h
        refine J_aload_n (pc' := 34) (i := 0) (n := 0) dX9_order_33 rfl rfl rfl ?_
        obtain ⟨q18, e19, h⟩ := bi_inv h
        obtain ⟨c20, h⟩ := j_ck_inv h
        refine J_callV (pc' := 37) (as := []) (rest := []) dX9_order_34 rfl lk_X9_209 rfl 9 (by decide) rfl (x_o hs) (x_n hs (Nat.le_of_ble_eq_true rfl)) (c_X9_badAsTen hs e19) ⟨Nat.le_of_ble_eq_true rfl, Nat.le_of_ble_eq_true rfl⟩ (Nat.le_of_ble_eq_true rfl) ⟨Nat.le_of_ble_eq_true rfl, Nat.le_of_ble_eq_true rfl⟩ (j_kq ?_)
        have g21 : sh_x q18.2.2.2 := j_shE c20 hs
        exact J_iret rfl dX9_order_37 ⟨rfl, Nat.le_refl _⟩ (j_pW h)
      · replace h := j_iq c17 h
        refine J_iload (pc' := 29) (i := 4) (n := 4) dX9_order_27 rfl rfl ?_
        refine J_iconst (pc' := 30) (v := ((-1) : Int32)) dX9_order_29 rfl ic_m1 ?_
        refine J_icmp_ge (pc' := 33) (tgt := 38) dX9_order_30 rfl (by decide) (fun c22 => ?_) (fun c22 => ?_)
        · replace h := j_ip c22 h
          refine J_aload_n (pc' := 39) (i := 0) (n := 0) dX9_order_38 rfl rfl rfl ?_
          refine J_getR (pc' := 42) (b := 17) dX9_order_39 rfl fl_X9_75 rfl (x_o hs) (x_n hs (Nat.le_of_ble_eq_true rfl)) (x_r0 hs) ?_
          refine J_aload_n (pc' := 43) (i := 0) (n := 0) dX9_order_42 rfl rfl rfl ?_
          refine J_getR (pc' := 46) (b := 17) dX9_order_43 rfl fl_X9_75 rfl (x_o hs) (x_n hs (Nat.le_of_ble_eq_true rfl)) (x_r0 hs) ?_
          refine J_getR (pc' := 49) (b := (17 + 5)) dX9_order_46 rfl fl_X9_103 rfl (b_o (x_b17 hs)) (b_no (x_b17 hs)) (b_r5 (x_b17 hs)) ?_
          refine J_iload_n (pc' := 50) (i := 1) (n := 1) dX9_order_49 rfl rfl rfl ?_
          obtain ⟨v23, e24, h⟩ := bi_inv h
          refine J_callVN (pc' := 53) (as := [.ref (17 + 5), .int x1]) (rest := []) dX9_order_50 rfl lk_X9_106 rfl 0 (by decide) rfl (b_o (x_b17 hs)) (b_no (x_b17 hs)) (c_X0_members (x_b17 hs) ⟨(b_s5 (x_b17 hs)), (b_n (x_b17 hs) (Nat.le_of_ble_eq_true rfl))⟩ e24) ⟨Nat.le_of_ble_eq_true rfl, Nat.le_of_ble_eq_true rfl⟩ (Nat.le_of_ble_eq_true rfl) ⟨Nat.le_of_ble_eq_true rfl, Nat.le_of_ble_eq_true rfl⟩ (j_kq ?_)
          refine J_istore (pc' := 55) (i := 5) (lv' := [(5, .int v23), (0, .ref 0), (1, .int x1), (2, .int x2), (3, .int x3), (4, .int x4)]) dX9_order_53 rfl (by decide) rfl ?_
          refine J_iload (pc' := 57) (i := 4) (n := 5) dX9_order_55 rfl rfl ?_
          refine J_iconst (pc' := 58) (v := ((-1) : Int32)) dX9_order_57 rfl ic_m1 ?_
          refine J_icmp_ne (pc' := 61) (tgt := 70) dX9_order_58 rfl (by decide) (fun c25 => ?_) (fun c25 => ?_)
          · replace h := j_iq c25 h
            refine J_iload (pc' := 72) (i := 4) (n := 5) dX9_order_70 rfl rfl ?_
            refine J_iload (pc' := 74) (i := 5) (n := 0) dX9_order_72 rfl rfl ?_
            obtain ⟨v26, e27, h⟩ := tl_inv h
            refine J_callS (pc' := 77) (as := [.int v23]) (rest := [.int x4]) dX9_order_74 rfl lk_X9_189 rfl (c_bc e27) ⟨Nat.le_of_ble_eq_true rfl, Nat.le_of_ble_eq_true rfl⟩ (Nat.le_of_ble_eq_true rfl) ⟨Nat.le_of_ble_eq_true rfl, Nat.le_of_ble_eq_true rfl⟩ (j_kq ?_)
            refine J_icmp_lt (pc' := 80) (tgt := 83) dX9_order_77 rfl (by decide) (fun c28 => ?_) (fun c28 => ?_)
            · replace h := j_ip c28 h
              refine J_aload_n (pc' := 84) (i := 0) (n := 1) dX9_order_83 rfl rfl rfl ?_
              refine J_iload (pc' := 86) (i := 5) (n := 0) dX9_order_84 rfl rfl ?_
              refine J_iload_n (pc' := 87) (i := 2) (n := 3) dX9_order_86 rfl rfl rfl ?_
              refine J_iload_n (pc' := 88) (i := 3) (n := 4) dX9_order_87 rfl rfl rfl ?_
              refine J_iload (pc' := 90) (i := 4) (n := 5) dX9_order_88 rfl rfl ?_
              obtain ⟨v29, e30, h⟩ := bi_inv h
              refine J_callV (pc' := 93) (as := [.int v23, .int x2, .int x3, .int x4]) (rest := []) dX9_order_90 rfl lk_X9_235 rfl 9 (by decide) rfl (x_o hs) (x_n hs (Nat.le_of_ble_eq_true rfl)) (c_X9_starter hs e30) ⟨Nat.le_of_ble_eq_true rfl, Nat.le_of_ble_eq_true rfl⟩ (Nat.le_of_ble_eq_true rfl) ⟨Nat.le_of_ble_eq_true rfl, Nat.le_of_ble_eq_true rfl⟩ (j_kq ?_)
              exact J_iret rfl dX9_order_93 ⟨rfl, Nat.le_refl _⟩ (j_pW h)
            · replace h := j_iq c28 h
              refine J_bipush (pc' := 82) (v := ((-5) : Int32)) dX9_order_80 rfl bp_m5 ?_
              exact J_iret rfl dX9_order_82 ⟨rfl, Nat.le_refl _⟩ (j_pW h)
          · replace h := j_ip c25 h
            refine J_aload_n (pc' := 62) (i := 0) (n := 1) dX9_order_61 rfl rfl rfl ?_
            refine J_iload (pc' := 64) (i := 5) (n := 0) dX9_order_62 rfl rfl ?_
            refine J_iload_n (pc' := 65) (i := 2) (n := 3) dX9_order_64 rfl rfl rfl ?_
            refine J_iload_n (pc' := 66) (i := 3) (n := 4) dX9_order_65 rfl rfl rfl ?_
            obtain ⟨v31, e32, h⟩ := bi_inv h
            refine J_callV (pc' := 69) (as := [.int v23, .int x2, .int x3]) (rest := []) dX9_order_66 rfl lk_X9_232 rfl 9 (by decide) rfl (x_o hs) (x_n hs (Nat.le_of_ble_eq_true rfl)) (c_X9_ordersOf hs e32) ⟨Nat.le_of_ble_eq_true rfl, Nat.le_of_ble_eq_true rfl⟩ (Nat.le_of_ble_eq_true rfl) ⟨Nat.le_of_ble_eq_true rfl, Nat.le_of_ble_eq_true rfl⟩ (j_kq ?_)
            exact J_iret rfl dX9_order_69 ⟨rfl, Nat.le_refl _⟩ (j_pW h)
        · replace h := j_iq c22 h
          refine J_aload_n (pc' := 34) (i := 0) (n := 0) dX9_order_33 rfl rfl rfl ?_
          obtain ⟨q33, e34, h⟩ := bi_inv h
          obtain ⟨c35, h⟩ := j_ck_inv h
          refine J_callV (pc' := 37) (as := []) (rest := []) dX9_order_34 rfl lk_X9_209 rfl 9 (by decide) rfl (x_o hs) (x_n hs (Nat.le_of_ble_eq_true rfl)) (c_X9_badAsTen hs e34) ⟨Nat.le_of_ble_eq_true rfl, Nat.le_of_ble_eq_true rfl⟩ (Nat.le_of_ble_eq_true rfl) ⟨Nat.le_of_ble_eq_true rfl, Nat.le_of_ble_eq_true rfl⟩ (j_kq ?_)
          have g36 : sh_x q33.2.2.2 := j_shE c35 hs
          exact J_iret rfl dX9_order_37 ⟨rfl, Nat.le_refl _⟩ (j_pW h)
abbrev JT_X9_leastApart (l : Launch) (G : j_G) (M : j_M) (r : Int32) : Nat → List (Nat × Value) → List Value → j_M → Prop := JJ l G md_X9_leastApart (j_rm 2 (0, 0)) (0, 0) (0, 0) (po (some (.int r)) M)
noncomputable def f_X9_leastApart_L8 : Nat → j_M → Int32 → Int32 → Int32 → Int32 → Int32 → (Int32 → Int32 → Int32 → Option Int32) → Option Int32
  | 0, _, _, _, _, _, _, _ => none
  | n + 1, M, x1, x2, x3, x4, x5, K =>
    if (j_I M 17 9) ≤ x5 then (K x3 x4 x5) else (tl (f_X9_has x1 x5) fun v2 => (if v2 = 0 then (f_X9_leastApart_L8 n  M x1 x2 x3 x4 (x5 + (1 : Int32)) K) else (if x4 = ((-1) : Int32) then (f_X9_leastApart_L8 n  M x1 x2 x3 x5 (x5 + (1 : Int32)) K) else (a_i M (17 + 4) 7 x4 fun v6 => (a_i M (17 + 4) 7 x5 fun v8 => (tl (if x3 < (x2 * (v6 - v8)) then (x2 * (v6 - v8)) else x3) fun v10 => (f_X9_leastApart_L8 n  M x1 x2 v10 x5 (x5 + (1 : Int32)) K)))))))
noncomputable def f_X9_leastApart (M : j_M) (x1 : Int32) (x2 : Int32) : Option Int32 :=
  f_X9_leastApart_L8 j_fu  M x1 x2 (0 : Int32) ((-1) : Int32) (0 : Int32) (fun (y12 : Int32) (y13 : Int32) (y14 : Int32) => (some y12))
set_option maxHeartbeats 4000000 in
theorem L_X9_leastApart_L8 {l : Launch} {G : j_G}  {r : Int32} : ∀ (n : Nat) {x1 : Int32} {x2 : Int32} {x3 : Int32} {x4 : Int32} {x5 : Int32} {M : j_M} (hs : sh_x M.2.2) {K : Int32 → Int32 → Int32 → Option Int32}, f_X9_leastApart_L8 n  M x1 x2 x3 x4 x5 K = some r → (∀ (y3 : Int32) (y4 : Int32) (y5 : Int32), K y3 y4 y5 = some r → JT_X9_leastApart l G M r 73 [(3, .int y3)] [] M) → JT_X9_leastApart l G M r 8 [(0, .ref 0), (1, .int x1), (2, .int x2), (3, .int x3), (4, .int x4), (5, .int x5)] [] M := by
  intro n
  induction n with
  | zero =>
    intro x1 x2 x3 x4 x5 M hs K h hK
    rw [f_X9_leastApart_L8] at h; cases h
  | succ n ih =>
    intro x1 x2 x3 x4 x5 M hs K h hK
    rw [f_X9_leastApart_L8] at h
    refine J_iload (pc' := 10) (i := 5) (n := 5) dX9_leastApart_8 rfl rfl ?_
    refine J_aload_n (pc' := 11) (i := 0) (n := 0) dX9_leastApart_10 rfl rfl rfl ?_
    refine J_getR (pc' := 14) (b := 17) dX9_leastApart_11 rfl fl_X9_75 rfl (x_o hs) (x_n hs (Nat.le_of_ble_eq_true rfl)) (x_r0 hs) ?_
    refine J_getI (pc' := 17) dX9_leastApart_14 rfl fl_X9_82 rfl (b_o (x_b17 hs)) (b_no (x_b17 hs)) ?_
    refine J_icmp_ge (pc' := 20) (tgt := 73) dX9_leastApart_17 rfl (by decide) (fun c1 => ?_) (fun c1 => ?_)
    · replace h := j_ip c1 h
      refine J_sub [3] (lv' := [(3, .int x3)]) rfl ?_
      exact hK x3 x4 x5  h
    · replace h := j_iq c1 h
      refine J_iload_n (pc' := 21) (i := 1) (n := 1) dX9_leastApart_20 rfl rfl rfl ?_
      refine J_iload (pc' := 23) (i := 5) (n := 5) dX9_leastApart_21 rfl rfl ?_
      obtain ⟨v2, e3, h⟩ := tl_inv h
      refine J_callS (pc' := 26) (as := [.int x1, .int x5]) (rest := []) dX9_leastApart_23 rfl lk_X9_314 rfl (c_X9_has e3) ⟨Nat.le_of_ble_eq_true rfl, Nat.le_of_ble_eq_true rfl⟩ (Nat.le_of_ble_eq_true rfl) ⟨Nat.le_of_ble_eq_true rfl, Nat.le_of_ble_eq_true rfl⟩ (j_kq ?_)
      refine J_if_eq (pc' := 29) (tgt := 67) dX9_leastApart_26 rfl (by decide) (fun c4 => ?_) (fun c4 => ?_)
      · replace h := j_ip c4 h
        refine J_iinc (pc' := 70) (i := 5) (n := 5) (v := (x5 + (1 : Int32))) (lv' := [(5, .int (x5 + (1 : Int32))), (0, .ref 0), (1, .int x1), (2, .int x2), (3, .int x3), (4, .int x4)]) dX9_leastApart_67 rfl rfl (j_inc _ _ rfl _) (by decide) rfl ?_
        refine J_goto (pc' := 8) dX9_leastApart_70 (by decide) ?_
        refine J_sub [1, 2, 3, 4, 5, 0] (lv' := [(0, .ref 0), (1, .int x1), (2, .int x2), (3, .int x3), (4, .int x4), (5, .int (x5 + (1 : Int32)))]) rfl ?_
        exact ih hs h hK
      · replace h := j_iq c4 h
        refine J_iload (pc' := 31) (i := 4) (n := 4) dX9_leastApart_29 rfl rfl ?_
        refine J_iconst (pc' := 32) (v := ((-1) : Int32)) dX9_leastApart_31 rfl ic_m1 ?_
        refine J_icmp_eq (pc' := 35) (tgt := 63) dX9_leastApart_32 rfl (by decide) (fun c5 => ?_) (fun c5 => ?_)
        · replace h := j_ip c5 h
          refine J_iload (pc' := 65) (i := 5) (n := 5) dX9_leastApart_63 rfl rfl ?_
          refine J_istore (pc' := 67) (i := 4) (lv' := [(4, .int x5), (0, .ref 0), (1, .int x1), (2, .int x2), (3, .int x3), (5, .int x5)]) dX9_leastApart_65 rfl (by decide) rfl ?_
          refine J_iinc (pc' := 70) (i := 5) (n := 5) (v := (x5 + (1 : Int32))) (lv' := [(5, .int (x5 + (1 : Int32))), (4, .int x5), (0, .ref 0), (1, .int x1), (2, .int x2), (3, .int x3)]) dX9_leastApart_67 rfl rfl (j_inc _ _ rfl _) (by decide) rfl ?_
          refine J_goto (pc' := 8) dX9_leastApart_70 (by decide) ?_
          refine J_sub [2, 3, 4, 5, 1, 0] (lv' := [(0, .ref 0), (1, .int x1), (2, .int x2), (3, .int x3), (4, .int x5), (5, .int (x5 + (1 : Int32)))]) rfl ?_
          exact ih hs h hK
        · replace h := j_iq c5 h
          refine J_iload_n (pc' := 36) (i := 3) (n := 3) dX9_leastApart_35 rfl rfl rfl ?_
          refine J_iload_n (pc' := 37) (i := 2) (n := 2) dX9_leastApart_36 rfl rfl rfl ?_
          refine J_aload_n (pc' := 38) (i := 0) (n := 0) dX9_leastApart_37 rfl rfl rfl ?_
          refine J_getR (pc' := 41) (b := 17) dX9_leastApart_38 rfl fl_X9_75 rfl (x_o hs) (x_n hs (Nat.le_of_ble_eq_true rfl)) (x_r0 hs) ?_
          refine J_getR (pc' := 44) (b := (17 + 4)) dX9_leastApart_41 rfl fl_X9_172 rfl (b_o (x_b17 hs)) (b_no (x_b17 hs)) (b_r4 (x_b17 hs)) ?_
          refine J_iload (pc' := 46) (i := 4) (n := 4) dX9_leastApart_44 rfl rfl ?_
          obtain ⟨v6, e7, h⟩ := a_i_inv h
          refine J_ialde (pc' := 47) dX9_leastApart_46 rfl (b_s4 (x_b17 hs)) (b_n (x_b17 hs) (Nat.le_of_ble_eq_true rfl)) e7 ?_
          refine J_aload_n (pc' := 48) (i := 0) (n := 0) dX9_leastApart_47 rfl rfl rfl ?_
          refine J_getR (pc' := 51) (b := 17) dX9_leastApart_48 rfl fl_X9_75 rfl (x_o hs) (x_n hs (Nat.le_of_ble_eq_true rfl)) (x_r0 hs) ?_
          refine J_getR (pc' := 54) (b := (17 + 4)) dX9_leastApart_51 rfl fl_X9_172 rfl (b_o (x_b17 hs)) (b_no (x_b17 hs)) (b_r4 (x_b17 hs)) ?_
          refine J_iload (pc' := 56) (i := 5) (n := 5) dX9_leastApart_54 rfl rfl ?_
          obtain ⟨v8, e9, h⟩ := a_i_inv h
          refine J_ialde (pc' := 57) dX9_leastApart_56 rfl (b_s4 (x_b17 hs)) (b_n (x_b17 hs) (Nat.le_of_ble_eq_true rfl)) e9 ?_
          refine J_isub (pc' := 58) dX9_leastApart_57 rfl ?_
          refine J_imul (pc' := 59) dX9_leastApart_58 rfl ?_
          obtain ⟨v10, e11, h⟩ := tl_inv h
          refine J_maxe (pc' := 62) dX9_leastApart_59 rfl lk_X9_338 ⟨Nat.le_of_ble_eq_true rfl, Nat.le_of_ble_eq_true rfl, Nat.le_of_ble_eq_true rfl, Nat.le_of_ble_eq_true rfl⟩ e11 ?_
          refine J_istore_n (pc' := 63) (i := 3) (lv' := [(3, .int v10), (0, .ref 0), (1, .int x1), (2, .int x2), (4, .int x4), (5, .int x5)]) dX9_leastApart_62 rfl rfl (by decide) rfl ?_
          refine J_iload (pc' := 65) (i := 5) (n := 5) dX9_leastApart_63 rfl rfl ?_
          refine J_istore (pc' := 67) (i := 4) (lv' := [(4, .int x5), (3, .int v10), (0, .ref 0), (1, .int x1), (2, .int x2), (5, .int x5)]) dX9_leastApart_65 rfl (by decide) rfl ?_
          refine J_iinc (pc' := 70) (i := 5) (n := 5) (v := (x5 + (1 : Int32))) (lv' := [(5, .int (x5 + (1 : Int32))), (4, .int x5), (3, .int v10), (0, .ref 0), (1, .int x1), (2, .int x2)]) dX9_leastApart_67 rfl rfl (j_inc _ _ rfl _) (by decide) rfl ?_
          refine J_goto (pc' := 8) dX9_leastApart_70 (by decide) ?_
          refine J_sub [3, 4, 5, 2, 1, 0] (lv' := [(0, .ref 0), (1, .int x1), (2, .int x2), (3, .int v10), (4, .int x5), (5, .int (x5 + (1 : Int32)))]) rfl ?_
          exact ih hs h hK
set_option maxHeartbeats 4000000 in
theorem c_X9_leastApart {l : Launch} {G : j_G} {M : j_M} {x1 : Int32} {x2 : Int32} (hs : sh_x M.2.2) {r : Int32} (h : f_X9_leastApart M x1 x2 = some r) : j_Sp l G md_X9_leastApart 2 (0, 0) [.ref 0, .int x1, .int x2] M (po (some (.int r)) M) := by
  refine j_Sp.of (by decide) (Nat.le_of_ble_eq_true rfl) ?_
  show JT_X9_leastApart l G M r 0 [(0, .ref 0), (1, .int x1), (2, .int x2)] [] M
  unfold f_X9_leastApart at h
  refine J_iconst (pc' := 1) (v := (0 : Int32)) dX9_leastApart_0 rfl ic_0 ?_
  refine J_istore_n (pc' := 2) (i := 3) (lv' := [(3, .int (0 : Int32)), (0, .ref 0), (1, .int x1), (2, .int x2)]) dX9_leastApart_1 rfl rfl (by decide) rfl ?_
  refine J_iconst (pc' := 3) (v := ((-1) : Int32)) dX9_leastApart_2 rfl ic_m1 ?_
  refine J_istore (pc' := 5) (i := 4) (lv' := [(4, .int ((-1) : Int32)), (3, .int (0 : Int32)), (0, .ref 0), (1, .int x1), (2, .int x2)]) dX9_leastApart_3 rfl (by decide) rfl ?_
  refine J_iconst (pc' := 6) (v := (0 : Int32)) dX9_leastApart_5 rfl ic_0 ?_
  refine J_istore (pc' := 8) (i := 5) (lv' := [(5, .int (0 : Int32)), (4, .int ((-1) : Int32)), (3, .int (0 : Int32)), (0, .ref 0), (1, .int x1), (2, .int x2)]) dX9_leastApart_6 rfl (by decide) rfl ?_
  refine J_sub [3, 4, 5, 2, 1, 0] (lv' := [(0, .ref 0), (1, .int x1), (2, .int x2), (3, .int (0 : Int32)), (4, .int ((-1) : Int32)), (5, .int (0 : Int32))]) rfl ?_
  refine L_X9_leastApart_L8 j_fu hs h (fun y12 y13 y14 h => ?_)
  refine J_iload_n (pc' := 74) (i := 3) (n := 0) dX9_leastApart_73 rfl rfl rfl ?_
  exact J_iret rfl dX9_leastApart_74 ⟨rfl, Nat.le_refl _⟩ (j_pIs h)
abbrev JT_X9_apart (l : Launch) (G : j_G) (r : (Int32 × j_M)) : Nat → List (Nat × Value) → List Value → j_M → Prop := JJ l G md_X9_apart (j_rm 3 (0, 0)) (0, 0) (0, 0) (po (some (.int r.1)) r.2)
noncomputable def f_X9_apart (M : j_M) (x1 : Int32) (x2 : Int32) : Option (Int32 × j_M) :=
  tl (f_X9_isLane x1) fun v1 => (if v1 = 0 then ((f_X9_bad M).bind fun q4 => j_ck M q4.2 (some (q4.1, q4.2))) else (tl (f_X9_within x2 (1 : Int32) (9 : Int32)) fun v8 => (if v8 = 0 then ((f_X9_bad M).bind fun q16 => j_ck M q16.2 (some (q16.1, q16.2))) else ((f_X0_members M 17 (17 + 5) x1).bind fun v11 => ((f_X9_leastApart M v11 x2).bind fun v13 => (if v13 ≤ (600 : Int32) then (some (v13, M)) else (some (((-1) : Int32), M))))))))
set_option maxHeartbeats 4000000 in
theorem c_X9_apart {l : Launch} {G : j_G} {M : j_M} {x1 : Int32} {x2 : Int32} (hs : sh_x M.2.2) {r : (Int32 × j_M)} (h : f_X9_apart M x1 x2 = some r) : j_Sp l G md_X9_apart 3 (0, 0) [.ref 0, .int x1, .int x2] M (po (some (.int r.1)) r.2) := by
  refine j_Sp.of (by decide) (Nat.le_of_ble_eq_true rfl) ?_
  show JT_X9_apart l G r 0 [(0, .ref 0), (1, .int x1), (2, .int x2)] [] M
  unfold f_X9_apart at h
  refine J_iload_n (pc' := 1) (i := 1) (n := 1) dX9_apart_0 rfl rfl rfl ?_
  obtain ⟨v1, e2, h⟩ := tl_inv h
  refine J_callS (pc' := 4) (as := [.int x1]) (rest := []) dX9_apart_1 rfl lk_X9_88 rfl (c_X9_isLane e2) ⟨Nat.le_of_ble_eq_true rfl, Nat.le_of_ble_eq_true rfl⟩ (Nat.le_of_ble_eq_true rfl) ⟨Nat.le_of_ble_eq_true rfl, Nat.le_of_ble_eq_true rfl⟩ (j_kq ?_)
  refine J_if_eq (pc' := 7) (tgt := 17) dX9_apart_4 rfl (by decide) (fun c3 => ?_) (fun c3 => ?_)
  · replace h := j_ip c3 h
    refine J_aload_n (pc' := 18) (i := 0) (n := 0) dX9_apart_17 rfl rfl rfl ?_
    obtain ⟨q4, e5, h⟩ := bi_inv h
    obtain ⟨c6, h⟩ := j_ck_inv h
    refine J_callV (pc' := 21) (as := []) (rest := []) dX9_apart_18 rfl lk_X9_96 rfl 9 (by decide) rfl (x_o hs) (x_n hs (Nat.le_of_ble_eq_true rfl)) (c_X9_bad hs e5) ⟨Nat.le_of_ble_eq_true rfl, Nat.le_of_ble_eq_true rfl⟩ (Nat.le_of_ble_eq_true rfl) ⟨Nat.le_of_ble_eq_true rfl, Nat.le_of_ble_eq_true rfl⟩ (j_kq ?_)
    have g7 : sh_x q4.2.2.2 := j_shE c6 hs
    exact J_iret rfl dX9_apart_21 ⟨rfl, Nat.le_refl _⟩ (j_pW h)
  · replace h := j_iq c3 h
    refine J_iload_n (pc' := 8) (i := 2) (n := 2) dX9_apart_7 rfl rfl rfl ?_
    refine J_iconst (pc' := 9) (v := (1 : Int32)) dX9_apart_8 rfl ic_1 ?_
    refine J_bipush (pc' := 11) (v := (9 : Int32)) dX9_apart_9 rfl bp_9 ?_
    obtain ⟨v8, e9, h⟩ := tl_inv h
    refine J_callS (pc' := 14) (as := [.int x2, .int (1 : Int32), .int (9 : Int32)]) (rest := []) dX9_apart_11 rfl lk_X9_92 rfl (c_X9_within e9) ⟨Nat.le_of_ble_eq_true rfl, Nat.le_of_ble_eq_true rfl⟩ (Nat.le_of_ble_eq_true rfl) ⟨Nat.le_of_ble_eq_true rfl, Nat.le_of_ble_eq_true rfl⟩ (j_kq ?_)
    refine J_if_ne (pc' := 17) (tgt := 22) dX9_apart_14 rfl (by decide) (fun c10 => ?_) (fun c10 => ?_)
    · replace h := j_iq c10 h
      refine J_aload_n (pc' := 23) (i := 0) (n := 0) dX9_apart_22 rfl rfl rfl ?_
      refine J_aload_n (pc' := 24) (i := 0) (n := 0) dX9_apart_23 rfl rfl rfl ?_
      refine J_getR (pc' := 27) (b := 17) dX9_apart_24 rfl fl_X9_75 rfl (x_o hs) (x_n hs (Nat.le_of_ble_eq_true rfl)) (x_r0 hs) ?_
      refine J_aload_n (pc' := 28) (i := 0) (n := 0) dX9_apart_27 rfl rfl rfl ?_
      refine J_getR (pc' := 31) (b := 17) dX9_apart_28 rfl fl_X9_75 rfl (x_o hs) (x_n hs (Nat.le_of_ble_eq_true rfl)) (x_r0 hs) ?_
      refine J_getR (pc' := 34) (b := (17 + 5)) dX9_apart_31 rfl fl_X9_103 rfl (b_o (x_b17 hs)) (b_no (x_b17 hs)) (b_r5 (x_b17 hs)) ?_
      refine J_iload_n (pc' := 35) (i := 1) (n := 1) dX9_apart_34 rfl rfl rfl ?_
      obtain ⟨v11, e12, h⟩ := bi_inv h
      refine J_callVN (pc' := 38) (as := [.ref (17 + 5), .int x1]) (rest := [.ref 0]) dX9_apart_35 rfl lk_X9_106 rfl 0 (by decide) rfl (b_o (x_b17 hs)) (b_no (x_b17 hs)) (c_X0_members (x_b17 hs) ⟨(b_s5 (x_b17 hs)), (b_n (x_b17 hs) (Nat.le_of_ble_eq_true rfl))⟩ e12) ⟨Nat.le_of_ble_eq_true rfl, Nat.le_of_ble_eq_true rfl⟩ (Nat.le_of_ble_eq_true rfl) ⟨Nat.le_of_ble_eq_true rfl, Nat.le_of_ble_eq_true rfl⟩ (j_kq ?_)
      refine J_iload_n (pc' := 39) (i := 2) (n := 2) dX9_apart_38 rfl rfl rfl ?_
      obtain ⟨v13, e14, h⟩ := bi_inv h
      refine J_callV (pc' := 42) (as := [.int v11, .int x2]) (rest := []) dX9_apart_39 rfl lk_X9_239 rfl 9 (by decide) rfl (x_o hs) (x_n hs (Nat.le_of_ble_eq_true rfl)) (c_X9_leastApart hs e14) ⟨Nat.le_of_ble_eq_true rfl, Nat.le_of_ble_eq_true rfl⟩ (Nat.le_of_ble_eq_true rfl) ⟨Nat.le_of_ble_eq_true rfl, Nat.le_of_ble_eq_true rfl⟩ (j_kq ?_)
      refine J_istore_n (pc' := 43) (i := 3) (lv' := [(3, .int v13), (0, .ref 0), (1, .int x1), (2, .int x2)]) dX9_apart_42 rfl rfl (by decide) rfl ?_
      refine J_iload_n (pc' := 44) (i := 3) (n := 0) dX9_apart_43 rfl rfl rfl ?_
      refine J_sipush (pc' := 47) (v := (600 : Int32)) dX9_apart_44 rfl sp_600 ?_
      refine J_icmp_le (pc' := 50) (tgt := 54) dX9_apart_47 rfl (by decide) (fun c15 => ?_) (fun c15 => ?_)
      · replace h := j_ip c15 h
        refine J_iload_n (pc' := 55) (i := 3) (n := 0) dX9_apart_54 rfl rfl rfl ?_
        exact J_iret rfl dX9_apart_55 ⟨rfl, Nat.le_refl _⟩ (j_pW h)
      · replace h := j_iq c15 h
        refine J_iconst (pc' := 51) (v := ((-1) : Int32)) dX9_apart_50 rfl ic_m1 ?_
        refine J_goto (pc' := 55) dX9_apart_51 (by decide) ?_
        exact J_iret rfl dX9_apart_55 ⟨rfl, Nat.le_refl _⟩ (j_pW h)
    · replace h := j_ip c10 h
      refine J_aload_n (pc' := 18) (i := 0) (n := 0) dX9_apart_17 rfl rfl rfl ?_
      obtain ⟨q16, e17, h⟩ := bi_inv h
      obtain ⟨c18, h⟩ := j_ck_inv h
      refine J_callV (pc' := 21) (as := []) (rest := []) dX9_apart_18 rfl lk_X9_96 rfl 9 (by decide) rfl (x_o hs) (x_n hs (Nat.le_of_ble_eq_true rfl)) (c_X9_bad hs e17) ⟨Nat.le_of_ble_eq_true rfl, Nat.le_of_ble_eq_true rfl⟩ (Nat.le_of_ble_eq_true rfl) ⟨Nat.le_of_ble_eq_true rfl, Nat.le_of_ble_eq_true rfl⟩ (j_kq ?_)
      have g19 : sh_x q16.2.2.2 := j_shE c18 hs
      exact J_iret rfl dX9_apart_21 ⟨rfl, Nat.le_refl _⟩ (j_pW h)
abbrev JT_X9_note (l : Launch) (G : j_G) (r : (Int32 × j_M)) : Nat → List (Nat × Value) → List Value → j_M → Prop := JJ l G md_X9_note (j_rm 2 (0, 0)) (0, 0) (0, 0) (po (some (.int r.1)) r.2)
noncomputable def f_X9_note (M : j_M) (x1 : Int32) (x2 : Int32) (x3 : Int32) (x4 : Int32) (x5 : Int32) : Option (Int32 × j_M) :=
  tl (f_X9_isOne M x1) fun v1 => (if v1 = 0 then ((f_X9_bad M).bind fun q4 => j_ck M q4.2 (some (q4.1, q4.2))) else (tl (f_X9_within x2 (1 : Int32) (200 : Int32)) fun v8 => (if v8 = 0 then ((f_X9_bad M).bind fun q11 => j_ck M q11.2 (some (q11.1, q11.2))) else (tl (f_X9_within x3 (0 : Int32) (90 : Int32)) fun v15 => (if v15 = 0 then ((f_X9_bad M).bind fun q41 => j_ck M q41.2 (some (q41.1, q41.2))) else (tl (f_X9_within x4 (0 : Int32) (6 : Int32)) fun v18 => (if v18 = 0 then ((f_X9_bad M).bind fun q21 => j_ck M q21.2 (some (q21.1, q21.2))) else (tl (f_X9_within x5 (0 : Int32) (6 : Int32)) fun v25 => (if v25 = 0 then ((f_X9_bad M).bind fun q37 => j_ck M q37.2 (some (q37.1, q37.2))) else (if (j_I M 17 11) < (6 : Int32) then ((f_X0_writeDown M 17 x1 x2 x3 x4 x5).bind fun q29 => j_ck M q29.2 (some (q29.1, q29.2))) else ((f_X9_full M).bind fun q33 => j_ck M q33.2 (some (q33.1, q33.2)))))))))))))
set_option maxHeartbeats 4000000 in
theorem c_X9_note {l : Launch} {G : j_G} {M : j_M} {x1 : Int32} {x2 : Int32} {x3 : Int32} {x4 : Int32} {x5 : Int32} (hs : sh_x M.2.2) {r : (Int32 × j_M)} (h : f_X9_note M x1 x2 x3 x4 x5 = some r) : j_Sp l G md_X9_note 2 (0, 0) [.ref 0, .int x1, .int x2, .int x3, .int x4, .int x5] M (po (some (.int r.1)) r.2) := by
  refine j_Sp.of (by decide) (Nat.le_of_ble_eq_true rfl) ?_
  show JT_X9_note l G r 0 [(0, .ref 0), (1, .int x1), (2, .int x2), (3, .int x3), (4, .int x4), (5, .int x5)] [] M
  unfold f_X9_note at h
  refine J_aload_n (pc' := 1) (i := 0) (n := 0) dX9_note_0 rfl rfl rfl ?_
  refine J_iload_n (pc' := 2) (i := 1) (n := 1) dX9_note_1 rfl rfl rfl ?_
  obtain ⟨v1, e2, h⟩ := tl_inv h
  refine J_callV (pc' := 5) (as := [.int x1]) (rest := []) dX9_note_2 rfl lk_X9_153 rfl 9 (by decide) rfl (x_o hs) (x_n hs (Nat.le_of_ble_eq_true rfl)) (c_X9_isOne hs e2) ⟨Nat.le_of_ble_eq_true rfl, Nat.le_of_ble_eq_true rfl⟩ (Nat.le_of_ble_eq_true rfl) ⟨Nat.le_of_ble_eq_true rfl, Nat.le_of_ble_eq_true rfl⟩ (j_kq ?_)
  refine J_if_eq (pc' := 8) (tgt := 29) dX9_note_5 rfl (by decide) (fun c3 => ?_) (fun c3 => ?_)
  · replace h := j_ip c3 h
    refine J_aload_n (pc' := 30) (i := 0) (n := 0) dX9_note_29 rfl rfl rfl ?_
    obtain ⟨q4, e5, h⟩ := bi_inv h
    obtain ⟨c6, h⟩ := j_ck_inv h
    refine J_callV (pc' := 33) (as := []) (rest := []) dX9_note_30 rfl lk_X9_96 rfl 9 (by decide) rfl (x_o hs) (x_n hs (Nat.le_of_ble_eq_true rfl)) (c_X9_bad hs e5) ⟨Nat.le_of_ble_eq_true rfl, Nat.le_of_ble_eq_true rfl⟩ (Nat.le_of_ble_eq_true rfl) ⟨Nat.le_of_ble_eq_true rfl, Nat.le_of_ble_eq_true rfl⟩ (j_kq ?_)
    have g7 : sh_x q4.2.2.2 := j_shE c6 hs
    exact J_iret rfl dX9_note_33 ⟨rfl, Nat.le_refl _⟩ (j_pW h)
  · replace h := j_iq c3 h
    refine J_iload_n (pc' := 9) (i := 2) (n := 2) dX9_note_8 rfl rfl rfl ?_
    refine J_iconst (pc' := 10) (v := (1 : Int32)) dX9_note_9 rfl ic_1 ?_
    refine J_sipush (pc' := 13) (v := (200 : Int32)) dX9_note_10 rfl sp_200 ?_
    obtain ⟨v8, e9, h⟩ := tl_inv h
    refine J_callS (pc' := 16) (as := [.int x2, .int (1 : Int32), .int (200 : Int32)]) (rest := []) dX9_note_13 rfl lk_X9_92 rfl (c_X9_within e9) ⟨Nat.le_of_ble_eq_true rfl, Nat.le_of_ble_eq_true rfl⟩ (Nat.le_of_ble_eq_true rfl) ⟨Nat.le_of_ble_eq_true rfl, Nat.le_of_ble_eq_true rfl⟩ (j_kq ?_)
    refine J_if_eq (pc' := 19) (tgt := 29) dX9_note_16 rfl (by decide) (fun c10 => ?_) (fun c10 => ?_)
    · replace h := j_ip c10 h
      refine J_aload_n (pc' := 30) (i := 0) (n := 0) dX9_note_29 rfl rfl rfl ?_
      obtain ⟨q11, e12, h⟩ := bi_inv h
      obtain ⟨c13, h⟩ := j_ck_inv h
      refine J_callV (pc' := 33) (as := []) (rest := []) dX9_note_30 rfl lk_X9_96 rfl 9 (by decide) rfl (x_o hs) (x_n hs (Nat.le_of_ble_eq_true rfl)) (c_X9_bad hs e12) ⟨Nat.le_of_ble_eq_true rfl, Nat.le_of_ble_eq_true rfl⟩ (Nat.le_of_ble_eq_true rfl) ⟨Nat.le_of_ble_eq_true rfl, Nat.le_of_ble_eq_true rfl⟩ (j_kq ?_)
      have g14 : sh_x q11.2.2.2 := j_shE c13 hs
      exact J_iret rfl dX9_note_33 ⟨rfl, Nat.le_refl _⟩ (j_pW h)
    · replace h := j_iq c10 h
      refine J_iload_n (pc' := 20) (i := 3) (n := 3) dX9_note_19 rfl rfl rfl ?_
      refine J_iconst (pc' := 21) (v := (0 : Int32)) dX9_note_20 rfl ic_0 ?_
      refine J_bipush (pc' := 23) (v := (90 : Int32)) dX9_note_21 rfl bp_90 ?_
      obtain ⟨v15, e16, h⟩ := tl_inv h
      refine J_callS (pc' := 26) (as := [.int x3, .int (0 : Int32), .int (90 : Int32)]) (rest := []) dX9_note_23 rfl lk_X9_92 rfl (c_X9_within e16) ⟨Nat.le_of_ble_eq_true rfl, Nat.le_of_ble_eq_true rfl⟩ (Nat.le_of_ble_eq_true rfl) ⟨Nat.le_of_ble_eq_true rfl, Nat.le_of_ble_eq_true rfl⟩ (j_kq ?_)
      refine J_if_ne (pc' := 29) (tgt := 34) dX9_note_26 rfl (by decide) (fun c17 => ?_) (fun c17 => ?_)
      · replace h := j_iq c17 h
        refine J_iload (pc' := 36) (i := 4) (n := 4) dX9_note_34 rfl rfl ?_
        refine J_iconst (pc' := 37) (v := (0 : Int32)) dX9_note_36 rfl ic_0 ?_
        refine J_bipush (pc' := 39) (v := (6 : Int32)) dX9_note_37 rfl bp_6 ?_
        obtain ⟨v18, e19, h⟩ := tl_inv h
        refine J_callS (pc' := 42) (as := [.int x4, .int (0 : Int32), .int (6 : Int32)]) (rest := []) dX9_note_39 rfl lk_X9_92 rfl (c_X9_within e19) ⟨Nat.le_of_ble_eq_true rfl, Nat.le_of_ble_eq_true rfl⟩ (Nat.le_of_ble_eq_true rfl) ⟨Nat.le_of_ble_eq_true rfl, Nat.le_of_ble_eq_true rfl⟩ (j_kq ?_)
        refine J_if_eq (pc' := 45) (tgt := 56) dX9_note_42 rfl (by decide) (fun c20 => ?_) (fun c20 => ?_)
        · replace h := j_ip c20 h
          refine J_aload_n (pc' := 57) (i := 0) (n := 0) dX9_note_56 rfl rfl rfl ?_
          obtain ⟨q21, e22, h⟩ := bi_inv h
          obtain ⟨c23, h⟩ := j_ck_inv h
          refine J_callV (pc' := 60) (as := []) (rest := []) dX9_note_57 rfl lk_X9_96 rfl 9 (by decide) rfl (x_o hs) (x_n hs (Nat.le_of_ble_eq_true rfl)) (c_X9_bad hs e22) ⟨Nat.le_of_ble_eq_true rfl, Nat.le_of_ble_eq_true rfl⟩ (Nat.le_of_ble_eq_true rfl) ⟨Nat.le_of_ble_eq_true rfl, Nat.le_of_ble_eq_true rfl⟩ (j_kq ?_)
          have g24 : sh_x q21.2.2.2 := j_shE c23 hs
          exact J_iret rfl dX9_note_60 ⟨rfl, Nat.le_refl _⟩ (j_pW h)
        · replace h := j_iq c20 h
          refine J_iload (pc' := 47) (i := 5) (n := 5) dX9_note_45 rfl rfl ?_
          refine J_iconst (pc' := 48) (v := (0 : Int32)) dX9_note_47 rfl ic_0 ?_
          refine J_bipush (pc' := 50) (v := (6 : Int32)) dX9_note_48 rfl bp_6 ?_
          obtain ⟨v25, e26, h⟩ := tl_inv h
          refine J_callS (pc' := 53) (as := [.int x5, .int (0 : Int32), .int (6 : Int32)]) (rest := []) dX9_note_50 rfl lk_X9_92 rfl (c_X9_within e26) ⟨Nat.le_of_ble_eq_true rfl, Nat.le_of_ble_eq_true rfl⟩ (Nat.le_of_ble_eq_true rfl) ⟨Nat.le_of_ble_eq_true rfl, Nat.le_of_ble_eq_true rfl⟩ (j_kq ?_)
          refine J_if_ne (pc' := 56) (tgt := 61) dX9_note_53 rfl (by decide) (fun c27 => ?_) (fun c27 => ?_)
          · replace h := j_iq c27 h
            refine J_aload_n (pc' := 62) (i := 0) (n := 0) dX9_note_61 rfl rfl rfl ?_
            refine J_getR (pc' := 65) (b := 17) dX9_note_62 rfl fl_X9_75 rfl (x_o hs) (x_n hs (Nat.le_of_ble_eq_true rfl)) (x_r0 hs) ?_
            refine J_getI (pc' := 68) dX9_note_65 rfl fl_X9_242 rfl (b_o (x_b17 hs)) (b_no (x_b17 hs)) ?_
            refine J_bipush (pc' := 70) (v := (6 : Int32)) dX9_note_68 rfl bp_6 ?_
            refine J_icmp_lt (pc' := 73) (tgt := 78) dX9_note_70 rfl (by decide) (fun c28 => ?_) (fun c28 => ?_)
            · replace h := j_ip c28 h
              refine J_aload_n (pc' := 79) (i := 0) (n := 0) dX9_note_78 rfl rfl rfl ?_
              refine J_getR (pc' := 82) (b := 17) dX9_note_79 rfl fl_X9_75 rfl (x_o hs) (x_n hs (Nat.le_of_ble_eq_true rfl)) (x_r0 hs) ?_
              refine J_iload_n (pc' := 83) (i := 1) (n := 1) dX9_note_82 rfl rfl rfl ?_
              refine J_iload_n (pc' := 84) (i := 2) (n := 2) dX9_note_83 rfl rfl rfl ?_
              refine J_iload_n (pc' := 85) (i := 3) (n := 3) dX9_note_84 rfl rfl rfl ?_
              refine J_iload (pc' := 87) (i := 4) (n := 4) dX9_note_85 rfl rfl ?_
              refine J_iload (pc' := 89) (i := 5) (n := 5) dX9_note_87 rfl rfl ?_
              obtain ⟨q29, e30, h⟩ := bi_inv h
              obtain ⟨c31, h⟩ := j_ck_inv h
              refine J_callVN (pc' := 92) (as := [.int x1, .int x2, .int x3, .int x4, .int x5]) (rest := []) dX9_note_89 rfl lk_X9_245 rfl 0 (by decide) rfl (b_o (x_b17 hs)) (b_no (x_b17 hs)) (c_X0_writeDown (x_b17 hs) e30) ⟨Nat.le_of_ble_eq_true rfl, Nat.le_of_ble_eq_true rfl⟩ (Nat.le_of_ble_eq_true rfl) ⟨Nat.le_of_ble_eq_true rfl, Nat.le_of_ble_eq_true rfl⟩ (j_kq ?_)
              have g32 : sh_x q29.2.2.2 := j_shE c31 hs
              exact J_iret rfl dX9_note_92 ⟨rfl, Nat.le_refl _⟩ (j_pW h)
            · replace h := j_iq c28 h
              refine J_aload_n (pc' := 74) (i := 0) (n := 0) dX9_note_73 rfl rfl rfl ?_
              obtain ⟨q33, e34, h⟩ := bi_inv h
              obtain ⟨c35, h⟩ := j_ck_inv h
              refine J_callV (pc' := 77) (as := []) (rest := []) dX9_note_74 rfl lk_X9_128 rfl 9 (by decide) rfl (x_o hs) (x_n hs (Nat.le_of_ble_eq_true rfl)) (c_X9_full hs e34) ⟨Nat.le_of_ble_eq_true rfl, Nat.le_of_ble_eq_true rfl⟩ (Nat.le_of_ble_eq_true rfl) ⟨Nat.le_of_ble_eq_true rfl, Nat.le_of_ble_eq_true rfl⟩ (j_kq ?_)
              have g36 : sh_x q33.2.2.2 := j_shE c35 hs
              exact J_iret rfl dX9_note_77 ⟨rfl, Nat.le_refl _⟩ (j_pW h)
          · replace h := j_ip c27 h
            refine J_aload_n (pc' := 57) (i := 0) (n := 0) dX9_note_56 rfl rfl rfl ?_
            obtain ⟨q37, e38, h⟩ := bi_inv h
            obtain ⟨c39, h⟩ := j_ck_inv h
            refine J_callV (pc' := 60) (as := []) (rest := []) dX9_note_57 rfl lk_X9_96 rfl 9 (by decide) rfl (x_o hs) (x_n hs (Nat.le_of_ble_eq_true rfl)) (c_X9_bad hs e38) ⟨Nat.le_of_ble_eq_true rfl, Nat.le_of_ble_eq_true rfl⟩ (Nat.le_of_ble_eq_true rfl) ⟨Nat.le_of_ble_eq_true rfl, Nat.le_of_ble_eq_true rfl⟩ (j_kq ?_)
            have g40 : sh_x q37.2.2.2 := j_shE c39 hs
            exact J_iret rfl dX9_note_60 ⟨rfl, Nat.le_refl _⟩ (j_pW h)
      · replace h := j_ip c17 h
        refine J_aload_n (pc' := 30) (i := 0) (n := 0) dX9_note_29 rfl rfl rfl ?_
        obtain ⟨q41, e42, h⟩ := bi_inv h
        obtain ⟨c43, h⟩ := j_ck_inv h
        refine J_callV (pc' := 33) (as := []) (rest := []) dX9_note_30 rfl lk_X9_96 rfl 9 (by decide) rfl (x_o hs) (x_n hs (Nat.le_of_ble_eq_true rfl)) (c_X9_bad hs e42) ⟨Nat.le_of_ble_eq_true rfl, Nat.le_of_ble_eq_true rfl⟩ (Nat.le_of_ble_eq_true rfl) ⟨Nat.le_of_ble_eq_true rfl, Nat.le_of_ble_eq_true rfl⟩ (j_kq ?_)
        have g44 : sh_x q41.2.2.2 := j_shE c43 hs
        exact J_iret rfl dX9_note_33 ⟨rfl, Nat.le_refl _⟩ (j_pW h)
abbrev JT_X9_forget (l : Launch) (G : j_G) (r : (Int32 × j_M)) : Nat → List (Nat × Value) → List Value → j_M → Prop := JJ l G md_X9_forget (j_rm 1 (0, 0)) (0, 0) (0, 0) (po (some (.int r.1)) r.2)
noncomputable def f_X9_forget (M : j_M)  : Option (Int32 × j_M) :=
  tl (j_sI M 17 11 (0 : Int32)) fun M1 => (some ((j_I M 17 11), M1))
set_option maxHeartbeats 4000000 in
theorem c_X9_forget {l : Launch} {G : j_G} {M : j_M}  (hs : sh_x M.2.2) {r : (Int32 × j_M)} (h : f_X9_forget M  = some r) : j_Sp l G md_X9_forget 1 (0, 0) [.ref 0] M (po (some (.int r.1)) r.2) := by
  refine j_Sp.of (by decide) (Nat.le_of_ble_eq_true rfl) ?_
  show JT_X9_forget l G r 0 [(0, .ref 0)] [] M
  unfold f_X9_forget at h
  refine J_aload_n (pc' := 1) (i := 0) (n := 0) dX9_forget_0 rfl rfl rfl ?_
  refine J_getR (pc' := 4) (b := 17) dX9_forget_1 rfl fl_X9_75 rfl (x_o hs) (x_n hs (Nat.le_of_ble_eq_true rfl)) (x_r0 hs) ?_
  refine J_getI (pc' := 7) dX9_forget_4 rfl fl_X9_242 rfl (b_o (x_b17 hs)) (b_no (x_b17 hs)) ?_
  refine J_istore_n (pc' := 8) (i := 1) (lv' := [(1, .int (j_I M 17 11)), (0, .ref 0)]) dX9_forget_7 rfl rfl (by decide) rfl ?_
  refine J_aload_n (pc' := 9) (i := 0) (n := 1) dX9_forget_8 rfl rfl rfl ?_
  refine J_getR (pc' := 12) (b := 17) dX9_forget_9 rfl fl_X9_75 rfl (x_o hs) (x_n hs (Nat.le_of_ble_eq_true rfl)) (x_r0 hs) ?_
  refine J_iconst (pc' := 13) (v := (0 : Int32)) dX9_forget_12 rfl ic_0 ?_
  obtain ⟨M1, e2, h⟩ := tl_inv h
  have g3 : sh_x M1.2.2 := j_shI e2 hs
  refine J_putIe (pc' := 16) dX9_forget_13 rfl fl_X9_242 ⟨rfl, rfl, rfl⟩ (b_o (x_b17 hs)) (b_no (x_b17 hs)) e2 ?_
  refine J_iload_n (pc' := 17) (i := 1) (n := 0) dX9_forget_16 rfl rfl rfl ?_
  exact J_iret rfl dX9_forget_17 ⟨rfl, Nat.le_refl _⟩ (j_pW h)
abbrev JT_X9_kindsThatFit (l : Launch) (G : j_G) (M : j_M) (r : Int32) : Nat → List (Nat × Value) → List Value → j_M → Prop := JJ l G md_X9_kindsThatFit (j_rm 6 (0, 0)) (0, 0) (0, 0) (po (some (.int r)) M)
noncomputable def f_X9_kindsThatFit_L4 : Nat → j_M → Int32 → Int32 → Int32 → (Int32 → Int32 → Option Int32) → Option Int32
  | 0, _, _, _, _, _ => none
  | n + 1, M, x1, x2, x3, K =>
    if (6 : Int32) ≤ x3 then (K x2 x3) else (a_i M (17 + 4) 7 x1 fun v2 => ((f_X0_notesFit M 17 x1 x3 v2).bind fun v4 => (if v4 = 0 then (f_X9_kindsThatFit_L4 n  M x1 x2 (x3 + (1 : Int32)) K) else (f_X9_kindsThatFit_L4 n  M x1 (x2 ||| ((1 : Int32) <<< (x3 &&& 31))) (x3 + (1 : Int32)) K))))
noncomputable def f_X9_kindsThatFit (M : j_M) (x1 : Int32) : Option Int32 :=
  f_X9_kindsThatFit_L4 j_fu  M x1 (0 : Int32) (0 : Int32) (fun (y7 : Int32) (y8 : Int32) => (some y7))
set_option maxHeartbeats 4000000 in
theorem L_X9_kindsThatFit_L4 {l : Launch} {G : j_G}  {r : Int32} : ∀ (n : Nat) {x1 : Int32} {x2 : Int32} {x3 : Int32} {M : j_M} (hs : sh_x M.2.2) {K : Int32 → Int32 → Option Int32}, f_X9_kindsThatFit_L4 n  M x1 x2 x3 K = some r → (∀ (y2 : Int32) (y3 : Int32), K y2 y3 = some r → JT_X9_kindsThatFit l G M r 43 [(2, .int y2)] [] M) → JT_X9_kindsThatFit l G M r 4 [(0, .ref 0), (1, .int x1), (2, .int x2), (3, .int x3)] [] M := by
  intro n
  induction n with
  | zero =>
    intro x1 x2 x3 M hs K h hK
    rw [f_X9_kindsThatFit_L4] at h; cases h
  | succ n ih =>
    intro x1 x2 x3 M hs K h hK
    rw [f_X9_kindsThatFit_L4] at h
    refine J_iload_n (pc' := 5) (i := 3) (n := 3) dX9_kindsThatFit_4 rfl rfl rfl ?_
    refine J_bipush (pc' := 7) (v := (6 : Int32)) dX9_kindsThatFit_5 rfl bp_6 ?_
    refine J_icmp_ge (pc' := 10) (tgt := 43) dX9_kindsThatFit_7 rfl (by decide) (fun c1 => ?_) (fun c1 => ?_)
    · replace h := j_ip c1 h
      refine J_sub [2] (lv' := [(2, .int x2)]) rfl ?_
      exact hK x2 x3  h
    · replace h := j_iq c1 h
      refine J_aload_n (pc' := 11) (i := 0) (n := 0) dX9_kindsThatFit_10 rfl rfl rfl ?_
      refine J_getR (pc' := 14) (b := 17) dX9_kindsThatFit_11 rfl fl_X9_75 rfl (x_o hs) (x_n hs (Nat.le_of_ble_eq_true rfl)) (x_r0 hs) ?_
      refine J_iload_n (pc' := 15) (i := 1) (n := 1) dX9_kindsThatFit_14 rfl rfl rfl ?_
      refine J_iload_n (pc' := 16) (i := 3) (n := 3) dX9_kindsThatFit_15 rfl rfl rfl ?_
      refine J_aload_n (pc' := 17) (i := 0) (n := 0) dX9_kindsThatFit_16 rfl rfl rfl ?_
      refine J_getR (pc' := 20) (b := 17) dX9_kindsThatFit_17 rfl fl_X9_75 rfl (x_o hs) (x_n hs (Nat.le_of_ble_eq_true rfl)) (x_r0 hs) ?_
      refine J_getR (pc' := 23) (b := (17 + 4)) dX9_kindsThatFit_20 rfl fl_X9_172 rfl (b_o (x_b17 hs)) (b_no (x_b17 hs)) (b_r4 (x_b17 hs)) ?_
      refine J_iload_n (pc' := 24) (i := 1) (n := 1) dX9_kindsThatFit_23 rfl rfl rfl ?_
      obtain ⟨v2, e3, h⟩ := a_i_inv h
      refine J_ialde (pc' := 25) dX9_kindsThatFit_24 rfl (b_s4 (x_b17 hs)) (b_n (x_b17 hs) (Nat.le_of_ble_eq_true rfl)) e3 ?_
      obtain ⟨v4, e5, h⟩ := bi_inv h
      refine J_callVN (pc' := 28) (as := [.int x1, .int x3, .int v2]) (rest := []) dX9_kindsThatFit_25 rfl lk_X9_343 rfl 0 (by decide) rfl (b_o (x_b17 hs)) (b_no (x_b17 hs)) (c_X0_notesFit (x_b17 hs) e5) ⟨Nat.le_of_ble_eq_true rfl, Nat.le_of_ble_eq_true rfl⟩ (Nat.le_of_ble_eq_true rfl) ⟨Nat.le_of_ble_eq_true rfl, Nat.le_of_ble_eq_true rfl⟩ (j_kq ?_)
      refine J_if_eq (pc' := 31) (tgt := 37) dX9_kindsThatFit_28 rfl (by decide) (fun c6 => ?_) (fun c6 => ?_)
      · replace h := j_ip c6 h
        refine J_iinc (pc' := 40) (i := 3) (n := 3) (v := (x3 + (1 : Int32))) (lv' := [(3, .int (x3 + (1 : Int32))), (0, .ref 0), (1, .int x1), (2, .int x2)]) dX9_kindsThatFit_37 rfl rfl (j_inc _ _ rfl _) (by decide) rfl ?_
        refine J_goto (pc' := 4) dX9_kindsThatFit_40 (by decide) ?_
        refine J_sub [1, 2, 3, 0] (lv' := [(0, .ref 0), (1, .int x1), (2, .int x2), (3, .int (x3 + (1 : Int32)))]) rfl ?_
        exact ih hs h hK
      · replace h := j_iq c6 h
        refine J_iload_n (pc' := 32) (i := 2) (n := 2) dX9_kindsThatFit_31 rfl rfl rfl ?_
        refine J_iconst (pc' := 33) (v := (1 : Int32)) dX9_kindsThatFit_32 rfl ic_1 ?_
        refine J_iload_n (pc' := 34) (i := 3) (n := 3) dX9_kindsThatFit_33 rfl rfl rfl ?_
        refine J_ishl (pc' := 35) dX9_kindsThatFit_34 rfl ?_
        refine J_ior (pc' := 36) dX9_kindsThatFit_35 rfl ?_
        refine J_istore_n (pc' := 37) (i := 2) (lv' := [(2, .int (x2 ||| ((1 : Int32) <<< (x3 &&& 31)))), (0, .ref 0), (1, .int x1), (3, .int x3)]) dX9_kindsThatFit_36 rfl rfl (by decide) rfl ?_
        refine J_iinc (pc' := 40) (i := 3) (n := 3) (v := (x3 + (1 : Int32))) (lv' := [(3, .int (x3 + (1 : Int32))), (2, .int (x2 ||| ((1 : Int32) <<< (x3 &&& 31)))), (0, .ref 0), (1, .int x1)]) dX9_kindsThatFit_37 rfl rfl (j_inc _ _ rfl _) (by decide) rfl ?_
        refine J_goto (pc' := 4) dX9_kindsThatFit_40 (by decide) ?_
        refine J_sub [2, 3, 1, 0] (lv' := [(0, .ref 0), (1, .int x1), (2, .int (x2 ||| ((1 : Int32) <<< (x3 &&& 31)))), (3, .int (x3 + (1 : Int32)))]) rfl ?_
        exact ih hs h hK
set_option maxHeartbeats 4000000 in
theorem c_X9_kindsThatFit {l : Launch} {G : j_G} {M : j_M} {x1 : Int32} (hs : sh_x M.2.2) {r : Int32} (h : f_X9_kindsThatFit M x1 = some r) : j_Sp l G md_X9_kindsThatFit 6 (0, 0) [.ref 0, .int x1] M (po (some (.int r)) M) := by
  refine j_Sp.of (by decide) (Nat.le_of_ble_eq_true rfl) ?_
  show JT_X9_kindsThatFit l G M r 0 [(0, .ref 0), (1, .int x1)] [] M
  unfold f_X9_kindsThatFit at h
  refine J_iconst (pc' := 1) (v := (0 : Int32)) dX9_kindsThatFit_0 rfl ic_0 ?_
  refine J_istore_n (pc' := 2) (i := 2) (lv' := [(2, .int (0 : Int32)), (0, .ref 0), (1, .int x1)]) dX9_kindsThatFit_1 rfl rfl (by decide) rfl ?_
  refine J_iconst (pc' := 3) (v := (0 : Int32)) dX9_kindsThatFit_2 rfl ic_0 ?_
  refine J_istore_n (pc' := 4) (i := 3) (lv' := [(3, .int (0 : Int32)), (2, .int (0 : Int32)), (0, .ref 0), (1, .int x1)]) dX9_kindsThatFit_3 rfl rfl (by decide) rfl ?_
  refine J_sub [2, 3, 1, 0] (lv' := [(0, .ref 0), (1, .int x1), (2, .int (0 : Int32)), (3, .int (0 : Int32))]) rfl ?_
  refine L_X9_kindsThatFit_L4 j_fu hs h (fun y7 y8 h => ?_)
  refine J_iload_n (pc' := 44) (i := 2) (n := 0) dX9_kindsThatFit_43 rfl rfl rfl ?_
  exact J_iret rfl dX9_kindsThatFit_44 ⟨rfl, Nat.le_refl _⟩ (j_pIs h)
abbrev JT_X9_pacesThatFit (l : Launch) (G : j_G) (M : j_M) (r : Int32) : Nat → List (Nat × Value) → List Value → j_M → Prop := JJ l G md_X9_pacesThatFit (j_rm 6 (0, 0)) (0, 0) (0, 0) (po (some (.int r)) M)
noncomputable def f_X9_pacesThatFit_L5 : Nat → j_M → Int32 → Int32 → Int32 → (Int32 → Int32 → Option Int32) → Option Int32
  | 0, _, _, _, _, _ => none
  | n + 1, M, x1, x2, x3, K =>
    if (90 : Int32) < x3 then (K x2 x3) else (a_i M (17 + 3) 7 x1 fun v2 => ((f_X0_notesFit M 17 x1 v2 x3).bind fun v4 => (if v4 = 0 then (f_X9_pacesThatFit_L5 n  M x1 x2 (x3 + (1 : Int32)) K) else (f_X9_pacesThatFit_L5 n  M x1 (x2 + (1 : Int32)) (x3 + (1 : Int32)) K))))
noncomputable def f_X9_pacesThatFit (M : j_M) (x1 : Int32) : Option Int32 :=
  f_X9_pacesThatFit_L5 j_fu  M x1 (0 : Int32) (20 : Int32) (fun (y7 : Int32) (y8 : Int32) => (some y7))
set_option maxHeartbeats 4000000 in
theorem L_X9_pacesThatFit_L5 {l : Launch} {G : j_G}  {r : Int32} : ∀ (n : Nat) {x1 : Int32} {x2 : Int32} {x3 : Int32} {M : j_M} (hs : sh_x M.2.2) {K : Int32 → Int32 → Option Int32}, f_X9_pacesThatFit_L5 n  M x1 x2 x3 K = some r → (∀ (y2 : Int32) (y3 : Int32), K y2 y3 = some r → JT_X9_pacesThatFit l G M r 41 [(2, .int y2)] [] M) → JT_X9_pacesThatFit l G M r 5 [(0, .ref 0), (1, .int x1), (2, .int x2), (3, .int x3)] [] M := by
  intro n
  induction n with
  | zero =>
    intro x1 x2 x3 M hs K h hK
    rw [f_X9_pacesThatFit_L5] at h; cases h
  | succ n ih =>
    intro x1 x2 x3 M hs K h hK
    rw [f_X9_pacesThatFit_L5] at h
    refine J_iload_n (pc' := 6) (i := 3) (n := 3) dX9_pacesThatFit_5 rfl rfl rfl ?_
    refine J_bipush (pc' := 8) (v := (90 : Int32)) dX9_pacesThatFit_6 rfl bp_90 ?_
    refine J_icmp_gt (pc' := 11) (tgt := 41) dX9_pacesThatFit_8 rfl (by decide) (fun c1 => ?_) (fun c1 => ?_)
    · replace h := j_ip c1 h
      refine J_sub [2] (lv' := [(2, .int x2)]) rfl ?_
      exact hK x2 x3  h
    · replace h := j_iq c1 h
      refine J_aload_n (pc' := 12) (i := 0) (n := 0) dX9_pacesThatFit_11 rfl rfl rfl ?_
      refine J_getR (pc' := 15) (b := 17) dX9_pacesThatFit_12 rfl fl_X9_75 rfl (x_o hs) (x_n hs (Nat.le_of_ble_eq_true rfl)) (x_r0 hs) ?_
      refine J_iload_n (pc' := 16) (i := 1) (n := 1) dX9_pacesThatFit_15 rfl rfl rfl ?_
      refine J_aload_n (pc' := 17) (i := 0) (n := 0) dX9_pacesThatFit_16 rfl rfl rfl ?_
      refine J_getR (pc' := 20) (b := 17) dX9_pacesThatFit_17 rfl fl_X9_75 rfl (x_o hs) (x_n hs (Nat.le_of_ble_eq_true rfl)) (x_r0 hs) ?_
      refine J_getR (pc' := 23) (b := (17 + 3)) dX9_pacesThatFit_20 rfl fl_X9_169 rfl (b_o (x_b17 hs)) (b_no (x_b17 hs)) (b_r3 (x_b17 hs)) ?_
      refine J_iload_n (pc' := 24) (i := 1) (n := 1) dX9_pacesThatFit_23 rfl rfl rfl ?_
      obtain ⟨v2, e3, h⟩ := a_i_inv h
      refine J_ialde (pc' := 25) dX9_pacesThatFit_24 rfl (b_s3 (x_b17 hs)) (b_n (x_b17 hs) (Nat.le_of_ble_eq_true rfl)) e3 ?_
      refine J_iload_n (pc' := 26) (i := 3) (n := 3) dX9_pacesThatFit_25 rfl rfl rfl ?_
      obtain ⟨v4, e5, h⟩ := bi_inv h
      refine J_callVN (pc' := 29) (as := [.int x1, .int v2, .int x3]) (rest := []) dX9_pacesThatFit_26 rfl lk_X9_343 rfl 0 (by decide) rfl (b_o (x_b17 hs)) (b_no (x_b17 hs)) (c_X0_notesFit (x_b17 hs) e5) ⟨Nat.le_of_ble_eq_true rfl, Nat.le_of_ble_eq_true rfl⟩ (Nat.le_of_ble_eq_true rfl) ⟨Nat.le_of_ble_eq_true rfl, Nat.le_of_ble_eq_true rfl⟩ (j_kq ?_)
      refine J_if_eq (pc' := 32) (tgt := 35) dX9_pacesThatFit_29 rfl (by decide) (fun c6 => ?_) (fun c6 => ?_)
      · replace h := j_ip c6 h
        refine J_iinc (pc' := 38) (i := 3) (n := 3) (v := (x3 + (1 : Int32))) (lv' := [(3, .int (x3 + (1 : Int32))), (0, .ref 0), (1, .int x1), (2, .int x2)]) dX9_pacesThatFit_35 rfl rfl (j_inc _ _ rfl _) (by decide) rfl ?_
        refine J_goto (pc' := 5) dX9_pacesThatFit_38 (by decide) ?_
        refine J_sub [1, 2, 3, 0] (lv' := [(0, .ref 0), (1, .int x1), (2, .int x2), (3, .int (x3 + (1 : Int32)))]) rfl ?_
        exact ih hs h hK
      · replace h := j_iq c6 h
        refine J_iinc (pc' := 35) (i := 2) (n := 2) (v := (x2 + (1 : Int32))) (lv' := [(2, .int (x2 + (1 : Int32))), (0, .ref 0), (1, .int x1), (3, .int x3)]) dX9_pacesThatFit_32 rfl rfl (j_inc _ _ rfl _) (by decide) rfl ?_
        refine J_iinc (pc' := 38) (i := 3) (n := 3) (v := (x3 + (1 : Int32))) (lv' := [(3, .int (x3 + (1 : Int32))), (2, .int (x2 + (1 : Int32))), (0, .ref 0), (1, .int x1)]) dX9_pacesThatFit_35 rfl rfl (j_inc _ _ rfl _) (by decide) rfl ?_
        refine J_goto (pc' := 5) dX9_pacesThatFit_38 (by decide) ?_
        refine J_sub [2, 3, 1, 0] (lv' := [(0, .ref 0), (1, .int x1), (2, .int (x2 + (1 : Int32))), (3, .int (x3 + (1 : Int32)))]) rfl ?_
        exact ih hs h hK
set_option maxHeartbeats 4000000 in
theorem c_X9_pacesThatFit {l : Launch} {G : j_G} {M : j_M} {x1 : Int32} (hs : sh_x M.2.2) {r : Int32} (h : f_X9_pacesThatFit M x1 = some r) : j_Sp l G md_X9_pacesThatFit 6 (0, 0) [.ref 0, .int x1] M (po (some (.int r)) M) := by
  refine j_Sp.of (by decide) (Nat.le_of_ble_eq_true rfl) ?_
  show JT_X9_pacesThatFit l G M r 0 [(0, .ref 0), (1, .int x1)] [] M
  unfold f_X9_pacesThatFit at h
  refine J_iconst (pc' := 1) (v := (0 : Int32)) dX9_pacesThatFit_0 rfl ic_0 ?_
  refine J_istore_n (pc' := 2) (i := 2) (lv' := [(2, .int (0 : Int32)), (0, .ref 0), (1, .int x1)]) dX9_pacesThatFit_1 rfl rfl (by decide) rfl ?_
  refine J_bipush (pc' := 4) (v := (20 : Int32)) dX9_pacesThatFit_2 rfl bp_20 ?_
  refine J_istore_n (pc' := 5) (i := 3) (lv' := [(3, .int (20 : Int32)), (2, .int (0 : Int32)), (0, .ref 0), (1, .int x1)]) dX9_pacesThatFit_4 rfl rfl (by decide) rfl ?_
  refine J_sub [2, 3, 1, 0] (lv' := [(0, .ref 0), (1, .int x1), (2, .int (0 : Int32)), (3, .int (20 : Int32))]) rfl ?_
  refine L_X9_pacesThatFit_L5 j_fu hs h (fun y7 y8 h => ?_)
  refine J_iload_n (pc' := 42) (i := 2) (n := 0) dX9_pacesThatFit_41 rfl rfl rfl ?_
  exact J_iret rfl dX9_pacesThatFit_42 ⟨rfl, Nat.le_refl _⟩ (j_pIs h)
abbrev JT_X9_is (l : Launch) (G : j_G) (r : (Int32 × j_M)) : Nat → List (Nat × Value) → List Value → j_M → Prop := JJ l G md_X9_is (j_rm 7 (0, 0)) (0, 0) (0, 0) (po (some (.int r.1)) r.2)
noncomputable def f_X9_is (M : j_M) (x1 : Int32) (x2 : Int32) : Option (Int32 × j_M) :=
  tl (f_X9_isOne M x1) fun v1 => (if v1 = 0 then ((f_X9_bad M).bind fun q4 => j_ck M q4.2 (some (q4.1, q4.2))) else (tl (f_X9_within x2 (0 : Int32) (1 : Int32)) fun v8 => (if v8 = 0 then ((f_X9_bad M).bind fun q16 => j_ck M q16.2 (some (q16.1, q16.2))) else (if x2 = 0 then ((f_X9_kindsThatFit M x1).bind fun v14 => (some (v14, M))) else ((f_X9_pacesThatFit M x1).bind fun v12 => (some (v12, M)))))))
set_option maxHeartbeats 4000000 in
theorem c_X9_is {l : Launch} {G : j_G} {M : j_M} {x1 : Int32} {x2 : Int32} (hs : sh_x M.2.2) {r : (Int32 × j_M)} (h : f_X9_is M x1 x2 = some r) : j_Sp l G md_X9_is 7 (0, 0) [.ref 0, .int x1, .int x2] M (po (some (.int r.1)) r.2) := by
  refine j_Sp.of (by decide) (Nat.le_of_ble_eq_true rfl) ?_
  show JT_X9_is l G r 0 [(0, .ref 0), (1, .int x1), (2, .int x2)] [] M
  unfold f_X9_is at h
  refine J_aload_n (pc' := 1) (i := 0) (n := 0) dX9_is_0 rfl rfl rfl ?_
  refine J_iload_n (pc' := 2) (i := 1) (n := 1) dX9_is_1 rfl rfl rfl ?_
  obtain ⟨v1, e2, h⟩ := tl_inv h
  refine J_callV (pc' := 5) (as := [.int x1]) (rest := []) dX9_is_2 rfl lk_X9_153 rfl 9 (by decide) rfl (x_o hs) (x_n hs (Nat.le_of_ble_eq_true rfl)) (c_X9_isOne hs e2) ⟨Nat.le_of_ble_eq_true rfl, Nat.le_of_ble_eq_true rfl⟩ (Nat.le_of_ble_eq_true rfl) ⟨Nat.le_of_ble_eq_true rfl, Nat.le_of_ble_eq_true rfl⟩ (j_kq ?_)
  refine J_if_eq (pc' := 8) (tgt := 17) dX9_is_5 rfl (by decide) (fun c3 => ?_) (fun c3 => ?_)
  · replace h := j_ip c3 h
    refine J_aload_n (pc' := 18) (i := 0) (n := 0) dX9_is_17 rfl rfl rfl ?_
    obtain ⟨q4, e5, h⟩ := bi_inv h
    obtain ⟨c6, h⟩ := j_ck_inv h
    refine J_callV (pc' := 21) (as := []) (rest := []) dX9_is_18 rfl lk_X9_96 rfl 9 (by decide) rfl (x_o hs) (x_n hs (Nat.le_of_ble_eq_true rfl)) (c_X9_bad hs e5) ⟨Nat.le_of_ble_eq_true rfl, Nat.le_of_ble_eq_true rfl⟩ (Nat.le_of_ble_eq_true rfl) ⟨Nat.le_of_ble_eq_true rfl, Nat.le_of_ble_eq_true rfl⟩ (j_kq ?_)
    have g7 : sh_x q4.2.2.2 := j_shE c6 hs
    exact J_iret rfl dX9_is_21 ⟨rfl, Nat.le_refl _⟩ (j_pW h)
  · replace h := j_iq c3 h
    refine J_iload_n (pc' := 9) (i := 2) (n := 2) dX9_is_8 rfl rfl rfl ?_
    refine J_iconst (pc' := 10) (v := (0 : Int32)) dX9_is_9 rfl ic_0 ?_
    refine J_iconst (pc' := 11) (v := (1 : Int32)) dX9_is_10 rfl ic_1 ?_
    obtain ⟨v8, e9, h⟩ := tl_inv h
    refine J_callS (pc' := 14) (as := [.int x2, .int (0 : Int32), .int (1 : Int32)]) (rest := []) dX9_is_11 rfl lk_X9_92 rfl (c_X9_within e9) ⟨Nat.le_of_ble_eq_true rfl, Nat.le_of_ble_eq_true rfl⟩ (Nat.le_of_ble_eq_true rfl) ⟨Nat.le_of_ble_eq_true rfl, Nat.le_of_ble_eq_true rfl⟩ (j_kq ?_)
    refine J_if_ne (pc' := 17) (tgt := 22) dX9_is_14 rfl (by decide) (fun c10 => ?_) (fun c10 => ?_)
    · replace h := j_iq c10 h
      refine J_iload_n (pc' := 23) (i := 2) (n := 2) dX9_is_22 rfl rfl rfl ?_
      refine J_if_ne (pc' := 26) (tgt := 34) dX9_is_23 rfl (by decide) (fun c11 => ?_) (fun c11 => ?_)
      · replace h := j_iq c11 h
        refine J_aload_n (pc' := 35) (i := 0) (n := 0) dX9_is_34 rfl rfl rfl ?_
        refine J_iload_n (pc' := 36) (i := 1) (n := 1) dX9_is_35 rfl rfl rfl ?_
        obtain ⟨v12, e13, h⟩ := bi_inv h
        refine J_callV (pc' := 39) (as := [.int x1]) (rest := []) dX9_is_36 rfl lk_X9_252 rfl 9 (by decide) rfl (x_o hs) (x_n hs (Nat.le_of_ble_eq_true rfl)) (c_X9_pacesThatFit hs e13) ⟨Nat.le_of_ble_eq_true rfl, Nat.le_of_ble_eq_true rfl⟩ (Nat.le_of_ble_eq_true rfl) ⟨Nat.le_of_ble_eq_true rfl, Nat.le_of_ble_eq_true rfl⟩ (j_kq ?_)
        exact J_iret rfl dX9_is_39 ⟨rfl, Nat.le_refl _⟩ (j_pW h)
      · replace h := j_ip c11 h
        refine J_aload_n (pc' := 27) (i := 0) (n := 0) dX9_is_26 rfl rfl rfl ?_
        refine J_iload_n (pc' := 28) (i := 1) (n := 1) dX9_is_27 rfl rfl rfl ?_
        obtain ⟨v14, e15, h⟩ := bi_inv h
        refine J_callV (pc' := 31) (as := [.int x1]) (rest := []) dX9_is_28 rfl lk_X9_249 rfl 9 (by decide) rfl (x_o hs) (x_n hs (Nat.le_of_ble_eq_true rfl)) (c_X9_kindsThatFit hs e15) ⟨Nat.le_of_ble_eq_true rfl, Nat.le_of_ble_eq_true rfl⟩ (Nat.le_of_ble_eq_true rfl) ⟨Nat.le_of_ble_eq_true rfl, Nat.le_of_ble_eq_true rfl⟩ (j_kq ?_)
        refine J_goto (pc' := 39) dX9_is_31 (by decide) ?_
        exact J_iret rfl dX9_is_39 ⟨rfl, Nat.le_refl _⟩ (j_pW h)
    · replace h := j_ip c10 h
      refine J_aload_n (pc' := 18) (i := 0) (n := 0) dX9_is_17 rfl rfl rfl ?_
      obtain ⟨q16, e17, h⟩ := bi_inv h
      obtain ⟨c18, h⟩ := j_ck_inv h
      refine J_callV (pc' := 21) (as := []) (rest := []) dX9_is_18 rfl lk_X9_96 rfl 9 (by decide) rfl (x_o hs) (x_n hs (Nat.le_of_ble_eq_true rfl)) (c_X9_bad hs e17) ⟨Nat.le_of_ble_eq_true rfl, Nat.le_of_ble_eq_true rfl⟩ (Nat.le_of_ble_eq_true rfl) ⟨Nat.le_of_ble_eq_true rfl, Nat.le_of_ble_eq_true rfl⟩ (j_kq ?_)
      have g19 : sh_x q16.2.2.2 := j_shE c18 hs
      exact J_iret rfl dX9_is_21 ⟨rfl, Nat.le_refl _⟩ (j_pW h)
abbrev JT_X9_howManyAlike (l : Launch) (G : j_G) (M : j_M) (r : Int32) : Nat → List (Nat × Value) → List Value → j_M → Prop := JJ l G md_X9_howManyAlike (j_rm 6 (0, 0)) (0, 0) (0, 0) (po (some (.int r)) M)
noncomputable def f_X9_howManyAlike_L6 : Nat → j_M → Int32 → Int32 → Int32 → Int32 → Int32 → Int32 → (Int32 → Int32 → Option Int32) → Option Int32
  | 0, _, _, _, _, _, _, _, _ => none
  | n + 1, M, x1, x2, x3, x4, x5, x6, K =>
    if (6 : Int32) ≤ x6 then (K x5 x6) else (tl (f_X9_has x2 x6) fun v2 => (if v2 = 0 then (f_X9_howManyAlike_L6 n  M x1 x2 x3 x4 x5 (x6 + (1 : Int32)) K) else ((f_X0_takesAs M 17 x6 x1 x3).bind fun v5 => (if v5 = x4 then (f_X9_howManyAlike_L6 n  M x1 x2 x3 x4 (x5 + (1 : Int32)) (x6 + (1 : Int32)) K) else (f_X9_howManyAlike_L6 n  M x1 x2 x3 x4 x5 (x6 + (1 : Int32)) K)))))
noncomputable def f_X9_howManyAlike (M : j_M) (x1 : Int32) (x2 : Int32) (x3 : Int32) (x4 : Int32) : Option Int32 :=
  f_X9_howManyAlike_L6 j_fu  M x1 x2 x3 x4 (0 : Int32) (0 : Int32) (fun (y8 : Int32) (y9 : Int32) => (some y8))
set_option maxHeartbeats 4000000 in
theorem L_X9_howManyAlike_L6 {l : Launch} {G : j_G}  {r : Int32} : ∀ (n : Nat) {x1 : Int32} {x2 : Int32} {x3 : Int32} {x4 : Int32} {x5 : Int32} {x6 : Int32} {M : j_M} (hs : sh_x M.2.2) {K : Int32 → Int32 → Option Int32}, f_X9_howManyAlike_L6 n  M x1 x2 x3 x4 x5 x6 K = some r → (∀ (y5 : Int32) (y6 : Int32), K y5 y6 = some r → JT_X9_howManyAlike l G M r 47 [(5, .int y5)] [] M) → JT_X9_howManyAlike l G M r 6 [(0, .ref 0), (1, .int x1), (2, .int x2), (3, .int x3), (4, .int x4), (5, .int x5), (6, .int x6)] [] M := by
  intro n
  induction n with
  | zero =>
    intro x1 x2 x3 x4 x5 x6 M hs K h hK
    rw [f_X9_howManyAlike_L6] at h; cases h
  | succ n ih =>
    intro x1 x2 x3 x4 x5 x6 M hs K h hK
    rw [f_X9_howManyAlike_L6] at h
    refine J_iload (pc' := 8) (i := 6) (n := 6) dX9_howManyAlike_6 rfl rfl ?_
    refine J_bipush (pc' := 10) (v := (6 : Int32)) dX9_howManyAlike_8 rfl bp_6 ?_
    refine J_icmp_ge (pc' := 13) (tgt := 47) dX9_howManyAlike_10 rfl (by decide) (fun c1 => ?_) (fun c1 => ?_)
    · replace h := j_ip c1 h
      refine J_sub [5] (lv' := [(5, .int x5)]) rfl ?_
      exact hK x5 x6  h
    · replace h := j_iq c1 h
      refine J_iload_n (pc' := 14) (i := 2) (n := 2) dX9_howManyAlike_13 rfl rfl rfl ?_
      refine J_iload (pc' := 16) (i := 6) (n := 6) dX9_howManyAlike_14 rfl rfl ?_
      obtain ⟨v2, e3, h⟩ := tl_inv h
      refine J_callS (pc' := 19) (as := [.int x2, .int x6]) (rest := []) dX9_howManyAlike_16 rfl lk_X9_314 rfl (c_X9_has e3) ⟨Nat.le_of_ble_eq_true rfl, Nat.le_of_ble_eq_true rfl⟩ (Nat.le_of_ble_eq_true rfl) ⟨Nat.le_of_ble_eq_true rfl, Nat.le_of_ble_eq_true rfl⟩ (j_kq ?_)
      refine J_if_eq (pc' := 22) (tgt := 41) dX9_howManyAlike_19 rfl (by decide) (fun c4 => ?_) (fun c4 => ?_)
      · replace h := j_ip c4 h
        refine J_iinc (pc' := 44) (i := 6) (n := 6) (v := (x6 + (1 : Int32))) (lv' := [(6, .int (x6 + (1 : Int32))), (0, .ref 0), (1, .int x1), (2, .int x2), (3, .int x3), (4, .int x4), (5, .int x5)]) dX9_howManyAlike_41 rfl rfl (j_inc _ _ rfl _) (by decide) rfl ?_
        refine J_goto (pc' := 6) dX9_howManyAlike_44 (by decide) ?_
        refine J_sub [1, 2, 3, 4, 5, 6, 0] (lv' := [(0, .ref 0), (1, .int x1), (2, .int x2), (3, .int x3), (4, .int x4), (5, .int x5), (6, .int (x6 + (1 : Int32)))]) rfl ?_
        exact ih hs h hK
      · replace h := j_iq c4 h
        refine J_aload_n (pc' := 23) (i := 0) (n := 0) dX9_howManyAlike_22 rfl rfl rfl ?_
        refine J_getR (pc' := 26) (b := 17) dX9_howManyAlike_23 rfl fl_X9_75 rfl (x_o hs) (x_n hs (Nat.le_of_ble_eq_true rfl)) (x_r0 hs) ?_
        refine J_iload (pc' := 28) (i := 6) (n := 6) dX9_howManyAlike_26 rfl rfl ?_
        refine J_iload_n (pc' := 29) (i := 1) (n := 1) dX9_howManyAlike_28 rfl rfl rfl ?_
        refine J_iload_n (pc' := 30) (i := 3) (n := 3) dX9_howManyAlike_29 rfl rfl rfl ?_
        obtain ⟨v5, e6, h⟩ := bi_inv h
        refine J_callVN (pc' := 33) (as := [.int x6, .int x1, .int x3]) (rest := []) dX9_howManyAlike_30 rfl lk_X9_349 rfl 0 (by decide) rfl (b_o (x_b17 hs)) (b_no (x_b17 hs)) (c_X0_takesAs (x_b17 hs) e6) ⟨Nat.le_of_ble_eq_true rfl, Nat.le_of_ble_eq_true rfl⟩ (Nat.le_of_ble_eq_true rfl) ⟨Nat.le_of_ble_eq_true rfl, Nat.le_of_ble_eq_true rfl⟩ (j_kq ?_)
        refine J_iload (pc' := 35) (i := 4) (n := 4) dX9_howManyAlike_33 rfl rfl ?_
        refine J_icmp_ne (pc' := 38) (tgt := 41) dX9_howManyAlike_35 rfl (by decide) (fun c7 => ?_) (fun c7 => ?_)
        · replace h := j_iq c7 h
          refine J_iinc (pc' := 44) (i := 6) (n := 6) (v := (x6 + (1 : Int32))) (lv' := [(6, .int (x6 + (1 : Int32))), (0, .ref 0), (1, .int x1), (2, .int x2), (3, .int x3), (4, .int x4), (5, .int x5)]) dX9_howManyAlike_41 rfl rfl (j_inc _ _ rfl _) (by decide) rfl ?_
          refine J_goto (pc' := 6) dX9_howManyAlike_44 (by decide) ?_
          refine J_sub [1, 2, 3, 4, 5, 6, 0] (lv' := [(0, .ref 0), (1, .int x1), (2, .int x2), (3, .int x3), (4, .int x4), (5, .int x5), (6, .int (x6 + (1 : Int32)))]) rfl ?_
          exact ih hs h hK
        · replace h := j_ip c7 h
          refine J_iinc (pc' := 41) (i := 5) (n := 5) (v := (x5 + (1 : Int32))) (lv' := [(5, .int (x5 + (1 : Int32))), (0, .ref 0), (1, .int x1), (2, .int x2), (3, .int x3), (4, .int x4), (6, .int x6)]) dX9_howManyAlike_38 rfl rfl (j_inc _ _ rfl _) (by decide) rfl ?_
          refine J_iinc (pc' := 44) (i := 6) (n := 6) (v := (x6 + (1 : Int32))) (lv' := [(6, .int (x6 + (1 : Int32))), (5, .int (x5 + (1 : Int32))), (0, .ref 0), (1, .int x1), (2, .int x2), (3, .int x3), (4, .int x4)]) dX9_howManyAlike_41 rfl rfl (j_inc _ _ rfl _) (by decide) rfl ?_
          refine J_goto (pc' := 6) dX9_howManyAlike_44 (by decide) ?_
          refine J_sub [2, 3, 4, 5, 6, 1, 0] (lv' := [(0, .ref 0), (1, .int x1), (2, .int x2), (3, .int x3), (4, .int x4), (5, .int (x5 + (1 : Int32))), (6, .int (x6 + (1 : Int32)))]) rfl ?_
          exact ih hs h hK
set_option maxHeartbeats 4000000 in
theorem c_X9_howManyAlike {l : Launch} {G : j_G} {M : j_M} {x1 : Int32} {x2 : Int32} {x3 : Int32} {x4 : Int32} (hs : sh_x M.2.2) {r : Int32} (h : f_X9_howManyAlike M x1 x2 x3 x4 = some r) : j_Sp l G md_X9_howManyAlike 6 (0, 0) [.ref 0, .int x1, .int x2, .int x3, .int x4] M (po (some (.int r)) M) := by
  refine j_Sp.of (by decide) (Nat.le_of_ble_eq_true rfl) ?_
  show JT_X9_howManyAlike l G M r 0 [(0, .ref 0), (1, .int x1), (2, .int x2), (3, .int x3), (4, .int x4)] [] M
  unfold f_X9_howManyAlike at h
  refine J_iconst (pc' := 1) (v := (0 : Int32)) dX9_howManyAlike_0 rfl ic_0 ?_
  refine J_istore (pc' := 3) (i := 5) (lv' := [(5, .int (0 : Int32)), (0, .ref 0), (1, .int x1), (2, .int x2), (3, .int x3), (4, .int x4)]) dX9_howManyAlike_1 rfl (by decide) rfl ?_
  refine J_iconst (pc' := 4) (v := (0 : Int32)) dX9_howManyAlike_3 rfl ic_0 ?_
  refine J_istore (pc' := 6) (i := 6) (lv' := [(6, .int (0 : Int32)), (5, .int (0 : Int32)), (0, .ref 0), (1, .int x1), (2, .int x2), (3, .int x3), (4, .int x4)]) dX9_howManyAlike_4 rfl (by decide) rfl ?_
  refine J_sub [2, 3, 4, 5, 6, 1, 0] (lv' := [(0, .ref 0), (1, .int x1), (2, .int x2), (3, .int x3), (4, .int x4), (5, .int (0 : Int32)), (6, .int (0 : Int32))]) rfl ?_
  refine L_X9_howManyAlike_L6 j_fu hs h (fun y8 y9 h => ?_)
  refine J_iload (pc' := 49) (i := 5) (n := 0) dX9_howManyAlike_47 rfl rfl ?_
  exact J_iret rfl dX9_howManyAlike_49 ⟨rfl, Nat.le_refl _⟩ (j_pIs h)
abbrev JT_X9_mostAlike (l : Launch) (G : j_G) (M : j_M) (r : Int32) : Nat → List (Nat × Value) → List Value → j_M → Prop := JJ l G md_X9_mostAlike (j_rm 7 (0, 0)) (0, 0) (0, 0) (po (some (.int r)) M)
noncomputable def f_X9_mostAlike_L6 : Nat → j_M → Int32 → Int32 → Int32 → Int32 → Int32 → (Int32 → Int32 → Option Int32) → Option Int32
  | 0, _, _, _, _, _, _, _ => none
  | n + 1, M, x1, x2, x3, x4, x5, K =>
    if (6 : Int32) ≤ x5 then (K x4 x5) else (tl (f_X9_has x2 x5) fun v2 => (if v2 = 0 then (f_X9_mostAlike_L6 n  M x1 x2 x3 x4 (x5 + (1 : Int32)) K) else ((f_X0_takesAs M 17 x5 x1 x3).bind fun v5 => ((f_X9_howManyAlike M x1 x2 x3 v5).bind fun v7 => (tl (if x4 < v7 then v7 else x4) fun v9 => (f_X9_mostAlike_L6 n  M x1 x2 x3 v9 (x5 + (1 : Int32)) K))))))
noncomputable def f_X9_mostAlike (M : j_M) (x1 : Int32) (x2 : Int32) (x3 : Int32) : Option Int32 :=
  f_X9_mostAlike_L6 j_fu  M x1 x2 x3 (0 : Int32) (0 : Int32) (fun (y11 : Int32) (y12 : Int32) => (some y11))
set_option maxHeartbeats 4000000 in
theorem L_X9_mostAlike_L6 {l : Launch} {G : j_G}  {r : Int32} : ∀ (n : Nat) {x1 : Int32} {x2 : Int32} {x3 : Int32} {x4 : Int32} {x5 : Int32} {M : j_M} (hs : sh_x M.2.2) {K : Int32 → Int32 → Option Int32}, f_X9_mostAlike_L6 n  M x1 x2 x3 x4 x5 K = some r → (∀ (y4 : Int32) (y5 : Int32), K y4 y5 = some r → JT_X9_mostAlike l G M r 53 [(4, .int y4)] [] M) → JT_X9_mostAlike l G M r 6 [(0, .ref 0), (1, .int x1), (2, .int x2), (3, .int x3), (4, .int x4), (5, .int x5)] [] M := by
  intro n
  induction n with
  | zero =>
    intro x1 x2 x3 x4 x5 M hs K h hK
    rw [f_X9_mostAlike_L6] at h; cases h
  | succ n ih =>
    intro x1 x2 x3 x4 x5 M hs K h hK
    rw [f_X9_mostAlike_L6] at h
    refine J_iload (pc' := 8) (i := 5) (n := 5) dX9_mostAlike_6 rfl rfl ?_
    refine J_bipush (pc' := 10) (v := (6 : Int32)) dX9_mostAlike_8 rfl bp_6 ?_
    refine J_icmp_ge (pc' := 13) (tgt := 53) dX9_mostAlike_10 rfl (by decide) (fun c1 => ?_) (fun c1 => ?_)
    · replace h := j_ip c1 h
      refine J_sub [4] (lv' := [(4, .int x4)]) rfl ?_
      exact hK x4 x5  h
    · replace h := j_iq c1 h
      refine J_iload_n (pc' := 14) (i := 2) (n := 2) dX9_mostAlike_13 rfl rfl rfl ?_
      refine J_iload (pc' := 16) (i := 5) (n := 5) dX9_mostAlike_14 rfl rfl ?_
      obtain ⟨v2, e3, h⟩ := tl_inv h
      refine J_callS (pc' := 19) (as := [.int x2, .int x5]) (rest := []) dX9_mostAlike_16 rfl lk_X9_314 rfl (c_X9_has e3) ⟨Nat.le_of_ble_eq_true rfl, Nat.le_of_ble_eq_true rfl⟩ (Nat.le_of_ble_eq_true rfl) ⟨Nat.le_of_ble_eq_true rfl, Nat.le_of_ble_eq_true rfl⟩ (j_kq ?_)
      refine J_if_eq (pc' := 22) (tgt := 47) dX9_mostAlike_19 rfl (by decide) (fun c4 => ?_) (fun c4 => ?_)
      · replace h := j_ip c4 h
        refine J_iinc (pc' := 50) (i := 5) (n := 5) (v := (x5 + (1 : Int32))) (lv' := [(5, .int (x5 + (1 : Int32))), (0, .ref 0), (1, .int x1), (2, .int x2), (3, .int x3), (4, .int x4)]) dX9_mostAlike_47 rfl rfl (j_inc _ _ rfl _) (by decide) rfl ?_
        refine J_goto (pc' := 6) dX9_mostAlike_50 (by decide) ?_
        refine J_sub [1, 2, 3, 4, 5, 0] (lv' := [(0, .ref 0), (1, .int x1), (2, .int x2), (3, .int x3), (4, .int x4), (5, .int (x5 + (1 : Int32)))]) rfl ?_
        exact ih hs h hK
      · replace h := j_iq c4 h
        refine J_iload (pc' := 24) (i := 4) (n := 4) dX9_mostAlike_22 rfl rfl ?_
        refine J_aload_n (pc' := 25) (i := 0) (n := 0) dX9_mostAlike_24 rfl rfl rfl ?_
        refine J_iload_n (pc' := 26) (i := 1) (n := 1) dX9_mostAlike_25 rfl rfl rfl ?_
        refine J_iload_n (pc' := 27) (i := 2) (n := 2) dX9_mostAlike_26 rfl rfl rfl ?_
        refine J_iload_n (pc' := 28) (i := 3) (n := 3) dX9_mostAlike_27 rfl rfl rfl ?_
        refine J_aload_n (pc' := 29) (i := 0) (n := 0) dX9_mostAlike_28 rfl rfl rfl ?_
        refine J_getR (pc' := 32) (b := 17) dX9_mostAlike_29 rfl fl_X9_75 rfl (x_o hs) (x_n hs (Nat.le_of_ble_eq_true rfl)) (x_r0 hs) ?_
        refine J_iload (pc' := 34) (i := 5) (n := 5) dX9_mostAlike_32 rfl rfl ?_
        refine J_iload_n (pc' := 35) (i := 1) (n := 1) dX9_mostAlike_34 rfl rfl rfl ?_
        refine J_iload_n (pc' := 36) (i := 3) (n := 3) dX9_mostAlike_35 rfl rfl rfl ?_
        obtain ⟨v5, e6, h⟩ := bi_inv h
        refine J_callVN (pc' := 39) (as := [.int x5, .int x1, .int x3]) (rest := [.int x3, .int x2, .int x1, .ref 0, .int x4]) dX9_mostAlike_36 rfl lk_X9_349 rfl 0 (by decide) rfl (b_o (x_b17 hs)) (b_no (x_b17 hs)) (c_X0_takesAs (x_b17 hs) e6) ⟨Nat.le_of_ble_eq_true rfl, Nat.le_of_ble_eq_true rfl⟩ (Nat.le_of_ble_eq_true rfl) ⟨Nat.le_of_ble_eq_true rfl, Nat.le_of_ble_eq_true rfl⟩ (j_kq ?_)
        obtain ⟨v7, e8, h⟩ := bi_inv h
        refine J_callV (pc' := 42) (as := [.int x1, .int x2, .int x3, .int v5]) (rest := [.int x4]) dX9_mostAlike_39 rfl lk_X9_352 rfl 9 (by decide) rfl (x_o hs) (x_n hs (Nat.le_of_ble_eq_true rfl)) (c_X9_howManyAlike hs e8) ⟨Nat.le_of_ble_eq_true rfl, Nat.le_of_ble_eq_true rfl⟩ (Nat.le_of_ble_eq_true rfl) ⟨Nat.le_of_ble_eq_true rfl, Nat.le_of_ble_eq_true rfl⟩ (j_kq ?_)
        obtain ⟨v9, e10, h⟩ := tl_inv h
        refine J_maxe (pc' := 45) dX9_mostAlike_42 rfl lk_X9_338 ⟨Nat.le_of_ble_eq_true rfl, Nat.le_of_ble_eq_true rfl, Nat.le_of_ble_eq_true rfl, Nat.le_of_ble_eq_true rfl⟩ e10 ?_
        refine J_istore (pc' := 47) (i := 4) (lv' := [(4, .int v9), (0, .ref 0), (1, .int x1), (2, .int x2), (3, .int x3), (5, .int x5)]) dX9_mostAlike_45 rfl (by decide) rfl ?_
        refine J_iinc (pc' := 50) (i := 5) (n := 5) (v := (x5 + (1 : Int32))) (lv' := [(5, .int (x5 + (1 : Int32))), (4, .int v9), (0, .ref 0), (1, .int x1), (2, .int x2), (3, .int x3)]) dX9_mostAlike_47 rfl rfl (j_inc _ _ rfl _) (by decide) rfl ?_
        refine J_goto (pc' := 6) dX9_mostAlike_50 (by decide) ?_
        refine J_sub [2, 3, 4, 5, 1, 0] (lv' := [(0, .ref 0), (1, .int x1), (2, .int x2), (3, .int x3), (4, .int v9), (5, .int (x5 + (1 : Int32)))]) rfl ?_
        exact ih hs h hK
set_option maxHeartbeats 4000000 in
theorem c_X9_mostAlike {l : Launch} {G : j_G} {M : j_M} {x1 : Int32} {x2 : Int32} {x3 : Int32} (hs : sh_x M.2.2) {r : Int32} (h : f_X9_mostAlike M x1 x2 x3 = some r) : j_Sp l G md_X9_mostAlike 7 (0, 0) [.ref 0, .int x1, .int x2, .int x3] M (po (some (.int r)) M) := by
  refine j_Sp.of (by decide) (Nat.le_of_ble_eq_true rfl) ?_
  show JT_X9_mostAlike l G M r 0 [(0, .ref 0), (1, .int x1), (2, .int x2), (3, .int x3)] [] M
  unfold f_X9_mostAlike at h
  refine J_iconst (pc' := 1) (v := (0 : Int32)) dX9_mostAlike_0 rfl ic_0 ?_
  refine J_istore (pc' := 3) (i := 4) (lv' := [(4, .int (0 : Int32)), (0, .ref 0), (1, .int x1), (2, .int x2), (3, .int x3)]) dX9_mostAlike_1 rfl (by decide) rfl ?_
  refine J_iconst (pc' := 4) (v := (0 : Int32)) dX9_mostAlike_3 rfl ic_0 ?_
  refine J_istore (pc' := 6) (i := 5) (lv' := [(5, .int (0 : Int32)), (4, .int (0 : Int32)), (0, .ref 0), (1, .int x1), (2, .int x2), (3, .int x3)]) dX9_mostAlike_4 rfl (by decide) rfl ?_
  refine J_sub [2, 3, 4, 5, 1, 0] (lv' := [(0, .ref 0), (1, .int x1), (2, .int x2), (3, .int x3), (4, .int (0 : Int32)), (5, .int (0 : Int32))]) rfl ?_
  refine L_X9_mostAlike_L6 j_fu hs h (fun y11 y12 h => ?_)
  refine J_iload (pc' := 55) (i := 4) (n := 0) dX9_mostAlike_53 rfl rfl ?_
  exact J_iret rfl dX9_mostAlike_55 ⟨rfl, Nat.le_refl _⟩ (j_pIs h)
abbrev JT_X9_tellingLane (l : Launch) (G : j_G) (r : (Int32 × j_M)) : Nat → List (Nat × Value) → List Value → j_M → Prop := JJ l G md_X9_tellingLane (j_rm 8 (0, 0)) (0, 0) (0, 0) (po (some (.int r.1)) r.2)
noncomputable def f_X9_tellingLane_L8 : Nat → j_M → Int32 → Int32 → Int32 → (Int32 → j_M → Option (Int32 × j_M)) → Option (Int32 × j_M)
  | 0, _, _, _, _, _ => none
  | n + 1, M, x1, x2, x3, K =>
    if (4 : Int32) ≤ x3 then (K x3 M) else ((f_X0_others M 17 (17 + 5) x1 x3).bind fun v3 => ((f_X9_mostAlike M x1 x2 v3).bind fun v5 => (w_i M (17 + 8) 4 x3 v5 fun M7 => (f_X9_tellingLane_L8 n  M7 x1 x2 (x3 + (1 : Int32)) K))))
noncomputable def f_X9_tellingLane (M : j_M) (x1 : Int32) (x2 : Int32) : Option (Int32 × j_M) :=
  if x2 = 0 then (some (((-1) : Int32), M)) else (f_X9_tellingLane_L8 j_fu  M x1 x2 (0 : Int32) (fun (y10 : Int32) (M11 : j_M) => ((f_X0_leastOpenLane M11 17).bind fun v13 => (some (v13, M11)))))
set_option maxHeartbeats 4000000 in
theorem L_X9_tellingLane_L8 {l : Launch} {G : j_G}  {r : (Int32 × j_M)} : ∀ (n : Nat) {x1 : Int32} {x2 : Int32} {x3 : Int32} {M : j_M} (hs : sh_x M.2.2) {K : Int32 → j_M → Option (Int32 × j_M)}, f_X9_tellingLane_L8 n  M x1 x2 x3 K = some r → (∀ (y3 : Int32) (M1 : j_M), sh_x M1.2.2 → K y3 M1 = some r → JT_X9_tellingLane l G r 50 [(0, .ref 0)] [] M1) → JT_X9_tellingLane l G r 8 [(0, .ref 0), (1, .int x1), (2, .int x2), (3, .int x3)] [] M := by
  intro n
  induction n with
  | zero =>
    intro x1 x2 x3 M hs K h hK
    rw [f_X9_tellingLane_L8] at h; cases h
  | succ n ih =>
    intro x1 x2 x3 M hs K h hK
    rw [f_X9_tellingLane_L8] at h
    refine J_iload_n (pc' := 9) (i := 3) (n := 3) dX9_tellingLane_8 rfl rfl rfl ?_
    refine J_iconst (pc' := 10) (v := (4 : Int32)) dX9_tellingLane_9 rfl ic_4 ?_
    refine J_icmp_ge (pc' := 13) (tgt := 50) dX9_tellingLane_10 rfl (by decide) (fun c2 => ?_) (fun c2 => ?_)
    · replace h := j_ip c2 h
      refine J_sub [0] (lv' := [(0, .ref 0)]) rfl ?_
      exact hK x3 M hs h
    · replace h := j_iq c2 h
      refine J_aload_n (pc' := 14) (i := 0) (n := 0) dX9_tellingLane_13 rfl rfl rfl ?_
      refine J_getR (pc' := 17) (b := 17) dX9_tellingLane_14 rfl fl_X9_75 rfl (x_o hs) (x_n hs (Nat.le_of_ble_eq_true rfl)) (x_r0 hs) ?_
      refine J_getR (pc' := 20) (b := (17 + 8)) dX9_tellingLane_17 rfl fl_X9_302 rfl (b_o (x_b17 hs)) (b_no (x_b17 hs)) (b_r8 (x_b17 hs)) ?_
      refine J_iload_n (pc' := 21) (i := 3) (n := 3) dX9_tellingLane_20 rfl rfl rfl ?_
      refine J_aload_n (pc' := 22) (i := 0) (n := 0) dX9_tellingLane_21 rfl rfl rfl ?_
      refine J_iload_n (pc' := 23) (i := 1) (n := 1) dX9_tellingLane_22 rfl rfl rfl ?_
      refine J_iload_n (pc' := 24) (i := 2) (n := 2) dX9_tellingLane_23 rfl rfl rfl ?_
      refine J_aload_n (pc' := 25) (i := 0) (n := 0) dX9_tellingLane_24 rfl rfl rfl ?_
      refine J_getR (pc' := 28) (b := 17) dX9_tellingLane_25 rfl fl_X9_75 rfl (x_o hs) (x_n hs (Nat.le_of_ble_eq_true rfl)) (x_r0 hs) ?_
      refine J_aload_n (pc' := 29) (i := 0) (n := 0) dX9_tellingLane_28 rfl rfl rfl ?_
      refine J_getR (pc' := 32) (b := 17) dX9_tellingLane_29 rfl fl_X9_75 rfl (x_o hs) (x_n hs (Nat.le_of_ble_eq_true rfl)) (x_r0 hs) ?_
      refine J_getR (pc' := 35) (b := (17 + 5)) dX9_tellingLane_32 rfl fl_X9_103 rfl (b_o (x_b17 hs)) (b_no (x_b17 hs)) (b_r5 (x_b17 hs)) ?_
      refine J_iload_n (pc' := 36) (i := 1) (n := 1) dX9_tellingLane_35 rfl rfl rfl ?_
      refine J_iload_n (pc' := 37) (i := 3) (n := 3) dX9_tellingLane_36 rfl rfl rfl ?_
      obtain ⟨v3, e4, h⟩ := bi_inv h
      refine J_callVN (pc' := 40) (as := [.ref (17 + 5), .int x1, .int x3]) (rest := [.int x2, .int x1, .ref 0, .int x3, .ref (17 + 8)]) dX9_tellingLane_37 rfl lk_X9_178 rfl 0 (by decide) rfl (b_o (x_b17 hs)) (b_no (x_b17 hs)) (c_X0_others (x_b17 hs) ⟨(b_s5 (x_b17 hs)), (b_n (x_b17 hs) (Nat.le_of_ble_eq_true rfl))⟩ e4) ⟨Nat.le_of_ble_eq_true rfl, Nat.le_of_ble_eq_true rfl⟩ (Nat.le_of_ble_eq_true rfl) ⟨Nat.le_of_ble_eq_true rfl, Nat.le_of_ble_eq_true rfl⟩ (j_kq ?_)
      obtain ⟨v5, e6, h⟩ := bi_inv h
      refine J_callV (pc' := 43) (as := [.int x1, .int x2, .int v3]) (rest := [.int x3, .ref (17 + 8)]) dX9_tellingLane_40 rfl lk_X9_346 rfl 9 (by decide) rfl (x_o hs) (x_n hs (Nat.le_of_ble_eq_true rfl)) (c_X9_mostAlike hs e6) ⟨Nat.le_of_ble_eq_true rfl, Nat.le_of_ble_eq_true rfl⟩ (Nat.le_of_ble_eq_true rfl) ⟨Nat.le_of_ble_eq_true rfl, Nat.le_of_ble_eq_true rfl⟩ (j_kq ?_)
      obtain ⟨M7, e8, h⟩ := w_i_inv h
      have g9 : sh_x M7.2.2 := j_shI e8.2 hs
      refine J_iaste (pc' := 44) dX9_tellingLane_43 rfl (b_s8 (x_b17 hs)) (b_n (x_b17 hs) (Nat.le_of_ble_eq_true rfl)) e8 ?_
      refine J_iinc (pc' := 47) (i := 3) (n := 3) (v := (x3 + (1 : Int32))) (lv' := [(3, .int (x3 + (1 : Int32))), (0, .ref 0), (1, .int x1), (2, .int x2)]) dX9_tellingLane_44 rfl rfl (j_inc _ _ rfl _) (by decide) rfl ?_
      refine J_goto (pc' := 8) dX9_tellingLane_47 (by decide) ?_
      refine J_sub [1, 2, 3, 0] (lv' := [(0, .ref 0), (1, .int x1), (2, .int x2), (3, .int (x3 + (1 : Int32)))]) rfl ?_
      exact ih g9 h hK
set_option maxHeartbeats 4000000 in
theorem c_X9_tellingLane {l : Launch} {G : j_G} {M : j_M} {x1 : Int32} {x2 : Int32} (hs : sh_x M.2.2) {r : (Int32 × j_M)} (h : f_X9_tellingLane M x1 x2 = some r) : j_Sp l G md_X9_tellingLane 8 (0, 0) [.ref 0, .int x1, .int x2] M (po (some (.int r.1)) r.2) := by
  refine j_Sp.of (by decide) (Nat.le_of_ble_eq_true rfl) ?_
  show JT_X9_tellingLane l G r 0 [(0, .ref 0), (1, .int x1), (2, .int x2)] [] M
  unfold f_X9_tellingLane at h
  refine J_iload_n (pc' := 1) (i := 2) (n := 2) dX9_tellingLane_0 rfl rfl rfl ?_
  refine J_if_ne (pc' := 4) (tgt := 6) dX9_tellingLane_1 rfl (by decide) (fun c1 => ?_) (fun c1 => ?_)
  · replace h := j_iq c1 h
    refine J_iconst (pc' := 7) (v := (0 : Int32)) dX9_tellingLane_6 rfl ic_0 ?_
    refine J_istore_n (pc' := 8) (i := 3) (lv' := [(3, .int (0 : Int32)), (0, .ref 0), (1, .int x1), (2, .int x2)]) dX9_tellingLane_7 rfl rfl (by decide) rfl ?_
    refine J_sub [1, 2, 3, 0] (lv' := [(0, .ref 0), (1, .int x1), (2, .int x2), (3, .int (0 : Int32))]) rfl ?_
    refine L_X9_tellingLane_L8 j_fu hs h (fun y10 M11 g12 h => ?_)
    refine J_aload_n (pc' := 51) (i := 0) (n := 0) dX9_tellingLane_50 rfl rfl rfl ?_
    refine J_getR (pc' := 54) (b := 17) dX9_tellingLane_51 rfl fl_X9_75 rfl (x_o g12) (x_n g12 (Nat.le_of_ble_eq_true rfl)) (x_r0 g12) ?_
    obtain ⟨v13, e14, h⟩ := bi_inv h
    refine J_callVN (pc' := 57) (as := []) (rest := []) dX9_tellingLane_54 rfl lk_X9_305 rfl 0 (by decide) rfl (b_o (x_b17 g12)) (b_no (x_b17 g12)) (c_X0_leastOpenLane (x_b17 g12) e14) ⟨Nat.le_of_ble_eq_true rfl, Nat.le_of_ble_eq_true rfl⟩ (Nat.le_of_ble_eq_true rfl) ⟨Nat.le_of_ble_eq_true rfl, Nat.le_of_ble_eq_true rfl⟩ (j_kq ?_)
    exact J_iret rfl dX9_tellingLane_57 ⟨rfl, Nat.le_refl _⟩ (j_pW h)
  · replace h := j_ip c1 h
    refine J_iconst (pc' := 5) (v := ((-1) : Int32)) dX9_tellingLane_4 rfl ic_m1 ?_
    exact J_iret rfl dX9_tellingLane_5 ⟨rfl, Nat.le_refl _⟩ (j_pW h)
abbrev JT_X9_look (l : Launch) (G : j_G) (r : (Int32 × j_M)) : Nat → List (Nat × Value) → List Value → j_M → Prop := JJ l G md_X9_look (j_rm 9 (0, 0)) (0, 0) (0, 0) (po (some (.int r.1)) r.2)
noncomputable def f_X9_look (M : j_M) (x1 : Int32) : Option (Int32 × j_M) :=
  tl (f_X9_isOne M x1) fun v1 => (if v1 = 0 then ((f_X9_bad M).bind fun q4 => j_ck M q4.2 (some (q4.1, q4.2))) else ((f_X9_kindsThatFit M x1).bind fun v8 => ((f_X9_tellingLane M x1 v8).bind fun q10 => j_ck M q10.2 (some (q10.1, q10.2)))))
set_option maxHeartbeats 4000000 in
theorem c_X9_look {l : Launch} {G : j_G} {M : j_M} {x1 : Int32} (hs : sh_x M.2.2) {r : (Int32 × j_M)} (h : f_X9_look M x1 = some r) : j_Sp l G md_X9_look 9 (0, 0) [.ref 0, .int x1] M (po (some (.int r.1)) r.2) := by
  refine j_Sp.of (by decide) (Nat.le_of_ble_eq_true rfl) ?_
  show JT_X9_look l G r 0 [(0, .ref 0), (1, .int x1)] [] M
  unfold f_X9_look at h
  refine J_aload_n (pc' := 1) (i := 0) (n := 0) dX9_look_0 rfl rfl rfl ?_
  refine J_iload_n (pc' := 2) (i := 1) (n := 1) dX9_look_1 rfl rfl rfl ?_
  obtain ⟨v1, e2, h⟩ := tl_inv h
  refine J_callV (pc' := 5) (as := [.int x1]) (rest := []) dX9_look_2 rfl lk_X9_153 rfl 9 (by decide) rfl (x_o hs) (x_n hs (Nat.le_of_ble_eq_true rfl)) (c_X9_isOne hs e2) ⟨Nat.le_of_ble_eq_true rfl, Nat.le_of_ble_eq_true rfl⟩ (Nat.le_of_ble_eq_true rfl) ⟨Nat.le_of_ble_eq_true rfl, Nat.le_of_ble_eq_true rfl⟩ (j_kq ?_)
  refine J_if_eq (pc' := 8) (tgt := 21) dX9_look_5 rfl (by decide) (fun c3 => ?_) (fun c3 => ?_)
  · replace h := j_ip c3 h
    refine J_aload_n (pc' := 22) (i := 0) (n := 0) dX9_look_21 rfl rfl rfl ?_
    obtain ⟨q4, e5, h⟩ := bi_inv h
    obtain ⟨c6, h⟩ := j_ck_inv h
    refine J_callV (pc' := 25) (as := []) (rest := []) dX9_look_22 rfl lk_X9_96 rfl 9 (by decide) rfl (x_o hs) (x_n hs (Nat.le_of_ble_eq_true rfl)) (c_X9_bad hs e5) ⟨Nat.le_of_ble_eq_true rfl, Nat.le_of_ble_eq_true rfl⟩ (Nat.le_of_ble_eq_true rfl) ⟨Nat.le_of_ble_eq_true rfl, Nat.le_of_ble_eq_true rfl⟩ (j_kq ?_)
    have g7 : sh_x q4.2.2.2 := j_shE c6 hs
    exact J_iret rfl dX9_look_25 ⟨rfl, Nat.le_refl _⟩ (j_pW h)
  · replace h := j_iq c3 h
    refine J_aload_n (pc' := 9) (i := 0) (n := 0) dX9_look_8 rfl rfl rfl ?_
    refine J_iload_n (pc' := 10) (i := 1) (n := 1) dX9_look_9 rfl rfl rfl ?_
    refine J_aload_n (pc' := 11) (i := 0) (n := 0) dX9_look_10 rfl rfl rfl ?_
    refine J_iload_n (pc' := 12) (i := 1) (n := 1) dX9_look_11 rfl rfl rfl ?_
    obtain ⟨v8, e9, h⟩ := bi_inv h
    refine J_callV (pc' := 15) (as := [.int x1]) (rest := [.int x1, .ref 0]) dX9_look_12 rfl lk_X9_249 rfl 9 (by decide) rfl (x_o hs) (x_n hs (Nat.le_of_ble_eq_true rfl)) (c_X9_kindsThatFit hs e9) ⟨Nat.le_of_ble_eq_true rfl, Nat.le_of_ble_eq_true rfl⟩ (Nat.le_of_ble_eq_true rfl) ⟨Nat.le_of_ble_eq_true rfl, Nat.le_of_ble_eq_true rfl⟩ (j_kq ?_)
    obtain ⟨q10, e11, h⟩ := bi_inv h
    obtain ⟨c12, h⟩ := j_ck_inv h
    refine J_callV (pc' := 18) (as := [.int x1, .int v8]) (rest := []) dX9_look_15 rfl lk_X9_255 rfl 9 (by decide) rfl (x_o hs) (x_n hs (Nat.le_of_ble_eq_true rfl)) (c_X9_tellingLane hs e11) ⟨Nat.le_of_ble_eq_true rfl, Nat.le_of_ble_eq_true rfl⟩ (Nat.le_of_ble_eq_true rfl) ⟨Nat.le_of_ble_eq_true rfl, Nat.le_of_ble_eq_true rfl⟩ (j_kq ?_)
    have g13 : sh_x q10.2.2.2 := j_shE c12 hs
    refine J_goto (pc' := 25) dX9_look_18 (by decide) ?_
    exact J_iret rfl dX9_look_25 ⟨rfl, Nat.le_refl _⟩ (j_pW h)
abbrev JT_X9_toToucher (l : Launch) (G : j_G) (M : j_M) (r : Int32) : Nat → List (Nat × Value) → List Value → j_M → Prop := JJ l G md_X9_toToucher (j_rm 1 (0, 0)) (0, 0) (0, 0) (po (some (.int r)) M)
def f_X9_toToucher (x0 : Int32) (x1 : Int32) : Int32 :=
  if x1 = 0 then (if x0 = 0 then ((0 : Int32)) else (((-1) : Int32))) else (if x0 = 0 then ((2 : Int32)) else ((1 : Int32)))
set_option maxHeartbeats 4000000 in
theorem c_X9_toToucher {l : Launch} {G : j_G} {M : j_M} {x0 : Int32} {x1 : Int32}  {r : Int32} (h : f_X9_toToucher x0 x1 = r) : j_Sp l G md_X9_toToucher 1 (0, 0) [.int x0, .int x1] M (po (some (.int r)) M) := by
  refine j_Sp.of (by decide) (Nat.le_of_ble_eq_true rfl) ?_
  show JT_X9_toToucher l G M r 0 [(0, .int x0), (1, .int x1)] [] M
  unfold f_X9_toToucher at h
  refine J_iload_n (pc' := 1) (i := 1) (n := 1) dX9_toToucher_0 rfl rfl rfl ?_
  refine J_if_eq (pc' := 4) (tgt := 14) dX9_toToucher_1 rfl (by decide) (fun c1 => ?_) (fun c1 => ?_)
  · replace h := j_ip c1 h
    refine J_iload_n (pc' := 15) (i := 0) (n := 0) dX9_toToucher_14 rfl rfl rfl ?_
    refine J_if_eq (pc' := 18) (tgt := 22) dX9_toToucher_15 rfl (by decide) (fun c2 => ?_) (fun c2 => ?_)
    · replace h := j_ip c2 h
      refine J_iconst (pc' := 23) (v := (0 : Int32)) dX9_toToucher_22 rfl ic_0 ?_
      exact J_iret rfl dX9_toToucher_23 ⟨rfl, Nat.le_refl _⟩ (j_pI h)
    · replace h := j_iq c2 h
      refine J_iconst (pc' := 19) (v := ((-1) : Int32)) dX9_toToucher_18 rfl ic_m1 ?_
      refine J_goto (pc' := 23) dX9_toToucher_19 (by decide) ?_
      exact J_iret rfl dX9_toToucher_23 ⟨rfl, Nat.le_refl _⟩ (j_pI h)
  · replace h := j_iq c1 h
    refine J_iload_n (pc' := 5) (i := 0) (n := 0) dX9_toToucher_4 rfl rfl rfl ?_
    refine J_if_eq (pc' := 8) (tgt := 12) dX9_toToucher_5 rfl (by decide) (fun c3 => ?_) (fun c3 => ?_)
    · replace h := j_ip c3 h
      refine J_iconst (pc' := 13) (v := (2 : Int32)) dX9_toToucher_12 rfl ic_2 ?_
      exact J_iret rfl dX9_toToucher_13 ⟨rfl, Nat.le_refl _⟩ (j_pI h)
    · replace h := j_iq c3 h
      refine J_iconst (pc' := 9) (v := (1 : Int32)) dX9_toToucher_8 rfl ic_1 ?_
      refine J_goto (pc' := 13) dX9_toToucher_9 (by decide) ?_
      exact J_iret rfl dX9_toToucher_13 ⟨rfl, Nat.le_refl _⟩ (j_pI h)
abbrev JT_X9_toTouched (l : Launch) (G : j_G) (M : j_M) (r : Int32) : Nat → List (Nat × Value) → List Value → j_M → Prop := JJ l G md_X9_toTouched (j_rm 1 (0, 0)) (0, 0) (0, 0) (po (some (.int r)) M)
def f_X9_toTouched (x0 : Int32) (x1 : Int32) (x2 : Int32) : Int32 :=
  if x1 = 0 then (if x0 = 0 then ((1 : Int32)) else (if x2 = 0 then (((-1) : Int32)) else ((1 : Int32)))) else ((0 : Int32))
set_option maxHeartbeats 4000000 in
theorem c_X9_toTouched {l : Launch} {G : j_G} {M : j_M} {x0 : Int32} {x1 : Int32} {x2 : Int32}  {r : Int32} (h : f_X9_toTouched x0 x1 x2 = r) : j_Sp l G md_X9_toTouched 1 (0, 0) [.int x0, .int x1, .int x2] M (po (some (.int r)) M) := by
  refine j_Sp.of (by decide) (Nat.le_of_ble_eq_true rfl) ?_
  show JT_X9_toTouched l G M r 0 [(0, .int x0), (1, .int x1), (2, .int x2)] [] M
  unfold f_X9_toTouched at h
  refine J_iload_n (pc' := 1) (i := 1) (n := 1) dX9_toTouched_0 rfl rfl rfl ?_
  refine J_if_eq (pc' := 4) (tgt := 6) dX9_toTouched_1 rfl (by decide) (fun c1 => ?_) (fun c1 => ?_)
  · replace h := j_ip c1 h
    refine J_iload_n (pc' := 7) (i := 0) (n := 0) dX9_toTouched_6 rfl rfl rfl ?_
    refine J_if_eq (pc' := 10) (tgt := 18) dX9_toTouched_7 rfl (by decide) (fun c2 => ?_) (fun c2 => ?_)
    · replace h := j_ip c2 h
      refine J_iconst (pc' := 19) (v := (1 : Int32)) dX9_toTouched_18 rfl ic_1 ?_
      exact J_iret rfl dX9_toTouched_19 ⟨rfl, Nat.le_refl _⟩ (j_pI h)
    · replace h := j_iq c2 h
      refine J_iload_n (pc' := 11) (i := 2) (n := 2) dX9_toTouched_10 rfl rfl rfl ?_
      refine J_if_ne (pc' := 14) (tgt := 18) dX9_toTouched_11 rfl (by decide) (fun c3 => ?_) (fun c3 => ?_)
      · replace h := j_iq c3 h
        refine J_iconst (pc' := 19) (v := (1 : Int32)) dX9_toTouched_18 rfl ic_1 ?_
        exact J_iret rfl dX9_toTouched_19 ⟨rfl, Nat.le_refl _⟩ (j_pI h)
      · replace h := j_ip c3 h
        refine J_iconst (pc' := 15) (v := ((-1) : Int32)) dX9_toTouched_14 rfl ic_m1 ?_
        refine J_goto (pc' := 19) dX9_toTouched_15 (by decide) ?_
        exact J_iret rfl dX9_toTouched_19 ⟨rfl, Nat.le_refl _⟩ (j_pI h)
  · replace h := j_iq c1 h
    refine J_iconst (pc' := 5) (v := (0 : Int32)) dX9_toTouched_4 rfl ic_0 ?_
    exact J_iret rfl dX9_toTouched_5 ⟨rfl, Nat.le_refl _⟩ (j_pI h)
abbrev JT_X9_rests (l : Launch) (G : j_G) (M : j_M) (r : Int32) : Nat → List (Nat × Value) → List Value → j_M → Prop := JJ l G md_X9_rests (j_rm 2 (0, 0)) (0, 0) (0, 0) (po (some (.int r)) M)
def f_X9_rests (x0 : Int32) (x1 : Int32) (x2 : Int32) : Int32 :=
  tl (f_X9_toToucher x0 x1) fun v1 => (jn (fun (v4 : Int32) => (tl (f_X9_toToucher v4 x1) fun v7 => (if v1 < v7 then ((0 : Int32)) else (tl (f_X9_toTouched x0 x1 x2) fun v10 => (jn (fun (v13 : Int32) => (tl (f_X9_toTouched x0 v13 x2) fun v16 => (if v10 < v16 then ((0 : Int32)) else ((1 : Int32))))) (fun K14 => (if x1 = 0 then (K14 (1 : Int32)) else (K14 (0 : Int32))))))))) (fun K5 => (if x0 = 0 then (K5 (1 : Int32)) else (K5 (0 : Int32)))))
theorem z_X9_rests (x0 : Int32) (x1 : Int32) (x2 : Int32) : f_X9_rests x0 x1 x2 = 0 ∨ f_X9_rests x0 x1 x2 = 1 := by
  unfold f_X9_rests
  try simp only [tl, jn]
  repeat' split
  all_goals first | exact Or.inl rfl | exact Or.inr rfl
set_option maxHeartbeats 4000000 in
theorem c_X9_rests {l : Launch} {G : j_G} {M : j_M} {x0 : Int32} {x1 : Int32} {x2 : Int32}  {r : Int32} (h : f_X9_rests x0 x1 x2 = r) : j_Sp l G md_X9_rests 2 (0, 0) [.int x0, .int x1, .int x2] M (po (some (.int r)) M) := by
  refine j_Sp.of (by decide) (Nat.le_of_ble_eq_true rfl) ?_
  show JT_X9_rests l G M r 0 [(0, .int x0), (1, .int x1), (2, .int x2)] [] M
  unfold f_X9_rests at h
  refine J_iload_n (pc' := 1) (i := 0) (n := 0) dX9_rests_0 rfl rfl rfl ?_
  refine J_iload_n (pc' := 2) (i := 1) (n := 1) dX9_rests_1 rfl rfl rfl ?_
  obtain ⟨v1, e2, h⟩ := tl_inv h
  refine J_callS (pc' := 5) (as := [.int x0, .int x1]) (rest := []) dX9_rests_2 rfl lk_X9_355 rfl (c_X9_toToucher e2) ⟨Nat.le_of_ble_eq_true rfl, Nat.le_of_ble_eq_true rfl⟩ (Nat.le_of_ble_eq_true rfl) ⟨Nat.le_of_ble_eq_true rfl, Nat.le_of_ble_eq_true rfl⟩ (j_kq ?_)
  refine J_iload_n (pc' := 6) (i := 0) (n := 0) dX9_rests_5 rfl rfl rfl ?_
  refine J_join (C := fun (v4 : Int32) => JT_X9_rests l G M r 14 [(0, .int x0), (1, .int x1), (2, .int x2)] [.int v4, .int v1] M) h (fun v4 h => ?_) (fun K5 h6 h => ?_)
  · refine J_iload_n (pc' := 15) (i := 1) (n := 1) dX9_rests_14 rfl rfl rfl ?_
    obtain ⟨v7, e8, h⟩ := tl_inv h
    refine J_callS (pc' := 18) (as := [.int v4, .int x1]) (rest := [.int v1]) dX9_rests_15 rfl lk_X9_355 rfl (c_X9_toToucher e8) ⟨Nat.le_of_ble_eq_true rfl, Nat.le_of_ble_eq_true rfl⟩ (Nat.le_of_ble_eq_true rfl) ⟨Nat.le_of_ble_eq_true rfl, Nat.le_of_ble_eq_true rfl⟩ (j_kq ?_)
    refine J_icmp_lt (pc' := 21) (tgt := 48) dX9_rests_18 rfl (by decide) (fun c9 => ?_) (fun c9 => ?_)
    · replace h := j_ip c9 h
      refine J_iconst (pc' := 49) (v := (0 : Int32)) dX9_rests_48 rfl ic_0 ?_
      exact J_zret (ty := .boolean) rfl rfl dX9_rests_49 ⟨rfl, Nat.le_refl _⟩ (j_pI h)
    · replace h := j_iq c9 h
      refine J_iload_n (pc' := 22) (i := 0) (n := 0) dX9_rests_21 rfl rfl rfl ?_
      refine J_iload_n (pc' := 23) (i := 1) (n := 1) dX9_rests_22 rfl rfl rfl ?_
      refine J_iload_n (pc' := 24) (i := 2) (n := 2) dX9_rests_23 rfl rfl rfl ?_
      obtain ⟨v10, e11, h⟩ := tl_inv h
      refine J_callS (pc' := 27) (as := [.int x0, .int x1, .int x2]) (rest := []) dX9_rests_24 rfl lk_X9_359 rfl (c_X9_toTouched e11) ⟨Nat.le_of_ble_eq_true rfl, Nat.le_of_ble_eq_true rfl⟩ (Nat.le_of_ble_eq_true rfl) ⟨Nat.le_of_ble_eq_true rfl, Nat.le_of_ble_eq_true rfl⟩ (j_kq ?_)
      refine J_iload_n (pc' := 28) (i := 0) (n := 0) dX9_rests_27 rfl rfl rfl ?_
      refine J_iload_n (pc' := 29) (i := 1) (n := 1) dX9_rests_28 rfl rfl rfl ?_
      refine J_join (C := fun (v13 : Int32) => JT_X9_rests l G M r 37 [(2, .int x2)] [.int v13, .int x0, .int v10] M) h (fun v13 h => ?_) (fun K14 h15 h => ?_)
      · refine J_iload_n (pc' := 38) (i := 2) (n := 0) dX9_rests_37 rfl rfl rfl ?_
        obtain ⟨v16, e17, h⟩ := tl_inv h
        refine J_callS (pc' := 41) (as := [.int x0, .int v13, .int x2]) (rest := [.int v10]) dX9_rests_38 rfl lk_X9_359 rfl (c_X9_toTouched e17) ⟨Nat.le_of_ble_eq_true rfl, Nat.le_of_ble_eq_true rfl⟩ (Nat.le_of_ble_eq_true rfl) ⟨Nat.le_of_ble_eq_true rfl, Nat.le_of_ble_eq_true rfl⟩ (j_kq ?_)
        refine J_icmp_lt (pc' := 44) (tgt := 48) dX9_rests_41 rfl (by decide) (fun c18 => ?_) (fun c18 => ?_)
        · replace h := j_ip c18 h
          refine J_iconst (pc' := 49) (v := (0 : Int32)) dX9_rests_48 rfl ic_0 ?_
          exact J_zret (ty := .boolean) rfl rfl dX9_rests_49 ⟨rfl, Nat.le_refl _⟩ (j_pI h)
        · replace h := j_iq c18 h
          refine J_iconst (pc' := 45) (v := (1 : Int32)) dX9_rests_44 rfl ic_1 ?_
          refine J_goto (pc' := 49) dX9_rests_45 (by decide) ?_
          exact J_zret (ty := .boolean) rfl rfl dX9_rests_49 ⟨rfl, Nat.le_refl _⟩ (j_pI h)
      · refine J_if_ne (pc' := 32) (tgt := 36) dX9_rests_29 rfl (by decide) (fun c12 => ?_) (fun c12 => ?_)
        · replace h := j_iq c12 h
          refine J_iconst (pc' := 37) (v := (0 : Int32)) dX9_rests_36 rfl ic_0 ?_
          refine J_sub [2] (lv' := [(2, .int x2)]) rfl ?_
          exact h15 (0 : Int32) h
        · replace h := j_ip c12 h
          refine J_iconst (pc' := 33) (v := (1 : Int32)) dX9_rests_32 rfl ic_1 ?_
          refine J_goto (pc' := 37) dX9_rests_33 (by decide) ?_
          refine J_sub [2] (lv' := [(2, .int x2)]) rfl ?_
          exact h15 (1 : Int32) h
  · refine J_if_ne (pc' := 9) (tgt := 13) dX9_rests_6 rfl (by decide) (fun c3 => ?_) (fun c3 => ?_)
    · replace h := j_iq c3 h
      refine J_iconst (pc' := 14) (v := (0 : Int32)) dX9_rests_13 rfl ic_0 ?_
      exact h6 (0 : Int32) h
    · replace h := j_ip c3 h
      refine J_iconst (pc' := 10) (v := (1 : Int32)) dX9_rests_9 rfl ic_1 ?_
      refine J_goto (pc' := 14) dX9_rests_10 (by decide) ?_
      exact h6 (1 : Int32) h
abbrev JT_X9_touch (l : Launch) (G : j_G) (r : (Int32 × j_M)) : Nat → List (Nat × Value) → List Value → j_M → Prop := JJ l G md_X9_touch (j_rm 3 (0, 0)) (0, 0) (0, 0) (po (some (.int r.1)) r.2)
noncomputable def f_X9_touch_L83 : Nat → j_M → Int32 → Int32 → Int32 → (Int32 → Int32 → Option (Int32 × j_M)) → Option (Int32 × j_M)
  | 0, _, _, _, _, _ => none
  | n + 1, M, x3, x4, x5, K =>
    if (4 : Int32) ≤ x5 then (K x4 x5) else (jn (fun (v31 : Int32) => (jn (fun (v35 : Int32) => (tl (f_X9_rests v31 v35 x3) fun v38 => (if v38 = 0 then (f_X9_touch_L83 n  M x3 x4 (x5 + (1 : Int32)) K) else (f_X9_touch_L83 n  M x3 (x4 ||| ((1 : Int32) <<< (x5 &&& 31))) (x5 + (1 : Int32)) K)))) (fun K36 => (if (x5 &&& (2 : Int32)) = 0 then (K36 (0 : Int32)) else (K36 (1 : Int32)))))) (fun K32 => (if (x5 &&& (1 : Int32)) = 0 then (K32 (0 : Int32)) else (K32 (1 : Int32)))))
noncomputable def f_X9_touch (M : j_M) (x1 : Int32) (x2 : Int32) : Option (Int32 × j_M) :=
  tl (f_X9_isOne M x1) fun v1 => (if v1 = 0 then ((f_X9_bad M).bind fun q4 => j_ck M q4.2 (some (q4.1, q4.2))) else (tl (f_X9_isOne M x2) fun v8 => (if v8 = 0 then ((f_X9_bad M).bind fun q11 => j_ck M q11.2 (some (q11.1, q11.2))) else (if x1 = x2 then ((f_X9_bad M).bind fun q47 => j_ck M q47.2 (some (q47.1, q47.2))) else ((f_X0_laneOf M 17 x1).bind fun v16 => ((f_X0_laneOf M 17 x2).bind fun v18 => (if v16 = v18 then (a_i M (17 + 4) 7 x2 fun v21 => (a_i M (17 + 4) 7 x1 fun v23 => (jn (fun (v26 : Int32) => (f_X9_touch_L83 j_fu  M v26 (0 : Int32) (0 : Int32) (fun (y41 : Int32) (y42 : Int32) => (some (y41, M))))) (fun K27 => (if v23 ≤ v21 then (K27 (0 : Int32)) else (K27 (1 : Int32))))))) else ((f_X9_no M).bind fun q43 => j_ck M q43.2 (some (q43.1, q43.2))))))))))
set_option maxHeartbeats 4000000 in
theorem L_X9_touch_L83 {l : Launch} {G : j_G}  {r : (Int32 × j_M)} : ∀ (n : Nat) {x3 : Int32} {x4 : Int32} {x5 : Int32} {M : j_M} (hs : sh_x M.2.2) {K : Int32 → Int32 → Option (Int32 × j_M)}, f_X9_touch_L83 n  M x3 x4 x5 K = some r → (∀ (y4 : Int32) (y5 : Int32), K y4 y5 = some r → JT_X9_touch l G r 135 [(4, .int y4)] [] M) → JT_X9_touch l G r 83 [(3, .int x3), (4, .int x4), (5, .int x5)] [] M := by
  intro n
  induction n with
  | zero =>
    intro x3 x4 x5 M hs K h hK
    rw [f_X9_touch_L83] at h; cases h
  | succ n ih =>
    intro x3 x4 x5 M hs K h hK
    rw [f_X9_touch_L83] at h
    refine J_iload (pc' := 85) (i := 5) (n := 2) dX9_touch_83 rfl rfl ?_
    refine J_iconst (pc' := 86) (v := (4 : Int32)) dX9_touch_85 rfl ic_4 ?_
    refine J_icmp_ge (pc' := 89) (tgt := 135) dX9_touch_86 rfl (by decide) (fun c29 => ?_) (fun c29 => ?_)
    · replace h := j_ip c29 h
      refine J_sub [1] (lv' := [(4, .int x4)]) rfl ?_
      exact hK x4 x5  h
    · replace h := j_iq c29 h
      refine J_iload (pc' := 91) (i := 5) (n := 2) dX9_touch_89 rfl rfl ?_
      refine J_iconst (pc' := 92) (v := (1 : Int32)) dX9_touch_91 rfl ic_1 ?_
      refine J_iand (pc' := 93) dX9_touch_92 rfl ?_
      refine J_join (C := fun (v31 : Int32) => JT_X9_touch l G r 101 [(3, .int x3), (4, .int x4), (5, .int x5)] [.int v31] M) h (fun v31 h => ?_) (fun K32 h33 h => ?_)
      · refine J_iload (pc' := 103) (i := 5) (n := 2) dX9_touch_101 rfl rfl ?_
        refine J_iconst (pc' := 104) (v := (2 : Int32)) dX9_touch_103 rfl ic_2 ?_
        refine J_iand (pc' := 105) dX9_touch_104 rfl ?_
        refine J_join (C := fun (v35 : Int32) => JT_X9_touch l G r 113 [(3, .int x3), (4, .int x4), (5, .int x5)] [.int v35, .int v31] M) h (fun v35 h => ?_) (fun K36 h37 h => ?_)
        · refine J_iload_n (pc' := 114) (i := 3) (n := 0) dX9_touch_113 rfl rfl rfl ?_
          obtain ⟨v38, e39, h⟩ := tl_inv h
          refine J_callS (pc' := 117) (as := [.int v31, .int v35, .int x3]) (rest := []) dX9_touch_114 rfl lk_X9_258 rfl (c_X9_rests e39) ⟨Nat.le_of_ble_eq_true rfl, Nat.le_of_ble_eq_true rfl⟩ (Nat.le_of_ble_eq_true rfl) ⟨Nat.le_of_ble_eq_true rfl, Nat.le_of_ble_eq_true rfl⟩ (j_kq ?_)
          refine J_if_eq (pc' := 120) (tgt := 129) dX9_touch_117 rfl (by decide) (fun c40 => ?_) (fun c40 => ?_)
          · replace h := j_ip c40 h
            refine J_iinc (pc' := 132) (i := 5) (n := 2) (v := (x5 + (1 : Int32))) (lv' := [(5, .int (x5 + (1 : Int32))), (3, .int x3), (4, .int x4)]) dX9_touch_129 rfl rfl (j_inc _ _ rfl _) (by decide) rfl ?_
            refine J_goto (pc' := 83) dX9_touch_132 (by decide) ?_
            refine J_sub [1, 2, 0] (lv' := [(3, .int x3), (4, .int x4), (5, .int (x5 + (1 : Int32)))]) rfl ?_
            exact ih hs h hK
          · replace h := j_iq c40 h
            refine J_iload (pc' := 122) (i := 4) (n := 1) dX9_touch_120 rfl rfl ?_
            refine J_iconst (pc' := 123) (v := (1 : Int32)) dX9_touch_122 rfl ic_1 ?_
            refine J_iload (pc' := 125) (i := 5) (n := 2) dX9_touch_123 rfl rfl ?_
            refine J_ishl (pc' := 126) dX9_touch_125 rfl ?_
            refine J_ior (pc' := 127) dX9_touch_126 rfl ?_
            refine J_istore (pc' := 129) (i := 4) (lv' := [(4, .int (x4 ||| ((1 : Int32) <<< (x5 &&& 31)))), (3, .int x3), (5, .int x5)]) dX9_touch_127 rfl (by decide) rfl ?_
            refine J_iinc (pc' := 132) (i := 5) (n := 2) (v := (x5 + (1 : Int32))) (lv' := [(5, .int (x5 + (1 : Int32))), (4, .int (x4 ||| ((1 : Int32) <<< (x5 &&& 31)))), (3, .int x3)]) dX9_touch_129 rfl rfl (j_inc _ _ rfl _) (by decide) rfl ?_
            refine J_goto (pc' := 83) dX9_touch_132 (by decide) ?_
            refine J_sub [2, 1, 0] (lv' := [(3, .int x3), (4, .int (x4 ||| ((1 : Int32) <<< (x5 &&& 31)))), (5, .int (x5 + (1 : Int32)))]) rfl ?_
            exact ih hs h hK
        · refine J_if_eq (pc' := 108) (tgt := 112) dX9_touch_105 rfl (by decide) (fun c34 => ?_) (fun c34 => ?_)
          · replace h := j_ip c34 h
            refine J_iconst (pc' := 113) (v := (0 : Int32)) dX9_touch_112 rfl ic_0 ?_
            exact h37 (0 : Int32) h
          · replace h := j_iq c34 h
            refine J_iconst (pc' := 109) (v := (1 : Int32)) dX9_touch_108 rfl ic_1 ?_
            refine J_goto (pc' := 113) dX9_touch_109 (by decide) ?_
            exact h37 (1 : Int32) h
      · refine J_if_eq (pc' := 96) (tgt := 100) dX9_touch_93 rfl (by decide) (fun c30 => ?_) (fun c30 => ?_)
        · replace h := j_ip c30 h
          refine J_iconst (pc' := 101) (v := (0 : Int32)) dX9_touch_100 rfl ic_0 ?_
          exact h33 (0 : Int32) h
        · replace h := j_iq c30 h
          refine J_iconst (pc' := 97) (v := (1 : Int32)) dX9_touch_96 rfl ic_1 ?_
          refine J_goto (pc' := 101) dX9_touch_97 (by decide) ?_
          exact h33 (1 : Int32) h
set_option maxHeartbeats 4000000 in
theorem c_X9_touch {l : Launch} {G : j_G} {M : j_M} {x1 : Int32} {x2 : Int32} (hs : sh_x M.2.2) {r : (Int32 × j_M)} (h : f_X9_touch M x1 x2 = some r) : j_Sp l G md_X9_touch 3 (0, 0) [.ref 0, .int x1, .int x2] M (po (some (.int r.1)) r.2) := by
  refine j_Sp.of (by decide) (Nat.le_of_ble_eq_true rfl) ?_
  show JT_X9_touch l G r 0 [(0, .ref 0), (1, .int x1), (2, .int x2)] [] M
  unfold f_X9_touch at h
  refine J_aload_n (pc' := 1) (i := 0) (n := 0) dX9_touch_0 rfl rfl rfl ?_
  refine J_iload_n (pc' := 2) (i := 1) (n := 1) dX9_touch_1 rfl rfl rfl ?_
  obtain ⟨v1, e2, h⟩ := tl_inv h
  refine J_callV (pc' := 5) (as := [.int x1]) (rest := []) dX9_touch_2 rfl lk_X9_153 rfl 9 (by decide) rfl (x_o hs) (x_n hs (Nat.le_of_ble_eq_true rfl)) (c_X9_isOne hs e2) ⟨Nat.le_of_ble_eq_true rfl, Nat.le_of_ble_eq_true rfl⟩ (Nat.le_of_ble_eq_true rfl) ⟨Nat.le_of_ble_eq_true rfl, Nat.le_of_ble_eq_true rfl⟩ (j_kq ?_)
  refine J_if_eq (pc' := 8) (tgt := 21) dX9_touch_5 rfl (by decide) (fun c3 => ?_) (fun c3 => ?_)
  · replace h := j_ip c3 h
    refine J_aload_n (pc' := 22) (i := 0) (n := 0) dX9_touch_21 rfl rfl rfl ?_
    obtain ⟨q4, e5, h⟩ := bi_inv h
    obtain ⟨c6, h⟩ := j_ck_inv h
    refine J_callV (pc' := 25) (as := []) (rest := []) dX9_touch_22 rfl lk_X9_96 rfl 9 (by decide) rfl (x_o hs) (x_n hs (Nat.le_of_ble_eq_true rfl)) (c_X9_bad hs e5) ⟨Nat.le_of_ble_eq_true rfl, Nat.le_of_ble_eq_true rfl⟩ (Nat.le_of_ble_eq_true rfl) ⟨Nat.le_of_ble_eq_true rfl, Nat.le_of_ble_eq_true rfl⟩ (j_kq ?_)
    have g7 : sh_x q4.2.2.2 := j_shE c6 hs
    exact J_iret rfl dX9_touch_25 ⟨rfl, Nat.le_refl _⟩ (j_pW h)
  · replace h := j_iq c3 h
    refine J_aload_n (pc' := 9) (i := 0) (n := 0) dX9_touch_8 rfl rfl rfl ?_
    refine J_iload_n (pc' := 10) (i := 2) (n := 2) dX9_touch_9 rfl rfl rfl ?_
    obtain ⟨v8, e9, h⟩ := tl_inv h
    refine J_callV (pc' := 13) (as := [.int x2]) (rest := []) dX9_touch_10 rfl lk_X9_153 rfl 9 (by decide) rfl (x_o hs) (x_n hs (Nat.le_of_ble_eq_true rfl)) (c_X9_isOne hs e9) ⟨Nat.le_of_ble_eq_true rfl, Nat.le_of_ble_eq_true rfl⟩ (Nat.le_of_ble_eq_true rfl) ⟨Nat.le_of_ble_eq_true rfl, Nat.le_of_ble_eq_true rfl⟩ (j_kq ?_)
    refine J_if_eq (pc' := 16) (tgt := 21) dX9_touch_13 rfl (by decide) (fun c10 => ?_) (fun c10 => ?_)
    · replace h := j_ip c10 h
      refine J_aload_n (pc' := 22) (i := 0) (n := 0) dX9_touch_21 rfl rfl rfl ?_
      obtain ⟨q11, e12, h⟩ := bi_inv h
      obtain ⟨c13, h⟩ := j_ck_inv h
      refine J_callV (pc' := 25) (as := []) (rest := []) dX9_touch_22 rfl lk_X9_96 rfl 9 (by decide) rfl (x_o hs) (x_n hs (Nat.le_of_ble_eq_true rfl)) (c_X9_bad hs e12) ⟨Nat.le_of_ble_eq_true rfl, Nat.le_of_ble_eq_true rfl⟩ (Nat.le_of_ble_eq_true rfl) ⟨Nat.le_of_ble_eq_true rfl, Nat.le_of_ble_eq_true rfl⟩ (j_kq ?_)
      have g14 : sh_x q11.2.2.2 := j_shE c13 hs
      exact J_iret rfl dX9_touch_25 ⟨rfl, Nat.le_refl _⟩ (j_pW h)
    · replace h := j_iq c10 h
      refine J_iload_n (pc' := 17) (i := 1) (n := 1) dX9_touch_16 rfl rfl rfl ?_
      refine J_iload_n (pc' := 18) (i := 2) (n := 2) dX9_touch_17 rfl rfl rfl ?_
      refine J_icmp_ne (pc' := 21) (tgt := 26) dX9_touch_18 rfl (by decide) (fun c15 => ?_) (fun c15 => ?_)
      · replace h := j_iq c15 h
        refine J_aload_n (pc' := 27) (i := 0) (n := 0) dX9_touch_26 rfl rfl rfl ?_
        refine J_getR (pc' := 30) (b := 17) dX9_touch_27 rfl fl_X9_75 rfl (x_o hs) (x_n hs (Nat.le_of_ble_eq_true rfl)) (x_r0 hs) ?_
        refine J_iload_n (pc' := 31) (i := 1) (n := 1) dX9_touch_30 rfl rfl rfl ?_
        obtain ⟨v16, e17, h⟩ := bi_inv h
        refine J_callVN (pc' := 34) (as := [.int x1]) (rest := []) dX9_touch_31 rfl lk_X9_156 rfl 0 (by decide) rfl (b_o (x_b17 hs)) (b_no (x_b17 hs)) (c_X0_laneOf (x_b17 hs) e17) ⟨Nat.le_of_ble_eq_true rfl, Nat.le_of_ble_eq_true rfl⟩ (Nat.le_of_ble_eq_true rfl) ⟨Nat.le_of_ble_eq_true rfl, Nat.le_of_ble_eq_true rfl⟩ (j_kq ?_)
        refine J_aload_n (pc' := 35) (i := 0) (n := 0) dX9_touch_34 rfl rfl rfl ?_
        refine J_getR (pc' := 38) (b := 17) dX9_touch_35 rfl fl_X9_75 rfl (x_o hs) (x_n hs (Nat.le_of_ble_eq_true rfl)) (x_r0 hs) ?_
        refine J_iload_n (pc' := 39) (i := 2) (n := 2) dX9_touch_38 rfl rfl rfl ?_
        obtain ⟨v18, e19, h⟩ := bi_inv h
        refine J_callVN (pc' := 42) (as := [.int x2]) (rest := [.int v16]) dX9_touch_39 rfl lk_X9_156 rfl 0 (by decide) rfl (b_o (x_b17 hs)) (b_no (x_b17 hs)) (c_X0_laneOf (x_b17 hs) e19) ⟨Nat.le_of_ble_eq_true rfl, Nat.le_of_ble_eq_true rfl⟩ (Nat.le_of_ble_eq_true rfl) ⟨Nat.le_of_ble_eq_true rfl, Nat.le_of_ble_eq_true rfl⟩ (j_kq ?_)
        refine J_icmp_eq (pc' := 45) (tgt := 50) dX9_touch_42 rfl (by decide) (fun c20 => ?_) (fun c20 => ?_)
        · replace h := j_ip c20 h
          refine J_aload_n (pc' := 51) (i := 0) (n := 0) dX9_touch_50 rfl rfl rfl ?_
          refine J_getR (pc' := 54) (b := 17) dX9_touch_51 rfl fl_X9_75 rfl (x_o hs) (x_n hs (Nat.le_of_ble_eq_true rfl)) (x_r0 hs) ?_
          refine J_getR (pc' := 57) (b := (17 + 4)) dX9_touch_54 rfl fl_X9_172 rfl (b_o (x_b17 hs)) (b_no (x_b17 hs)) (b_r4 (x_b17 hs)) ?_
          refine J_iload_n (pc' := 58) (i := 2) (n := 2) dX9_touch_57 rfl rfl rfl ?_
          obtain ⟨v21, e22, h⟩ := a_i_inv h
          refine J_ialde (pc' := 59) dX9_touch_58 rfl (b_s4 (x_b17 hs)) (b_n (x_b17 hs) (Nat.le_of_ble_eq_true rfl)) e22 ?_
          refine J_aload_n (pc' := 60) (i := 0) (n := 0) dX9_touch_59 rfl rfl rfl ?_
          refine J_getR (pc' := 63) (b := 17) dX9_touch_60 rfl fl_X9_75 rfl (x_o hs) (x_n hs (Nat.le_of_ble_eq_true rfl)) (x_r0 hs) ?_
          refine J_getR (pc' := 66) (b := (17 + 4)) dX9_touch_63 rfl fl_X9_172 rfl (b_o (x_b17 hs)) (b_no (x_b17 hs)) (b_r4 (x_b17 hs)) ?_
          refine J_iload_n (pc' := 67) (i := 1) (n := 1) dX9_touch_66 rfl rfl rfl ?_
          obtain ⟨v23, e24, h⟩ := a_i_inv h
          refine J_ialde (pc' := 68) dX9_touch_67 rfl (b_s4 (x_b17 hs)) (b_n (x_b17 hs) (Nat.le_of_ble_eq_true rfl)) e24 ?_
          refine J_join (C := fun (v26 : Int32) => JT_X9_touch l G r 76 [] [.int v26] M) h (fun v26 h => ?_) (fun K27 h28 h => ?_)
          · refine J_istore_n (pc' := 77) (i := 3) (lv' := [(3, .int v26)]) dX9_touch_76 rfl rfl (by decide) rfl ?_
            refine J_iconst (pc' := 78) (v := (0 : Int32)) dX9_touch_77 rfl ic_0 ?_
            refine J_istore (pc' := 80) (i := 4) (lv' := [(4, .int (0 : Int32)), (3, .int v26)]) dX9_touch_78 rfl (by decide) rfl ?_
            refine J_iconst (pc' := 81) (v := (0 : Int32)) dX9_touch_80 rfl ic_0 ?_
            refine J_istore (pc' := 83) (i := 5) (lv' := [(5, .int (0 : Int32)), (4, .int (0 : Int32)), (3, .int v26)]) dX9_touch_81 rfl (by decide) rfl ?_
            refine J_sub [2, 1, 0] (lv' := [(3, .int v26), (4, .int (0 : Int32)), (5, .int (0 : Int32))]) rfl ?_
            refine L_X9_touch_L83 j_fu hs h (fun y41 y42 h => ?_)
            refine J_iload (pc' := 137) (i := 4) (n := 0) dX9_touch_135 rfl rfl ?_
            exact J_iret rfl dX9_touch_137 ⟨rfl, Nat.le_refl _⟩ (j_pW h)
          · refine J_icmp_ge (pc' := 71) (tgt := 75) dX9_touch_68 rfl (by decide) (fun c25 => ?_) (fun c25 => ?_)
            · replace h := j_ip c25 h
              refine J_iconst (pc' := 76) (v := (0 : Int32)) dX9_touch_75 rfl ic_0 ?_
              refine J_sub [] (lv' := []) rfl ?_
              exact h28 (0 : Int32) h
            · replace h := j_iq c25 h
              refine J_iconst (pc' := 72) (v := (1 : Int32)) dX9_touch_71 rfl ic_1 ?_
              refine J_goto (pc' := 76) dX9_touch_72 (by decide) ?_
              refine J_sub [] (lv' := []) rfl ?_
              exact h28 (1 : Int32) h
        · replace h := j_iq c20 h
          refine J_aload_n (pc' := 46) (i := 0) (n := 0) dX9_touch_45 rfl rfl rfl ?_
          obtain ⟨q43, e44, h⟩ := bi_inv h
          obtain ⟨c45, h⟩ := j_ck_inv h
          refine J_callV (pc' := 49) (as := []) (rest := []) dX9_touch_46 rfl lk_X9_110 rfl 9 (by decide) rfl (x_o hs) (x_n hs (Nat.le_of_ble_eq_true rfl)) (c_X9_no hs e44) ⟨Nat.le_of_ble_eq_true rfl, Nat.le_of_ble_eq_true rfl⟩ (Nat.le_of_ble_eq_true rfl) ⟨Nat.le_of_ble_eq_true rfl, Nat.le_of_ble_eq_true rfl⟩ (j_kq ?_)
          have g46 : sh_x q43.2.2.2 := j_shE c45 hs
          exact J_iret rfl dX9_touch_49 ⟨rfl, Nat.le_refl _⟩ (j_pW h)
      · replace h := j_ip c15 h
        refine J_aload_n (pc' := 22) (i := 0) (n := 0) dX9_touch_21 rfl rfl rfl ?_
        obtain ⟨q47, e48, h⟩ := bi_inv h
        obtain ⟨c49, h⟩ := j_ck_inv h
        refine J_callV (pc' := 25) (as := []) (rest := []) dX9_touch_22 rfl lk_X9_96 rfl 9 (by decide) rfl (x_o hs) (x_n hs (Nat.le_of_ble_eq_true rfl)) (c_X9_bad hs e48) ⟨Nat.le_of_ble_eq_true rfl, Nat.le_of_ble_eq_true rfl⟩ (Nat.le_of_ble_eq_true rfl) ⟨Nat.le_of_ble_eq_true rfl, Nat.le_of_ble_eq_true rfl⟩ (j_kq ?_)
        have g50 : sh_x q47.2.2.2 := j_shE c49 hs
        exact J_iret rfl dX9_touch_25 ⟨rfl, Nat.le_refl _⟩ (j_pW h)
abbrev JT_X9_countWays (l : Launch) (G : j_G) (r : j_M) : Nat → List (Nat × Value) → List Value → j_M → Prop := JJ l G md_X9_countWays (j_rm 2 (0, 0)) (0, 0) (0, 0) (po none r)
noncomputable def f_X9_countWays_L26 : Nat → j_M → Int32 → Int32 → Int32 → Int32 → (Int32 → j_M → Option j_M) → Option j_M
  | 0, _, _, _, _, _, _ => none
  | n + 1, M, x1, x2, x3, x4, K =>
    if x4 ≤ 0 then (K x4 M) else (a_l M 9 10 x4 fun v9 => (a_l M 9 10 (x4 - (1 : Int32)) fun v11 => (w_l M 9 10 x4 ((v9 * (x2).toInt64) + (v11 * (((10 : Int32) - x2)).toInt64)) fun M13 => (f_X9_countWays_L26 n  M13 x1 x2 x3 (x4 + ((-1) : Int32)) K))))
noncomputable def f_X9_countWays_L17 : Nat → j_M → Int32 → Int32 → Int32 → (Int32 → j_M → Option j_M) → Option j_M
  | 0, _, _, _, _, _ => none
  | n + 1, M, x1, x2, x3, K =>
    if x1 ≤ x3 then (K x3 M) else (f_X9_countWays_L26 j_fu  M x1 x2 x3 (9 : Int32) (fun (y16 : Int32) (M17 : j_M) => (a_l M17 9 10 (0 : Int32) fun v19 => (w_l M17 9 10 (0 : Int32) (v19 * (x2).toInt64) fun M21 => (f_X9_countWays_L17 n  M21 x1 x2 (x3 + (1 : Int32)) K)))))
noncomputable def f_X9_countWays (M : j_M) (x1 : Int32) (x2 : Int32) : Option j_M :=
  tl (j_fl M 9 10 (0 : Int64)) fun M1 => (w_l M1 9 10 (0 : Int32) (1 : Int64) fun M4 => (f_X9_countWays_L17 j_fu  M4 x1 x2 (0 : Int32) (fun (y24 : Int32) (M25 : j_M) => (some M25))))
set_option maxHeartbeats 4000000 in
theorem L_X9_countWays_L26 {l : Launch} {G : j_G}  {r : j_M} : ∀ (n : Nat) {x1 : Int32} {x2 : Int32} {x3 : Int32} {x4 : Int32} {M : j_M} (hs : sh_x M.2.2) {K : Int32 → j_M → Option j_M}, f_X9_countWays_L26 n  M x1 x2 x3 x4 K = some r → (∀ (y4 : Int32) (M1 : j_M), sh_x M1.2.2 → K y4 M1 = some r → JT_X9_countWays l G r 70 [(0, .ref 0), (1, .int x1), (2, .int x2), (3, .int x3)] [] M1) → JT_X9_countWays l G r 26 [(0, .ref 0), (1, .int x1), (2, .int x2), (3, .int x3), (4, .int x4)] [] M := by
  intro n
  induction n with
  | zero =>
    intro x1 x2 x3 x4 M hs K h hK
    rw [f_X9_countWays_L26] at h; cases h
  | succ n ih =>
    intro x1 x2 x3 x4 M hs K h hK
    rw [f_X9_countWays_L26] at h
    refine J_iload (pc' := 28) (i := 4) (n := 4) dX9_countWays_26 rfl rfl ?_
    refine J_if_le (pc' := 31) (tgt := 70) dX9_countWays_28 rfl (by decide) (fun c8 => ?_) (fun c8 => ?_)
    · replace h := j_ip c8 h
      refine J_sub [0, 1, 2, 3] (lv' := [(0, .ref 0), (1, .int x1), (2, .int x2), (3, .int x3)]) rfl ?_
      exact hK x4 M hs h
    · replace h := j_iq c8 h
      refine J_aload_n (pc' := 32) (i := 0) (n := 0) dX9_countWays_31 rfl rfl rfl ?_
      refine J_getR (pc' := 35) (b := 9) dX9_countWays_32 rfl fl_X9_33 rfl (x_o hs) (x_n hs (Nat.le_of_ble_eq_true rfl)) (x_r6 hs) ?_
      refine J_iload (pc' := 37) (i := 4) (n := 4) dX9_countWays_35 rfl rfl ?_
      refine J_aload_n (pc' := 38) (i := 0) (n := 0) dX9_countWays_37 rfl rfl rfl ?_
      refine J_getR (pc' := 41) (b := 9) dX9_countWays_38 rfl fl_X9_33 rfl (x_o hs) (x_n hs (Nat.le_of_ble_eq_true rfl)) (x_r6 hs) ?_
      refine J_iload (pc' := 43) (i := 4) (n := 4) dX9_countWays_41 rfl rfl ?_
      obtain ⟨v9, e10, h⟩ := a_l_inv h
      refine J_lalde (pc' := 44) dX9_countWays_43 rfl (x_s9 hs) (x_n hs (Nat.le_of_ble_eq_true rfl)) e10 ?_
      refine J_iload_n (pc' := 45) (i := 2) (n := 2) dX9_countWays_44 rfl rfl rfl ?_
      refine J_i2l (pc' := 46) dX9_countWays_45 rfl ?_
      refine J_lmul (pc' := 47) dX9_countWays_46 rfl ?_
      refine J_aload_n (pc' := 48) (i := 0) (n := 0) dX9_countWays_47 rfl rfl rfl ?_
      refine J_getR (pc' := 51) (b := 9) dX9_countWays_48 rfl fl_X9_33 rfl (x_o hs) (x_n hs (Nat.le_of_ble_eq_true rfl)) (x_r6 hs) ?_
      refine J_iload (pc' := 53) (i := 4) (n := 4) dX9_countWays_51 rfl rfl ?_
      refine J_iconst (pc' := 54) (v := (1 : Int32)) dX9_countWays_53 rfl ic_1 ?_
      refine J_isub (pc' := 55) dX9_countWays_54 rfl ?_
      obtain ⟨v11, e12, h⟩ := a_l_inv h
      refine J_lalde (pc' := 56) dX9_countWays_55 rfl (x_s9 hs) (x_n hs (Nat.le_of_ble_eq_true rfl)) e12 ?_
      refine J_bipush (pc' := 58) (v := (10 : Int32)) dX9_countWays_56 rfl bp_10 ?_
      refine J_iload_n (pc' := 59) (i := 2) (n := 2) dX9_countWays_58 rfl rfl rfl ?_
      refine J_isub (pc' := 60) dX9_countWays_59 rfl ?_
      refine J_i2l (pc' := 61) dX9_countWays_60 rfl ?_
      refine J_lmul (pc' := 62) dX9_countWays_61 rfl ?_
      refine J_ladd (pc' := 63) dX9_countWays_62 rfl ?_
      obtain ⟨M13, e14, h⟩ := w_l_inv h
      have g15 : sh_x M13.2.2 := j_shL e14.2 hs
      refine J_laste (pc' := 64) dX9_countWays_63 rfl (x_s9 hs) (x_n hs (Nat.le_of_ble_eq_true rfl)) e14 ?_
      refine J_iinc (pc' := 67) (i := 4) (n := 4) (v := (x4 + ((-1) : Int32))) (lv' := [(4, .int (x4 + ((-1) : Int32))), (0, .ref 0), (1, .int x1), (2, .int x2), (3, .int x3)]) dX9_countWays_64 rfl rfl (j_inc _ _ rfl _) (by decide) rfl ?_
      refine J_goto (pc' := 26) dX9_countWays_67 (by decide) ?_
      refine J_sub [1, 2, 3, 4, 0] (lv' := [(0, .ref 0), (1, .int x1), (2, .int x2), (3, .int x3), (4, .int (x4 + ((-1) : Int32)))]) rfl ?_
      exact ih g15 h hK
set_option maxHeartbeats 4000000 in
theorem L_X9_countWays_L17 {l : Launch} {G : j_G}  {r : j_M} : ∀ (n : Nat) {x1 : Int32} {x2 : Int32} {x3 : Int32} {M : j_M} (hs : sh_x M.2.2) {K : Int32 → j_M → Option j_M}, f_X9_countWays_L17 n  M x1 x2 x3 K = some r → (∀ (y3 : Int32) (M1 : j_M), sh_x M1.2.2 → K y3 M1 = some r → JT_X9_countWays l G r 87 [] [] M1) → JT_X9_countWays l G r 17 [(0, .ref 0), (1, .int x1), (2, .int x2), (3, .int x3)] [] M := by
  intro n
  induction n with
  | zero =>
    intro x1 x2 x3 M hs K h hK
    rw [f_X9_countWays_L17] at h; cases h
  | succ n ih =>
    intro x1 x2 x3 M hs K h hK
    rw [f_X9_countWays_L17] at h
    refine J_iload_n (pc' := 18) (i := 3) (n := 3) dX9_countWays_17 rfl rfl rfl ?_
    refine J_iload_n (pc' := 19) (i := 1) (n := 1) dX9_countWays_18 rfl rfl rfl ?_
    refine J_icmp_ge (pc' := 22) (tgt := 87) dX9_countWays_19 rfl (by decide) (fun c7 => ?_) (fun c7 => ?_)
    · replace h := j_ip c7 h
      refine J_sub [] (lv' := []) rfl ?_
      exact hK x3 M hs h
    · replace h := j_iq c7 h
      refine J_bipush (pc' := 24) (v := (9 : Int32)) dX9_countWays_22 rfl bp_9 ?_
      refine J_istore (pc' := 26) (i := 4) (lv' := [(4, .int (9 : Int32)), (0, .ref 0), (1, .int x1), (2, .int x2), (3, .int x3)]) dX9_countWays_24 rfl (by decide) rfl ?_
      refine J_sub [1, 2, 3, 4, 0] (lv' := [(0, .ref 0), (1, .int x1), (2, .int x2), (3, .int x3), (4, .int (9 : Int32))]) rfl ?_
      refine L_X9_countWays_L26 j_fu hs h (fun y16 M17 g18 h => ?_)
      refine J_aload_n (pc' := 71) (i := 0) (n := 0) dX9_countWays_70 rfl rfl rfl ?_
      refine J_getR (pc' := 74) (b := 9) dX9_countWays_71 rfl fl_X9_33 rfl (x_o g18) (x_n g18 (Nat.le_of_ble_eq_true rfl)) (x_r6 g18) ?_
      refine J_iconst (pc' := 75) (v := (0 : Int32)) dX9_countWays_74 rfl ic_0 ?_
      refine J_dup2 (pc' := 76) dX9_countWays_75 rfl rfl rfl ?_
      obtain ⟨v19, e20, h⟩ := a_l_inv h
      refine J_lalde (pc' := 77) dX9_countWays_76 rfl (x_s9 g18) (x_n g18 (Nat.le_of_ble_eq_true rfl)) e20 ?_
      refine J_iload_n (pc' := 78) (i := 2) (n := 2) dX9_countWays_77 rfl rfl rfl ?_
      refine J_i2l (pc' := 79) dX9_countWays_78 rfl ?_
      refine J_lmul (pc' := 80) dX9_countWays_79 rfl ?_
      obtain ⟨M21, e22, h⟩ := w_l_inv h
      have g23 : sh_x M21.2.2 := j_shL e22.2 g18
      refine J_laste (pc' := 81) dX9_countWays_80 rfl (x_s9 g18) (x_n g18 (Nat.le_of_ble_eq_true rfl)) e22 ?_
      refine J_iinc (pc' := 84) (i := 3) (n := 3) (v := (x3 + (1 : Int32))) (lv' := [(3, .int (x3 + (1 : Int32))), (0, .ref 0), (1, .int x1), (2, .int x2)]) dX9_countWays_81 rfl rfl (j_inc _ _ rfl _) (by decide) rfl ?_
      refine J_goto (pc' := 17) dX9_countWays_84 (by decide) ?_
      refine J_sub [1, 2, 3, 0] (lv' := [(0, .ref 0), (1, .int x1), (2, .int x2), (3, .int (x3 + (1 : Int32)))]) rfl ?_
      exact ih g23 h hK
set_option maxHeartbeats 4000000 in
theorem c_X9_countWays {l : Launch} {G : j_G} {M : j_M} {x1 : Int32} {x2 : Int32} (hs : sh_x M.2.2) {r : j_M} (h : f_X9_countWays M x1 x2 = some r) : j_Sp l G md_X9_countWays 2 (0, 0) [.ref 0, .int x1, .int x2] M (po none r) := by
  refine j_Sp.of (by decide) (Nat.le_of_ble_eq_true rfl) ?_
  show JT_X9_countWays l G r 0 [(0, .ref 0), (1, .int x1), (2, .int x2)] [] M
  unfold f_X9_countWays at h
  refine J_aload_n (pc' := 1) (i := 0) (n := 0) dX9_countWays_0 rfl rfl rfl ?_
  refine J_getR (pc' := 4) (b := 9) dX9_countWays_1 rfl fl_X9_33 rfl (x_o hs) (x_n hs (Nat.le_of_ble_eq_true rfl)) (x_r6 hs) ?_
  refine J_lconst (pc' := 5) (v := (0 : Int64)) dX9_countWays_4 rfl rfl ?_
  obtain ⟨M1, e2, h⟩ := tl_inv h
  have g3 : sh_x M1.2.2 := j_shfl e2 hs
  refine J_callS (pc' := 8) (as := [.ref 9, .long (0 : Int64)]) (rest := []) dX9_countWays_5 rfl lk_X9_363 rfl (c_fl (x_s9 hs) (x_n hs (Nat.le_of_ble_eq_true rfl)) (Nat.le_of_ble_eq_true rfl) e2) ⟨Nat.le_of_ble_eq_true rfl, Nat.le_of_ble_eq_true rfl⟩ (Nat.le_of_ble_eq_true rfl) ⟨Nat.le_of_ble_eq_true rfl, Nat.le_of_ble_eq_true rfl⟩ (j_kv ?_)
  refine J_aload_n (pc' := 9) (i := 0) (n := 0) dX9_countWays_8 rfl rfl rfl ?_
  refine J_getR (pc' := 12) (b := 9) dX9_countWays_9 rfl fl_X9_33 rfl (x_o g3) (x_n g3 (Nat.le_of_ble_eq_true rfl)) (x_r6 g3) ?_
  refine J_iconst (pc' := 13) (v := (0 : Int32)) dX9_countWays_12 rfl ic_0 ?_
  refine J_lconst (pc' := 14) (v := (1 : Int64)) dX9_countWays_13 rfl rfl ?_
  obtain ⟨M4, e5, h⟩ := w_l_inv h
  have g6 : sh_x M4.2.2 := j_shL e5.2 g3
  refine J_laste (pc' := 15) dX9_countWays_14 rfl (x_s9 g3) (x_n g3 (Nat.le_of_ble_eq_true rfl)) e5 ?_
  refine J_iconst (pc' := 16) (v := (0 : Int32)) dX9_countWays_15 rfl ic_0 ?_
  refine J_istore_n (pc' := 17) (i := 3) (lv' := [(3, .int (0 : Int32)), (0, .ref 0), (1, .int x1), (2, .int x2)]) dX9_countWays_16 rfl rfl (by decide) rfl ?_
  refine J_sub [1, 2, 3, 0] (lv' := [(0, .ref 0), (1, .int x1), (2, .int x2), (3, .int (0 : Int32))]) rfl ?_
  refine L_X9_countWays_L17 j_fu g6 h (fun y24 M25 g26 h => ?_)
  exact J_vret rfl dX9_countWays_87 ⟨rfl, Nat.le_refl _⟩ (j_pV h)
