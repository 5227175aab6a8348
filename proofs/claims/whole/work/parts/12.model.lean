abbrev JT_X10_apart (l : Launch) (G : j_G) (r : (Int32 × j_M)) : Nat → List (Nat × Value) → List Value → j_M → Prop := JJ l G md_X10_apart (j_rm 3 (0, 0)) (0, 0) (0, 0) (po (some (.int r.1)) r.2)
noncomputable def f_X10_apart_L33 : Nat → j_M → Int32 → Int32 → (Int32 → j_M → Option (Int32 × j_M)) → Option (Int32 × j_M)
  | 0, _, _, _, _ => none
  | n + 1, M, x2, x3, K =>
    if (j_I M 35 14) ≤ x3 then (K x3 M) else (a_i M 42 7 x3 fun v16 => (w_i M 43 7 x3 v16 fun M18 => (f_X10_apart_L33 n  M18 x2 (x3 + (1 : Int32)) K)))
noncomputable def f_X10_apart_L61 : Nat → j_M → Int32 → Int32 → (Int32 → Option (Int32 × j_M)) → Option (Int32 × j_M)
  | 0, _, _, _, _ => none
  | n + 1, M, x2, x3, K =>
    if (600 : Int32) < x3 then (K x3) else ((f_X10_isRowWell M x3 x2).bind fun v25 => (if v25 = 0 then (f_X10_apart_L61 n  M x2 (x3 + (1 : Int32)) K) else (some (x3, M))))
noncomputable def f_X10_apart (M : j_M) (x1 : Int32) (x2 : Int32) : Option (Int32 × j_M) :=
  tl (f_X10_isLane x1) fun v1 => (if v1 = 0 then ((f_X10_bad M ((-2) : Int32)).bind fun q4 => j_ck M q4.2 (some (q4.1, q4.2))) else (tl (f_X10_in (x2).toInt64 (1 : Int64) (9 : Int64)) fun v8 => (if v8 = 0 then ((f_X10_bad M ((-2) : Int32)).bind fun q29 => j_ck M q29.2 (some (q29.1, q29.2))) else ((f_X10_layStart M x1).bind fun q11 => j_ck M q11 (f_X10_apart_L33 j_fu  q11 x2 (0 : Int32) (fun (y21 : Int32) (M22 : j_M) => (f_X10_apart_L61 j_fu  M22 x2 (0 : Int32) (fun (y28 : Int32) => (some (((-1) : Int32), M22))))))))))
set_option maxHeartbeats 4000000 in
theorem L_X10_apart_L33 {l : Launch} {G : j_G}  {r : (Int32 × j_M)} : ∀ (n : Nat) {x2 : Int32} {x3 : Int32} {M : j_M} (hs : sh_m M.2.2) {K : Int32 → j_M → Option (Int32 × j_M)}, f_X10_apart_L33 n  M x2 x3 K = some r → (∀ (y3 : Int32) (M1 : j_M), sh_m M1.2.2 → K y3 M1 = some r → JT_X10_apart l G r 59 [(0, .ref 35), (2, .int x2)] [] M1) → JT_X10_apart l G r 33 [(0, .ref 35), (2, .int x2), (3, .int x3)] [] M := by
  intro n
  induction n with
  | zero =>
    intro x2 x3 M hs K h hK
    rw [f_X10_apart_L33] at h; cases h
  | succ n ih =>
    intro x2 x3 M hs K h hK
    rw [f_X10_apart_L33] at h
    refine J_iload_n (pc' := 34) (i := 3) (n := 2) dX10_apart_33 rfl rfl rfl ?_
    refine J_aload_n (pc' := 35) (i := 0) (n := 0) dX10_apart_34 rfl rfl rfl ?_
    refine J_getI (pc' := 38) dX10_apart_35 rfl fl_X10_171 rfl (m_o hs) (m_n hs (Nat.le_of_ble_eq_true rfl)) ?_
    refine J_icmp_ge (pc' := 41) (tgt := 59) dX10_apart_38 rfl (by decide) (fun c15 => ?_) (fun c15 => ?_)
    · replace h := j_ip c15 h
      refine J_sub [0, 1] (lv' := [(0, .ref 35), (2, .int x2)]) rfl ?_
      exact hK x3 M hs h
    · replace h := j_iq c15 h
      refine J_aload_n (pc' := 42) (i := 0) (n := 0) dX10_apart_41 rfl rfl rfl ?_
      refine J_getR (pc' := 45) (b := 43) dX10_apart_42 rfl fl_X10_36 rfl (m_o hs) (m_n hs (Nat.le_of_ble_eq_true rfl)) (m_r12 hs) ?_
      refine J_iload_n (pc' := 46) (i := 3) (n := 2) dX10_apart_45 rfl rfl rfl ?_
      refine J_aload_n (pc' := 47) (i := 0) (n := 0) dX10_apart_46 rfl rfl rfl ?_
      refine J_getR (pc' := 50) (b := 42) dX10_apart_47 rfl fl_X10_33 rfl (m_o hs) (m_n hs (Nat.le_of_ble_eq_true rfl)) (m_r11 hs) ?_
      refine J_iload_n (pc' := 51) (i := 3) (n := 2) dX10_apart_50 rfl rfl rfl ?_
      obtain ⟨v16, e17, h⟩ := a_i_inv h
      refine J_ialde (pc' := 52) dX10_apart_51 rfl (m_s42 hs) (m_n hs (Nat.le_of_ble_eq_true rfl)) e17 ?_
      obtain ⟨M18, e19, h⟩ := w_i_inv h
      have g20 : sh_m M18.2.2 := j_shI e19.2 hs
      refine J_iaste (pc' := 53) dX10_apart_52 rfl (m_s43 hs) (m_n hs (Nat.le_of_ble_eq_true rfl)) e19 ?_
      refine J_iinc (pc' := 56) (i := 3) (n := 2) (v := (x3 + (1 : Int32))) (lv' := [(3, .int (x3 + (1 : Int32))), (0, .ref 35), (2, .int x2)]) dX10_apart_53 rfl rfl (j_inc _ _ rfl _) (by decide) rfl ?_
      refine J_goto (pc' := 33) dX10_apart_56 (by decide) ?_
      refine J_sub [1, 2, 0] (lv' := [(0, .ref 35), (2, .int x2), (3, .int (x3 + (1 : Int32)))]) rfl ?_
      exact ih g20 h hK
set_option maxHeartbeats 4000000 in
theorem L_X10_apart_L61 {l : Launch} {G : j_G}  {r : (Int32 × j_M)} : ∀ (n : Nat) {x2 : Int32} {x3 : Int32} {M : j_M} (hs : sh_m M.2.2) {K : Int32 → Option (Int32 × j_M)}, f_X10_apart_L61 n  M x2 x3 K = some r → (∀ (y3 : Int32), K y3 = some r → JT_X10_apart l G r 85 [] [] M) → JT_X10_apart l G r 61 [(0, .ref 35), (2, .int x2), (3, .int x3)] [] M := by
  intro n
  induction n with
  | zero =>
    intro x2 x3 M hs K h hK
    rw [f_X10_apart_L61] at h; cases h
  | succ n ih =>
    intro x2 x3 M hs K h hK
    rw [f_X10_apart_L61] at h
    refine J_iload_n (pc' := 62) (i := 3) (n := 2) dX10_apart_61 rfl rfl rfl ?_
    refine J_sipush (pc' := 65) (v := (600 : Int32)) dX10_apart_62 rfl sp_600 ?_
    refine J_icmp_gt (pc' := 68) (tgt := 85) dX10_apart_65 rfl (by decide) (fun c24 => ?_) (fun c24 => ?_)
    · replace h := j_ip c24 h
      refine J_sub [] (lv' := []) rfl ?_
      exact hK x3  h
    · replace h := j_iq c24 h
      refine J_aload_n (pc' := 69) (i := 0) (n := 0) dX10_apart_68 rfl rfl rfl ?_
      refine J_iload_n (pc' := 70) (i := 3) (n := 2) dX10_apart_69 rfl rfl rfl ?_
      refine J_iload_n (pc' := 71) (i := 2) (n := 1) dX10_apart_70 rfl rfl rfl ?_
      obtain ⟨v25, e26, h⟩ := bi_inv h
      refine J_callV (pc' := 74) (as := [.int x3, .int x2]) (rest := []) dX10_apart_71 rfl lk_X10_183 rfl 10 (by decide) rfl (m_o hs) (m_n hs (Nat.le_of_ble_eq_true rfl)) (c_X10_isRowWell hs e26) ⟨Nat.le_of_ble_eq_true rfl, Nat.le_of_ble_eq_true rfl⟩ (Nat.le_of_ble_eq_true rfl) ⟨Nat.le_of_ble_eq_true rfl, Nat.le_of_ble_eq_true rfl⟩ (j_kq ?_)
      refine J_if_eq (pc' := 77) (tgt := 79) dX10_apart_74 rfl (by decide) (fun c27 => ?_) (fun c27 => ?_)
      · replace h := j_ip c27 h
        refine J_iinc (pc' := 82) (i := 3) (n := 2) (v := (x3 + (1 : Int32))) (lv' := [(3, .int (x3 + (1 : Int32))), (0, .ref 35), (2, .int x2)]) dX10_apart_79 rfl rfl (j_inc _ _ rfl _) (by decide) rfl ?_
        refine J_goto (pc' := 61) dX10_apart_82 (by decide) ?_
        refine J_sub [1, 2, 0] (lv' := [(0, .ref 35), (2, .int x2), (3, .int (x3 + (1 : Int32)))]) rfl ?_
        exact ih hs h hK
      · replace h := j_iq c27 h
        refine J_iload_n (pc' := 78) (i := 3) (n := 2) dX10_apart_77 rfl rfl rfl ?_
        exact J_iret rfl dX10_apart_78 ⟨rfl, Nat.le_refl _⟩ (j_pW h)
set_option maxHeartbeats 4000000 in
theorem c_X10_apart {l : Launch} {G : j_G} {M : j_M} {x1 : Int32} {x2 : Int32} (hs : sh_m M.2.2) {r : (Int32 × j_M)} (h : f_X10_apart M x1 x2 = some r) : j_Sp l G md_X10_apart 3 (0, 0) [.ref 35, .int x1, .int x2] M (po (some (.int r.1)) r.2) := by
  refine j_Sp.of (by decide) (Nat.le_of_ble_eq_true rfl) ?_
  show JT_X10_apart l G r 0 [(0, .ref 35), (1, .int x1), (2, .int x2)] [] M
  unfold f_X10_apart at h
  refine J_iload_n (pc' := 1) (i := 1) (n := 1) dX10_apart_0 rfl rfl rfl ?_
  obtain ⟨v1, e2, h⟩ := tl_inv h
  refine J_callS (pc' := 4) (as := [.int x1]) (rest := []) dX10_apart_1 rfl lk_X10_78 rfl (c_X10_isLane e2) ⟨Nat.le_of_ble_eq_true rfl, Nat.le_of_ble_eq_true rfl⟩ (Nat.le_of_ble_eq_true rfl) ⟨Nat.le_of_ble_eq_true rfl, Nat.le_of_ble_eq_true rfl⟩ (j_kq ?_)
  refine J_if_eq (pc' := 7) (tgt := 19) dX10_apart_4 rfl (by decide) (fun c3 => ?_) (fun c3 => ?_)
  · replace h := j_ip c3 h
    refine J_aload_n (pc' := 20) (i := 0) (n := 0) dX10_apart_19 rfl rfl rfl ?_
    refine J_bipush (pc' := 22) (v := ((-2) : Int32)) dX10_apart_20 rfl bp_m2 ?_
    obtain ⟨q4, e5, h⟩ := bi_inv h
    obtain ⟨c6, h⟩ := j_ck_inv h
    refine J_callV (pc' := 25) (as := [.int ((-2) : Int32)]) (rest := []) dX10_apart_22 rfl lk_X10_84 rfl 10 (by decide) rfl (m_o hs) (m_n hs (Nat.le_of_ble_eq_true rfl)) (c_X10_bad hs e5) ⟨Nat.le_of_ble_eq_true rfl, Nat.le_of_ble_eq_true rfl⟩ (Nat.le_of_ble_eq_true rfl) ⟨Nat.le_of_ble_eq_true rfl, Nat.le_of_ble_eq_true rfl⟩ (j_kq ?_)
    have g7 : sh_m q4.2.2.2 := j_shE c6 hs
    exact J_iret rfl dX10_apart_25 ⟨rfl, Nat.le_refl _⟩ (j_pW h)
  · replace h := j_iq c3 h
    refine J_iload_n (pc' := 8) (i := 2) (n := 2) dX10_apart_7 rfl rfl rfl ?_
    refine J_i2l (pc' := 9) dX10_apart_8 rfl ?_
    refine J_lconst (pc' := 10) (v := (1 : Int64)) dX10_apart_9 rfl rfl ?_
    refine J_ldc2 (pc' := 13) (v := (9 : Int64)) dX10_apart_10 rfl wd_1146 ?_
    obtain ⟨v8, e9, h⟩ := tl_inv h
    refine J_callS (pc' := 16) (as := [.long (x2).toInt64, .long (1 : Int64), .long (9 : Int64)]) (rest := []) dX10_apart_13 rfl lk_X10_68 rfl (c_X10_in e9) ⟨Nat.le_of_ble_eq_true rfl, Nat.le_of_ble_eq_true rfl⟩ (Nat.le_of_ble_eq_true rfl) ⟨Nat.le_of_ble_eq_true rfl, Nat.le_of_ble_eq_true rfl⟩ (j_kq ?_)
    refine J_if_ne (pc' := 19) (tgt := 26) dX10_apart_16 rfl (by decide) (fun c10 => ?_) (fun c10 => ?_)
    · replace h := j_iq c10 h
      refine J_aload_n (pc' := 27) (i := 0) (n := 0) dX10_apart_26 rfl rfl rfl ?_
      refine J_iload_n (pc' := 28) (i := 1) (n := 1) dX10_apart_27 rfl rfl rfl ?_
      obtain ⟨q11, e12, h⟩ := bi_inv h
      obtain ⟨c13, h⟩ := j_ck_inv h
      refine J_callV (pc' := 31) (as := [.int x1]) (rest := []) dX10_apart_28 rfl lk_X10_176 rfl 10 (by decide) rfl (m_o hs) (m_n hs (Nat.le_of_ble_eq_true rfl)) (c_X10_layStart hs e12) ⟨Nat.le_of_ble_eq_true rfl, Nat.le_of_ble_eq_true rfl⟩ (Nat.le_of_ble_eq_true rfl) ⟨Nat.le_of_ble_eq_true rfl, Nat.le_of_ble_eq_true rfl⟩ (j_kv ?_)
      have g14 : sh_m q11.2.2 := j_shE c13 hs
      refine J_iconst (pc' := 32) (v := (0 : Int32)) dX10_apart_31 rfl ic_0 ?_
      refine J_istore_n (pc' := 33) (i := 3) (lv' := [(3, .int (0 : Int32)), (0, .ref 35), (1, .int x1), (2, .int x2)]) dX10_apart_32 rfl rfl (by decide) rfl ?_
      refine J_sub [1, 3, 0] (lv' := [(0, .ref 35), (2, .int x2), (3, .int (0 : Int32))]) rfl ?_
      refine L_X10_apart_L33 j_fu g14 h (fun y21 M22 g23 h => ?_)
      refine J_iconst (pc' := 60) (v := (0 : Int32)) dX10_apart_59 rfl ic_0 ?_
      refine J_istore_n (pc' := 61) (i := 3) (lv' := [(3, .int (0 : Int32)), (0, .ref 35), (2, .int x2)]) dX10_apart_60 rfl rfl (by decide) rfl ?_
      refine J_sub [1, 2, 0] (lv' := [(0, .ref 35), (2, .int x2), (3, .int (0 : Int32))]) rfl ?_
      refine L_X10_apart_L61 j_fu g23 h (fun y28 h => ?_)
      refine J_iconst (pc' := 86) (v := ((-1) : Int32)) dX10_apart_85 rfl ic_m1 ?_
      exact J_iret rfl dX10_apart_86 ⟨rfl, Nat.le_refl _⟩ (j_pW h)
    · replace h := j_ip c10 h
      refine J_aload_n (pc' := 20) (i := 0) (n := 0) dX10_apart_19 rfl rfl rfl ?_
      refine J_bipush (pc' := 22) (v := ((-2) : Int32)) dX10_apart_20 rfl bp_m2 ?_
      obtain ⟨q29, e30, h⟩ := bi_inv h
      obtain ⟨c31, h⟩ := j_ck_inv h
      refine J_callV (pc' := 25) (as := [.int ((-2) : Int32)]) (rest := []) dX10_apart_22 rfl lk_X10_84 rfl 10 (by decide) rfl (m_o hs) (m_n hs (Nat.le_of_ble_eq_true rfl)) (c_X10_bad hs e30) ⟨Nat.le_of_ble_eq_true rfl, Nat.le_of_ble_eq_true rfl⟩ (Nat.le_of_ble_eq_true rfl) ⟨Nat.le_of_ble_eq_true rfl, Nat.le_of_ble_eq_true rfl⟩ (j_kq ?_)
      have g32 : sh_m q29.2.2.2 := j_shE c31 hs
      exact J_iret rfl dX10_apart_25 ⟨rfl, Nat.le_refl _⟩ (j_pW h)
abbrev JT_X10_note (l : Launch) (G : j_G) (r : (Int32 × j_M)) : Nat → List (Nat × Value) → List Value → j_M → Prop := JJ l G md_X10_note (j_rm 3 (0, 0)) (0, 0) (0, 0) (po (some (.int r.1)) r.2)
noncomputable def f_X10_note (M : j_M) (x1 : Int32) (x2 : Int32) (x3 : Int32) (x4 : Int32) (x5 : Int32) : Option (Int32 × j_M) :=
  (f_X10_isOne M x1).bind fun v1 => (if v1 = 0 then ((f_X10_bad M ((-2) : Int32)).bind fun q4 => j_ck M q4.2 (some (q4.1, q4.2))) else (tl (f_X10_in (x2).toInt64 (1 : Int64) (200 : Int64)) fun v8 => (if v8 = 0 then ((f_X10_bad M ((-2) : Int32)).bind fun q11 => j_ck M q11.2 (some (q11.1, q11.2))) else (tl (f_X10_in (x3).toInt64 (0 : Int64) (90 : Int64)) fun v15 => (if v15 = 0 then ((f_X10_bad M ((-2) : Int32)).bind fun q18 => j_ck M q18.2 (some (q18.1, q18.2))) else (tl (f_X10_in (x4).toInt64 (0 : Int64) (6 : Int64)) fun v22 => (if v22 = 0 then ((f_X10_bad M ((-2) : Int32)).bind fun q25 => j_ck M q25.2 (some (q25.1, q25.2))) else (tl (f_X10_in (x5).toInt64 (0 : Int64) (6 : Int64)) fun v29 => (if v29 = 0 then ((f_X10_bad M ((-2) : Int32)).bind fun q63 => j_ck M q63.2 (some (q63.1, q63.2))) else (a_i M 36 250 (2 : Int32) fun v32 => (if v32 = (6 : Int32) then ((f_X10_full M).bind fun q59 => j_ck M q59.2 (some (q59.1, q59.2))) else (a_i M 36 250 (2 : Int32) fun v35 => (w_i M 36 250 ((44 : Int32) + ((5 : Int32) * v35)) x1 fun M37 => (w_i M37 36 250 (((44 : Int32) + ((5 : Int32) * v35)) + (1 : Int32)) x2 fun M40 => (w_i M40 36 250 (((44 : Int32) + ((5 : Int32) * v35)) + (2 : Int32)) x3 fun M43 => (w_i M43 36 250 (((44 : Int32) + ((5 : Int32) * v35)) + (3 : Int32)) x4 fun M46 => (w_i M46 36 250 (((44 : Int32) + ((5 : Int32) * v35)) + (4 : Int32)) x5 fun M49 => (a_i M49 36 250 (2 : Int32) fun v52 => (w_i M49 36 250 (2 : Int32) (v52 + (1 : Int32)) fun M54 => (a_i M54 36 250 (2 : Int32) fun v57 => (some (v57, M54))))))))))))))))))))))
set_option maxHeartbeats 4000000 in
theorem c_X10_note {l : Launch} {G : j_G} {M : j_M} {x1 : Int32} {x2 : Int32} {x3 : Int32} {x4 : Int32} {x5 : Int32} (hs : sh_m M.2.2) {r : (Int32 × j_M)} (h : f_X10_note M x1 x2 x3 x4 x5 = some r) : j_Sp l G md_X10_note 3 (0, 0) [.ref 35, .int x1, .int x2, .int x3, .int x4, .int x5] M (po (some (.int r.1)) r.2) := by
  refine j_Sp.of (by decide) (Nat.le_of_ble_eq_true rfl) ?_
  show JT_X10_note l G r 0 [(0, .ref 35), (1, .int x1), (2, .int x2), (3, .int x3), (4, .int x4), (5, .int x5)] [] M
  unfold f_X10_note at h
  refine J_aload_n (pc' := 1) (i := 0) (n := 0) dX10_note_0 rfl rfl rfl ?_
  refine J_iload_n (pc' := 2) (i := 1) (n := 1) dX10_note_1 rfl rfl rfl ?_
  obtain ⟨v1, e2, h⟩ := bi_inv h
  refine J_callV (pc' := 5) (as := [.int x1]) (rest := []) dX10_note_2 rfl lk_X10_132 rfl 10 (by decide) rfl (m_o hs) (m_n hs (Nat.le_of_ble_eq_true rfl)) (c_X10_isOne hs e2) ⟨Nat.le_of_ble_eq_true rfl, Nat.le_of_ble_eq_true rfl⟩ (Nat.le_of_ble_eq_true rfl) ⟨Nat.le_of_ble_eq_true rfl, Nat.le_of_ble_eq_true rfl⟩ (j_kq ?_)
  refine J_if_eq (pc' := 8) (tgt := 58) dX10_note_5 rfl (by decide) (fun c3 => ?_) (fun c3 => ?_)
  · replace h := j_ip c3 h
    refine J_aload_n (pc' := 59) (i := 0) (n := 0) dX10_note_58 rfl rfl rfl ?_
    refine J_bipush (pc' := 61) (v := ((-2) : Int32)) dX10_note_59 rfl bp_m2 ?_
    obtain ⟨q4, e5, h⟩ := bi_inv h
    obtain ⟨c6, h⟩ := j_ck_inv h
    refine J_callV (pc' := 64) (as := [.int ((-2) : Int32)]) (rest := []) dX10_note_61 rfl lk_X10_84 rfl 10 (by decide) rfl (m_o hs) (m_n hs (Nat.le_of_ble_eq_true rfl)) (c_X10_bad hs e5) ⟨Nat.le_of_ble_eq_true rfl, Nat.le_of_ble_eq_true rfl⟩ (Nat.le_of_ble_eq_true rfl) ⟨Nat.le_of_ble_eq_true rfl, Nat.le_of_ble_eq_true rfl⟩ (j_kq ?_)
    have g7 : sh_m q4.2.2.2 := j_shE c6 hs
    exact J_iret rfl dX10_note_64 ⟨rfl, Nat.le_refl _⟩ (j_pW h)
  · replace h := j_iq c3 h
    refine J_iload_n (pc' := 9) (i := 2) (n := 2) dX10_note_8 rfl rfl rfl ?_
    refine J_i2l (pc' := 10) dX10_note_9 rfl ?_
    refine J_lconst (pc' := 11) (v := (1 : Int64)) dX10_note_10 rfl rfl ?_
    refine J_ldc2 (pc' := 14) (v := (200 : Int64)) dX10_note_11 rfl wd_1167 ?_
    obtain ⟨v8, e9, h⟩ := tl_inv h
    refine J_callS (pc' := 17) (as := [.long (x2).toInt64, .long (1 : Int64), .long (200 : Int64)]) (rest := []) dX10_note_14 rfl lk_X10_68 rfl (c_X10_in e9) ⟨Nat.le_of_ble_eq_true rfl, Nat.le_of_ble_eq_true rfl⟩ (Nat.le_of_ble_eq_true rfl) ⟨Nat.le_of_ble_eq_true rfl, Nat.le_of_ble_eq_true rfl⟩ (j_kq ?_)
    refine J_if_eq (pc' := 20) (tgt := 58) dX10_note_17 rfl (by decide) (fun c10 => ?_) (fun c10 => ?_)
    · replace h := j_ip c10 h
      refine J_aload_n (pc' := 59) (i := 0) (n := 0) dX10_note_58 rfl rfl rfl ?_
      refine J_bipush (pc' := 61) (v := ((-2) : Int32)) dX10_note_59 rfl bp_m2 ?_
      obtain ⟨q11, e12, h⟩ := bi_inv h
      obtain ⟨c13, h⟩ := j_ck_inv h
      refine J_callV (pc' := 64) (as := [.int ((-2) : Int32)]) (rest := []) dX10_note_61 rfl lk_X10_84 rfl 10 (by decide) rfl (m_o hs) (m_n hs (Nat.le_of_ble_eq_true rfl)) (c_X10_bad hs e12) ⟨Nat.le_of_ble_eq_true rfl, Nat.le_of_ble_eq_true rfl⟩ (Nat.le_of_ble_eq_true rfl) ⟨Nat.le_of_ble_eq_true rfl, Nat.le_of_ble_eq_true rfl⟩ (j_kq ?_)
      have g14 : sh_m q11.2.2.2 := j_shE c13 hs
      exact J_iret rfl dX10_note_64 ⟨rfl, Nat.le_refl _⟩ (j_pW h)
    · replace h := j_iq c10 h
      refine J_iload_n (pc' := 21) (i := 3) (n := 3) dX10_note_20 rfl rfl rfl ?_
      refine J_i2l (pc' := 22) dX10_note_21 rfl ?_
      refine J_lconst (pc' := 23) (v := (0 : Int64)) dX10_note_22 rfl rfl ?_
      refine J_ldc2 (pc' := 26) (v := (90 : Int64)) dX10_note_23 rfl wd_1019 ?_
      obtain ⟨v15, e16, h⟩ := tl_inv h
      refine J_callS (pc' := 29) (as := [.long (x3).toInt64, .long (0 : Int64), .long (90 : Int64)]) (rest := []) dX10_note_26 rfl lk_X10_68 rfl (c_X10_in e16) ⟨Nat.le_of_ble_eq_true rfl, Nat.le_of_ble_eq_true rfl⟩ (Nat.le_of_ble_eq_true rfl) ⟨Nat.le_of_ble_eq_true rfl, Nat.le_of_ble_eq_true rfl⟩ (j_kq ?_)
      refine J_if_eq (pc' := 32) (tgt := 58) dX10_note_29 rfl (by decide) (fun c17 => ?_) (fun c17 => ?_)
      · replace h := j_ip c17 h
        refine J_aload_n (pc' := 59) (i := 0) (n := 0) dX10_note_58 rfl rfl rfl ?_
        refine J_bipush (pc' := 61) (v := ((-2) : Int32)) dX10_note_59 rfl bp_m2 ?_
        obtain ⟨q18, e19, h⟩ := bi_inv h
        obtain ⟨c20, h⟩ := j_ck_inv h
        refine J_callV (pc' := 64) (as := [.int ((-2) : Int32)]) (rest := []) dX10_note_61 rfl lk_X10_84 rfl 10 (by decide) rfl (m_o hs) (m_n hs (Nat.le_of_ble_eq_true rfl)) (c_X10_bad hs e19) ⟨Nat.le_of_ble_eq_true rfl, Nat.le_of_ble_eq_true rfl⟩ (Nat.le_of_ble_eq_true rfl) ⟨Nat.le_of_ble_eq_true rfl, Nat.le_of_ble_eq_true rfl⟩ (j_kq ?_)
        have g21 : sh_m q18.2.2.2 := j_shE c20 hs
        exact J_iret rfl dX10_note_64 ⟨rfl, Nat.le_refl _⟩ (j_pW h)
      · replace h := j_iq c17 h
        refine J_iload (pc' := 34) (i := 4) (n := 4) dX10_note_32 rfl rfl ?_
        refine J_i2l (pc' := 35) dX10_note_34 rfl ?_
        refine J_lconst (pc' := 36) (v := (0 : Int64)) dX10_note_35 rfl rfl ?_
        refine J_ldc2 (pc' := 39) (v := (6 : Int64)) dX10_note_36 rfl wd_1168 ?_
        obtain ⟨v22, e23, h⟩ := tl_inv h
        refine J_callS (pc' := 42) (as := [.long (x4).toInt64, .long (0 : Int64), .long (6 : Int64)]) (rest := []) dX10_note_39 rfl lk_X10_68 rfl (c_X10_in e23) ⟨Nat.le_of_ble_eq_true rfl, Nat.le_of_ble_eq_true rfl⟩ (Nat.le_of_ble_eq_true rfl) ⟨Nat.le_of_ble_eq_true rfl, Nat.le_of_ble_eq_true rfl⟩ (j_kq ?_)
        refine J_if_eq (pc' := 45) (tgt := 58) dX10_note_42 rfl (by decide) (fun c24 => ?_) (fun c24 => ?_)
        · replace h := j_ip c24 h
          refine J_aload_n (pc' := 59) (i := 0) (n := 0) dX10_note_58 rfl rfl rfl ?_
          refine J_bipush (pc' := 61) (v := ((-2) : Int32)) dX10_note_59 rfl bp_m2 ?_
          obtain ⟨q25, e26, h⟩ := bi_inv h
          obtain ⟨c27, h⟩ := j_ck_inv h
          refine J_callV (pc' := 64) (as := [.int ((-2) : Int32)]) (rest := []) dX10_note_61 rfl lk_X10_84 rfl 10 (by decide) rfl (m_o hs) (m_n hs (Nat.le_of_ble_eq_true rfl)) (c_X10_bad hs e26) ⟨Nat.le_of_ble_eq_true rfl, Nat.le_of_ble_eq_true rfl⟩ (Nat.le_of_ble_eq_true rfl) ⟨Nat.le_of_ble_eq_true rfl, Nat.le_of_ble_eq_true rfl⟩ (j_kq ?_)
          have g28 : sh_m q25.2.2.2 := j_shE c27 hs
          exact J_iret rfl dX10_note_64 ⟨rfl, Nat.le_refl _⟩ (j_pW h)
        · replace h := j_iq c24 h
          refine J_iload (pc' := 47) (i := 5) (n := 5) dX10_note_45 rfl rfl ?_
          refine J_i2l (pc' := 48) dX10_note_47 rfl ?_
          refine J_lconst (pc' := 49) (v := (0 : Int64)) dX10_note_48 rfl rfl ?_
          refine J_ldc2 (pc' := 52) (v := (6 : Int64)) dX10_note_49 rfl wd_1168 ?_
          obtain ⟨v29, e30, h⟩ := tl_inv h
          refine J_callS (pc' := 55) (as := [.long (x5).toInt64, .long (0 : Int64), .long (6 : Int64)]) (rest := []) dX10_note_52 rfl lk_X10_68 rfl (c_X10_in e30) ⟨Nat.le_of_ble_eq_true rfl, Nat.le_of_ble_eq_true rfl⟩ (Nat.le_of_ble_eq_true rfl) ⟨Nat.le_of_ble_eq_true rfl, Nat.le_of_ble_eq_true rfl⟩ (j_kq ?_)
          refine J_if_ne (pc' := 58) (tgt := 65) dX10_note_55 rfl (by decide) (fun c31 => ?_) (fun c31 => ?_)
          · replace h := j_iq c31 h
            refine J_aload_n (pc' := 66) (i := 0) (n := 0) dX10_note_65 rfl rfl rfl ?_
            refine J_getR (pc' := 69) (b := 36) dX10_note_66 rfl fl_X10_7 rfl (m_o hs) (m_n hs (Nat.le_of_ble_eq_true rfl)) (m_r0 hs) ?_
            refine J_iconst (pc' := 70) (v := (2 : Int32)) dX10_note_69 rfl ic_2 ?_
            obtain ⟨v32, e33, h⟩ := a_i_inv h
            refine J_ialde (pc' := 71) dX10_note_70 rfl (m_s36 hs) (m_n hs (Nat.le_of_ble_eq_true rfl)) e33 ?_
            refine J_bipush (pc' := 73) (v := (6 : Int32)) dX10_note_71 rfl bp_6 ?_
            refine J_icmp_ne (pc' := 76) (tgt := 81) dX10_note_73 rfl (by decide) (fun c34 => ?_) (fun c34 => ?_)
            · replace h := j_iq c34 h
              refine J_bipush (pc' := 83) (v := (44 : Int32)) dX10_note_81 rfl bp_44 ?_
              refine J_iconst (pc' := 84) (v := (5 : Int32)) dX10_note_83 rfl ic_5 ?_
              refine J_aload_n (pc' := 85) (i := 0) (n := 0) dX10_note_84 rfl rfl rfl ?_
              refine J_getR (pc' := 88) (b := 36) dX10_note_85 rfl fl_X10_7 rfl (m_o hs) (m_n hs (Nat.le_of_ble_eq_true rfl)) (m_r0 hs) ?_
              refine J_iconst (pc' := 89) (v := (2 : Int32)) dX10_note_88 rfl ic_2 ?_
              obtain ⟨v35, e36, h⟩ := a_i_inv h
              refine J_ialde (pc' := 90) dX10_note_89 rfl (m_s36 hs) (m_n hs (Nat.le_of_ble_eq_true rfl)) e36 ?_
              refine J_imul (pc' := 91) dX10_note_90 rfl ?_
              refine J_iadd (pc' := 92) dX10_note_91 rfl ?_
              refine J_istore (pc' := 94) (i := 6) (lv' := [(6, .int ((44 : Int32) + ((5 : Int32) * v35))), (0, .ref 35), (1, .int x1), (2, .int x2), (3, .int x3), (4, .int x4), (5, .int x5)]) dX10_note_92 rfl (by decide) rfl ?_
              refine J_aload_n (pc' := 95) (i := 0) (n := 1) dX10_note_94 rfl rfl rfl ?_
              refine J_getR (pc' := 98) (b := 36) dX10_note_95 rfl fl_X10_7 rfl (m_o hs) (m_n hs (Nat.le_of_ble_eq_true rfl)) (m_r0 hs) ?_
              refine J_iload (pc' := 100) (i := 6) (n := 0) dX10_note_98 rfl rfl ?_
              refine J_iload_n (pc' := 101) (i := 1) (n := 2) dX10_note_100 rfl rfl rfl ?_
              obtain ⟨M37, e38, h⟩ := w_i_inv h
              have g39 : sh_m M37.2.2 := j_shI e38.2 hs
              refine J_iaste (pc' := 102) dX10_note_101 rfl (m_s36 hs) (m_n hs (Nat.le_of_ble_eq_true rfl)) e38 ?_
              refine J_aload_n (pc' := 103) (i := 0) (n := 1) dX10_note_102 rfl rfl rfl ?_
              refine J_getR (pc' := 106) (b := 36) dX10_note_103 rfl fl_X10_7 rfl (m_o g39) (m_n g39 (Nat.le_of_ble_eq_true rfl)) (m_r0 g39) ?_
              refine J_iload (pc' := 108) (i := 6) (n := 0) dX10_note_106 rfl rfl ?_
              refine J_iconst (pc' := 109) (v := (1 : Int32)) dX10_note_108 rfl ic_1 ?_
              refine J_iadd (pc' := 110) dX10_note_109 rfl ?_
              refine J_iload_n (pc' := 111) (i := 2) (n := 3) dX10_note_110 rfl rfl rfl ?_
              obtain ⟨M40, e41, h⟩ := w_i_inv h
              have g42 : sh_m M40.2.2 := j_shI e41.2 g39
              refine J_iaste (pc' := 112) dX10_note_111 rfl (m_s36 g39) (m_n g39 (Nat.le_of_ble_eq_true rfl)) e41 ?_
              refine J_aload_n (pc' := 113) (i := 0) (n := 1) dX10_note_112 rfl rfl rfl ?_
              refine J_getR (pc' := 116) (b := 36) dX10_note_113 rfl fl_X10_7 rfl (m_o g42) (m_n g42 (Nat.le_of_ble_eq_true rfl)) (m_r0 g42) ?_
              refine J_iload (pc' := 118) (i := 6) (n := 0) dX10_note_116 rfl rfl ?_
              refine J_iconst (pc' := 119) (v := (2 : Int32)) dX10_note_118 rfl ic_2 ?_
              refine J_iadd (pc' := 120) dX10_note_119 rfl ?_
              refine J_iload_n (pc' := 121) (i := 3) (n := 4) dX10_note_120 rfl rfl rfl ?_
              obtain ⟨M43, e44, h⟩ := w_i_inv h
              have g45 : sh_m M43.2.2 := j_shI e44.2 g42
              refine J_iaste (pc' := 122) dX10_note_121 rfl (m_s36 g42) (m_n g42 (Nat.le_of_ble_eq_true rfl)) e44 ?_
              refine J_aload_n (pc' := 123) (i := 0) (n := 1) dX10_note_122 rfl rfl rfl ?_
              refine J_getR (pc' := 126) (b := 36) dX10_note_123 rfl fl_X10_7 rfl (m_o g45) (m_n g45 (Nat.le_of_ble_eq_true rfl)) (m_r0 g45) ?_
              refine J_iload (pc' := 128) (i := 6) (n := 0) dX10_note_126 rfl rfl ?_
              refine J_iconst (pc' := 129) (v := (3 : Int32)) dX10_note_128 rfl ic_3 ?_
              refine J_iadd (pc' := 130) dX10_note_129 rfl ?_
              refine J_iload (pc' := 132) (i := 4) (n := 5) dX10_note_130 rfl rfl ?_
              obtain ⟨M46, e47, h⟩ := w_i_inv h
              have g48 : sh_m M46.2.2 := j_shI e47.2 g45
              refine J_iaste (pc' := 133) dX10_note_132 rfl (m_s36 g45) (m_n g45 (Nat.le_of_ble_eq_true rfl)) e47 ?_
              refine J_aload_n (pc' := 134) (i := 0) (n := 1) dX10_note_133 rfl rfl rfl ?_
              refine J_getR (pc' := 137) (b := 36) dX10_note_134 rfl fl_X10_7 rfl (m_o g48) (m_n g48 (Nat.le_of_ble_eq_true rfl)) (m_r0 g48) ?_
              refine J_iload (pc' := 139) (i := 6) (n := 0) dX10_note_137 rfl rfl ?_
              refine J_iconst (pc' := 140) (v := (4 : Int32)) dX10_note_139 rfl ic_4 ?_
              refine J_iadd (pc' := 141) dX10_note_140 rfl ?_
              refine J_iload (pc' := 143) (i := 5) (n := 6) dX10_note_141 rfl rfl ?_
              obtain ⟨M49, e50, h⟩ := w_i_inv h
              have g51 : sh_m M49.2.2 := j_shI e50.2 g48
              refine J_iaste (pc' := 144) dX10_note_143 rfl (m_s36 g48) (m_n g48 (Nat.le_of_ble_eq_true rfl)) e50 ?_
              refine J_aload_n (pc' := 145) (i := 0) (n := 1) dX10_note_144 rfl rfl rfl ?_
              refine J_getR (pc' := 148) (b := 36) dX10_note_145 rfl fl_X10_7 rfl (m_o g51) (m_n g51 (Nat.le_of_ble_eq_true rfl)) (m_r0 g51) ?_
              refine J_iconst (pc' := 149) (v := (2 : Int32)) dX10_note_148 rfl ic_2 ?_
              refine J_dup2 (pc' := 150) dX10_note_149 rfl rfl rfl ?_
              obtain ⟨v52, e53, h⟩ := a_i_inv h
              refine J_ialde (pc' := 151) dX10_note_150 rfl (m_s36 g51) (m_n g51 (Nat.le_of_ble_eq_true rfl)) e53 ?_
              refine J_iconst (pc' := 152) (v := (1 : Int32)) dX10_note_151 rfl ic_1 ?_
              refine J_iadd (pc' := 153) dX10_note_152 rfl ?_
              obtain ⟨M54, e55, h⟩ := w_i_inv h
              have g56 : sh_m M54.2.2 := j_shI e55.2 g51
              refine J_iaste (pc' := 154) dX10_note_153 rfl (m_s36 g51) (m_n g51 (Nat.le_of_ble_eq_true rfl)) e55 ?_
              refine J_aload_n (pc' := 155) (i := 0) (n := 1) dX10_note_154 rfl rfl rfl ?_
              refine J_getR (pc' := 158) (b := 36) dX10_note_155 rfl fl_X10_7 rfl (m_o g56) (m_n g56 (Nat.le_of_ble_eq_true rfl)) (m_r0 g56) ?_
              refine J_iconst (pc' := 159) (v := (2 : Int32)) dX10_note_158 rfl ic_2 ?_
              obtain ⟨v57, e58, h⟩ := a_i_inv h
              refine J_ialde (pc' := 160) dX10_note_159 rfl (m_s36 g56) (m_n g56 (Nat.le_of_ble_eq_true rfl)) e58 ?_
              exact J_iret rfl dX10_note_160 ⟨rfl, Nat.le_refl _⟩ (j_pW h)
            · replace h := j_ip c34 h
              refine J_aload_n (pc' := 77) (i := 0) (n := 0) dX10_note_76 rfl rfl rfl ?_
              obtain ⟨q59, e60, h⟩ := bi_inv h
              obtain ⟨c61, h⟩ := j_ck_inv h
              refine J_callV (pc' := 80) (as := []) (rest := []) dX10_note_77 rfl lk_X10_104 rfl 10 (by decide) rfl (m_o hs) (m_n hs (Nat.le_of_ble_eq_true rfl)) (c_X10_full hs e60) ⟨Nat.le_of_ble_eq_true rfl, Nat.le_of_ble_eq_true rfl⟩ (Nat.le_of_ble_eq_true rfl) ⟨Nat.le_of_ble_eq_true rfl, Nat.le_of_ble_eq_true rfl⟩ (j_kq ?_)
              have g62 : sh_m q59.2.2.2 := j_shE c61 hs
              exact J_iret rfl dX10_note_80 ⟨rfl, Nat.le_refl _⟩ (j_pW h)
          · replace h := j_ip c31 h
            refine J_aload_n (pc' := 59) (i := 0) (n := 0) dX10_note_58 rfl rfl rfl ?_
            refine J_bipush (pc' := 61) (v := ((-2) : Int32)) dX10_note_59 rfl bp_m2 ?_
            obtain ⟨q63, e64, h⟩ := bi_inv h
            obtain ⟨c65, h⟩ := j_ck_inv h
            refine J_callV (pc' := 64) (as := [.int ((-2) : Int32)]) (rest := []) dX10_note_61 rfl lk_X10_84 rfl 10 (by decide) rfl (m_o hs) (m_n hs (Nat.le_of_ble_eq_true rfl)) (c_X10_bad hs e64) ⟨Nat.le_of_ble_eq_true rfl, Nat.le_of_ble_eq_true rfl⟩ (Nat.le_of_ble_eq_true rfl) ⟨Nat.le_of_ble_eq_true rfl, Nat.le_of_ble_eq_true rfl⟩ (j_kq ?_)
            have g66 : sh_m q63.2.2.2 := j_shE c65 hs
            exact J_iret rfl dX10_note_64 ⟨rfl, Nat.le_refl _⟩ (j_pW h)
abbrev JT_X10_forget (l : Launch) (G : j_G) (r : (Int32 × j_M)) : Nat → List (Nat × Value) → List Value → j_M → Prop := JJ l G md_X10_forget (j_rm 1 (0, 0)) (0, 0) (0, 0) (po (some (.int r.1)) r.2)
noncomputable def f_X10_forget (M : j_M)  : Option (Int32 × j_M) :=
  a_i M 36 250 (2 : Int32) fun v1 => (w_i M 36 250 (2 : Int32) (0 : Int32) fun M3 => (some (v1, M3)))
set_option maxHeartbeats 4000000 in
theorem c_X10_forget {l : Launch} {G : j_G} {M : j_M}  (hs : sh_m M.2.2) {r : (Int32 × j_M)} (h : f_X10_forget M  = some r) : j_Sp l G md_X10_forget 1 (0, 0) [.ref 35] M (po (some (.int r.1)) r.2) := by
  refine j_Sp.of (by decide) (Nat.le_of_ble_eq_true rfl) ?_
  show JT_X10_forget l G r 0 [(0, .ref 35)] [] M
  unfold f_X10_forget at h
  refine J_aload_n (pc' := 1) (i := 0) (n := 0) dX10_forget_0 rfl rfl rfl ?_
  refine J_getR (pc' := 4) (b := 36) dX10_forget_1 rfl fl_X10_7 rfl (m_o hs) (m_n hs (Nat.le_of_ble_eq_true rfl)) (m_r0 hs) ?_
  refine J_iconst (pc' := 5) (v := (2 : Int32)) dX10_forget_4 rfl ic_2 ?_
  obtain ⟨v1, e2, h⟩ := a_i_inv h
  refine J_ialde (pc' := 6) dX10_forget_5 rfl (m_s36 hs) (m_n hs (Nat.le_of_ble_eq_true rfl)) e2 ?_
  refine J_istore_n (pc' := 7) (i := 1) (lv' := [(1, .int v1), (0, .ref 35)]) dX10_forget_6 rfl rfl (by decide) rfl ?_
  refine J_aload_n (pc' := 8) (i := 0) (n := 1) dX10_forget_7 rfl rfl rfl ?_
  refine J_getR (pc' := 11) (b := 36) dX10_forget_8 rfl fl_X10_7 rfl (m_o hs) (m_n hs (Nat.le_of_ble_eq_true rfl)) (m_r0 hs) ?_
  refine J_iconst (pc' := 12) (v := (2 : Int32)) dX10_forget_11 rfl ic_2 ?_
  refine J_iconst (pc' := 13) (v := (0 : Int32)) dX10_forget_12 rfl ic_0 ?_
  obtain ⟨M3, e4, h⟩ := w_i_inv h
  have g5 : sh_m M3.2.2 := j_shI e4.2 hs
  refine J_iaste (pc' := 14) dX10_forget_13 rfl (m_s36 hs) (m_n hs (Nat.le_of_ble_eq_true rfl)) e4 ?_
  refine J_iload_n (pc' := 15) (i := 1) (n := 0) dX10_forget_14 rfl rfl rfl ?_
  exact J_iret rfl dX10_forget_15 ⟨rfl, Nat.le_refl _⟩ (j_pW h)
abbrev JT_X10_canBe (l : Launch) (G : j_G) (M : j_M) (r : Int32) : Nat → List (Nat × Value) → List Value → j_M → Prop := JJ l G md_X10_canBe (j_rm 2 (0, 0)) (0, 0) (0, 0) (po (some (.int r)) M)
noncomputable def f_X10_canBe_L6 : Nat → j_M → Int32 → Int32 → Int32 → Int32 → Int32 → (Int32 → Int32 → Option Int32) → Option Int32
  | 0, _, _, _, _, _, _, _ => none
  | n + 1, M, x1, x2, x3, x4, x5, K =>
    a_i M 36 250 (2 : Int32) fun v1 => (if v1 ≤ x5 then (K x4 x5) else (if x4 = 0 then (f_X10_canBe_L6 n  M x1 x2 x3 (0 : Int32) (x5 + (1 : Int32)) K) else (a_i M 36 250 ((44 : Int32) + ((5 : Int32) * x5)) fun v5 => (if v5 = x1 then (a_i M 36 250 (((44 : Int32) + ((5 : Int32) * x5)) + (2 : Int32)) fun v8 => (a_i M 36 250 (((44 : Int32) + ((5 : Int32) * x5)) + (3 : Int32)) fun v10 => (a_i M 36 250 (((44 : Int32) + ((5 : Int32) * x5)) + (4 : Int32)) fun v12 => (tl (f_X10_secondsAs x2 x3 v8 v10 v12) fun v14 => (a_i M 36 250 (((44 : Int32) + ((5 : Int32) * x5)) + (1 : Int32)) fun v16 => (if v14 = v16 then (f_X10_canBe_L6 n  M x1 x2 x3 (1 : Int32) (x5 + (1 : Int32)) K) else (f_X10_canBe_L6 n  M x1 x2 x3 (0 : Int32) (x5 + (1 : Int32)) K))))))) else (f_X10_canBe_L6 n  M x1 x2 x3 (1 : Int32) (x5 + (1 : Int32)) K)))))
noncomputable def f_X10_canBe (M : j_M) (x1 : Int32) (x2 : Int32) (x3 : Int32) : Option Int32 :=
  f_X10_canBe_L6 j_fu  M x1 x2 x3 (1 : Int32) (0 : Int32) (fun (y19 : Int32) (y20 : Int32) => (z_b y19 (some y19)))
set_option maxHeartbeats 4000000 in
theorem L_X10_canBe_L6 {l : Launch} {G : j_G}  {r : Int32} : ∀ (n : Nat) {x1 : Int32} {x2 : Int32} {x3 : Int32} {x4 : Int32} {x5 : Int32} {M : j_M} (hs : sh_m M.2.2) {K : Int32 → Int32 → Option Int32}, f_X10_canBe_L6 n  M x1 x2 x3 x4 x5 K = some r → (∀ (y4 : Int32) (y5 : Int32), K y4 y5 = some r → JT_X10_canBe l G M r 99 [(4, .int y4)] [] M) → JT_X10_canBe l G M r 6 [(0, .ref 35), (1, .int x1), (2, .int x2), (3, .int x3), (4, .int x4), (5, .int x5)] [] M := by
  intro n
  induction n with
  | zero =>
    intro x1 x2 x3 x4 x5 M hs K h hK
    rw [f_X10_canBe_L6] at h; cases h
  | succ n ih =>
    intro x1 x2 x3 x4 x5 M hs K h hK
    rw [f_X10_canBe_L6] at h
    refine J_iload (pc' := 8) (i := 5) (n := 5) dX10_canBe_6 rfl rfl ?_
    refine J_aload_n (pc' := 9) (i := 0) (n := 0) dX10_canBe_8 rfl rfl rfl ?_
    refine J_getR (pc' := 12) (b := 36) dX10_canBe_9 rfl fl_X10_7 rfl (m_o hs) (m_n hs (Nat.le_of_ble_eq_true rfl)) (m_r0 hs) ?_
    refine J_iconst (pc' := 13) (v := (2 : Int32)) dX10_canBe_12 rfl ic_2 ?_
    obtain ⟨v1, e2, h⟩ := a_i_inv h
    refine J_ialde (pc' := 14) dX10_canBe_13 rfl (m_s36 hs) (m_n hs (Nat.le_of_ble_eq_true rfl)) e2 ?_
    refine J_icmp_ge (pc' := 17) (tgt := 99) dX10_canBe_14 rfl (by decide) (fun c3 => ?_) (fun c3 => ?_)
    · replace h := j_ip c3 h
      refine J_sub [4] (lv' := [(4, .int x4)]) rfl ?_
      exact hK x4 x5  h
    · replace h := j_iq c3 h
      refine J_bipush (pc' := 19) (v := (44 : Int32)) dX10_canBe_17 rfl bp_44 ?_
      refine J_iconst (pc' := 20) (v := (5 : Int32)) dX10_canBe_19 rfl ic_5 ?_
      refine J_iload (pc' := 22) (i := 5) (n := 5) dX10_canBe_20 rfl rfl ?_
      refine J_imul (pc' := 23) dX10_canBe_22 rfl ?_
      refine J_iadd (pc' := 24) dX10_canBe_23 rfl ?_
      refine J_istore (pc' := 26) (i := 6) (lv' := [(6, .int ((44 : Int32) + ((5 : Int32) * x5))), (0, .ref 35), (1, .int x1), (2, .int x2), (3, .int x3), (4, .int x4), (5, .int x5)]) dX10_canBe_24 rfl (by decide) rfl ?_
      refine J_iload (pc' := 28) (i := 4) (n := 5) dX10_canBe_26 rfl rfl ?_
      refine J_if_eq (pc' := 31) (tgt := 90) dX10_canBe_28 rfl (by decide) (fun c4 => ?_) (fun c4 => ?_)
      · replace h := j_ip c4 h
        refine J_iconst (pc' := 91) (v := (0 : Int32)) dX10_canBe_90 rfl ic_0 ?_
        refine J_istore (pc' := 93) (i := 4) (lv' := [(4, .int (0 : Int32)), (6, .int ((44 : Int32) + ((5 : Int32) * x5))), (0, .ref 35), (1, .int x1), (2, .int x2), (3, .int x3), (5, .int x5)]) dX10_canBe_91 rfl (by decide) rfl ?_
        refine J_iinc (pc' := 96) (i := 5) (n := 6) (v := (x5 + (1 : Int32))) (lv' := [(5, .int (x5 + (1 : Int32))), (4, .int (0 : Int32)), (6, .int ((44 : Int32) + ((5 : Int32) * x5))), (0, .ref 35), (1, .int x1), (2, .int x2), (3, .int x3)]) dX10_canBe_93 rfl rfl (j_inc _ _ rfl _) (by decide) rfl ?_
        refine J_goto (pc' := 6) dX10_canBe_96 (by decide) ?_
        refine J_sub [3, 4, 5, 6, 1, 0] (lv' := [(0, .ref 35), (1, .int x1), (2, .int x2), (3, .int x3), (4, .int (0 : Int32)), (5, .int (x5 + (1 : Int32)))]) rfl ?_
        exact ih hs h hK
      · replace h := j_iq c4 h
        refine J_aload_n (pc' := 32) (i := 0) (n := 1) dX10_canBe_31 rfl rfl rfl ?_
        refine J_getR (pc' := 35) (b := 36) dX10_canBe_32 rfl fl_X10_7 rfl (m_o hs) (m_n hs (Nat.le_of_ble_eq_true rfl)) (m_r0 hs) ?_
        refine J_iload (pc' := 37) (i := 6) (n := 0) dX10_canBe_35 rfl rfl ?_
        obtain ⟨v5, e6, h⟩ := a_i_inv h
        refine J_ialde (pc' := 38) dX10_canBe_37 rfl (m_s36 hs) (m_n hs (Nat.le_of_ble_eq_true rfl)) e6 ?_
        refine J_iload_n (pc' := 39) (i := 1) (n := 2) dX10_canBe_38 rfl rfl rfl ?_
        refine J_icmp_ne (pc' := 42) (tgt := 86) dX10_canBe_39 rfl (by decide) (fun c7 => ?_) (fun c7 => ?_)
        · replace h := j_iq c7 h
          refine J_iconst (pc' := 87) (v := (1 : Int32)) dX10_canBe_86 rfl ic_1 ?_
          refine J_goto (pc' := 91) dX10_canBe_87 (by decide) ?_
          refine J_istore (pc' := 93) (i := 4) (lv' := [(4, .int (1 : Int32)), (6, .int ((44 : Int32) + ((5 : Int32) * x5))), (0, .ref 35), (1, .int x1), (2, .int x2), (3, .int x3), (5, .int x5)]) dX10_canBe_91 rfl (by decide) rfl ?_
          refine J_iinc (pc' := 96) (i := 5) (n := 6) (v := (x5 + (1 : Int32))) (lv' := [(5, .int (x5 + (1 : Int32))), (4, .int (1 : Int32)), (6, .int ((44 : Int32) + ((5 : Int32) * x5))), (0, .ref 35), (1, .int x1), (2, .int x2), (3, .int x3)]) dX10_canBe_93 rfl rfl (j_inc _ _ rfl _) (by decide) rfl ?_
          refine J_goto (pc' := 6) dX10_canBe_96 (by decide) ?_
          refine J_sub [3, 4, 5, 6, 1, 0] (lv' := [(0, .ref 35), (1, .int x1), (2, .int x2), (3, .int x3), (4, .int (1 : Int32)), (5, .int (x5 + (1 : Int32)))]) rfl ?_
          exact ih hs h hK
        · replace h := j_ip c7 h
          refine J_iload_n (pc' := 43) (i := 2) (n := 3) dX10_canBe_42 rfl rfl rfl ?_
          refine J_iload_n (pc' := 44) (i := 3) (n := 4) dX10_canBe_43 rfl rfl rfl ?_
          refine J_aload_n (pc' := 45) (i := 0) (n := 1) dX10_canBe_44 rfl rfl rfl ?_
          refine J_getR (pc' := 48) (b := 36) dX10_canBe_45 rfl fl_X10_7 rfl (m_o hs) (m_n hs (Nat.le_of_ble_eq_true rfl)) (m_r0 hs) ?_
          refine J_iload (pc' := 50) (i := 6) (n := 0) dX10_canBe_48 rfl rfl ?_
          refine J_iconst (pc' := 51) (v := (2 : Int32)) dX10_canBe_50 rfl ic_2 ?_
          refine J_iadd (pc' := 52) dX10_canBe_51 rfl ?_
          obtain ⟨v8, e9, h⟩ := a_i_inv h
          refine J_ialde (pc' := 53) dX10_canBe_52 rfl (m_s36 hs) (m_n hs (Nat.le_of_ble_eq_true rfl)) e9 ?_
          refine J_aload_n (pc' := 54) (i := 0) (n := 1) dX10_canBe_53 rfl rfl rfl ?_
          refine J_getR (pc' := 57) (b := 36) dX10_canBe_54 rfl fl_X10_7 rfl (m_o hs) (m_n hs (Nat.le_of_ble_eq_true rfl)) (m_r0 hs) ?_
          refine J_iload (pc' := 59) (i := 6) (n := 0) dX10_canBe_57 rfl rfl ?_
          refine J_iconst (pc' := 60) (v := (3 : Int32)) dX10_canBe_59 rfl ic_3 ?_
          refine J_iadd (pc' := 61) dX10_canBe_60 rfl ?_
          obtain ⟨v10, e11, h⟩ := a_i_inv h
          refine J_ialde (pc' := 62) dX10_canBe_61 rfl (m_s36 hs) (m_n hs (Nat.le_of_ble_eq_true rfl)) e11 ?_
          refine J_aload_n (pc' := 63) (i := 0) (n := 1) dX10_canBe_62 rfl rfl rfl ?_
          refine J_getR (pc' := 66) (b := 36) dX10_canBe_63 rfl fl_X10_7 rfl (m_o hs) (m_n hs (Nat.le_of_ble_eq_true rfl)) (m_r0 hs) ?_
          refine J_iload (pc' := 68) (i := 6) (n := 0) dX10_canBe_66 rfl rfl ?_
          refine J_iconst (pc' := 69) (v := (4 : Int32)) dX10_canBe_68 rfl ic_4 ?_
          refine J_iadd (pc' := 70) dX10_canBe_69 rfl ?_
          obtain ⟨v12, e13, h⟩ := a_i_inv h
          refine J_ialde (pc' := 71) dX10_canBe_70 rfl (m_s36 hs) (m_n hs (Nat.le_of_ble_eq_true rfl)) e13 ?_
          obtain ⟨v14, e15, h⟩ := tl_inv h
          refine J_callS (pc' := 74) (as := [.int x2, .int x3, .int v8, .int v10, .int v12]) (rest := []) dX10_canBe_71 rfl lk_X10_128 rfl (c_X10_secondsAs e15) ⟨Nat.le_of_ble_eq_true rfl, Nat.le_of_ble_eq_true rfl⟩ (Nat.le_of_ble_eq_true rfl) ⟨Nat.le_of_ble_eq_true rfl, Nat.le_of_ble_eq_true rfl⟩ (j_kq ?_)
          refine J_aload_n (pc' := 75) (i := 0) (n := 1) dX10_canBe_74 rfl rfl rfl ?_
          refine J_getR (pc' := 78) (b := 36) dX10_canBe_75 rfl fl_X10_7 rfl (m_o hs) (m_n hs (Nat.le_of_ble_eq_true rfl)) (m_r0 hs) ?_
          refine J_iload (pc' := 80) (i := 6) (n := 0) dX10_canBe_78 rfl rfl ?_
          refine J_iconst (pc' := 81) (v := (1 : Int32)) dX10_canBe_80 rfl ic_1 ?_
          refine J_iadd (pc' := 82) dX10_canBe_81 rfl ?_
          obtain ⟨v16, e17, h⟩ := a_i_inv h
          refine J_ialde (pc' := 83) dX10_canBe_82 rfl (m_s36 hs) (m_n hs (Nat.le_of_ble_eq_true rfl)) e17 ?_
          refine J_icmp_ne (pc' := 86) (tgt := 90) dX10_canBe_83 rfl (by decide) (fun c18 => ?_) (fun c18 => ?_)
          · replace h := j_iq c18 h
            refine J_iconst (pc' := 91) (v := (0 : Int32)) dX10_canBe_90 rfl ic_0 ?_
            refine J_istore (pc' := 93) (i := 4) (lv' := [(4, .int (0 : Int32)), (6, .int ((44 : Int32) + ((5 : Int32) * x5))), (0, .ref 35), (1, .int x1), (2, .int x2), (3, .int x3), (5, .int x5)]) dX10_canBe_91 rfl (by decide) rfl ?_
            refine J_iinc (pc' := 96) (i := 5) (n := 6) (v := (x5 + (1 : Int32))) (lv' := [(5, .int (x5 + (1 : Int32))), (4, .int (0 : Int32)), (6, .int ((44 : Int32) + ((5 : Int32) * x5))), (0, .ref 35), (1, .int x1), (2, .int x2), (3, .int x3)]) dX10_canBe_93 rfl rfl (j_inc _ _ rfl _) (by decide) rfl ?_
            refine J_goto (pc' := 6) dX10_canBe_96 (by decide) ?_
            refine J_sub [3, 4, 5, 6, 1, 0] (lv' := [(0, .ref 35), (1, .int x1), (2, .int x2), (3, .int x3), (4, .int (0 : Int32)), (5, .int (x5 + (1 : Int32)))]) rfl ?_
            exact ih hs h hK
          · replace h := j_ip c18 h
            refine J_iconst (pc' := 87) (v := (1 : Int32)) dX10_canBe_86 rfl ic_1 ?_
            refine J_goto (pc' := 91) dX10_canBe_87 (by decide) ?_
            refine J_istore (pc' := 93) (i := 4) (lv' := [(4, .int (1 : Int32)), (6, .int ((44 : Int32) + ((5 : Int32) * x5))), (0, .ref 35), (1, .int x1), (2, .int x2), (3, .int x3), (5, .int x5)]) dX10_canBe_91 rfl (by decide) rfl ?_
            refine J_iinc (pc' := 96) (i := 5) (n := 6) (v := (x5 + (1 : Int32))) (lv' := [(5, .int (x5 + (1 : Int32))), (4, .int (1 : Int32)), (6, .int ((44 : Int32) + ((5 : Int32) * x5))), (0, .ref 35), (1, .int x1), (2, .int x2), (3, .int x3)]) dX10_canBe_93 rfl rfl (j_inc _ _ rfl _) (by decide) rfl ?_
            refine J_goto (pc' := 6) dX10_canBe_96 (by decide) ?_
            refine J_sub [3, 4, 5, 6, 1, 0] (lv' := [(0, .ref 35), (1, .int x1), (2, .int x2), (3, .int x3), (4, .int (1 : Int32)), (5, .int (x5 + (1 : Int32)))]) rfl ?_
            exact ih hs h hK
set_option maxHeartbeats 4000000 in
theorem c_X10_canBe {l : Launch} {G : j_G} {M : j_M} {x1 : Int32} {x2 : Int32} {x3 : Int32} (hs : sh_m M.2.2) {r : Int32} (h : f_X10_canBe M x1 x2 x3 = some r) : j_Sp l G md_X10_canBe 2 (0, 0) [.ref 35, .int x1, .int x2, .int x3] M (po (some (.int r)) M) := by
  refine j_Sp.of (by decide) (Nat.le_of_ble_eq_true rfl) ?_
  show JT_X10_canBe l G M r 0 [(0, .ref 35), (1, .int x1), (2, .int x2), (3, .int x3)] [] M
  unfold f_X10_canBe at h
  refine J_iconst (pc' := 1) (v := (1 : Int32)) dX10_canBe_0 rfl ic_1 ?_
  refine J_istore (pc' := 3) (i := 4) (lv' := [(4, .int (1 : Int32)), (0, .ref 35), (1, .int x1), (2, .int x2), (3, .int x3)]) dX10_canBe_1 rfl (by decide) rfl ?_
  refine J_iconst (pc' := 4) (v := (0 : Int32)) dX10_canBe_3 rfl ic_0 ?_
  refine J_istore (pc' := 6) (i := 5) (lv' := [(5, .int (0 : Int32)), (4, .int (1 : Int32)), (0, .ref 35), (1, .int x1), (2, .int x2), (3, .int x3)]) dX10_canBe_4 rfl (by decide) rfl ?_
  refine J_sub [2, 3, 4, 5, 1, 0] (lv' := [(0, .ref 35), (1, .int x1), (2, .int x2), (3, .int x3), (4, .int (1 : Int32)), (5, .int (0 : Int32))]) rfl ?_
  refine L_X10_canBe_L6 j_fu hs h (fun y19 y20 h => ?_)
  refine J_iload (pc' := 101) (i := 4) (n := 0) dX10_canBe_99 rfl rfl ?_
  obtain ⟨hz, h⟩ := z_b_inv h
  exact J_zret (ty := .boolean) rfl (j_zb hz) dX10_canBe_101 ⟨rfl, Nat.le_refl _⟩ (j_pIs h)
abbrev JT_X10_kindsOf (l : Launch) (G : j_G) (M : j_M) (r : Int32) : Nat → List (Nat × Value) → List Value → j_M → Prop := JJ l G md_X10_kindsOf (j_rm 3 (0, 0)) (0, 0) (0, 0) (po (some (.int r)) M)
noncomputable def f_X10_kindsOf_L4 : Nat → j_M → Int32 → Int32 → Int32 → (Int32 → Int32 → Option Int32) → Option Int32
  | 0, _, _, _, _, _ => none
  | n + 1, M, x1, x2, x3, K =>
    if (6 : Int32) ≤ x3 then (K x2 x3) else ((f_X10_paceOf M x1).bind fun v2 => ((f_X10_canBe M x1 x3 v2).bind fun v4 => (if v4 = 0 then (f_X10_kindsOf_L4 n  M x1 (x2 ||| (0 : Int32)) (x3 + (1 : Int32)) K) else (f_X10_kindsOf_L4 n  M x1 (x2 ||| ((1 : Int32) <<< (x3 &&& 31))) (x3 + (1 : Int32)) K))))
noncomputable def f_X10_kindsOf (M : j_M) (x1 : Int32) : Option Int32 :=
  f_X10_kindsOf_L4 j_fu  M x1 (0 : Int32) (0 : Int32) (fun (y7 : Int32) (y8 : Int32) => (some y7))
set_option maxHeartbeats 4000000 in
theorem L_X10_kindsOf_L4 {l : Launch} {G : j_G}  {r : Int32} : ∀ (n : Nat) {x1 : Int32} {x2 : Int32} {x3 : Int32} {M : j_M} (hs : sh_m M.2.2) {K : Int32 → Int32 → Option Int32}, f_X10_kindsOf_L4 n  M x1 x2 x3 K = some r → (∀ (y2 : Int32) (y3 : Int32), K y2 y3 = some r → JT_X10_kindsOf l G M r 40 [(2, .int y2)] [] M) → JT_X10_kindsOf l G M r 4 [(0, .ref 35), (1, .int x1), (2, .int x2), (3, .int x3)] [] M := by
  intro n
  induction n with
  | zero =>
    intro x1 x2 x3 M hs K h hK
    rw [f_X10_kindsOf_L4] at h; cases h
  | succ n ih =>
    intro x1 x2 x3 M hs K h hK
    rw [f_X10_kindsOf_L4] at h
    refine J_iload_n (pc' := 5) (i := 3) (n := 3) dX10_kindsOf_4 rfl rfl rfl ?_
    refine J_bipush (pc' := 7) (v := (6 : Int32)) dX10_kindsOf_5 rfl bp_6 ?_
    refine J_icmp_ge (pc' := 10) (tgt := 40) dX10_kindsOf_7 rfl (by decide) (fun c1 => ?_) (fun c1 => ?_)
    · replace h := j_ip c1 h
      refine J_sub [2] (lv' := [(2, .int x2)]) rfl ?_
      exact hK x2 x3  h
    · replace h := j_iq c1 h
      refine J_iload_n (pc' := 11) (i := 2) (n := 2) dX10_kindsOf_10 rfl rfl rfl ?_
      refine J_aload_n (pc' := 12) (i := 0) (n := 0) dX10_kindsOf_11 rfl rfl rfl ?_
      refine J_iload_n (pc' := 13) (i := 1) (n := 1) dX10_kindsOf_12 rfl rfl rfl ?_
      refine J_iload_n (pc' := 14) (i := 3) (n := 3) dX10_kindsOf_13 rfl rfl rfl ?_
      refine J_aload_n (pc' := 15) (i := 0) (n := 0) dX10_kindsOf_14 rfl rfl rfl ?_
      refine J_iload_n (pc' := 16) (i := 1) (n := 1) dX10_kindsOf_15 rfl rfl rfl ?_
      obtain ⟨v2, e3, h⟩ := bi_inv h
      refine J_callV (pc' := 19) (as := [.int x1]) (rest := [.int x3, .int x1, .ref 35, .int x2]) dX10_kindsOf_16 rfl lk_X10_121 rfl 10 (by decide) rfl (m_o hs) (m_n hs (Nat.le_of_ble_eq_true rfl)) (c_X10_paceOf hs e3) ⟨Nat.le_of_ble_eq_true rfl, Nat.le_of_ble_eq_true rfl⟩ (Nat.le_of_ble_eq_true rfl) ⟨Nat.le_of_ble_eq_true rfl, Nat.le_of_ble_eq_true rfl⟩ (j_kq ?_)
      obtain ⟨v4, e5, h⟩ := bi_inv h
      refine J_callV (pc' := 22) (as := [.int x1, .int x3, .int v2]) (rest := [.int x2]) dX10_kindsOf_19 rfl lk_X10_190 rfl 10 (by decide) rfl (m_o hs) (m_n hs (Nat.le_of_ble_eq_true rfl)) (c_X10_canBe hs e5) ⟨Nat.le_of_ble_eq_true rfl, Nat.le_of_ble_eq_true rfl⟩ (Nat.le_of_ble_eq_true rfl) ⟨Nat.le_of_ble_eq_true rfl, Nat.le_of_ble_eq_true rfl⟩ (j_kq ?_)
      refine J_if_eq (pc' := 25) (tgt := 31) dX10_kindsOf_22 rfl (by decide) (fun c6 => ?_) (fun c6 => ?_)
      · replace h := j_ip c6 h
        refine J_iconst (pc' := 32) (v := (0 : Int32)) dX10_kindsOf_31 rfl ic_0 ?_
        refine J_ior (pc' := 33) dX10_kindsOf_32 rfl ?_
        refine J_istore_n (pc' := 34) (i := 2) (lv' := [(2, .int (x2 ||| (0 : Int32))), (0, .ref 35), (1, .int x1), (3, .int x3)]) dX10_kindsOf_33 rfl rfl (by decide) rfl ?_
        refine J_iinc (pc' := 37) (i := 3) (n := 3) (v := (x3 + (1 : Int32))) (lv' := [(3, .int (x3 + (1 : Int32))), (2, .int (x2 ||| (0 : Int32))), (0, .ref 35), (1, .int x1)]) dX10_kindsOf_34 rfl rfl (j_inc _ _ rfl _) (by decide) rfl ?_
        refine J_goto (pc' := 4) dX10_kindsOf_37 (by decide) ?_
        refine J_sub [2, 3, 1, 0] (lv' := [(0, .ref 35), (1, .int x1), (2, .int (x2 ||| (0 : Int32))), (3, .int (x3 + (1 : Int32)))]) rfl ?_
        exact ih hs h hK
      · replace h := j_iq c6 h
        refine J_iconst (pc' := 26) (v := (1 : Int32)) dX10_kindsOf_25 rfl ic_1 ?_
        refine J_iload_n (pc' := 27) (i := 3) (n := 3) dX10_kindsOf_26 rfl rfl rfl ?_
        refine J_ishl (pc' := 28) dX10_kindsOf_27 rfl ?_
        refine J_goto (pc' := 32) dX10_kindsOf_28 (by decide) ?_
        refine J_ior (pc' := 33) dX10_kindsOf_32 rfl ?_
        refine J_istore_n (pc' := 34) (i := 2) (lv' := [(2, .int (x2 ||| ((1 : Int32) <<< (x3 &&& 31)))), (0, .ref 35), (1, .int x1), (3, .int x3)]) dX10_kindsOf_33 rfl rfl (by decide) rfl ?_
        refine J_iinc (pc' := 37) (i := 3) (n := 3) (v := (x3 + (1 : Int32))) (lv' := [(3, .int (x3 + (1 : Int32))), (2, .int (x2 ||| ((1 : Int32) <<< (x3 &&& 31)))), (0, .ref 35), (1, .int x1)]) dX10_kindsOf_34 rfl rfl (j_inc _ _ rfl _) (by decide) rfl ?_
        refine J_goto (pc' := 4) dX10_kindsOf_37 (by decide) ?_
        refine J_sub [2, 3, 1, 0] (lv' := [(0, .ref 35), (1, .int x1), (2, .int (x2 ||| ((1 : Int32) <<< (x3 &&& 31)))), (3, .int (x3 + (1 : Int32)))]) rfl ?_
        exact ih hs h hK
set_option maxHeartbeats 4000000 in
theorem c_X10_kindsOf {l : Launch} {G : j_G} {M : j_M} {x1 : Int32} (hs : sh_m M.2.2) {r : Int32} (h : f_X10_kindsOf M x1 = some r) : j_Sp l G md_X10_kindsOf 3 (0, 0) [.ref 35, .int x1] M (po (some (.int r)) M) := by
  refine j_Sp.of (by decide) (Nat.le_of_ble_eq_true rfl) ?_
  show JT_X10_kindsOf l G M r 0 [(0, .ref 35), (1, .int x1)] [] M
  unfold f_X10_kindsOf at h
  refine J_iconst (pc' := 1) (v := (0 : Int32)) dX10_kindsOf_0 rfl ic_0 ?_
  refine J_istore_n (pc' := 2) (i := 2) (lv' := [(2, .int (0 : Int32)), (0, .ref 35), (1, .int x1)]) dX10_kindsOf_1 rfl rfl (by decide) rfl ?_
  refine J_iconst (pc' := 3) (v := (0 : Int32)) dX10_kindsOf_2 rfl ic_0 ?_
  refine J_istore_n (pc' := 4) (i := 3) (lv' := [(3, .int (0 : Int32)), (2, .int (0 : Int32)), (0, .ref 35), (1, .int x1)]) dX10_kindsOf_3 rfl rfl (by decide) rfl ?_
  refine J_sub [2, 3, 1, 0] (lv' := [(0, .ref 35), (1, .int x1), (2, .int (0 : Int32)), (3, .int (0 : Int32))]) rfl ?_
  refine L_X10_kindsOf_L4 j_fu hs h (fun y7 y8 h => ?_)
  refine J_iload_n (pc' := 41) (i := 2) (n := 0) dX10_kindsOf_40 rfl rfl rfl ?_
  exact J_iret rfl dX10_kindsOf_41 ⟨rfl, Nat.le_refl _⟩ (j_pIs h)
abbrev JT_X10_is (l : Launch) (G : j_G) (r : (Int32 × j_M)) : Nat → List (Nat × Value) → List Value → j_M → Prop := JJ l G md_X10_is (j_rm 4 (0, 0)) (0, 0) (0, 0) (po (some (.int r.1)) r.2)
noncomputable def f_X10_is_L31 : Nat → j_M → Int32 → Int32 → Int32 → Int32 → (Int32 → Int32 → Option (Int32 × j_M)) → Option (Int32 × j_M)
  | 0, _, _, _, _, _, _ => none
  | n + 1, M, x1, x2, x3, x4, K =>
    if (90 : Int32) < x4 then (K x3 x4) else (a_i M 36 250 ((30 : Int32) + x1) fun v12 => ((f_X10_canBe M x1 v12 x4).bind fun v14 => (if v14 = 0 then (f_X10_is_L31 n  M x1 x2 (x3 + (0 : Int32)) (x4 + (1 : Int32)) K) else (f_X10_is_L31 n  M x1 x2 (x3 + (1 : Int32)) (x4 + (1 : Int32)) K))))
noncomputable def f_X10_is (M : j_M) (x1 : Int32) (x2 : Int32) : Option (Int32 × j_M) :=
  (f_X10_isOne M x1).bind fun v1 => (if v1 = 0 then ((f_X10_bad M ((-2) : Int32)).bind fun q4 => j_ck M q4.2 (some (q4.1, q4.2))) else (tl (f_X10_in (x2).toInt64 (0 : Int64) (1 : Int64)) fun v8 => (if v8 = 0 then ((f_X10_bad M ((-2) : Int32)).bind fun q22 => j_ck M q22.2 (some (q22.1, q22.2))) else (f_X10_is_L31 j_fu  M x1 x2 (0 : Int32) (20 : Int32) (fun (y17 : Int32) (y18 : Int32) => (if x2 = 0 then ((f_X10_kindsOf M x1).bind fun v20 => (some (v20, M))) else (some (y17, M))))))))
set_option maxHeartbeats 4000000 in
theorem L_X10_is_L31 {l : Launch} {G : j_G}  {r : (Int32 × j_M)} : ∀ (n : Nat) {x1 : Int32} {x2 : Int32} {x3 : Int32} {x4 : Int32} {M : j_M} (hs : sh_m M.2.2) {K : Int32 → Int32 → Option (Int32 × j_M)}, f_X10_is_L31 n  M x1 x2 x3 x4 K = some r → (∀ (y3 : Int32) (y4 : Int32), K y3 y4 = some r → JT_X10_is l G r 71 [(0, .ref 35), (1, .int x1), (2, .int x2), (3, .int y3)] [] M) → JT_X10_is l G r 31 [(0, .ref 35), (1, .int x1), (2, .int x2), (3, .int x3), (4, .int x4)] [] M := by
  intro n
  induction n with
  | zero =>
    intro x1 x2 x3 x4 M hs K h hK
    rw [f_X10_is_L31] at h; cases h
  | succ n ih =>
    intro x1 x2 x3 x4 M hs K h hK
    rw [f_X10_is_L31] at h
    refine J_iload (pc' := 33) (i := 4) (n := 4) dX10_is_31 rfl rfl ?_
    refine J_bipush (pc' := 35) (v := (90 : Int32)) dX10_is_33 rfl bp_90 ?_
    refine J_icmp_gt (pc' := 38) (tgt := 71) dX10_is_35 rfl (by decide) (fun c11 => ?_) (fun c11 => ?_)
    · replace h := j_ip c11 h
      refine J_sub [0, 1, 2, 3] (lv' := [(0, .ref 35), (1, .int x1), (2, .int x2), (3, .int x3)]) rfl ?_
      exact hK x3 x4  h
    · replace h := j_iq c11 h
      refine J_iload_n (pc' := 39) (i := 3) (n := 3) dX10_is_38 rfl rfl rfl ?_
      refine J_aload_n (pc' := 40) (i := 0) (n := 0) dX10_is_39 rfl rfl rfl ?_
      refine J_iload_n (pc' := 41) (i := 1) (n := 1) dX10_is_40 rfl rfl rfl ?_
      refine J_aload_n (pc' := 42) (i := 0) (n := 0) dX10_is_41 rfl rfl rfl ?_
      refine J_getR (pc' := 45) (b := 36) dX10_is_42 rfl fl_X10_7 rfl (m_o hs) (m_n hs (Nat.le_of_ble_eq_true rfl)) (m_r0 hs) ?_
      refine J_bipush (pc' := 47) (v := (30 : Int32)) dX10_is_45 rfl bp_30 ?_
      refine J_iload_n (pc' := 48) (i := 1) (n := 1) dX10_is_47 rfl rfl rfl ?_
      refine J_iadd (pc' := 49) dX10_is_48 rfl ?_
      obtain ⟨v12, e13, h⟩ := a_i_inv h
      refine J_ialde (pc' := 50) dX10_is_49 rfl (m_s36 hs) (m_n hs (Nat.le_of_ble_eq_true rfl)) e13 ?_
      refine J_iload (pc' := 52) (i := 4) (n := 4) dX10_is_50 rfl rfl ?_
      obtain ⟨v14, e15, h⟩ := bi_inv h
      refine J_callV (pc' := 55) (as := [.int x1, .int v12, .int x4]) (rest := [.int x3]) dX10_is_52 rfl lk_X10_190 rfl 10 (by decide) rfl (m_o hs) (m_n hs (Nat.le_of_ble_eq_true rfl)) (c_X10_canBe hs e15) ⟨Nat.le_of_ble_eq_true rfl, Nat.le_of_ble_eq_true rfl⟩ (Nat.le_of_ble_eq_true rfl) ⟨Nat.le_of_ble_eq_true rfl, Nat.le_of_ble_eq_true rfl⟩ (j_kq ?_)
      refine J_if_eq (pc' := 58) (tgt := 62) dX10_is_55 rfl (by decide) (fun c16 => ?_) (fun c16 => ?_)
      · replace h := j_ip c16 h
        refine J_iconst (pc' := 63) (v := (0 : Int32)) dX10_is_62 rfl ic_0 ?_
        refine J_iadd (pc' := 64) dX10_is_63 rfl ?_
        refine J_istore_n (pc' := 65) (i := 3) (lv' := [(3, .int (x3 + (0 : Int32))), (0, .ref 35), (1, .int x1), (2, .int x2), (4, .int x4)]) dX10_is_64 rfl rfl (by decide) rfl ?_
        refine J_iinc (pc' := 68) (i := 4) (n := 4) (v := (x4 + (1 : Int32))) (lv' := [(4, .int (x4 + (1 : Int32))), (3, .int (x3 + (0 : Int32))), (0, .ref 35), (1, .int x1), (2, .int x2)]) dX10_is_65 rfl rfl (j_inc _ _ rfl _) (by decide) rfl ?_
        refine J_goto (pc' := 31) dX10_is_68 (by decide) ?_
        refine J_sub [2, 3, 4, 1, 0] (lv' := [(0, .ref 35), (1, .int x1), (2, .int x2), (3, .int (x3 + (0 : Int32))), (4, .int (x4 + (1 : Int32)))]) rfl ?_
        exact ih hs h hK
      · replace h := j_iq c16 h
        refine J_iconst (pc' := 59) (v := (1 : Int32)) dX10_is_58 rfl ic_1 ?_
        refine J_goto (pc' := 63) dX10_is_59 (by decide) ?_
        refine J_iadd (pc' := 64) dX10_is_63 rfl ?_
        refine J_istore_n (pc' := 65) (i := 3) (lv' := [(3, .int (x3 + (1 : Int32))), (0, .ref 35), (1, .int x1), (2, .int x2), (4, .int x4)]) dX10_is_64 rfl rfl (by decide) rfl ?_
        refine J_iinc (pc' := 68) (i := 4) (n := 4) (v := (x4 + (1 : Int32))) (lv' := [(4, .int (x4 + (1 : Int32))), (3, .int (x3 + (1 : Int32))), (0, .ref 35), (1, .int x1), (2, .int x2)]) dX10_is_65 rfl rfl (j_inc _ _ rfl _) (by decide) rfl ?_
        refine J_goto (pc' := 31) dX10_is_68 (by decide) ?_
        refine J_sub [2, 3, 4, 1, 0] (lv' := [(0, .ref 35), (1, .int x1), (2, .int x2), (3, .int (x3 + (1 : Int32))), (4, .int (x4 + (1 : Int32)))]) rfl ?_
        exact ih hs h hK
set_option maxHeartbeats 4000000 in
theorem c_X10_is {l : Launch} {G : j_G} {M : j_M} {x1 : Int32} {x2 : Int32} (hs : sh_m M.2.2) {r : (Int32 × j_M)} (h : f_X10_is M x1 x2 = some r) : j_Sp l G md_X10_is 4 (0, 0) [.ref 35, .int x1, .int x2] M (po (some (.int r.1)) r.2) := by
  refine j_Sp.of (by decide) (Nat.le_of_ble_eq_true rfl) ?_
  show JT_X10_is l G r 0 [(0, .ref 35), (1, .int x1), (2, .int x2)] [] M
  unfold f_X10_is at h
  refine J_aload_n (pc' := 1) (i := 0) (n := 0) dX10_is_0 rfl rfl rfl ?_
  refine J_iload_n (pc' := 2) (i := 1) (n := 1) dX10_is_1 rfl rfl rfl ?_
  obtain ⟨v1, e2, h⟩ := bi_inv h
  refine J_callV (pc' := 5) (as := [.int x1]) (rest := []) dX10_is_2 rfl lk_X10_132 rfl 10 (by decide) rfl (m_o hs) (m_n hs (Nat.le_of_ble_eq_true rfl)) (c_X10_isOne hs e2) ⟨Nat.le_of_ble_eq_true rfl, Nat.le_of_ble_eq_true rfl⟩ (Nat.le_of_ble_eq_true rfl) ⟨Nat.le_of_ble_eq_true rfl, Nat.le_of_ble_eq_true rfl⟩ (j_kq ?_)
  refine J_if_eq (pc' := 8) (tgt := 18) dX10_is_5 rfl (by decide) (fun c3 => ?_) (fun c3 => ?_)
  · replace h := j_ip c3 h
    refine J_aload_n (pc' := 19) (i := 0) (n := 0) dX10_is_18 rfl rfl rfl ?_
    refine J_bipush (pc' := 21) (v := ((-2) : Int32)) dX10_is_19 rfl bp_m2 ?_
    obtain ⟨q4, e5, h⟩ := bi_inv h
    obtain ⟨c6, h⟩ := j_ck_inv h
    refine J_callV (pc' := 24) (as := [.int ((-2) : Int32)]) (rest := []) dX10_is_21 rfl lk_X10_84 rfl 10 (by decide) rfl (m_o hs) (m_n hs (Nat.le_of_ble_eq_true rfl)) (c_X10_bad hs e5) ⟨Nat.le_of_ble_eq_true rfl, Nat.le_of_ble_eq_true rfl⟩ (Nat.le_of_ble_eq_true rfl) ⟨Nat.le_of_ble_eq_true rfl, Nat.le_of_ble_eq_true rfl⟩ (j_kq ?_)
    have g7 : sh_m q4.2.2.2 := j_shE c6 hs
    exact J_iret rfl dX10_is_24 ⟨rfl, Nat.le_refl _⟩ (j_pW h)
  · replace h := j_iq c3 h
    refine J_iload_n (pc' := 9) (i := 2) (n := 2) dX10_is_8 rfl rfl rfl ?_
    refine J_i2l (pc' := 10) dX10_is_9 rfl ?_
    refine J_lconst (pc' := 11) (v := (0 : Int64)) dX10_is_10 rfl rfl ?_
    refine J_lconst (pc' := 12) (v := (1 : Int64)) dX10_is_11 rfl rfl ?_
    obtain ⟨v8, e9, h⟩ := tl_inv h
    refine J_callS (pc' := 15) (as := [.long (x2).toInt64, .long (0 : Int64), .long (1 : Int64)]) (rest := []) dX10_is_12 rfl lk_X10_68 rfl (c_X10_in e9) ⟨Nat.le_of_ble_eq_true rfl, Nat.le_of_ble_eq_true rfl⟩ (Nat.le_of_ble_eq_true rfl) ⟨Nat.le_of_ble_eq_true rfl, Nat.le_of_ble_eq_true rfl⟩ (j_kq ?_)
    refine J_if_ne (pc' := 18) (tgt := 25) dX10_is_15 rfl (by decide) (fun c10 => ?_) (fun c10 => ?_)
    · replace h := j_iq c10 h
      refine J_iconst (pc' := 26) (v := (0 : Int32)) dX10_is_25 rfl ic_0 ?_
      refine J_istore_n (pc' := 27) (i := 3) (lv' := [(3, .int (0 : Int32)), (0, .ref 35), (1, .int x1), (2, .int x2)]) dX10_is_26 rfl rfl (by decide) rfl ?_
      refine J_bipush (pc' := 29) (v := (20 : Int32)) dX10_is_27 rfl bp_20 ?_
      refine J_istore (pc' := 31) (i := 4) (lv' := [(4, .int (20 : Int32)), (3, .int (0 : Int32)), (0, .ref 35), (1, .int x1), (2, .int x2)]) dX10_is_29 rfl (by decide) rfl ?_
      refine J_sub [2, 3, 4, 1, 0] (lv' := [(0, .ref 35), (1, .int x1), (2, .int x2), (3, .int (0 : Int32)), (4, .int (20 : Int32))]) rfl ?_
      refine L_X10_is_L31 j_fu hs h (fun y17 y18 h => ?_)
      refine J_iload_n (pc' := 72) (i := 2) (n := 2) dX10_is_71 rfl rfl rfl ?_
      refine J_if_ne (pc' := 75) (tgt := 83) dX10_is_72 rfl (by decide) (fun c19 => ?_) (fun c19 => ?_)
      · replace h := j_iq c19 h
        refine J_iload_n (pc' := 84) (i := 3) (n := 3) dX10_is_83 rfl rfl rfl ?_
        exact J_iret rfl dX10_is_84 ⟨rfl, Nat.le_refl _⟩ (j_pW h)
      · replace h := j_ip c19 h
        refine J_aload_n (pc' := 76) (i := 0) (n := 0) dX10_is_75 rfl rfl rfl ?_
        refine J_iload_n (pc' := 77) (i := 1) (n := 1) dX10_is_76 rfl rfl rfl ?_
        obtain ⟨v20, e21, h⟩ := bi_inv h
        refine J_callV (pc' := 80) (as := [.int x1]) (rest := []) dX10_is_77 rfl lk_X10_194 rfl 10 (by decide) rfl (m_o hs) (m_n hs (Nat.le_of_ble_eq_true rfl)) (c_X10_kindsOf hs e21) ⟨Nat.le_of_ble_eq_true rfl, Nat.le_of_ble_eq_true rfl⟩ (Nat.le_of_ble_eq_true rfl) ⟨Nat.le_of_ble_eq_true rfl, Nat.le_of_ble_eq_true rfl⟩ (j_kq ?_)
        refine J_goto (pc' := 84) dX10_is_80 (by decide) ?_
        exact J_iret rfl dX10_is_84 ⟨rfl, Nat.le_refl _⟩ (j_pW h)
    · replace h := j_ip c10 h
      refine J_aload_n (pc' := 19) (i := 0) (n := 0) dX10_is_18 rfl rfl rfl ?_
      refine J_bipush (pc' := 21) (v := ((-2) : Int32)) dX10_is_19 rfl bp_m2 ?_
      obtain ⟨q22, e23, h⟩ := bi_inv h
      obtain ⟨c24, h⟩ := j_ck_inv h
      refine J_callV (pc' := 24) (as := [.int ((-2) : Int32)]) (rest := []) dX10_is_21 rfl lk_X10_84 rfl 10 (by decide) rfl (m_o hs) (m_n hs (Nat.le_of_ble_eq_true rfl)) (c_X10_bad hs e23) ⟨Nat.le_of_ble_eq_true rfl, Nat.le_of_ble_eq_true rfl⟩ (Nat.le_of_ble_eq_true rfl) ⟨Nat.le_of_ble_eq_true rfl, Nat.le_of_ble_eq_true rfl⟩ (j_kq ?_)
      have g25 : sh_m q22.2.2.2 := j_shE c24 hs
      exact J_iret rfl dX10_is_24 ⟨rfl, Nat.le_refl _⟩ (j_pW h)
abbrev JT_X10_mostAlike (l : Launch) (G : j_G) (r : (Int32 × j_M)) : Nat → List (Nat × Value) → List Value → j_M → Prop := JJ l G md_X10_mostAlike (j_rm 3 (0, 0)) (0, 0) (0, 0) (po (some (.int r.1)) r.2)
noncomputable def f_X10_mostAlike_L25 : Nat → j_M → Int32 → Int32 → Int32 → Int32 → Int32 → Int32 → (Int32 → Int32 → Option (Int32 × j_M)) → Option (Int32 × j_M)
  | 0, _, _, _, _, _, _, _, _ => none
  | n + 1, M, x1, x2, x4, x5, x6, x7, K =>
    if (6 : Int32) ≤ x7 then (K x6 x7) else (tl (f_X10_has x1 x5) fun v7 => (if v7 = 0 then (K x6 x7) else ((f_X10_paceOf M x2).bind fun v10 => (tl (f_X10_secondsAs x5 v10 (j_I M 35 7) (j_I M 35 8) (j_I M 35 9)) fun v12 => ((f_X10_paceOf M x2).bind fun v14 => (tl (f_X10_secondsAs x7 v14 (j_I M 35 7) (j_I M 35 8) (j_I M 35 9)) fun v16 => (jn (fun (v19 : Int32) => (tl (f_X10_has x1 x7) fun v22 => (if v22 = 0 then (f_X10_mostAlike_L25 n  M x1 x2 x4 x5 (x6 + (0 : Int32)) (x7 + (1 : Int32)) K) else (if v19 = 0 then (f_X10_mostAlike_L25 n  M x1 x2 x4 x5 (x6 + (0 : Int32)) (x7 + (1 : Int32)) K) else (f_X10_mostAlike_L25 n  M x1 x2 x4 x5 (x6 + (1 : Int32)) (x7 + (1 : Int32)) K))))) (fun K20 => (if v12 = v16 then (K20 (1 : Int32)) else (K20 (0 : Int32)))))))))))
noncomputable def f_X10_mostAlike_L12 : Nat → j_M → Int32 → Int32 → Int32 → Int32 → (Int32 → Int32 → Option (Int32 × j_M)) → Option (Int32 × j_M)
  | 0, _, _, _, _, _, _ => none
  | n + 1, M, x1, x2, x4, x5, K =>
    if (6 : Int32) ≤ x5 then (K x4 x5) else (f_X10_mostAlike_L25 j_fu  M x1 x2 x4 x5 (0 : Int32) (0 : Int32) (fun (y26 : Int32) (y27 : Int32) => (if y26 ≤ x4 then (f_X10_mostAlike_L12 n  M x1 x2 x4 (x5 + (1 : Int32)) K) else (f_X10_mostAlike_L12 n  M x1 x2 y26 (x5 + (1 : Int32)) K))))
noncomputable def f_X10_mostAlike (M : j_M) (x1 : Int32) (x2 : Int32) (x3 : Int32) : Option (Int32 × j_M) :=
  (f_X10_layOthers M x2 x3).bind fun q1 => j_ck M q1 (f_X10_mostAlike_L12 j_fu  q1 x1 x2 (0 : Int32) (0 : Int32) (fun (y29 : Int32) (y30 : Int32) => (some (y29, q1))))
set_option maxHeartbeats 4000000 in
theorem L_X10_mostAlike_L25 {l : Launch} {G : j_G}  {r : (Int32 × j_M)} : ∀ (n : Nat) {x1 : Int32} {x2 : Int32} {x4 : Int32} {x5 : Int32} {x6 : Int32} {x7 : Int32} {M : j_M} (hs : sh_m M.2.2) {K : Int32 → Int32 → Option (Int32 × j_M)}, f_X10_mostAlike_L25 n  M x1 x2 x4 x5 x6 x7 K = some r → (∀ (y6 : Int32) (y7 : Int32), K y6 y7 = some r → JT_X10_mostAlike l G r 125 [(0, .ref 35), (1, .int x1), (2, .int x2), (4, .int x4), (5, .int x5), (6, .int y6)] [] M) → JT_X10_mostAlike l G r 25 [(0, .ref 35), (1, .int x1), (2, .int x2), (4, .int x4), (5, .int x5), (6, .int x6), (7, .int x7)] [] M := by
  intro n
  induction n with
  | zero =>
    intro x1 x2 x4 x5 x6 x7 M hs K h hK
    rw [f_X10_mostAlike_L25] at h; cases h
  | succ n ih =>
    intro x1 x2 x4 x5 x6 x7 M hs K h hK
    rw [f_X10_mostAlike_L25] at h
    refine J_iload (pc' := 27) (i := 7) (n := 6) dX10_mostAlike_25 rfl rfl ?_
    refine J_bipush (pc' := 29) (v := (6 : Int32)) dX10_mostAlike_27 rfl bp_6 ?_
    refine J_icmp_ge (pc' := 32) (tgt := 125) dX10_mostAlike_29 rfl (by decide) (fun c6 => ?_) (fun c6 => ?_)
    · replace h := j_ip c6 h
      refine J_sub [0, 1, 2, 3, 4, 5] (lv' := [(0, .ref 35), (1, .int x1), (2, .int x2), (4, .int x4), (5, .int x5), (6, .int x6)]) rfl ?_
      exact hK x6 x7  h
    · replace h := j_iq c6 h
      refine J_iload_n (pc' := 33) (i := 1) (n := 1) dX10_mostAlike_32 rfl rfl rfl ?_
      refine J_iload (pc' := 35) (i := 5) (n := 4) dX10_mostAlike_33 rfl rfl ?_
      obtain ⟨v7, e8, h⟩ := tl_inv h
      refine J_callS (pc' := 38) (as := [.int x1, .int x5]) (rest := []) dX10_mostAlike_35 rfl lk_X10_74 rfl (c_X10_has e8) ⟨Nat.le_of_ble_eq_true rfl, Nat.le_of_ble_eq_true rfl⟩ (Nat.le_of_ble_eq_true rfl) ⟨Nat.le_of_ble_eq_true rfl, Nat.le_of_ble_eq_true rfl⟩ (j_kq ?_)
      refine J_if_eq (pc' := 41) (tgt := 125) dX10_mostAlike_38 rfl (by decide) (fun c9 => ?_) (fun c9 => ?_)
      · replace h := j_ip c9 h
        refine J_sub [0, 1, 2, 3, 4, 5] (lv' := [(0, .ref 35), (1, .int x1), (2, .int x2), (4, .int x4), (5, .int x5), (6, .int x6)]) rfl ?_
        exact hK x6 x7  h
      · replace h := j_iq c9 h
        refine J_iload (pc' := 43) (i := 5) (n := 4) dX10_mostAlike_41 rfl rfl ?_
        refine J_aload_n (pc' := 44) (i := 0) (n := 0) dX10_mostAlike_43 rfl rfl rfl ?_
        refine J_iload_n (pc' := 45) (i := 2) (n := 2) dX10_mostAlike_44 rfl rfl rfl ?_
        obtain ⟨v10, e11, h⟩ := bi_inv h
        refine J_callV (pc' := 48) (as := [.int x2]) (rest := [.int x5]) dX10_mostAlike_45 rfl lk_X10_121 rfl 10 (by decide) rfl (m_o hs) (m_n hs (Nat.le_of_ble_eq_true rfl)) (c_X10_paceOf hs e11) ⟨Nat.le_of_ble_eq_true rfl, Nat.le_of_ble_eq_true rfl⟩ (Nat.le_of_ble_eq_true rfl) ⟨Nat.le_of_ble_eq_true rfl, Nat.le_of_ble_eq_true rfl⟩ (j_kq ?_)
        refine J_aload_n (pc' := 49) (i := 0) (n := 0) dX10_mostAlike_48 rfl rfl rfl ?_
        refine J_getI (pc' := 52) dX10_mostAlike_49 rfl fl_X10_111 rfl (m_o hs) (m_n hs (Nat.le_of_ble_eq_true rfl)) ?_
        refine J_aload_n (pc' := 53) (i := 0) (n := 0) dX10_mostAlike_52 rfl rfl rfl ?_
        refine J_getI (pc' := 56) dX10_mostAlike_53 rfl fl_X10_115 rfl (m_o hs) (m_n hs (Nat.le_of_ble_eq_true rfl)) ?_
        refine J_aload_n (pc' := 57) (i := 0) (n := 0) dX10_mostAlike_56 rfl rfl rfl ?_
        refine J_getI (pc' := 60) dX10_mostAlike_57 rfl fl_X10_118 rfl (m_o hs) (m_n hs (Nat.le_of_ble_eq_true rfl)) ?_
        obtain ⟨v12, e13, h⟩ := tl_inv h
        refine J_callS (pc' := 63) (as := [.int x5, .int v10, .int (j_I M 35 7), .int (j_I M 35 8), .int (j_I M 35 9)]) (rest := []) dX10_mostAlike_60 rfl lk_X10_128 rfl (c_X10_secondsAs e13) ⟨Nat.le_of_ble_eq_true rfl, Nat.le_of_ble_eq_true rfl⟩ (Nat.le_of_ble_eq_true rfl) ⟨Nat.le_of_ble_eq_true rfl, Nat.le_of_ble_eq_true rfl⟩ (j_kq ?_)
        refine J_iload (pc' := 65) (i := 7) (n := 6) dX10_mostAlike_63 rfl rfl ?_
        refine J_aload_n (pc' := 66) (i := 0) (n := 0) dX10_mostAlike_65 rfl rfl rfl ?_
        refine J_iload_n (pc' := 67) (i := 2) (n := 2) dX10_mostAlike_66 rfl rfl rfl ?_
        obtain ⟨v14, e15, h⟩ := bi_inv h
        refine J_callV (pc' := 70) (as := [.int x2]) (rest := [.int x7, .int v12]) dX10_mostAlike_67 rfl lk_X10_121 rfl 10 (by decide) rfl (m_o hs) (m_n hs (Nat.le_of_ble_eq_true rfl)) (c_X10_paceOf hs e15) ⟨Nat.le_of_ble_eq_true rfl, Nat.le_of_ble_eq_true rfl⟩ (Nat.le_of_ble_eq_true rfl) ⟨Nat.le_of_ble_eq_true rfl, Nat.le_of_ble_eq_true rfl⟩ (j_kq ?_)
        refine J_aload_n (pc' := 71) (i := 0) (n := 0) dX10_mostAlike_70 rfl rfl rfl ?_
        refine J_getI (pc' := 74) dX10_mostAlike_71 rfl fl_X10_111 rfl (m_o hs) (m_n hs (Nat.le_of_ble_eq_true rfl)) ?_
        refine J_aload_n (pc' := 75) (i := 0) (n := 0) dX10_mostAlike_74 rfl rfl rfl ?_
        refine J_getI (pc' := 78) dX10_mostAlike_75 rfl fl_X10_115 rfl (m_o hs) (m_n hs (Nat.le_of_ble_eq_true rfl)) ?_
        refine J_aload_n (pc' := 79) (i := 0) (n := 0) dX10_mostAlike_78 rfl rfl rfl ?_
        refine J_getI (pc' := 82) dX10_mostAlike_79 rfl fl_X10_118 rfl (m_o hs) (m_n hs (Nat.le_of_ble_eq_true rfl)) ?_
        obtain ⟨v16, e17, h⟩ := tl_inv h
        refine J_callS (pc' := 85) (as := [.int x7, .int v14, .int (j_I M 35 7), .int (j_I M 35 8), .int (j_I M 35 9)]) (rest := [.int v12]) dX10_mostAlike_82 rfl lk_X10_128 rfl (c_X10_secondsAs e17) ⟨Nat.le_of_ble_eq_true rfl, Nat.le_of_ble_eq_true rfl⟩ (Nat.le_of_ble_eq_true rfl) ⟨Nat.le_of_ble_eq_true rfl, Nat.le_of_ble_eq_true rfl⟩ (j_kq ?_)
        refine J_join (C := fun (v19 : Int32) => JT_X10_mostAlike l G r 93 [(0, .ref 35), (1, .int x1), (2, .int x2), (4, .int x4), (5, .int x5), (6, .int x6), (7, .int x7)] [.int v19] M) h (fun v19 h => ?_) (fun K20 h21 h => ?_)
        · refine J_istore (pc' := 95) (i := 8) (lv' := [(8, .int v19), (0, .ref 35), (1, .int x1), (2, .int x2), (4, .int x4), (5, .int x5), (6, .int x6), (7, .int x7)]) dX10_mostAlike_93 rfl (by decide) rfl ?_
          refine J_iload (pc' := 97) (i := 6) (n := 6) dX10_mostAlike_95 rfl rfl ?_
          refine J_iload_n (pc' := 98) (i := 1) (n := 2) dX10_mostAlike_97 rfl rfl rfl ?_
          refine J_iload (pc' := 100) (i := 7) (n := 7) dX10_mostAlike_98 rfl rfl ?_
          obtain ⟨v22, e23, h⟩ := tl_inv h
          refine J_callS (pc' := 103) (as := [.int x1, .int x7]) (rest := [.int x6]) dX10_mostAlike_100 rfl lk_X10_74 rfl (c_X10_has e23) ⟨Nat.le_of_ble_eq_true rfl, Nat.le_of_ble_eq_true rfl⟩ (Nat.le_of_ble_eq_true rfl) ⟨Nat.le_of_ble_eq_true rfl, Nat.le_of_ble_eq_true rfl⟩ (j_kq ?_)
          refine J_if_eq (pc' := 106) (tgt := 115) dX10_mostAlike_103 rfl (by decide) (fun c24 => ?_) (fun c24 => ?_)
          · replace h := j_ip c24 h
            refine J_iconst (pc' := 116) (v := (0 : Int32)) dX10_mostAlike_115 rfl ic_0 ?_
            refine J_iadd (pc' := 117) dX10_mostAlike_116 rfl ?_
            refine J_istore (pc' := 119) (i := 6) (lv' := [(6, .int (x6 + (0 : Int32))), (8, .int v19), (0, .ref 35), (1, .int x1), (2, .int x2), (4, .int x4), (5, .int x5), (7, .int x7)]) dX10_mostAlike_117 rfl (by decide) rfl ?_
            refine J_iinc (pc' := 122) (i := 7) (n := 7) (v := (x7 + (1 : Int32))) (lv' := [(7, .int (x7 + (1 : Int32))), (6, .int (x6 + (0 : Int32))), (8, .int v19), (0, .ref 35), (1, .int x1), (2, .int x2), (4, .int x4), (5, .int x5)]) dX10_mostAlike_119 rfl rfl (j_inc _ _ rfl _) (by decide) rfl ?_
            refine J_goto (pc' := 25) dX10_mostAlike_122 (by decide) ?_
            refine J_sub [3, 4, 5, 6, 7, 1, 0] (lv' := [(0, .ref 35), (1, .int x1), (2, .int x2), (4, .int x4), (5, .int x5), (6, .int (x6 + (0 : Int32))), (7, .int (x7 + (1 : Int32)))]) rfl ?_
            exact ih hs h hK
          · replace h := j_iq c24 h
            refine J_iload (pc' := 108) (i := 8) (n := 0) dX10_mostAlike_106 rfl rfl ?_
            refine J_if_eq (pc' := 111) (tgt := 115) dX10_mostAlike_108 rfl (by decide) (fun c25 => ?_) (fun c25 => ?_)
            · replace h := j_ip c25 h
              refine J_iconst (pc' := 116) (v := (0 : Int32)) dX10_mostAlike_115 rfl ic_0 ?_
              refine J_iadd (pc' := 117) dX10_mostAlike_116 rfl ?_
              refine J_istore (pc' := 119) (i := 6) (lv' := [(6, .int (x6 + (0 : Int32))), (8, .int v19), (0, .ref 35), (1, .int x1), (2, .int x2), (4, .int x4), (5, .int x5), (7, .int x7)]) dX10_mostAlike_117 rfl (by decide) rfl ?_
              refine J_iinc (pc' := 122) (i := 7) (n := 7) (v := (x7 + (1 : Int32))) (lv' := [(7, .int (x7 + (1 : Int32))), (6, .int (x6 + (0 : Int32))), (8, .int v19), (0, .ref 35), (1, .int x1), (2, .int x2), (4, .int x4), (5, .int x5)]) dX10_mostAlike_119 rfl rfl (j_inc _ _ rfl _) (by decide) rfl ?_
              refine J_goto (pc' := 25) dX10_mostAlike_122 (by decide) ?_
              refine J_sub [3, 4, 5, 6, 7, 1, 0] (lv' := [(0, .ref 35), (1, .int x1), (2, .int x2), (4, .int x4), (5, .int x5), (6, .int (x6 + (0 : Int32))), (7, .int (x7 + (1 : Int32)))]) rfl ?_
              exact ih hs h hK
            · replace h := j_iq c25 h
              refine J_iconst (pc' := 112) (v := (1 : Int32)) dX10_mostAlike_111 rfl ic_1 ?_
              refine J_goto (pc' := 116) dX10_mostAlike_112 (by decide) ?_
              refine J_iadd (pc' := 117) dX10_mostAlike_116 rfl ?_
              refine J_istore (pc' := 119) (i := 6) (lv' := [(6, .int (x6 + (1 : Int32))), (8, .int v19), (0, .ref 35), (1, .int x1), (2, .int x2), (4, .int x4), (5, .int x5), (7, .int x7)]) dX10_mostAlike_117 rfl (by decide) rfl ?_
              refine J_iinc (pc' := 122) (i := 7) (n := 7) (v := (x7 + (1 : Int32))) (lv' := [(7, .int (x7 + (1 : Int32))), (6, .int (x6 + (1 : Int32))), (8, .int v19), (0, .ref 35), (1, .int x1), (2, .int x2), (4, .int x4), (5, .int x5)]) dX10_mostAlike_119 rfl rfl (j_inc _ _ rfl _) (by decide) rfl ?_
              refine J_goto (pc' := 25) dX10_mostAlike_122 (by decide) ?_
              refine J_sub [3, 4, 5, 6, 7, 1, 0] (lv' := [(0, .ref 35), (1, .int x1), (2, .int x2), (4, .int x4), (5, .int x5), (6, .int (x6 + (1 : Int32))), (7, .int (x7 + (1 : Int32)))]) rfl ?_
              exact ih hs h hK
        · refine J_icmp_ne (pc' := 88) (tgt := 92) dX10_mostAlike_85 rfl (by decide) (fun c18 => ?_) (fun c18 => ?_)
          · replace h := j_iq c18 h
            refine J_iconst (pc' := 93) (v := (0 : Int32)) dX10_mostAlike_92 rfl ic_0 ?_
            exact h21 (0 : Int32) h
          · replace h := j_ip c18 h
            refine J_iconst (pc' := 89) (v := (1 : Int32)) dX10_mostAlike_88 rfl ic_1 ?_
            refine J_goto (pc' := 93) dX10_mostAlike_89 (by decide) ?_
            exact h21 (1 : Int32) h
set_option maxHeartbeats 4000000 in
theorem L_X10_mostAlike_L12 {l : Launch} {G : j_G}  {r : (Int32 × j_M)} : ∀ (n : Nat) {x1 : Int32} {x2 : Int32} {x4 : Int32} {x5 : Int32} {M : j_M} (hs : sh_m M.2.2) {K : Int32 → Int32 → Option (Int32 × j_M)}, f_X10_mostAlike_L12 n  M x1 x2 x4 x5 K = some r → (∀ (y4 : Int32) (y5 : Int32), K y4 y5 = some r → JT_X10_mostAlike l G r 147 [(4, .int y4)] [] M) → JT_X10_mostAlike l G r 12 [(0, .ref 35), (1, .int x1), (2, .int x2), (4, .int x4), (5, .int x5)] [] M := by
  intro n
  induction n with
  | zero =>
    intro x1 x2 x4 x5 M hs K h hK
    rw [f_X10_mostAlike_L12] at h; cases h
  | succ n ih =>
    intro x1 x2 x4 x5 M hs K h hK
    rw [f_X10_mostAlike_L12] at h
    refine J_iload (pc' := 14) (i := 5) (n := 4) dX10_mostAlike_12 rfl rfl ?_
    refine J_bipush (pc' := 16) (v := (6 : Int32)) dX10_mostAlike_14 rfl bp_6 ?_
    refine J_icmp_ge (pc' := 19) (tgt := 147) dX10_mostAlike_16 rfl (by decide) (fun c5 => ?_) (fun c5 => ?_)
    · replace h := j_ip c5 h
      refine J_sub [3] (lv' := [(4, .int x4)]) rfl ?_
      exact hK x4 x5  h
    · replace h := j_iq c5 h
      refine J_iconst (pc' := 20) (v := (0 : Int32)) dX10_mostAlike_19 rfl ic_0 ?_
      refine J_istore (pc' := 22) (i := 6) (lv' := [(6, .int (0 : Int32)), (0, .ref 35), (1, .int x1), (2, .int x2), (4, .int x4), (5, .int x5)]) dX10_mostAlike_20 rfl (by decide) rfl ?_
      refine J_iconst (pc' := 23) (v := (0 : Int32)) dX10_mostAlike_22 rfl ic_0 ?_
      refine J_istore (pc' := 25) (i := 7) (lv' := [(7, .int (0 : Int32)), (6, .int (0 : Int32)), (0, .ref 35), (1, .int x1), (2, .int x2), (4, .int x4), (5, .int x5)]) dX10_mostAlike_23 rfl (by decide) rfl ?_
      refine J_sub [2, 3, 4, 5, 6, 1, 0] (lv' := [(0, .ref 35), (1, .int x1), (2, .int x2), (4, .int x4), (5, .int x5), (6, .int (0 : Int32)), (7, .int (0 : Int32))]) rfl ?_
      refine L_X10_mostAlike_L25 j_fu hs h (fun y26 y27 h => ?_)
      refine J_iload (pc' := 127) (i := 6) (n := 5) dX10_mostAlike_125 rfl rfl ?_
      refine J_iload (pc' := 129) (i := 4) (n := 3) dX10_mostAlike_127 rfl rfl ?_
      refine J_icmp_le (pc' := 132) (tgt := 137) dX10_mostAlike_129 rfl (by decide) (fun c28 => ?_) (fun c28 => ?_)
      · replace h := j_ip c28 h
        refine J_iload (pc' := 139) (i := 4) (n := 3) dX10_mostAlike_137 rfl rfl ?_
        refine J_istore (pc' := 141) (i := 4) (lv' := [(4, .int x4), (0, .ref 35), (1, .int x1), (2, .int x2), (5, .int x5), (6, .int y26)]) dX10_mostAlike_139 rfl (by decide) rfl ?_
        refine J_iinc (pc' := 144) (i := 5) (n := 4) (v := (x5 + (1 : Int32))) (lv' := [(5, .int (x5 + (1 : Int32))), (4, .int x4), (0, .ref 35), (1, .int x1), (2, .int x2), (6, .int y26)]) dX10_mostAlike_141 rfl rfl (j_inc _ _ rfl _) (by decide) rfl ?_
        refine J_goto (pc' := 12) dX10_mostAlike_144 (by decide) ?_
        refine J_sub [2, 3, 4, 1, 0] (lv' := [(0, .ref 35), (1, .int x1), (2, .int x2), (4, .int x4), (5, .int (x5 + (1 : Int32)))]) rfl ?_
        exact ih hs h hK
      · replace h := j_iq c28 h
        refine J_iload (pc' := 134) (i := 6) (n := 5) dX10_mostAlike_132 rfl rfl ?_
        refine J_goto (pc' := 139) dX10_mostAlike_134 (by decide) ?_
        refine J_istore (pc' := 141) (i := 4) (lv' := [(4, .int y26), (0, .ref 35), (1, .int x1), (2, .int x2), (5, .int x5), (6, .int y26)]) dX10_mostAlike_139 rfl (by decide) rfl ?_
        refine J_iinc (pc' := 144) (i := 5) (n := 4) (v := (x5 + (1 : Int32))) (lv' := [(5, .int (x5 + (1 : Int32))), (4, .int y26), (0, .ref 35), (1, .int x1), (2, .int x2), (6, .int y26)]) dX10_mostAlike_141 rfl rfl (j_inc _ _ rfl _) (by decide) rfl ?_
        refine J_goto (pc' := 12) dX10_mostAlike_144 (by decide) ?_
        refine J_sub [2, 3, 4, 1, 0] (lv' := [(0, .ref 35), (1, .int x1), (2, .int x2), (4, .int y26), (5, .int (x5 + (1 : Int32)))]) rfl ?_
        exact ih hs h hK
set_option maxHeartbeats 4000000 in
theorem c_X10_mostAlike {l : Launch} {G : j_G} {M : j_M} {x1 : Int32} {x2 : Int32} {x3 : Int32} (hs : sh_m M.2.2) {r : (Int32 × j_M)} (h : f_X10_mostAlike M x1 x2 x3 = some r) : j_Sp l G md_X10_mostAlike 3 (0, 0) [.ref 35, .int x1, .int x2, .int x3] M (po (some (.int r.1)) r.2) := by
  refine j_Sp.of (by decide) (Nat.le_of_ble_eq_true rfl) ?_
  show JT_X10_mostAlike l G r 0 [(0, .ref 35), (1, .int x1), (2, .int x2), (3, .int x3)] [] M
  unfold f_X10_mostAlike at h
  refine J_iconst (pc' := 1) (v := (0 : Int32)) dX10_mostAlike_0 rfl ic_0 ?_
  refine J_istore (pc' := 3) (i := 4) (lv' := [(4, .int (0 : Int32)), (0, .ref 35), (1, .int x1), (2, .int x2), (3, .int x3)]) dX10_mostAlike_1 rfl (by decide) rfl ?_
  refine J_aload_n (pc' := 4) (i := 0) (n := 1) dX10_mostAlike_3 rfl rfl rfl ?_
  refine J_iload_n (pc' := 5) (i := 2) (n := 3) dX10_mostAlike_4 rfl rfl rfl ?_
  refine J_iload_n (pc' := 6) (i := 3) (n := 4) dX10_mostAlike_5 rfl rfl rfl ?_
  obtain ⟨q1, e2, h⟩ := bi_inv h
  obtain ⟨c3, h⟩ := j_ck_inv h
  refine J_callV (pc' := 9) (as := [.int x2, .int x3]) (rest := []) dX10_mostAlike_6 rfl lk_X10_124 rfl 10 (by decide) rfl (m_o hs) (m_n hs (Nat.le_of_ble_eq_true rfl)) (c_X10_layOthers hs e2) ⟨Nat.le_of_ble_eq_true rfl, Nat.le_of_ble_eq_true rfl⟩ (Nat.le_of_ble_eq_true rfl) ⟨Nat.le_of_ble_eq_true rfl, Nat.le_of_ble_eq_true rfl⟩ (j_kv ?_)
  have g4 : sh_m q1.2.2 := j_shE c3 hs
  refine J_iconst (pc' := 10) (v := (0 : Int32)) dX10_mostAlike_9 rfl ic_0 ?_
  refine J_istore (pc' := 12) (i := 5) (lv' := [(5, .int (0 : Int32)), (4, .int (0 : Int32)), (0, .ref 35), (1, .int x1), (2, .int x2), (3, .int x3)]) dX10_mostAlike_10 rfl (by decide) rfl ?_
  refine J_sub [2, 3, 4, 1, 0] (lv' := [(0, .ref 35), (1, .int x1), (2, .int x2), (4, .int (0 : Int32)), (5, .int (0 : Int32))]) rfl ?_
  refine L_X10_mostAlike_L12 j_fu g4 h (fun y29 y30 h => ?_)
  refine J_iload (pc' := 149) (i := 4) (n := 0) dX10_mostAlike_147 rfl rfl ?_
  exact J_iret rfl dX10_mostAlike_149 ⟨rfl, Nat.le_refl _⟩ (j_pW h)
abbrev JT_X10_look (l : Launch) (G : j_G) (r : (Int32 × j_M)) : Nat → List (Nat × Value) → List Value → j_M → Prop := JJ l G md_X10_look (j_rm 4 (0, 0)) (0, 0) (0, 0) (po (some (.int r.1)) r.2)
noncomputable def f_X10_look_L34 : Nat → j_M → Int32 → Int32 → Int32 → Int32 → Int32 → (Int32 → Int32 → Int32 → j_M → Option (Int32 × j_M)) → Option (Int32 × j_M)
  | 0, _, _, _, _, _, _, _ => none
  | n + 1, M, x1, x2, x3, x4, x5, K =>
    if (4 : Int32) ≤ x5 then (K x3 x4 x5 M) else (if x2 ≤ 0 then (K x3 x4 x5 M) else ((f_X10_isOpen M x5).bind fun v12 => (jn2 (fun (v15 : Int32) (M16 : j_M) => (jn (fun (v21 : Int32) => (if x4 ≤ v15 then (f_X10_look_L34 n  M16 x1 x2 v21 x4 (x5 + (1 : Int32)) K) else (f_X10_look_L34 n  M16 x1 x2 v21 v15 (x5 + (1 : Int32)) K))) (fun K22 => (if x4 ≤ v15 then (K22 x3) else (K22 x5))))) (fun K17 => (if v12 = 0 then (K17 (1000000 : Int32) M) else ((f_X10_mostAlike M x2 x1 x5).bind fun q25 => j_ck M q25.2 (K17 q25.1 q25.2)))))))
noncomputable def f_X10_look (M : j_M) (x1 : Int32) : Option (Int32 × j_M) :=
  (f_X10_isOne M x1).bind fun v1 => (if v1 = 0 then ((f_X10_bad M ((-2) : Int32)).bind fun q34 => j_ck M q34.2 (some (q34.1, q34.2))) else ((f_X10_kindsOf M x1).bind fun v4 => ((f_X10_layHand M).bind fun q6 => j_ck M q6 (f_X10_look_L34 j_fu  q6 x1 v4 ((-1) : Int32) (1000000 : Int32) (0 : Int32) (fun (y29 : Int32) (y30 : Int32) (y31 : Int32) (M32 : j_M) => (some (y29, M32)))))))
set_option maxHeartbeats 4000000 in
theorem L_X10_look_L34 {l : Launch} {G : j_G}  {r : (Int32 × j_M)} : ∀ (n : Nat) {x1 : Int32} {x2 : Int32} {x3 : Int32} {x4 : Int32} {x5 : Int32} {M : j_M} (hs : sh_m M.2.2) {K : Int32 → Int32 → Int32 → j_M → Option (Int32 × j_M)}, f_X10_look_L34 n  M x1 x2 x3 x4 x5 K = some r → (∀ (y3 : Int32) (y4 : Int32) (y5 : Int32) (M1 : j_M), sh_m M1.2.2 → K y3 y4 y5 M1 = some r → JT_X10_look l G r 104 [(3, .int y3)] [] M1) → JT_X10_look l G r 34 [(0, .ref 35), (1, .int x1), (2, .int x2), (3, .int x3), (4, .int x4), (5, .int x5)] [] M := by
  intro n
  induction n with
  | zero =>
    intro x1 x2 x3 x4 x5 M hs K h hK
    rw [f_X10_look_L34] at h; cases h
  | succ n ih =>
    intro x1 x2 x3 x4 x5 M hs K h hK
    rw [f_X10_look_L34] at h
    refine J_iload (pc' := 36) (i := 5) (n := 5) dX10_look_34 rfl rfl ?_
    refine J_iconst (pc' := 37) (v := (4 : Int32)) dX10_look_36 rfl ic_4 ?_
    refine J_icmp_ge (pc' := 40) (tgt := 104) dX10_look_37 rfl (by decide) (fun c10 => ?_) (fun c10 => ?_)
    · replace h := j_ip c10 h
      refine J_sub [3] (lv' := [(3, .int x3)]) rfl ?_
      exact hK x3 x4 x5 M hs h
    · replace h := j_iq c10 h
      refine J_iload_n (pc' := 41) (i := 2) (n := 2) dX10_look_40 rfl rfl rfl ?_
      refine J_if_le (pc' := 44) (tgt := 104) dX10_look_41 rfl (by decide) (fun c11 => ?_) (fun c11 => ?_)
      · replace h := j_ip c11 h
        refine J_sub [3] (lv' := [(3, .int x3)]) rfl ?_
        exact hK x3 x4 x5 M hs h
      · replace h := j_iq c11 h
        refine J_aload_n (pc' := 45) (i := 0) (n := 0) dX10_look_44 rfl rfl rfl ?_
        refine J_iload (pc' := 47) (i := 5) (n := 5) dX10_look_45 rfl rfl ?_
        obtain ⟨v12, e13, h⟩ := bi_inv h
        refine J_callV (pc' := 50) (as := [.int x5]) (rest := []) dX10_look_47 rfl lk_X10_101 rfl 10 (by decide) rfl (m_o hs) (m_n hs (Nat.le_of_ble_eq_true rfl)) (c_X10_isOpen hs e13) ⟨Nat.le_of_ble_eq_true rfl, Nat.le_of_ble_eq_true rfl⟩ (Nat.le_of_ble_eq_true rfl) ⟨Nat.le_of_ble_eq_true rfl, Nat.le_of_ble_eq_true rfl⟩ (j_kq ?_)
        refine J_join2 (C := fun (v15 : Int32) (M16 : j_M) => sh_m M16.2.2 → JT_X10_look l G r 66 [(0, .ref 35), (1, .int x1), (2, .int x2), (3, .int x3), (4, .int x4), (5, .int x5)] [.int v15] M16) h (fun v15 M16 h => ?_) (fun K17 h18 h => ?_)
        · intro g19
          refine J_istore (pc' := 68) (i := 6) (lv' := [(6, .int v15), (0, .ref 35), (1, .int x1), (2, .int x2), (3, .int x3), (4, .int x4), (5, .int x5)]) dX10_look_66 rfl (by decide) rfl ?_
          refine J_iload (pc' := 70) (i := 6) (n := 0) dX10_look_68 rfl rfl ?_
          refine J_iload (pc' := 72) (i := 4) (n := 5) dX10_look_70 rfl rfl ?_
          refine J_join (C := fun (v21 : Int32) => JT_X10_look l G r 81 [(0, .ref 35), (1, .int x1), (2, .int x2), (4, .int x4), (5, .int x5), (6, .int v15)] [.int v21] M16) h (fun v21 h => ?_) (fun K22 h23 h => ?_)
          · refine J_istore_n (pc' := 82) (i := 3) (lv' := [(3, .int v21), (0, .ref 35), (1, .int x1), (2, .int x2), (4, .int x4), (5, .int x5), (6, .int v15)]) dX10_look_81 rfl rfl (by decide) rfl ?_
            refine J_iload (pc' := 84) (i := 6) (n := 6) dX10_look_82 rfl rfl ?_
            refine J_iload (pc' := 86) (i := 4) (n := 4) dX10_look_84 rfl rfl ?_
            refine J_icmp_ge (pc' := 89) (tgt := 94) dX10_look_86 rfl (by decide) (fun c24 => ?_) (fun c24 => ?_)
            · replace h := j_ip c24 h
              refine J_iload (pc' := 96) (i := 4) (n := 4) dX10_look_94 rfl rfl ?_
              refine J_istore (pc' := 98) (i := 4) (lv' := [(4, .int x4), (3, .int v21), (0, .ref 35), (1, .int x1), (2, .int x2), (5, .int x5), (6, .int v15)]) dX10_look_96 rfl (by decide) rfl ?_
              refine J_iinc (pc' := 101) (i := 5) (n := 5) (v := (x5 + (1 : Int32))) (lv' := [(5, .int (x5 + (1 : Int32))), (4, .int x4), (3, .int v21), (0, .ref 35), (1, .int x1), (2, .int x2), (6, .int v15)]) dX10_look_98 rfl rfl (j_inc _ _ rfl _) (by decide) rfl ?_
              refine J_goto (pc' := 34) dX10_look_101 (by decide) ?_
              refine J_sub [3, 4, 5, 2, 1, 0] (lv' := [(0, .ref 35), (1, .int x1), (2, .int x2), (3, .int v21), (4, .int x4), (5, .int (x5 + (1 : Int32)))]) rfl ?_
              exact ih g19 h hK
            · replace h := j_iq c24 h
              refine J_iload (pc' := 91) (i := 6) (n := 6) dX10_look_89 rfl rfl ?_
              refine J_goto (pc' := 96) dX10_look_91 (by decide) ?_
              refine J_istore (pc' := 98) (i := 4) (lv' := [(4, .int v15), (3, .int v21), (0, .ref 35), (1, .int x1), (2, .int x2), (5, .int x5), (6, .int v15)]) dX10_look_96 rfl (by decide) rfl ?_
              refine J_iinc (pc' := 101) (i := 5) (n := 5) (v := (x5 + (1 : Int32))) (lv' := [(5, .int (x5 + (1 : Int32))), (4, .int v15), (3, .int v21), (0, .ref 35), (1, .int x1), (2, .int x2), (6, .int v15)]) dX10_look_98 rfl rfl (j_inc _ _ rfl _) (by decide) rfl ?_
              refine J_goto (pc' := 34) dX10_look_101 (by decide) ?_
              refine J_sub [3, 4, 5, 2, 1, 0] (lv' := [(0, .ref 35), (1, .int x1), (2, .int x2), (3, .int v21), (4, .int v15), (5, .int (x5 + (1 : Int32)))]) rfl ?_
              exact ih g19 h hK
          · refine J_icmp_ge (pc' := 75) (tgt := 80) dX10_look_72 rfl (by decide) (fun c20 => ?_) (fun c20 => ?_)
            · replace h := j_ip c20 h
              refine J_iload_n (pc' := 81) (i := 3) (n := 4) dX10_look_80 rfl rfl rfl ?_
              refine J_sub [1, 2, 3, 5, 6, 0] (lv' := [(0, .ref 35), (1, .int x1), (2, .int x2), (4, .int x4), (5, .int x5), (6, .int v15)]) rfl ?_
              exact h23 x3 h
            · replace h := j_iq c20 h
              refine J_iload (pc' := 77) (i := 5) (n := 6) dX10_look_75 rfl rfl ?_
              refine J_goto (pc' := 81) dX10_look_77 (by decide) ?_
              refine J_sub [1, 2, 3, 5, 6, 0] (lv' := [(0, .ref 35), (1, .int x1), (2, .int x2), (4, .int x4), (5, .int x5), (6, .int v15)]) rfl ?_
              exact h23 x5 h
        · refine J_if_eq (pc' := 53) (tgt := 64) dX10_look_50 rfl (by decide) (fun c14 => ?_) (fun c14 => ?_)
          · replace h := j_ip c14 h
            refine J_ldc (pc' := 66) (v := (1000000 : Int32)) dX10_look_64 rfl wd_1101 ?_
            exact h18 (1000000 : Int32) M h hs
          · replace h := j_iq c14 h
            refine J_aload_n (pc' := 54) (i := 0) (n := 0) dX10_look_53 rfl rfl rfl ?_
            refine J_iload_n (pc' := 55) (i := 2) (n := 2) dX10_look_54 rfl rfl rfl ?_
            refine J_iload_n (pc' := 56) (i := 1) (n := 1) dX10_look_55 rfl rfl rfl ?_
            refine J_iload (pc' := 58) (i := 5) (n := 5) dX10_look_56 rfl rfl ?_
            obtain ⟨q25, e26, h⟩ := bi_inv h
            obtain ⟨c27, h⟩ := j_ck_inv h
            refine J_callV (pc' := 61) (as := [.int x2, .int x1, .int x5]) (rest := []) dX10_look_58 rfl lk_X10_197 rfl 10 (by decide) rfl (m_o hs) (m_n hs (Nat.le_of_ble_eq_true rfl)) (c_X10_mostAlike hs e26) ⟨Nat.le_of_ble_eq_true rfl, Nat.le_of_ble_eq_true rfl⟩ (Nat.le_of_ble_eq_true rfl) ⟨Nat.le_of_ble_eq_true rfl, Nat.le_of_ble_eq_true rfl⟩ (j_kq ?_)
            have g28 : sh_m q25.2.2.2 := j_shE c27 hs
            refine J_goto (pc' := 66) dX10_look_61 (by decide) ?_
            exact h18 q25.1 q25.2 h g28
set_option maxHeartbeats 4000000 in
theorem c_X10_look {l : Launch} {G : j_G} {M : j_M} {x1 : Int32} (hs : sh_m M.2.2) {r : (Int32 × j_M)} (h : f_X10_look M x1 = some r) : j_Sp l G md_X10_look 4 (0, 0) [.ref 35, .int x1] M (po (some (.int r.1)) r.2) := by
  refine j_Sp.of (by decide) (Nat.le_of_ble_eq_true rfl) ?_
  show JT_X10_look l G r 0 [(0, .ref 35), (1, .int x1)] [] M
  unfold f_X10_look at h
  refine J_aload_n (pc' := 1) (i := 0) (n := 0) dX10_look_0 rfl rfl rfl ?_
  refine J_iload_n (pc' := 2) (i := 1) (n := 1) dX10_look_1 rfl rfl rfl ?_
  obtain ⟨v1, e2, h⟩ := bi_inv h
  refine J_callV (pc' := 5) (as := [.int x1]) (rest := []) dX10_look_2 rfl lk_X10_132 rfl 10 (by decide) rfl (m_o hs) (m_n hs (Nat.le_of_ble_eq_true rfl)) (c_X10_isOne hs e2) ⟨Nat.le_of_ble_eq_true rfl, Nat.le_of_ble_eq_true rfl⟩ (Nat.le_of_ble_eq_true rfl) ⟨Nat.le_of_ble_eq_true rfl, Nat.le_of_ble_eq_true rfl⟩ (j_kq ?_)
  refine J_if_ne (pc' := 8) (tgt := 15) dX10_look_5 rfl (by decide) (fun c3 => ?_) (fun c3 => ?_)
  · replace h := j_iq c3 h
    refine J_aload_n (pc' := 16) (i := 0) (n := 0) dX10_look_15 rfl rfl rfl ?_
    refine J_iload_n (pc' := 17) (i := 1) (n := 1) dX10_look_16 rfl rfl rfl ?_
    obtain ⟨v4, e5, h⟩ := bi_inv h
    refine J_callV (pc' := 20) (as := [.int x1]) (rest := []) dX10_look_17 rfl lk_X10_194 rfl 10 (by decide) rfl (m_o hs) (m_n hs (Nat.le_of_ble_eq_true rfl)) (c_X10_kindsOf hs e5) ⟨Nat.le_of_ble_eq_true rfl, Nat.le_of_ble_eq_true rfl⟩ (Nat.le_of_ble_eq_true rfl) ⟨Nat.le_of_ble_eq_true rfl, Nat.le_of_ble_eq_true rfl⟩ (j_kq ?_)
    refine J_istore_n (pc' := 21) (i := 2) (lv' := [(2, .int v4), (0, .ref 35), (1, .int x1)]) dX10_look_20 rfl rfl (by decide) rfl ?_
    refine J_iconst (pc' := 22) (v := ((-1) : Int32)) dX10_look_21 rfl ic_m1 ?_
    refine J_istore_n (pc' := 23) (i := 3) (lv' := [(3, .int ((-1) : Int32)), (2, .int v4), (0, .ref 35), (1, .int x1)]) dX10_look_22 rfl rfl (by decide) rfl ?_
    refine J_ldc (pc' := 25) (v := (1000000 : Int32)) dX10_look_23 rfl wd_1101 ?_
    refine J_istore (pc' := 27) (i := 4) (lv' := [(4, .int (1000000 : Int32)), (3, .int ((-1) : Int32)), (2, .int v4), (0, .ref 35), (1, .int x1)]) dX10_look_25 rfl (by decide) rfl ?_
    refine J_aload_n (pc' := 28) (i := 0) (n := 3) dX10_look_27 rfl rfl rfl ?_
    obtain ⟨q6, e7, h⟩ := bi_inv h
    obtain ⟨c8, h⟩ := j_ck_inv h
    refine J_callV (pc' := 31) (as := []) (rest := []) dX10_look_28 rfl lk_X10_140 rfl 10 (by decide) rfl (m_o hs) (m_n hs (Nat.le_of_ble_eq_true rfl)) (c_X10_layHand hs e7) ⟨Nat.le_of_ble_eq_true rfl, Nat.le_of_ble_eq_true rfl⟩ (Nat.le_of_ble_eq_true rfl) ⟨Nat.le_of_ble_eq_true rfl, Nat.le_of_ble_eq_true rfl⟩ (j_kv ?_)
    have g9 : sh_m q6.2.2 := j_shE c8 hs
    refine J_iconst (pc' := 32) (v := (0 : Int32)) dX10_look_31 rfl ic_0 ?_
    refine J_istore (pc' := 34) (i := 5) (lv' := [(5, .int (0 : Int32)), (4, .int (1000000 : Int32)), (3, .int ((-1) : Int32)), (2, .int v4), (0, .ref 35), (1, .int x1)]) dX10_look_32 rfl (by decide) rfl ?_
    refine J_sub [4, 5, 3, 2, 1, 0] (lv' := [(0, .ref 35), (1, .int x1), (2, .int v4), (3, .int ((-1) : Int32)), (4, .int (1000000 : Int32)), (5, .int (0 : Int32))]) rfl ?_
    refine L_X10_look_L34 j_fu g9 h (fun y29 y30 y31 M32 g33 h => ?_)
    refine J_iload_n (pc' := 105) (i := 3) (n := 0) dX10_look_104 rfl rfl rfl ?_
    exact J_iret rfl dX10_look_105 ⟨rfl, Nat.le_refl _⟩ (j_pW h)
  · replace h := j_ip c3 h
    refine J_aload_n (pc' := 9) (i := 0) (n := 0) dX10_look_8 rfl rfl rfl ?_
    refine J_bipush (pc' := 11) (v := ((-2) : Int32)) dX10_look_9 rfl bp_m2 ?_
    obtain ⟨q34, e35, h⟩ := bi_inv h
    obtain ⟨c36, h⟩ := j_ck_inv h
    refine J_callV (pc' := 14) (as := [.int ((-2) : Int32)]) (rest := []) dX10_look_11 rfl lk_X10_84 rfl 10 (by decide) rfl (m_o hs) (m_n hs (Nat.le_of_ble_eq_true rfl)) (c_X10_bad hs e35) ⟨Nat.le_of_ble_eq_true rfl, Nat.le_of_ble_eq_true rfl⟩ (Nat.le_of_ble_eq_true rfl) ⟨Nat.le_of_ble_eq_true rfl, Nat.le_of_ble_eq_true rfl⟩ (j_kq ?_)
    have g37 : sh_m q34.2.2.2 := j_shE c36 hs
    exact J_iret rfl dX10_look_14 ⟨rfl, Nat.le_refl _⟩ (j_pW h)
abbrev JT_X10_touch (l : Launch) (G : j_G) (r : (Int32 × j_M)) : Nat → List (Nat × Value) → List Value → j_M → Prop := JJ l G md_X10_touch (j_rm 3 (0, 0)) (0, 0) (0, 0) (po (some (.int r.1)) r.2)
noncomputable def f_X10_touch_L56 : Nat → j_M → Int32 → Int32 → Int32 → (Int32 → j_M → Option (Int32 × j_M)) → Option (Int32 × j_M)
  | 0, _, _, _, _, _ => none
  | n + 1, M, x1, x2, x3, K =>
    if (4 : Int32) ≤ x3 then (K x3 M) else (jn (fun (v23 : Int32) => (jn (fun (v27 : Int32) => (jn (fun (v31 : Int32) => (w_i M 45 4 x3 v31 fun M34 => (jn (fun (v38 : Int32) => (w_i M34 46 4 x3 v38 fun M41 => (f_X10_touch_L56 n  M41 x1 x2 (x3 + (1 : Int32)) K))) (fun K39 => (if v27 = 0 then (if v23 = 0 then (K39 (1 : Int32)) else ((f_X10_paceOf M34 x2).bind fun v45 => ((f_X10_paceOf M34 x1).bind fun v47 => (if v47 ≤ v45 then (K39 ((-1) : Int32)) else (K39 (1 : Int32)))))) else (K39 (0 : Int32))))))) (fun K32 => (if v27 = 0 then (if v23 = 0 then (K32 (0 : Int32)) else (K32 ((-1) : Int32))) else (if v23 = 0 then (K32 (2 : Int32)) else (K32 (1 : Int32))))))) (fun K28 => (if x3 ≤ (1 : Int32) then (K28 (0 : Int32)) else (K28 (1 : Int32)))))) (fun K24 => (if (x3 &&& (1 : Int32)) = (1 : Int32) then (K24 (1 : Int32)) else (K24 (0 : Int32)))))
noncomputable def f_X10_touch_L170 : Nat → j_M → Int32 → Int32 → (Int32 → Int32 → Option (Int32 × j_M)) → Option (Int32 × j_M)
  | 0, _, _, _, _ => none
  | n + 1, M, x3, x4, K =>
    if (4 : Int32) ≤ x4 then (K x3 x4) else (a_i M 45 4 x4 fun v56 => (a_i M 45 4 (x4 ^^^ (1 : Int32)) fun v58 => (jn (fun (v61 : Int32) => (if v61 = 0 then (f_X10_touch_L170 n  M (x3 ||| (0 : Int32)) (x4 + (1 : Int32)) K) else (f_X10_touch_L170 n  M (x3 ||| ((1 : Int32) <<< (x4 &&& 31))) (x4 + (1 : Int32)) K))) (fun K62 => (if v56 < v58 then (K62 (0 : Int32)) else (a_i M 46 4 x4 fun v65 => (a_i M 46 4 (x4 ^^^ (2 : Int32)) fun v67 => (if v65 < v67 then (K62 (0 : Int32)) else (K62 (1 : Int32))))))))))
noncomputable def f_X10_touch (M : j_M) (x1 : Int32) (x2 : Int32) : Option (Int32 × j_M) :=
  (f_X10_isOne M x1).bind fun v1 => (if v1 = 0 then ((f_X10_bad M ((-2) : Int32)).bind fun q4 => j_ck M q4.2 (some (q4.1, q4.2))) else ((f_X10_isOne M x2).bind fun v8 => (if v8 = 0 then ((f_X10_bad M ((-2) : Int32)).bind fun q11 => j_ck M q11.2 (some (q11.1, q11.2))) else (if x1 = x2 then ((f_X10_bad M ((-2) : Int32)).bind fun q76 => j_ck M q76.2 (some (q76.1, q76.2))) else (a_i M 36 250 ((9 : Int32) + x1) fun v16 => (a_i M 36 250 ((9 : Int32) + x2) fun v18 => (if v16 = v18 then (f_X10_touch_L56 j_fu  M x1 x2 (0 : Int32) (fun (y52 : Int32) (M53 : j_M) => (f_X10_touch_L170 j_fu  M53 (0 : Int32) (0 : Int32) (fun (y70 : Int32) (y71 : Int32) => (some (y70, M53)))))) else ((f_X10_no M).bind fun q72 => j_ck M q72.2 (some (q72.1, q72.2))))))))))
set_option maxHeartbeats 4000000 in
theorem L_X10_touch_L56 {l : Launch} {G : j_G}  {r : (Int32 × j_M)} : ∀ (n : Nat) {x1 : Int32} {x2 : Int32} {x3 : Int32} {M : j_M} (hs : sh_m M.2.2) {K : Int32 → j_M → Option (Int32 × j_M)}, f_X10_touch_L56 n  M x1 x2 x3 K = some r → (∀ (y3 : Int32) (M1 : j_M), sh_m M1.2.2 → K y3 M1 = some r → JT_X10_touch l G r 165 [(0, .ref 35)] [] M1) → JT_X10_touch l G r 56 [(0, .ref 35), (1, .int x1), (2, .int x2), (3, .int x3)] [] M := by
  intro n
  induction n with
  | zero =>
    intro x1 x2 x3 M hs K h hK
    rw [f_X10_touch_L56] at h; cases h
  | succ n ih =>
    intro x1 x2 x3 M hs K h hK
    rw [f_X10_touch_L56] at h
    refine J_iload_n (pc' := 57) (i := 3) (n := 3) dX10_touch_56 rfl rfl rfl ?_
    refine J_iconst (pc' := 58) (v := (4 : Int32)) dX10_touch_57 rfl ic_4 ?_
    refine J_icmp_ge (pc' := 61) (tgt := 165) dX10_touch_58 rfl (by decide) (fun c21 => ?_) (fun c21 => ?_)
    · replace h := j_ip c21 h
      refine J_sub [0] (lv' := [(0, .ref 35)]) rfl ?_
      exact hK x3 M hs h
    · replace h := j_iq c21 h
      refine J_iload_n (pc' := 62) (i := 3) (n := 3) dX10_touch_61 rfl rfl rfl ?_
      refine J_iconst (pc' := 63) (v := (1 : Int32)) dX10_touch_62 rfl ic_1 ?_
      refine J_iand (pc' := 64) dX10_touch_63 rfl ?_
      refine J_iconst (pc' := 65) (v := (1 : Int32)) dX10_touch_64 rfl ic_1 ?_
      refine J_join (C := fun (v23 : Int32) => JT_X10_touch l G r 73 [(0, .ref 35), (1, .int x1), (2, .int x2), (3, .int x3)] [.int v23] M) h (fun v23 h => ?_) (fun K24 h25 h => ?_)
      · refine J_istore (pc' := 75) (i := 4) (lv' := [(4, .int v23), (0, .ref 35), (1, .int x1), (2, .int x2), (3, .int x3)]) dX10_touch_73 rfl (by decide) rfl ?_
        refine J_iload_n (pc' := 76) (i := 3) (n := 4) dX10_touch_75 rfl rfl rfl ?_
        refine J_iconst (pc' := 77) (v := (1 : Int32)) dX10_touch_76 rfl ic_1 ?_
        refine J_join (C := fun (v27 : Int32) => JT_X10_touch l G r 85 [(0, .ref 35), (1, .int x1), (2, .int x2), (3, .int x3), (4, .int v23)] [.int v27] M) h (fun v27 h => ?_) (fun K28 h29 h => ?_)
        · refine J_istore (pc' := 87) (i := 5) (lv' := [(5, .int v27), (0, .ref 35), (1, .int x1), (2, .int x2), (3, .int x3), (4, .int v23)]) dX10_touch_85 rfl (by decide) rfl ?_
          refine J_aload_n (pc' := 88) (i := 0) (n := 1) dX10_touch_87 rfl rfl rfl ?_
          refine J_getR (pc' := 91) (b := 45) dX10_touch_88 rfl fl_X10_42 rfl (m_o hs) (m_n hs (Nat.le_of_ble_eq_true rfl)) (m_r15 hs) ?_
          refine J_iload_n (pc' := 92) (i := 3) (n := 4) dX10_touch_91 rfl rfl rfl ?_
          refine J_iload (pc' := 94) (i := 5) (n := 0) dX10_touch_92 rfl rfl ?_
          refine J_join (C := fun (v31 : Int32) => JT_X10_touch l G r 120 [(0, .ref 35), (1, .int x1), (2, .int x2), (3, .int x3), (4, .int v23), (5, .int v27)] [.int v31, .int x3, .ref 45] M) h (fun v31 h => ?_) (fun K32 h33 h => ?_)
          · obtain ⟨M34, e35, h⟩ := w_i_inv h
            have g36 : sh_m M34.2.2 := j_shI e35.2 hs
            refine J_iaste (pc' := 121) dX10_touch_120 rfl (m_s45 hs) (m_n hs (Nat.le_of_ble_eq_true rfl)) e35 ?_
            refine J_aload_n (pc' := 122) (i := 0) (n := 0) dX10_touch_121 rfl rfl rfl ?_
            refine J_getR (pc' := 125) (b := 46) dX10_touch_122 rfl fl_X10_45 rfl (m_o g36) (m_n g36 (Nat.le_of_ble_eq_true rfl)) (m_r16 g36) ?_
            refine J_iload_n (pc' := 126) (i := 3) (n := 3) dX10_touch_125 rfl rfl rfl ?_
            refine J_iload (pc' := 128) (i := 5) (n := 5) dX10_touch_126 rfl rfl ?_
            refine J_join (C := fun (v38 : Int32) => JT_X10_touch l G r 158 [(0, .ref 35), (1, .int x1), (2, .int x2), (3, .int x3)] [.int v38, .int x3, .ref 46] M34) h (fun v38 h => ?_) (fun K39 h40 h => ?_)
            · obtain ⟨M41, e42, h⟩ := w_i_inv h
              have g43 : sh_m M41.2.2 := j_shI e42.2 g36
              refine J_iaste (pc' := 159) dX10_touch_158 rfl (m_s46 g36) (m_n g36 (Nat.le_of_ble_eq_true rfl)) e42 ?_
              refine J_iinc (pc' := 162) (i := 3) (n := 3) (v := (x3 + (1 : Int32))) (lv' := [(3, .int (x3 + (1 : Int32))), (0, .ref 35), (1, .int x1), (2, .int x2)]) dX10_touch_159 rfl rfl (j_inc _ _ rfl _) (by decide) rfl ?_
              refine J_goto (pc' := 56) dX10_touch_162 (by decide) ?_
              refine J_sub [1, 2, 3, 0] (lv' := [(0, .ref 35), (1, .int x1), (2, .int x2), (3, .int (x3 + (1 : Int32)))]) rfl ?_
              exact ih g43 h hK
            · refine J_if_eq (pc' := 131) (tgt := 135) dX10_touch_128 rfl (by decide) (fun c37 => ?_) (fun c37 => ?_)
              · replace h := j_ip c37 h
                refine J_iload (pc' := 137) (i := 4) (n := 4) dX10_touch_135 rfl rfl ?_
                refine J_if_eq (pc' := 140) (tgt := 153) dX10_touch_137 rfl (by decide) (fun c44 => ?_) (fun c44 => ?_)
                · replace h := j_ip c44 h
                  refine J_iconst (pc' := 154) (v := (1 : Int32)) dX10_touch_153 rfl ic_1 ?_
                  refine J_goto (pc' := 158) dX10_touch_154 (by decide) ?_
                  refine J_sub [0, 1, 2, 3] (lv' := [(0, .ref 35), (1, .int x1), (2, .int x2), (3, .int x3)]) rfl ?_
                  exact h40 (1 : Int32) h
                · replace h := j_iq c44 h
                  refine J_aload_n (pc' := 141) (i := 0) (n := 0) dX10_touch_140 rfl rfl rfl ?_
                  refine J_iload_n (pc' := 142) (i := 2) (n := 2) dX10_touch_141 rfl rfl rfl ?_
                  obtain ⟨v45, e46, h⟩ := bi_inv h
                  refine J_callV (pc' := 145) (as := [.int x2]) (rest := [.int x3, .ref 46]) dX10_touch_142 rfl lk_X10_121 rfl 10 (by decide) rfl (m_o g36) (m_n g36 (Nat.le_of_ble_eq_true rfl)) (c_X10_paceOf g36 e46) ⟨Nat.le_of_ble_eq_true rfl, Nat.le_of_ble_eq_true rfl⟩ (Nat.le_of_ble_eq_true rfl) ⟨Nat.le_of_ble_eq_true rfl, Nat.le_of_ble_eq_true rfl⟩ (j_kq ?_)
                  refine J_aload_n (pc' := 146) (i := 0) (n := 0) dX10_touch_145 rfl rfl rfl ?_
                  refine J_iload_n (pc' := 147) (i := 1) (n := 1) dX10_touch_146 rfl rfl rfl ?_
                  obtain ⟨v47, e48, h⟩ := bi_inv h
                  refine J_callV (pc' := 150) (as := [.int x1]) (rest := [.int v45, .int x3, .ref 46]) dX10_touch_147 rfl lk_X10_121 rfl 10 (by decide) rfl (m_o g36) (m_n g36 (Nat.le_of_ble_eq_true rfl)) (c_X10_paceOf g36 e48) ⟨Nat.le_of_ble_eq_true rfl, Nat.le_of_ble_eq_true rfl⟩ (Nat.le_of_ble_eq_true rfl) ⟨Nat.le_of_ble_eq_true rfl, Nat.le_of_ble_eq_true rfl⟩ (j_kq ?_)
                  refine J_icmp_ge (pc' := 153) (tgt := 157) dX10_touch_150 rfl (by decide) (fun c49 => ?_) (fun c49 => ?_)
                  · replace h := j_ip c49 h
                    refine J_iconst (pc' := 158) (v := ((-1) : Int32)) dX10_touch_157 rfl ic_m1 ?_
                    refine J_sub [0, 1, 2, 3] (lv' := [(0, .ref 35), (1, .int x1), (2, .int x2), (3, .int x3)]) rfl ?_
                    exact h40 ((-1) : Int32) h
                  · replace h := j_iq c49 h
                    refine J_iconst (pc' := 154) (v := (1 : Int32)) dX10_touch_153 rfl ic_1 ?_
                    refine J_goto (pc' := 158) dX10_touch_154 (by decide) ?_
                    refine J_sub [0, 1, 2, 3] (lv' := [(0, .ref 35), (1, .int x1), (2, .int x2), (3, .int x3)]) rfl ?_
                    exact h40 (1 : Int32) h
              · replace h := j_iq c37 h
                refine J_iconst (pc' := 132) (v := (0 : Int32)) dX10_touch_131 rfl ic_0 ?_
                refine J_goto (pc' := 158) dX10_touch_132 (by decide) ?_
                refine J_sub [0, 1, 2, 3] (lv' := [(0, .ref 35), (1, .int x1), (2, .int x2), (3, .int x3)]) rfl ?_
                exact h40 (0 : Int32) h
          · refine J_if_eq (pc' := 97) (tgt := 110) dX10_touch_94 rfl (by decide) (fun c30 => ?_) (fun c30 => ?_)
            · replace h := j_ip c30 h
              refine J_iload (pc' := 112) (i := 4) (n := 5) dX10_touch_110 rfl rfl ?_
              refine J_if_eq (pc' := 115) (tgt := 119) dX10_touch_112 rfl (by decide) (fun c50 => ?_) (fun c50 => ?_)
              · replace h := j_ip c50 h
                refine J_iconst (pc' := 120) (v := (0 : Int32)) dX10_touch_119 rfl ic_0 ?_
                refine J_sub [1, 2, 3, 4, 5, 0] (lv' := [(0, .ref 35), (1, .int x1), (2, .int x2), (3, .int x3), (4, .int v23), (5, .int v27)]) rfl ?_
                exact h33 (0 : Int32) h
              · replace h := j_iq c50 h
                refine J_iconst (pc' := 116) (v := ((-1) : Int32)) dX10_touch_115 rfl ic_m1 ?_
                refine J_goto (pc' := 120) dX10_touch_116 (by decide) ?_
                refine J_sub [1, 2, 3, 4, 5, 0] (lv' := [(0, .ref 35), (1, .int x1), (2, .int x2), (3, .int x3), (4, .int v23), (5, .int v27)]) rfl ?_
                exact h33 ((-1) : Int32) h
            · replace h := j_iq c30 h
              refine J_iload (pc' := 99) (i := 4) (n := 5) dX10_touch_97 rfl rfl ?_
              refine J_if_eq (pc' := 102) (tgt := 106) dX10_touch_99 rfl (by decide) (fun c51 => ?_) (fun c51 => ?_)
              · replace h := j_ip c51 h
                refine J_iconst (pc' := 107) (v := (2 : Int32)) dX10_touch_106 rfl ic_2 ?_
                refine J_goto (pc' := 120) dX10_touch_107 (by decide) ?_
                refine J_sub [1, 2, 3, 4, 5, 0] (lv' := [(0, .ref 35), (1, .int x1), (2, .int x2), (3, .int x3), (4, .int v23), (5, .int v27)]) rfl ?_
                exact h33 (2 : Int32) h
              · replace h := j_iq c51 h
                refine J_iconst (pc' := 103) (v := (1 : Int32)) dX10_touch_102 rfl ic_1 ?_
                refine J_goto (pc' := 120) dX10_touch_103 (by decide) ?_
                refine J_sub [1, 2, 3, 4, 5, 0] (lv' := [(0, .ref 35), (1, .int x1), (2, .int x2), (3, .int x3), (4, .int v23), (5, .int v27)]) rfl ?_
                exact h33 (1 : Int32) h
        · refine J_icmp_le (pc' := 80) (tgt := 84) dX10_touch_77 rfl (by decide) (fun c26 => ?_) (fun c26 => ?_)
          · replace h := j_ip c26 h
            refine J_iconst (pc' := 85) (v := (0 : Int32)) dX10_touch_84 rfl ic_0 ?_
            refine J_sub [1, 2, 3, 4, 0] (lv' := [(0, .ref 35), (1, .int x1), (2, .int x2), (3, .int x3), (4, .int v23)]) rfl ?_
            exact h29 (0 : Int32) h
          · replace h := j_iq c26 h
            refine J_iconst (pc' := 81) (v := (1 : Int32)) dX10_touch_80 rfl ic_1 ?_
            refine J_goto (pc' := 85) dX10_touch_81 (by decide) ?_
            refine J_sub [1, 2, 3, 4, 0] (lv' := [(0, .ref 35), (1, .int x1), (2, .int x2), (3, .int x3), (4, .int v23)]) rfl ?_
            exact h29 (1 : Int32) h
      · refine J_icmp_ne (pc' := 68) (tgt := 72) dX10_touch_65 rfl (by decide) (fun c22 => ?_) (fun c22 => ?_)
        · replace h := j_iq c22 h
          refine J_iconst (pc' := 73) (v := (0 : Int32)) dX10_touch_72 rfl ic_0 ?_
          exact h25 (0 : Int32) h
        · replace h := j_ip c22 h
          refine J_iconst (pc' := 69) (v := (1 : Int32)) dX10_touch_68 rfl ic_1 ?_
          refine J_goto (pc' := 73) dX10_touch_69 (by decide) ?_
          exact h25 (1 : Int32) h
set_option maxHeartbeats 4000000 in
theorem L_X10_touch_L170 {l : Launch} {G : j_G}  {r : (Int32 × j_M)} : ∀ (n : Nat) {x3 : Int32} {x4 : Int32} {M : j_M} (hs : sh_m M.2.2) {K : Int32 → Int32 → Option (Int32 × j_M)}, f_X10_touch_L170 n  M x3 x4 K = some r → (∀ (y3 : Int32) (y4 : Int32), K y3 y4 = some r → JT_X10_touch l G r 243 [(3, .int y3)] [] M) → JT_X10_touch l G r 170 [(0, .ref 35), (3, .int x3), (4, .int x4)] [] M := by
  intro n
  induction n with
  | zero =>
    intro x3 x4 M hs K h hK
    rw [f_X10_touch_L170] at h; cases h
  | succ n ih =>
    intro x3 x4 M hs K h hK
    rw [f_X10_touch_L170] at h
    refine J_iload (pc' := 172) (i := 4) (n := 2) dX10_touch_170 rfl rfl ?_
    refine J_iconst (pc' := 173) (v := (4 : Int32)) dX10_touch_172 rfl ic_4 ?_
    refine J_icmp_ge (pc' := 176) (tgt := 243) dX10_touch_173 rfl (by decide) (fun c55 => ?_) (fun c55 => ?_)
    · replace h := j_ip c55 h
      refine J_sub [1] (lv' := [(3, .int x3)]) rfl ?_
      exact hK x3 x4  h
    · replace h := j_iq c55 h
      refine J_aload_n (pc' := 177) (i := 0) (n := 0) dX10_touch_176 rfl rfl rfl ?_
      refine J_getR (pc' := 180) (b := 45) dX10_touch_177 rfl fl_X10_42 rfl (m_o hs) (m_n hs (Nat.le_of_ble_eq_true rfl)) (m_r15 hs) ?_
      refine J_iload (pc' := 182) (i := 4) (n := 2) dX10_touch_180 rfl rfl ?_
      obtain ⟨v56, e57, h⟩ := a_i_inv h
      refine J_ialde (pc' := 183) dX10_touch_182 rfl (m_s45 hs) (m_n hs (Nat.le_of_ble_eq_true rfl)) e57 ?_
      refine J_aload_n (pc' := 184) (i := 0) (n := 0) dX10_touch_183 rfl rfl rfl ?_
      refine J_getR (pc' := 187) (b := 45) dX10_touch_184 rfl fl_X10_42 rfl (m_o hs) (m_n hs (Nat.le_of_ble_eq_true rfl)) (m_r15 hs) ?_
      refine J_iload (pc' := 189) (i := 4) (n := 2) dX10_touch_187 rfl rfl ?_
      refine J_iconst (pc' := 190) (v := (1 : Int32)) dX10_touch_189 rfl ic_1 ?_
      refine J_ixor (pc' := 191) dX10_touch_190 rfl ?_
      obtain ⟨v58, e59, h⟩ := a_i_inv h
      refine J_ialde (pc' := 192) dX10_touch_191 rfl (m_s45 hs) (m_n hs (Nat.le_of_ble_eq_true rfl)) e59 ?_
      refine J_join (C := fun (v61 : Int32) => JT_X10_touch l G r 219 [(0, .ref 35), (3, .int x3), (4, .int x4)] [.int v61] M) h (fun v61 h => ?_) (fun K62 h63 h => ?_)
      · refine J_istore (pc' := 221) (i := 5) (lv' := [(5, .int v61), (0, .ref 35), (3, .int x3), (4, .int x4)]) dX10_touch_219 rfl (by decide) rfl ?_
        refine J_iload_n (pc' := 222) (i := 3) (n := 2) dX10_touch_221 rfl rfl rfl ?_
        refine J_iload (pc' := 224) (i := 5) (n := 0) dX10_touch_222 rfl rfl ?_
        refine J_if_eq (pc' := 227) (tgt := 234) dX10_touch_224 rfl (by decide) (fun c64 => ?_) (fun c64 => ?_)
        · replace h := j_ip c64 h
          refine J_iconst (pc' := 235) (v := (0 : Int32)) dX10_touch_234 rfl ic_0 ?_
          refine J_ior (pc' := 236) dX10_touch_235 rfl ?_
          refine J_istore_n (pc' := 237) (i := 3) (lv' := [(3, .int (x3 ||| (0 : Int32))), (5, .int v61), (0, .ref 35), (4, .int x4)]) dX10_touch_236 rfl rfl (by decide) rfl ?_
          refine J_iinc (pc' := 240) (i := 4) (n := 3) (v := (x4 + (1 : Int32))) (lv' := [(4, .int (x4 + (1 : Int32))), (3, .int (x3 ||| (0 : Int32))), (5, .int v61), (0, .ref 35)]) dX10_touch_237 rfl rfl (j_inc _ _ rfl _) (by decide) rfl ?_
          refine J_goto (pc' := 170) dX10_touch_240 (by decide) ?_
          refine J_sub [3, 1, 0] (lv' := [(0, .ref 35), (3, .int (x3 ||| (0 : Int32))), (4, .int (x4 + (1 : Int32)))]) rfl ?_
          exact ih hs h hK
        · replace h := j_iq c64 h
          refine J_iconst (pc' := 228) (v := (1 : Int32)) dX10_touch_227 rfl ic_1 ?_
          refine J_iload (pc' := 230) (i := 4) (n := 3) dX10_touch_228 rfl rfl ?_
          refine J_ishl (pc' := 231) dX10_touch_230 rfl ?_
          refine J_goto (pc' := 235) dX10_touch_231 (by decide) ?_
          refine J_ior (pc' := 236) dX10_touch_235 rfl ?_
          refine J_istore_n (pc' := 237) (i := 3) (lv' := [(3, .int (x3 ||| ((1 : Int32) <<< (x4 &&& 31)))), (5, .int v61), (0, .ref 35), (4, .int x4)]) dX10_touch_236 rfl rfl (by decide) rfl ?_
          refine J_iinc (pc' := 240) (i := 4) (n := 3) (v := (x4 + (1 : Int32))) (lv' := [(4, .int (x4 + (1 : Int32))), (3, .int (x3 ||| ((1 : Int32) <<< (x4 &&& 31)))), (5, .int v61), (0, .ref 35)]) dX10_touch_237 rfl rfl (j_inc _ _ rfl _) (by decide) rfl ?_
          refine J_goto (pc' := 170) dX10_touch_240 (by decide) ?_
          refine J_sub [3, 1, 0] (lv' := [(0, .ref 35), (3, .int (x3 ||| ((1 : Int32) <<< (x4 &&& 31)))), (4, .int (x4 + (1 : Int32)))]) rfl ?_
          exact ih hs h hK
      · refine J_icmp_lt (pc' := 195) (tgt := 218) dX10_touch_192 rfl (by decide) (fun c60 => ?_) (fun c60 => ?_)
        · replace h := j_ip c60 h
          refine J_iconst (pc' := 219) (v := (0 : Int32)) dX10_touch_218 rfl ic_0 ?_
          exact h63 (0 : Int32) h
        · replace h := j_iq c60 h
          refine J_aload_n (pc' := 196) (i := 0) (n := 0) dX10_touch_195 rfl rfl rfl ?_
          refine J_getR (pc' := 199) (b := 46) dX10_touch_196 rfl fl_X10_45 rfl (m_o hs) (m_n hs (Nat.le_of_ble_eq_true rfl)) (m_r16 hs) ?_
          refine J_iload (pc' := 201) (i := 4) (n := 2) dX10_touch_199 rfl rfl ?_
          obtain ⟨v65, e66, h⟩ := a_i_inv h
          refine J_ialde (pc' := 202) dX10_touch_201 rfl (m_s46 hs) (m_n hs (Nat.le_of_ble_eq_true rfl)) e66 ?_
          refine J_aload_n (pc' := 203) (i := 0) (n := 0) dX10_touch_202 rfl rfl rfl ?_
          refine J_getR (pc' := 206) (b := 46) dX10_touch_203 rfl fl_X10_45 rfl (m_o hs) (m_n hs (Nat.le_of_ble_eq_true rfl)) (m_r16 hs) ?_
          refine J_iload (pc' := 208) (i := 4) (n := 2) dX10_touch_206 rfl rfl ?_
          refine J_iconst (pc' := 209) (v := (2 : Int32)) dX10_touch_208 rfl ic_2 ?_
          refine J_ixor (pc' := 210) dX10_touch_209 rfl ?_
          obtain ⟨v67, e68, h⟩ := a_i_inv h
          refine J_ialde (pc' := 211) dX10_touch_210 rfl (m_s46 hs) (m_n hs (Nat.le_of_ble_eq_true rfl)) e68 ?_
          refine J_icmp_lt (pc' := 214) (tgt := 218) dX10_touch_211 rfl (by decide) (fun c69 => ?_) (fun c69 => ?_)
          · replace h := j_ip c69 h
            refine J_iconst (pc' := 219) (v := (0 : Int32)) dX10_touch_218 rfl ic_0 ?_
            exact h63 (0 : Int32) h
          · replace h := j_iq c69 h
            refine J_iconst (pc' := 215) (v := (1 : Int32)) dX10_touch_214 rfl ic_1 ?_
            refine J_goto (pc' := 219) dX10_touch_215 (by decide) ?_
            exact h63 (1 : Int32) h
set_option maxHeartbeats 4000000 in
theorem c_X10_touch {l : Launch} {G : j_G} {M : j_M} {x1 : Int32} {x2 : Int32} (hs : sh_m M.2.2) {r : (Int32 × j_M)} (h : f_X10_touch M x1 x2 = some r) : j_Sp l G md_X10_touch 3 (0, 0) [.ref 35, .int x1, .int x2] M (po (some (.int r.1)) r.2) := by
  refine j_Sp.of (by decide) (Nat.le_of_ble_eq_true rfl) ?_
  show JT_X10_touch l G r 0 [(0, .ref 35), (1, .int x1), (2, .int x2)] [] M
  unfold f_X10_touch at h
  refine J_aload_n (pc' := 1) (i := 0) (n := 0) dX10_touch_0 rfl rfl rfl ?_
  refine J_iload_n (pc' := 2) (i := 1) (n := 1) dX10_touch_1 rfl rfl rfl ?_
  obtain ⟨v1, e2, h⟩ := bi_inv h
  refine J_callV (pc' := 5) (as := [.int x1]) (rest := []) dX10_touch_2 rfl lk_X10_132 rfl 10 (by decide) rfl (m_o hs) (m_n hs (Nat.le_of_ble_eq_true rfl)) (c_X10_isOne hs e2) ⟨Nat.le_of_ble_eq_true rfl, Nat.le_of_ble_eq_true rfl⟩ (Nat.le_of_ble_eq_true rfl) ⟨Nat.le_of_ble_eq_true rfl, Nat.le_of_ble_eq_true rfl⟩ (j_kq ?_)
  refine J_if_eq (pc' := 8) (tgt := 21) dX10_touch_5 rfl (by decide) (fun c3 => ?_) (fun c3 => ?_)
  · replace h := j_ip c3 h
    refine J_aload_n (pc' := 22) (i := 0) (n := 0) dX10_touch_21 rfl rfl rfl ?_
    refine J_bipush (pc' := 24) (v := ((-2) : Int32)) dX10_touch_22 rfl bp_m2 ?_
    obtain ⟨q4, e5, h⟩ := bi_inv h
    obtain ⟨c6, h⟩ := j_ck_inv h
    refine J_callV (pc' := 27) (as := [.int ((-2) : Int32)]) (rest := []) dX10_touch_24 rfl lk_X10_84 rfl 10 (by decide) rfl (m_o hs) (m_n hs (Nat.le_of_ble_eq_true rfl)) (c_X10_bad hs e5) ⟨Nat.le_of_ble_eq_true rfl, Nat.le_of_ble_eq_true rfl⟩ (Nat.le_of_ble_eq_true rfl) ⟨Nat.le_of_ble_eq_true rfl, Nat.le_of_ble_eq_true rfl⟩ (j_kq ?_)
    have g7 : sh_m q4.2.2.2 := j_shE c6 hs
    exact J_iret rfl dX10_touch_27 ⟨rfl, Nat.le_refl _⟩ (j_pW h)
  · replace h := j_iq c3 h
    refine J_aload_n (pc' := 9) (i := 0) (n := 0) dX10_touch_8 rfl rfl rfl ?_
    refine J_iload_n (pc' := 10) (i := 2) (n := 2) dX10_touch_9 rfl rfl rfl ?_
    obtain ⟨v8, e9, h⟩ := bi_inv h
    refine J_callV (pc' := 13) (as := [.int x2]) (rest := []) dX10_touch_10 rfl lk_X10_132 rfl 10 (by decide) rfl (m_o hs) (m_n hs (Nat.le_of_ble_eq_true rfl)) (c_X10_isOne hs e9) ⟨Nat.le_of_ble_eq_true rfl, Nat.le_of_ble_eq_true rfl⟩ (Nat.le_of_ble_eq_true rfl) ⟨Nat.le_of_ble_eq_true rfl, Nat.le_of_ble_eq_true rfl⟩ (j_kq ?_)
    refine J_if_eq (pc' := 16) (tgt := 21) dX10_touch_13 rfl (by decide) (fun c10 => ?_) (fun c10 => ?_)
    · replace h := j_ip c10 h
      refine J_aload_n (pc' := 22) (i := 0) (n := 0) dX10_touch_21 rfl rfl rfl ?_
      refine J_bipush (pc' := 24) (v := ((-2) : Int32)) dX10_touch_22 rfl bp_m2 ?_
      obtain ⟨q11, e12, h⟩ := bi_inv h
      obtain ⟨c13, h⟩ := j_ck_inv h
      refine J_callV (pc' := 27) (as := [.int ((-2) : Int32)]) (rest := []) dX10_touch_24 rfl lk_X10_84 rfl 10 (by decide) rfl (m_o hs) (m_n hs (Nat.le_of_ble_eq_true rfl)) (c_X10_bad hs e12) ⟨Nat.le_of_ble_eq_true rfl, Nat.le_of_ble_eq_true rfl⟩ (Nat.le_of_ble_eq_true rfl) ⟨Nat.le_of_ble_eq_true rfl, Nat.le_of_ble_eq_true rfl⟩ (j_kq ?_)
      have g14 : sh_m q11.2.2.2 := j_shE c13 hs
      exact J_iret rfl dX10_touch_27 ⟨rfl, Nat.le_refl _⟩ (j_pW h)
    · replace h := j_iq c10 h
      refine J_iload_n (pc' := 17) (i := 1) (n := 1) dX10_touch_16 rfl rfl rfl ?_
      refine J_iload_n (pc' := 18) (i := 2) (n := 2) dX10_touch_17 rfl rfl rfl ?_
      refine J_icmp_ne (pc' := 21) (tgt := 28) dX10_touch_18 rfl (by decide) (fun c15 => ?_) (fun c15 => ?_)
      · replace h := j_iq c15 h
        refine J_aload_n (pc' := 29) (i := 0) (n := 0) dX10_touch_28 rfl rfl rfl ?_
        refine J_getR (pc' := 32) (b := 36) dX10_touch_29 rfl fl_X10_7 rfl (m_o hs) (m_n hs (Nat.le_of_ble_eq_true rfl)) (m_r0 hs) ?_
        refine J_bipush (pc' := 34) (v := (9 : Int32)) dX10_touch_32 rfl bp_9 ?_
        refine J_iload_n (pc' := 35) (i := 1) (n := 1) dX10_touch_34 rfl rfl rfl ?_
        refine J_iadd (pc' := 36) dX10_touch_35 rfl ?_
        obtain ⟨v16, e17, h⟩ := a_i_inv h
        refine J_ialde (pc' := 37) dX10_touch_36 rfl (m_s36 hs) (m_n hs (Nat.le_of_ble_eq_true rfl)) e17 ?_
        refine J_aload_n (pc' := 38) (i := 0) (n := 0) dX10_touch_37 rfl rfl rfl ?_
        refine J_getR (pc' := 41) (b := 36) dX10_touch_38 rfl fl_X10_7 rfl (m_o hs) (m_n hs (Nat.le_of_ble_eq_true rfl)) (m_r0 hs) ?_
        refine J_bipush (pc' := 43) (v := (9 : Int32)) dX10_touch_41 rfl bp_9 ?_
        refine J_iload_n (pc' := 44) (i := 2) (n := 2) dX10_touch_43 rfl rfl rfl ?_
        refine J_iadd (pc' := 45) dX10_touch_44 rfl ?_
        obtain ⟨v18, e19, h⟩ := a_i_inv h
        refine J_ialde (pc' := 46) dX10_touch_45 rfl (m_s36 hs) (m_n hs (Nat.le_of_ble_eq_true rfl)) e19 ?_
        refine J_icmp_eq (pc' := 49) (tgt := 54) dX10_touch_46 rfl (by decide) (fun c20 => ?_) (fun c20 => ?_)
        · replace h := j_ip c20 h
          refine J_iconst (pc' := 55) (v := (0 : Int32)) dX10_touch_54 rfl ic_0 ?_
          refine J_istore_n (pc' := 56) (i := 3) (lv' := [(3, .int (0 : Int32)), (0, .ref 35), (1, .int x1), (2, .int x2)]) dX10_touch_55 rfl rfl (by decide) rfl ?_
          refine J_sub [1, 2, 3, 0] (lv' := [(0, .ref 35), (1, .int x1), (2, .int x2), (3, .int (0 : Int32))]) rfl ?_
          refine L_X10_touch_L56 j_fu hs h (fun y52 M53 g54 h => ?_)
          refine J_iconst (pc' := 166) (v := (0 : Int32)) dX10_touch_165 rfl ic_0 ?_
          refine J_istore_n (pc' := 167) (i := 3) (lv' := [(3, .int (0 : Int32)), (0, .ref 35)]) dX10_touch_166 rfl rfl (by decide) rfl ?_
          refine J_iconst (pc' := 168) (v := (0 : Int32)) dX10_touch_167 rfl ic_0 ?_
          refine J_istore (pc' := 170) (i := 4) (lv' := [(4, .int (0 : Int32)), (3, .int (0 : Int32)), (0, .ref 35)]) dX10_touch_168 rfl (by decide) rfl ?_
          refine J_sub [2, 1, 0] (lv' := [(0, .ref 35), (3, .int (0 : Int32)), (4, .int (0 : Int32))]) rfl ?_
          refine L_X10_touch_L170 j_fu g54 h (fun y70 y71 h => ?_)
          refine J_iload_n (pc' := 244) (i := 3) (n := 0) dX10_touch_243 rfl rfl rfl ?_
          exact J_iret rfl dX10_touch_244 ⟨rfl, Nat.le_refl _⟩ (j_pW h)
        · replace h := j_iq c20 h
          refine J_aload_n (pc' := 50) (i := 0) (n := 0) dX10_touch_49 rfl rfl rfl ?_
          obtain ⟨q72, e73, h⟩ := bi_inv h
          obtain ⟨c74, h⟩ := j_ck_inv h
          refine J_callV (pc' := 53) (as := []) (rest := []) dX10_touch_50 rfl lk_X10_92 rfl 10 (by decide) rfl (m_o hs) (m_n hs (Nat.le_of_ble_eq_true rfl)) (c_X10_no hs e73) ⟨Nat.le_of_ble_eq_true rfl, Nat.le_of_ble_eq_true rfl⟩ (Nat.le_of_ble_eq_true rfl) ⟨Nat.le_of_ble_eq_true rfl, Nat.le_of_ble_eq_true rfl⟩ (j_kq ?_)
          have g75 : sh_m q72.2.2.2 := j_shE c74 hs
          exact J_iret rfl dX10_touch_53 ⟨rfl, Nat.le_refl _⟩ (j_pW h)
      · replace h := j_ip c15 h
        refine J_aload_n (pc' := 22) (i := 0) (n := 0) dX10_touch_21 rfl rfl rfl ?_
        refine J_bipush (pc' := 24) (v := ((-2) : Int32)) dX10_touch_22 rfl bp_m2 ?_
        obtain ⟨q76, e77, h⟩ := bi_inv h
        obtain ⟨c78, h⟩ := j_ck_inv h
        refine J_callV (pc' := 27) (as := [.int ((-2) : Int32)]) (rest := []) dX10_touch_24 rfl lk_X10_84 rfl 10 (by decide) rfl (m_o hs) (m_n hs (Nat.le_of_ble_eq_true rfl)) (c_X10_bad hs e77) ⟨Nat.le_of_ble_eq_true rfl, Nat.le_of_ble_eq_true rfl⟩ (Nat.le_of_ble_eq_true rfl) ⟨Nat.le_of_ble_eq_true rfl, Nat.le_of_ble_eq_true rfl⟩ (j_kq ?_)
        have g79 : sh_m q76.2.2.2 := j_shE c78 hs
        exact J_iret rfl dX10_touch_27 ⟨rfl, Nat.le_refl _⟩ (j_pW h)
abbrev JT_X10_fraction (l : Launch) (G : j_G) (r : j_M) : Nat → List (Nat × Value) → List Value → j_M → Prop := JJ l G md_X10_fraction (j_rm 1 (0, 0)) (0, 0) (0, 0) (po none r)
noncomputable def f_X10_fraction_L6 : Nat → j_M → Int64 → Int64 → Int64 → Int64 → (Int64 → Int64 → Option j_M) → Option j_M
  | 0, _, _, _, _, _, _ => none
  | n + 1, M, x1, x3, x5, x7, K =>
    if (lg_cmp x7 (0 : Int64)) = 0 then (K x5 x7) else (r_l x5 x7 fun v2 => (f_X10_fraction_L6 n  M x1 x3 x7 v2 K))
noncomputable def f_X10_fraction (M : j_M) (x1 : Int64) (x3 : Int64) : Option j_M :=
  f_X10_fraction_L6 j_fu  M x1 x3 x1 x3 (fun (y4 : Int64) (y5 : Int64) => (d_l x1 y4 fun v6 => (tl (j_sL M 35 4 v6) fun M8 => (d_l x3 y4 fun v11 => (tl (j_sL M8 35 5 v11) fun M13 => (some M13))))))
set_option maxHeartbeats 4000000 in
theorem L_X10_fraction_L6 {l : Launch} {G : j_G}  {r : j_M} : ∀ (n : Nat) {x1 : Int64} {x3 : Int64} {x5 : Int64} {x7 : Int64} {M : j_M} (hs : sh_m M.2.2) {K : Int64 → Int64 → Option j_M}, f_X10_fraction_L6 n  M x1 x3 x5 x7 K = some r → (∀ (y5 : Int64) (y7 : Int64), K y5 y7 = some r → JT_X10_fraction l G r 31 [(0, .ref 35), (1, .long x1), (3, .long x3), (5, .long y5)] [] M) → JT_X10_fraction l G r 6 [(0, .ref 35), (1, .long x1), (3, .long x3), (5, .long x5), (7, .long x7)] [] M := by
  intro n
  induction n with
  | zero =>
    intro x1 x3 x5 x7 M hs K h hK
    rw [f_X10_fraction_L6] at h; cases h
  | succ n ih =>
    intro x1 x3 x5 x7 M hs K h hK
    rw [f_X10_fraction_L6] at h
    refine J_lload (pc' := 8) (i := 7) (n := 4) dX10_fraction_6 rfl rfl ?_
    refine J_lconst (pc' := 9) (v := (0 : Int64)) dX10_fraction_8 rfl rfl ?_
    refine J_lcmp (pc' := 10) dX10_fraction_9 rfl ?_
    refine J_if_eq (pc' := 13) (tgt := 31) dX10_fraction_10 rfl (by decide) (fun c1 => ?_) (fun c1 => ?_)
    · replace h := j_ip c1 h
      refine J_sub [0, 1, 2, 3] (lv' := [(0, .ref 35), (1, .long x1), (3, .long x3), (5, .long x5)]) rfl ?_
      exact hK x5 x7  h
    · replace h := j_iq c1 h
      refine J_lload (pc' := 15) (i := 5) (n := 3) dX10_fraction_13 rfl rfl ?_
      refine J_lload (pc' := 17) (i := 7) (n := 4) dX10_fraction_15 rfl rfl ?_
      obtain ⟨v2, e3, h⟩ := r_l_inv h
      refine J_lreme (pc' := 18) dX10_fraction_17 rfl e3 ?_
      refine J_lstore (pc' := 20) (i := 9) (lv' := [(9, .long v2), (0, .ref 35), (1, .long x1), (3, .long x3), (5, .long x5), (7, .long x7)]) dX10_fraction_18 rfl (by decide) rfl ?_
      refine J_lload (pc' := 22) (i := 7) (n := 5) dX10_fraction_20 rfl rfl ?_
      refine J_lstore (pc' := 24) (i := 5) (lv' := [(5, .long x7), (9, .long v2), (0, .ref 35), (1, .long x1), (3, .long x3), (7, .long x7)]) dX10_fraction_22 rfl (by decide) rfl ?_
      refine J_lload (pc' := 26) (i := 9) (n := 1) dX10_fraction_24 rfl rfl ?_
      refine J_lstore (pc' := 28) (i := 7) (lv' := [(7, .long v2), (5, .long x7), (9, .long v2), (0, .ref 35), (1, .long x1), (3, .long x3)]) dX10_fraction_26 rfl (by decide) rfl ?_
      refine J_goto (pc' := 6) dX10_fraction_28 (by decide) ?_
      refine J_sub [3, 4, 5, 1, 0] (lv' := [(0, .ref 35), (1, .long x1), (3, .long x3), (5, .long x7), (7, .long v2)]) rfl ?_
      exact ih hs h hK
set_option maxHeartbeats 4000000 in
theorem c_X10_fraction {l : Launch} {G : j_G} {M : j_M} {x1 : Int64} {x3 : Int64} (hs : sh_m M.2.2) {r : j_M} (h : f_X10_fraction M x1 x3 = some r) : j_Sp l G md_X10_fraction 1 (0, 0) [.ref 35, .long x1, .long x3] M (po none r) := by
  refine j_Sp.of (by decide) (Nat.le_of_ble_eq_true rfl) ?_
  show JT_X10_fraction l G r 0 [(0, .ref 35), (1, .long x1), (3, .long x3)] [] M
  unfold f_X10_fraction at h
  refine J_lload_n (pc' := 1) (i := 1) (n := 1) dX10_fraction_0 rfl rfl rfl ?_
  refine J_lstore (pc' := 3) (i := 5) (lv' := [(5, .long x1), (0, .ref 35), (1, .long x1), (3, .long x3)]) dX10_fraction_1 rfl (by decide) rfl ?_
  refine J_lload_n (pc' := 4) (i := 3) (n := 3) dX10_fraction_3 rfl rfl rfl ?_
  refine J_lstore (pc' := 6) (i := 7) (lv' := [(7, .long x3), (5, .long x1), (0, .ref 35), (1, .long x1), (3, .long x3)]) dX10_fraction_4 rfl (by decide) rfl ?_
  refine J_sub [2, 3, 4, 1, 0] (lv' := [(0, .ref 35), (1, .long x1), (3, .long x3), (5, .long x1), (7, .long x3)]) rfl ?_
  refine L_X10_fraction_L6 j_fu hs h (fun y4 y5 h => ?_)
  refine J_aload_n (pc' := 32) (i := 0) (n := 0) dX10_fraction_31 rfl rfl rfl ?_
  refine J_lload_n (pc' := 33) (i := 1) (n := 1) dX10_fraction_32 rfl rfl rfl ?_
  refine J_lload (pc' := 35) (i := 5) (n := 3) dX10_fraction_33 rfl rfl ?_
  obtain ⟨v6, e7, h⟩ := d_l_inv h
  refine J_ldive (pc' := 36) dX10_fraction_35 rfl e7 ?_
  obtain ⟨M8, e9, h⟩ := tl_inv h
  have g10 : sh_m M8.2.2 := j_shL e9 hs
  refine J_putLe (pc' := 39) dX10_fraction_36 rfl fl_X10_201 ⟨rfl, rfl, rfl⟩ (m_o hs) (m_n hs (Nat.le_of_ble_eq_true rfl)) e9 ?_
  refine J_aload_n (pc' := 40) (i := 0) (n := 0) dX10_fraction_39 rfl rfl rfl ?_
  refine J_lload_n (pc' := 41) (i := 3) (n := 2) dX10_fraction_40 rfl rfl rfl ?_
  refine J_lload (pc' := 43) (i := 5) (n := 3) dX10_fraction_41 rfl rfl ?_
  obtain ⟨v11, e12, h⟩ := d_l_inv h
  refine J_ldive (pc' := 44) dX10_fraction_43 rfl e12 ?_
  obtain ⟨M13, e14, h⟩ := tl_inv h
  have g15 : sh_m M13.2.2 := j_shL e14 g10
  refine J_putLe (pc' := 47) dX10_fraction_44 rfl fl_X10_23 ⟨rfl, rfl, rfl⟩ (m_o g10) (m_n g10 (Nat.le_of_ble_eq_true rfl)) e14 ?_
  exact J_vret rfl dX10_fraction_47 ⟨rfl, Nat.le_refl _⟩ (j_pV h)
abbrev JT_X10_counts (l : Launch) (G : j_G) (r : (Int32 × j_M)) : Nat → List (Nat × Value) → List Value → j_M → Prop := JJ l G md_X10_counts (j_rm 2 (0, 0)) (0, 0) (0, 0) (po (some (.int r.1)) r.2)
noncomputable def f_X10_counts_L52 : Nat → j_M → Int32 → Int32 → Int32 → Int64 → Int64 → Int32 → (Int64 → Int32 → Option (Int32 × j_M)) → Option (Int32 × j_M)
  | 0, _, _, _, _, _, _, _, _ => none
  | n + 1, M, x1, x2, x3, x4, x6, x8, K =>
    if x1 ≤ x8 then (K x6 x8) else (f_X10_counts_L52 n  M x1 x2 x3 x4 (x6 * (10 : Int64)) (x8 + (1 : Int32)) K)
noncomputable def f_X10_counts_L102 : Nat → j_M → Int32 → Int32 → Int32 → Int64 → Int64 → Int32 → Int64 → Int32 → (Int64 → Int32 → Option (Int32 × j_M)) → Option (Int32 × j_M)
  | 0, _, _, _, _, _, _, _, _, _, _ => none
  | n + 1, M, x1, x2, x3, x4, x6, x8, x9, x11, K =>
    if x1 ≤ x11 then (K x9 x11) else (tl (f_X10_has x8 x11) fun v29 => (if v29 = 0 then (f_X10_counts_L102 n  M x1 x2 x3 x4 x6 x8 (x9 * (x3).toInt64) (x11 + (1 : Int32)) K) else (f_X10_counts_L102 n  M x1 x2 x3 x4 x6 x8 (x9 * (((10 : Int32) - x3)).toInt64) (x11 + (1 : Int32)) K)))
noncomputable def f_X10_counts_L75 : Nat → j_M → Int32 → Int32 → Int32 → Int64 → Int64 → Int32 → (Int64 → Int32 → Option (Int32 × j_M)) → Option (Int32 × j_M)
  | 0, _, _, _, _, _, _, _, _ => none
  | n + 1, M, x1, x2, x3, x4, x6, x8, K =>
    if ((1 : Int32) <<< (x1 &&& 31)) ≤ x8 then (K x4 x8) else ((f_X10_bits x8).bind fun v22 => (jn (fun (v25 : Int64) => (f_X10_counts_L102 j_fu  M x1 x2 x3 x4 x6 x8 v25 (0 : Int32) (fun (y32 : Int64) (y33 : Int32) => (f_X10_counts_L75 n  M x1 x2 x3 (x4 + y32) x6 (x8 + (1 : Int32)) K)))) (fun K26 => (if v22 < x2 then (K26 (0 : Int64)) else (K26 (1 : Int64))))))
noncomputable def f_X10_counts (M : j_M) (x1 : Int32) (x2 : Int32) (x3 : Int32) : Option (Int32 × j_M) :=
  tl (f_X10_in (x1).toInt64 (0 : Int64) (9 : Int64)) fun v1 => (if v1 = 0 then ((f_X10_bad M ((-2) : Int32)).bind fun q4 => j_ck M q4.2 (some (q4.1, q4.2))) else (tl (f_X10_in (x2).toInt64 (0 : Int64) (9 : Int64)) fun v8 => (if v8 = 0 then ((f_X10_bad M ((-2) : Int32)).bind fun q11 => j_ck M q11.2 (some (q11.1, q11.2))) else (tl (f_X10_in (x3).toInt64 (0 : Int64) (10 : Int64)) fun v15 => (if v15 = 0 then ((f_X10_bad M ((-2) : Int32)).bind fun q40 => j_ck M q40.2 (some (q40.1, q40.2))) else (f_X10_counts_L52 j_fu  M x1 x2 x3 (0 : Int64) (1 : Int64) (0 : Int32) (fun (y19 : Int64) (y20 : Int32) => (f_X10_counts_L75 j_fu  M x1 x2 x3 (0 : Int64) y19 (0 : Int32) (fun (y34 : Int64) (y35 : Int32) => ((f_X10_fraction M y34 y19).bind fun q36 => j_ck M q36 (some ((1 : Int32), q36))))))))))))
set_option maxHeartbeats 4000000 in
theorem L_X10_counts_L52 {l : Launch} {G : j_G}  {r : (Int32 × j_M)} : ∀ (n : Nat) {x1 : Int32} {x2 : Int32} {x3 : Int32} {x4 : Int64} {x6 : Int64} {x8 : Int32} {M : j_M} (hs : sh_m M.2.2) {K : Int64 → Int32 → Option (Int32 × j_M)}, f_X10_counts_L52 n  M x1 x2 x3 x4 x6 x8 K = some r → (∀ (y6 : Int64) (y8 : Int32), K y6 y8 = some r → JT_X10_counts l G r 72 [(0, .ref 35), (1, .int x1), (2, .int x2), (3, .int x3), (4, .long x4), (6, .long y6)] [] M) → JT_X10_counts l G r 52 [(0, .ref 35), (1, .int x1), (2, .int x2), (3, .int x3), (4, .long x4), (6, .long x6), (8, .int x8)] [] M := by
  intro n
  induction n with
  | zero =>
    intro x1 x2 x3 x4 x6 x8 M hs K h hK
    rw [f_X10_counts_L52] at h; cases h
  | succ n ih =>
    intro x1 x2 x3 x4 x6 x8 M hs K h hK
    rw [f_X10_counts_L52] at h
    refine J_iload (pc' := 54) (i := 8) (n := 6) dX10_counts_52 rfl rfl ?_
    refine J_iload_n (pc' := 55) (i := 1) (n := 1) dX10_counts_54 rfl rfl rfl ?_
    refine J_icmp_ge (pc' := 58) (tgt := 72) dX10_counts_55 rfl (by decide) (fun c18 => ?_) (fun c18 => ?_)
    · replace h := j_ip c18 h
      refine J_sub [0, 1, 2, 3, 4, 5] (lv' := [(0, .ref 35), (1, .int x1), (2, .int x2), (3, .int x3), (4, .long x4), (6, .long x6)]) rfl ?_
      exact hK x6 x8  h
    · replace h := j_iq c18 h
      refine J_lload (pc' := 60) (i := 6) (n := 5) dX10_counts_58 rfl rfl ?_
      refine J_ldc2 (pc' := 63) (v := (10 : Int64)) dX10_counts_60 rfl wd_1201 ?_
      refine J_lmul (pc' := 64) dX10_counts_63 rfl ?_
      refine J_lstore (pc' := 66) (i := 6) (lv' := [(6, .long (x6 * (10 : Int64))), (0, .ref 35), (1, .int x1), (2, .int x2), (3, .int x3), (4, .long x4), (8, .int x8)]) dX10_counts_64 rfl (by decide) rfl ?_
      refine J_iinc (pc' := 69) (i := 8) (n := 6) (v := (x8 + (1 : Int32))) (lv' := [(8, .int (x8 + (1 : Int32))), (6, .long (x6 * (10 : Int64))), (0, .ref 35), (1, .int x1), (2, .int x2), (3, .int x3), (4, .long x4)]) dX10_counts_66 rfl rfl (j_inc _ _ rfl _) (by decide) rfl ?_
      refine J_goto (pc' := 52) dX10_counts_69 (by decide) ?_
      refine J_sub [2, 3, 4, 5, 6, 1, 0] (lv' := [(0, .ref 35), (1, .int x1), (2, .int x2), (3, .int x3), (4, .long x4), (6, .long (x6 * (10 : Int64))), (8, .int (x8 + (1 : Int32)))]) rfl ?_
      exact ih hs h hK
set_option maxHeartbeats 4000000 in
theorem L_X10_counts_L102 {l : Launch} {G : j_G}  {r : (Int32 × j_M)} : ∀ (n : Nat) {x1 : Int32} {x2 : Int32} {x3 : Int32} {x4 : Int64} {x6 : Int64} {x8 : Int32} {x9 : Int64} {x11 : Int32} {M : j_M} (hs : sh_m M.2.2) {K : Int64 → Int32 → Option (Int32 × j_M)}, f_X10_counts_L102 n  M x1 x2 x3 x4 x6 x8 x9 x11 K = some r → (∀ (y9 : Int64) (y11 : Int32), K y9 y11 = some r → JT_X10_counts l G r 139 [(0, .ref 35), (1, .int x1), (2, .int x2), (3, .int x3), (4, .long x4), (6, .long x6), (8, .int x8), (9, .long y9)] [] M) → JT_X10_counts l G r 102 [(0, .ref 35), (1, .int x1), (2, .int x2), (3, .int x3), (4, .long x4), (6, .long x6), (8, .int x8), (9, .long x9), (11, .int x11)] [] M := by
  intro n
  induction n with
  | zero =>
    intro x1 x2 x3 x4 x6 x8 x9 x11 M hs K h hK
    rw [f_X10_counts_L102] at h; cases h
  | succ n ih =>
    intro x1 x2 x3 x4 x6 x8 x9 x11 M hs K h hK
    rw [f_X10_counts_L102] at h
    refine J_iload (pc' := 104) (i := 11) (n := 8) dX10_counts_102 rfl rfl ?_
    refine J_iload_n (pc' := 105) (i := 1) (n := 1) dX10_counts_104 rfl rfl rfl ?_
    refine J_icmp_ge (pc' := 108) (tgt := 139) dX10_counts_105 rfl (by decide) (fun c28 => ?_) (fun c28 => ?_)
    · replace h := j_ip c28 h
      refine J_sub [0, 1, 2, 3, 4, 5, 6, 7] (lv' := [(0, .ref 35), (1, .int x1), (2, .int x2), (3, .int x3), (4, .long x4), (6, .long x6), (8, .int x8), (9, .long x9)]) rfl ?_
      exact hK x9 x11  h
    · replace h := j_iq c28 h
      refine J_lload (pc' := 110) (i := 9) (n := 7) dX10_counts_108 rfl rfl ?_
      refine J_iload (pc' := 112) (i := 8) (n := 6) dX10_counts_110 rfl rfl ?_
      refine J_iload (pc' := 114) (i := 11) (n := 8) dX10_counts_112 rfl rfl ?_
      obtain ⟨v29, e30, h⟩ := tl_inv h
      refine J_callS (pc' := 117) (as := [.int x8, .int x11]) (rest := [.long x9]) dX10_counts_114 rfl lk_X10_74 rfl (c_X10_has e30) ⟨Nat.le_of_ble_eq_true rfl, Nat.le_of_ble_eq_true rfl⟩ (Nat.le_of_ble_eq_true rfl) ⟨Nat.le_of_ble_eq_true rfl, Nat.le_of_ble_eq_true rfl⟩ (j_kq ?_)
      refine J_if_eq (pc' := 120) (tgt := 128) dX10_counts_117 rfl (by decide) (fun c31 => ?_) (fun c31 => ?_)
      · replace h := j_ip c31 h
        refine J_iload_n (pc' := 129) (i := 3) (n := 3) dX10_counts_128 rfl rfl rfl ?_
        refine J_i2l (pc' := 130) dX10_counts_129 rfl ?_
        refine J_lmul (pc' := 131) dX10_counts_130 rfl ?_
        refine J_lstore (pc' := 133) (i := 9) (lv' := [(9, .long (x9 * (x3).toInt64)), (0, .ref 35), (1, .int x1), (2, .int x2), (3, .int x3), (4, .long x4), (6, .long x6), (8, .int x8), (11, .int x11)]) dX10_counts_131 rfl (by decide) rfl ?_
        refine J_iinc (pc' := 136) (i := 11) (n := 8) (v := (x11 + (1 : Int32))) (lv' := [(11, .int (x11 + (1 : Int32))), (9, .long (x9 * (x3).toInt64)), (0, .ref 35), (1, .int x1), (2, .int x2), (3, .int x3), (4, .long x4), (6, .long x6), (8, .int x8)]) dX10_counts_133 rfl rfl (j_inc _ _ rfl _) (by decide) rfl ?_
        refine J_goto (pc' := 102) dX10_counts_136 (by decide) ?_
        refine J_sub [2, 3, 4, 5, 6, 7, 8, 1, 0] (lv' := [(0, .ref 35), (1, .int x1), (2, .int x2), (3, .int x3), (4, .long x4), (6, .long x6), (8, .int x8), (9, .long (x9 * (x3).toInt64)), (11, .int (x11 + (1 : Int32)))]) rfl ?_
        exact ih hs h hK
      · replace h := j_iq c31 h
        refine J_bipush (pc' := 122) (v := (10 : Int32)) dX10_counts_120 rfl bp_10 ?_
        refine J_iload_n (pc' := 123) (i := 3) (n := 3) dX10_counts_122 rfl rfl rfl ?_
        refine J_isub (pc' := 124) dX10_counts_123 rfl ?_
        refine J_i2l (pc' := 125) dX10_counts_124 rfl ?_
        refine J_goto (pc' := 130) dX10_counts_125 (by decide) ?_
        refine J_lmul (pc' := 131) dX10_counts_130 rfl ?_
        refine J_lstore (pc' := 133) (i := 9) (lv' := [(9, .long (x9 * (((10 : Int32) - x3)).toInt64)), (0, .ref 35), (1, .int x1), (2, .int x2), (3, .int x3), (4, .long x4), (6, .long x6), (8, .int x8), (11, .int x11)]) dX10_counts_131 rfl (by decide) rfl ?_
        refine J_iinc (pc' := 136) (i := 11) (n := 8) (v := (x11 + (1 : Int32))) (lv' := [(11, .int (x11 + (1 : Int32))), (9, .long (x9 * (((10 : Int32) - x3)).toInt64)), (0, .ref 35), (1, .int x1), (2, .int x2), (3, .int x3), (4, .long x4), (6, .long x6), (8, .int x8)]) dX10_counts_133 rfl rfl (j_inc _ _ rfl _) (by decide) rfl ?_
        refine J_goto (pc' := 102) dX10_counts_136 (by decide) ?_
        refine J_sub [2, 3, 4, 5, 6, 7, 8, 1, 0] (lv' := [(0, .ref 35), (1, .int x1), (2, .int x2), (3, .int x3), (4, .long x4), (6, .long x6), (8, .int x8), (9, .long (x9 * (((10 : Int32) - x3)).toInt64)), (11, .int (x11 + (1 : Int32)))]) rfl ?_
        exact ih hs h hK
set_option maxHeartbeats 4000000 in
theorem L_X10_counts_L75 {l : Launch} {G : j_G}  {r : (Int32 × j_M)} : ∀ (n : Nat) {x1 : Int32} {x2 : Int32} {x3 : Int32} {x4 : Int64} {x6 : Int64} {x8 : Int32} {M : j_M} (hs : sh_m M.2.2) {K : Int64 → Int32 → Option (Int32 × j_M)}, f_X10_counts_L75 n  M x1 x2 x3 x4 x6 x8 K = some r → (∀ (y4 : Int64) (y8 : Int32), K y4 y8 = some r → JT_X10_counts l G r 152 [(0, .ref 35), (4, .long y4), (6, .long x6)] [] M) → JT_X10_counts l G r 75 [(0, .ref 35), (1, .int x1), (2, .int x2), (3, .int x3), (4, .long x4), (6, .long x6), (8, .int x8)] [] M := by
  intro n
  induction n with
  | zero =>
    intro x1 x2 x3 x4 x6 x8 M hs K h hK
    rw [f_X10_counts_L75] at h; cases h
  | succ n ih =>
    intro x1 x2 x3 x4 x6 x8 M hs K h hK
    rw [f_X10_counts_L75] at h
    refine J_iload (pc' := 77) (i := 8) (n := 6) dX10_counts_75 rfl rfl ?_
    refine J_iconst (pc' := 78) (v := (1 : Int32)) dX10_counts_77 rfl ic_1 ?_
    refine J_iload_n (pc' := 79) (i := 1) (n := 1) dX10_counts_78 rfl rfl rfl ?_
    refine J_ishl (pc' := 80) dX10_counts_79 rfl ?_
    refine J_icmp_ge (pc' := 83) (tgt := 152) dX10_counts_80 rfl (by decide) (fun c21 => ?_) (fun c21 => ?_)
    · replace h := j_ip c21 h
      refine J_sub [0, 4, 5] (lv' := [(0, .ref 35), (4, .long x4), (6, .long x6)]) rfl ?_
      exact hK x4 x8  h
    · replace h := j_iq c21 h
      refine J_iload (pc' := 85) (i := 8) (n := 6) dX10_counts_83 rfl rfl ?_
      obtain ⟨v22, e23, h⟩ := bi_inv h
      refine J_callS (pc' := 88) (as := [.int x8]) (rest := []) dX10_counts_85 rfl lk_X10_206 rfl (c_X10_bits e23) ⟨Nat.le_of_ble_eq_true rfl, Nat.le_of_ble_eq_true rfl⟩ (Nat.le_of_ble_eq_true rfl) ⟨Nat.le_of_ble_eq_true rfl, Nat.le_of_ble_eq_true rfl⟩ (j_kq ?_)
      refine J_iload_n (pc' := 89) (i := 2) (n := 2) dX10_counts_88 rfl rfl rfl ?_
      refine J_join (C := fun (v25 : Int64) => JT_X10_counts l G r 97 [(0, .ref 35), (1, .int x1), (2, .int x2), (3, .int x3), (4, .long x4), (6, .long x6), (8, .int x8)] [.long v25] M) h (fun v25 h => ?_) (fun K26 h27 h => ?_)
      · refine J_lstore (pc' := 99) (i := 9) (lv' := [(9, .long v25), (0, .ref 35), (1, .int x1), (2, .int x2), (3, .int x3), (4, .long x4), (6, .long x6), (8, .int x8)]) dX10_counts_97 rfl (by decide) rfl ?_
        refine J_iconst (pc' := 100) (v := (0 : Int32)) dX10_counts_99 rfl ic_0 ?_
        refine J_istore (pc' := 102) (i := 11) (lv' := [(11, .int (0 : Int32)), (9, .long v25), (0, .ref 35), (1, .int x1), (2, .int x2), (3, .int x3), (4, .long x4), (6, .long x6), (8, .int x8)]) dX10_counts_100 rfl (by decide) rfl ?_
        refine J_sub [2, 3, 4, 5, 6, 7, 8, 1, 0] (lv' := [(0, .ref 35), (1, .int x1), (2, .int x2), (3, .int x3), (4, .long x4), (6, .long x6), (8, .int x8), (9, .long v25), (11, .int (0 : Int32))]) rfl ?_
        refine L_X10_counts_L102 j_fu hs h (fun y32 y33 h => ?_)
        refine J_lload (pc' := 141) (i := 4) (n := 4) dX10_counts_139 rfl rfl ?_
        refine J_lload (pc' := 143) (i := 9) (n := 7) dX10_counts_141 rfl rfl ?_
        refine J_ladd (pc' := 144) dX10_counts_143 rfl ?_
        refine J_lstore (pc' := 146) (i := 4) (lv' := [(4, .long (x4 + y32)), (0, .ref 35), (1, .int x1), (2, .int x2), (3, .int x3), (6, .long x6), (8, .int x8), (9, .long y32)]) dX10_counts_144 rfl (by decide) rfl ?_
        refine J_iinc (pc' := 149) (i := 8) (n := 6) (v := (x8 + (1 : Int32))) (lv' := [(8, .int (x8 + (1 : Int32))), (4, .long (x4 + y32)), (0, .ref 35), (1, .int x1), (2, .int x2), (3, .int x3), (6, .long x6), (9, .long y32)]) dX10_counts_146 rfl rfl (j_inc _ _ rfl _) (by decide) rfl ?_
        refine J_goto (pc' := 75) dX10_counts_149 (by decide) ?_
        refine J_sub [2, 3, 4, 5, 1, 6, 0] (lv' := [(0, .ref 35), (1, .int x1), (2, .int x2), (3, .int x3), (4, .long (x4 + y32)), (6, .long x6), (8, .int (x8 + (1 : Int32)))]) rfl ?_
        exact ih hs h hK
      · refine J_icmp_lt (pc' := 92) (tgt := 96) dX10_counts_89 rfl (by decide) (fun c24 => ?_) (fun c24 => ?_)
        · replace h := j_ip c24 h
          refine J_lconst (pc' := 97) (v := (0 : Int64)) dX10_counts_96 rfl rfl ?_
          exact h27 (0 : Int64) h
        · replace h := j_iq c24 h
          refine J_lconst (pc' := 93) (v := (1 : Int64)) dX10_counts_92 rfl rfl ?_
          refine J_goto (pc' := 97) dX10_counts_93 (by decide) ?_
          exact h27 (1 : Int64) h
set_option maxHeartbeats 4000000 in
theorem c_X10_counts {l : Launch} {G : j_G} {M : j_M} {x1 : Int32} {x2 : Int32} {x3 : Int32} (hs : sh_m M.2.2) {r : (Int32 × j_M)} (h : f_X10_counts M x1 x2 x3 = some r) : j_Sp l G md_X10_counts 2 (0, 0) [.ref 35, .int x1, .int x2, .int x3] M (po (some (.int r.1)) r.2) := by
  refine j_Sp.of (by decide) (Nat.le_of_ble_eq_true rfl) ?_
  show JT_X10_counts l G r 0 [(0, .ref 35), (1, .int x1), (2, .int x2), (3, .int x3)] [] M
  unfold f_X10_counts at h
  refine J_iload_n (pc' := 1) (i := 1) (n := 1) dX10_counts_0 rfl rfl rfl ?_
  refine J_i2l (pc' := 2) dX10_counts_1 rfl ?_
  refine J_lconst (pc' := 3) (v := (0 : Int64)) dX10_counts_2 rfl rfl ?_
  refine J_ldc2 (pc' := 6) (v := (9 : Int64)) dX10_counts_3 rfl wd_1146 ?_
  obtain ⟨v1, e2, h⟩ := tl_inv h
  refine J_callS (pc' := 9) (as := [.long (x1).toInt64, .long (0 : Int64), .long (9 : Int64)]) (rest := []) dX10_counts_6 rfl lk_X10_68 rfl (c_X10_in e2) ⟨Nat.le_of_ble_eq_true rfl, Nat.le_of_ble_eq_true rfl⟩ (Nat.le_of_ble_eq_true rfl) ⟨Nat.le_of_ble_eq_true rfl, Nat.le_of_ble_eq_true rfl⟩ (j_kq ?_)
  refine J_if_eq (pc' := 12) (tgt := 36) dX10_counts_9 rfl (by decide) (fun c3 => ?_) (fun c3 => ?_)
  · replace h := j_ip c3 h
    refine J_aload_n (pc' := 37) (i := 0) (n := 0) dX10_counts_36 rfl rfl rfl ?_
    refine J_bipush (pc' := 39) (v := ((-2) : Int32)) dX10_counts_37 rfl bp_m2 ?_
    obtain ⟨q4, e5, h⟩ := bi_inv h
    obtain ⟨c6, h⟩ := j_ck_inv h
    refine J_callV (pc' := 42) (as := [.int ((-2) : Int32)]) (rest := []) dX10_counts_39 rfl lk_X10_84 rfl 10 (by decide) rfl (m_o hs) (m_n hs (Nat.le_of_ble_eq_true rfl)) (c_X10_bad hs e5) ⟨Nat.le_of_ble_eq_true rfl, Nat.le_of_ble_eq_true rfl⟩ (Nat.le_of_ble_eq_true rfl) ⟨Nat.le_of_ble_eq_true rfl, Nat.le_of_ble_eq_true rfl⟩ (j_kq ?_)
    have g7 : sh_m q4.2.2.2 := j_shE c6 hs
    exact J_iret rfl dX10_counts_42 ⟨rfl, Nat.le_refl _⟩ (j_pW h)
  · replace h := j_iq c3 h
    refine J_iload_n (pc' := 13) (i := 2) (n := 2) dX10_counts_12 rfl rfl rfl ?_
    refine J_i2l (pc' := 14) dX10_counts_13 rfl ?_
    refine J_lconst (pc' := 15) (v := (0 : Int64)) dX10_counts_14 rfl rfl ?_
    refine J_ldc2 (pc' := 18) (v := (9 : Int64)) dX10_counts_15 rfl wd_1146 ?_
    obtain ⟨v8, e9, h⟩ := tl_inv h
    refine J_callS (pc' := 21) (as := [.long (x2).toInt64, .long (0 : Int64), .long (9 : Int64)]) (rest := []) dX10_counts_18 rfl lk_X10_68 rfl (c_X10_in e9) ⟨Nat.le_of_ble_eq_true rfl, Nat.le_of_ble_eq_true rfl⟩ (Nat.le_of_ble_eq_true rfl) ⟨Nat.le_of_ble_eq_true rfl, Nat.le_of_ble_eq_true rfl⟩ (j_kq ?_)
    refine J_if_eq (pc' := 24) (tgt := 36) dX10_counts_21 rfl (by decide) (fun c10 => ?_) (fun c10 => ?_)
    · replace h := j_ip c10 h
      refine J_aload_n (pc' := 37) (i := 0) (n := 0) dX10_counts_36 rfl rfl rfl ?_
      refine J_bipush (pc' := 39) (v := ((-2) : Int32)) dX10_counts_37 rfl bp_m2 ?_
      obtain ⟨q11, e12, h⟩ := bi_inv h
      obtain ⟨c13, h⟩ := j_ck_inv h
      refine J_callV (pc' := 42) (as := [.int ((-2) : Int32)]) (rest := []) dX10_counts_39 rfl lk_X10_84 rfl 10 (by decide) rfl (m_o hs) (m_n hs (Nat.le_of_ble_eq_true rfl)) (c_X10_bad hs e12) ⟨Nat.le_of_ble_eq_true rfl, Nat.le_of_ble_eq_true rfl⟩ (Nat.le_of_ble_eq_true rfl) ⟨Nat.le_of_ble_eq_true rfl, Nat.le_of_ble_eq_true rfl⟩ (j_kq ?_)
      have g14 : sh_m q11.2.2.2 := j_shE c13 hs
      exact J_iret rfl dX10_counts_42 ⟨rfl, Nat.le_refl _⟩ (j_pW h)
    · replace h := j_iq c10 h
      refine J_iload_n (pc' := 25) (i := 3) (n := 3) dX10_counts_24 rfl rfl rfl ?_
      refine J_i2l (pc' := 26) dX10_counts_25 rfl ?_
      refine J_lconst (pc' := 27) (v := (0 : Int64)) dX10_counts_26 rfl rfl ?_
      refine J_ldc2 (pc' := 30) (v := (10 : Int64)) dX10_counts_27 rfl wd_1201 ?_
      obtain ⟨v15, e16, h⟩ := tl_inv h
      refine J_callS (pc' := 33) (as := [.long (x3).toInt64, .long (0 : Int64), .long (10 : Int64)]) (rest := []) dX10_counts_30 rfl lk_X10_68 rfl (c_X10_in e16) ⟨Nat.le_of_ble_eq_true rfl, Nat.le_of_ble_eq_true rfl⟩ (Nat.le_of_ble_eq_true rfl) ⟨Nat.le_of_ble_eq_true rfl, Nat.le_of_ble_eq_true rfl⟩ (j_kq ?_)
      refine J_if_ne (pc' := 36) (tgt := 43) dX10_counts_33 rfl (by decide) (fun c17 => ?_) (fun c17 => ?_)
      · replace h := j_iq c17 h
        refine J_lconst (pc' := 44) (v := (0 : Int64)) dX10_counts_43 rfl rfl ?_
        refine J_lstore (pc' := 46) (i := 4) (lv' := [(4, .long (0 : Int64)), (0, .ref 35), (1, .int x1), (2, .int x2), (3, .int x3)]) dX10_counts_44 rfl (by decide) rfl ?_
        refine J_lconst (pc' := 47) (v := (1 : Int64)) dX10_counts_46 rfl rfl ?_
        refine J_lstore (pc' := 49) (i := 6) (lv' := [(6, .long (1 : Int64)), (4, .long (0 : Int64)), (0, .ref 35), (1, .int x1), (2, .int x2), (3, .int x3)]) dX10_counts_47 rfl (by decide) rfl ?_
        refine J_iconst (pc' := 50) (v := (0 : Int32)) dX10_counts_49 rfl ic_0 ?_
        refine J_istore (pc' := 52) (i := 8) (lv' := [(8, .int (0 : Int32)), (6, .long (1 : Int64)), (4, .long (0 : Int64)), (0, .ref 35), (1, .int x1), (2, .int x2), (3, .int x3)]) dX10_counts_50 rfl (by decide) rfl ?_
        refine J_sub [3, 4, 5, 6, 2, 1, 0] (lv' := [(0, .ref 35), (1, .int x1), (2, .int x2), (3, .int x3), (4, .long (0 : Int64)), (6, .long (1 : Int64)), (8, .int (0 : Int32))]) rfl ?_
        refine L_X10_counts_L52 j_fu hs h (fun y19 y20 h => ?_)
        refine J_iconst (pc' := 73) (v := (0 : Int32)) dX10_counts_72 rfl ic_0 ?_
        refine J_istore (pc' := 75) (i := 8) (lv' := [(8, .int (0 : Int32)), (0, .ref 35), (1, .int x1), (2, .int x2), (3, .int x3), (4, .long (0 : Int64)), (6, .long y19)]) dX10_counts_73 rfl (by decide) rfl ?_
        refine J_sub [1, 2, 3, 4, 5, 6, 0] (lv' := [(0, .ref 35), (1, .int x1), (2, .int x2), (3, .int x3), (4, .long (0 : Int64)), (6, .long y19), (8, .int (0 : Int32))]) rfl ?_
        refine L_X10_counts_L75 j_fu hs h (fun y34 y35 h => ?_)
        refine J_aload_n (pc' := 153) (i := 0) (n := 0) dX10_counts_152 rfl rfl rfl ?_
        refine J_lload (pc' := 155) (i := 4) (n := 1) dX10_counts_153 rfl rfl ?_
        refine J_lload (pc' := 157) (i := 6) (n := 2) dX10_counts_155 rfl rfl ?_
        obtain ⟨q36, e37, h⟩ := bi_inv h
        obtain ⟨c38, h⟩ := j_ck_inv h
        refine J_callV (pc' := 160) (as := [.long y34, .long y19]) (rest := []) dX10_counts_157 rfl lk_X10_209 rfl 10 (by decide) rfl (m_o hs) (m_n hs (Nat.le_of_ble_eq_true rfl)) (c_X10_fraction hs e37) ⟨Nat.le_of_ble_eq_true rfl, Nat.le_of_ble_eq_true rfl⟩ (Nat.le_of_ble_eq_true rfl) ⟨Nat.le_of_ble_eq_true rfl, Nat.le_of_ble_eq_true rfl⟩ (j_kv ?_)
        have g39 : sh_m q36.2.2 := j_shE c38 hs
        refine J_iconst (pc' := 161) (v := (1 : Int32)) dX10_counts_160 rfl ic_1 ?_
        exact J_iret rfl dX10_counts_161 ⟨rfl, Nat.le_refl _⟩ (j_pW h)
      · replace h := j_ip c17 h
        refine J_aload_n (pc' := 37) (i := 0) (n := 0) dX10_counts_36 rfl rfl rfl ?_
        refine J_bipush (pc' := 39) (v := ((-2) : Int32)) dX10_counts_37 rfl bp_m2 ?_
        obtain ⟨q40, e41, h⟩ := bi_inv h
        obtain ⟨c42, h⟩ := j_ck_inv h
        refine J_callV (pc' := 42) (as := [.int ((-2) : Int32)]) (rest := []) dX10_counts_39 rfl lk_X10_84 rfl 10 (by decide) rfl (m_o hs) (m_n hs (Nat.le_of_ble_eq_true rfl)) (c_X10_bad hs e41) ⟨Nat.le_of_ble_eq_true rfl, Nat.le_of_ble_eq_true rfl⟩ (Nat.le_of_ble_eq_true rfl) ⟨Nat.le_of_ble_eq_true rfl, Nat.le_of_ble_eq_true rfl⟩ (j_kq ?_)
        have g43 : sh_m q40.2.2.2 := j_shE c42 hs
        exact J_iret rfl dX10_counts_42 ⟨rfl, Nat.le_refl _⟩ (j_pW h)
abbrev JT_X10_goMinute (l : Launch) (G : j_G) (r : (Int32 × j_M)) : Nat → List (Nat × Value) → List Value → j_M → Prop := JJ l G md_X10_goMinute (j_rm 4 (0, 0)) (0, 0) (0, 0) (po (some (.int r.1)) r.2)
noncomputable def f_X10_goMinute_L4 : Nat → j_M → Int32 → Int32 → (Int32 → Int32 → j_M → Option (Int32 × j_M)) → Option (Int32 × j_M)
  | 0, _, _, _, _ => none
  | n + 1, M, x1, x2, K =>
    (f_X10_many M).bind fun v1 => (if v1 ≤ x2 then (K x1 x2 M) else (a_i M 40 7 x2 fun v4 => ((f_X10_secondsIn M x2 v4).bind fun q6 => j_ck M q6.2 (a_i q6.2 47 7 x2 fun v10 => (w_i q6.2 47 7 x2 (v10 + (60 : Int32)) fun M12 => (a_i M12 47 7 x2 fun v15 => (d_i v15 q6.1 fun v17 => (a_i M12 47 7 x2 fun v19 => (r_i v19 q6.1 fun v21 => (w_i M12 47 7 x2 v21 fun M23 => (f_X10_goMinute_L4 n  M23 (x1 + v17) (x2 + (1 : Int32)) K)))))))))))
noncomputable def f_X10_goMinute (M : j_M)  : Option (Int32 × j_M) :=
  f_X10_goMinute_L4 j_fu  M (0 : Int32) (0 : Int32) (fun (y26 : Int32) (y27 : Int32) (M28 : j_M) => (some (y26, M28)))
set_option maxHeartbeats 4000000 in
theorem L_X10_goMinute_L4 {l : Launch} {G : j_G}  {r : (Int32 × j_M)} : ∀ (n : Nat) {x1 : Int32} {x2 : Int32} {M : j_M} (hs : sh_m M.2.2) {K : Int32 → Int32 → j_M → Option (Int32 × j_M)}, f_X10_goMinute_L4 n  M x1 x2 K = some r → (∀ (y1 : Int32) (y2 : Int32) (M1 : j_M), sh_m M1.2.2 → K y1 y2 M1 = some r → JT_X10_goMinute l G r 62 [(1, .int y1)] [] M1) → JT_X10_goMinute l G r 4 [(0, .ref 35), (1, .int x1), (2, .int x2)] [] M := by
  intro n
  induction n with
  | zero =>
    intro x1 x2 M hs K h hK
    rw [f_X10_goMinute_L4] at h; cases h
  | succ n ih =>
    intro x1 x2 M hs K h hK
    rw [f_X10_goMinute_L4] at h
    refine J_iload_n (pc' := 5) (i := 2) (n := 2) dX10_goMinute_4 rfl rfl rfl ?_
    refine J_aload_n (pc' := 6) (i := 0) (n := 0) dX10_goMinute_5 rfl rfl rfl ?_
    obtain ⟨v1, e2, h⟩ := bi_inv h
    refine J_callV (pc' := 9) (as := []) (rest := [.int x2]) dX10_goMinute_6 rfl lk_X10_64 rfl 10 (by decide) rfl (m_o hs) (m_n hs (Nat.le_of_ble_eq_true rfl)) (c_X10_many hs e2) ⟨Nat.le_of_ble_eq_true rfl, Nat.le_of_ble_eq_true rfl⟩ (Nat.le_of_ble_eq_true rfl) ⟨Nat.le_of_ble_eq_true rfl, Nat.le_of_ble_eq_true rfl⟩ (j_kq ?_)
    refine J_icmp_ge (pc' := 12) (tgt := 62) dX10_goMinute_9 rfl (by decide) (fun c3 => ?_) (fun c3 => ?_)
    · replace h := j_ip c3 h
      refine J_sub [1] (lv' := [(1, .int x1)]) rfl ?_
      exact hK x1 x2 M hs h
    · replace h := j_iq c3 h
      refine J_aload_n (pc' := 13) (i := 0) (n := 0) dX10_goMinute_12 rfl rfl rfl ?_
      refine J_iload_n (pc' := 14) (i := 2) (n := 2) dX10_goMinute_13 rfl rfl rfl ?_
      refine J_aload_n (pc' := 15) (i := 0) (n := 0) dX10_goMinute_14 rfl rfl rfl ?_
      refine J_getR (pc' := 18) (b := 40) dX10_goMinute_15 rfl fl_X10_27 rfl (m_o hs) (m_n hs (Nat.le_of_ble_eq_true rfl)) (m_r6 hs) ?_
      refine J_iload_n (pc' := 19) (i := 2) (n := 2) dX10_goMinute_18 rfl rfl rfl ?_
      obtain ⟨v4, e5, h⟩ := a_i_inv h
      refine J_ialde (pc' := 20) dX10_goMinute_19 rfl (m_s40 hs) (m_n hs (Nat.le_of_ble_eq_true rfl)) e5 ?_
      obtain ⟨q6, e7, h⟩ := bi_inv h
      obtain ⟨c8, h⟩ := j_ck_inv h
      refine J_callV (pc' := 23) (as := [.int x2, .int v4]) (rest := []) dX10_goMinute_20 rfl lk_X10_143 rfl 10 (by decide) rfl (m_o hs) (m_n hs (Nat.le_of_ble_eq_true rfl)) (c_X10_secondsIn hs e7) ⟨Nat.le_of_ble_eq_true rfl, Nat.le_of_ble_eq_true rfl⟩ (Nat.le_of_ble_eq_true rfl) ⟨Nat.le_of_ble_eq_true rfl, Nat.le_of_ble_eq_true rfl⟩ (j_kq ?_)
      have g9 : sh_m q6.2.2.2 := j_shE c8 hs
      refine J_istore_n (pc' := 24) (i := 3) (lv' := [(3, .int q6.1), (0, .ref 35), (1, .int x1), (2, .int x2)]) dX10_goMinute_23 rfl rfl (by decide) rfl ?_
      refine J_aload_n (pc' := 25) (i := 0) (n := 1) dX10_goMinute_24 rfl rfl rfl ?_
      refine J_getR (pc' := 28) (b := 47) dX10_goMinute_25 rfl fl_X10_48 rfl (m_o g9) (m_n g9 (Nat.le_of_ble_eq_true rfl)) (m_r17 g9) ?_
      refine J_iload_n (pc' := 29) (i := 2) (n := 3) dX10_goMinute_28 rfl rfl rfl ?_
      refine J_dup2 (pc' := 30) dX10_goMinute_29 rfl rfl rfl ?_
      obtain ⟨v10, e11, h⟩ := a_i_inv h
      refine J_ialde (pc' := 31) dX10_goMinute_30 rfl (m_s47 g9) (m_n g9 (Nat.le_of_ble_eq_true rfl)) e11 ?_
      refine J_bipush (pc' := 33) (v := (60 : Int32)) dX10_goMinute_31 rfl bp_60 ?_
      refine J_iadd (pc' := 34) dX10_goMinute_33 rfl ?_
      obtain ⟨M12, e13, h⟩ := w_i_inv h
      have g14 : sh_m M12.2.2 := j_shI e13.2 g9
      refine J_iaste (pc' := 35) dX10_goMinute_34 rfl (m_s47 g9) (m_n g9 (Nat.le_of_ble_eq_true rfl)) e13 ?_
      refine J_iload_n (pc' := 36) (i := 1) (n := 2) dX10_goMinute_35 rfl rfl rfl ?_
      refine J_aload_n (pc' := 37) (i := 0) (n := 1) dX10_goMinute_36 rfl rfl rfl ?_
      refine J_getR (pc' := 40) (b := 47) dX10_goMinute_37 rfl fl_X10_48 rfl (m_o g14) (m_n g14 (Nat.le_of_ble_eq_true rfl)) (m_r17 g14) ?_
      refine J_iload_n (pc' := 41) (i := 2) (n := 3) dX10_goMinute_40 rfl rfl rfl ?_
      obtain ⟨v15, e16, h⟩ := a_i_inv h
      refine J_ialde (pc' := 42) dX10_goMinute_41 rfl (m_s47 g14) (m_n g14 (Nat.le_of_ble_eq_true rfl)) e16 ?_
      refine J_iload_n (pc' := 43) (i := 3) (n := 0) dX10_goMinute_42 rfl rfl rfl ?_
      obtain ⟨v17, e18, h⟩ := d_i_inv h
      refine J_dive (pc' := 44) dX10_goMinute_43 rfl e18 ?_
      refine J_iadd (pc' := 45) dX10_goMinute_44 rfl ?_
      refine J_istore_n (pc' := 46) (i := 1) (lv' := [(1, .int (x1 + v17)), (3, .int q6.1), (0, .ref 35), (2, .int x2)]) dX10_goMinute_45 rfl rfl (by decide) rfl ?_
      refine J_aload_n (pc' := 47) (i := 0) (n := 2) dX10_goMinute_46 rfl rfl rfl ?_
      refine J_getR (pc' := 50) (b := 47) dX10_goMinute_47 rfl fl_X10_48 rfl (m_o g14) (m_n g14 (Nat.le_of_ble_eq_true rfl)) (m_r17 g14) ?_
      refine J_iload_n (pc' := 51) (i := 2) (n := 3) dX10_goMinute_50 rfl rfl rfl ?_
      refine J_dup2 (pc' := 52) dX10_goMinute_51 rfl rfl rfl ?_
      obtain ⟨v19, e20, h⟩ := a_i_inv h
      refine J_ialde (pc' := 53) dX10_goMinute_52 rfl (m_s47 g14) (m_n g14 (Nat.le_of_ble_eq_true rfl)) e20 ?_
      refine J_iload_n (pc' := 54) (i := 3) (n := 1) dX10_goMinute_53 rfl rfl rfl ?_
      obtain ⟨v21, e22, h⟩ := r_i_inv h
      refine J_reme (pc' := 55) dX10_goMinute_54 rfl e22 ?_
      obtain ⟨M23, e24, h⟩ := w_i_inv h
      have g25 : sh_m M23.2.2 := j_shI e24.2 g14
      refine J_iaste (pc' := 56) dX10_goMinute_55 rfl (m_s47 g14) (m_n g14 (Nat.le_of_ble_eq_true rfl)) e24 ?_
      refine J_iinc (pc' := 59) (i := 2) (n := 3) (v := (x2 + (1 : Int32))) (lv' := [(2, .int (x2 + (1 : Int32))), (1, .int (x1 + v17)), (3, .int q6.1), (0, .ref 35)]) dX10_goMinute_56 rfl rfl (j_inc _ _ rfl _) (by decide) rfl ?_
      refine J_goto (pc' := 4) dX10_goMinute_59 (by decide) ?_
      refine J_sub [3, 1, 0] (lv' := [(0, .ref 35), (1, .int (x1 + v17)), (2, .int (x2 + (1 : Int32)))]) rfl ?_
      exact ih g25 h hK
set_option maxHeartbeats 4000000 in
theorem c_X10_goMinute {l : Launch} {G : j_G} {M : j_M}  (hs : sh_m M.2.2) {r : (Int32 × j_M)} (h : f_X10_goMinute M  = some r) : j_Sp l G md_X10_goMinute 4 (0, 0) [.ref 35] M (po (some (.int r.1)) r.2) := by
  refine j_Sp.of (by decide) (Nat.le_of_ble_eq_true rfl) ?_
  show JT_X10_goMinute l G r 0 [(0, .ref 35)] [] M
  unfold f_X10_goMinute at h
  refine J_iconst (pc' := 1) (v := (0 : Int32)) dX10_goMinute_0 rfl ic_0 ?_
  refine J_istore_n (pc' := 2) (i := 1) (lv' := [(1, .int (0 : Int32)), (0, .ref 35)]) dX10_goMinute_1 rfl rfl (by decide) rfl ?_
  refine J_iconst (pc' := 3) (v := (0 : Int32)) dX10_goMinute_2 rfl ic_0 ?_
  refine J_istore_n (pc' := 4) (i := 2) (lv' := [(2, .int (0 : Int32)), (1, .int (0 : Int32)), (0, .ref 35)]) dX10_goMinute_3 rfl rfl (by decide) rfl ?_
  refine J_sub [2, 1, 0] (lv' := [(0, .ref 35), (1, .int (0 : Int32)), (2, .int (0 : Int32))]) rfl ?_
  refine L_X10_goMinute_L4 j_fu hs h (fun y26 y27 M28 g29 h => ?_)
  refine J_iload_n (pc' := 63) (i := 1) (n := 0) dX10_goMinute_62 rfl rfl rfl ?_
  exact J_iret rfl dX10_goMinute_63 ⟨rfl, Nat.le_refl _⟩ (j_pW h)
abbrev JT_X10_mornings (l : Launch) (G : j_G) (r : (Int32 × j_M)) : Nat → List (Nat × Value) → List Value → j_M → Prop := JJ l G md_X10_mornings (j_rm 5 (0, 0)) (0, 0) (0, 0) (po (some (.int r.1)) r.2)
noncomputable def f_X10_mornings_L56 : Nat → j_M → Int32 → Int64 → Int32 → Int32 → (Int32 → j_M → Option (Int32 × j_M)) → Option (Int32 × j_M)
  | 0, _, _, _, _, _, _ => none
  | n + 1, M, x2, x3, x5, x6, K =>
    (f_X10_many M).bind fun v18 => (if v18 ≤ x6 then (K x6 M) else (a_i M 36 250 ((23 : Int32) + x6) fun v21 => (w_i M 47 7 x6 v21 fun M23 => (f_X10_mornings_L56 n  M23 x2 x3 x5 (x6 + (1 : Int32)) K))))
noncomputable def f_X10_mornings_L91 : Nat → j_M → Int32 → Int64 → Int32 → Int32 → (Int64 → Int32 → Int32 → j_M → Option (Int32 × j_M)) → Option (Int32 × j_M)
  | 0, _, _, _, _, _, _ => none
  | n + 1, M, x2, x3, x5, x6, K =>
    if x2 ≤ x6 then (K x3 x5 x6 M) else ((f_X10_many M).bind fun v30 => (r_l ((((x3 * (1103515245 : Int64)) + (12345 : Int64)) - ((x3 * (1103515245 : Int64)) + (12345 : Int64)) / (2147483648 : Int64) * (2147483648 : Int64)) / (65536 : Int64)) (v30).toInt64 fun v32 => ((f_X10_isOpen M (((((((((x3 * (1103515245 : Int64)) + (12345 : Int64)) - ((x3 * (1103515245 : Int64)) + (12345 : Int64)) / (2147483648 : Int64) * (2147483648 : Int64)) * (1103515245 : Int64)) + (12345 : Int64)) - (((((x3 * (1103515245 : Int64)) + (12345 : Int64)) - ((x3 * (1103515245 : Int64)) + (12345 : Int64)) / (2147483648 : Int64) * (2147483648 : Int64)) * (1103515245 : Int64)) + (12345 : Int64)) / (2147483648 : Int64) * (2147483648 : Int64)) / (65536 : Int64)) - (((((((x3 * (1103515245 : Int64)) + (12345 : Int64)) - ((x3 * (1103515245 : Int64)) + (12345 : Int64)) / (2147483648 : Int64) * (2147483648 : Int64)) * (1103515245 : Int64)) + (12345 : Int64)) - (((((x3 * (1103515245 : Int64)) + (12345 : Int64)) - ((x3 * (1103515245 : Int64)) + (12345 : Int64)) / (2147483648 : Int64) * (2147483648 : Int64)) * (1103515245 : Int64)) + (12345 : Int64)) / (2147483648 : Int64) * (2147483648 : Int64)) / (65536 : Int64)) / (4 : Int64) * (4 : Int64))).toInt32).bind fun v34 => (jn (fun (v37 : Int32) => (w_i M 40 7 (v32).toInt32 v37 fun M40 => (a_i M40 36 250 (1 : Int32) fun v43 => (if (999 : Int32) ≤ (v43 + x6) then (f_X10_mornings_L91 n  M40 x2 ((((((x3 * (1103515245 : Int64)) + (12345 : Int64)) - ((x3 * (1103515245 : Int64)) + (12345 : Int64)) / (2147483648 : Int64) * (2147483648 : Int64)) * (1103515245 : Int64)) + (12345 : Int64)) - (((((x3 * (1103515245 : Int64)) + (12345 : Int64)) - ((x3 * (1103515245 : Int64)) + (12345 : Int64)) / (2147483648 : Int64) * (2147483648 : Int64)) * (1103515245 : Int64)) + (12345 : Int64)) / (2147483648 : Int64) * (2147483648 : Int64)) (x5 + (0 : Int32)) (x6 + (1 : Int32)) K) else ((f_X10_goMinute M40).bind fun q46 => j_ck M40 q46.2 (f_X10_mornings_L91 n  q46.2 x2 ((((((x3 * (1103515245 : Int64)) + (12345 : Int64)) - ((x3 * (1103515245 : Int64)) + (12345 : Int64)) / (2147483648 : Int64) * (2147483648 : Int64)) * (1103515245 : Int64)) + (12345 : Int64)) - (((((x3 * (1103515245 : Int64)) + (12345 : Int64)) - ((x3 * (1103515245 : Int64)) + (12345 : Int64)) / (2147483648 : Int64) * (2147483648 : Int64)) * (1103515245 : Int64)) + (12345 : Int64)) / (2147483648 : Int64) * (2147483648 : Int64)) (x5 + q46.1) (x6 + (1 : Int32)) K)))))) (fun K38 => (if v34 = 0 then (a_i M 40 7 (v32).toInt32 fun v50 => (K38 v50)) else (K38 (((((((((x3 * (1103515245 : Int64)) + (12345 : Int64)) - ((x3 * (1103515245 : Int64)) + (12345 : Int64)) / (2147483648 : Int64) * (2147483648 : Int64)) * (1103515245 : Int64)) + (12345 : Int64)) - (((((x3 * (1103515245 : Int64)) + (12345 : Int64)) - ((x3 * (1103515245 : Int64)) + (12345 : Int64)) / (2147483648 : Int64) * (2147483648 : Int64)) * (1103515245 : Int64)) + (12345 : Int64)) / (2147483648 : Int64) * (2147483648 : Int64)) / (65536 : Int64)) - (((((((x3 * (1103515245 : Int64)) + (12345 : Int64)) - ((x3 * (1103515245 : Int64)) + (12345 : Int64)) / (2147483648 : Int64) * (2147483648 : Int64)) * (1103515245 : Int64)) + (12345 : Int64)) - (((((x3 * (1103515245 : Int64)) + (12345 : Int64)) - ((x3 * (1103515245 : Int64)) + (12345 : Int64)) / (2147483648 : Int64) * (2147483648 : Int64)) * (1103515245 : Int64)) + (12345 : Int64)) / (2147483648 : Int64) * (2147483648 : Int64)) / (65536 : Int64)) / (4 : Int64) * (4 : Int64))).toInt32)))))))
noncomputable def f_X10_mornings (M : j_M) (x1 : Int32) (x2 : Int32) : Option (Int32 × j_M) :=
  tl (f_X10_in (x1).toInt64 (0 : Int64) (999999 : Int64)) fun v1 => (if v1 = 0 then ((f_X10_bad M ((-2) : Int32)).bind fun q4 => j_ck M q4.2 (some (q4.1, q4.2))) else (tl (f_X10_in (x2).toInt64 (0 : Int64) (60 : Int64)) fun v8 => (if v8 = 0 then ((f_X10_bad M ((-2) : Int32)).bind fun q61 => j_ck M q61.2 (some (q61.1, q61.2))) else ((f_X10_many M).bind fun v11 => (if v11 = 0 then ((f_X10_no M).bind fun q57 => j_ck M q57.2 (some (q57.1, q57.2))) else ((f_X10_layHand M).bind fun q14 => j_ck M q14 (f_X10_mornings_L56 j_fu  q14 x2 (x1).toInt64 (0 : Int32) (0 : Int32) (fun (y26 : Int32) (M27 : j_M) => (f_X10_mornings_L91 j_fu  M27 x2 (x1).toInt64 (0 : Int32) (0 : Int32) (fun (y52 : Int64) (y53 : Int32) (y54 : Int32) (M55 : j_M) => (some (y53, M55))))))))))))
set_option maxHeartbeats 4000000 in
theorem L_X10_mornings_L56 {l : Launch} {G : j_G}  {r : (Int32 × j_M)} : ∀ (n : Nat) {x2 : Int32} {x3 : Int64} {x5 : Int32} {x6 : Int32} {M : j_M} (hs : sh_m M.2.2) {K : Int32 → j_M → Option (Int32 × j_M)}, f_X10_mornings_L56 n  M x2 x3 x5 x6 K = some r → (∀ (y6 : Int32) (M1 : j_M), sh_m M1.2.2 → K y6 M1 = some r → JT_X10_mornings l G r 88 [(0, .ref 35), (2, .int x2), (3, .long x3), (5, .int x5)] [] M1) → JT_X10_mornings l G r 56 [(0, .ref 35), (2, .int x2), (3, .long x3), (5, .int x5), (6, .int x6)] [] M := by
  intro n
  induction n with
  | zero =>
    intro x2 x3 x5 x6 M hs K h hK
    rw [f_X10_mornings_L56] at h; cases h
  | succ n ih =>
    intro x2 x3 x5 x6 M hs K h hK
    rw [f_X10_mornings_L56] at h
    refine J_iload (pc' := 58) (i := 6) (n := 4) dX10_mornings_56 rfl rfl ?_
    refine J_aload_n (pc' := 59) (i := 0) (n := 0) dX10_mornings_58 rfl rfl rfl ?_
    obtain ⟨v18, e19, h⟩ := bi_inv h
    refine J_callV (pc' := 62) (as := []) (rest := [.int x6]) dX10_mornings_59 rfl lk_X10_64 rfl 10 (by decide) rfl (m_o hs) (m_n hs (Nat.le_of_ble_eq_true rfl)) (c_X10_many hs e19) ⟨Nat.le_of_ble_eq_true rfl, Nat.le_of_ble_eq_true rfl⟩ (Nat.le_of_ble_eq_true rfl) ⟨Nat.le_of_ble_eq_true rfl, Nat.le_of_ble_eq_true rfl⟩ (j_kq ?_)
    refine J_icmp_ge (pc' := 65) (tgt := 88) dX10_mornings_62 rfl (by decide) (fun c20 => ?_) (fun c20 => ?_)
    · replace h := j_ip c20 h
      refine J_sub [0, 1, 2, 3] (lv' := [(0, .ref 35), (2, .int x2), (3, .long x3), (5, .int x5)]) rfl ?_
      exact hK x6 M hs h
    · replace h := j_iq c20 h
      refine J_aload_n (pc' := 66) (i := 0) (n := 0) dX10_mornings_65 rfl rfl rfl ?_
      refine J_getR (pc' := 69) (b := 47) dX10_mornings_66 rfl fl_X10_48 rfl (m_o hs) (m_n hs (Nat.le_of_ble_eq_true rfl)) (m_r17 hs) ?_
      refine J_iload (pc' := 71) (i := 6) (n := 4) dX10_mornings_69 rfl rfl ?_
      refine J_aload_n (pc' := 72) (i := 0) (n := 0) dX10_mornings_71 rfl rfl rfl ?_
      refine J_getR (pc' := 75) (b := 36) dX10_mornings_72 rfl fl_X10_7 rfl (m_o hs) (m_n hs (Nat.le_of_ble_eq_true rfl)) (m_r0 hs) ?_
      refine J_bipush (pc' := 77) (v := (23 : Int32)) dX10_mornings_75 rfl bp_23 ?_
      refine J_iload (pc' := 79) (i := 6) (n := 4) dX10_mornings_77 rfl rfl ?_
      refine J_iadd (pc' := 80) dX10_mornings_79 rfl ?_
      obtain ⟨v21, e22, h⟩ := a_i_inv h
      refine J_ialde (pc' := 81) dX10_mornings_80 rfl (m_s36 hs) (m_n hs (Nat.le_of_ble_eq_true rfl)) e22 ?_
      obtain ⟨M23, e24, h⟩ := w_i_inv h
      have g25 : sh_m M23.2.2 := j_shI e24.2 hs
      refine J_iaste (pc' := 82) dX10_mornings_81 rfl (m_s47 hs) (m_n hs (Nat.le_of_ble_eq_true rfl)) e24 ?_
      refine J_iinc (pc' := 85) (i := 6) (n := 4) (v := (x6 + (1 : Int32))) (lv' := [(6, .int (x6 + (1 : Int32))), (0, .ref 35), (2, .int x2), (3, .long x3), (5, .int x5)]) dX10_mornings_82 rfl rfl (j_inc _ _ rfl _) (by decide) rfl ?_
      refine J_goto (pc' := 56) dX10_mornings_85 (by decide) ?_
      refine J_sub [1, 2, 3, 4, 0] (lv' := [(0, .ref 35), (2, .int x2), (3, .long x3), (5, .int x5), (6, .int (x6 + (1 : Int32)))]) rfl ?_
      exact ih g25 h hK
set_option maxHeartbeats 4000000 in
theorem L_X10_mornings_L91 {l : Launch} {G : j_G}  {r : (Int32 × j_M)} : ∀ (n : Nat) {x2 : Int32} {x3 : Int64} {x5 : Int32} {x6 : Int32} {M : j_M} (hs : sh_m M.2.2) {K : Int64 → Int32 → Int32 → j_M → Option (Int32 × j_M)}, f_X10_mornings_L91 n  M x2 x3 x5 x6 K = some r → (∀ (y3 : Int64) (y5 : Int32) (y6 : Int32) (M1 : j_M), sh_m M1.2.2 → K y3 y5 y6 M1 = some r → JT_X10_mornings l G r 213 [(5, .int y5)] [] M1) → JT_X10_mornings l G r 91 [(0, .ref 35), (2, .int x2), (3, .long x3), (5, .int x5), (6, .int x6)] [] M := by
  intro n
  induction n with
  | zero =>
    intro x2 x3 x5 x6 M hs K h hK
    rw [f_X10_mornings_L91] at h; cases h
  | succ n ih =>
    intro x2 x3 x5 x6 M hs K h hK
    rw [f_X10_mornings_L91] at h
    refine J_iload (pc' := 93) (i := 6) (n := 4) dX10_mornings_91 rfl rfl ?_
    refine J_iload_n (pc' := 94) (i := 2) (n := 1) dX10_mornings_93 rfl rfl rfl ?_
    refine J_icmp_ge (pc' := 97) (tgt := 213) dX10_mornings_94 rfl (by decide) (fun c29 => ?_) (fun c29 => ?_)
    · replace h := j_ip c29 h
      refine J_sub [3] (lv' := [(5, .int x5)]) rfl ?_
      exact hK x3 x5 x6 M hs h
    · replace h := j_iq c29 h
      refine J_lload_n (pc' := 98) (i := 3) (n := 2) dX10_mornings_97 rfl rfl rfl ?_
      refine J_ldc2 (pc' := 101) (v := (1103515245 : Int64)) dX10_mornings_98 rfl wd_1214 ?_
      refine J_lmul (pc' := 102) dX10_mornings_101 rfl ?_
      refine J_ldc2 (pc' := 105) (v := (12345 : Int64)) dX10_mornings_102 rfl wd_1215 ?_
      refine J_ladd (pc' := 106) dX10_mornings_105 rfl ?_
      refine J_ldc2 (pc' := 109) (v := (2147483648 : Int64)) dX10_mornings_106 rfl wd_1216 ?_
      refine J_lrem (pc' := 110) dX10_mornings_109 rfl (by decide) ?_
      refine J_lstore_n (pc' := 111) (i := 3) (lv' := [(3, .long (((x3 * (1103515245 : Int64)) + (12345 : Int64)) - ((x3 * (1103515245 : Int64)) + (12345 : Int64)) / (2147483648 : Int64) * (2147483648 : Int64))), (0, .ref 35), (2, .int x2), (5, .int x5), (6, .int x6)]) dX10_mornings_110 rfl rfl (by decide) rfl ?_
      refine J_lload_n (pc' := 112) (i := 3) (n := 0) dX10_mornings_111 rfl rfl rfl ?_
      refine J_ldc2 (pc' := 115) (v := (65536 : Int64)) dX10_mornings_112 rfl wd_1217 ?_
      refine J_ldiv (pc' := 116) dX10_mornings_115 rfl (by decide) ?_
      refine J_aload_n (pc' := 117) (i := 0) (n := 1) dX10_mornings_116 rfl rfl rfl ?_
      obtain ⟨v30, e31, h⟩ := bi_inv h
      refine J_callV (pc' := 120) (as := []) (rest := [.long ((((x3 * (1103515245 : Int64)) + (12345 : Int64)) - ((x3 * (1103515245 : Int64)) + (12345 : Int64)) / (2147483648 : Int64) * (2147483648 : Int64)) / (65536 : Int64))]) dX10_mornings_117 rfl lk_X10_64 rfl 10 (by decide) rfl (m_o hs) (m_n hs (Nat.le_of_ble_eq_true rfl)) (c_X10_many hs e31) ⟨Nat.le_of_ble_eq_true rfl, Nat.le_of_ble_eq_true rfl⟩ (Nat.le_of_ble_eq_true rfl) ⟨Nat.le_of_ble_eq_true rfl, Nat.le_of_ble_eq_true rfl⟩ (j_kq ?_)
      refine J_i2l (pc' := 121) dX10_mornings_120 rfl ?_
      obtain ⟨v32, e33, h⟩ := r_l_inv h
      refine J_lreme (pc' := 122) dX10_mornings_121 rfl e33 ?_
      refine J_l2i (pc' := 123) dX10_mornings_122 rfl ?_
      refine J_istore (pc' := 125) (i := 7) (lv' := [(7, .int (v32).toInt32), (3, .long (((x3 * (1103515245 : Int64)) + (12345 : Int64)) - ((x3 * (1103515245 : Int64)) + (12345 : Int64)) / (2147483648 : Int64) * (2147483648 : Int64))), (0, .ref 35), (2, .int x2), (5, .int x5), (6, .int x6)]) dX10_mornings_123 rfl (by decide) rfl ?_
      refine J_lload_n (pc' := 126) (i := 3) (n := 1) dX10_mornings_125 rfl rfl rfl ?_
      refine J_ldc2 (pc' := 129) (v := (1103515245 : Int64)) dX10_mornings_126 rfl wd_1214 ?_
      refine J_lmul (pc' := 130) dX10_mornings_129 rfl ?_
      refine J_ldc2 (pc' := 133) (v := (12345 : Int64)) dX10_mornings_130 rfl wd_1215 ?_
      refine J_ladd (pc' := 134) dX10_mornings_133 rfl ?_
      refine J_ldc2 (pc' := 137) (v := (2147483648 : Int64)) dX10_mornings_134 rfl wd_1216 ?_
      refine J_lrem (pc' := 138) dX10_mornings_137 rfl (by decide) ?_
      refine J_lstore_n (pc' := 139) (i := 3) (lv' := [(3, .long ((((((x3 * (1103515245 : Int64)) + (12345 : Int64)) - ((x3 * (1103515245 : Int64)) + (12345 : Int64)) / (2147483648 : Int64) * (2147483648 : Int64)) * (1103515245 : Int64)) + (12345 : Int64)) - (((((x3 * (1103515245 : Int64)) + (12345 : Int64)) - ((x3 * (1103515245 : Int64)) + (12345 : Int64)) / (2147483648 : Int64) * (2147483648 : Int64)) * (1103515245 : Int64)) + (12345 : Int64)) / (2147483648 : Int64) * (2147483648 : Int64))), (7, .int (v32).toInt32), (0, .ref 35), (2, .int x2), (5, .int x5), (6, .int x6)]) dX10_mornings_138 rfl rfl (by decide) rfl ?_
      refine J_lload_n (pc' := 140) (i := 3) (n := 0) dX10_mornings_139 rfl rfl rfl ?_
      refine J_ldc2 (pc' := 143) (v := (65536 : Int64)) dX10_mornings_140 rfl wd_1217 ?_
      refine J_ldiv (pc' := 144) dX10_mornings_143 rfl (by decide) ?_
      refine J_ldc2 (pc' := 147) (v := (4 : Int64)) dX10_mornings_144 rfl wd_1218 ?_
      refine J_lrem (pc' := 148) dX10_mornings_147 rfl (by decide) ?_
      refine J_l2i (pc' := 149) dX10_mornings_148 rfl ?_
      refine J_istore (pc' := 151) (i := 8) (lv' := [(8, .int (((((((((x3 * (1103515245 : Int64)) + (12345 : Int64)) - ((x3 * (1103515245 : Int64)) + (12345 : Int64)) / (2147483648 : Int64) * (2147483648 : Int64)) * (1103515245 : Int64)) + (12345 : Int64)) - (((((x3 * (1103515245 : Int64)) + (12345 : Int64)) - ((x3 * (1103515245 : Int64)) + (12345 : Int64)) / (2147483648 : Int64) * (2147483648 : Int64)) * (1103515245 : Int64)) + (12345 : Int64)) / (2147483648 : Int64) * (2147483648 : Int64)) / (65536 : Int64)) - (((((((x3 * (1103515245 : Int64)) + (12345 : Int64)) - ((x3 * (1103515245 : Int64)) + (12345 : Int64)) / (2147483648 : Int64) * (2147483648 : Int64)) * (1103515245 : Int64)) + (12345 : Int64)) - (((((x3 * (1103515245 : Int64)) + (12345 : Int64)) - ((x3 * (1103515245 : Int64)) + (12345 : Int64)) / (2147483648 : Int64) * (2147483648 : Int64)) * (1103515245 : Int64)) + (12345 : Int64)) / (2147483648 : Int64) * (2147483648 : Int64)) / (65536 : Int64)) / (4 : Int64) * (4 : Int64))).toInt32), (3, .long ((((((x3 * (1103515245 : Int64)) + (12345 : Int64)) - ((x3 * (1103515245 : Int64)) + (12345 : Int64)) / (2147483648 : Int64) * (2147483648 : Int64)) * (1103515245 : Int64)) + (12345 : Int64)) - (((((x3 * (1103515245 : Int64)) + (12345 : Int64)) - ((x3 * (1103515245 : Int64)) + (12345 : Int64)) / (2147483648 : Int64) * (2147483648 : Int64)) * (1103515245 : Int64)) + (12345 : Int64)) / (2147483648 : Int64) * (2147483648 : Int64))), (7, .int (v32).toInt32), (0, .ref 35), (2, .int x2), (5, .int x5), (6, .int x6)]) dX10_mornings_149 rfl (by decide) rfl ?_
      refine J_aload_n (pc' := 152) (i := 0) (n := 3) dX10_mornings_151 rfl rfl rfl ?_
      refine J_getR (pc' := 155) (b := 40) dX10_mornings_152 rfl fl_X10_27 rfl (m_o hs) (m_n hs (Nat.le_of_ble_eq_true rfl)) (m_r6 hs) ?_
      refine J_iload (pc' := 157) (i := 7) (n := 2) dX10_mornings_155 rfl rfl ?_
      refine J_aload_n (pc' := 158) (i := 0) (n := 3) dX10_mornings_157 rfl rfl rfl ?_
      refine J_iload (pc' := 160) (i := 8) (n := 0) dX10_mornings_158 rfl rfl ?_
      obtain ⟨v34, e35, h⟩ := bi_inv h
      refine J_callV (pc' := 163) (as := [.int (((((((((x3 * (1103515245 : Int64)) + (12345 : Int64)) - ((x3 * (1103515245 : Int64)) + (12345 : Int64)) / (2147483648 : Int64) * (2147483648 : Int64)) * (1103515245 : Int64)) + (12345 : Int64)) - (((((x3 * (1103515245 : Int64)) + (12345 : Int64)) - ((x3 * (1103515245 : Int64)) + (12345 : Int64)) / (2147483648 : Int64) * (2147483648 : Int64)) * (1103515245 : Int64)) + (12345 : Int64)) / (2147483648 : Int64) * (2147483648 : Int64)) / (65536 : Int64)) - (((((((x3 * (1103515245 : Int64)) + (12345 : Int64)) - ((x3 * (1103515245 : Int64)) + (12345 : Int64)) / (2147483648 : Int64) * (2147483648 : Int64)) * (1103515245 : Int64)) + (12345 : Int64)) - (((((x3 * (1103515245 : Int64)) + (12345 : Int64)) - ((x3 * (1103515245 : Int64)) + (12345 : Int64)) / (2147483648 : Int64) * (2147483648 : Int64)) * (1103515245 : Int64)) + (12345 : Int64)) / (2147483648 : Int64) * (2147483648 : Int64)) / (65536 : Int64)) / (4 : Int64) * (4 : Int64))).toInt32]) (rest := [.int (v32).toInt32, .ref 40]) dX10_mornings_160 rfl lk_X10_101 rfl 10 (by decide) rfl (m_o hs) (m_n hs (Nat.le_of_ble_eq_true rfl)) (c_X10_isOpen hs e35) ⟨Nat.le_of_ble_eq_true rfl, Nat.le_of_ble_eq_true rfl⟩ (Nat.le_of_ble_eq_true rfl) ⟨Nat.le_of_ble_eq_true rfl, Nat.le_of_ble_eq_true rfl⟩ (j_kq ?_)
      refine J_join (C := fun (v37 : Int32) => JT_X10_mornings l G r 178 [(0, .ref 35), (2, .int x2), (3, .long ((((((x3 * (1103515245 : Int64)) + (12345 : Int64)) - ((x3 * (1103515245 : Int64)) + (12345 : Int64)) / (2147483648 : Int64) * (2147483648 : Int64)) * (1103515245 : Int64)) + (12345 : Int64)) - (((((x3 * (1103515245 : Int64)) + (12345 : Int64)) - ((x3 * (1103515245 : Int64)) + (12345 : Int64)) / (2147483648 : Int64) * (2147483648 : Int64)) * (1103515245 : Int64)) + (12345 : Int64)) / (2147483648 : Int64) * (2147483648 : Int64))), (5, .int x5), (6, .int x6)] [.int v37, .int (v32).toInt32, .ref 40] M) h (fun v37 h => ?_) (fun K38 h39 h => ?_)
      · obtain ⟨M40, e41, h⟩ := w_i_inv h
        have g42 : sh_m M40.2.2 := j_shI e41.2 hs
        refine J_iaste (pc' := 179) dX10_mornings_178 rfl (m_s40 hs) (m_n hs (Nat.le_of_ble_eq_true rfl)) e41 ?_
        refine J_iload (pc' := 181) (i := 5) (n := 3) dX10_mornings_179 rfl rfl ?_
        refine J_aload_n (pc' := 182) (i := 0) (n := 0) dX10_mornings_181 rfl rfl rfl ?_
        refine J_getR (pc' := 185) (b := 36) dX10_mornings_182 rfl fl_X10_7 rfl (m_o g42) (m_n g42 (Nat.le_of_ble_eq_true rfl)) (m_r0 g42) ?_
        refine J_iconst (pc' := 186) (v := (1 : Int32)) dX10_mornings_185 rfl ic_1 ?_
        obtain ⟨v43, e44, h⟩ := a_i_inv h
        refine J_ialde (pc' := 187) dX10_mornings_186 rfl (m_s36 g42) (m_n g42 (Nat.le_of_ble_eq_true rfl)) e44 ?_
        refine J_iload (pc' := 189) (i := 6) (n := 4) dX10_mornings_187 rfl rfl ?_
        refine J_iadd (pc' := 190) dX10_mornings_189 rfl ?_
        refine J_sipush (pc' := 193) (v := (999 : Int32)) dX10_mornings_190 rfl sp_999 ?_
        refine J_icmp_ge (pc' := 196) (tgt := 203) dX10_mornings_193 rfl (by decide) (fun c45 => ?_) (fun c45 => ?_)
        · replace h := j_ip c45 h
          refine J_iconst (pc' := 204) (v := (0 : Int32)) dX10_mornings_203 rfl ic_0 ?_
          refine J_iadd (pc' := 205) dX10_mornings_204 rfl ?_
          refine J_istore (pc' := 207) (i := 5) (lv' := [(5, .int (x5 + (0 : Int32))), (0, .ref 35), (2, .int x2), (3, .long ((((((x3 * (1103515245 : Int64)) + (12345 : Int64)) - ((x3 * (1103515245 : Int64)) + (12345 : Int64)) / (2147483648 : Int64) * (2147483648 : Int64)) * (1103515245 : Int64)) + (12345 : Int64)) - (((((x3 * (1103515245 : Int64)) + (12345 : Int64)) - ((x3 * (1103515245 : Int64)) + (12345 : Int64)) / (2147483648 : Int64) * (2147483648 : Int64)) * (1103515245 : Int64)) + (12345 : Int64)) / (2147483648 : Int64) * (2147483648 : Int64))), (6, .int x6)]) dX10_mornings_205 rfl (by decide) rfl ?_
          refine J_iinc (pc' := 210) (i := 6) (n := 4) (v := (x6 + (1 : Int32))) (lv' := [(6, .int (x6 + (1 : Int32))), (5, .int (x5 + (0 : Int32))), (0, .ref 35), (2, .int x2), (3, .long ((((((x3 * (1103515245 : Int64)) + (12345 : Int64)) - ((x3 * (1103515245 : Int64)) + (12345 : Int64)) / (2147483648 : Int64) * (2147483648 : Int64)) * (1103515245 : Int64)) + (12345 : Int64)) - (((((x3 * (1103515245 : Int64)) + (12345 : Int64)) - ((x3 * (1103515245 : Int64)) + (12345 : Int64)) / (2147483648 : Int64) * (2147483648 : Int64)) * (1103515245 : Int64)) + (12345 : Int64)) / (2147483648 : Int64) * (2147483648 : Int64)))]) dX10_mornings_207 rfl rfl (j_inc _ _ rfl _) (by decide) rfl ?_
          refine J_goto (pc' := 91) dX10_mornings_210 (by decide) ?_
          refine J_sub [2, 3, 4, 1, 0] (lv' := [(0, .ref 35), (2, .int x2), (3, .long ((((((x3 * (1103515245 : Int64)) + (12345 : Int64)) - ((x3 * (1103515245 : Int64)) + (12345 : Int64)) / (2147483648 : Int64) * (2147483648 : Int64)) * (1103515245 : Int64)) + (12345 : Int64)) - (((((x3 * (1103515245 : Int64)) + (12345 : Int64)) - ((x3 * (1103515245 : Int64)) + (12345 : Int64)) / (2147483648 : Int64) * (2147483648 : Int64)) * (1103515245 : Int64)) + (12345 : Int64)) / (2147483648 : Int64) * (2147483648 : Int64))), (5, .int (x5 + (0 : Int32))), (6, .int (x6 + (1 : Int32)))]) rfl ?_
          exact ih g42 h hK
        · replace h := j_iq c45 h
          refine J_aload_n (pc' := 197) (i := 0) (n := 0) dX10_mornings_196 rfl rfl rfl ?_
          obtain ⟨q46, e47, h⟩ := bi_inv h
          obtain ⟨c48, h⟩ := j_ck_inv h
          refine J_callV (pc' := 200) (as := []) (rest := [.int x5]) dX10_mornings_197 rfl lk_X10_225 rfl 10 (by decide) rfl (m_o g42) (m_n g42 (Nat.le_of_ble_eq_true rfl)) (c_X10_goMinute g42 e47) ⟨Nat.le_of_ble_eq_true rfl, Nat.le_of_ble_eq_true rfl⟩ (Nat.le_of_ble_eq_true rfl) ⟨Nat.le_of_ble_eq_true rfl, Nat.le_of_ble_eq_true rfl⟩ (j_kq ?_)
          have g49 : sh_m q46.2.2.2 := j_shE c48 g42
          refine J_goto (pc' := 204) dX10_mornings_200 (by decide) ?_
          refine J_iadd (pc' := 205) dX10_mornings_204 rfl ?_
          refine J_istore (pc' := 207) (i := 5) (lv' := [(5, .int (x5 + q46.1)), (0, .ref 35), (2, .int x2), (3, .long ((((((x3 * (1103515245 : Int64)) + (12345 : Int64)) - ((x3 * (1103515245 : Int64)) + (12345 : Int64)) / (2147483648 : Int64) * (2147483648 : Int64)) * (1103515245 : Int64)) + (12345 : Int64)) - (((((x3 * (1103515245 : Int64)) + (12345 : Int64)) - ((x3 * (1103515245 : Int64)) + (12345 : Int64)) / (2147483648 : Int64) * (2147483648 : Int64)) * (1103515245 : Int64)) + (12345 : Int64)) / (2147483648 : Int64) * (2147483648 : Int64))), (6, .int x6)]) dX10_mornings_205 rfl (by decide) rfl ?_
          refine J_iinc (pc' := 210) (i := 6) (n := 4) (v := (x6 + (1 : Int32))) (lv' := [(6, .int (x6 + (1 : Int32))), (5, .int (x5 + q46.1)), (0, .ref 35), (2, .int x2), (3, .long ((((((x3 * (1103515245 : Int64)) + (12345 : Int64)) - ((x3 * (1103515245 : Int64)) + (12345 : Int64)) / (2147483648 : Int64) * (2147483648 : Int64)) * (1103515245 : Int64)) + (12345 : Int64)) - (((((x3 * (1103515245 : Int64)) + (12345 : Int64)) - ((x3 * (1103515245 : Int64)) + (12345 : Int64)) / (2147483648 : Int64) * (2147483648 : Int64)) * (1103515245 : Int64)) + (12345 : Int64)) / (2147483648 : Int64) * (2147483648 : Int64)))]) dX10_mornings_207 rfl rfl (j_inc _ _ rfl _) (by decide) rfl ?_
          refine J_goto (pc' := 91) dX10_mornings_210 (by decide) ?_
          refine J_sub [2, 3, 4, 1, 0] (lv' := [(0, .ref 35), (2, .int x2), (3, .long ((((((x3 * (1103515245 : Int64)) + (12345 : Int64)) - ((x3 * (1103515245 : Int64)) + (12345 : Int64)) / (2147483648 : Int64) * (2147483648 : Int64)) * (1103515245 : Int64)) + (12345 : Int64)) - (((((x3 * (1103515245 : Int64)) + (12345 : Int64)) - ((x3 * (1103515245 : Int64)) + (12345 : Int64)) / (2147483648 : Int64) * (2147483648 : Int64)) * (1103515245 : Int64)) + (12345 : Int64)) / (2147483648 : Int64) * (2147483648 : Int64))), (5, .int (x5 + q46.1)), (6, .int (x6 + (1 : Int32)))]) rfl ?_
          exact ih g49 h hK
      · refine J_if_eq (pc' := 166) (tgt := 171) dX10_mornings_163 rfl (by decide) (fun c36 => ?_) (fun c36 => ?_)
        · replace h := j_ip c36 h
          refine J_aload_n (pc' := 172) (i := 0) (n := 3) dX10_mornings_171 rfl rfl rfl ?_
          refine J_getR (pc' := 175) (b := 40) dX10_mornings_172 rfl fl_X10_27 rfl (m_o hs) (m_n hs (Nat.le_of_ble_eq_true rfl)) (m_r6 hs) ?_
          refine J_iload (pc' := 177) (i := 7) (n := 2) dX10_mornings_175 rfl rfl ?_
          obtain ⟨v50, e51, h⟩ := a_i_inv h
          refine J_ialde (pc' := 178) dX10_mornings_177 rfl (m_s40 hs) (m_n hs (Nat.le_of_ble_eq_true rfl)) e51 ?_
          refine J_sub [3, 4, 1, 5, 6] (lv' := [(0, .ref 35), (2, .int x2), (3, .long ((((((x3 * (1103515245 : Int64)) + (12345 : Int64)) - ((x3 * (1103515245 : Int64)) + (12345 : Int64)) / (2147483648 : Int64) * (2147483648 : Int64)) * (1103515245 : Int64)) + (12345 : Int64)) - (((((x3 * (1103515245 : Int64)) + (12345 : Int64)) - ((x3 * (1103515245 : Int64)) + (12345 : Int64)) / (2147483648 : Int64) * (2147483648 : Int64)) * (1103515245 : Int64)) + (12345 : Int64)) / (2147483648 : Int64) * (2147483648 : Int64))), (5, .int x5), (6, .int x6)]) rfl ?_
          exact h39 v50 h
        · replace h := j_iq c36 h
          refine J_iload (pc' := 168) (i := 8) (n := 0) dX10_mornings_166 rfl rfl ?_
          refine J_goto (pc' := 178) dX10_mornings_168 (by decide) ?_
          refine J_sub [3, 4, 1, 5, 6] (lv' := [(0, .ref 35), (2, .int x2), (3, .long ((((((x3 * (1103515245 : Int64)) + (12345 : Int64)) - ((x3 * (1103515245 : Int64)) + (12345 : Int64)) / (2147483648 : Int64) * (2147483648 : Int64)) * (1103515245 : Int64)) + (12345 : Int64)) - (((((x3 * (1103515245 : Int64)) + (12345 : Int64)) - ((x3 * (1103515245 : Int64)) + (12345 : Int64)) / (2147483648 : Int64) * (2147483648 : Int64)) * (1103515245 : Int64)) + (12345 : Int64)) / (2147483648 : Int64) * (2147483648 : Int64))), (5, .int x5), (6, .int x6)]) rfl ?_
          exact h39 (((((((((x3 * (1103515245 : Int64)) + (12345 : Int64)) - ((x3 * (1103515245 : Int64)) + (12345 : Int64)) / (2147483648 : Int64) * (2147483648 : Int64)) * (1103515245 : Int64)) + (12345 : Int64)) - (((((x3 * (1103515245 : Int64)) + (12345 : Int64)) - ((x3 * (1103515245 : Int64)) + (12345 : Int64)) / (2147483648 : Int64) * (2147483648 : Int64)) * (1103515245 : Int64)) + (12345 : Int64)) / (2147483648 : Int64) * (2147483648 : Int64)) / (65536 : Int64)) - (((((((x3 * (1103515245 : Int64)) + (12345 : Int64)) - ((x3 * (1103515245 : Int64)) + (12345 : Int64)) / (2147483648 : Int64) * (2147483648 : Int64)) * (1103515245 : Int64)) + (12345 : Int64)) - (((((x3 * (1103515245 : Int64)) + (12345 : Int64)) - ((x3 * (1103515245 : Int64)) + (12345 : Int64)) / (2147483648 : Int64) * (2147483648 : Int64)) * (1103515245 : Int64)) + (12345 : Int64)) / (2147483648 : Int64) * (2147483648 : Int64)) / (65536 : Int64)) / (4 : Int64) * (4 : Int64))).toInt32 h
set_option maxHeartbeats 4000000 in
theorem c_X10_mornings {l : Launch} {G : j_G} {M : j_M} {x1 : Int32} {x2 : Int32} (hs : sh_m M.2.2) {r : (Int32 × j_M)} (h : f_X10_mornings M x1 x2 = some r) : j_Sp l G md_X10_mornings 5 (0, 0) [.ref 35, .int x1, .int x2] M (po (some (.int r.1)) r.2) := by
  refine j_Sp.of (by decide) (Nat.le_of_ble_eq_true rfl) ?_
  show JT_X10_mornings l G r 0 [(0, .ref 35), (1, .int x1), (2, .int x2)] [] M
  unfold f_X10_mornings at h
  refine J_iload_n (pc' := 1) (i := 1) (n := 1) dX10_mornings_0 rfl rfl rfl ?_
  refine J_i2l (pc' := 2) dX10_mornings_1 rfl ?_
  refine J_lconst (pc' := 3) (v := (0 : Int64)) dX10_mornings_2 rfl rfl ?_
  refine J_ldc2 (pc' := 6) (v := (999999 : Int64)) dX10_mornings_3 rfl wd_1213 ?_
  obtain ⟨v1, e2, h⟩ := tl_inv h
  refine J_callS (pc' := 9) (as := [.long (x1).toInt64, .long (0 : Int64), .long (999999 : Int64)]) (rest := []) dX10_mornings_6 rfl lk_X10_68 rfl (c_X10_in e2) ⟨Nat.le_of_ble_eq_true rfl, Nat.le_of_ble_eq_true rfl⟩ (Nat.le_of_ble_eq_true rfl) ⟨Nat.le_of_ble_eq_true rfl, Nat.le_of_ble_eq_true rfl⟩ (j_kq ?_)
  refine J_if_eq (pc' := 12) (tgt := 24) dX10_mornings_9 rfl (by decide) (fun c3 => ?_) (fun c3 => ?_)
  · replace h := j_ip c3 h
    refine J_aload_n (pc' := 25) (i := 0) (n := 0) dX10_mornings_24 rfl rfl rfl ?_
    refine J_bipush (pc' := 27) (v := ((-2) : Int32)) dX10_mornings_25 rfl bp_m2 ?_
    obtain ⟨q4, e5, h⟩ := bi_inv h
    obtain ⟨c6, h⟩ := j_ck_inv h
    refine J_callV (pc' := 30) (as := [.int ((-2) : Int32)]) (rest := []) dX10_mornings_27 rfl lk_X10_84 rfl 10 (by decide) rfl (m_o hs) (m_n hs (Nat.le_of_ble_eq_true rfl)) (c_X10_bad hs e5) ⟨Nat.le_of_ble_eq_true rfl, Nat.le_of_ble_eq_true rfl⟩ (Nat.le_of_ble_eq_true rfl) ⟨Nat.le_of_ble_eq_true rfl, Nat.le_of_ble_eq_true rfl⟩ (j_kq ?_)
    have g7 : sh_m q4.2.2.2 := j_shE c6 hs
    exact J_iret rfl dX10_mornings_30 ⟨rfl, Nat.le_refl _⟩ (j_pW h)
  · replace h := j_iq c3 h
    refine J_iload_n (pc' := 13) (i := 2) (n := 2) dX10_mornings_12 rfl rfl rfl ?_
    refine J_i2l (pc' := 14) dX10_mornings_13 rfl ?_
    refine J_lconst (pc' := 15) (v := (0 : Int64)) dX10_mornings_14 rfl rfl ?_
    refine J_ldc2 (pc' := 18) (v := (60 : Int64)) dX10_mornings_15 rfl wd_1050 ?_
    obtain ⟨v8, e9, h⟩ := tl_inv h
    refine J_callS (pc' := 21) (as := [.long (x2).toInt64, .long (0 : Int64), .long (60 : Int64)]) (rest := []) dX10_mornings_18 rfl lk_X10_68 rfl (c_X10_in e9) ⟨Nat.le_of_ble_eq_true rfl, Nat.le_of_ble_eq_true rfl⟩ (Nat.le_of_ble_eq_true rfl) ⟨Nat.le_of_ble_eq_true rfl, Nat.le_of_ble_eq_true rfl⟩ (j_kq ?_)
    refine J_if_ne (pc' := 24) (tgt := 31) dX10_mornings_21 rfl (by decide) (fun c10 => ?_) (fun c10 => ?_)
    · replace h := j_iq c10 h
      refine J_aload_n (pc' := 32) (i := 0) (n := 0) dX10_mornings_31 rfl rfl rfl ?_
      obtain ⟨v11, e12, h⟩ := bi_inv h
      refine J_callV (pc' := 35) (as := []) (rest := []) dX10_mornings_32 rfl lk_X10_64 rfl 10 (by decide) rfl (m_o hs) (m_n hs (Nat.le_of_ble_eq_true rfl)) (c_X10_many hs e12) ⟨Nat.le_of_ble_eq_true rfl, Nat.le_of_ble_eq_true rfl⟩ (Nat.le_of_ble_eq_true rfl) ⟨Nat.le_of_ble_eq_true rfl, Nat.le_of_ble_eq_true rfl⟩ (j_kq ?_)
      refine J_if_ne (pc' := 38) (tgt := 43) dX10_mornings_35 rfl (by decide) (fun c13 => ?_) (fun c13 => ?_)
      · replace h := j_iq c13 h
        refine J_iload_n (pc' := 44) (i := 1) (n := 1) dX10_mornings_43 rfl rfl rfl ?_
        refine J_i2l (pc' := 45) dX10_mornings_44 rfl ?_
        refine J_lstore_n (pc' := 46) (i := 3) (lv' := [(3, .long (x1).toInt64), (0, .ref 35), (1, .int x1), (2, .int x2)]) dX10_mornings_45 rfl rfl (by decide) rfl ?_
        refine J_iconst (pc' := 47) (v := (0 : Int32)) dX10_mornings_46 rfl ic_0 ?_
        refine J_istore (pc' := 49) (i := 5) (lv' := [(5, .int (0 : Int32)), (3, .long (x1).toInt64), (0, .ref 35), (1, .int x1), (2, .int x2)]) dX10_mornings_47 rfl (by decide) rfl ?_
        refine J_aload_n (pc' := 50) (i := 0) (n := 2) dX10_mornings_49 rfl rfl rfl ?_
        obtain ⟨q14, e15, h⟩ := bi_inv h
        obtain ⟨c16, h⟩ := j_ck_inv h
        refine J_callV (pc' := 53) (as := []) (rest := []) dX10_mornings_50 rfl lk_X10_140 rfl 10 (by decide) rfl (m_o hs) (m_n hs (Nat.le_of_ble_eq_true rfl)) (c_X10_layHand hs e15) ⟨Nat.le_of_ble_eq_true rfl, Nat.le_of_ble_eq_true rfl⟩ (Nat.le_of_ble_eq_true rfl) ⟨Nat.le_of_ble_eq_true rfl, Nat.le_of_ble_eq_true rfl⟩ (j_kv ?_)
        have g17 : sh_m q14.2.2 := j_shE c16 hs
        refine J_iconst (pc' := 54) (v := (0 : Int32)) dX10_mornings_53 rfl ic_0 ?_
        refine J_istore (pc' := 56) (i := 6) (lv' := [(6, .int (0 : Int32)), (5, .int (0 : Int32)), (3, .long (x1).toInt64), (0, .ref 35), (1, .int x1), (2, .int x2)]) dX10_mornings_54 rfl (by decide) rfl ?_
        refine J_sub [3, 5, 2, 1, 0] (lv' := [(0, .ref 35), (2, .int x2), (3, .long (x1).toInt64), (5, .int (0 : Int32)), (6, .int (0 : Int32))]) rfl ?_
        refine L_X10_mornings_L56 j_fu g17 h (fun y26 M27 g28 h => ?_)
        refine J_iconst (pc' := 89) (v := (0 : Int32)) dX10_mornings_88 rfl ic_0 ?_
        refine J_istore (pc' := 91) (i := 6) (lv' := [(6, .int (0 : Int32)), (0, .ref 35), (2, .int x2), (3, .long (x1).toInt64), (5, .int (0 : Int32))]) dX10_mornings_89 rfl (by decide) rfl ?_
        refine J_sub [1, 2, 3, 4, 0] (lv' := [(0, .ref 35), (2, .int x2), (3, .long (x1).toInt64), (5, .int (0 : Int32)), (6, .int (0 : Int32))]) rfl ?_
        refine L_X10_mornings_L91 j_fu g28 h (fun y52 y53 y54 M55 g56 h => ?_)
        refine J_iload (pc' := 215) (i := 5) (n := 0) dX10_mornings_213 rfl rfl ?_
        exact J_iret rfl dX10_mornings_215 ⟨rfl, Nat.le_refl _⟩ (j_pW h)
      · replace h := j_ip c13 h
        refine J_aload_n (pc' := 39) (i := 0) (n := 0) dX10_mornings_38 rfl rfl rfl ?_
        obtain ⟨q57, e58, h⟩ := bi_inv h
        obtain ⟨c59, h⟩ := j_ck_inv h
        refine J_callV (pc' := 42) (as := []) (rest := []) dX10_mornings_39 rfl lk_X10_92 rfl 10 (by decide) rfl (m_o hs) (m_n hs (Nat.le_of_ble_eq_true rfl)) (c_X10_no hs e58) ⟨Nat.le_of_ble_eq_true rfl, Nat.le_of_ble_eq_true rfl⟩ (Nat.le_of_ble_eq_true rfl) ⟨Nat.le_of_ble_eq_true rfl, Nat.le_of_ble_eq_true rfl⟩ (j_kq ?_)
        have g60 : sh_m q57.2.2.2 := j_shE c59 hs
        exact J_iret rfl dX10_mornings_42 ⟨rfl, Nat.le_refl _⟩ (j_pW h)
    · replace h := j_ip c10 h
      refine J_aload_n (pc' := 25) (i := 0) (n := 0) dX10_mornings_24 rfl rfl rfl ?_
      refine J_bipush (pc' := 27) (v := ((-2) : Int32)) dX10_mornings_25 rfl bp_m2 ?_
      obtain ⟨q61, e62, h⟩ := bi_inv h
      obtain ⟨c63, h⟩ := j_ck_inv h
      refine J_callV (pc' := 30) (as := [.int ((-2) : Int32)]) (rest := []) dX10_mornings_27 rfl lk_X10_84 rfl 10 (by decide) rfl (m_o hs) (m_n hs (Nat.le_of_ble_eq_true rfl)) (c_X10_bad hs e62) ⟨Nat.le_of_ble_eq_true rfl, Nat.le_of_ble_eq_true rfl⟩ (Nat.le_of_ble_eq_true rfl) ⟨Nat.le_of_ble_eq_true rfl, Nat.le_of_ble_eq_true rfl⟩ (j_kq ?_)
      have g64 : sh_m q61.2.2.2 := j_shE c63 hs
      exact J_iret rfl dX10_mornings_30 ⟨rfl, Nat.le_refl _⟩ (j_pW h)
