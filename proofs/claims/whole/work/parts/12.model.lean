abbrev JT_X10_all (l : Launch) (G : j_G) (r : (Int32 × j_M)) : Nat → List (Nat × Value) → List Value → j_M → Prop := JJ l G md_X10_all (j_rm 5 (0, 0)) (0, 0) (0, 0) (po (some (.int r.1)) r.2)
noncomputable def f_X10_all_L64 : Nat → j_M → Int32 → Int32 → Int32 → Int32 → Int32 → (Int32 → j_M → Option (Int32 × j_M)) → Option (Int32 × j_M)
  | 0, _, _, _, _, _, _, _ => none
  | n + 1, M, x1, x2, x3, x4, x5, K =>
    (f_X10_many M).bind fun v19 => (if v19 ≤ x5 then (K x5 M) else (if x2 ≤ x4 then (K x5 M) else (a_i M 40 7 x5 fun v23 => (w_i M 41 7 x5 v23 fun M25 => (f_X10_all_L64 n  M25 x1 x2 x3 x4 (x5 + (1 : Int32)) K)))))
noncomputable def f_X10_all_L30 : Nat → j_M → Int32 → Int32 → Int32 → (Int32 → Int32 → j_M → Option (Int32 × j_M)) → Option (Int32 × j_M)
  | 0, _, _, _, _, _ => none
  | n + 1, M, x1, x2, x3, K =>
    (f_X10_many M).bind fun v6 => (if ((1 : Int32) <<< (((2 : Int32) * v6) &&& 31)) ≤ x3 then (K x2 x3 M) else ((f_X10_layLies M x3).bind fun q9 => j_ck M q9.2 (jn2 (fun (v14 : Int32) (M15 : j_M) => (f_X10_all_L64 j_fu  M15 x1 x2 x3 v14 (0 : Int32) (fun (y28 : Int32) (M29 : j_M) => (if x2 ≤ v14 then (f_X10_all_L30 n  M29 x1 x2 (x3 + (1 : Int32)) K) else (f_X10_all_L30 n  M29 x1 v14 (x3 + (1 : Int32)) K))))) (fun K16 => (if q9.1 = 0 then (K16 (1000000 : Int32) q9.2) else ((f_X10_sumAll q9.2).bind fun q32 => j_ck q9.2 q32.2 (K16 q32.1 q32.2)))))))
noncomputable def f_X10_all (M : j_M) (x1 : Int32) : Option (Int32 × j_M) :=
  (f_X10_many M).bind fun v1 => (tl (f_X10_in (x1).toInt64 ((-1) : Int64) ((v1 - (1 : Int32))).toInt64) fun v3 => (if v3 = 0 then ((f_X10_bad M ((-10) : Int32)).bind fun q43 => j_ck M q43.2 (some (q43.1, q43.2))) else (f_X10_all_L30 j_fu  M x1 (1000000 : Int32) (0 : Int32) (fun (y36 : Int32) (y37 : Int32) (M38 : j_M) => (if x1 = ((-1) : Int32) then (some (y36, M38)) else (a_i M38 41 7 x1 fun v41 => (some (v41, M38))))))))
set_option maxHeartbeats 4000000 in
theorem L_X10_all_L64 {l : Launch} {G : j_G}  {r : (Int32 × j_M)} : ∀ (n : Nat) {x1 : Int32} {x2 : Int32} {x3 : Int32} {x4 : Int32} {x5 : Int32} {M : j_M} (hs : sh_m M.2.2) {K : Int32 → j_M → Option (Int32 × j_M)}, f_X10_all_L64 n  M x1 x2 x3 x4 x5 K = some r → (∀ (y5 : Int32) (M1 : j_M), sh_m M1.2.2 → K y5 M1 = some r → JT_X10_all l G r 99 [(0, .ref 35), (1, .int x1), (2, .int x2), (3, .int x3), (4, .int x4)] [] M1) → JT_X10_all l G r 64 [(0, .ref 35), (1, .int x1), (2, .int x2), (3, .int x3), (4, .int x4), (5, .int x5)] [] M := by
  intro n
  induction n with
  | zero =>
    intro x1 x2 x3 x4 x5 M hs K h hK
    rw [f_X10_all_L64] at h; cases h
  | succ n ih =>
    intro x1 x2 x3 x4 x5 M hs K h hK
    rw [f_X10_all_L64] at h
    refine J_iload (pc' := 66) (i := 5) (n := 5) dX10_all_64 rfl rfl ?_
    refine J_aload_n (pc' := 67) (i := 0) (n := 0) dX10_all_66 rfl rfl rfl ?_
    obtain ⟨v19, e20, h⟩ := bi_inv h
    refine J_callV (pc' := 70) (as := []) (rest := [.int x5]) dX10_all_67 rfl lk_X10_64 rfl 10 (by decide) rfl (m_o hs) (m_n hs (Nat.le_of_ble_eq_true rfl)) (c_X10_many hs e20) ⟨Nat.le_of_ble_eq_true rfl, Nat.le_of_ble_eq_true rfl⟩ (Nat.le_of_ble_eq_true rfl) ⟨Nat.le_of_ble_eq_true rfl, Nat.le_of_ble_eq_true rfl⟩ (j_kq ?_)
    refine J_icmp_ge (pc' := 73) (tgt := 99) dX10_all_70 rfl (by decide) (fun c21 => ?_) (fun c21 => ?_)
    · replace h := j_ip c21 h
      refine J_sub [0, 1, 2, 3, 4] (lv' := [(0, .ref 35), (1, .int x1), (2, .int x2), (3, .int x3), (4, .int x4)]) rfl ?_
      exact hK x5 M hs h
    · replace h := j_iq c21 h
      refine J_iload (pc' := 75) (i := 4) (n := 4) dX10_all_73 rfl rfl ?_
      refine J_iload_n (pc' := 76) (i := 2) (n := 2) dX10_all_75 rfl rfl rfl ?_
      refine J_icmp_ge (pc' := 79) (tgt := 99) dX10_all_76 rfl (by decide) (fun c22 => ?_) (fun c22 => ?_)
      · replace h := j_ip c22 h
        refine J_sub [0, 1, 2, 3, 4] (lv' := [(0, .ref 35), (1, .int x1), (2, .int x2), (3, .int x3), (4, .int x4)]) rfl ?_
        exact hK x5 M hs h
      · replace h := j_iq c22 h
        refine J_aload_n (pc' := 80) (i := 0) (n := 0) dX10_all_79 rfl rfl rfl ?_
        refine J_getR (pc' := 83) (b := 41) dX10_all_80 rfl fl_X10_30 rfl (m_o hs) (m_n hs (Nat.le_of_ble_eq_true rfl)) (m_r10 hs) ?_
        refine J_iload (pc' := 85) (i := 5) (n := 5) dX10_all_83 rfl rfl ?_
        refine J_aload_n (pc' := 86) (i := 0) (n := 0) dX10_all_85 rfl rfl rfl ?_
        refine J_getR (pc' := 89) (b := 40) dX10_all_86 rfl fl_X10_27 rfl (m_o hs) (m_n hs (Nat.le_of_ble_eq_true rfl)) (m_r6 hs) ?_
        refine J_iload (pc' := 91) (i := 5) (n := 5) dX10_all_89 rfl rfl ?_
        obtain ⟨v23, e24, h⟩ := a_i_inv h
        refine J_ialde (pc' := 92) dX10_all_91 rfl (m_s40 hs) (m_n hs (Nat.le_of_ble_eq_true rfl)) e24 ?_
        obtain ⟨M25, e26, h⟩ := w_i_inv h
        have g27 : sh_m M25.2.2 := j_shI e26.2 hs
        refine J_iaste (pc' := 93) dX10_all_92 rfl (m_s41 hs) (m_n hs (Nat.le_of_ble_eq_true rfl)) e26 ?_
        refine J_iinc (pc' := 96) (i := 5) (n := 5) (v := (x5 + (1 : Int32))) (lv' := [(5, .int (x5 + (1 : Int32))), (0, .ref 35), (1, .int x1), (2, .int x2), (3, .int x3), (4, .int x4)]) dX10_all_93 rfl rfl (j_inc _ _ rfl _) (by decide) rfl ?_
        refine J_goto (pc' := 64) dX10_all_96 (by decide) ?_
        refine J_sub [1, 2, 3, 4, 5, 0] (lv' := [(0, .ref 35), (1, .int x1), (2, .int x2), (3, .int x3), (4, .int x4), (5, .int (x5 + (1 : Int32)))]) rfl ?_
        exact ih g27 h hK
set_option maxHeartbeats 4000000 in
theorem L_X10_all_L30 {l : Launch} {G : j_G}  {r : (Int32 × j_M)} : ∀ (n : Nat) {x1 : Int32} {x2 : Int32} {x3 : Int32} {M : j_M} (hs : sh_m M.2.2) {K : Int32 → Int32 → j_M → Option (Int32 × j_M)}, f_X10_all_L30 n  M x1 x2 x3 K = some r → (∀ (y2 : Int32) (y3 : Int32) (M1 : j_M), sh_m M1.2.2 → K y2 y3 M1 = some r → JT_X10_all l G r 118 [(0, .ref 35), (1, .int x1), (2, .int y2)] [] M1) → JT_X10_all l G r 30 [(0, .ref 35), (1, .int x1), (2, .int x2), (3, .int x3)] [] M := by
  intro n
  induction n with
  | zero =>
    intro x1 x2 x3 M hs K h hK
    rw [f_X10_all_L30] at h; cases h
  | succ n ih =>
    intro x1 x2 x3 M hs K h hK
    rw [f_X10_all_L30] at h
    refine J_iload_n (pc' := 31) (i := 3) (n := 3) dX10_all_30 rfl rfl rfl ?_
    refine J_iconst (pc' := 32) (v := (1 : Int32)) dX10_all_31 rfl ic_1 ?_
    refine J_iconst (pc' := 33) (v := (2 : Int32)) dX10_all_32 rfl ic_2 ?_
    refine J_aload_n (pc' := 34) (i := 0) (n := 0) dX10_all_33 rfl rfl rfl ?_
    obtain ⟨v6, e7, h⟩ := bi_inv h
    refine J_callV (pc' := 37) (as := []) (rest := [.int (2 : Int32), .int (1 : Int32), .int x3]) dX10_all_34 rfl lk_X10_64 rfl 10 (by decide) rfl (m_o hs) (m_n hs (Nat.le_of_ble_eq_true rfl)) (c_X10_many hs e7) ⟨Nat.le_of_ble_eq_true rfl, Nat.le_of_ble_eq_true rfl⟩ (Nat.le_of_ble_eq_true rfl) ⟨Nat.le_of_ble_eq_true rfl, Nat.le_of_ble_eq_true rfl⟩ (j_kq ?_)
    refine J_imul (pc' := 38) dX10_all_37 rfl ?_
    refine J_ishl (pc' := 39) dX10_all_38 rfl ?_
    refine J_icmp_ge (pc' := 42) (tgt := 118) dX10_all_39 rfl (by decide) (fun c8 => ?_) (fun c8 => ?_)
    · replace h := j_ip c8 h
      refine J_sub [0, 1, 2] (lv' := [(0, .ref 35), (1, .int x1), (2, .int x2)]) rfl ?_
      exact hK x2 x3 M hs h
    · replace h := j_iq c8 h
      refine J_aload_n (pc' := 43) (i := 0) (n := 0) dX10_all_42 rfl rfl rfl ?_
      refine J_iload_n (pc' := 44) (i := 3) (n := 3) dX10_all_43 rfl rfl rfl ?_
      obtain ⟨q9, e10, h⟩ := bi_inv h
      obtain ⟨c11, h⟩ := j_ck_inv h
      refine J_callV (pc' := 47) (as := [.int x3]) (rest := []) dX10_all_44 rfl lk_X10_165 rfl 10 (by decide) rfl (m_o hs) (m_n hs (Nat.le_of_ble_eq_true rfl)) (c_X10_layLies hs e10) ⟨Nat.le_of_ble_eq_true rfl, Nat.le_of_ble_eq_true rfl⟩ (Nat.le_of_ble_eq_true rfl) ⟨Nat.le_of_ble_eq_true rfl, Nat.le_of_ble_eq_true rfl⟩ (j_kq ?_)
      have g12 : sh_m q9.2.2.2 := j_shE c11 hs
      refine J_join2 (C := fun (v14 : Int32) (M15 : j_M) => sh_m M15.2.2 → JT_X10_all l G r 59 [(0, .ref 35), (1, .int x1), (2, .int x2), (3, .int x3)] [.int v14] M15) h (fun v14 M15 h => ?_) (fun K16 h17 h => ?_)
      · intro g18
        refine J_istore (pc' := 61) (i := 4) (lv' := [(4, .int v14), (0, .ref 35), (1, .int x1), (2, .int x2), (3, .int x3)]) dX10_all_59 rfl (by decide) rfl ?_
        refine J_iconst (pc' := 62) (v := (0 : Int32)) dX10_all_61 rfl ic_0 ?_
        refine J_istore (pc' := 64) (i := 5) (lv' := [(5, .int (0 : Int32)), (4, .int v14), (0, .ref 35), (1, .int x1), (2, .int x2), (3, .int x3)]) dX10_all_62 rfl (by decide) rfl ?_
        refine J_sub [2, 3, 4, 5, 1, 0] (lv' := [(0, .ref 35), (1, .int x1), (2, .int x2), (3, .int x3), (4, .int v14), (5, .int (0 : Int32))]) rfl ?_
        refine L_X10_all_L64 j_fu g18 h (fun y28 M29 g30 h => ?_)
        refine J_iload (pc' := 101) (i := 4) (n := 4) dX10_all_99 rfl rfl ?_
        refine J_iload_n (pc' := 102) (i := 2) (n := 2) dX10_all_101 rfl rfl rfl ?_
        refine J_icmp_ge (pc' := 105) (tgt := 110) dX10_all_102 rfl (by decide) (fun c31 => ?_) (fun c31 => ?_)
        · replace h := j_ip c31 h
          refine J_iload_n (pc' := 111) (i := 2) (n := 2) dX10_all_110 rfl rfl rfl ?_
          refine J_istore_n (pc' := 112) (i := 2) (lv' := [(2, .int x2), (0, .ref 35), (1, .int x1), (3, .int x3), (4, .int v14)]) dX10_all_111 rfl rfl (by decide) rfl ?_
          refine J_iinc (pc' := 115) (i := 3) (n := 3) (v := (x3 + (1 : Int32))) (lv' := [(3, .int (x3 + (1 : Int32))), (2, .int x2), (0, .ref 35), (1, .int x1), (4, .int v14)]) dX10_all_112 rfl rfl (j_inc _ _ rfl _) (by decide) rfl ?_
          refine J_goto (pc' := 30) dX10_all_115 (by decide) ?_
          refine J_sub [2, 3, 1, 0] (lv' := [(0, .ref 35), (1, .int x1), (2, .int x2), (3, .int (x3 + (1 : Int32)))]) rfl ?_
          exact ih g30 h hK
        · replace h := j_iq c31 h
          refine J_iload (pc' := 107) (i := 4) (n := 4) dX10_all_105 rfl rfl ?_
          refine J_goto (pc' := 111) dX10_all_107 (by decide) ?_
          refine J_istore_n (pc' := 112) (i := 2) (lv' := [(2, .int v14), (0, .ref 35), (1, .int x1), (3, .int x3), (4, .int v14)]) dX10_all_111 rfl rfl (by decide) rfl ?_
          refine J_iinc (pc' := 115) (i := 3) (n := 3) (v := (x3 + (1 : Int32))) (lv' := [(3, .int (x3 + (1 : Int32))), (2, .int v14), (0, .ref 35), (1, .int x1), (4, .int v14)]) dX10_all_112 rfl rfl (j_inc _ _ rfl _) (by decide) rfl ?_
          refine J_goto (pc' := 30) dX10_all_115 (by decide) ?_
          refine J_sub [2, 3, 1, 0] (lv' := [(0, .ref 35), (1, .int x1), (2, .int v14), (3, .int (x3 + (1 : Int32)))]) rfl ?_
          exact ih g30 h hK
      · refine J_if_eq (pc' := 50) (tgt := 57) dX10_all_47 rfl (by decide) (fun c13 => ?_) (fun c13 => ?_)
        · replace h := j_ip c13 h
          refine J_ldc (pc' := 59) (v := (1000000 : Int32)) dX10_all_57 rfl wd_1101 ?_
          exact h17 (1000000 : Int32) q9.2 h g12
        · replace h := j_iq c13 h
          refine J_aload_n (pc' := 51) (i := 0) (n := 0) dX10_all_50 rfl rfl rfl ?_
          obtain ⟨q32, e33, h⟩ := bi_inv h
          obtain ⟨c34, h⟩ := j_ck_inv h
          refine J_callV (pc' := 54) (as := []) (rest := []) dX10_all_51 rfl lk_X10_168 rfl 10 (by decide) rfl (m_o g12) (m_n g12 (Nat.le_of_ble_eq_true rfl)) (c_X10_sumAll g12 e33) ⟨Nat.le_of_ble_eq_true rfl, Nat.le_of_ble_eq_true rfl⟩ (Nat.le_of_ble_eq_true rfl) ⟨Nat.le_of_ble_eq_true rfl, Nat.le_of_ble_eq_true rfl⟩ (j_kq ?_)
          have g35 : sh_m q32.2.2.2 := j_shE c34 g12
          refine J_goto (pc' := 59) dX10_all_54 (by decide) ?_
          exact h17 q32.1 q32.2 h g35
set_option maxHeartbeats 4000000 in
theorem c_X10_all {l : Launch} {G : j_G} {M : j_M} {x1 : Int32} (hs : sh_m M.2.2) {r : (Int32 × j_M)} (h : f_X10_all M x1 = some r) : j_Sp l G md_X10_all 5 (0, 0) [.ref 35, .int x1] M (po (some (.int r.1)) r.2) := by
  refine j_Sp.of (by decide) (Nat.le_of_ble_eq_true rfl) ?_
  show JT_X10_all l G r 0 [(0, .ref 35), (1, .int x1)] [] M
  unfold f_X10_all at h
  refine J_iload_n (pc' := 1) (i := 1) (n := 1) dX10_all_0 rfl rfl rfl ?_
  refine J_i2l (pc' := 2) dX10_all_1 rfl ?_
  refine J_ldc2 (pc' := 5) (v := ((-1) : Int64)) dX10_all_2 rfl wd_1129 ?_
  refine J_aload_n (pc' := 6) (i := 0) (n := 0) dX10_all_5 rfl rfl rfl ?_
  obtain ⟨v1, e2, h⟩ := bi_inv h
  refine J_callV (pc' := 9) (as := []) (rest := [.long ((-1) : Int64), .long (x1).toInt64]) dX10_all_6 rfl lk_X10_64 rfl 10 (by decide) rfl (m_o hs) (m_n hs (Nat.le_of_ble_eq_true rfl)) (c_X10_many hs e2) ⟨Nat.le_of_ble_eq_true rfl, Nat.le_of_ble_eq_true rfl⟩ (Nat.le_of_ble_eq_true rfl) ⟨Nat.le_of_ble_eq_true rfl, Nat.le_of_ble_eq_true rfl⟩ (j_kq ?_)
  refine J_iconst (pc' := 10) (v := (1 : Int32)) dX10_all_9 rfl ic_1 ?_
  refine J_isub (pc' := 11) dX10_all_10 rfl ?_
  refine J_i2l (pc' := 12) dX10_all_11 rfl ?_
  obtain ⟨v3, e4, h⟩ := tl_inv h
  refine J_callS (pc' := 15) (as := [.long (x1).toInt64, .long ((-1) : Int64), .long ((v1 - (1 : Int32))).toInt64]) (rest := []) dX10_all_12 rfl lk_X10_68 rfl (c_X10_in e4) ⟨Nat.le_of_ble_eq_true rfl, Nat.le_of_ble_eq_true rfl⟩ (Nat.le_of_ble_eq_true rfl) ⟨Nat.le_of_ble_eq_true rfl, Nat.le_of_ble_eq_true rfl⟩ (j_kq ?_)
  refine J_if_ne (pc' := 18) (tgt := 25) dX10_all_15 rfl (by decide) (fun c5 => ?_) (fun c5 => ?_)
  · replace h := j_iq c5 h
    refine J_ldc (pc' := 27) (v := (1000000 : Int32)) dX10_all_25 rfl wd_1101 ?_
    refine J_istore_n (pc' := 28) (i := 2) (lv' := [(2, .int (1000000 : Int32)), (0, .ref 35), (1, .int x1)]) dX10_all_27 rfl rfl (by decide) rfl ?_
    refine J_iconst (pc' := 29) (v := (0 : Int32)) dX10_all_28 rfl ic_0 ?_
    refine J_istore_n (pc' := 30) (i := 3) (lv' := [(3, .int (0 : Int32)), (2, .int (1000000 : Int32)), (0, .ref 35), (1, .int x1)]) dX10_all_29 rfl rfl (by decide) rfl ?_
    refine J_sub [2, 3, 1, 0] (lv' := [(0, .ref 35), (1, .int x1), (2, .int (1000000 : Int32)), (3, .int (0 : Int32))]) rfl ?_
    refine L_X10_all_L30 j_fu hs h (fun y36 y37 M38 g39 h => ?_)
    refine J_iload_n (pc' := 119) (i := 1) (n := 1) dX10_all_118 rfl rfl rfl ?_
    refine J_iconst (pc' := 120) (v := ((-1) : Int32)) dX10_all_119 rfl ic_m1 ?_
    refine J_icmp_ne (pc' := 123) (tgt := 127) dX10_all_120 rfl (by decide) (fun c40 => ?_) (fun c40 => ?_)
    · replace h := j_iq c40 h
      refine J_aload_n (pc' := 128) (i := 0) (n := 0) dX10_all_127 rfl rfl rfl ?_
      refine J_getR (pc' := 131) (b := 41) dX10_all_128 rfl fl_X10_30 rfl (m_o g39) (m_n g39 (Nat.le_of_ble_eq_true rfl)) (m_r10 g39) ?_
      refine J_iload_n (pc' := 132) (i := 1) (n := 1) dX10_all_131 rfl rfl rfl ?_
      obtain ⟨v41, e42, h⟩ := a_i_inv h
      refine J_ialde (pc' := 133) dX10_all_132 rfl (m_s41 g39) (m_n g39 (Nat.le_of_ble_eq_true rfl)) e42 ?_
      exact J_iret rfl dX10_all_133 ⟨rfl, Nat.le_refl _⟩ (j_pW h)
    · replace h := j_ip c40 h
      refine J_iload_n (pc' := 124) (i := 2) (n := 2) dX10_all_123 rfl rfl rfl ?_
      refine J_goto (pc' := 133) dX10_all_124 (by decide) ?_
      exact J_iret rfl dX10_all_133 ⟨rfl, Nat.le_refl _⟩ (j_pW h)
  · replace h := j_ip c5 h
    refine J_aload_n (pc' := 19) (i := 0) (n := 0) dX10_all_18 rfl rfl rfl ?_
    refine J_bipush (pc' := 21) (v := ((-10) : Int32)) dX10_all_19 rfl bp_m10 ?_
    obtain ⟨q43, e44, h⟩ := bi_inv h
    obtain ⟨c45, h⟩ := j_ck_inv h
    refine J_callV (pc' := 24) (as := [.int ((-10) : Int32)]) (rest := []) dX10_all_21 rfl lk_X10_84 rfl 10 (by decide) rfl (m_o hs) (m_n hs (Nat.le_of_ble_eq_true rfl)) (c_X10_bad hs e44) ⟨Nat.le_of_ble_eq_true rfl, Nat.le_of_ble_eq_true rfl⟩ (Nat.le_of_ble_eq_true rfl) ⟨Nat.le_of_ble_eq_true rfl, Nat.le_of_ble_eq_true rfl⟩ (j_kq ?_)
    have g46 : sh_m q43.2.2.2 := j_shE c45 hs
    exact J_iret rfl dX10_all_24 ⟨rfl, Nat.le_refl _⟩ (j_pW h)
abbrev JT_X10_changes (l : Launch) (G : j_G) (r : (Int32 × j_M)) : Nat → List (Nat × Value) → List Value → j_M → Prop := JJ l G md_X10_changes (j_rm 5 (0, 0)) (0, 0) (0, 0) (po (some (.int r.1)) r.2)
noncomputable def f_X10_changes_L42 : Nat → j_M → Int32 → Int32 → Int32 → Int32 → (Int32 → Int32 → Int32 → j_M → Option (Int32 × j_M)) → Option (Int32 × j_M)
  | 0, _, _, _, _, _, _ => none
  | n + 1, M, x1, x2, x3, x4, K =>
    (f_X10_many M).bind fun v11 => (if v11 ≤ x4 then (K x2 x3 x4 M) else (if (60 : Int32) ≤ x2 then (K x2 x3 x4 M) else ((f_X10_bestOf M x4).bind fun q15 => j_ck M q15.2 ((f_X10_secondsIn q15.2 x4 q15.1).bind fun q19 => j_ck q15.2 q19.2 (a_i q19.2 40 7 x4 fun v23 => ((f_X10_secondsIn q19.2 x4 v23).bind fun q25 => j_ck q19.2 q25.2 (if q25.1 ≤ q19.1 then (f_X10_changes_L42 n  q25.2 x1 x2 x3 (x4 + (1 : Int32)) K) else (w_i q25.2 40 7 x4 q15.1 fun M30 => (f_X10_changes_L42 n  M30 x1 (x2 + (1 : Int32)) (1 : Int32) (x4 + (1 : Int32)) K)))))))))
noncomputable def f_X10_changes_L33 : Nat → j_M → Int32 → Int32 → Int32 → (Int32 → Int32 → j_M → Option (Int32 × j_M)) → Option (Int32 × j_M)
  | 0, _, _, _, _, _ => none
  | n + 1, M, x1, x2, x3, K =>
    if x3 = 0 then (K x2 x3 M) else (f_X10_changes_L42 j_fu  M x1 x2 (0 : Int32) (0 : Int32) (fun (y33 : Int32) (y34 : Int32) (y35 : Int32) (M36 : j_M) => (if y34 = 0 then (f_X10_changes_L33 n  M36 x1 y33 (0 : Int32) K) else (if (60 : Int32) ≤ y33 then (f_X10_changes_L33 n  M36 x1 y33 (0 : Int32) K) else (f_X10_changes_L33 n  M36 x1 y33 (1 : Int32) K)))))
noncomputable def f_X10_changes (M : j_M) (x1 : Int32) : Option (Int32 × j_M) :=
  (f_X10_many M).bind fun v1 => (tl (f_X10_in (x1).toInt64 ((-1) : Int64) ((v1 - (1 : Int32))).toInt64) fun v3 => (if v3 = 0 then ((f_X10_bad M ((-10) : Int32)).bind fun q47 => j_ck M q47.2 (some (q47.1, q47.2))) else ((f_X10_layHand M).bind fun q6 => j_ck M q6 (f_X10_changes_L33 j_fu  q6 x1 (0 : Int32) (1 : Int32) (fun (y40 : Int32) (y41 : Int32) (M42 : j_M) => (if x1 = ((-1) : Int32) then (some (y40, M42)) else (a_i M42 40 7 x1 fun v45 => (some (v45, M42)))))))))
set_option maxHeartbeats 4000000 in
theorem L_X10_changes_L42 {l : Launch} {G : j_G}  {r : (Int32 × j_M)} : ∀ (n : Nat) {x1 : Int32} {x2 : Int32} {x3 : Int32} {x4 : Int32} {M : j_M} (hs : sh_m M.2.2) {K : Int32 → Int32 → Int32 → j_M → Option (Int32 × j_M)}, f_X10_changes_L42 n  M x1 x2 x3 x4 K = some r → (∀ (y2 : Int32) (y3 : Int32) (y4 : Int32) (M1 : j_M), sh_m M1.2.2 → K y2 y3 y4 M1 = some r → JT_X10_changes l G r 109 [(0, .ref 35), (1, .int x1), (2, .int y2), (3, .int y3)] [] M1) → JT_X10_changes l G r 42 [(0, .ref 35), (1, .int x1), (2, .int x2), (3, .int x3), (4, .int x4)] [] M := by
  intro n
  induction n with
  | zero =>
    intro x1 x2 x3 x4 M hs K h hK
    rw [f_X10_changes_L42] at h; cases h
  | succ n ih =>
    intro x1 x2 x3 x4 M hs K h hK
    rw [f_X10_changes_L42] at h
    refine J_iload (pc' := 44) (i := 4) (n := 4) dX10_changes_42 rfl rfl ?_
    refine J_aload_n (pc' := 45) (i := 0) (n := 0) dX10_changes_44 rfl rfl rfl ?_
    obtain ⟨v11, e12, h⟩ := bi_inv h
    refine J_callV (pc' := 48) (as := []) (rest := [.int x4]) dX10_changes_45 rfl lk_X10_64 rfl 10 (by decide) rfl (m_o hs) (m_n hs (Nat.le_of_ble_eq_true rfl)) (c_X10_many hs e12) ⟨Nat.le_of_ble_eq_true rfl, Nat.le_of_ble_eq_true rfl⟩ (Nat.le_of_ble_eq_true rfl) ⟨Nat.le_of_ble_eq_true rfl, Nat.le_of_ble_eq_true rfl⟩ (j_kq ?_)
    refine J_icmp_ge (pc' := 51) (tgt := 109) dX10_changes_48 rfl (by decide) (fun c13 => ?_) (fun c13 => ?_)
    · replace h := j_ip c13 h
      refine J_sub [0, 1, 2, 3] (lv' := [(0, .ref 35), (1, .int x1), (2, .int x2), (3, .int x3)]) rfl ?_
      exact hK x2 x3 x4 M hs h
    · replace h := j_iq c13 h
      refine J_iload_n (pc' := 52) (i := 2) (n := 2) dX10_changes_51 rfl rfl rfl ?_
      refine J_bipush (pc' := 54) (v := (60 : Int32)) dX10_changes_52 rfl bp_60 ?_
      refine J_icmp_ge (pc' := 57) (tgt := 109) dX10_changes_54 rfl (by decide) (fun c14 => ?_) (fun c14 => ?_)
      · replace h := j_ip c14 h
        refine J_sub [0, 1, 2, 3] (lv' := [(0, .ref 35), (1, .int x1), (2, .int x2), (3, .int x3)]) rfl ?_
        exact hK x2 x3 x4 M hs h
      · replace h := j_iq c14 h
        refine J_aload_n (pc' := 58) (i := 0) (n := 0) dX10_changes_57 rfl rfl rfl ?_
        refine J_iload (pc' := 60) (i := 4) (n := 4) dX10_changes_58 rfl rfl ?_
        obtain ⟨q15, e16, h⟩ := bi_inv h
        obtain ⟨c17, h⟩ := j_ck_inv h
        refine J_callV (pc' := 63) (as := [.int x4]) (rest := []) dX10_changes_60 rfl lk_X10_151 rfl 10 (by decide) rfl (m_o hs) (m_n hs (Nat.le_of_ble_eq_true rfl)) (c_X10_bestOf hs e16) ⟨Nat.le_of_ble_eq_true rfl, Nat.le_of_ble_eq_true rfl⟩ (Nat.le_of_ble_eq_true rfl) ⟨Nat.le_of_ble_eq_true rfl, Nat.le_of_ble_eq_true rfl⟩ (j_kq ?_)
        have g18 : sh_m q15.2.2.2 := j_shE c17 hs
        refine J_istore (pc' := 65) (i := 5) (lv' := [(5, .int q15.1), (0, .ref 35), (1, .int x1), (2, .int x2), (3, .int x3), (4, .int x4)]) dX10_changes_63 rfl (by decide) rfl ?_
        refine J_aload_n (pc' := 66) (i := 0) (n := 1) dX10_changes_65 rfl rfl rfl ?_
        refine J_iload (pc' := 68) (i := 4) (n := 5) dX10_changes_66 rfl rfl ?_
        refine J_iload (pc' := 70) (i := 5) (n := 0) dX10_changes_68 rfl rfl ?_
        obtain ⟨q19, e20, h⟩ := bi_inv h
        obtain ⟨c21, h⟩ := j_ck_inv h
        refine J_callV (pc' := 73) (as := [.int x4, .int q15.1]) (rest := []) dX10_changes_70 rfl lk_X10_143 rfl 10 (by decide) rfl (m_o g18) (m_n g18 (Nat.le_of_ble_eq_true rfl)) (c_X10_secondsIn g18 e20) ⟨Nat.le_of_ble_eq_true rfl, Nat.le_of_ble_eq_true rfl⟩ (Nat.le_of_ble_eq_true rfl) ⟨Nat.le_of_ble_eq_true rfl, Nat.le_of_ble_eq_true rfl⟩ (j_kq ?_)
        have g22 : sh_m q19.2.2.2 := j_shE c21 g18
        refine J_aload_n (pc' := 74) (i := 0) (n := 1) dX10_changes_73 rfl rfl rfl ?_
        refine J_iload (pc' := 76) (i := 4) (n := 5) dX10_changes_74 rfl rfl ?_
        refine J_aload_n (pc' := 77) (i := 0) (n := 1) dX10_changes_76 rfl rfl rfl ?_
        refine J_getR (pc' := 80) (b := 40) dX10_changes_77 rfl fl_X10_27 rfl (m_o g22) (m_n g22 (Nat.le_of_ble_eq_true rfl)) (m_r6 g22) ?_
        refine J_iload (pc' := 82) (i := 4) (n := 5) dX10_changes_80 rfl rfl ?_
        obtain ⟨v23, e24, h⟩ := a_i_inv h
        refine J_ialde (pc' := 83) dX10_changes_82 rfl (m_s40 g22) (m_n g22 (Nat.le_of_ble_eq_true rfl)) e24 ?_
        obtain ⟨q25, e26, h⟩ := bi_inv h
        obtain ⟨c27, h⟩ := j_ck_inv h
        refine J_callV (pc' := 86) (as := [.int x4, .int v23]) (rest := [.int q19.1]) dX10_changes_83 rfl lk_X10_143 rfl 10 (by decide) rfl (m_o g22) (m_n g22 (Nat.le_of_ble_eq_true rfl)) (c_X10_secondsIn g22 e26) ⟨Nat.le_of_ble_eq_true rfl, Nat.le_of_ble_eq_true rfl⟩ (Nat.le_of_ble_eq_true rfl) ⟨Nat.le_of_ble_eq_true rfl, Nat.le_of_ble_eq_true rfl⟩ (j_kq ?_)
        have g28 : sh_m q25.2.2.2 := j_shE c27 g22
        refine J_icmp_ge (pc' := 89) (tgt := 103) dX10_changes_86 rfl (by decide) (fun c29 => ?_) (fun c29 => ?_)
        · replace h := j_ip c29 h
          refine J_iinc (pc' := 106) (i := 4) (n := 5) (v := (x4 + (1 : Int32))) (lv' := [(4, .int (x4 + (1 : Int32))), (5, .int q15.1), (0, .ref 35), (1, .int x1), (2, .int x2), (3, .int x3)]) dX10_changes_103 rfl rfl (j_inc _ _ rfl _) (by decide) rfl ?_
          refine J_goto (pc' := 42) dX10_changes_106 (by decide) ?_
          refine J_sub [2, 3, 4, 5, 0] (lv' := [(0, .ref 35), (1, .int x1), (2, .int x2), (3, .int x3), (4, .int (x4 + (1 : Int32)))]) rfl ?_
          exact ih g28 h hK
        · replace h := j_iq c29 h
          refine J_aload_n (pc' := 90) (i := 0) (n := 1) dX10_changes_89 rfl rfl rfl ?_
          refine J_getR (pc' := 93) (b := 40) dX10_changes_90 rfl fl_X10_27 rfl (m_o g28) (m_n g28 (Nat.le_of_ble_eq_true rfl)) (m_r6 g28) ?_
          refine J_iload (pc' := 95) (i := 4) (n := 5) dX10_changes_93 rfl rfl ?_
          refine J_iload (pc' := 97) (i := 5) (n := 0) dX10_changes_95 rfl rfl ?_
          obtain ⟨M30, e31, h⟩ := w_i_inv h
          have g32 : sh_m M30.2.2 := j_shI e31.2 g28
          refine J_iaste (pc' := 98) dX10_changes_97 rfl (m_s40 g28) (m_n g28 (Nat.le_of_ble_eq_true rfl)) e31 ?_
          refine J_iconst (pc' := 99) (v := (1 : Int32)) dX10_changes_98 rfl ic_1 ?_
          refine J_istore_n (pc' := 100) (i := 3) (lv' := [(3, .int (1 : Int32)), (5, .int q15.1), (0, .ref 35), (1, .int x1), (2, .int x2), (4, .int x4)]) dX10_changes_99 rfl rfl (by decide) rfl ?_
          refine J_iinc (pc' := 103) (i := 2) (n := 4) (v := (x2 + (1 : Int32))) (lv' := [(2, .int (x2 + (1 : Int32))), (3, .int (1 : Int32)), (5, .int q15.1), (0, .ref 35), (1, .int x1), (4, .int x4)]) dX10_changes_100 rfl rfl (j_inc _ _ rfl _) (by decide) rfl ?_
          refine J_iinc (pc' := 106) (i := 4) (n := 5) (v := (x4 + (1 : Int32))) (lv' := [(4, .int (x4 + (1 : Int32))), (2, .int (x2 + (1 : Int32))), (3, .int (1 : Int32)), (5, .int q15.1), (0, .ref 35), (1, .int x1)]) dX10_changes_103 rfl rfl (j_inc _ _ rfl _) (by decide) rfl ?_
          refine J_goto (pc' := 42) dX10_changes_106 (by decide) ?_
          refine J_sub [4, 5, 1, 2, 0] (lv' := [(0, .ref 35), (1, .int x1), (2, .int (x2 + (1 : Int32))), (3, .int (1 : Int32)), (4, .int (x4 + (1 : Int32)))]) rfl ?_
          exact ih g32 h hK
set_option maxHeartbeats 4000000 in
theorem L_X10_changes_L33 {l : Launch} {G : j_G}  {r : (Int32 × j_M)} : ∀ (n : Nat) {x1 : Int32} {x2 : Int32} {x3 : Int32} {M : j_M} (hs : sh_m M.2.2) {K : Int32 → Int32 → j_M → Option (Int32 × j_M)}, f_X10_changes_L33 n  M x1 x2 x3 K = some r → (∀ (y2 : Int32) (y3 : Int32) (M1 : j_M), sh_m M1.2.2 → K y2 y3 M1 = some r → JT_X10_changes l G r 128 [(0, .ref 35), (1, .int x1), (2, .int y2)] [] M1) → JT_X10_changes l G r 33 [(0, .ref 35), (1, .int x1), (2, .int x2), (3, .int x3)] [] M := by
  intro n
  induction n with
  | zero =>
    intro x1 x2 x3 M hs K h hK
    rw [f_X10_changes_L33] at h; cases h
  | succ n ih =>
    intro x1 x2 x3 M hs K h hK
    rw [f_X10_changes_L33] at h
    refine J_iload_n (pc' := 34) (i := 3) (n := 3) dX10_changes_33 rfl rfl rfl ?_
    refine J_if_eq (pc' := 37) (tgt := 128) dX10_changes_34 rfl (by decide) (fun c10 => ?_) (fun c10 => ?_)
    · replace h := j_ip c10 h
      refine J_sub [0, 1, 2] (lv' := [(0, .ref 35), (1, .int x1), (2, .int x2)]) rfl ?_
      exact hK x2 x3 M hs h
    · replace h := j_iq c10 h
      refine J_iconst (pc' := 38) (v := (0 : Int32)) dX10_changes_37 rfl ic_0 ?_
      refine J_istore_n (pc' := 39) (i := 3) (lv' := [(3, .int (0 : Int32)), (0, .ref 35), (1, .int x1), (2, .int x2)]) dX10_changes_38 rfl rfl (by decide) rfl ?_
      refine J_iconst (pc' := 40) (v := (0 : Int32)) dX10_changes_39 rfl ic_0 ?_
      refine J_istore (pc' := 42) (i := 4) (lv' := [(4, .int (0 : Int32)), (3, .int (0 : Int32)), (0, .ref 35), (1, .int x1), (2, .int x2)]) dX10_changes_40 rfl (by decide) rfl ?_
      refine J_sub [2, 3, 4, 1, 0] (lv' := [(0, .ref 35), (1, .int x1), (2, .int x2), (3, .int (0 : Int32)), (4, .int (0 : Int32))]) rfl ?_
      refine L_X10_changes_L42 j_fu hs h (fun y33 y34 y35 M36 g37 h => ?_)
      refine J_iload_n (pc' := 110) (i := 3) (n := 3) dX10_changes_109 rfl rfl rfl ?_
      refine J_if_eq (pc' := 113) (tgt := 123) dX10_changes_110 rfl (by decide) (fun c38 => ?_) (fun c38 => ?_)
      · replace h := j_ip c38 h
        refine J_iconst (pc' := 124) (v := (0 : Int32)) dX10_changes_123 rfl ic_0 ?_
        refine J_istore_n (pc' := 125) (i := 3) (lv' := [(3, .int (0 : Int32)), (0, .ref 35), (1, .int x1), (2, .int y33)]) dX10_changes_124 rfl rfl (by decide) rfl ?_
        refine J_goto (pc' := 33) dX10_changes_125 (by decide) ?_
        refine J_sub [1, 2, 3, 0] (lv' := [(0, .ref 35), (1, .int x1), (2, .int y33), (3, .int (0 : Int32))]) rfl ?_
        exact ih g37 h hK
      · replace h := j_iq c38 h
        refine J_iload_n (pc' := 114) (i := 2) (n := 2) dX10_changes_113 rfl rfl rfl ?_
        refine J_bipush (pc' := 116) (v := (60 : Int32)) dX10_changes_114 rfl bp_60 ?_
        refine J_icmp_ge (pc' := 119) (tgt := 123) dX10_changes_116 rfl (by decide) (fun c39 => ?_) (fun c39 => ?_)
        · replace h := j_ip c39 h
          refine J_iconst (pc' := 124) (v := (0 : Int32)) dX10_changes_123 rfl ic_0 ?_
          refine J_istore_n (pc' := 125) (i := 3) (lv' := [(3, .int (0 : Int32)), (0, .ref 35), (1, .int x1), (2, .int y33)]) dX10_changes_124 rfl rfl (by decide) rfl ?_
          refine J_goto (pc' := 33) dX10_changes_125 (by decide) ?_
          refine J_sub [1, 2, 3, 0] (lv' := [(0, .ref 35), (1, .int x1), (2, .int y33), (3, .int (0 : Int32))]) rfl ?_
          exact ih g37 h hK
        · replace h := j_iq c39 h
          refine J_iconst (pc' := 120) (v := (1 : Int32)) dX10_changes_119 rfl ic_1 ?_
          refine J_goto (pc' := 124) dX10_changes_120 (by decide) ?_
          refine J_istore_n (pc' := 125) (i := 3) (lv' := [(3, .int (1 : Int32)), (0, .ref 35), (1, .int x1), (2, .int y33)]) dX10_changes_124 rfl rfl (by decide) rfl ?_
          refine J_goto (pc' := 33) dX10_changes_125 (by decide) ?_
          refine J_sub [1, 2, 3, 0] (lv' := [(0, .ref 35), (1, .int x1), (2, .int y33), (3, .int (1 : Int32))]) rfl ?_
          exact ih g37 h hK
set_option maxHeartbeats 4000000 in
theorem c_X10_changes {l : Launch} {G : j_G} {M : j_M} {x1 : Int32} (hs : sh_m M.2.2) {r : (Int32 × j_M)} (h : f_X10_changes M x1 = some r) : j_Sp l G md_X10_changes 5 (0, 0) [.ref 35, .int x1] M (po (some (.int r.1)) r.2) := by
  refine j_Sp.of (by decide) (Nat.le_of_ble_eq_true rfl) ?_
  show JT_X10_changes l G r 0 [(0, .ref 35), (1, .int x1)] [] M
  unfold f_X10_changes at h
  refine J_iload_n (pc' := 1) (i := 1) (n := 1) dX10_changes_0 rfl rfl rfl ?_
  refine J_i2l (pc' := 2) dX10_changes_1 rfl ?_
  refine J_ldc2 (pc' := 5) (v := ((-1) : Int64)) dX10_changes_2 rfl wd_1129 ?_
  refine J_aload_n (pc' := 6) (i := 0) (n := 0) dX10_changes_5 rfl rfl rfl ?_
  obtain ⟨v1, e2, h⟩ := bi_inv h
  refine J_callV (pc' := 9) (as := []) (rest := [.long ((-1) : Int64), .long (x1).toInt64]) dX10_changes_6 rfl lk_X10_64 rfl 10 (by decide) rfl (m_o hs) (m_n hs (Nat.le_of_ble_eq_true rfl)) (c_X10_many hs e2) ⟨Nat.le_of_ble_eq_true rfl, Nat.le_of_ble_eq_true rfl⟩ (Nat.le_of_ble_eq_true rfl) ⟨Nat.le_of_ble_eq_true rfl, Nat.le_of_ble_eq_true rfl⟩ (j_kq ?_)
  refine J_iconst (pc' := 10) (v := (1 : Int32)) dX10_changes_9 rfl ic_1 ?_
  refine J_isub (pc' := 11) dX10_changes_10 rfl ?_
  refine J_i2l (pc' := 12) dX10_changes_11 rfl ?_
  obtain ⟨v3, e4, h⟩ := tl_inv h
  refine J_callS (pc' := 15) (as := [.long (x1).toInt64, .long ((-1) : Int64), .long ((v1 - (1 : Int32))).toInt64]) (rest := []) dX10_changes_12 rfl lk_X10_68 rfl (c_X10_in e4) ⟨Nat.le_of_ble_eq_true rfl, Nat.le_of_ble_eq_true rfl⟩ (Nat.le_of_ble_eq_true rfl) ⟨Nat.le_of_ble_eq_true rfl, Nat.le_of_ble_eq_true rfl⟩ (j_kq ?_)
  refine J_if_ne (pc' := 18) (tgt := 25) dX10_changes_15 rfl (by decide) (fun c5 => ?_) (fun c5 => ?_)
  · replace h := j_iq c5 h
    refine J_iconst (pc' := 26) (v := (0 : Int32)) dX10_changes_25 rfl ic_0 ?_
    refine J_istore_n (pc' := 27) (i := 2) (lv' := [(2, .int (0 : Int32)), (0, .ref 35), (1, .int x1)]) dX10_changes_26 rfl rfl (by decide) rfl ?_
    refine J_iconst (pc' := 28) (v := (1 : Int32)) dX10_changes_27 rfl ic_1 ?_
    refine J_istore_n (pc' := 29) (i := 3) (lv' := [(3, .int (1 : Int32)), (2, .int (0 : Int32)), (0, .ref 35), (1, .int x1)]) dX10_changes_28 rfl rfl (by decide) rfl ?_
    refine J_aload_n (pc' := 30) (i := 0) (n := 2) dX10_changes_29 rfl rfl rfl ?_
    obtain ⟨q6, e7, h⟩ := bi_inv h
    obtain ⟨c8, h⟩ := j_ck_inv h
    refine J_callV (pc' := 33) (as := []) (rest := []) dX10_changes_30 rfl lk_X10_140 rfl 10 (by decide) rfl (m_o hs) (m_n hs (Nat.le_of_ble_eq_true rfl)) (c_X10_layHand hs e7) ⟨Nat.le_of_ble_eq_true rfl, Nat.le_of_ble_eq_true rfl⟩ (Nat.le_of_ble_eq_true rfl) ⟨Nat.le_of_ble_eq_true rfl, Nat.le_of_ble_eq_true rfl⟩ (j_kv ?_)
    have g9 : sh_m q6.2.2 := j_shE c8 hs
    refine J_sub [2, 3, 1, 0] (lv' := [(0, .ref 35), (1, .int x1), (2, .int (0 : Int32)), (3, .int (1 : Int32))]) rfl ?_
    refine L_X10_changes_L33 j_fu g9 h (fun y40 y41 M42 g43 h => ?_)
    refine J_iload_n (pc' := 129) (i := 1) (n := 1) dX10_changes_128 rfl rfl rfl ?_
    refine J_iconst (pc' := 130) (v := ((-1) : Int32)) dX10_changes_129 rfl ic_m1 ?_
    refine J_icmp_ne (pc' := 133) (tgt := 137) dX10_changes_130 rfl (by decide) (fun c44 => ?_) (fun c44 => ?_)
    · replace h := j_iq c44 h
      refine J_aload_n (pc' := 138) (i := 0) (n := 0) dX10_changes_137 rfl rfl rfl ?_
      refine J_getR (pc' := 141) (b := 40) dX10_changes_138 rfl fl_X10_27 rfl (m_o g43) (m_n g43 (Nat.le_of_ble_eq_true rfl)) (m_r6 g43) ?_
      refine J_iload_n (pc' := 142) (i := 1) (n := 1) dX10_changes_141 rfl rfl rfl ?_
      obtain ⟨v45, e46, h⟩ := a_i_inv h
      refine J_ialde (pc' := 143) dX10_changes_142 rfl (m_s40 g43) (m_n g43 (Nat.le_of_ble_eq_true rfl)) e46 ?_
      exact J_iret rfl dX10_changes_143 ⟨rfl, Nat.le_refl _⟩ (j_pW h)
    · replace h := j_ip c44 h
      refine J_iload_n (pc' := 134) (i := 2) (n := 2) dX10_changes_133 rfl rfl rfl ?_
      refine J_goto (pc' := 143) dX10_changes_134 (by decide) ?_
      exact J_iret rfl dX10_changes_143 ⟨rfl, Nat.le_refl _⟩ (j_pW h)
  · replace h := j_ip c5 h
    refine J_aload_n (pc' := 19) (i := 0) (n := 0) dX10_changes_18 rfl rfl rfl ?_
    refine J_bipush (pc' := 21) (v := ((-10) : Int32)) dX10_changes_19 rfl bp_m10 ?_
    obtain ⟨q47, e48, h⟩ := bi_inv h
    obtain ⟨c49, h⟩ := j_ck_inv h
    refine J_callV (pc' := 24) (as := [.int ((-10) : Int32)]) (rest := []) dX10_changes_21 rfl lk_X10_84 rfl 10 (by decide) rfl (m_o hs) (m_n hs (Nat.le_of_ble_eq_true rfl)) (c_X10_bad hs e48) ⟨Nat.le_of_ble_eq_true rfl, Nat.le_of_ble_eq_true rfl⟩ (Nat.le_of_ble_eq_true rfl) ⟨Nat.le_of_ble_eq_true rfl, Nat.le_of_ble_eq_true rfl⟩ (j_kq ?_)
    have g50 : sh_m q47.2.2.2 := j_shE c49 hs
    exact J_iret rfl dX10_changes_24 ⟨rfl, Nat.le_refl _⟩ (j_pW h)
abbrev JT_X10_layStart (l : Launch) (G : j_G) (r : j_M) : Nat → List (Nat × Value) → List Value → j_M → Prop := JJ l G md_X10_layStart (j_rm 2 (0, 0)) (0, 0) (0, 0) (po none r)
noncomputable def f_X10_layStart_L7 : Nat → j_M → Int32 → Int32 → (Int32 → j_M → Option j_M) → Option j_M
  | 0, _, _, _, _ => none
  | n + 1, M, x1, x2, K =>
    (f_X10_many M).bind fun v4 => (if v4 ≤ x2 then (K x2 M) else (a_i M 36 250 ((9 : Int32) + x2) fun v7 => (if v7 = x1 then (w_i M 42 7 (j_I M 35 14) x2 fun M10 => (tl (j_sI M10 35 14 ((j_I M10 35 14) + (1 : Int32))) fun M13 => (f_X10_layStart_L7 n  M13 x1 (x2 + (1 : Int32)) K))) else (f_X10_layStart_L7 n  M x1 (x2 + (1 : Int32)) K))))
noncomputable def f_X10_layStart (M : j_M) (x1 : Int32) : Option j_M :=
  tl (j_sI M 35 14 (0 : Int32)) fun M1 => (f_X10_layStart_L7 j_fu  M1 x1 (0 : Int32) (fun (y16 : Int32) (M17 : j_M) => (some M17)))
set_option maxHeartbeats 4000000 in
theorem L_X10_layStart_L7 {l : Launch} {G : j_G}  {r : j_M} : ∀ (n : Nat) {x1 : Int32} {x2 : Int32} {M : j_M} (hs : sh_m M.2.2) {K : Int32 → j_M → Option j_M}, f_X10_layStart_L7 n  M x1 x2 K = some r → (∀ (y2 : Int32) (M1 : j_M), sh_m M1.2.2 → K y2 M1 = some r → JT_X10_layStart l G r 54 [] [] M1) → JT_X10_layStart l G r 7 [(0, .ref 35), (1, .int x1), (2, .int x2)] [] M := by
  intro n
  induction n with
  | zero =>
    intro x1 x2 M hs K h hK
    rw [f_X10_layStart_L7] at h; cases h
  | succ n ih =>
    intro x1 x2 M hs K h hK
    rw [f_X10_layStart_L7] at h
    refine J_iload_n (pc' := 8) (i := 2) (n := 2) dX10_layStart_7 rfl rfl rfl ?_
    refine J_aload_n (pc' := 9) (i := 0) (n := 0) dX10_layStart_8 rfl rfl rfl ?_
    obtain ⟨v4, e5, h⟩ := bi_inv h
    refine J_callV (pc' := 12) (as := []) (rest := [.int x2]) dX10_layStart_9 rfl lk_X10_64 rfl 10 (by decide) rfl (m_o hs) (m_n hs (Nat.le_of_ble_eq_true rfl)) (c_X10_many hs e5) ⟨Nat.le_of_ble_eq_true rfl, Nat.le_of_ble_eq_true rfl⟩ (Nat.le_of_ble_eq_true rfl) ⟨Nat.le_of_ble_eq_true rfl, Nat.le_of_ble_eq_true rfl⟩ (j_kq ?_)
    refine J_icmp_ge (pc' := 15) (tgt := 54) dX10_layStart_12 rfl (by decide) (fun c6 => ?_) (fun c6 => ?_)
    · replace h := j_ip c6 h
      refine J_sub [] (lv' := []) rfl ?_
      exact hK x2 M hs h
    · replace h := j_iq c6 h
      refine J_aload_n (pc' := 16) (i := 0) (n := 0) dX10_layStart_15 rfl rfl rfl ?_
      refine J_getR (pc' := 19) (b := 36) dX10_layStart_16 rfl fl_X10_7 rfl (m_o hs) (m_n hs (Nat.le_of_ble_eq_true rfl)) (m_r0 hs) ?_
      refine J_bipush (pc' := 21) (v := (9 : Int32)) dX10_layStart_19 rfl bp_9 ?_
      refine J_iload_n (pc' := 22) (i := 2) (n := 2) dX10_layStart_21 rfl rfl rfl ?_
      refine J_iadd (pc' := 23) dX10_layStart_22 rfl ?_
      obtain ⟨v7, e8, h⟩ := a_i_inv h
      refine J_ialde (pc' := 24) dX10_layStart_23 rfl (m_s36 hs) (m_n hs (Nat.le_of_ble_eq_true rfl)) e8 ?_
      refine J_iload_n (pc' := 25) (i := 1) (n := 1) dX10_layStart_24 rfl rfl rfl ?_
      refine J_icmp_ne (pc' := 28) (tgt := 48) dX10_layStart_25 rfl (by decide) (fun c9 => ?_) (fun c9 => ?_)
      · replace h := j_iq c9 h
        refine J_iinc (pc' := 51) (i := 2) (n := 2) (v := (x2 + (1 : Int32))) (lv' := [(2, .int (x2 + (1 : Int32))), (0, .ref 35), (1, .int x1)]) dX10_layStart_48 rfl rfl (j_inc _ _ rfl _) (by decide) rfl ?_
        refine J_goto (pc' := 7) dX10_layStart_51 (by decide) ?_
        refine J_sub [1, 2, 0] (lv' := [(0, .ref 35), (1, .int x1), (2, .int (x2 + (1 : Int32)))]) rfl ?_
        exact ih hs h hK
      · replace h := j_ip c9 h
        refine J_aload_n (pc' := 29) (i := 0) (n := 0) dX10_layStart_28 rfl rfl rfl ?_
        refine J_getR (pc' := 32) (b := 42) dX10_layStart_29 rfl fl_X10_33 rfl (m_o hs) (m_n hs (Nat.le_of_ble_eq_true rfl)) (m_r11 hs) ?_
        refine J_aload_n (pc' := 33) (i := 0) (n := 0) dX10_layStart_32 rfl rfl rfl ?_
        refine J_getI (pc' := 36) dX10_layStart_33 rfl fl_X10_171 rfl (m_o hs) (m_n hs (Nat.le_of_ble_eq_true rfl)) ?_
        refine J_iload_n (pc' := 37) (i := 2) (n := 2) dX10_layStart_36 rfl rfl rfl ?_
        obtain ⟨M10, e11, h⟩ := w_i_inv h
        have g12 : sh_m M10.2.2 := j_shI e11.2 hs
        refine J_iaste (pc' := 38) dX10_layStart_37 rfl (m_s42 hs) (m_n hs (Nat.le_of_ble_eq_true rfl)) e11 ?_
        refine J_aload_n (pc' := 39) (i := 0) (n := 0) dX10_layStart_38 rfl rfl rfl ?_
        refine J_dup (pc' := 40) dX10_layStart_39 rfl rfl ?_
        refine J_getI (pc' := 43) dX10_layStart_40 rfl fl_X10_171 rfl (m_o g12) (m_n g12 (Nat.le_of_ble_eq_true rfl)) ?_
        refine J_iconst (pc' := 44) (v := (1 : Int32)) dX10_layStart_43 rfl ic_1 ?_
        refine J_iadd (pc' := 45) dX10_layStart_44 rfl ?_
        obtain ⟨M13, e14, h⟩ := tl_inv h
        have g15 : sh_m M13.2.2 := j_shI e14 g12
        refine J_putIe (pc' := 48) dX10_layStart_45 rfl fl_X10_171 ⟨rfl, rfl, rfl⟩ (m_o g12) (m_n g12 (Nat.le_of_ble_eq_true rfl)) e14 ?_
        refine J_iinc (pc' := 51) (i := 2) (n := 2) (v := (x2 + (1 : Int32))) (lv' := [(2, .int (x2 + (1 : Int32))), (0, .ref 35), (1, .int x1)]) dX10_layStart_48 rfl rfl (j_inc _ _ rfl _) (by decide) rfl ?_
        refine J_goto (pc' := 7) dX10_layStart_51 (by decide) ?_
        refine J_sub [1, 2, 0] (lv' := [(0, .ref 35), (1, .int x1), (2, .int (x2 + (1 : Int32)))]) rfl ?_
        exact ih g15 h hK
set_option maxHeartbeats 4000000 in
theorem c_X10_layStart {l : Launch} {G : j_G} {M : j_M} {x1 : Int32} (hs : sh_m M.2.2) {r : j_M} (h : f_X10_layStart M x1 = some r) : j_Sp l G md_X10_layStart 2 (0, 0) [.ref 35, .int x1] M (po none r) := by
  refine j_Sp.of (by decide) (Nat.le_of_ble_eq_true rfl) ?_
  show JT_X10_layStart l G r 0 [(0, .ref 35), (1, .int x1)] [] M
  unfold f_X10_layStart at h
  refine J_aload_n (pc' := 1) (i := 0) (n := 0) dX10_layStart_0 rfl rfl rfl ?_
  refine J_iconst (pc' := 2) (v := (0 : Int32)) dX10_layStart_1 rfl ic_0 ?_
  obtain ⟨M1, e2, h⟩ := tl_inv h
  have g3 : sh_m M1.2.2 := j_shI e2 hs
  refine J_putIe (pc' := 5) dX10_layStart_2 rfl fl_X10_171 ⟨rfl, rfl, rfl⟩ (m_o hs) (m_n hs (Nat.le_of_ble_eq_true rfl)) e2 ?_
  refine J_iconst (pc' := 6) (v := (0 : Int32)) dX10_layStart_5 rfl ic_0 ?_
  refine J_istore_n (pc' := 7) (i := 2) (lv' := [(2, .int (0 : Int32)), (0, .ref 35), (1, .int x1)]) dX10_layStart_6 rfl rfl (by decide) rfl ?_
  refine J_sub [1, 2, 0] (lv' := [(0, .ref 35), (1, .int x1), (2, .int (0 : Int32))]) rfl ?_
  refine L_X10_layStart_L7 j_fu g3 h (fun y16 M17 g18 h => ?_)
  exact J_vret rfl dX10_layStart_54 ⟨rfl, Nat.le_refl _⟩ (j_pV h)
abbrev JT_X10_isRowWell (l : Launch) (G : j_G) (M : j_M) (r : Int32) : Nat → List (Nat × Value) → List Value → j_M → Prop := JJ l G md_X10_isRowWell (j_rm 2 (0, 0)) (0, 0) (0, 0) (po (some (.int r)) M)
noncomputable def f_X10_isRowWell_L5 : Nat → j_M → Int32 → Int32 → Int32 → Int32 → (Int32 → Int32 → Option Int32) → Option Int32
  | 0, _, _, _, _, _, _ => none
  | n + 1, M, x1, x2, x3, x4, K =>
    if (j_I M 35 14) ≤ x4 then (K x3 x4) else (if x3 = 0 then (f_X10_isRowWell_L5 n  M x1 x2 (0 : Int32) (x4 + (1 : Int32)) K) else (a_i M 43 7 x4 fun v3 => ((f_X10_paceOf M v3).bind fun v5 => (a_i M 43 7 (x4 - (1 : Int32)) fun v7 => ((f_X10_paceOf M v7).bind fun v9 => (if (x1 + (x2 * v5)) < (x2 * v9) then (f_X10_isRowWell_L5 n  M x1 x2 (0 : Int32) (x4 + (1 : Int32)) K) else (f_X10_isRowWell_L5 n  M x1 x2 (1 : Int32) (x4 + (1 : Int32)) K)))))))
noncomputable def f_X10_isRowWell (M : j_M) (x1 : Int32) (x2 : Int32) : Option Int32 :=
  f_X10_isRowWell_L5 j_fu  M x1 x2 (1 : Int32) (1 : Int32) (fun (y12 : Int32) (y13 : Int32) => (z_b y12 (some y12)))
set_option maxHeartbeats 4000000 in
theorem L_X10_isRowWell_L5 {l : Launch} {G : j_G}  {r : Int32} : ∀ (n : Nat) {x1 : Int32} {x2 : Int32} {x3 : Int32} {x4 : Int32} {M : j_M} (hs : sh_m M.2.2) {K : Int32 → Int32 → Option Int32}, f_X10_isRowWell_L5 n  M x1 x2 x3 x4 K = some r → (∀ (y3 : Int32) (y4 : Int32), K y3 y4 = some r → JT_X10_isRowWell l G M r 63 [(3, .int y3)] [] M) → JT_X10_isRowWell l G M r 5 [(0, .ref 35), (1, .int x1), (2, .int x2), (3, .int x3), (4, .int x4)] [] M := by
  intro n
  induction n with
  | zero =>
    intro x1 x2 x3 x4 M hs K h hK
    rw [f_X10_isRowWell_L5] at h; cases h
  | succ n ih =>
    intro x1 x2 x3 x4 M hs K h hK
    rw [f_X10_isRowWell_L5] at h
    refine J_iload (pc' := 7) (i := 4) (n := 4) dX10_isRowWell_5 rfl rfl ?_
    refine J_aload_n (pc' := 8) (i := 0) (n := 0) dX10_isRowWell_7 rfl rfl rfl ?_
    refine J_getI (pc' := 11) dX10_isRowWell_8 rfl fl_X10_171 rfl (m_o hs) (m_n hs (Nat.le_of_ble_eq_true rfl)) ?_
    refine J_icmp_ge (pc' := 14) (tgt := 63) dX10_isRowWell_11 rfl (by decide) (fun c1 => ?_) (fun c1 => ?_)
    · replace h := j_ip c1 h
      refine J_sub [3] (lv' := [(3, .int x3)]) rfl ?_
      exact hK x3 x4  h
    · replace h := j_iq c1 h
      refine J_iload_n (pc' := 15) (i := 3) (n := 3) dX10_isRowWell_14 rfl rfl rfl ?_
      refine J_if_eq (pc' := 18) (tgt := 55) dX10_isRowWell_15 rfl (by decide) (fun c2 => ?_) (fun c2 => ?_)
      · replace h := j_ip c2 h
        refine J_iconst (pc' := 56) (v := (0 : Int32)) dX10_isRowWell_55 rfl ic_0 ?_
        refine J_istore_n (pc' := 57) (i := 3) (lv' := [(3, .int (0 : Int32)), (0, .ref 35), (1, .int x1), (2, .int x2), (4, .int x4)]) dX10_isRowWell_56 rfl rfl (by decide) rfl ?_
        refine J_iinc (pc' := 60) (i := 4) (n := 4) (v := (x4 + (1 : Int32))) (lv' := [(4, .int (x4 + (1 : Int32))), (3, .int (0 : Int32)), (0, .ref 35), (1, .int x1), (2, .int x2)]) dX10_isRowWell_57 rfl rfl (j_inc _ _ rfl _) (by decide) rfl ?_
        refine J_goto (pc' := 5) dX10_isRowWell_60 (by decide) ?_
        refine J_sub [2, 3, 4, 1, 0] (lv' := [(0, .ref 35), (1, .int x1), (2, .int x2), (3, .int (0 : Int32)), (4, .int (x4 + (1 : Int32)))]) rfl ?_
        exact ih hs h hK
      · replace h := j_iq c2 h
        refine J_iload_n (pc' := 19) (i := 1) (n := 1) dX10_isRowWell_18 rfl rfl rfl ?_
        refine J_iload_n (pc' := 20) (i := 2) (n := 2) dX10_isRowWell_19 rfl rfl rfl ?_
        refine J_aload_n (pc' := 21) (i := 0) (n := 0) dX10_isRowWell_20 rfl rfl rfl ?_
        refine J_aload_n (pc' := 22) (i := 0) (n := 0) dX10_isRowWell_21 rfl rfl rfl ?_
        refine J_getR (pc' := 25) (b := 43) dX10_isRowWell_22 rfl fl_X10_36 rfl (m_o hs) (m_n hs (Nat.le_of_ble_eq_true rfl)) (m_r12 hs) ?_
        refine J_iload (pc' := 27) (i := 4) (n := 4) dX10_isRowWell_25 rfl rfl ?_
        obtain ⟨v3, e4, h⟩ := a_i_inv h
        refine J_ialde (pc' := 28) dX10_isRowWell_27 rfl (m_s43 hs) (m_n hs (Nat.le_of_ble_eq_true rfl)) e4 ?_
        obtain ⟨v5, e6, h⟩ := bi_inv h
        refine J_callV (pc' := 31) (as := [.int v3]) (rest := [.int x2, .int x1]) dX10_isRowWell_28 rfl lk_X10_121 rfl 10 (by decide) rfl (m_o hs) (m_n hs (Nat.le_of_ble_eq_true rfl)) (c_X10_paceOf hs e6) ⟨Nat.le_of_ble_eq_true rfl, Nat.le_of_ble_eq_true rfl⟩ (Nat.le_of_ble_eq_true rfl) ⟨Nat.le_of_ble_eq_true rfl, Nat.le_of_ble_eq_true rfl⟩ (j_kq ?_)
        refine J_imul (pc' := 32) dX10_isRowWell_31 rfl ?_
        refine J_iadd (pc' := 33) dX10_isRowWell_32 rfl ?_
        refine J_iload_n (pc' := 34) (i := 2) (n := 2) dX10_isRowWell_33 rfl rfl rfl ?_
        refine J_aload_n (pc' := 35) (i := 0) (n := 0) dX10_isRowWell_34 rfl rfl rfl ?_
        refine J_aload_n (pc' := 36) (i := 0) (n := 0) dX10_isRowWell_35 rfl rfl rfl ?_
        refine J_getR (pc' := 39) (b := 43) dX10_isRowWell_36 rfl fl_X10_36 rfl (m_o hs) (m_n hs (Nat.le_of_ble_eq_true rfl)) (m_r12 hs) ?_
        refine J_iload (pc' := 41) (i := 4) (n := 4) dX10_isRowWell_39 rfl rfl ?_
        refine J_iconst (pc' := 42) (v := (1 : Int32)) dX10_isRowWell_41 rfl ic_1 ?_
        refine J_isub (pc' := 43) dX10_isRowWell_42 rfl ?_
        obtain ⟨v7, e8, h⟩ := a_i_inv h
        refine J_ialde (pc' := 44) dX10_isRowWell_43 rfl (m_s43 hs) (m_n hs (Nat.le_of_ble_eq_true rfl)) e8 ?_
        obtain ⟨v9, e10, h⟩ := bi_inv h
        refine J_callV (pc' := 47) (as := [.int v7]) (rest := [.int x2, .int (x1 + (x2 * v5))]) dX10_isRowWell_44 rfl lk_X10_121 rfl 10 (by decide) rfl (m_o hs) (m_n hs (Nat.le_of_ble_eq_true rfl)) (c_X10_paceOf hs e10) ⟨Nat.le_of_ble_eq_true rfl, Nat.le_of_ble_eq_true rfl⟩ (Nat.le_of_ble_eq_true rfl) ⟨Nat.le_of_ble_eq_true rfl, Nat.le_of_ble_eq_true rfl⟩ (j_kq ?_)
        refine J_imul (pc' := 48) dX10_isRowWell_47 rfl ?_
        refine J_icmp_lt (pc' := 51) (tgt := 55) dX10_isRowWell_48 rfl (by decide) (fun c11 => ?_) (fun c11 => ?_)
        · replace h := j_ip c11 h
          refine J_iconst (pc' := 56) (v := (0 : Int32)) dX10_isRowWell_55 rfl ic_0 ?_
          refine J_istore_n (pc' := 57) (i := 3) (lv' := [(3, .int (0 : Int32)), (0, .ref 35), (1, .int x1), (2, .int x2), (4, .int x4)]) dX10_isRowWell_56 rfl rfl (by decide) rfl ?_
          refine J_iinc (pc' := 60) (i := 4) (n := 4) (v := (x4 + (1 : Int32))) (lv' := [(4, .int (x4 + (1 : Int32))), (3, .int (0 : Int32)), (0, .ref 35), (1, .int x1), (2, .int x2)]) dX10_isRowWell_57 rfl rfl (j_inc _ _ rfl _) (by decide) rfl ?_
          refine J_goto (pc' := 5) dX10_isRowWell_60 (by decide) ?_
          refine J_sub [2, 3, 4, 1, 0] (lv' := [(0, .ref 35), (1, .int x1), (2, .int x2), (3, .int (0 : Int32)), (4, .int (x4 + (1 : Int32)))]) rfl ?_
          exact ih hs h hK
        · replace h := j_iq c11 h
          refine J_iconst (pc' := 52) (v := (1 : Int32)) dX10_isRowWell_51 rfl ic_1 ?_
          refine J_goto (pc' := 56) dX10_isRowWell_52 (by decide) ?_
          refine J_istore_n (pc' := 57) (i := 3) (lv' := [(3, .int (1 : Int32)), (0, .ref 35), (1, .int x1), (2, .int x2), (4, .int x4)]) dX10_isRowWell_56 rfl rfl (by decide) rfl ?_
          refine J_iinc (pc' := 60) (i := 4) (n := 4) (v := (x4 + (1 : Int32))) (lv' := [(4, .int (x4 + (1 : Int32))), (3, .int (1 : Int32)), (0, .ref 35), (1, .int x1), (2, .int x2)]) dX10_isRowWell_57 rfl rfl (j_inc _ _ rfl _) (by decide) rfl ?_
          refine J_goto (pc' := 5) dX10_isRowWell_60 (by decide) ?_
          refine J_sub [2, 3, 4, 1, 0] (lv' := [(0, .ref 35), (1, .int x1), (2, .int x2), (3, .int (1 : Int32)), (4, .int (x4 + (1 : Int32)))]) rfl ?_
          exact ih hs h hK
set_option maxHeartbeats 4000000 in
theorem c_X10_isRowWell {l : Launch} {G : j_G} {M : j_M} {x1 : Int32} {x2 : Int32} (hs : sh_m M.2.2) {r : Int32} (h : f_X10_isRowWell M x1 x2 = some r) : j_Sp l G md_X10_isRowWell 2 (0, 0) [.ref 35, .int x1, .int x2] M (po (some (.int r)) M) := by
  refine j_Sp.of (by decide) (Nat.le_of_ble_eq_true rfl) ?_
  show JT_X10_isRowWell l G M r 0 [(0, .ref 35), (1, .int x1), (2, .int x2)] [] M
  unfold f_X10_isRowWell at h
  refine J_iconst (pc' := 1) (v := (1 : Int32)) dX10_isRowWell_0 rfl ic_1 ?_
  refine J_istore_n (pc' := 2) (i := 3) (lv' := [(3, .int (1 : Int32)), (0, .ref 35), (1, .int x1), (2, .int x2)]) dX10_isRowWell_1 rfl rfl (by decide) rfl ?_
  refine J_iconst (pc' := 3) (v := (1 : Int32)) dX10_isRowWell_2 rfl ic_1 ?_
  refine J_istore (pc' := 5) (i := 4) (lv' := [(4, .int (1 : Int32)), (3, .int (1 : Int32)), (0, .ref 35), (1, .int x1), (2, .int x2)]) dX10_isRowWell_3 rfl (by decide) rfl ?_
  refine J_sub [2, 3, 4, 1, 0] (lv' := [(0, .ref 35), (1, .int x1), (2, .int x2), (3, .int (1 : Int32)), (4, .int (1 : Int32))]) rfl ?_
  refine L_X10_isRowWell_L5 j_fu hs h (fun y12 y13 h => ?_)
  refine J_iload_n (pc' := 64) (i := 3) (n := 0) dX10_isRowWell_63 rfl rfl rfl ?_
  obtain ⟨hz, h⟩ := z_b_inv h
  exact J_zret (ty := .boolean) rfl (j_zb hz) dX10_isRowWell_64 ⟨rfl, Nat.le_refl _⟩ (j_pIs h)
abbrev JT_X10_layRow (l : Launch) (G : j_G) (r : j_M) : Nat → List (Nat × Value) → List Value → j_M → Prop := JJ l G md_X10_layRow (j_rm 2 (0, 0)) (0, 0) (0, 0) (po none r)
noncomputable def f_X10_layRow_L56 : Nat → j_M → Int32 → Int32 → Int32 → Int32 → Int32 → Int32 → (Int32 → Int32 → Option j_M) → Option j_M
  | 0, _, _, _, _, _, _, _, _ => none
  | n + 1, M, x3, x4, x5, x6, x7, x8, K =>
    if 0 < x7 then (f_X10_layRow_L56 n  M x3 x4 x5 x6 (x7 - ((x3 >>> (x8 &&& 31)) &&& (1 : Int32))) (x8 + (1 : Int32)) K) else (tl (f_X10_has x3 x8) fun v9 => (if v9 = 0 then (f_X10_layRow_L56 n  M x3 x4 x5 x6 (x7 - ((x3 >>> (x8 &&& 31)) &&& (1 : Int32))) (x8 + (1 : Int32)) K) else (K x7 x8)))
noncomputable def f_X10_layRow_L18 : Nat → j_M → Int32 → Int32 → Int32 → Int32 → (Int32 → Int32 → Int32 → Int32 → j_M → Option j_M) → Option j_M
  | 0, _, _, _, _, _, _ => none
  | n + 1, M, x3, x4, x5, x6, K =>
    if (j_I M 35 14) ≤ x6 then (K x3 x4 x5 x6 M) else (d_i x5 ((j_I M 35 14) - x6) fun v2 => (d_i x4 v2 fun v4 => (r_i x4 v2 fun v6 => (f_X10_layRow_L56 j_fu  M x3 v6 v2 x6 v4 (0 : Int32) (fun (y12 : Int32) (y13 : Int32) => (a_i M 42 7 y13 fun v14 => (w_i M 43 7 x6 v14 fun M16 => (f_X10_layRow_L18 n  M16 (x3 &&& (((1 : Int32) <<< (y13 &&& 31)) ^^^ ((-1) : Int32))) v6 v2 (x6 + (1 : Int32)) K))))))))
noncomputable def f_X10_layRow (M : j_M) (x1 : Int32) (x2 : Int32) : Option j_M :=
  f_X10_layRow_L18 j_fu  M (((1 : Int32) <<< ((j_I M 35 14) &&& 31)) - (1 : Int32)) x1 x2 (0 : Int32) (fun (y19 : Int32) (y20 : Int32) (y21 : Int32) (y22 : Int32) (M23 : j_M) => (some M23))
set_option maxHeartbeats 4000000 in
theorem L_X10_layRow_L56 {l : Launch} {G : j_G}  {r : j_M} : ∀ (n : Nat) {x3 : Int32} {x4 : Int32} {x5 : Int32} {x6 : Int32} {x7 : Int32} {x8 : Int32} {M : j_M} (hs : sh_m M.2.2) {K : Int32 → Int32 → Option j_M}, f_X10_layRow_L56 n  M x3 x4 x5 x6 x7 x8 K = some r → (∀ (y7 : Int32) (y8 : Int32), K y7 y8 = some r → JT_X10_layRow l G r 87 [(0, .ref 35), (3, .int x3), (4, .int x4), (5, .int x5), (6, .int x6), (8, .int y8)] [] M) → JT_X10_layRow l G r 56 [(0, .ref 35), (3, .int x3), (4, .int x4), (5, .int x5), (6, .int x6), (7, .int x7), (8, .int x8)] [] M := by
  intro n
  induction n with
  | zero =>
    intro x3 x4 x5 x6 x7 x8 M hs K h hK
    rw [f_X10_layRow_L56] at h; cases h
  | succ n ih =>
    intro x3 x4 x5 x6 x7 x8 M hs K h hK
    rw [f_X10_layRow_L56] at h
    refine J_iload (pc' := 58) (i := 7) (n := 5) dX10_layRow_56 rfl rfl ?_
    refine J_if_gt (pc' := 61) (tgt := 70) dX10_layRow_58 rfl (by decide) (fun c8 => ?_) (fun c8 => ?_)
    · replace h := j_ip c8 h
      refine J_iload (pc' := 72) (i := 7) (n := 5) dX10_layRow_70 rfl rfl ?_
      refine J_iload_n (pc' := 73) (i := 3) (n := 1) dX10_layRow_72 rfl rfl rfl ?_
      refine J_iload (pc' := 75) (i := 8) (n := 6) dX10_layRow_73 rfl rfl ?_
      refine J_ishr (pc' := 76) dX10_layRow_75 rfl ?_
      refine J_iconst (pc' := 77) (v := (1 : Int32)) dX10_layRow_76 rfl ic_1 ?_
      refine J_iand (pc' := 78) dX10_layRow_77 rfl ?_
      refine J_isub (pc' := 79) dX10_layRow_78 rfl ?_
      refine J_istore (pc' := 81) (i := 7) (lv' := [(7, .int (x7 - ((x3 >>> (x8 &&& 31)) &&& (1 : Int32)))), (0, .ref 35), (3, .int x3), (4, .int x4), (5, .int x5), (6, .int x6), (8, .int x8)]) dX10_layRow_79 rfl (by decide) rfl ?_
      refine J_iinc (pc' := 84) (i := 8) (n := 6) (v := (x8 + (1 : Int32))) (lv' := [(8, .int (x8 + (1 : Int32))), (7, .int (x7 - ((x3 >>> (x8 &&& 31)) &&& (1 : Int32)))), (0, .ref 35), (3, .int x3), (4, .int x4), (5, .int x5), (6, .int x6)]) dX10_layRow_81 rfl rfl (j_inc _ _ rfl _) (by decide) rfl ?_
      refine J_goto (pc' := 56) dX10_layRow_84 (by decide) ?_
      refine J_sub [2, 3, 4, 5, 6, 1, 0] (lv' := [(0, .ref 35), (3, .int x3), (4, .int x4), (5, .int x5), (6, .int x6), (7, .int (x7 - ((x3 >>> (x8 &&& 31)) &&& (1 : Int32)))), (8, .int (x8 + (1 : Int32)))]) rfl ?_
      exact ih hs h hK
    · replace h := j_iq c8 h
      refine J_iload_n (pc' := 62) (i := 3) (n := 1) dX10_layRow_61 rfl rfl rfl ?_
      refine J_iload (pc' := 64) (i := 8) (n := 6) dX10_layRow_62 rfl rfl ?_
      obtain ⟨v9, e10, h⟩ := tl_inv h
      refine J_callS (pc' := 67) (as := [.int x3, .int x8]) (rest := []) dX10_layRow_64 rfl lk_X10_74 rfl (c_X10_has e10) ⟨Nat.le_of_ble_eq_true rfl, Nat.le_of_ble_eq_true rfl⟩ (Nat.le_of_ble_eq_true rfl) ⟨Nat.le_of_ble_eq_true rfl, Nat.le_of_ble_eq_true rfl⟩ (j_kq ?_)
      refine J_if_ne (pc' := 70) (tgt := 87) dX10_layRow_67 rfl (by decide) (fun c11 => ?_) (fun c11 => ?_)
      · replace h := j_iq c11 h
        refine J_sub [0, 1, 2, 3, 4, 6] (lv' := [(0, .ref 35), (3, .int x3), (4, .int x4), (5, .int x5), (6, .int x6), (8, .int x8)]) rfl ?_
        exact hK x7 x8  h
      · replace h := j_ip c11 h
        refine J_iload (pc' := 72) (i := 7) (n := 5) dX10_layRow_70 rfl rfl ?_
        refine J_iload_n (pc' := 73) (i := 3) (n := 1) dX10_layRow_72 rfl rfl rfl ?_
        refine J_iload (pc' := 75) (i := 8) (n := 6) dX10_layRow_73 rfl rfl ?_
        refine J_ishr (pc' := 76) dX10_layRow_75 rfl ?_
        refine J_iconst (pc' := 77) (v := (1 : Int32)) dX10_layRow_76 rfl ic_1 ?_
        refine J_iand (pc' := 78) dX10_layRow_77 rfl ?_
        refine J_isub (pc' := 79) dX10_layRow_78 rfl ?_
        refine J_istore (pc' := 81) (i := 7) (lv' := [(7, .int (x7 - ((x3 >>> (x8 &&& 31)) &&& (1 : Int32)))), (0, .ref 35), (3, .int x3), (4, .int x4), (5, .int x5), (6, .int x6), (8, .int x8)]) dX10_layRow_79 rfl (by decide) rfl ?_
        refine J_iinc (pc' := 84) (i := 8) (n := 6) (v := (x8 + (1 : Int32))) (lv' := [(8, .int (x8 + (1 : Int32))), (7, .int (x7 - ((x3 >>> (x8 &&& 31)) &&& (1 : Int32)))), (0, .ref 35), (3, .int x3), (4, .int x4), (5, .int x5), (6, .int x6)]) dX10_layRow_81 rfl rfl (j_inc _ _ rfl _) (by decide) rfl ?_
        refine J_goto (pc' := 56) dX10_layRow_84 (by decide) ?_
        refine J_sub [2, 3, 4, 5, 6, 1, 0] (lv' := [(0, .ref 35), (3, .int x3), (4, .int x4), (5, .int x5), (6, .int x6), (7, .int (x7 - ((x3 >>> (x8 &&& 31)) &&& (1 : Int32)))), (8, .int (x8 + (1 : Int32)))]) rfl ?_
        exact ih hs h hK
set_option maxHeartbeats 4000000 in
theorem L_X10_layRow_L18 {l : Launch} {G : j_G}  {r : j_M} : ∀ (n : Nat) {x3 : Int32} {x4 : Int32} {x5 : Int32} {x6 : Int32} {M : j_M} (hs : sh_m M.2.2) {K : Int32 → Int32 → Int32 → Int32 → j_M → Option j_M}, f_X10_layRow_L18 n  M x3 x4 x5 x6 K = some r → (∀ (y3 : Int32) (y4 : Int32) (y5 : Int32) (y6 : Int32) (M1 : j_M), sh_m M1.2.2 → K y3 y4 y5 y6 M1 = some r → JT_X10_layRow l G r 116 [] [] M1) → JT_X10_layRow l G r 18 [(0, .ref 35), (3, .int x3), (4, .int x4), (5, .int x5), (6, .int x6)] [] M := by
  intro n
  induction n with
  | zero =>
    intro x3 x4 x5 x6 M hs K h hK
    rw [f_X10_layRow_L18] at h; cases h
  | succ n ih =>
    intro x3 x4 x5 x6 M hs K h hK
    rw [f_X10_layRow_L18] at h
    refine J_iload (pc' := 20) (i := 6) (n := 4) dX10_layRow_18 rfl rfl ?_
    refine J_aload_n (pc' := 21) (i := 0) (n := 0) dX10_layRow_20 rfl rfl rfl ?_
    refine J_getI (pc' := 24) dX10_layRow_21 rfl fl_X10_171 rfl (m_o hs) (m_n hs (Nat.le_of_ble_eq_true rfl)) ?_
    refine J_icmp_ge (pc' := 27) (tgt := 116) dX10_layRow_24 rfl (by decide) (fun c1 => ?_) (fun c1 => ?_)
    · replace h := j_ip c1 h
      refine J_sub [] (lv' := []) rfl ?_
      exact hK x3 x4 x5 x6 M hs h
    · replace h := j_iq c1 h
      refine J_iload (pc' := 29) (i := 5) (n := 3) dX10_layRow_27 rfl rfl ?_
      refine J_aload_n (pc' := 30) (i := 0) (n := 0) dX10_layRow_29 rfl rfl rfl ?_
      refine J_getI (pc' := 33) dX10_layRow_30 rfl fl_X10_171 rfl (m_o hs) (m_n hs (Nat.le_of_ble_eq_true rfl)) ?_
      refine J_iload (pc' := 35) (i := 6) (n := 4) dX10_layRow_33 rfl rfl ?_
      refine J_isub (pc' := 36) dX10_layRow_35 rfl ?_
      obtain ⟨v2, e3, h⟩ := d_i_inv h
      refine J_dive (pc' := 37) dX10_layRow_36 rfl e3 ?_
      refine J_istore (pc' := 39) (i := 5) (lv' := [(5, .int v2), (0, .ref 35), (3, .int x3), (4, .int x4), (6, .int x6)]) dX10_layRow_37 rfl (by decide) rfl ?_
      refine J_iload (pc' := 41) (i := 4) (n := 3) dX10_layRow_39 rfl rfl ?_
      refine J_iload (pc' := 43) (i := 5) (n := 0) dX10_layRow_41 rfl rfl ?_
      obtain ⟨v4, e5, h⟩ := d_i_inv h
      refine J_dive (pc' := 44) dX10_layRow_43 rfl e5 ?_
      refine J_istore (pc' := 46) (i := 7) (lv' := [(7, .int v4), (5, .int v2), (0, .ref 35), (3, .int x3), (4, .int x4), (6, .int x6)]) dX10_layRow_44 rfl (by decide) rfl ?_
      refine J_iload (pc' := 48) (i := 4) (n := 4) dX10_layRow_46 rfl rfl ?_
      refine J_iload (pc' := 50) (i := 5) (n := 1) dX10_layRow_48 rfl rfl ?_
      obtain ⟨v6, e7, h⟩ := r_i_inv h
      refine J_reme (pc' := 51) dX10_layRow_50 rfl e7 ?_
      refine J_istore (pc' := 53) (i := 4) (lv' := [(4, .int v6), (7, .int v4), (5, .int v2), (0, .ref 35), (3, .int x3), (6, .int x6)]) dX10_layRow_51 rfl (by decide) rfl ?_
      refine J_iconst (pc' := 54) (v := (0 : Int32)) dX10_layRow_53 rfl ic_0 ?_
      refine J_istore (pc' := 56) (i := 8) (lv' := [(8, .int (0 : Int32)), (4, .int v6), (7, .int v4), (5, .int v2), (0, .ref 35), (3, .int x3), (6, .int x6)]) dX10_layRow_54 rfl (by decide) rfl ?_
      refine J_sub [4, 5, 1, 3, 6, 2, 0] (lv' := [(0, .ref 35), (3, .int x3), (4, .int v6), (5, .int v2), (6, .int x6), (7, .int v4), (8, .int (0 : Int32))]) rfl ?_
      refine L_X10_layRow_L56 j_fu hs h (fun y12 y13 h => ?_)
      refine J_iload_n (pc' := 88) (i := 3) (n := 1) dX10_layRow_87 rfl rfl rfl ?_
      refine J_iconst (pc' := 89) (v := (1 : Int32)) dX10_layRow_88 rfl ic_1 ?_
      refine J_iload (pc' := 91) (i := 8) (n := 5) dX10_layRow_89 rfl rfl ?_
      refine J_ishl (pc' := 92) dX10_layRow_91 rfl ?_
      refine J_iconst (pc' := 93) (v := ((-1) : Int32)) dX10_layRow_92 rfl ic_m1 ?_
      refine J_ixor (pc' := 94) dX10_layRow_93 rfl ?_
      refine J_iand (pc' := 95) dX10_layRow_94 rfl ?_
      refine J_istore_n (pc' := 96) (i := 3) (lv' := [(3, .int (x3 &&& (((1 : Int32) <<< (y13 &&& 31)) ^^^ ((-1) : Int32)))), (0, .ref 35), (4, .int v6), (5, .int v2), (6, .int x6), (8, .int y13)]) dX10_layRow_95 rfl rfl (by decide) rfl ?_
      refine J_aload_n (pc' := 97) (i := 0) (n := 1) dX10_layRow_96 rfl rfl rfl ?_
      refine J_getR (pc' := 100) (b := 43) dX10_layRow_97 rfl fl_X10_36 rfl (m_o hs) (m_n hs (Nat.le_of_ble_eq_true rfl)) (m_r12 hs) ?_
      refine J_iload (pc' := 102) (i := 6) (n := 4) dX10_layRow_100 rfl rfl ?_
      refine J_aload_n (pc' := 103) (i := 0) (n := 1) dX10_layRow_102 rfl rfl rfl ?_
      refine J_getR (pc' := 106) (b := 42) dX10_layRow_103 rfl fl_X10_33 rfl (m_o hs) (m_n hs (Nat.le_of_ble_eq_true rfl)) (m_r11 hs) ?_
      refine J_iload (pc' := 108) (i := 8) (n := 5) dX10_layRow_106 rfl rfl ?_
      obtain ⟨v14, e15, h⟩ := a_i_inv h
      refine J_ialde (pc' := 109) dX10_layRow_108 rfl (m_s42 hs) (m_n hs (Nat.le_of_ble_eq_true rfl)) e15 ?_
      obtain ⟨M16, e17, h⟩ := w_i_inv h
      have g18 : sh_m M16.2.2 := j_shI e17.2 hs
      refine J_iaste (pc' := 110) dX10_layRow_109 rfl (m_s43 hs) (m_n hs (Nat.le_of_ble_eq_true rfl)) e17 ?_
      refine J_iinc (pc' := 113) (i := 6) (n := 4) (v := (x6 + (1 : Int32))) (lv' := [(6, .int (x6 + (1 : Int32))), (3, .int (x3 &&& (((1 : Int32) <<< (y13 &&& 31)) ^^^ ((-1) : Int32)))), (0, .ref 35), (4, .int v6), (5, .int v2), (8, .int y13)]) dX10_layRow_110 rfl rfl (j_inc _ _ rfl _) (by decide) rfl ?_
      refine J_goto (pc' := 18) dX10_layRow_113 (by decide) ?_
      refine J_sub [2, 1, 3, 4, 0] (lv' := [(0, .ref 35), (3, .int (x3 &&& (((1 : Int32) <<< (y13 &&& 31)) ^^^ ((-1) : Int32)))), (4, .int v6), (5, .int v2), (6, .int (x6 + (1 : Int32)))]) rfl ?_
      exact ih g18 h hK
set_option maxHeartbeats 4000000 in
theorem c_X10_layRow {l : Launch} {G : j_G} {M : j_M} {x1 : Int32} {x2 : Int32} (hs : sh_m M.2.2) {r : j_M} (h : f_X10_layRow M x1 x2 = some r) : j_Sp l G md_X10_layRow 2 (0, 0) [.ref 35, .int x1, .int x2] M (po none r) := by
  refine j_Sp.of (by decide) (Nat.le_of_ble_eq_true rfl) ?_
  show JT_X10_layRow l G r 0 [(0, .ref 35), (1, .int x1), (2, .int x2)] [] M
  unfold f_X10_layRow at h
  refine J_iconst (pc' := 1) (v := (1 : Int32)) dX10_layRow_0 rfl ic_1 ?_
  refine J_aload_n (pc' := 2) (i := 0) (n := 0) dX10_layRow_1 rfl rfl rfl ?_
  refine J_getI (pc' := 5) dX10_layRow_2 rfl fl_X10_171 rfl (m_o hs) (m_n hs (Nat.le_of_ble_eq_true rfl)) ?_
  refine J_ishl (pc' := 6) dX10_layRow_5 rfl ?_
  refine J_iconst (pc' := 7) (v := (1 : Int32)) dX10_layRow_6 rfl ic_1 ?_
  refine J_isub (pc' := 8) dX10_layRow_7 rfl ?_
  refine J_istore_n (pc' := 9) (i := 3) (lv' := [(3, .int (((1 : Int32) <<< ((j_I M 35 14) &&& 31)) - (1 : Int32))), (0, .ref 35), (1, .int x1), (2, .int x2)]) dX10_layRow_8 rfl rfl (by decide) rfl ?_
  refine J_iload_n (pc' := 10) (i := 1) (n := 2) dX10_layRow_9 rfl rfl rfl ?_
  refine J_istore (pc' := 12) (i := 4) (lv' := [(4, .int x1), (3, .int (((1 : Int32) <<< ((j_I M 35 14) &&& 31)) - (1 : Int32))), (0, .ref 35), (1, .int x1), (2, .int x2)]) dX10_layRow_10 rfl (by decide) rfl ?_
  refine J_iload_n (pc' := 13) (i := 2) (n := 4) dX10_layRow_12 rfl rfl rfl ?_
  refine J_istore (pc' := 15) (i := 5) (lv' := [(5, .int x2), (4, .int x1), (3, .int (((1 : Int32) <<< ((j_I M 35 14) &&& 31)) - (1 : Int32))), (0, .ref 35), (1, .int x1), (2, .int x2)]) dX10_layRow_13 rfl (by decide) rfl ?_
  refine J_iconst (pc' := 16) (v := (0 : Int32)) dX10_layRow_15 rfl ic_0 ?_
  refine J_istore (pc' := 18) (i := 6) (lv' := [(6, .int (0 : Int32)), (5, .int x2), (4, .int x1), (3, .int (((1 : Int32) <<< ((j_I M 35 14) &&& 31)) - (1 : Int32))), (0, .ref 35), (1, .int x1), (2, .int x2)]) dX10_layRow_16 rfl (by decide) rfl ?_
  refine J_sub [4, 3, 2, 1, 0] (lv' := [(0, .ref 35), (3, .int (((1 : Int32) <<< ((j_I M 35 14) &&& 31)) - (1 : Int32))), (4, .int x1), (5, .int x2), (6, .int (0 : Int32))]) rfl ?_
  refine L_X10_layRow_L18 j_fu hs h (fun y19 y20 y21 y22 M23 g24 h => ?_)
  exact J_vret rfl dX10_layRow_116 ⟨rfl, Nat.le_refl _⟩ (j_pV h)
abbrev JT_X10_order (l : Launch) (G : j_G) (r : (Int32 × j_M)) : Nat → List (Nat × Value) → List Value → j_M → Prop := JJ l G md_X10_order (j_rm 3 (0, 0)) (0, 0) (0, 0) (po (some (.int r.1)) r.2)
noncomputable def f_X10_order_L58 : Nat → j_M → Int32 → Int32 → Int32 → Int32 → Int32 → Int32 → (Int32 → Int32 → Option (Int32 × j_M)) → Option (Int32 × j_M)
  | 0, _, _, _, _, _, _, _, _ => none
  | n + 1, M, x2, x3, x4, x5, x6, x7, K =>
    if (j_I M 35 14) < x7 then (K x5 x7) else (f_X10_order_L58 n  M x2 x3 x4 (x5 * x7) x6 (x7 + (1 : Int32)) K)
noncomputable def f_X10_order_L109 : Nat → j_M → Int32 → Int32 → Int32 → Int32 → Int32 → Int32 → Int32 → Int32 → (Int32 → j_M → Option (Int32 × j_M)) → Option (Int32 × j_M)
  | 0, _, _, _, _, _, _, _, _, _, _ => none
  | n + 1, M, x2, x3, x4, x5, x6, x7, x8, x9, K =>
    if (j_I M 35 14) ≤ x9 then (K x9 M) else (if x8 = 0 then (K x9 M) else (if x6 = 0 then (a_i M 43 7 x9 fun v40 => (w_i M 44 7 x9 v40 fun M42 => (f_X10_order_L109 n  M42 x2 x3 x4 x5 x6 x7 x8 (x9 + (1 : Int32)) K))) else (K x9 M)))
noncomputable def f_X10_order_L83 : Nat → j_M → Int32 → Int32 → Int32 → Int32 → Int32 → Int32 → (Int32 → Int32 → j_M → Option (Int32 × j_M)) → Option (Int32 × j_M)
  | 0, _, _, _, _, _, _, _, _ => none
  | n + 1, M, x2, x3, x4, x5, x6, x7, K =>
    if x5 ≤ x7 then (K x6 x7 M) else ((f_X10_layRow M x7 x5).bind fun q31 => j_ck M q31 ((f_X10_isRowWell q31 x2 x3).bind fun v35 => (f_X10_order_L109 j_fu  q31 x2 x3 x4 x5 x6 x7 v35 (0 : Int32) (fun (y45 : Int32) (M46 : j_M) => (if v35 = 0 then (f_X10_order_L83 n  M46 x2 x3 x4 x5 (x6 + (0 : Int32)) (x7 + (1 : Int32)) K) else (f_X10_order_L83 n  M46 x2 x3 x4 x5 (x6 + (1 : Int32)) (x7 + (1 : Int32)) K))))))
noncomputable def f_X10_order (M : j_M) (x1 : Int32) (x2 : Int32) (x3 : Int32) (x4 : Int32) : Option (Int32 × j_M) :=
  tl (f_X10_isLane x1) fun v1 => (if v1 = 0 then ((f_X10_bad M ((-10) : Int32)).bind fun q4 => j_ck M q4.2 (some (q4.1, q4.2))) else (tl (f_X10_in (x2).toInt64 (0 : Int64) (60 : Int64)) fun v8 => (if v8 = 0 then ((f_X10_bad M ((-10) : Int32)).bind fun q11 => j_ck M q11.2 (some (q11.1, q11.2))) else (tl (f_X10_in (x3).toInt64 (1 : Int64) (9 : Int64)) fun v15 => (if v15 = 0 then ((f_X10_bad M ((-10) : Int32)).bind fun q18 => j_ck M q18.2 (some (q18.1, q18.2))) else (if ((-1) : Int32) ≤ x4 then ((f_X10_layStart M x1).bind fun q23 => j_ck M q23 (f_X10_order_L58 j_fu  q23 x2 x3 x4 (1 : Int32) (0 : Int32) (2 : Int32) (fun (y28 : Int32) (y29 : Int32) => (f_X10_order_L83 j_fu  q23 x2 x3 x4 y28 (0 : Int32) (0 : Int32) (fun (y49 : Int32) (y50 : Int32) (M51 : j_M) => (if x4 = ((-1) : Int32) then (some (y49, M51)) else (if y49 = 0 then (some (((-1) : Int32), M51)) else (if (j_I M51 35 14) ≤ x4 then (some (((-5) : Int32), M51)) else (a_i M51 44 7 x4 fun v56 => (some (v56, M51))))))))))) else ((f_X10_bad M ((-10) : Int32)).bind fun q58 => j_ck M q58.2 (some (q58.1, q58.2)))))))))
set_option maxHeartbeats 4000000 in
theorem L_X10_order_L58 {l : Launch} {G : j_G}  {r : (Int32 × j_M)} : ∀ (n : Nat) {x2 : Int32} {x3 : Int32} {x4 : Int32} {x5 : Int32} {x6 : Int32} {x7 : Int32} {M : j_M} (hs : sh_m M.2.2) {K : Int32 → Int32 → Option (Int32 × j_M)}, f_X10_order_L58 n  M x2 x3 x4 x5 x6 x7 K = some r → (∀ (y5 : Int32) (y7 : Int32), K y5 y7 = some r → JT_X10_order l G r 80 [(0, .ref 35), (2, .int x2), (3, .int x3), (4, .int x4), (5, .int y5), (6, .int x6)] [] M) → JT_X10_order l G r 58 [(0, .ref 35), (2, .int x2), (3, .int x3), (4, .int x4), (5, .int x5), (6, .int x6), (7, .int x7)] [] M := by
  intro n
  induction n with
  | zero =>
    intro x2 x3 x4 x5 x6 x7 M hs K h hK
    rw [f_X10_order_L58] at h; cases h
  | succ n ih =>
    intro x2 x3 x4 x5 x6 x7 M hs K h hK
    rw [f_X10_order_L58] at h
    refine J_iload (pc' := 60) (i := 7) (n := 6) dX10_order_58 rfl rfl ?_
    refine J_aload_n (pc' := 61) (i := 0) (n := 0) dX10_order_60 rfl rfl rfl ?_
    refine J_getI (pc' := 64) dX10_order_61 rfl fl_X10_171 rfl (m_o hs) (m_n hs (Nat.le_of_ble_eq_true rfl)) ?_
    refine J_icmp_gt (pc' := 67) (tgt := 80) dX10_order_64 rfl (by decide) (fun c27 => ?_) (fun c27 => ?_)
    · replace h := j_ip c27 h
      refine J_sub [0, 1, 2, 3, 4, 5] (lv' := [(0, .ref 35), (2, .int x2), (3, .int x3), (4, .int x4), (5, .int x5), (6, .int x6)]) rfl ?_
      exact hK x5 x7  h
    · replace h := j_iq c27 h
      refine J_iload (pc' := 69) (i := 5) (n := 4) dX10_order_67 rfl rfl ?_
      refine J_iload (pc' := 71) (i := 7) (n := 6) dX10_order_69 rfl rfl ?_
      refine J_imul (pc' := 72) dX10_order_71 rfl ?_
      refine J_istore (pc' := 74) (i := 5) (lv' := [(5, .int (x5 * x7)), (0, .ref 35), (2, .int x2), (3, .int x3), (4, .int x4), (6, .int x6), (7, .int x7)]) dX10_order_72 rfl (by decide) rfl ?_
      refine J_iinc (pc' := 77) (i := 7) (n := 6) (v := (x7 + (1 : Int32))) (lv' := [(7, .int (x7 + (1 : Int32))), (5, .int (x5 * x7)), (0, .ref 35), (2, .int x2), (3, .int x3), (4, .int x4), (6, .int x6)]) dX10_order_74 rfl rfl (j_inc _ _ rfl _) (by decide) rfl ?_
      refine J_goto (pc' := 58) dX10_order_77 (by decide) ?_
      refine J_sub [2, 3, 4, 5, 1, 6, 0] (lv' := [(0, .ref 35), (2, .int x2), (3, .int x3), (4, .int x4), (5, .int (x5 * x7)), (6, .int x6), (7, .int (x7 + (1 : Int32)))]) rfl ?_
      exact ih hs h hK
set_option maxHeartbeats 4000000 in
theorem L_X10_order_L109 {l : Launch} {G : j_G}  {r : (Int32 × j_M)} : ∀ (n : Nat) {x2 : Int32} {x3 : Int32} {x4 : Int32} {x5 : Int32} {x6 : Int32} {x7 : Int32} {x8 : Int32} {x9 : Int32} {M : j_M} (hs : sh_m M.2.2) {K : Int32 → j_M → Option (Int32 × j_M)}, f_X10_order_L109 n  M x2 x3 x4 x5 x6 x7 x8 x9 K = some r → (∀ (y9 : Int32) (M1 : j_M), sh_m M1.2.2 → K y9 M1 = some r → JT_X10_order l G r 148 [(0, .ref 35), (2, .int x2), (3, .int x3), (4, .int x4), (5, .int x5), (6, .int x6), (7, .int x7), (8, .int x8)] [] M1) → JT_X10_order l G r 109 [(0, .ref 35), (2, .int x2), (3, .int x3), (4, .int x4), (5, .int x5), (6, .int x6), (7, .int x7), (8, .int x8), (9, .int x9)] [] M := by
  intro n
  induction n with
  | zero =>
    intro x2 x3 x4 x5 x6 x7 x8 x9 M hs K h hK
    rw [f_X10_order_L109] at h; cases h
  | succ n ih =>
    intro x2 x3 x4 x5 x6 x7 x8 x9 M hs K h hK
    rw [f_X10_order_L109] at h
    refine J_iload (pc' := 111) (i := 9) (n := 8) dX10_order_109 rfl rfl ?_
    refine J_aload_n (pc' := 112) (i := 0) (n := 0) dX10_order_111 rfl rfl rfl ?_
    refine J_getI (pc' := 115) dX10_order_112 rfl fl_X10_171 rfl (m_o hs) (m_n hs (Nat.le_of_ble_eq_true rfl)) ?_
    refine J_icmp_ge (pc' := 118) (tgt := 148) dX10_order_115 rfl (by decide) (fun c37 => ?_) (fun c37 => ?_)
    · replace h := j_ip c37 h
      refine J_sub [0, 1, 2, 3, 4, 5, 6, 7] (lv' := [(0, .ref 35), (2, .int x2), (3, .int x3), (4, .int x4), (5, .int x5), (6, .int x6), (7, .int x7), (8, .int x8)]) rfl ?_
      exact hK x9 M hs h
    · replace h := j_iq c37 h
      refine J_iload (pc' := 120) (i := 8) (n := 7) dX10_order_118 rfl rfl ?_
      refine J_if_eq (pc' := 123) (tgt := 148) dX10_order_120 rfl (by decide) (fun c38 => ?_) (fun c38 => ?_)
      · replace h := j_ip c38 h
        refine J_sub [0, 1, 2, 3, 4, 5, 6, 7] (lv' := [(0, .ref 35), (2, .int x2), (3, .int x3), (4, .int x4), (5, .int x5), (6, .int x6), (7, .int x7), (8, .int x8)]) rfl ?_
        exact hK x9 M hs h
      · replace h := j_iq c38 h
        refine J_iload (pc' := 125) (i := 6) (n := 5) dX10_order_123 rfl rfl ?_
        refine J_if_ne (pc' := 128) (tgt := 148) dX10_order_125 rfl (by decide) (fun c39 => ?_) (fun c39 => ?_)
        · replace h := j_iq c39 h
          refine J_sub [0, 1, 2, 3, 4, 5, 6, 7] (lv' := [(0, .ref 35), (2, .int x2), (3, .int x3), (4, .int x4), (5, .int x5), (6, .int x6), (7, .int x7), (8, .int x8)]) rfl ?_
          exact hK x9 M hs h
        · replace h := j_ip c39 h
          refine J_aload_n (pc' := 129) (i := 0) (n := 0) dX10_order_128 rfl rfl rfl ?_
          refine J_getR (pc' := 132) (b := 44) dX10_order_129 rfl fl_X10_39 rfl (m_o hs) (m_n hs (Nat.le_of_ble_eq_true rfl)) (m_r13 hs) ?_
          refine J_iload (pc' := 134) (i := 9) (n := 8) dX10_order_132 rfl rfl ?_
          refine J_aload_n (pc' := 135) (i := 0) (n := 0) dX10_order_134 rfl rfl rfl ?_
          refine J_getR (pc' := 138) (b := 43) dX10_order_135 rfl fl_X10_36 rfl (m_o hs) (m_n hs (Nat.le_of_ble_eq_true rfl)) (m_r12 hs) ?_
          refine J_iload (pc' := 140) (i := 9) (n := 8) dX10_order_138 rfl rfl ?_
          obtain ⟨v40, e41, h⟩ := a_i_inv h
          refine J_ialde (pc' := 141) dX10_order_140 rfl (m_s43 hs) (m_n hs (Nat.le_of_ble_eq_true rfl)) e41 ?_
          obtain ⟨M42, e43, h⟩ := w_i_inv h
          have g44 : sh_m M42.2.2 := j_shI e43.2 hs
          refine J_iaste (pc' := 142) dX10_order_141 rfl (m_s44 hs) (m_n hs (Nat.le_of_ble_eq_true rfl)) e43 ?_
          refine J_iinc (pc' := 145) (i := 9) (n := 8) (v := (x9 + (1 : Int32))) (lv' := [(9, .int (x9 + (1 : Int32))), (0, .ref 35), (2, .int x2), (3, .int x3), (4, .int x4), (5, .int x5), (6, .int x6), (7, .int x7), (8, .int x8)]) dX10_order_142 rfl rfl (j_inc _ _ rfl _) (by decide) rfl ?_
          refine J_goto (pc' := 109) dX10_order_145 (by decide) ?_
          refine J_sub [1, 2, 3, 4, 5, 6, 7, 8, 0] (lv' := [(0, .ref 35), (2, .int x2), (3, .int x3), (4, .int x4), (5, .int x5), (6, .int x6), (7, .int x7), (8, .int x8), (9, .int (x9 + (1 : Int32)))]) rfl ?_
          exact ih g44 h hK
set_option maxHeartbeats 4000000 in
theorem L_X10_order_L83 {l : Launch} {G : j_G}  {r : (Int32 × j_M)} : ∀ (n : Nat) {x2 : Int32} {x3 : Int32} {x4 : Int32} {x5 : Int32} {x6 : Int32} {x7 : Int32} {M : j_M} (hs : sh_m M.2.2) {K : Int32 → Int32 → j_M → Option (Int32 × j_M)}, f_X10_order_L83 n  M x2 x3 x4 x5 x6 x7 K = some r → (∀ (y6 : Int32) (y7 : Int32) (M1 : j_M), sh_m M1.2.2 → K y6 y7 M1 = some r → JT_X10_order l G r 169 [(0, .ref 35), (4, .int x4), (6, .int y6)] [] M1) → JT_X10_order l G r 83 [(0, .ref 35), (2, .int x2), (3, .int x3), (4, .int x4), (5, .int x5), (6, .int x6), (7, .int x7)] [] M := by
  intro n
  induction n with
  | zero =>
    intro x2 x3 x4 x5 x6 x7 M hs K h hK
    rw [f_X10_order_L83] at h; cases h
  | succ n ih =>
    intro x2 x3 x4 x5 x6 x7 M hs K h hK
    rw [f_X10_order_L83] at h
    refine J_iload (pc' := 85) (i := 7) (n := 6) dX10_order_83 rfl rfl ?_
    refine J_iload (pc' := 87) (i := 5) (n := 4) dX10_order_85 rfl rfl ?_
    refine J_icmp_ge (pc' := 90) (tgt := 169) dX10_order_87 rfl (by decide) (fun c30 => ?_) (fun c30 => ?_)
    · replace h := j_ip c30 h
      refine J_sub [0, 3, 5] (lv' := [(0, .ref 35), (4, .int x4), (6, .int x6)]) rfl ?_
      exact hK x6 x7 M hs h
    · replace h := j_iq c30 h
      refine J_aload_n (pc' := 91) (i := 0) (n := 0) dX10_order_90 rfl rfl rfl ?_
      refine J_iload (pc' := 93) (i := 7) (n := 6) dX10_order_91 rfl rfl ?_
      refine J_iload (pc' := 95) (i := 5) (n := 4) dX10_order_93 rfl rfl ?_
      obtain ⟨q31, e32, h⟩ := bi_inv h
      obtain ⟨c33, h⟩ := j_ck_inv h
      refine J_callV (pc' := 98) (as := [.int x7, .int x5]) (rest := []) dX10_order_95 rfl lk_X10_180 rfl 10 (by decide) rfl (m_o hs) (m_n hs (Nat.le_of_ble_eq_true rfl)) (c_X10_layRow hs e32) ⟨Nat.le_of_ble_eq_true rfl, Nat.le_of_ble_eq_true rfl⟩ (Nat.le_of_ble_eq_true rfl) ⟨Nat.le_of_ble_eq_true rfl, Nat.le_of_ble_eq_true rfl⟩ (j_kv ?_)
      have g34 : sh_m q31.2.2 := j_shE c33 hs
      refine J_aload_n (pc' := 99) (i := 0) (n := 0) dX10_order_98 rfl rfl rfl ?_
      refine J_iload_n (pc' := 100) (i := 2) (n := 1) dX10_order_99 rfl rfl rfl ?_
      refine J_iload_n (pc' := 101) (i := 3) (n := 2) dX10_order_100 rfl rfl rfl ?_
      obtain ⟨v35, e36, h⟩ := bi_inv h
      refine J_callV (pc' := 104) (as := [.int x2, .int x3]) (rest := []) dX10_order_101 rfl lk_X10_183 rfl 10 (by decide) rfl (m_o g34) (m_n g34 (Nat.le_of_ble_eq_true rfl)) (c_X10_isRowWell g34 e36) ⟨Nat.le_of_ble_eq_true rfl, Nat.le_of_ble_eq_true rfl⟩ (Nat.le_of_ble_eq_true rfl) ⟨Nat.le_of_ble_eq_true rfl, Nat.le_of_ble_eq_true rfl⟩ (j_kq ?_)
      refine J_istore (pc' := 106) (i := 8) (lv' := [(8, .int v35), (0, .ref 35), (2, .int x2), (3, .int x3), (4, .int x4), (5, .int x5), (6, .int x6), (7, .int x7)]) dX10_order_104 rfl (by decide) rfl ?_
      refine J_iconst (pc' := 107) (v := (0 : Int32)) dX10_order_106 rfl ic_0 ?_
      refine J_istore (pc' := 109) (i := 9) (lv' := [(9, .int (0 : Int32)), (8, .int v35), (0, .ref 35), (2, .int x2), (3, .int x3), (4, .int x4), (5, .int x5), (6, .int x6), (7, .int x7)]) dX10_order_107 rfl (by decide) rfl ?_
      refine J_sub [2, 3, 4, 5, 6, 7, 8, 1, 0] (lv' := [(0, .ref 35), (2, .int x2), (3, .int x3), (4, .int x4), (5, .int x5), (6, .int x6), (7, .int x7), (8, .int v35), (9, .int (0 : Int32))]) rfl ?_
      refine L_X10_order_L109 j_fu g34 h (fun y45 M46 g47 h => ?_)
      refine J_iload (pc' := 150) (i := 6) (n := 5) dX10_order_148 rfl rfl ?_
      refine J_iload (pc' := 152) (i := 8) (n := 7) dX10_order_150 rfl rfl ?_
      refine J_if_eq (pc' := 155) (tgt := 159) dX10_order_152 rfl (by decide) (fun c48 => ?_) (fun c48 => ?_)
      · replace h := j_ip c48 h
        refine J_iconst (pc' := 160) (v := (0 : Int32)) dX10_order_159 rfl ic_0 ?_
        refine J_iadd (pc' := 161) dX10_order_160 rfl ?_
        refine J_istore (pc' := 163) (i := 6) (lv' := [(6, .int (x6 + (0 : Int32))), (0, .ref 35), (2, .int x2), (3, .int x3), (4, .int x4), (5, .int x5), (7, .int x7), (8, .int v35)]) dX10_order_161 rfl (by decide) rfl ?_
        refine J_iinc (pc' := 166) (i := 7) (n := 6) (v := (x7 + (1 : Int32))) (lv' := [(7, .int (x7 + (1 : Int32))), (6, .int (x6 + (0 : Int32))), (0, .ref 35), (2, .int x2), (3, .int x3), (4, .int x4), (5, .int x5), (8, .int v35)]) dX10_order_163 rfl rfl (j_inc _ _ rfl _) (by decide) rfl ?_
        refine J_goto (pc' := 83) dX10_order_166 (by decide) ?_
        refine J_sub [2, 3, 4, 5, 6, 1, 0] (lv' := [(0, .ref 35), (2, .int x2), (3, .int x3), (4, .int x4), (5, .int x5), (6, .int (x6 + (0 : Int32))), (7, .int (x7 + (1 : Int32)))]) rfl ?_
        exact ih g47 h hK
      · replace h := j_iq c48 h
        refine J_iconst (pc' := 156) (v := (1 : Int32)) dX10_order_155 rfl ic_1 ?_
        refine J_goto (pc' := 160) dX10_order_156 (by decide) ?_
        refine J_iadd (pc' := 161) dX10_order_160 rfl ?_
        refine J_istore (pc' := 163) (i := 6) (lv' := [(6, .int (x6 + (1 : Int32))), (0, .ref 35), (2, .int x2), (3, .int x3), (4, .int x4), (5, .int x5), (7, .int x7), (8, .int v35)]) dX10_order_161 rfl (by decide) rfl ?_
        refine J_iinc (pc' := 166) (i := 7) (n := 6) (v := (x7 + (1 : Int32))) (lv' := [(7, .int (x7 + (1 : Int32))), (6, .int (x6 + (1 : Int32))), (0, .ref 35), (2, .int x2), (3, .int x3), (4, .int x4), (5, .int x5), (8, .int v35)]) dX10_order_163 rfl rfl (j_inc _ _ rfl _) (by decide) rfl ?_
        refine J_goto (pc' := 83) dX10_order_166 (by decide) ?_
        refine J_sub [2, 3, 4, 5, 6, 1, 0] (lv' := [(0, .ref 35), (2, .int x2), (3, .int x3), (4, .int x4), (5, .int x5), (6, .int (x6 + (1 : Int32))), (7, .int (x7 + (1 : Int32)))]) rfl ?_
        exact ih g47 h hK
set_option maxHeartbeats 4000000 in
theorem c_X10_order {l : Launch} {G : j_G} {M : j_M} {x1 : Int32} {x2 : Int32} {x3 : Int32} {x4 : Int32} (hs : sh_m M.2.2) {r : (Int32 × j_M)} (h : f_X10_order M x1 x2 x3 x4 = some r) : j_Sp l G md_X10_order 3 (0, 0) [.ref 35, .int x1, .int x2, .int x3, .int x4] M (po (some (.int r.1)) r.2) := by
  refine j_Sp.of (by decide) (Nat.le_of_ble_eq_true rfl) ?_
  show JT_X10_order l G r 0 [(0, .ref 35), (1, .int x1), (2, .int x2), (3, .int x3), (4, .int x4)] [] M
  unfold f_X10_order at h
  refine J_iload_n (pc' := 1) (i := 1) (n := 1) dX10_order_0 rfl rfl rfl ?_
  obtain ⟨v1, e2, h⟩ := tl_inv h
  refine J_callS (pc' := 4) (as := [.int x1]) (rest := []) dX10_order_1 rfl lk_X10_78 rfl (c_X10_isLane e2) ⟨Nat.le_of_ble_eq_true rfl, Nat.le_of_ble_eq_true rfl⟩ (Nat.le_of_ble_eq_true rfl) ⟨Nat.le_of_ble_eq_true rfl, Nat.le_of_ble_eq_true rfl⟩ (j_kq ?_)
  refine J_if_eq (pc' := 7) (tgt := 37) dX10_order_4 rfl (by decide) (fun c3 => ?_) (fun c3 => ?_)
  · replace h := j_ip c3 h
    refine J_aload_n (pc' := 38) (i := 0) (n := 0) dX10_order_37 rfl rfl rfl ?_
    refine J_bipush (pc' := 40) (v := ((-10) : Int32)) dX10_order_38 rfl bp_m10 ?_
    obtain ⟨q4, e5, h⟩ := bi_inv h
    obtain ⟨c6, h⟩ := j_ck_inv h
    refine J_callV (pc' := 43) (as := [.int ((-10) : Int32)]) (rest := []) dX10_order_40 rfl lk_X10_84 rfl 10 (by decide) rfl (m_o hs) (m_n hs (Nat.le_of_ble_eq_true rfl)) (c_X10_bad hs e5) ⟨Nat.le_of_ble_eq_true rfl, Nat.le_of_ble_eq_true rfl⟩ (Nat.le_of_ble_eq_true rfl) ⟨Nat.le_of_ble_eq_true rfl, Nat.le_of_ble_eq_true rfl⟩ (j_kq ?_)
    have g7 : sh_m q4.2.2.2 := j_shE c6 hs
    exact J_iret rfl dX10_order_43 ⟨rfl, Nat.le_refl _⟩ (j_pW h)
  · replace h := j_iq c3 h
    refine J_iload_n (pc' := 8) (i := 2) (n := 2) dX10_order_7 rfl rfl rfl ?_
    refine J_i2l (pc' := 9) dX10_order_8 rfl ?_
    refine J_lconst (pc' := 10) (v := (0 : Int64)) dX10_order_9 rfl rfl ?_
    refine J_ldc2 (pc' := 13) (v := (60 : Int64)) dX10_order_10 rfl wd_1050 ?_
    obtain ⟨v8, e9, h⟩ := tl_inv h
    refine J_callS (pc' := 16) (as := [.long (x2).toInt64, .long (0 : Int64), .long (60 : Int64)]) (rest := []) dX10_order_13 rfl lk_X10_68 rfl (c_X10_in e9) ⟨Nat.le_of_ble_eq_true rfl, Nat.le_of_ble_eq_true rfl⟩ (Nat.le_of_ble_eq_true rfl) ⟨Nat.le_of_ble_eq_true rfl, Nat.le_of_ble_eq_true rfl⟩ (j_kq ?_)
    refine J_if_eq (pc' := 19) (tgt := 37) dX10_order_16 rfl (by decide) (fun c10 => ?_) (fun c10 => ?_)
    · replace h := j_ip c10 h
      refine J_aload_n (pc' := 38) (i := 0) (n := 0) dX10_order_37 rfl rfl rfl ?_
      refine J_bipush (pc' := 40) (v := ((-10) : Int32)) dX10_order_38 rfl bp_m10 ?_
      obtain ⟨q11, e12, h⟩ := bi_inv h
      obtain ⟨c13, h⟩ := j_ck_inv h
      refine J_callV (pc' := 43) (as := [.int ((-10) : Int32)]) (rest := []) dX10_order_40 rfl lk_X10_84 rfl 10 (by decide) rfl (m_o hs) (m_n hs (Nat.le_of_ble_eq_true rfl)) (c_X10_bad hs e12) ⟨Nat.le_of_ble_eq_true rfl, Nat.le_of_ble_eq_true rfl⟩ (Nat.le_of_ble_eq_true rfl) ⟨Nat.le_of_ble_eq_true rfl, Nat.le_of_ble_eq_true rfl⟩ (j_kq ?_)
      have g14 : sh_m q11.2.2.2 := j_shE c13 hs
      exact J_iret rfl dX10_order_43 ⟨rfl, Nat.le_refl _⟩ (j_pW h)
    · replace h := j_iq c10 h
      refine J_iload_n (pc' := 20) (i := 3) (n := 3) dX10_order_19 rfl rfl rfl ?_
      refine J_i2l (pc' := 21) dX10_order_20 rfl ?_
      refine J_lconst (pc' := 22) (v := (1 : Int64)) dX10_order_21 rfl rfl ?_
      refine J_ldc2 (pc' := 25) (v := (9 : Int64)) dX10_order_22 rfl wd_1146 ?_
      obtain ⟨v15, e16, h⟩ := tl_inv h
      refine J_callS (pc' := 28) (as := [.long (x3).toInt64, .long (1 : Int64), .long (9 : Int64)]) (rest := []) dX10_order_25 rfl lk_X10_68 rfl (c_X10_in e16) ⟨Nat.le_of_ble_eq_true rfl, Nat.le_of_ble_eq_true rfl⟩ (Nat.le_of_ble_eq_true rfl) ⟨Nat.le_of_ble_eq_true rfl, Nat.le_of_ble_eq_true rfl⟩ (j_kq ?_)
      refine J_if_eq (pc' := 31) (tgt := 37) dX10_order_28 rfl (by decide) (fun c17 => ?_) (fun c17 => ?_)
      · replace h := j_ip c17 h
        refine J_aload_n (pc' := 38) (i := 0) (n := 0) dX10_order_37 rfl rfl rfl ?_
        refine J_bipush (pc' := 40) (v := ((-10) : Int32)) dX10_order_38 rfl bp_m10 ?_
        obtain ⟨q18, e19, h⟩ := bi_inv h
        obtain ⟨c20, h⟩ := j_ck_inv h
        refine J_callV (pc' := 43) (as := [.int ((-10) : Int32)]) (rest := []) dX10_order_40 rfl lk_X10_84 rfl 10 (by decide) rfl (m_o hs) (m_n hs (Nat.le_of_ble_eq_true rfl)) (c_X10_bad hs e19) ⟨Nat.le_of_ble_eq_true rfl, Nat.le_of_ble_eq_true rfl⟩ (Nat.le_of_ble_eq_true rfl) ⟨Nat.le_of_ble_eq_true rfl, Nat.le_of_ble_eq_true rfl⟩ (j_kq ?_)
        have g21 : sh_m q18.2.2.2 := j_shE c20 hs
        exact J_iret rfl dX10_order_43 ⟨rfl, Nat.le_refl _⟩ (j_pW h)
      · replace h := j_iq c17 h
        refine J_iload (pc' := 33) (i := 4) (n := 4) dX10_order_31 rfl rfl ?_
        refine J_iconst (pc' := 34) (v := ((-1) : Int32)) dX10_order_33 rfl ic_m1 ?_
        refine J_icmp_ge (pc' := 37) (tgt := 44) dX10_order_34 rfl (by decide) (fun c22 => ?_) (fun c22 => ?_)
        · replace h := j_ip c22 h
          refine J_iconst (pc' := 45) (v := (1 : Int32)) dX10_order_44 rfl ic_1 ?_
          refine J_istore (pc' := 47) (i := 5) (lv' := [(5, .int (1 : Int32)), (0, .ref 35), (1, .int x1), (2, .int x2), (3, .int x3), (4, .int x4)]) dX10_order_45 rfl (by decide) rfl ?_
          refine J_iconst (pc' := 48) (v := (0 : Int32)) dX10_order_47 rfl ic_0 ?_
          refine J_istore (pc' := 50) (i := 6) (lv' := [(6, .int (0 : Int32)), (5, .int (1 : Int32)), (0, .ref 35), (1, .int x1), (2, .int x2), (3, .int x3), (4, .int x4)]) dX10_order_48 rfl (by decide) rfl ?_
          refine J_aload_n (pc' := 51) (i := 0) (n := 2) dX10_order_50 rfl rfl rfl ?_
          refine J_iload_n (pc' := 52) (i := 1) (n := 3) dX10_order_51 rfl rfl rfl ?_
          obtain ⟨q23, e24, h⟩ := bi_inv h
          obtain ⟨c25, h⟩ := j_ck_inv h
          refine J_callV (pc' := 55) (as := [.int x1]) (rest := []) dX10_order_52 rfl lk_X10_176 rfl 10 (by decide) rfl (m_o hs) (m_n hs (Nat.le_of_ble_eq_true rfl)) (c_X10_layStart hs e24) ⟨Nat.le_of_ble_eq_true rfl, Nat.le_of_ble_eq_true rfl⟩ (Nat.le_of_ble_eq_true rfl) ⟨Nat.le_of_ble_eq_true rfl, Nat.le_of_ble_eq_true rfl⟩ (j_kv ?_)
          have g26 : sh_m q23.2.2 := j_shE c25 hs
          refine J_iconst (pc' := 56) (v := (2 : Int32)) dX10_order_55 rfl ic_2 ?_
          refine J_istore (pc' := 58) (i := 7) (lv' := [(7, .int (2 : Int32)), (6, .int (0 : Int32)), (5, .int (1 : Int32)), (0, .ref 35), (1, .int x1), (2, .int x2), (3, .int x3), (4, .int x4)]) dX10_order_56 rfl (by decide) rfl ?_
          refine J_sub [3, 5, 6, 7, 2, 1, 0] (lv' := [(0, .ref 35), (2, .int x2), (3, .int x3), (4, .int x4), (5, .int (1 : Int32)), (6, .int (0 : Int32)), (7, .int (2 : Int32))]) rfl ?_
          refine L_X10_order_L58 j_fu g26 h (fun y28 y29 h => ?_)
          refine J_iconst (pc' := 81) (v := (0 : Int32)) dX10_order_80 rfl ic_0 ?_
          refine J_istore (pc' := 83) (i := 7) (lv' := [(7, .int (0 : Int32)), (0, .ref 35), (2, .int x2), (3, .int x3), (4, .int x4), (5, .int y28), (6, .int (0 : Int32))]) dX10_order_81 rfl (by decide) rfl ?_
          refine J_sub [1, 2, 3, 4, 5, 6, 0] (lv' := [(0, .ref 35), (2, .int x2), (3, .int x3), (4, .int x4), (5, .int y28), (6, .int (0 : Int32)), (7, .int (0 : Int32))]) rfl ?_
          refine L_X10_order_L83 j_fu g26 h (fun y49 y50 M51 g52 h => ?_)
          refine J_iload (pc' := 171) (i := 4) (n := 1) dX10_order_169 rfl rfl ?_
          refine J_iconst (pc' := 172) (v := ((-1) : Int32)) dX10_order_171 rfl ic_m1 ?_
          refine J_icmp_ne (pc' := 175) (tgt := 180) dX10_order_172 rfl (by decide) (fun c53 => ?_) (fun c53 => ?_)
          · replace h := j_iq c53 h
            refine J_iload (pc' := 182) (i := 6) (n := 2) dX10_order_180 rfl rfl ?_
            refine J_if_ne (pc' := 185) (tgt := 189) dX10_order_182 rfl (by decide) (fun c54 => ?_) (fun c54 => ?_)
            · replace h := j_iq c54 h
              refine J_iload (pc' := 191) (i := 4) (n := 1) dX10_order_189 rfl rfl ?_
              refine J_aload_n (pc' := 192) (i := 0) (n := 0) dX10_order_191 rfl rfl rfl ?_
              refine J_getI (pc' := 195) dX10_order_192 rfl fl_X10_171 rfl (m_o g52) (m_n g52 (Nat.le_of_ble_eq_true rfl)) ?_
              refine J_icmp_ge (pc' := 198) (tgt := 208) dX10_order_195 rfl (by decide) (fun c55 => ?_) (fun c55 => ?_)
              · replace h := j_ip c55 h
                refine J_bipush (pc' := 210) (v := ((-5) : Int32)) dX10_order_208 rfl bp_m5 ?_
                exact J_iret rfl dX10_order_210 ⟨rfl, Nat.le_refl _⟩ (j_pW h)
              · replace h := j_iq c55 h
                refine J_aload_n (pc' := 199) (i := 0) (n := 0) dX10_order_198 rfl rfl rfl ?_
                refine J_getR (pc' := 202) (b := 44) dX10_order_199 rfl fl_X10_39 rfl (m_o g52) (m_n g52 (Nat.le_of_ble_eq_true rfl)) (m_r13 g52) ?_
                refine J_iload (pc' := 204) (i := 4) (n := 1) dX10_order_202 rfl rfl ?_
                obtain ⟨v56, e57, h⟩ := a_i_inv h
                refine J_ialde (pc' := 205) dX10_order_204 rfl (m_s44 g52) (m_n g52 (Nat.le_of_ble_eq_true rfl)) e57 ?_
                refine J_goto (pc' := 210) dX10_order_205 (by decide) ?_
                exact J_iret rfl dX10_order_210 ⟨rfl, Nat.le_refl _⟩ (j_pW h)
            · replace h := j_ip c54 h
              refine J_iconst (pc' := 186) (v := ((-1) : Int32)) dX10_order_185 rfl ic_m1 ?_
              refine J_goto (pc' := 210) dX10_order_186 (by decide) ?_
              exact J_iret rfl dX10_order_210 ⟨rfl, Nat.le_refl _⟩ (j_pW h)
          · replace h := j_ip c53 h
            refine J_iload (pc' := 177) (i := 6) (n := 2) dX10_order_175 rfl rfl ?_
            refine J_goto (pc' := 210) dX10_order_177 (by decide) ?_
            exact J_iret rfl dX10_order_210 ⟨rfl, Nat.le_refl _⟩ (j_pW h)
        · replace h := j_iq c22 h
          refine J_aload_n (pc' := 38) (i := 0) (n := 0) dX10_order_37 rfl rfl rfl ?_
          refine J_bipush (pc' := 40) (v := ((-10) : Int32)) dX10_order_38 rfl bp_m10 ?_
          obtain ⟨q58, e59, h⟩ := bi_inv h
          obtain ⟨c60, h⟩ := j_ck_inv h
          refine J_callV (pc' := 43) (as := [.int ((-10) : Int32)]) (rest := []) dX10_order_40 rfl lk_X10_84 rfl 10 (by decide) rfl (m_o hs) (m_n hs (Nat.le_of_ble_eq_true rfl)) (c_X10_bad hs e59) ⟨Nat.le_of_ble_eq_true rfl, Nat.le_of_ble_eq_true rfl⟩ (Nat.le_of_ble_eq_true rfl) ⟨Nat.le_of_ble_eq_true rfl, Nat.le_of_ble_eq_true rfl⟩ (j_kq ?_)
          have g61 : sh_m q58.2.2.2 := j_shE c60 hs
          exact J_iret rfl dX10_order_43 ⟨rfl, Nat.le_refl _⟩ (j_pW h)
abbrev JT_X10_apart (l : Launch) (G : j_G) (r : (Int32 × j_M)) : Nat → List (Nat × Value) → List Value → j_M → Prop := JJ l G md_X10_apart (j_rm 3 (0, 0)) (0, 0) (0, 0) (po (some (.int r.1)) r.2)
noncomputable def f_X10_apart_L33 : Nat → j_M → Int32 → Int32 → (Int32 → j_M → Option (Int32 × j_M)) → Option (Int32 × j_M)
  | 0, _, _, _, _ => none
  | n + 1, M, x2, x3, K =>
    if (j_I M 35 14) ≤ x3 then (K x3 M) else (a_i M 42 7 x3 fun v16 => (w_i M 43 7 x3 v16 fun M18 => (f_X10_apart_L33 n  M18 x2 (x3 + (1 : Int32)) K)))
noncomputable def f_X10_apart_L61 : Nat → j_M → Int32 → Int32 → (Int32 → Option (Int32 × j_M)) → Option (Int32 × j_M)
  | 0, _, _, _, _ => none
  | n + 1, M, x2, x3, K =>
    if (600 : Int32) < x3 then (K x3) else ((f_X10_isRowWell M x3 x2).bind fun v25 => (if v25 = 0 then (f_X10_apart_L61 n  M x2 (x3 + (1 : Int32)) K) else (some (x3, M))))
noncomputable def f_X10_apart (M : j_M) (x1 : Int32) (x2 : Int32) : Option (Int32 × j_M) :=
  tl (f_X10_isLane x1) fun v1 => (if v1 = 0 then ((f_X10_bad M ((-2) : Int32)).bind fun q4 => j_ck M q4.2 (some (q4.1, q4.2))) else (tl (f_X10_in (x2).toInt64 (1 : Int64) (9 : Int64)) fun v8 => (if v8 = 0 then ((f_X10_bad M ((-2) : Int32)).bind fun q29 => j_ck M q29.2 (some (q29.1, q29.2))) else ((f_X10_layStart M x1).bind fun q11 => j_ck M q11 (f_X10_apart_L33 j_fu  q11 x2 (0 : Int32) (fun (y21 : Int32) (M22 : j_M) => (f_X10_apart_L61 j_fu  M22 x2 (0 : Int32) (fun (y28 : Int32) => (some (((-1) : Int32), M22))))))))))
set_option maxHeartbeats 4000000 in
theorem L_X10_apart_L33 {l : Launch} {G : j_G}  {r : (Int32 × j_M)} : ∀ (n : Nat) {x2 : Int32} {x3 : Int32} {M : j_M} (hs : sh_m M.2.2) {K : Int32 → j_M → Option (Int32 × j_M)}, f_X10_apart_L33 n  M x2 x3 K = some r → (∀ (y3 : Int32) (M1 : j_M), sh_m M1.2.2 → K y3 M1 = some r → JT_X10_apart l G r 59 [(0, .ref 35), (2, .int x2)] [] M1) → JT_X10_apart l G r 33 [(0, .ref 35), (2, .int x2), (3, .int x3)] [] M := by
  intro n
  induction n with
  | zero =>
    intro x2 x3 M hs K h hK
    rw [f_X10_apart_L33] at h; cases h
  | succ n ih =>
    intro x2 x3 M hs K h hK
    rw [f_X10_apart_L33] at h
    refine J_iload_n (pc' := 34) (i := 3) (n := 2) dX10_apart_33 rfl rfl rfl ?_
    refine J_aload_n (pc' := 35) (i := 0) (n := 0) dX10_apart_34 rfl rfl rfl ?_
    refine J_getI (pc' := 38) dX10_apart_35 rfl fl_X10_171 rfl (m_o hs) (m_n hs (Nat.le_of_ble_eq_true rfl)) ?_
    refine J_icmp_ge (pc' := 41) (tgt := 59) dX10_apart_38 rfl (by decide) (fun c15 => ?_) (fun c15 => ?_)
    · replace h := j_ip c15 h
      refine J_sub [0, 1] (lv' := [(0, .ref 35), (2, .int x2)]) rfl ?_
      exact hK x3 M hs h
    · replace h := j_iq c15 h
      refine J_aload_n (pc' := 42) (i := 0) (n := 0) dX10_apart_41 rfl rfl rfl ?_
      refine J_getR (pc' := 45) (b := 43) dX10_apart_42 rfl fl_X10_36 rfl (m_o hs) (m_n hs (Nat.le_of_ble_eq_true rfl)) (m_r12 hs) ?_
      refine J_iload_n (pc' := 46) (i := 3) (n := 2) dX10_apart_45 rfl rfl rfl ?_
      refine J_aload_n (pc' := 47) (i := 0) (n := 0) dX10_apart_46 rfl rfl rfl ?_
      refine J_getR (pc' := 50) (b := 42) dX10_apart_47 rfl fl_X10_33 rfl (m_o hs) (m_n hs (Nat.le_of_ble_eq_true rfl)) (m_r11 hs) ?_
      refine J_iload_n (pc' := 51) (i := 3) (n := 2) dX10_apart_50 rfl rfl rfl ?_
      obtain ⟨v16, e17, h⟩ := a_i_inv h
      refine J_ialde (pc' := 52) dX10_apart_51 rfl (m_s42 hs) (m_n hs (Nat.le_of_ble_eq_true rfl)) e17 ?_
      obtain ⟨M18, e19, h⟩ := w_i_inv h
      have g20 : sh_m M18.2.2 := j_shI e19.2 hs
      refine J_iaste (pc' := 53) dX10_apart_52 rfl (m_s43 hs) (m_n hs (Nat.le_of_ble_eq_true rfl)) e19 ?_
      refine J_iinc (pc' := 56) (i := 3) (n := 2) (v := (x3 + (1 : Int32))) (lv' := [(3, .int (x3 + (1 : Int32))), (0, .ref 35), (2, .int x2)]) dX10_apart_53 rfl rfl (j_inc _ _ rfl _) (by decide) rfl ?_
      refine J_goto (pc' := 33) dX10_apart_56 (by decide) ?_
      refine J_sub [1, 2, 0] (lv' := [(0, .ref 35), (2, .int x2), (3, .int (x3 + (1 : Int32)))]) rfl ?_
      exact ih g20 h hK
set_option maxHeartbeats 4000000 in
theorem L_X10_apart_L61 {l : Launch} {G : j_G}  {r : (Int32 × j_M)} : ∀ (n : Nat) {x2 : Int32} {x3 : Int32} {M : j_M} (hs : sh_m M.2.2) {K : Int32 → Option (Int32 × j_M)}, f_X10_apart_L61 n  M x2 x3 K = some r → (∀ (y3 : Int32), K y3 = some r → JT_X10_apart l G r 85 [] [] M) → JT_X10_apart l G r 61 [(0, .ref 35), (2, .int x2), (3, .int x3)] [] M := by
  intro n
  induction n with
  | zero =>
    intro x2 x3 M hs K h hK
    rw [f_X10_apart_L61] at h; cases h
  | succ n ih =>
    intro x2 x3 M hs K h hK
    rw [f_X10_apart_L61] at h
    refine J_iload_n (pc' := 62) (i := 3) (n := 2) dX10_apart_61 rfl rfl rfl ?_
    refine J_sipush (pc' := 65) (v := (600 : Int32)) dX10_apart_62 rfl sp_600 ?_
    refine J_icmp_gt (pc' := 68) (tgt := 85) dX10_apart_65 rfl (by decide) (fun c24 => ?_) (fun c24 => ?_)
    · replace h := j_ip c24 h
      refine J_sub [] (lv' := []) rfl ?_
      exact hK x3  h
    · replace h := j_iq c24 h
      refine J_aload_n (pc' := 69) (i := 0) (n := 0) dX10_apart_68 rfl rfl rfl ?_
      refine J_iload_n (pc' := 70) (i := 3) (n := 2) dX10_apart_69 rfl rfl rfl ?_
      refine J_iload_n (pc' := 71) (i := 2) (n := 1) dX10_apart_70 rfl rfl rfl ?_
      obtain ⟨v25, e26, h⟩ := bi_inv h
      refine J_callV (pc' := 74) (as := [.int x3, .int x2]) (rest := []) dX10_apart_71 rfl lk_X10_183 rfl 10 (by decide) rfl (m_o hs) (m_n hs (Nat.le_of_ble_eq_true rfl)) (c_X10_isRowWell hs e26) ⟨Nat.le_of_ble_eq_true rfl, Nat.le_of_ble_eq_true rfl⟩ (Nat.le_of_ble_eq_true rfl) ⟨Nat.le_of_ble_eq_true rfl, Nat.le_of_ble_eq_true rfl⟩ (j_kq ?_)
      refine J_if_eq (pc' := 77) (tgt := 79) dX10_apart_74 rfl (by decide) (fun c27 => ?_) (fun c27 => ?_)
      · replace h := j_ip c27 h
        refine J_iinc (pc' := 82) (i := 3) (n := 2) (v := (x3 + (1 : Int32))) (lv' := [(3, .int (x3 + (1 : Int32))), (0, .ref 35), (2, .int x2)]) dX10_apart_79 rfl rfl (j_inc _ _ rfl _) (by decide) rfl ?_
        refine J_goto (pc' := 61) dX10_apart_82 (by decide) ?_
        refine J_sub [1, 2, 0] (lv' := [(0, .ref 35), (2, .int x2), (3, .int (x3 + (1 : Int32)))]) rfl ?_
        exact ih hs h hK
      · replace h := j_iq c27 h
        refine J_iload_n (pc' := 78) (i := 3) (n := 2) dX10_apart_77 rfl rfl rfl ?_
        exact J_iret rfl dX10_apart_78 ⟨rfl, Nat.le_refl _⟩ (j_pW h)
set_option maxHeartbeats 4000000 in
theorem c_X10_apart {l : Launch} {G : j_G} {M : j_M} {x1 : Int32} {x2 : Int32} (hs : sh_m M.2.2) {r : (Int32 × j_M)} (h : f_X10_apart M x1 x2 = some r) : j_Sp l G md_X10_apart 3 (0, 0) [.ref 35, .int x1, .int x2] M (po (some (.int r.1)) r.2) := by
  refine j_Sp.of (by decide) (Nat.le_of_ble_eq_true rfl) ?_
  show JT_X10_apart l G r 0 [(0, .ref 35), (1, .int x1), (2, .int x2)] [] M
  unfold f_X10_apart at h
  refine J_iload_n (pc' := 1) (i := 1) (n := 1) dX10_apart_0 rfl rfl rfl ?_
  obtain ⟨v1, e2, h⟩ := tl_inv h
  refine J_callS (pc' := 4) (as := [.int x1]) (rest := []) dX10_apart_1 rfl lk_X10_78 rfl (c_X10_isLane e2) ⟨Nat.le_of_ble_eq_true rfl, Nat.le_of_ble_eq_true rfl⟩ (Nat.le_of_ble_eq_true rfl) ⟨Nat.le_of_ble_eq_true rfl, Nat.le_of_ble_eq_true rfl⟩ (j_kq ?_)
  refine J_if_eq (pc' := 7) (tgt := 19) dX10_apart_4 rfl (by decide) (fun c3 => ?_) (fun c3 => ?_)
  · replace h := j_ip c3 h
    refine J_aload_n (pc' := 20) (i := 0) (n := 0) dX10_apart_19 rfl rfl rfl ?_
    refine J_bipush (pc' := 22) (v := ((-2) : Int32)) dX10_apart_20 rfl bp_m2 ?_
    obtain ⟨q4, e5, h⟩ := bi_inv h
    obtain ⟨c6, h⟩ := j_ck_inv h
    refine J_callV (pc' := 25) (as := [.int ((-2) : Int32)]) (rest := []) dX10_apart_22 rfl lk_X10_84 rfl 10 (by decide) rfl (m_o hs) (m_n hs (Nat.le_of_ble_eq_true rfl)) (c_X10_bad hs e5) ⟨Nat.le_of_ble_eq_true rfl, Nat.le_of_ble_eq_true rfl⟩ (Nat.le_of_ble_eq_true rfl) ⟨Nat.le_of_ble_eq_true rfl, Nat.le_of_ble_eq_true rfl⟩ (j_kq ?_)
    have g7 : sh_m q4.2.2.2 := j_shE c6 hs
    exact J_iret rfl dX10_apart_25 ⟨rfl, Nat.le_refl _⟩ (j_pW h)
  · replace h := j_iq c3 h
    refine J_iload_n (pc' := 8) (i := 2) (n := 2) dX10_apart_7 rfl rfl rfl ?_
    refine J_i2l (pc' := 9) dX10_apart_8 rfl ?_
    refine J_lconst (pc' := 10) (v := (1 : Int64)) dX10_apart_9 rfl rfl ?_
    refine J_ldc2 (pc' := 13) (v := (9 : Int64)) dX10_apart_10 rfl wd_1146 ?_
    obtain ⟨v8, e9, h⟩ := tl_inv h
    refine J_callS (pc' := 16) (as := [.long (x2).toInt64, .long (1 : Int64), .long (9 : Int64)]) (rest := []) dX10_apart_13 rfl lk_X10_68 rfl (c_X10_in e9) ⟨Nat.le_of_ble_eq_true rfl, Nat.le_of_ble_eq_true rfl⟩ (Nat.le_of_ble_eq_true rfl) ⟨Nat.le_of_ble_eq_true rfl, Nat.le_of_ble_eq_true rfl⟩ (j_kq ?_)
    refine J_if_ne (pc' := 19) (tgt := 26) dX10_apart_16 rfl (by decide) (fun c10 => ?_) (fun c10 => ?_)
    · replace h := j_iq c10 h
      refine J_aload_n (pc' := 27) (i := 0) (n := 0) dX10_apart_26 rfl rfl rfl ?_
      refine J_iload_n (pc' := 28) (i := 1) (n := 1) dX10_apart_27 rfl rfl rfl ?_
      obtain ⟨q11, e12, h⟩ := bi_inv h
      obtain ⟨c13, h⟩ := j_ck_inv h
      refine J_callV (pc' := 31) (as := [.int x1]) (rest := []) dX10_apart_28 rfl lk_X10_176 rfl 10 (by decide) rfl (m_o hs) (m_n hs (Nat.le_of_ble_eq_true rfl)) (c_X10_layStart hs e12) ⟨Nat.le_of_ble_eq_true rfl, Nat.le_of_ble_eq_true rfl⟩ (Nat.le_of_ble_eq_true rfl) ⟨Nat.le_of_ble_eq_true rfl, Nat.le_of_ble_eq_true rfl⟩ (j_kv ?_)
      have g14 : sh_m q11.2.2 := j_shE c13 hs
      refine J_iconst (pc' := 32) (v := (0 : Int32)) dX10_apart_31 rfl ic_0 ?_
      refine J_istore_n (pc' := 33) (i := 3) (lv' := [(3, .int (0 : Int32)), (0, .ref 35), (1, .int x1), (2, .int x2)]) dX10_apart_32 rfl rfl (by decide) rfl ?_
      refine J_sub [1, 3, 0] (lv' := [(0, .ref 35), (2, .int x2), (3, .int (0 : Int32))]) rfl ?_
      refine L_X10_apart_L33 j_fu g14 h (fun y21 M22 g23 h => ?_)
      refine J_iconst (pc' := 60) (v := (0 : Int32)) dX10_apart_59 rfl ic_0 ?_
      refine J_istore_n (pc' := 61) (i := 3) (lv' := [(3, .int (0 : Int32)), (0, .ref 35), (2, .int x2)]) dX10_apart_60 rfl rfl (by decide) rfl ?_
      refine J_sub [1, 2, 0] (lv' := [(0, .ref 35), (2, .int x2), (3, .int (0 : Int32))]) rfl ?_
      refine L_X10_apart_L61 j_fu g23 h (fun y28 h => ?_)
      refine J_iconst (pc' := 86) (v := ((-1) : Int32)) dX10_apart_85 rfl ic_m1 ?_
      exact J_iret rfl dX10_apart_86 ⟨rfl, Nat.le_refl _⟩ (j_pW h)
    · replace h := j_ip c10 h
      refine J_aload_n (pc' := 20) (i := 0) (n := 0) dX10_apart_19 rfl rfl rfl ?_
      refine J_bipush (pc' := 22) (v := ((-2) : Int32)) dX10_apart_20 rfl bp_m2 ?_
      obtain ⟨q29, e30, h⟩ := bi_inv h
      obtain ⟨c31, h⟩ := j_ck_inv h
      refine J_callV (pc' := 25) (as := [.int ((-2) : Int32)]) (rest := []) dX10_apart_22 rfl lk_X10_84 rfl 10 (by decide) rfl (m_o hs) (m_n hs (Nat.le_of_ble_eq_true rfl)) (c_X10_bad hs e30) ⟨Nat.le_of_ble_eq_true rfl, Nat.le_of_ble_eq_true rfl⟩ (Nat.le_of_ble_eq_true rfl) ⟨Nat.le_of_ble_eq_true rfl, Nat.le_of_ble_eq_true rfl⟩ (j_kq ?_)
      have g32 : sh_m q29.2.2.2 := j_shE c31 hs
      exact J_iret rfl dX10_apart_25 ⟨rfl, Nat.le_refl _⟩ (j_pW h)
abbrev JT_X10_note (l : Launch) (G : j_G) (r : (Int32 × j_M)) : Nat → List (Nat × Value) → List Value → j_M → Prop := JJ l G md_X10_note (j_rm 3 (0, 0)) (0, 0) (0, 0) (po (some (.int r.1)) r.2)
noncomputable def f_X10_note (M : j_M) (x1 : Int32) (x2 : Int32) (x3 : Int32) (x4 : Int32) (x5 : Int32) : Option (Int32 × j_M) :=
  (f_X10_isOne M x1).bind fun v1 => (if v1 = 0 then ((f_X10_bad M ((-2) : Int32)).bind fun q4 => j_ck M q4.2 (some (q4.1, q4.2))) else (tl (f_X10_in (x2).toInt64 (1 : Int64) (200 : Int64)) fun v8 => (if v8 = 0 then ((f_X10_bad M ((-2) : Int32)).bind fun q11 => j_ck M q11.2 (some (q11.1, q11.2))) else (tl (f_X10_in (x3).toInt64 (0 : Int64) (90 : Int64)) fun v15 => (if v15 = 0 then ((f_X10_bad M ((-2) : Int32)).bind fun q18 => j_ck M q18.2 (some (q18.1, q18.2))) else (tl (f_X10_in (x4).toInt64 (0 : Int64) (6 : Int64)) fun v22 => (if v22 = 0 then ((f_X10_bad M ((-2) : Int32)).bind fun q25 => j_ck M q25.2 (some (q25.1, q25.2))) else (tl (f_X10_in (x5).toInt64 (0 : Int64) (6 : Int64)) fun v29 => (if v29 = 0 then ((f_X10_bad M ((-2) : Int32)).bind fun q63 => j_ck M q63.2 (some (q63.1, q63.2))) else (a_i M 36 250 (2 : Int32) fun v32 => (if v32 = (6 : Int32) then ((f_X10_full M).bind fun q59 => j_ck M q59.2 (some (q59.1, q59.2))) else (a_i M 36 250 (2 : Int32) fun v35 => (w_i M 36 250 ((44 : Int32) + ((5 : Int32) * v35)) x1 fun M37 => (w_i M37 36 250 (((44 : Int32) + ((5 : Int32) * v35)) + (1 : Int32)) x2 fun M40 => (w_i M40 36 250 (((44 : Int32) + ((5 : Int32) * v35)) + (2 : Int32)) x3 fun M43 => (w_i M43 36 250 (((44 : Int32) + ((5 : Int32) * v35)) + (3 : Int32)) x4 fun M46 => (w_i M46 36 250 (((44 : Int32) + ((5 : Int32) * v35)) + (4 : Int32)) x5 fun M49 => (a_i M49 36 250 (2 : Int32) fun v52 => (w_i M49 36 250 (2 : Int32) (v52 + (1 : Int32)) fun M54 => (a_i M54 36 250 (2 : Int32) fun v57 => (some (v57, M54))))))))))))))))))))))
set_option maxHeartbeats 4000000 in
theorem c_X10_note {l : Launch} {G : j_G} {M : j_M} {x1 : Int32} {x2 : Int32} {x3 : Int32} {x4 : Int32} {x5 : Int32} (hs : sh_m M.2.2) {r : (Int32 × j_M)} (h : f_X10_note M x1 x2 x3 x4 x5 = some r) : j_Sp l G md_X10_note 3 (0, 0) [.ref 35, .int x1, .int x2, .int x3, .int x4, .int x5] M (po (some (.int r.1)) r.2) := by
  refine j_Sp.of (by decide) (Nat.le_of_ble_eq_true rfl) ?_
  show JT_X10_note l G r 0 [(0, .ref 35), (1, .int x1), (2, .int x2), (3, .int x3), (4, .int x4), (5, .int x5)] [] M
  unfold f_X10_note at h
  refine J_aload_n (pc' := 1) (i := 0) (n := 0) dX10_note_0 rfl rfl rfl ?_
  refine J_iload_n (pc' := 2) (i := 1) (n := 1) dX10_note_1 rfl rfl rfl ?_
  obtain ⟨v1, e2, h⟩ := bi_inv h
  refine J_callV (pc' := 5) (as := [.int x1]) (rest := []) dX10_note_2 rfl lk_X10_132 rfl 10 (by decide) rfl (m_o hs) (m_n hs (Nat.le_of_ble_eq_true rfl)) (c_X10_isOne hs e2) ⟨Nat.le_of_ble_eq_true rfl, Nat.le_of_ble_eq_true rfl⟩ (Nat.le_of_ble_eq_true rfl) ⟨Nat.le_of_ble_eq_true rfl, Nat.le_of_ble_eq_true rfl⟩ (j_kq ?_)
  refine J_if_eq (pc' := 8) (tgt := 58) dX10_note_5 rfl (by decide) (fun c3 => ?_) (fun c3 => ?_)
  · replace h := j_ip c3 h
    refine J_aload_n (pc' := 59) (i := 0) (n := 0) dX10_note_58 rfl rfl rfl ?_
    refine J_bipush (pc' := 61) (v := ((-2) : Int32)) dX10_note_59 rfl bp_m2 ?_
    obtain ⟨q4, e5, h⟩ := bi_inv h
    obtain ⟨c6, h⟩ := j_ck_inv h
    refine J_callV (pc' := 64) (as := [.int ((-2) : Int32)]) (rest := []) dX10_note_61 rfl lk_X10_84 rfl 10 (by decide) rfl (m_o hs) (m_n hs (Nat.le_of_ble_eq_true rfl)) (c_X10_bad hs e5) ⟨Nat.le_of_ble_eq_true rfl, Nat.le_of_ble_eq_true rfl⟩ (Nat.le_of_ble_eq_true rfl) ⟨Nat.le_of_ble_eq_true rfl, Nat.le_of_ble_eq_true rfl⟩ (j_kq ?_)
    have g7 : sh_m q4.2.2.2 := j_shE c6 hs
    exact J_iret rfl dX10_note_64 ⟨rfl, Nat.le_refl _⟩ (j_pW h)
  · replace h := j_iq c3 h
    refine J_iload_n (pc' := 9) (i := 2) (n := 2) dX10_note_8 rfl rfl rfl ?_
    refine J_i2l (pc' := 10) dX10_note_9 rfl ?_
    refine J_lconst (pc' := 11) (v := (1 : Int64)) dX10_note_10 rfl rfl ?_
    refine J_ldc2 (pc' := 14) (v := (200 : Int64)) dX10_note_11 rfl wd_1167 ?_
    obtain ⟨v8, e9, h⟩ := tl_inv h
    refine J_callS (pc' := 17) (as := [.long (x2).toInt64, .long (1 : Int64), .long (200 : Int64)]) (rest := []) dX10_note_14 rfl lk_X10_68 rfl (c_X10_in e9) ⟨Nat.le_of_ble_eq_true rfl, Nat.le_of_ble_eq_true rfl⟩ (Nat.le_of_ble_eq_true rfl) ⟨Nat.le_of_ble_eq_true rfl, Nat.le_of_ble_eq_true rfl⟩ (j_kq ?_)
    refine J_if_eq (pc' := 20) (tgt := 58) dX10_note_17 rfl (by decide) (fun c10 => ?_) (fun c10 => ?_)
    · replace h := j_ip c10 h
      refine J_aload_n (pc' := 59) (i := 0) (n := 0) dX10_note_58 rfl rfl rfl ?_
      refine J_bipush (pc' := 61) (v := ((-2) : Int32)) dX10_note_59 rfl bp_m2 ?_
      obtain ⟨q11, e12, h⟩ := bi_inv h
      obtain ⟨c13, h⟩ := j_ck_inv h
      refine J_callV (pc' := 64) (as := [.int ((-2) : Int32)]) (rest := []) dX10_note_61 rfl lk_X10_84 rfl 10 (by decide) rfl (m_o hs) (m_n hs (Nat.le_of_ble_eq_true rfl)) (c_X10_bad hs e12) ⟨Nat.le_of_ble_eq_true rfl, Nat.le_of_ble_eq_true rfl⟩ (Nat.le_of_ble_eq_true rfl) ⟨Nat.le_of_ble_eq_true rfl, Nat.le_of_ble_eq_true rfl⟩ (j_kq ?_)
      have g14 : sh_m q11.2.2.2 := j_shE c13 hs
      exact J_iret rfl dX10_note_64 ⟨rfl, Nat.le_refl _⟩ (j_pW h)
    · replace h := j_iq c10 h
      refine J_iload_n (pc' := 21) (i := 3) (n := 3) dX10_note_20 rfl rfl rfl ?_
      refine J_i2l (pc' := 22) dX10_note_21 rfl ?_
      refine J_lconst (pc' := 23) (v := (0 : Int64)) dX10_note_22 rfl rfl ?_
      refine J_ldc2 (pc' := 26) (v := (90 : Int64)) dX10_note_23 rfl wd_1019 ?_
      obtain ⟨v15, e16, h⟩ := tl_inv h
      refine J_callS (pc' := 29) (as := [.long (x3).toInt64, .long (0 : Int64), .long (90 : Int64)]) (rest := []) dX10_note_26 rfl lk_X10_68 rfl (c_X10_in e16) ⟨Nat.le_of_ble_eq_true rfl, Nat.le_of_ble_eq_true rfl⟩ (Nat.le_of_ble_eq_true rfl) ⟨Nat.le_of_ble_eq_true rfl, Nat.le_of_ble_eq_true rfl⟩ (j_kq ?_)
      refine J_if_eq (pc' := 32) (tgt := 58) dX10_note_29 rfl (by decide) (fun c17 => ?_) (fun c17 => ?_)
      · replace h := j_ip c17 h
        refine J_aload_n (pc' := 59) (i := 0) (n := 0) dX10_note_58 rfl rfl rfl ?_
        refine J_bipush (pc' := 61) (v := ((-2) : Int32)) dX10_note_59 rfl bp_m2 ?_
        obtain ⟨q18, e19, h⟩ := bi_inv h
        obtain ⟨c20, h⟩ := j_ck_inv h
        refine J_callV (pc' := 64) (as := [.int ((-2) : Int32)]) (rest := []) dX10_note_61 rfl lk_X10_84 rfl 10 (by decide) rfl (m_o hs) (m_n hs (Nat.le_of_ble_eq_true rfl)) (c_X10_bad hs e19) ⟨Nat.le_of_ble_eq_true rfl, Nat.le_of_ble_eq_true rfl⟩ (Nat.le_of_ble_eq_true rfl) ⟨Nat.le_of_ble_eq_true rfl, Nat.le_of_ble_eq_true rfl⟩ (j_kq ?_)
        have g21 : sh_m q18.2.2.2 := j_shE c20 hs
        exact J_iret rfl dX10_note_64 ⟨rfl, Nat.le_refl _⟩ (j_pW h)
      · replace h := j_iq c17 h
        refine J_iload (pc' := 34) (i := 4) (n := 4) dX10_note_32 rfl rfl ?_
        refine J_i2l (pc' := 35) dX10_note_34 rfl ?_
        refine J_lconst (pc' := 36) (v := (0 : Int64)) dX10_note_35 rfl rfl ?_
        refine J_ldc2 (pc' := 39) (v := (6 : Int64)) dX10_note_36 rfl wd_1168 ?_
        obtain ⟨v22, e23, h⟩ := tl_inv h
        refine J_callS (pc' := 42) (as := [.long (x4).toInt64, .long (0 : Int64), .long (6 : Int64)]) (rest := []) dX10_note_39 rfl lk_X10_68 rfl (c_X10_in e23) ⟨Nat.le_of_ble_eq_true rfl, Nat.le_of_ble_eq_true rfl⟩ (Nat.le_of_ble_eq_true rfl) ⟨Nat.le_of_ble_eq_true rfl, Nat.le_of_ble_eq_true rfl⟩ (j_kq ?_)
        refine J_if_eq (pc' := 45) (tgt := 58) dX10_note_42 rfl (by decide) (fun c24 => ?_) (fun c24 => ?_)
        · replace h := j_ip c24 h
          refine J_aload_n (pc' := 59) (i := 0) (n := 0) dX10_note_58 rfl rfl rfl ?_
          refine J_bipush (pc' := 61) (v := ((-2) : Int32)) dX10_note_59 rfl bp_m2 ?_
          obtain ⟨q25, e26, h⟩ := bi_inv h
          obtain ⟨c27, h⟩ := j_ck_inv h
          refine J_callV (pc' := 64) (as := [.int ((-2) : Int32)]) (rest := []) dX10_note_61 rfl lk_X10_84 rfl 10 (by decide) rfl (m_o hs) (m_n hs (Nat.le_of_ble_eq_true rfl)) (c_X10_bad hs e26) ⟨Nat.le_of_ble_eq_true rfl, Nat.le_of_ble_eq_true rfl⟩ (Nat.le_of_ble_eq_true rfl) ⟨Nat.le_of_ble_eq_true rfl, Nat.le_of_ble_eq_true rfl⟩ (j_kq ?_)
          have g28 : sh_m q25.2.2.2 := j_shE c27 hs
          exact J_iret rfl dX10_note_64 ⟨rfl, Nat.le_refl _⟩ (j_pW h)
        · replace h := j_iq c24 h
          refine J_iload (pc' := 47) (i := 5) (n := 5) dX10_note_45 rfl rfl ?_
          refine J_i2l (pc' := 48) dX10_note_47 rfl ?_
          refine J_lconst (pc' := 49) (v := (0 : Int64)) dX10_note_48 rfl rfl ?_
          refine J_ldc2 (pc' := 52) (v := (6 : Int64)) dX10_note_49 rfl wd_1168 ?_
          obtain ⟨v29, e30, h⟩ := tl_inv h
          refine J_callS (pc' := 55) (as := [.long (x5).toInt64, .long (0 : Int64), .long (6 : Int64)]) (rest := []) dX10_note_52 rfl lk_X10_68 rfl (c_X10_in e30) ⟨Nat.le_of_ble_eq_true rfl, Nat.le_of_ble_eq_true rfl⟩ (Nat.le_of_ble_eq_true rfl) ⟨Nat.le_of_ble_eq_true rfl, Nat.le_of_ble_eq_true rfl⟩ (j_kq ?_)
          refine J_if_ne (pc' := 58) (tgt := 65) dX10_note_55 rfl (by decide) (fun c31 => ?_) (fun c31 => ?_)
          · replace h := j_iq c31 h
            refine J_aload_n (pc' := 66) (i := 0) (n := 0) dX10_note_65 rfl rfl rfl ?_
            refine J_getR (pc' := 69) (b := 36) dX10_note_66 rfl fl_X10_7 rfl (m_o hs) (m_n hs (Nat.le_of_ble_eq_true rfl)) (m_r0 hs) ?_
            refine J_iconst (pc' := 70) (v := (2 : Int32)) dX10_note_69 rfl ic_2 ?_
            obtain ⟨v32, e33, h⟩ := a_i_inv h
            refine J_ialde (pc' := 71) dX10_note_70 rfl (m_s36 hs) (m_n hs (Nat.le_of_ble_eq_true rfl)) e33 ?_
            refine J_bipush (pc' := 73) (v := (6 : Int32)) dX10_note_71 rfl bp_6 ?_
            refine J_icmp_ne (pc' := 76) (tgt := 81) dX10_note_73 rfl (by decide) (fun c34 => ?_) (fun c34 => ?_)
            · replace h := j_iq c34 h
              refine J_bipush (pc' := 83) (v := (44 : Int32)) dX10_note_81 rfl bp_44 ?_
              refine J_iconst (pc' := 84) (v := (5 : Int32)) dX10_note_83 rfl ic_5 ?_
              refine J_aload_n (pc' := 85) (i := 0) (n := 0) dX10_note_84 rfl rfl rfl ?_
              refine J_getR (pc' := 88) (b := 36) dX10_note_85 rfl fl_X10_7 rfl (m_o hs) (m_n hs (Nat.le_of_ble_eq_true rfl)) (m_r0 hs) ?_
              refine J_iconst (pc' := 89) (v := (2 : Int32)) dX10_note_88 rfl ic_2 ?_
              obtain ⟨v35, e36, h⟩ := a_i_inv h
              refine J_ialde (pc' := 90) dX10_note_89 rfl (m_s36 hs) (m_n hs (Nat.le_of_ble_eq_true rfl)) e36 ?_
              refine J_imul (pc' := 91) dX10_note_90 rfl ?_
              refine J_iadd (pc' := 92) dX10_note_91 rfl ?_
              refine J_istore (pc' := 94) (i := 6) (lv' := [(6, .int ((44 : Int32) + ((5 : Int32) * v35))), (0, .ref 35), (1, .int x1), (2, .int x2), (3, .int x3), (4, .int x4), (5, .int x5)]) dX10_note_92 rfl (by decide) rfl ?_
              refine J_aload_n (pc' := 95) (i := 0) (n := 1) dX10_note_94 rfl rfl rfl ?_
              refine J_getR (pc' := 98) (b := 36) dX10_note_95 rfl fl_X10_7 rfl (m_o hs) (m_n hs (Nat.le_of_ble_eq_true rfl)) (m_r0 hs) ?_
              refine J_iload (pc' := 100) (i := 6) (n := 0) dX10_note_98 rfl rfl ?_
              refine J_iload_n (pc' := 101) (i := 1) (n := 2) dX10_note_100 rfl rfl rfl ?_
              obtain ⟨M37, e38, h⟩ := w_i_inv h
              have g39 : sh_m M37.2.2 := j_shI e38.2 hs
              refine J_iaste (pc' := 102) dX10_note_101 rfl (m_s36 hs) (m_n hs (Nat.le_of_ble_eq_true rfl)) e38 ?_
              refine J_aload_n (pc' := 103) (i := 0) (n := 1) dX10_note_102 rfl rfl rfl ?_
              refine J_getR (pc' := 106) (b := 36) dX10_note_103 rfl fl_X10_7 rfl (m_o g39) (m_n g39 (Nat.le_of_ble_eq_true rfl)) (m_r0 g39) ?_
              refine J_iload (pc' := 108) (i := 6) (n := 0) dX10_note_106 rfl rfl ?_
              refine J_iconst (pc' := 109) (v := (1 : Int32)) dX10_note_108 rfl ic_1 ?_
              refine J_iadd (pc' := 110) dX10_note_109 rfl ?_
              refine J_iload_n (pc' := 111) (i := 2) (n := 3) dX10_note_110 rfl rfl rfl ?_
              obtain ⟨M40, e41, h⟩ := w_i_inv h
              have g42 : sh_m M40.2.2 := j_shI e41.2 g39
              refine J_iaste (pc' := 112) dX10_note_111 rfl (m_s36 g39) (m_n g39 (Nat.le_of_ble_eq_true rfl)) e41 ?_
              refine J_aload_n (pc' := 113) (i := 0) (n := 1) dX10_note_112 rfl rfl rfl ?_
              refine J_getR (pc' := 116) (b := 36) dX10_note_113 rfl fl_X10_7 rfl (m_o g42) (m_n g42 (Nat.le_of_ble_eq_true rfl)) (m_r0 g42) ?_
              refine J_iload (pc' := 118) (i := 6) (n := 0) dX10_note_116 rfl rfl ?_
              refine J_iconst (pc' := 119) (v := (2 : Int32)) dX10_note_118 rfl ic_2 ?_
              refine J_iadd (pc' := 120) dX10_note_119 rfl ?_
              refine J_iload_n (pc' := 121) (i := 3) (n := 4) dX10_note_120 rfl rfl rfl ?_
              obtain ⟨M43, e44, h⟩ := w_i_inv h
              have g45 : sh_m M43.2.2 := j_shI e44.2 g42
              refine J_iaste (pc' := 122) dX10_note_121 rfl (m_s36 g42) (m_n g42 (Nat.le_of_ble_eq_true rfl)) e44 ?_
              refine J_aload_n (pc' := 123) (i := 0) (n := 1) dX10_note_122 rfl rfl rfl ?_
              refine J_getR (pc' := 126) (b := 36) dX10_note_123 rfl fl_X10_7 rfl (m_o g45) (m_n g45 (Nat.le_of_ble_eq_true rfl)) (m_r0 g45) ?_
              refine J_iload (pc' := 128) (i := 6) (n := 0) dX10_note_126 rfl rfl ?_
              refine J_iconst (pc' := 129) (v := (3 : Int32)) dX10_note_128 rfl ic_3 ?_
              refine J_iadd (pc' := 130) dX10_note_129 rfl ?_
              refine J_iload (pc' := 132) (i := 4) (n := 5) dX10_note_130 rfl rfl ?_
              obtain ⟨M46, e47, h⟩ := w_i_inv h
              have g48 : sh_m M46.2.2 := j_shI e47.2 g45
              refine J_iaste (pc' := 133) dX10_note_132 rfl (m_s36 g45) (m_n g45 (Nat.le_of_ble_eq_true rfl)) e47 ?_
              refine J_aload_n (pc' := 134) (i := 0) (n := 1) dX10_note_133 rfl rfl rfl ?_
              refine J_getR (pc' := 137) (b := 36) dX10_note_134 rfl fl_X10_7 rfl (m_o g48) (m_n g48 (Nat.le_of_ble_eq_true rfl)) (m_r0 g48) ?_
              refine J_iload (pc' := 139) (i := 6) (n := 0) dX10_note_137 rfl rfl ?_
              refine J_iconst (pc' := 140) (v := (4 : Int32)) dX10_note_139 rfl ic_4 ?_
              refine J_iadd (pc' := 141) dX10_note_140 rfl ?_
              refine J_iload (pc' := 143) (i := 5) (n := 6) dX10_note_141 rfl rfl ?_
              obtain ⟨M49, e50, h⟩ := w_i_inv h
              have g51 : sh_m M49.2.2 := j_shI e50.2 g48
              refine J_iaste (pc' := 144) dX10_note_143 rfl (m_s36 g48) (m_n g48 (Nat.le_of_ble_eq_true rfl)) e50 ?_
              refine J_aload_n (pc' := 145) (i := 0) (n := 1) dX10_note_144 rfl rfl rfl ?_
              refine J_getR (pc' := 148) (b := 36) dX10_note_145 rfl fl_X10_7 rfl (m_o g51) (m_n g51 (Nat.le_of_ble_eq_true rfl)) (m_r0 g51) ?_
              refine J_iconst (pc' := 149) (v := (2 : Int32)) dX10_note_148 rfl ic_2 ?_
              refine J_dup2 (pc' := 150) dX10_note_149 rfl rfl rfl ?_
              obtain ⟨v52, e53, h⟩ := a_i_inv h
              refine J_ialde (pc' := 151) dX10_note_150 rfl (m_s36 g51) (m_n g51 (Nat.le_of_ble_eq_true rfl)) e53 ?_
              refine J_iconst (pc' := 152) (v := (1 : Int32)) dX10_note_151 rfl ic_1 ?_
              refine J_iadd (pc' := 153) dX10_note_152 rfl ?_
              obtain ⟨M54, e55, h⟩ := w_i_inv h
              have g56 : sh_m M54.2.2 := j_shI e55.2 g51
              refine J_iaste (pc' := 154) dX10_note_153 rfl (m_s36 g51) (m_n g51 (Nat.le_of_ble_eq_true rfl)) e55 ?_
              refine J_aload_n (pc' := 155) (i := 0) (n := 1) dX10_note_154 rfl rfl rfl ?_
              refine J_getR (pc' := 158) (b := 36) dX10_note_155 rfl fl_X10_7 rfl (m_o g56) (m_n g56 (Nat.le_of_ble_eq_true rfl)) (m_r0 g56) ?_
              refine J_iconst (pc' := 159) (v := (2 : Int32)) dX10_note_158 rfl ic_2 ?_
              obtain ⟨v57, e58, h⟩ := a_i_inv h
              refine J_ialde (pc' := 160) dX10_note_159 rfl (m_s36 g56) (m_n g56 (Nat.le_of_ble_eq_true rfl)) e58 ?_
              exact J_iret rfl dX10_note_160 ⟨rfl, Nat.le_refl _⟩ (j_pW h)
            · replace h := j_ip c34 h
              refine J_aload_n (pc' := 77) (i := 0) (n := 0) dX10_note_76 rfl rfl rfl ?_
              obtain ⟨q59, e60, h⟩ := bi_inv h
              obtain ⟨c61, h⟩ := j_ck_inv h
              refine J_callV (pc' := 80) (as := []) (rest := []) dX10_note_77 rfl lk_X10_104 rfl 10 (by decide) rfl (m_o hs) (m_n hs (Nat.le_of_ble_eq_true rfl)) (c_X10_full hs e60) ⟨Nat.le_of_ble_eq_true rfl, Nat.le_of_ble_eq_true rfl⟩ (Nat.le_of_ble_eq_true rfl) ⟨Nat.le_of_ble_eq_true rfl, Nat.le_of_ble_eq_true rfl⟩ (j_kq ?_)
              have g62 : sh_m q59.2.2.2 := j_shE c61 hs
              exact J_iret rfl dX10_note_80 ⟨rfl, Nat.le_refl _⟩ (j_pW h)
          · replace h := j_ip c31 h
            refine J_aload_n (pc' := 59) (i := 0) (n := 0) dX10_note_58 rfl rfl rfl ?_
            refine J_bipush (pc' := 61) (v := ((-2) : Int32)) dX10_note_59 rfl bp_m2 ?_
            obtain ⟨q63, e64, h⟩ := bi_inv h
            obtain ⟨c65, h⟩ := j_ck_inv h
            refine J_callV (pc' := 64) (as := [.int ((-2) : Int32)]) (rest := []) dX10_note_61 rfl lk_X10_84 rfl 10 (by decide) rfl (m_o hs) (m_n hs (Nat.le_of_ble_eq_true rfl)) (c_X10_bad hs e64) ⟨Nat.le_of_ble_eq_true rfl, Nat.le_of_ble_eq_true rfl⟩ (Nat.le_of_ble_eq_true rfl) ⟨Nat.le_of_ble_eq_true rfl, Nat.le_of_ble_eq_true rfl⟩ (j_kq ?_)
            have g66 : sh_m q63.2.2.2 := j_shE c65 hs
            exact J_iret rfl dX10_note_64 ⟨rfl, Nat.le_refl _⟩ (j_pW h)
abbrev JT_X10_forget (l : Launch) (G : j_G) (r : (Int32 × j_M)) : Nat → List (Nat × Value) → List Value → j_M → Prop := JJ l G md_X10_forget (j_rm 1 (0, 0)) (0, 0) (0, 0) (po (some (.int r.1)) r.2)
noncomputable def f_X10_forget (M : j_M)  : Option (Int32 × j_M) :=
  a_i M 36 250 (2 : Int32) fun v1 => (w_i M 36 250 (2 : Int32) (0 : Int32) fun M3 => (some (v1, M3)))
set_option maxHeartbeats 4000000 in
theorem c_X10_forget {l : Launch} {G : j_G} {M : j_M}  (hs : sh_m M.2.2) {r : (Int32 × j_M)} (h : f_X10_forget M  = some r) : j_Sp l G md_X10_forget 1 (0, 0) [.ref 35] M (po (some (.int r.1)) r.2) := by
  refine j_Sp.of (by decide) (Nat.le_of_ble_eq_true rfl) ?_
  show JT_X10_forget l G r 0 [(0, .ref 35)] [] M
  unfold f_X10_forget at h
  refine J_aload_n (pc' := 1) (i := 0) (n := 0) dX10_forget_0 rfl rfl rfl ?_
  refine J_getR (pc' := 4) (b := 36) dX10_forget_1 rfl fl_X10_7 rfl (m_o hs) (m_n hs (Nat.le_of_ble_eq_true rfl)) (m_r0 hs) ?_
  refine J_iconst (pc' := 5) (v := (2 : Int32)) dX10_forget_4 rfl ic_2 ?_
  obtain ⟨v1, e2, h⟩ := a_i_inv h
  refine J_ialde (pc' := 6) dX10_forget_5 rfl (m_s36 hs) (m_n hs (Nat.le_of_ble_eq_true rfl)) e2 ?_
  refine J_istore_n (pc' := 7) (i := 1) (lv' := [(1, .int v1), (0, .ref 35)]) dX10_forget_6 rfl rfl (by decide) rfl ?_
  refine J_aload_n (pc' := 8) (i := 0) (n := 1) dX10_forget_7 rfl rfl rfl ?_
  refine J_getR (pc' := 11) (b := 36) dX10_forget_8 rfl fl_X10_7 rfl (m_o hs) (m_n hs (Nat.le_of_ble_eq_true rfl)) (m_r0 hs) ?_
  refine J_iconst (pc' := 12) (v := (2 : Int32)) dX10_forget_11 rfl ic_2 ?_
  refine J_iconst (pc' := 13) (v := (0 : Int32)) dX10_forget_12 rfl ic_0 ?_
  obtain ⟨M3, e4, h⟩ := w_i_inv h
  have g5 : sh_m M3.2.2 := j_shI e4.2 hs
  refine J_iaste (pc' := 14) dX10_forget_13 rfl (m_s36 hs) (m_n hs (Nat.le_of_ble_eq_true rfl)) e4 ?_
  refine J_iload_n (pc' := 15) (i := 1) (n := 0) dX10_forget_14 rfl rfl rfl ?_
  exact J_iret rfl dX10_forget_15 ⟨rfl, Nat.le_refl _⟩ (j_pW h)
abbrev JT_X10_canBe (l : Launch) (G : j_G) (M : j_M) (r : Int32) : Nat → List (Nat × Value) → List Value → j_M → Prop := JJ l G md_X10_canBe (j_rm 2 (0, 0)) (0, 0) (0, 0) (po (some (.int r)) M)
noncomputable def f_X10_canBe_L6 : Nat → j_M → Int32 → Int32 → Int32 → Int32 → Int32 → (Int32 → Int32 → Option Int32) → Option Int32
  | 0, _, _, _, _, _, _, _ => none
  | n + 1, M, x1, x2, x3, x4, x5, K =>
    a_i M 36 250 (2 : Int32) fun v1 => (if v1 ≤ x5 then (K x4 x5) else (if x4 = 0 then (f_X10_canBe_L6 n  M x1 x2 x3 (0 : Int32) (x5 + (1 : Int32)) K) else (a_i M 36 250 ((44 : Int32) + ((5 : Int32) * x5)) fun v5 => (if v5 = x1 then (a_i M 36 250 (((44 : Int32) + ((5 : Int32) * x5)) + (2 : Int32)) fun v8 => (a_i M 36 250 (((44 : Int32) + ((5 : Int32) * x5)) + (3 : Int32)) fun v10 => (a_i M 36 250 (((44 : Int32) + ((5 : Int32) * x5)) + (4 : Int32)) fun v12 => (tl (f_X10_secondsAs x2 x3 v8 v10 v12) fun v14 => (a_i M 36 250 (((44 : Int32) + ((5 : Int32) * x5)) + (1 : Int32)) fun v16 => (if v14 = v16 then (f_X10_canBe_L6 n  M x1 x2 x3 (1 : Int32) (x5 + (1 : Int32)) K) else (f_X10_canBe_L6 n  M x1 x2 x3 (0 : Int32) (x5 + (1 : Int32)) K))))))) else (f_X10_canBe_L6 n  M x1 x2 x3 (1 : Int32) (x5 + (1 : Int32)) K)))))
noncomputable def f_X10_canBe (M : j_M) (x1 : Int32) (x2 : Int32) (x3 : Int32) : Option Int32 :=
  f_X10_canBe_L6 j_fu  M x1 x2 x3 (1 : Int32) (0 : Int32) (fun (y19 : Int32) (y20 : Int32) => (z_b y19 (some y19)))
set_option maxHeartbeats 4000000 in
theorem L_X10_canBe_L6 {l : Launch} {G : j_G}  {r : Int32} : ∀ (n : Nat) {x1 : Int32} {x2 : Int32} {x3 : Int32} {x4 : Int32} {x5 : Int32} {M : j_M} (hs : sh_m M.2.2) {K : Int32 → Int32 → Option Int32}, f_X10_canBe_L6 n  M x1 x2 x3 x4 x5 K = some r → (∀ (y4 : Int32) (y5 : Int32), K y4 y5 = some r → JT_X10_canBe l G M r 99 [(4, .int y4)] [] M) → JT_X10_canBe l G M r 6 [(0, .ref 35), (1, .int x1), (2, .int x2), (3, .int x3), (4, .int x4), (5, .int x5)] [] M := by
  intro n
  induction n with
  | zero =>
    intro x1 x2 x3 x4 x5 M hs K h hK
    rw [f_X10_canBe_L6] at h; cases h
  | succ n ih =>
    intro x1 x2 x3 x4 x5 M hs K h hK
    rw [f_X10_canBe_L6] at h
    refine J_iload (pc' := 8) (i := 5) (n := 5) dX10_canBe_6 rfl rfl ?_
    refine J_aload_n (pc' := 9) (i := 0) (n := 0) dX10_canBe_8 rfl rfl rfl ?_
    refine J_getR (pc' := 12) (b := 36) dX10_canBe_9 rfl fl_X10_7 rfl (m_o hs) (m_n hs (Nat.le_of_ble_eq_true rfl)) (m_r0 hs) ?_
    refine J_iconst (pc' := 13) (v := (2 : Int32)) dX10_canBe_12 rfl ic_2 ?_
    obtain ⟨v1, e2, h⟩ := a_i_inv h
    refine J_ialde (pc' := 14) dX10_canBe_13 rfl (m_s36 hs) (m_n hs (Nat.le_of_ble_eq_true rfl)) e2 ?_
    refine J_icmp_ge (pc' := 17) (tgt := 99) dX10_canBe_14 rfl (by decide) (fun c3 => ?_) (fun c3 => ?_)
    · replace h := j_ip c3 h
      refine J_sub [4] (lv' := [(4, .int x4)]) rfl ?_
      exact hK x4 x5  h
    · replace h := j_iq c3 h
      refine J_bipush (pc' := 19) (v := (44 : Int32)) dX10_canBe_17 rfl bp_44 ?_
      refine J_iconst (pc' := 20) (v := (5 : Int32)) dX10_canBe_19 rfl ic_5 ?_
      refine J_iload (pc' := 22) (i := 5) (n := 5) dX10_canBe_20 rfl rfl ?_
      refine J_imul (pc' := 23) dX10_canBe_22 rfl ?_
      refine J_iadd (pc' := 24) dX10_canBe_23 rfl ?_
      refine J_istore (pc' := 26) (i := 6) (lv' := [(6, .int ((44 : Int32) + ((5 : Int32) * x5))), (0, .ref 35), (1, .int x1), (2, .int x2), (3, .int x3), (4, .int x4), (5, .int x5)]) dX10_canBe_24 rfl (by decide) rfl ?_
      refine J_iload (pc' := 28) (i := 4) (n := 5) dX10_canBe_26 rfl rfl ?_
      refine J_if_eq (pc' := 31) (tgt := 90) dX10_canBe_28 rfl (by decide) (fun c4 => ?_) (fun c4 => ?_)
      · replace h := j_ip c4 h
        refine J_iconst (pc' := 91) (v := (0 : Int32)) dX10_canBe_90 rfl ic_0 ?_
        refine J_istore (pc' := 93) (i := 4) (lv' := [(4, .int (0 : Int32)), (6, .int ((44 : Int32) + ((5 : Int32) * x5))), (0, .ref 35), (1, .int x1), (2, .int x2), (3, .int x3), (5, .int x5)]) dX10_canBe_91 rfl (by decide) rfl ?_
        refine J_iinc (pc' := 96) (i := 5) (n := 6) (v := (x5 + (1 : Int32))) (lv' := [(5, .int (x5 + (1 : Int32))), (4, .int (0 : Int32)), (6, .int ((44 : Int32) + ((5 : Int32) * x5))), (0, .ref 35), (1, .int x1), (2, .int x2), (3, .int x3)]) dX10_canBe_93 rfl rfl (j_inc _ _ rfl _) (by decide) rfl ?_
        refine J_goto (pc' := 6) dX10_canBe_96 (by decide) ?_
        refine J_sub [3, 4, 5, 6, 1, 0] (lv' := [(0, .ref 35), (1, .int x1), (2, .int x2), (3, .int x3), (4, .int (0 : Int32)), (5, .int (x5 + (1 : Int32)))]) rfl ?_
        exact ih hs h hK
      · replace h := j_iq c4 h
        refine J_aload_n (pc' := 32) (i := 0) (n := 1) dX10_canBe_31 rfl rfl rfl ?_
        refine J_getR (pc' := 35) (b := 36) dX10_canBe_32 rfl fl_X10_7 rfl (m_o hs) (m_n hs (Nat.le_of_ble_eq_true rfl)) (m_r0 hs) ?_
        refine J_iload (pc' := 37) (i := 6) (n := 0) dX10_canBe_35 rfl rfl ?_
        obtain ⟨v5, e6, h⟩ := a_i_inv h
        refine J_ialde (pc' := 38) dX10_canBe_37 rfl (m_s36 hs) (m_n hs (Nat.le_of_ble_eq_true rfl)) e6 ?_
        refine J_iload_n (pc' := 39) (i := 1) (n := 2) dX10_canBe_38 rfl rfl rfl ?_
        refine J_icmp_ne (pc' := 42) (tgt := 86) dX10_canBe_39 rfl (by decide) (fun c7 => ?_) (fun c7 => ?_)
        · replace h := j_iq c7 h
          refine J_iconst (pc' := 87) (v := (1 : Int32)) dX10_canBe_86 rfl ic_1 ?_
          refine J_goto (pc' := 91) dX10_canBe_87 (by decide) ?_
          refine J_istore (pc' := 93) (i := 4) (lv' := [(4, .int (1 : Int32)), (6, .int ((44 : Int32) + ((5 : Int32) * x5))), (0, .ref 35), (1, .int x1), (2, .int x2), (3, .int x3), (5, .int x5)]) dX10_canBe_91 rfl (by decide) rfl ?_
          refine J_iinc (pc' := 96) (i := 5) (n := 6) (v := (x5 + (1 : Int32))) (lv' := [(5, .int (x5 + (1 : Int32))), (4, .int (1 : Int32)), (6, .int ((44 : Int32) + ((5 : Int32) * x5))), (0, .ref 35), (1, .int x1), (2, .int x2), (3, .int x3)]) dX10_canBe_93 rfl rfl (j_inc _ _ rfl _) (by decide) rfl ?_
          refine J_goto (pc' := 6) dX10_canBe_96 (by decide) ?_
          refine J_sub [3, 4, 5, 6, 1, 0] (lv' := [(0, .ref 35), (1, .int x1), (2, .int x2), (3, .int x3), (4, .int (1 : Int32)), (5, .int (x5 + (1 : Int32)))]) rfl ?_
          exact ih hs h hK
        · replace h := j_ip c7 h
          refine J_iload_n (pc' := 43) (i := 2) (n := 3) dX10_canBe_42 rfl rfl rfl ?_
          refine J_iload_n (pc' := 44) (i := 3) (n := 4) dX10_canBe_43 rfl rfl rfl ?_
          refine J_aload_n (pc' := 45) (i := 0) (n := 1) dX10_canBe_44 rfl rfl rfl ?_
          refine J_getR (pc' := 48) (b := 36) dX10_canBe_45 rfl fl_X10_7 rfl (m_o hs) (m_n hs (Nat.le_of_ble_eq_true rfl)) (m_r0 hs) ?_
          refine J_iload (pc' := 50) (i := 6) (n := 0) dX10_canBe_48 rfl rfl ?_
          refine J_iconst (pc' := 51) (v := (2 : Int32)) dX10_canBe_50 rfl ic_2 ?_
          refine J_iadd (pc' := 52) dX10_canBe_51 rfl ?_
          obtain ⟨v8, e9, h⟩ := a_i_inv h
          refine J_ialde (pc' := 53) dX10_canBe_52 rfl (m_s36 hs) (m_n hs (Nat.le_of_ble_eq_true rfl)) e9 ?_
          refine J_aload_n (pc' := 54) (i := 0) (n := 1) dX10_canBe_53 rfl rfl rfl ?_
          refine J_getR (pc' := 57) (b := 36) dX10_canBe_54 rfl fl_X10_7 rfl (m_o hs) (m_n hs (Nat.le_of_ble_eq_true rfl)) (m_r0 hs) ?_
          refine J_iload (pc' := 59) (i := 6) (n := 0) dX10_canBe_57 rfl rfl ?_
          refine J_iconst (pc' := 60) (v := (3 : Int32)) dX10_canBe_59 rfl ic_3 ?_
          refine J_iadd (pc' := 61) dX10_canBe_60 rfl ?_
          obtain ⟨v10, e11, h⟩ := a_i_inv h
          refine J_ialde (pc' := 62) dX10_canBe_61 rfl (m_s36 hs) (m_n hs (Nat.le_of_ble_eq_true rfl)) e11 ?_
          refine J_aload_n (pc' := 63) (i := 0) (n := 1) dX10_canBe_62 rfl rfl rfl ?_
          refine J_getR (pc' := 66) (b := 36) dX10_canBe_63 rfl fl_X10_7 rfl (m_o hs) (m_n hs (Nat.le_of_ble_eq_true rfl)) (m_r0 hs) ?_
          refine J_iload (pc' := 68) (i := 6) (n := 0) dX10_canBe_66 rfl rfl ?_
          refine J_iconst (pc' := 69) (v := (4 : Int32)) dX10_canBe_68 rfl ic_4 ?_
          refine J_iadd (pc' := 70) dX10_canBe_69 rfl ?_
          obtain ⟨v12, e13, h⟩ := a_i_inv h
          refine J_ialde (pc' := 71) dX10_canBe_70 rfl (m_s36 hs) (m_n hs (Nat.le_of_ble_eq_true rfl)) e13 ?_
          obtain ⟨v14, e15, h⟩ := tl_inv h
          refine J_callS (pc' := 74) (as := [.int x2, .int x3, .int v8, .int v10, .int v12]) (rest := []) dX10_canBe_71 rfl lk_X10_128 rfl (c_X10_secondsAs e15) ⟨Nat.le_of_ble_eq_true rfl, Nat.le_of_ble_eq_true rfl⟩ (Nat.le_of_ble_eq_true rfl) ⟨Nat.le_of_ble_eq_true rfl, Nat.le_of_ble_eq_true rfl⟩ (j_kq ?_)
          refine J_aload_n (pc' := 75) (i := 0) (n := 1) dX10_canBe_74 rfl rfl rfl ?_
          refine J_getR (pc' := 78) (b := 36) dX10_canBe_75 rfl fl_X10_7 rfl (m_o hs) (m_n hs (Nat.le_of_ble_eq_true rfl)) (m_r0 hs) ?_
          refine J_iload (pc' := 80) (i := 6) (n := 0) dX10_canBe_78 rfl rfl ?_
          refine J_iconst (pc' := 81) (v := (1 : Int32)) dX10_canBe_80 rfl ic_1 ?_
          refine J_iadd (pc' := 82) dX10_canBe_81 rfl ?_
          obtain ⟨v16, e17, h⟩ := a_i_inv h
          refine J_ialde (pc' := 83) dX10_canBe_82 rfl (m_s36 hs) (m_n hs (Nat.le_of_ble_eq_true rfl)) e17 ?_
          refine J_icmp_ne (pc' := 86) (tgt := 90) dX10_canBe_83 rfl (by decide) (fun c18 => ?_) (fun c18 => ?_)
          · replace h := j_iq c18 h
            refine J_iconst (pc' := 91) (v := (0 : Int32)) dX10_canBe_90 rfl ic_0 ?_
            refine J_istore (pc' := 93) (i := 4) (lv' := [(4, .int (0 : Int32)), (6, .int ((44 : Int32) + ((5 : Int32) * x5))), (0, .ref 35), (1, .int x1), (2, .int x2), (3, .int x3), (5, .int x5)]) dX10_canBe_91 rfl (by decide) rfl ?_
            refine J_iinc (pc' := 96) (i := 5) (n := 6) (v := (x5 + (1 : Int32))) (lv' := [(5, .int (x5 + (1 : Int32))), (4, .int (0 : Int32)), (6, .int ((44 : Int32) + ((5 : Int32) * x5))), (0, .ref 35), (1, .int x1), (2, .int x2), (3, .int x3)]) dX10_canBe_93 rfl rfl (j_inc _ _ rfl _) (by decide) rfl ?_
            refine J_goto (pc' := 6) dX10_canBe_96 (by decide) ?_
            refine J_sub [3, 4, 5, 6, 1, 0] (lv' := [(0, .ref 35), (1, .int x1), (2, .int x2), (3, .int x3), (4, .int (0 : Int32)), (5, .int (x5 + (1 : Int32)))]) rfl ?_
            exact ih hs h hK
          · replace h := j_ip c18 h
            refine J_iconst (pc' := 87) (v := (1 : Int32)) dX10_canBe_86 rfl ic_1 ?_
            refine J_goto (pc' := 91) dX10_canBe_87 (by decide) ?_
            refine J_istore (pc' := 93) (i := 4) (lv' := [(4, .int (1 : Int32)), (6, .int ((44 : Int32) + ((5 : Int32) * x5))), (0, .ref 35), (1, .int x1), (2, .int x2), (3, .int x3), (5, .int x5)]) dX10_canBe_91 rfl (by decide) rfl ?_
            refine J_iinc (pc' := 96) (i := 5) (n := 6) (v := (x5 + (1 : Int32))) (lv' := [(5, .int (x5 + (1 : Int32))), (4, .int (1 : Int32)), (6, .int ((44 : Int32) + ((5 : Int32) * x5))), (0, .ref 35), (1, .int x1), (2, .int x2), (3, .int x3)]) dX10_canBe_93 rfl rfl (j_inc _ _ rfl _) (by decide) rfl ?_
            refine J_goto (pc' := 6) dX10_canBe_96 (by decide) ?_
            refine J_sub [3, 4, 5, 6, 1, 0] (lv' := [(0, .ref 35), (1, .int x1), (2, .int x2), (3, .int x3), (4, .int (1 : Int32)), (5, .int (x5 + (1 : Int32)))]) rfl ?_
            exact ih hs h hK
set_option maxHeartbeats 4000000 in
theorem c_X10_canBe {l : Launch} {G : j_G} {M : j_M} {x1 : Int32} {x2 : Int32} {x3 : Int32} (hs : sh_m M.2.2) {r : Int32} (h : f_X10_canBe M x1 x2 x3 = some r) : j_Sp l G md_X10_canBe 2 (0, 0) [.ref 35, .int x1, .int x2, .int x3] M (po (some (.int r)) M) := by
  refine j_Sp.of (by decide) (Nat.le_of_ble_eq_true rfl) ?_
  show JT_X10_canBe l G M r 0 [(0, .ref 35), (1, .int x1), (2, .int x2), (3, .int x3)] [] M
  unfold f_X10_canBe at h
  refine J_iconst (pc' := 1) (v := (1 : Int32)) dX10_canBe_0 rfl ic_1 ?_
  refine J_istore (pc' := 3) (i := 4) (lv' := [(4, .int (1 : Int32)), (0, .ref 35), (1, .int x1), (2, .int x2), (3, .int x3)]) dX10_canBe_1 rfl (by decide) rfl ?_
  refine J_iconst (pc' := 4) (v := (0 : Int32)) dX10_canBe_3 rfl ic_0 ?_
  refine J_istore (pc' := 6) (i := 5) (lv' := [(5, .int (0 : Int32)), (4, .int (1 : Int32)), (0, .ref 35), (1, .int x1), (2, .int x2), (3, .int x3)]) dX10_canBe_4 rfl (by decide) rfl ?_
  refine J_sub [2, 3, 4, 5, 1, 0] (lv' := [(0, .ref 35), (1, .int x1), (2, .int x2), (3, .int x3), (4, .int (1 : Int32)), (5, .int (0 : Int32))]) rfl ?_
  refine L_X10_canBe_L6 j_fu hs h (fun y19 y20 h => ?_)
  refine J_iload (pc' := 101) (i := 4) (n := 0) dX10_canBe_99 rfl rfl ?_
  obtain ⟨hz, h⟩ := z_b_inv h
  exact J_zret (ty := .boolean) rfl (j_zb hz) dX10_canBe_101 ⟨rfl, Nat.le_refl _⟩ (j_pIs h)
