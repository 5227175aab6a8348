abbrev JT_X10_count (l : Launch) (G : j_G) (r : (Int32 × j_M)) : Nat → List (Nat × Value) → List Value → j_M → Prop := JJ l G md_X10_count (j_rm 4 (0, 0)) (0, 0) (0, 0) (po (some (.int r.1)) r.2)
noncomputable def f_X10_count (M : j_M) (x1 : Int32) : Option (Int32 × j_M) :=
  tl (f_X10_in (x1).toInt64 (0 : Int64) (6 : Int64)) fun v1 => (if v1 = 0 then ((f_X10_bad M ((-2) : Int32)).bind fun q4 => j_ck M q4.2 (some (q4.1, q4.2))) else ((f_X10_counted M x1).bind fun v8 => (some (v8, M))))
set_option maxHeartbeats 4000000 in
theorem c_X10_count {l : Launch} {G : j_G} {M : j_M} {x1 : Int32} (hs : sh_m M.2.2) {r : (Int32 × j_M)} (h : f_X10_count M x1 = some r) : j_Sp l G md_X10_count 4 (0, 0) [.ref 35, .int x1] M (po (some (.int r.1)) r.2) := by
  refine j_Sp.of (by decide) (Nat.le_of_ble_eq_true rfl) ?_
  show JT_X10_count l G r 0 [(0, .ref 35), (1, .int x1)] [] M
  unfold f_X10_count at h
  refine J_iload_n (pc' := 1) (i := 1) (n := 1) dX10_count_0 rfl rfl rfl ?_
  refine J_i2l (pc' := 2) dX10_count_1 rfl ?_
  refine J_lconst (pc' := 3) (v := (0 : Int64)) dX10_count_2 rfl rfl ?_
  refine J_ldc2 (pc' := 6) (v := (6 : Int64)) dX10_count_3 rfl wd_1168 ?_
  obtain ⟨v1, e2, h⟩ := tl_inv h
  refine J_callS (pc' := 9) (as := [.long (x1).toInt64, .long (0 : Int64), .long (6 : Int64)]) (rest := []) dX10_count_6 rfl lk_X10_68 rfl (c_X10_in e2) ⟨Nat.le_of_ble_eq_true rfl, Nat.le_of_ble_eq_true rfl⟩ (Nat.le_of_ble_eq_true rfl) ⟨Nat.le_of_ble_eq_true rfl, Nat.le_of_ble_eq_true rfl⟩ (j_kq ?_)
  refine J_if_eq (pc' := 12) (tgt := 20) dX10_count_9 rfl (by decide) (fun c3 => ?_) (fun c3 => ?_)
  · replace h := j_ip c3 h
    refine J_aload_n (pc' := 21) (i := 0) (n := 0) dX10_count_20 rfl rfl rfl ?_
    refine J_bipush (pc' := 23) (v := ((-2) : Int32)) dX10_count_21 rfl bp_m2 ?_
    obtain ⟨q4, e5, h⟩ := bi_inv h
    obtain ⟨c6, h⟩ := j_ck_inv h
    refine J_callV (pc' := 26) (as := [.int ((-2) : Int32)]) (rest := []) dX10_count_23 rfl lk_X10_84 rfl 10 (by decide) rfl (m_o hs) (m_n hs (Nat.le_of_ble_eq_true rfl)) (c_X10_bad hs e5) ⟨Nat.le_of_ble_eq_true rfl, Nat.le_of_ble_eq_true rfl⟩ (Nat.le_of_ble_eq_true rfl) ⟨Nat.le_of_ble_eq_true rfl, Nat.le_of_ble_eq_true rfl⟩ (j_kq ?_)
    have g7 : sh_m q4.2.2.2 := j_shE c6 hs
    exact J_iret rfl dX10_count_26 ⟨rfl, Nat.le_refl _⟩ (j_pW h)
  · replace h := j_iq c3 h
    refine J_aload_n (pc' := 13) (i := 0) (n := 0) dX10_count_12 rfl rfl rfl ?_
    refine J_iload_n (pc' := 14) (i := 1) (n := 1) dX10_count_13 rfl rfl rfl ?_
    obtain ⟨v8, e9, h⟩ := bi_inv h
    refine J_callV (pc' := 17) (as := [.int x1]) (rest := []) dX10_count_14 rfl lk_X10_288 rfl 10 (by decide) rfl (m_o hs) (m_n hs (Nat.le_of_ble_eq_true rfl)) (c_X10_counted hs e9) ⟨Nat.le_of_ble_eq_true rfl, Nat.le_of_ble_eq_true rfl⟩ (Nat.le_of_ble_eq_true rfl) ⟨Nat.le_of_ble_eq_true rfl, Nat.le_of_ble_eq_true rfl⟩ (j_kq ?_)
    refine J_goto (pc' := 26) dX10_count_17 (by decide) ?_
    exact J_iret rfl dX10_count_26 ⟨rfl, Nat.le_refl _⟩ (j_pW h)
abbrev JT_X10_sums (l : Launch) (G : j_G) (M : j_M) (r : Int64) : Nat → List (Nat × Value) → List Value → j_M → Prop := JJ l G md_X10_sums (j_rm 1 (0, 0)) (0, 0) (0, 0) (po (some (.long r)) M)
noncomputable def f_X10_sums_L6 : Nat → j_M → Int32 → Int32 → Int64 → Int32 → (Int64 → Int32 → Option Int64) → Option Int64
  | 0, _, _, _, _, _, _ => none
  | n + 1, M, x3, x4, x5, x7, K =>
    if x4 ≤ x7 then (K x5 x7) else (a_i M 36 250 (x3 + x7) fun v2 => (f_X10_sums_L6 n  M x3 x4 (((31 : Int64) * x5) + (v2).toInt64) (x7 + (1 : Int32)) K))
noncomputable def f_X10_sums (M : j_M) (x1 : Int64) (x3 : Int32) (x4 : Int32) : Option Int64 :=
  f_X10_sums_L6 j_fu  M x3 x4 x1 (0 : Int32) (fun (y4 : Int64) (y5 : Int32) => (some y4))
set_option maxHeartbeats 4000000 in
theorem L_X10_sums_L6 {l : Launch} {G : j_G}  {r : Int64} : ∀ (n : Nat) {x3 : Int32} {x4 : Int32} {x5 : Int64} {x7 : Int32} {M : j_M} (hs : sh_m M.2.2) {K : Int64 → Int32 → Option Int64}, f_X10_sums_L6 n  M x3 x4 x5 x7 K = some r → (∀ (y5 : Int64) (y7 : Int32), K y5 y7 = some r → JT_X10_sums l G M r 38 [(5, .long y5)] [] M) → JT_X10_sums l G M r 6 [(0, .ref 35), (3, .int x3), (4, .int x4), (5, .long x5), (7, .int x7)] [] M := by
  intro n
  induction n with
  | zero =>
    intro x3 x4 x5 x7 M hs K h hK
    rw [f_X10_sums_L6] at h; cases h
  | succ n ih =>
    intro x3 x4 x5 x7 M hs K h hK
    rw [f_X10_sums_L6] at h
    refine J_iload (pc' := 8) (i := 7) (n := 4) dX10_sums_6 rfl rfl ?_
    refine J_iload (pc' := 10) (i := 4) (n := 2) dX10_sums_8 rfl rfl ?_
    refine J_icmp_ge (pc' := 13) (tgt := 38) dX10_sums_10 rfl (by decide) (fun c1 => ?_) (fun c1 => ?_)
    · replace h := j_ip c1 h
      refine J_sub [3] (lv' := [(5, .long x5)]) rfl ?_
      exact hK x5 x7  h
    · replace h := j_iq c1 h
      refine J_ldc2 (pc' := 16) (v := (31 : Int64)) dX10_sums_13 rfl wd_1311 ?_
      refine J_lload (pc' := 18) (i := 5) (n := 3) dX10_sums_16 rfl rfl ?_
      refine J_lmul (pc' := 19) dX10_sums_18 rfl ?_
      refine J_aload_n (pc' := 20) (i := 0) (n := 0) dX10_sums_19 rfl rfl rfl ?_
      refine J_getR (pc' := 23) (b := 36) dX10_sums_20 rfl fl_X10_7 rfl (m_o hs) (m_n hs (Nat.le_of_ble_eq_true rfl)) (m_r0 hs) ?_
      refine J_iload_n (pc' := 24) (i := 3) (n := 1) dX10_sums_23 rfl rfl rfl ?_
      refine J_iload (pc' := 26) (i := 7) (n := 4) dX10_sums_24 rfl rfl ?_
      refine J_iadd (pc' := 27) dX10_sums_26 rfl ?_
      obtain ⟨v2, e3, h⟩ := a_i_inv h
      refine J_ialde (pc' := 28) dX10_sums_27 rfl (m_s36 hs) (m_n hs (Nat.le_of_ble_eq_true rfl)) e3 ?_
      refine J_i2l (pc' := 29) dX10_sums_28 rfl ?_
      refine J_ladd (pc' := 30) dX10_sums_29 rfl ?_
      refine J_lstore (pc' := 32) (i := 5) (lv' := [(5, .long (((31 : Int64) * x5) + (v2).toInt64)), (0, .ref 35), (3, .int x3), (4, .int x4), (7, .int x7)]) dX10_sums_30 rfl (by decide) rfl ?_
      refine J_iinc (pc' := 35) (i := 7) (n := 4) (v := (x7 + (1 : Int32))) (lv' := [(7, .int (x7 + (1 : Int32))), (5, .long (((31 : Int64) * x5) + (v2).toInt64)), (0, .ref 35), (3, .int x3), (4, .int x4)]) dX10_sums_32 rfl rfl (j_inc _ _ rfl _) (by decide) rfl ?_
      refine J_goto (pc' := 6) dX10_sums_35 (by decide) ?_
      refine J_sub [2, 3, 4, 1, 0] (lv' := [(0, .ref 35), (3, .int x3), (4, .int x4), (5, .long (((31 : Int64) * x5) + (v2).toInt64)), (7, .int (x7 + (1 : Int32)))]) rfl ?_
      exact ih hs h hK
set_option maxHeartbeats 4000000 in
theorem c_X10_sums {l : Launch} {G : j_G} {M : j_M} {x1 : Int64} {x3 : Int32} {x4 : Int32} (hs : sh_m M.2.2) {r : Int64} (h : f_X10_sums M x1 x3 x4 = some r) : j_Sp l G md_X10_sums 1 (0, 0) [.ref 35, .long x1, .int x3, .int x4] M (po (some (.long r)) M) := by
  refine j_Sp.of (by decide) (Nat.le_of_ble_eq_true rfl) ?_
  show JT_X10_sums l G M r 0 [(0, .ref 35), (1, .long x1), (3, .int x3), (4, .int x4)] [] M
  unfold f_X10_sums at h
  refine J_lload_n (pc' := 1) (i := 1) (n := 1) dX10_sums_0 rfl rfl rfl ?_
  refine J_lstore (pc' := 3) (i := 5) (lv' := [(5, .long x1), (0, .ref 35), (1, .long x1), (3, .int x3), (4, .int x4)]) dX10_sums_1 rfl (by decide) rfl ?_
  refine J_iconst (pc' := 4) (v := (0 : Int32)) dX10_sums_3 rfl ic_0 ?_
  refine J_istore (pc' := 6) (i := 7) (lv' := [(7, .int (0 : Int32)), (5, .long x1), (0, .ref 35), (1, .long x1), (3, .int x3), (4, .int x4)]) dX10_sums_4 rfl (by decide) rfl ?_
  refine J_sub [2, 4, 5, 1, 0] (lv' := [(0, .ref 35), (3, .int x3), (4, .int x4), (5, .long x1), (7, .int (0 : Int32))]) rfl ?_
  refine L_X10_sums_L6 j_fu hs h (fun y4 y5 h => ?_)
  refine J_lload (pc' := 40) (i := 5) (n := 0) dX10_sums_38 rfl rfl ?_
  exact J_lret rfl dX10_sums_40 ⟨rfl, Nat.le_refl _⟩ (j_pLs h)
abbrev JT_X10_digest (l : Launch) (G : j_G) (M : j_M) (r : Int64) : Nat → List (Nat × Value) → List Value → j_M → Prop := JJ l G md_X10_digest (j_rm 4 (0, 0)) (0, 0) (0, 0) (po (some (.long r)) M)
noncomputable def f_X10_digest_L6 : Nat → j_M → Int64 → Int32 → (Int64 → Int32 → Option Int64) → Option Int64
  | 0, _, _, _, _ => none
  | n + 1, M, x1, x3, K =>
    if (7 : Int32) ≤ x3 then (K x1 x3) else ((f_X10_counted M x3).bind fun v2 => (f_X10_digest_L6 n  M (((31 : Int64) * x1) + (v2).toInt64) (x3 + (1 : Int32)) K))
noncomputable def f_X10_digest_L33 : Nat → j_M → Int64 → Int32 → (Int64 → Int32 → Option Int64) → Option Int64
  | 0, _, _, _, _ => none
  | n + 1, M, x1, x3, K =>
    if (4 : Int32) ≤ x3 then (K x1 x3) else (a_i M 36 250 ((4 : Int32) + x3) fun v7 => (a_i M 36 250 (8 : Int32) fun v9 => (f_X10_digest_L33 n  M (((31 : Int64) * (((31 : Int64) * x1) + (v7).toInt64)) + (((v9 >>> (x3 &&& 31)) &&& (1 : Int32))).toInt64) (x3 + (1 : Int32)) K)))
noncomputable def f_X10_digest_L79 : Nat → j_M → Int64 → Int32 → (Int64 → Int32 → Option Int64) → Option Int64
  | 0, _, _, _, _ => none
  | n + 1, M, x1, x3, K =>
    (f_X10_many M).bind fun v13 => (if v13 ≤ x3 then (K x1 x3) else (a_i M 36 250 ((30 : Int32) + x3) fun v16 => (a_i M 36 250 ((37 : Int32) + x3) fun v18 => (a_i M 36 250 ((9 : Int32) + x3) fun v20 => (a_i M 36 250 ((16 : Int32) + x3) fun v22 => (a_i M 36 250 ((23 : Int32) + x3) fun v24 => (f_X10_digest_L79 n  M (((31 : Int64) * (((31 : Int64) * (((31 : Int64) * (((31 : Int64) * (((31 : Int64) * x1) + (v16).toInt64)) + (v18).toInt64)) + (v20).toInt64)) + (v22).toInt64)) + (v24).toInt64) (x3 + (1 : Int32)) K)))))))
noncomputable def f_X10_digest (M : j_M)  : Option Int64 :=
  f_X10_digest_L6 j_fu  M (1279 : Int64) (0 : Int32) (fun (y4 : Int64) (y5 : Int32) => (f_X10_digest_L33 j_fu  M y4 (0 : Int32) (fun (y11 : Int64) (y12 : Int32) => (f_X10_digest_L79 j_fu  M y11 (0 : Int32) (fun (y26 : Int64) (y27 : Int32) => (a_i M 36 250 (2 : Int32) fun v28 => ((f_X10_sums M y26 (44 : Int32) ((5 : Int32) * v28)).bind fun v30 => (some (((31 : Int64) * (((31 : Int64) * v30) + (j_L M 35 4))) + (j_L M 35 5))))))))))
set_option maxHeartbeats 4000000 in
theorem L_X10_digest_L6 {l : Launch} {G : j_G}  {r : Int64} : ∀ (n : Nat) {x1 : Int64} {x3 : Int32} {M : j_M} (hs : sh_m M.2.2) {K : Int64 → Int32 → Option Int64}, f_X10_digest_L6 n  M x1 x3 K = some r → (∀ (y1 : Int64) (y3 : Int32), K y1 y3 = some r → JT_X10_digest l G M r 31 [(0, .ref 35), (1, .long y1)] [] M) → JT_X10_digest l G M r 6 [(0, .ref 35), (1, .long x1), (3, .int x3)] [] M := by
  intro n
  induction n with
  | zero =>
    intro x1 x3 M hs K h hK
    rw [f_X10_digest_L6] at h; cases h
  | succ n ih =>
    intro x1 x3 M hs K h hK
    rw [f_X10_digest_L6] at h
    refine J_iload_n (pc' := 7) (i := 3) (n := 2) dX10_digest_6 rfl rfl rfl ?_
    refine J_bipush (pc' := 9) (v := (7 : Int32)) dX10_digest_7 rfl bp_7 ?_
    refine J_icmp_ge (pc' := 12) (tgt := 31) dX10_digest_9 rfl (by decide) (fun c1 => ?_) (fun c1 => ?_)
    · replace h := j_ip c1 h
      refine J_sub [0, 1] (lv' := [(0, .ref 35), (1, .long x1)]) rfl ?_
      exact hK x1 x3  h
    · replace h := j_iq c1 h
      refine J_ldc2 (pc' := 15) (v := (31 : Int64)) dX10_digest_12 rfl wd_1311 ?_
      refine J_lload_n (pc' := 16) (i := 1) (n := 1) dX10_digest_15 rfl rfl rfl ?_
      refine J_lmul (pc' := 17) dX10_digest_16 rfl ?_
      refine J_aload_n (pc' := 18) (i := 0) (n := 0) dX10_digest_17 rfl rfl rfl ?_
      refine J_iload_n (pc' := 19) (i := 3) (n := 2) dX10_digest_18 rfl rfl rfl ?_
      obtain ⟨v2, e3, h⟩ := bi_inv h
      refine J_callV (pc' := 22) (as := [.int x3]) (rest := [.long ((31 : Int64) * x1)]) dX10_digest_19 rfl lk_X10_288 rfl 10 (by decide) rfl (m_o hs) (m_n hs (Nat.le_of_ble_eq_true rfl)) (c_X10_counted hs e3) ⟨Nat.le_of_ble_eq_true rfl, Nat.le_of_ble_eq_true rfl⟩ (Nat.le_of_ble_eq_true rfl) ⟨Nat.le_of_ble_eq_true rfl, Nat.le_of_ble_eq_true rfl⟩ (j_kq ?_)
      refine J_i2l (pc' := 23) dX10_digest_22 rfl ?_
      refine J_ladd (pc' := 24) dX10_digest_23 rfl ?_
      refine J_lstore_n (pc' := 25) (i := 1) (lv' := [(1, .long (((31 : Int64) * x1) + (v2).toInt64)), (0, .ref 35), (3, .int x3)]) dX10_digest_24 rfl rfl (by decide) rfl ?_
      refine J_iinc (pc' := 28) (i := 3) (n := 2) (v := (x3 + (1 : Int32))) (lv' := [(3, .int (x3 + (1 : Int32))), (1, .long (((31 : Int64) * x1) + (v2).toInt64)), (0, .ref 35)]) dX10_digest_25 rfl rfl (j_inc _ _ rfl _) (by decide) rfl ?_
      refine J_goto (pc' := 6) dX10_digest_28 (by decide) ?_
      refine J_sub [2, 1, 0] (lv' := [(0, .ref 35), (1, .long (((31 : Int64) * x1) + (v2).toInt64)), (3, .int (x3 + (1 : Int32)))]) rfl ?_
      exact ih hs h hK
set_option maxHeartbeats 4000000 in
theorem L_X10_digest_L33 {l : Launch} {G : j_G}  {r : Int64} : ∀ (n : Nat) {x1 : Int64} {x3 : Int32} {M : j_M} (hs : sh_m M.2.2) {K : Int64 → Int32 → Option Int64}, f_X10_digest_L33 n  M x1 x3 K = some r → (∀ (y1 : Int64) (y3 : Int32), K y1 y3 = some r → JT_X10_digest l G M r 77 [(0, .ref 35), (1, .long y1)] [] M) → JT_X10_digest l G M r 33 [(0, .ref 35), (1, .long x1), (3, .int x3)] [] M := by
  intro n
  induction n with
  | zero =>
    intro x1 x3 M hs K h hK
    rw [f_X10_digest_L33] at h; cases h
  | succ n ih =>
    intro x1 x3 M hs K h hK
    rw [f_X10_digest_L33] at h
    refine J_iload_n (pc' := 34) (i := 3) (n := 2) dX10_digest_33 rfl rfl rfl ?_
    refine J_iconst (pc' := 35) (v := (4 : Int32)) dX10_digest_34 rfl ic_4 ?_
    refine J_icmp_ge (pc' := 38) (tgt := 77) dX10_digest_35 rfl (by decide) (fun c6 => ?_) (fun c6 => ?_)
    · replace h := j_ip c6 h
      refine J_sub [0, 1] (lv' := [(0, .ref 35), (1, .long x1)]) rfl ?_
      exact hK x1 x3  h
    · replace h := j_iq c6 h
      refine J_ldc2 (pc' := 41) (v := (31 : Int64)) dX10_digest_38 rfl wd_1311 ?_
      refine J_ldc2 (pc' := 44) (v := (31 : Int64)) dX10_digest_41 rfl wd_1311 ?_
      refine J_lload_n (pc' := 45) (i := 1) (n := 1) dX10_digest_44 rfl rfl rfl ?_
      refine J_lmul (pc' := 46) dX10_digest_45 rfl ?_
      refine J_aload_n (pc' := 47) (i := 0) (n := 0) dX10_digest_46 rfl rfl rfl ?_
      refine J_getR (pc' := 50) (b := 36) dX10_digest_47 rfl fl_X10_7 rfl (m_o hs) (m_n hs (Nat.le_of_ble_eq_true rfl)) (m_r0 hs) ?_
      refine J_iconst (pc' := 51) (v := (4 : Int32)) dX10_digest_50 rfl ic_4 ?_
      refine J_iload_n (pc' := 52) (i := 3) (n := 2) dX10_digest_51 rfl rfl rfl ?_
      refine J_iadd (pc' := 53) dX10_digest_52 rfl ?_
      obtain ⟨v7, e8, h⟩ := a_i_inv h
      refine J_ialde (pc' := 54) dX10_digest_53 rfl (m_s36 hs) (m_n hs (Nat.le_of_ble_eq_true rfl)) e8 ?_
      refine J_i2l (pc' := 55) dX10_digest_54 rfl ?_
      refine J_ladd (pc' := 56) dX10_digest_55 rfl ?_
      refine J_lmul (pc' := 57) dX10_digest_56 rfl ?_
      refine J_aload_n (pc' := 58) (i := 0) (n := 0) dX10_digest_57 rfl rfl rfl ?_
      refine J_getR (pc' := 61) (b := 36) dX10_digest_58 rfl fl_X10_7 rfl (m_o hs) (m_n hs (Nat.le_of_ble_eq_true rfl)) (m_r0 hs) ?_
      refine J_bipush (pc' := 63) (v := (8 : Int32)) dX10_digest_61 rfl bp_8 ?_
      obtain ⟨v9, e10, h⟩ := a_i_inv h
      refine J_ialde (pc' := 64) dX10_digest_63 rfl (m_s36 hs) (m_n hs (Nat.le_of_ble_eq_true rfl)) e10 ?_
      refine J_iload_n (pc' := 65) (i := 3) (n := 2) dX10_digest_64 rfl rfl rfl ?_
      refine J_ishr (pc' := 66) dX10_digest_65 rfl ?_
      refine J_iconst (pc' := 67) (v := (1 : Int32)) dX10_digest_66 rfl ic_1 ?_
      refine J_iand (pc' := 68) dX10_digest_67 rfl ?_
      refine J_i2l (pc' := 69) dX10_digest_68 rfl ?_
      refine J_ladd (pc' := 70) dX10_digest_69 rfl ?_
      refine J_lstore_n (pc' := 71) (i := 1) (lv' := [(1, .long (((31 : Int64) * (((31 : Int64) * x1) + (v7).toInt64)) + (((v9 >>> (x3 &&& 31)) &&& (1 : Int32))).toInt64)), (0, .ref 35), (3, .int x3)]) dX10_digest_70 rfl rfl (by decide) rfl ?_
      refine J_iinc (pc' := 74) (i := 3) (n := 2) (v := (x3 + (1 : Int32))) (lv' := [(3, .int (x3 + (1 : Int32))), (1, .long (((31 : Int64) * (((31 : Int64) * x1) + (v7).toInt64)) + (((v9 >>> (x3 &&& 31)) &&& (1 : Int32))).toInt64)), (0, .ref 35)]) dX10_digest_71 rfl rfl (j_inc _ _ rfl _) (by decide) rfl ?_
      refine J_goto (pc' := 33) dX10_digest_74 (by decide) ?_
      refine J_sub [2, 1, 0] (lv' := [(0, .ref 35), (1, .long (((31 : Int64) * (((31 : Int64) * x1) + (v7).toInt64)) + (((v9 >>> (x3 &&& 31)) &&& (1 : Int32))).toInt64)), (3, .int (x3 + (1 : Int32)))]) rfl ?_
      exact ih hs h hK
set_option maxHeartbeats 4000000 in
theorem L_X10_digest_L79 {l : Launch} {G : j_G}  {r : Int64} : ∀ (n : Nat) {x1 : Int64} {x3 : Int32} {M : j_M} (hs : sh_m M.2.2) {K : Int64 → Int32 → Option Int64}, f_X10_digest_L79 n  M x1 x3 K = some r → (∀ (y1 : Int64) (y3 : Int32), K y1 y3 = some r → JT_X10_digest l G M r 172 [(0, .ref 35), (1, .long y1)] [] M) → JT_X10_digest l G M r 79 [(0, .ref 35), (1, .long x1), (3, .int x3)] [] M := by
  intro n
  induction n with
  | zero =>
    intro x1 x3 M hs K h hK
    rw [f_X10_digest_L79] at h; cases h
  | succ n ih =>
    intro x1 x3 M hs K h hK
    rw [f_X10_digest_L79] at h
    refine J_iload_n (pc' := 80) (i := 3) (n := 2) dX10_digest_79 rfl rfl rfl ?_
    refine J_aload_n (pc' := 81) (i := 0) (n := 0) dX10_digest_80 rfl rfl rfl ?_
    obtain ⟨v13, e14, h⟩ := bi_inv h
    refine J_callV (pc' := 84) (as := []) (rest := [.int x3]) dX10_digest_81 rfl lk_X10_64 rfl 10 (by decide) rfl (m_o hs) (m_n hs (Nat.le_of_ble_eq_true rfl)) (c_X10_many hs e14) ⟨Nat.le_of_ble_eq_true rfl, Nat.le_of_ble_eq_true rfl⟩ (Nat.le_of_ble_eq_true rfl) ⟨Nat.le_of_ble_eq_true rfl, Nat.le_of_ble_eq_true rfl⟩ (j_kq ?_)
    refine J_icmp_ge (pc' := 87) (tgt := 172) dX10_digest_84 rfl (by decide) (fun c15 => ?_) (fun c15 => ?_)
    · replace h := j_ip c15 h
      refine J_sub [0, 1] (lv' := [(0, .ref 35), (1, .long x1)]) rfl ?_
      exact hK x1 x3  h
    · replace h := j_iq c15 h
      refine J_ldc2 (pc' := 90) (v := (31 : Int64)) dX10_digest_87 rfl wd_1311 ?_
      refine J_ldc2 (pc' := 93) (v := (31 : Int64)) dX10_digest_90 rfl wd_1311 ?_
      refine J_lload_n (pc' := 94) (i := 1) (n := 1) dX10_digest_93 rfl rfl rfl ?_
      refine J_lmul (pc' := 95) dX10_digest_94 rfl ?_
      refine J_aload_n (pc' := 96) (i := 0) (n := 0) dX10_digest_95 rfl rfl rfl ?_
      refine J_getR (pc' := 99) (b := 36) dX10_digest_96 rfl fl_X10_7 rfl (m_o hs) (m_n hs (Nat.le_of_ble_eq_true rfl)) (m_r0 hs) ?_
      refine J_bipush (pc' := 101) (v := (30 : Int32)) dX10_digest_99 rfl bp_30 ?_
      refine J_iload_n (pc' := 102) (i := 3) (n := 2) dX10_digest_101 rfl rfl rfl ?_
      refine J_iadd (pc' := 103) dX10_digest_102 rfl ?_
      obtain ⟨v16, e17, h⟩ := a_i_inv h
      refine J_ialde (pc' := 104) dX10_digest_103 rfl (m_s36 hs) (m_n hs (Nat.le_of_ble_eq_true rfl)) e17 ?_
      refine J_i2l (pc' := 105) dX10_digest_104 rfl ?_
      refine J_ladd (pc' := 106) dX10_digest_105 rfl ?_
      refine J_lmul (pc' := 107) dX10_digest_106 rfl ?_
      refine J_aload_n (pc' := 108) (i := 0) (n := 0) dX10_digest_107 rfl rfl rfl ?_
      refine J_getR (pc' := 111) (b := 36) dX10_digest_108 rfl fl_X10_7 rfl (m_o hs) (m_n hs (Nat.le_of_ble_eq_true rfl)) (m_r0 hs) ?_
      refine J_bipush (pc' := 113) (v := (37 : Int32)) dX10_digest_111 rfl bp_37 ?_
      refine J_iload_n (pc' := 114) (i := 3) (n := 2) dX10_digest_113 rfl rfl rfl ?_
      refine J_iadd (pc' := 115) dX10_digest_114 rfl ?_
      obtain ⟨v18, e19, h⟩ := a_i_inv h
      refine J_ialde (pc' := 116) dX10_digest_115 rfl (m_s36 hs) (m_n hs (Nat.le_of_ble_eq_true rfl)) e19 ?_
      refine J_i2l (pc' := 117) dX10_digest_116 rfl ?_
      refine J_ladd (pc' := 118) dX10_digest_117 rfl ?_
      refine J_lstore_n (pc' := 119) (i := 1) (lv' := [(1, .long (((31 : Int64) * (((31 : Int64) * x1) + (v16).toInt64)) + (v18).toInt64)), (0, .ref 35), (3, .int x3)]) dX10_digest_118 rfl rfl (by decide) rfl ?_
      refine J_ldc2 (pc' := 122) (v := (31 : Int64)) dX10_digest_119 rfl wd_1311 ?_
      refine J_ldc2 (pc' := 125) (v := (31 : Int64)) dX10_digest_122 rfl wd_1311 ?_
      refine J_ldc2 (pc' := 128) (v := (31 : Int64)) dX10_digest_125 rfl wd_1311 ?_
      refine J_lload_n (pc' := 129) (i := 1) (n := 0) dX10_digest_128 rfl rfl rfl ?_
      refine J_lmul (pc' := 130) dX10_digest_129 rfl ?_
      refine J_aload_n (pc' := 131) (i := 0) (n := 1) dX10_digest_130 rfl rfl rfl ?_
      refine J_getR (pc' := 134) (b := 36) dX10_digest_131 rfl fl_X10_7 rfl (m_o hs) (m_n hs (Nat.le_of_ble_eq_true rfl)) (m_r0 hs) ?_
      refine J_bipush (pc' := 136) (v := (9 : Int32)) dX10_digest_134 rfl bp_9 ?_
      refine J_iload_n (pc' := 137) (i := 3) (n := 2) dX10_digest_136 rfl rfl rfl ?_
      refine J_iadd (pc' := 138) dX10_digest_137 rfl ?_
      obtain ⟨v20, e21, h⟩ := a_i_inv h
      refine J_ialde (pc' := 139) dX10_digest_138 rfl (m_s36 hs) (m_n hs (Nat.le_of_ble_eq_true rfl)) e21 ?_
      refine J_i2l (pc' := 140) dX10_digest_139 rfl ?_
      refine J_ladd (pc' := 141) dX10_digest_140 rfl ?_
      refine J_lmul (pc' := 142) dX10_digest_141 rfl ?_
      refine J_aload_n (pc' := 143) (i := 0) (n := 1) dX10_digest_142 rfl rfl rfl ?_
      refine J_getR (pc' := 146) (b := 36) dX10_digest_143 rfl fl_X10_7 rfl (m_o hs) (m_n hs (Nat.le_of_ble_eq_true rfl)) (m_r0 hs) ?_
      refine J_bipush (pc' := 148) (v := (16 : Int32)) dX10_digest_146 rfl bp_16 ?_
      refine J_iload_n (pc' := 149) (i := 3) (n := 2) dX10_digest_148 rfl rfl rfl ?_
      refine J_iadd (pc' := 150) dX10_digest_149 rfl ?_
      obtain ⟨v22, e23, h⟩ := a_i_inv h
      refine J_ialde (pc' := 151) dX10_digest_150 rfl (m_s36 hs) (m_n hs (Nat.le_of_ble_eq_true rfl)) e23 ?_
      refine J_i2l (pc' := 152) dX10_digest_151 rfl ?_
      refine J_ladd (pc' := 153) dX10_digest_152 rfl ?_
      refine J_lmul (pc' := 154) dX10_digest_153 rfl ?_
      refine J_aload_n (pc' := 155) (i := 0) (n := 1) dX10_digest_154 rfl rfl rfl ?_
      refine J_getR (pc' := 158) (b := 36) dX10_digest_155 rfl fl_X10_7 rfl (m_o hs) (m_n hs (Nat.le_of_ble_eq_true rfl)) (m_r0 hs) ?_
      refine J_bipush (pc' := 160) (v := (23 : Int32)) dX10_digest_158 rfl bp_23 ?_
      refine J_iload_n (pc' := 161) (i := 3) (n := 2) dX10_digest_160 rfl rfl rfl ?_
      refine J_iadd (pc' := 162) dX10_digest_161 rfl ?_
      obtain ⟨v24, e25, h⟩ := a_i_inv h
      refine J_ialde (pc' := 163) dX10_digest_162 rfl (m_s36 hs) (m_n hs (Nat.le_of_ble_eq_true rfl)) e25 ?_
      refine J_i2l (pc' := 164) dX10_digest_163 rfl ?_
      refine J_ladd (pc' := 165) dX10_digest_164 rfl ?_
      refine J_lstore_n (pc' := 166) (i := 1) (lv' := [(1, .long (((31 : Int64) * (((31 : Int64) * (((31 : Int64) * (((31 : Int64) * (((31 : Int64) * x1) + (v16).toInt64)) + (v18).toInt64)) + (v20).toInt64)) + (v22).toInt64)) + (v24).toInt64)), (0, .ref 35), (3, .int x3)]) dX10_digest_165 rfl rfl (by decide) rfl ?_
      refine J_iinc (pc' := 169) (i := 3) (n := 2) (v := (x3 + (1 : Int32))) (lv' := [(3, .int (x3 + (1 : Int32))), (1, .long (((31 : Int64) * (((31 : Int64) * (((31 : Int64) * (((31 : Int64) * (((31 : Int64) * x1) + (v16).toInt64)) + (v18).toInt64)) + (v20).toInt64)) + (v22).toInt64)) + (v24).toInt64)), (0, .ref 35)]) dX10_digest_166 rfl rfl (j_inc _ _ rfl _) (by decide) rfl ?_
      refine J_goto (pc' := 79) dX10_digest_169 (by decide) ?_
      refine J_sub [2, 1, 0] (lv' := [(0, .ref 35), (1, .long (((31 : Int64) * (((31 : Int64) * (((31 : Int64) * (((31 : Int64) * (((31 : Int64) * x1) + (v16).toInt64)) + (v18).toInt64)) + (v20).toInt64)) + (v22).toInt64)) + (v24).toInt64)), (3, .int (x3 + (1 : Int32)))]) rfl ?_
      exact ih hs h hK
set_option maxHeartbeats 4000000 in
theorem c_X10_digest {l : Launch} {G : j_G} {M : j_M}  (hs : sh_m M.2.2) {r : Int64} (h : f_X10_digest M  = some r) : j_Sp l G md_X10_digest 4 (0, 0) [.ref 35] M (po (some (.long r)) M) := by
  refine j_Sp.of (by decide) (Nat.le_of_ble_eq_true rfl) ?_
  show JT_X10_digest l G M r 0 [(0, .ref 35)] [] M
  unfold f_X10_digest at h
  refine J_ldc2 (pc' := 3) (v := (1279 : Int64)) dX10_digest_0 rfl wd_1310 ?_
  refine J_lstore_n (pc' := 4) (i := 1) (lv' := [(1, .long (1279 : Int64)), (0, .ref 35)]) dX10_digest_3 rfl rfl (by decide) rfl ?_
  refine J_iconst (pc' := 5) (v := (0 : Int32)) dX10_digest_4 rfl ic_0 ?_
  refine J_istore_n (pc' := 6) (i := 3) (lv' := [(3, .int (0 : Int32)), (1, .long (1279 : Int64)), (0, .ref 35)]) dX10_digest_5 rfl rfl (by decide) rfl ?_
  refine J_sub [2, 1, 0] (lv' := [(0, .ref 35), (1, .long (1279 : Int64)), (3, .int (0 : Int32))]) rfl ?_
  refine L_X10_digest_L6 j_fu hs h (fun y4 y5 h => ?_)
  refine J_iconst (pc' := 32) (v := (0 : Int32)) dX10_digest_31 rfl ic_0 ?_
  refine J_istore_n (pc' := 33) (i := 3) (lv' := [(3, .int (0 : Int32)), (0, .ref 35), (1, .long y4)]) dX10_digest_32 rfl rfl (by decide) rfl ?_
  refine J_sub [1, 2, 0] (lv' := [(0, .ref 35), (1, .long y4), (3, .int (0 : Int32))]) rfl ?_
  refine L_X10_digest_L33 j_fu hs h (fun y11 y12 h => ?_)
  refine J_iconst (pc' := 78) (v := (0 : Int32)) dX10_digest_77 rfl ic_0 ?_
  refine J_istore_n (pc' := 79) (i := 3) (lv' := [(3, .int (0 : Int32)), (0, .ref 35), (1, .long y11)]) dX10_digest_78 rfl rfl (by decide) rfl ?_
  refine J_sub [1, 2, 0] (lv' := [(0, .ref 35), (1, .long y11), (3, .int (0 : Int32))]) rfl ?_
  refine L_X10_digest_L79 j_fu hs h (fun y26 y27 h => ?_)
  refine J_aload_n (pc' := 173) (i := 0) (n := 0) dX10_digest_172 rfl rfl rfl ?_
  refine J_lload_n (pc' := 174) (i := 1) (n := 1) dX10_digest_173 rfl rfl rfl ?_
  refine J_bipush (pc' := 176) (v := (44 : Int32)) dX10_digest_174 rfl bp_44 ?_
  refine J_iconst (pc' := 177) (v := (5 : Int32)) dX10_digest_176 rfl ic_5 ?_
  refine J_aload_n (pc' := 178) (i := 0) (n := 0) dX10_digest_177 rfl rfl rfl ?_
  refine J_getR (pc' := 181) (b := 36) dX10_digest_178 rfl fl_X10_7 rfl (m_o hs) (m_n hs (Nat.le_of_ble_eq_true rfl)) (m_r0 hs) ?_
  refine J_iconst (pc' := 182) (v := (2 : Int32)) dX10_digest_181 rfl ic_2 ?_
  obtain ⟨v28, e29, h⟩ := a_i_inv h
  refine J_ialde (pc' := 183) dX10_digest_182 rfl (m_s36 hs) (m_n hs (Nat.le_of_ble_eq_true rfl)) e29 ?_
  refine J_imul (pc' := 184) dX10_digest_183 rfl ?_
  obtain ⟨v30, e31, h⟩ := bi_inv h
  refine J_callV (pc' := 187) (as := [.long y26, .int (44 : Int32), .int ((5 : Int32) * v28)]) (rest := []) dX10_digest_184 rfl lk_X10_295 rfl 10 (by decide) rfl (m_o hs) (m_n hs (Nat.le_of_ble_eq_true rfl)) (c_X10_sums hs e31) ⟨Nat.le_of_ble_eq_true rfl, Nat.le_of_ble_eq_true rfl⟩ (Nat.le_of_ble_eq_true rfl) ⟨Nat.le_of_ble_eq_true rfl, Nat.le_of_ble_eq_true rfl⟩ (j_kq ?_)
  refine J_lstore_n (pc' := 188) (i := 1) (lv' := [(1, .long v30), (0, .ref 35)]) dX10_digest_187 rfl rfl (by decide) rfl ?_
  refine J_ldc2 (pc' := 191) (v := (31 : Int64)) dX10_digest_188 rfl wd_1311 ?_
  refine J_ldc2 (pc' := 194) (v := (31 : Int64)) dX10_digest_191 rfl wd_1311 ?_
  refine J_lload_n (pc' := 195) (i := 1) (n := 0) dX10_digest_194 rfl rfl rfl ?_
  refine J_lmul (pc' := 196) dX10_digest_195 rfl ?_
  refine J_aload_n (pc' := 197) (i := 0) (n := 1) dX10_digest_196 rfl rfl rfl ?_
  refine J_getL (pc' := 200) dX10_digest_197 rfl fl_X10_201 rfl (m_o hs) (m_n hs (Nat.le_of_ble_eq_true rfl)) ?_
  refine J_ladd (pc' := 201) dX10_digest_200 rfl ?_
  refine J_lmul (pc' := 202) dX10_digest_201 rfl ?_
  refine J_aload_n (pc' := 203) (i := 0) (n := 1) dX10_digest_202 rfl rfl rfl ?_
  refine J_getL (pc' := 206) dX10_digest_203 rfl fl_X10_23 rfl (m_o hs) (m_n hs (Nat.le_of_ble_eq_true rfl)) ?_
  refine J_ladd (pc' := 207) dX10_digest_206 rfl ?_
  exact J_lret rfl dX10_digest_207 ⟨rfl, Nat.le_refl _⟩ (j_pLs h)
