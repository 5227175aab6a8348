abbrev JT_X10_type (l : Launch) (G : j_G) (r : (Int32 × j_M)) : Nat → List (Nat × Value) → List Value → j_M → Prop := JJ l G md_X10_type (j_rm 2 (0, 0)) (0, 0) (0, 0) (po (some (.int r.1)) r.2)
noncomputable def f_X10_type (M : j_M) (x1 : Int32) : Option (Int32 × j_M) :=
  tl (f_X10_in (x1).toInt64 (0 : Int64) (127 : Int64)) fun v1 => (if v1 = 0 then ((f_X10_bad M ((-2) : Int32)).bind fun q15 => j_ck M q15.2 (some (q15.1, q15.2))) else (if (j_I M 35 19) = (150 : Int32) then ((f_X10_full M).bind fun q11 => j_ck M q11.2 (some (q11.1, q11.2))) else (w_i M 48 150 (j_I M 35 19) x1 fun M5 => (tl (j_sI M5 35 19 ((j_I M5 35 19) + (1 : Int32))) fun M8 => (some ((j_I M8 35 19), M8))))))
set_option maxHeartbeats 4000000 in
theorem c_X10_type {l : Launch} {G : j_G} {M : j_M} {x1 : Int32} (hs : sh_m M.2.2) {r : (Int32 × j_M)} (h : f_X10_type M x1 = some r) : j_Sp l G md_X10_type 2 (0, 0) [.ref 35, .int x1] M (po (some (.int r.1)) r.2) := by
  refine j_Sp.of (by decide) (Nat.le_of_ble_eq_true rfl) ?_
  show JT_X10_type l G r 0 [(0, .ref 35), (1, .int x1)] [] M
  unfold f_X10_type at h
  refine J_iload_n (pc' := 1) (i := 1) (n := 1) dX10_type_0 rfl rfl rfl ?_
  refine J_i2l (pc' := 2) dX10_type_1 rfl ?_
  refine J_lconst (pc' := 3) (v := (0 : Int64)) dX10_type_2 rfl rfl ?_
  refine J_ldc2 (pc' := 6) (v := (127 : Int64)) dX10_type_3 rfl wd_1227 ?_
  obtain ⟨v1, e2, h⟩ := tl_inv h
  refine J_callS (pc' := 9) (as := [.long (x1).toInt64, .long (0 : Int64), .long (127 : Int64)]) (rest := []) dX10_type_6 rfl lk_X10_68 rfl (c_X10_in e2) ⟨Nat.le_of_ble_eq_true rfl, Nat.le_of_ble_eq_true rfl⟩ (Nat.le_of_ble_eq_true rfl) ⟨Nat.le_of_ble_eq_true rfl, Nat.le_of_ble_eq_true rfl⟩ (j_kq ?_)
  refine J_if_ne (pc' := 12) (tgt := 19) dX10_type_9 rfl (by decide) (fun c3 => ?_) (fun c3 => ?_)
  · replace h := j_iq c3 h
    refine J_aload_n (pc' := 20) (i := 0) (n := 0) dX10_type_19 rfl rfl rfl ?_
    refine J_getI (pc' := 23) dX10_type_20 rfl fl_X10_230 rfl (m_o hs) (m_n hs (Nat.le_of_ble_eq_true rfl)) ?_
    refine J_sipush (pc' := 26) (v := (150 : Int32)) dX10_type_23 rfl sp_150 ?_
    refine J_icmp_ne (pc' := 29) (tgt := 34) dX10_type_26 rfl (by decide) (fun c4 => ?_) (fun c4 => ?_)
    · replace h := j_iq c4 h
      refine J_aload_n (pc' := 35) (i := 0) (n := 0) dX10_type_34 rfl rfl rfl ?_
      refine J_getR (pc' := 38) (b := 48) dX10_type_35 rfl fl_X10_51 rfl (m_o hs) (m_n hs (Nat.le_of_ble_eq_true rfl)) (m_r18 hs) ?_
      refine J_aload_n (pc' := 39) (i := 0) (n := 0) dX10_type_38 rfl rfl rfl ?_
      refine J_getI (pc' := 42) dX10_type_39 rfl fl_X10_230 rfl (m_o hs) (m_n hs (Nat.le_of_ble_eq_true rfl)) ?_
      refine J_iload_n (pc' := 43) (i := 1) (n := 1) dX10_type_42 rfl rfl rfl ?_
      obtain ⟨M5, e6, h⟩ := w_i_inv h
      have g7 : sh_m M5.2.2 := j_shI e6.2 hs
      refine J_iaste (pc' := 44) dX10_type_43 rfl (m_s48 hs) (m_n hs (Nat.le_of_ble_eq_true rfl)) e6 ?_
      refine J_aload_n (pc' := 45) (i := 0) (n := 0) dX10_type_44 rfl rfl rfl ?_
      refine J_dup (pc' := 46) dX10_type_45 rfl rfl ?_
      refine J_getI (pc' := 49) dX10_type_46 rfl fl_X10_230 rfl (m_o g7) (m_n g7 (Nat.le_of_ble_eq_true rfl)) ?_
      refine J_iconst (pc' := 50) (v := (1 : Int32)) dX10_type_49 rfl ic_1 ?_
      refine J_iadd (pc' := 51) dX10_type_50 rfl ?_
      obtain ⟨M8, e9, h⟩ := tl_inv h
      have g10 : sh_m M8.2.2 := j_shI e9 g7
      refine J_putIe (pc' := 54) dX10_type_51 rfl fl_X10_230 ⟨rfl, rfl, rfl⟩ (m_o g7) (m_n g7 (Nat.le_of_ble_eq_true rfl)) e9 ?_
      refine J_aload_n (pc' := 55) (i := 0) (n := 0) dX10_type_54 rfl rfl rfl ?_
      refine J_getI (pc' := 58) dX10_type_55 rfl fl_X10_230 rfl (m_o g10) (m_n g10 (Nat.le_of_ble_eq_true rfl)) ?_
      exact J_iret rfl dX10_type_58 ⟨rfl, Nat.le_refl _⟩ (j_pW h)
    · replace h := j_ip c4 h
      refine J_aload_n (pc' := 30) (i := 0) (n := 0) dX10_type_29 rfl rfl rfl ?_
      obtain ⟨q11, e12, h⟩ := bi_inv h
      obtain ⟨c13, h⟩ := j_ck_inv h
      refine J_callV (pc' := 33) (as := []) (rest := []) dX10_type_30 rfl lk_X10_104 rfl 10 (by decide) rfl (m_o hs) (m_n hs (Nat.le_of_ble_eq_true rfl)) (c_X10_full hs e12) ⟨Nat.le_of_ble_eq_true rfl, Nat.le_of_ble_eq_true rfl⟩ (Nat.le_of_ble_eq_true rfl) ⟨Nat.le_of_ble_eq_true rfl, Nat.le_of_ble_eq_true rfl⟩ (j_kq ?_)
      have g14 : sh_m q11.2.2.2 := j_shE c13 hs
      exact J_iret rfl dX10_type_33 ⟨rfl, Nat.le_refl _⟩ (j_pW h)
  · replace h := j_ip c3 h
    refine J_aload_n (pc' := 13) (i := 0) (n := 0) dX10_type_12 rfl rfl rfl ?_
    refine J_bipush (pc' := 15) (v := ((-2) : Int32)) dX10_type_13 rfl bp_m2 ?_
    obtain ⟨q15, e16, h⟩ := bi_inv h
    obtain ⟨c17, h⟩ := j_ck_inv h
    refine J_callV (pc' := 18) (as := [.int ((-2) : Int32)]) (rest := []) dX10_type_15 rfl lk_X10_84 rfl 10 (by decide) rfl (m_o hs) (m_n hs (Nat.le_of_ble_eq_true rfl)) (c_X10_bad hs e16) ⟨Nat.le_of_ble_eq_true rfl, Nat.le_of_ble_eq_true rfl⟩ (Nat.le_of_ble_eq_true rfl) ⟨Nat.le_of_ble_eq_true rfl, Nat.le_of_ble_eq_true rfl⟩ (j_kq ?_)
    have g18 : sh_m q15.2.2.2 := j_shE c17 hs
    exact J_iret rfl dX10_type_18 ⟨rfl, Nat.le_refl _⟩ (j_pW h)
abbrev JT_X10_clear (l : Launch) (G : j_G) (r : (Int32 × j_M)) : Nat → List (Nat × Value) → List Value → j_M → Prop := JJ l G md_X10_clear (j_rm 1 (0, 0)) (0, 0) (0, 0) (po (some (.int r.1)) r.2)
noncomputable def f_X10_clear (M : j_M)  : Option (Int32 × j_M) :=
  tl (j_sI M 35 19 (0 : Int32)) fun M1 => (some ((j_I M 35 19), M1))
set_option maxHeartbeats 4000000 in
theorem c_X10_clear {l : Launch} {G : j_G} {M : j_M}  (hs : sh_m M.2.2) {r : (Int32 × j_M)} (h : f_X10_clear M  = some r) : j_Sp l G md_X10_clear 1 (0, 0) [.ref 35] M (po (some (.int r.1)) r.2) := by
  refine j_Sp.of (by decide) (Nat.le_of_ble_eq_true rfl) ?_
  show JT_X10_clear l G r 0 [(0, .ref 35)] [] M
  unfold f_X10_clear at h
  refine J_aload_n (pc' := 1) (i := 0) (n := 0) dX10_clear_0 rfl rfl rfl ?_
  refine J_getI (pc' := 4) dX10_clear_1 rfl fl_X10_230 rfl (m_o hs) (m_n hs (Nat.le_of_ble_eq_true rfl)) ?_
  refine J_istore_n (pc' := 5) (i := 1) (lv' := [(1, .int (j_I M 35 19)), (0, .ref 35)]) dX10_clear_4 rfl rfl (by decide) rfl ?_
  refine J_aload_n (pc' := 6) (i := 0) (n := 1) dX10_clear_5 rfl rfl rfl ?_
  refine J_iconst (pc' := 7) (v := (0 : Int32)) dX10_clear_6 rfl ic_0 ?_
  obtain ⟨M1, e2, h⟩ := tl_inv h
  have g3 : sh_m M1.2.2 := j_shI e2 hs
  refine J_putIe (pc' := 10) dX10_clear_7 rfl fl_X10_230 ⟨rfl, rfl, rfl⟩ (m_o hs) (m_n hs (Nat.le_of_ble_eq_true rfl)) e2 ?_
  refine J_iload_n (pc' := 11) (i := 1) (n := 0) dX10_clear_10 rfl rfl rfl ?_
  exact J_iret rfl dX10_clear_11 ⟨rfl, Nat.le_refl _⟩ (j_pW h)
abbrev JT_X10_isSmall (l : Launch) (G : j_G) (M : j_M) (r : Int32) : Nat → List (Nat × Value) → List Value → j_M → Prop := JJ l G md_X10_isSmall (j_rm 2 (0, 0)) (0, 0) (0, 0) (po (some (.int r)) M)
def f_X10_isSmall (x0 : Int32) : Int32 :=
  tl (f_X10_in (x0).toInt64 (97 : Int64) (122 : Int64)) fun v1 => (v1)
theorem z_X10_isSmall (x0 : Int32) : f_X10_isSmall x0 = 0 ∨ f_X10_isSmall x0 = 1 := by
  unfold f_X10_isSmall
  try simp only [tl, jn]
  repeat' split
  all_goals first | exact Or.inl rfl | exact Or.inr rfl | exact z_X10_in _ _ _
set_option maxHeartbeats 4000000 in
theorem c_X10_isSmall {l : Launch} {G : j_G} {M : j_M} {x0 : Int32}  {r : Int32} (h : f_X10_isSmall x0 = r) : j_Sp l G md_X10_isSmall 2 (0, 0) [.int x0] M (po (some (.int r)) M) := by
  refine j_Sp.of (by decide) (Nat.le_of_ble_eq_true rfl) ?_
  show JT_X10_isSmall l G M r 0 [(0, .int x0)] [] M
  unfold f_X10_isSmall at h
  refine J_iload_n (pc' := 1) (i := 0) (n := 0) dX10_isSmall_0 rfl rfl rfl ?_
  refine J_i2l (pc' := 2) dX10_isSmall_1 rfl ?_
  refine J_ldc2 (pc' := 5) (v := (97 : Int64)) dX10_isSmall_2 rfl wd_1243 ?_
  refine J_ldc2 (pc' := 8) (v := (122 : Int64)) dX10_isSmall_5 rfl wd_1244 ?_
  obtain ⟨v1, e2, h⟩ := tl_inv h
  refine J_callS (pc' := 11) (as := [.long (x0).toInt64, .long (97 : Int64), .long (122 : Int64)]) (rest := []) dX10_isSmall_8 rfl lk_X10_68 rfl (c_X10_in e2) ⟨Nat.le_of_ble_eq_true rfl, Nat.le_of_ble_eq_true rfl⟩ (Nat.le_of_ble_eq_true rfl) ⟨Nat.le_of_ble_eq_true rfl, Nat.le_of_ble_eq_true rfl⟩ (j_kq ?_)
  exact J_zret (ty := .boolean) rfl (j_z01 (e2 ▸ z_X10_in _ _ _)) dX10_isSmall_11 ⟨rfl, Nat.le_refl _⟩ (j_pI h)
abbrev JT_X10_isFigure (l : Launch) (G : j_G) (M : j_M) (r : Int32) : Nat → List (Nat × Value) → List Value → j_M → Prop := JJ l G md_X10_isFigure (j_rm 2 (0, 0)) (0, 0) (0, 0) (po (some (.int r)) M)
def f_X10_isFigure (x0 : Int32) : Int32 :=
  tl (f_X10_in (x0).toInt64 (48 : Int64) (57 : Int64)) fun v1 => (v1)
theorem z_X10_isFigure (x0 : Int32) : f_X10_isFigure x0 = 0 ∨ f_X10_isFigure x0 = 1 := by
  unfold f_X10_isFigure
  try simp only [tl, jn]
  repeat' split
  all_goals first | exact Or.inl rfl | exact Or.inr rfl | exact z_X10_in _ _ _
set_option maxHeartbeats 4000000 in
theorem c_X10_isFigure {l : Launch} {G : j_G} {M : j_M} {x0 : Int32}  {r : Int32} (h : f_X10_isFigure x0 = r) : j_Sp l G md_X10_isFigure 2 (0, 0) [.int x0] M (po (some (.int r)) M) := by
  refine j_Sp.of (by decide) (Nat.le_of_ble_eq_true rfl) ?_
  show JT_X10_isFigure l G M r 0 [(0, .int x0)] [] M
  unfold f_X10_isFigure at h
  refine J_iload_n (pc' := 1) (i := 0) (n := 0) dX10_isFigure_0 rfl rfl rfl ?_
  refine J_i2l (pc' := 2) dX10_isFigure_1 rfl ?_
  refine J_ldc2 (pc' := 5) (v := (48 : Int64)) dX10_isFigure_2 rfl wd_1248 ?_
  refine J_ldc2 (pc' := 8) (v := (57 : Int64)) dX10_isFigure_5 rfl wd_1249 ?_
  obtain ⟨v1, e2, h⟩ := tl_inv h
  refine J_callS (pc' := 11) (as := [.long (x0).toInt64, .long (48 : Int64), .long (57 : Int64)]) (rest := []) dX10_isFigure_8 rfl lk_X10_68 rfl (c_X10_in e2) ⟨Nat.le_of_ble_eq_true rfl, Nat.le_of_ble_eq_true rfl⟩ (Nat.le_of_ble_eq_true rfl) ⟨Nat.le_of_ble_eq_true rfl, Nat.le_of_ble_eq_true rfl⟩ (j_kq ?_)
  exact J_zret (ty := .boolean) rfl (j_z01 (e2 ▸ z_X10_in _ _ _)) dX10_isFigure_11 ⟨rfl, Nat.le_refl _⟩ (j_pI h)
abbrev JT_X10_lookAt (l : Launch) (G : j_G) (r : j_M) : Nat → List (Nat × Value) → List Value → j_M → Prop := JJ l G md_X10_lookAt (j_rm 3 (0, 0)) (0, 0) (0, 0) (po none r)
noncomputable def f_X10_lookAt_L5 : Nat → j_M → (j_M → Option j_M) → Option j_M
  | 0, _, _ => none
  | n + 1, M, K =>
    if (j_I M 35 19) ≤ (j_I M 35 20) then (K M) else (a_i M 48 150 (j_I M 35 20) fun v5 => (if v5 = (32 : Int32) then (tl (j_sI M 35 20 ((j_I M 35 20) + (1 : Int32))) fun M8 => (f_X10_lookAt_L5 n  M8  K)) else (K M)))
noncomputable def f_X10_lookAt_L136 : Nat → j_M → Int32 → (Int32 → j_M → Option j_M) → Option j_M
  | 0, _, _, _ => none
  | n + 1, M, x3, K =>
    if x3 = 0 then (K x3 M) else (if (j_I M 35 19) ≤ ((j_I M 35 20) + (j_I M 35 21)) then (K x3 M) else (a_i M 48 150 ((j_I M 35 20) + (j_I M 35 21)) fun v43 => (jn (fun (v46 : Int32) => (jn (fun (v50 : Int32) => (tl (j_sI M 35 21 ((j_I M 35 21) + v50)) fun M53 => (f_X10_lookAt_L136 n  M53 v46 K))) (fun K51 => (if v46 = 0 then (K51 (0 : Int32)) else (K51 (1 : Int32)))))) (fun K47 => (if (j_I M 35 22) = (1 : Int32) then (tl (f_X10_isSmall v43) fun v58 => (K47 v58)) else (tl (f_X10_isFigure v43) fun v56 => (K47 v56)))))))
noncomputable def f_X10_lookAt_L218 : Nat → j_M → Int32 → (Int32 → j_M → Option j_M) → Option j_M
  | 0, _, _, _ => none
  | n + 1, M, x4, K =>
    if (j_I M 35 21) ≤ x4 then (K x4 M) else (if (2 : Int32) ≤ x4 then (K x4 M) else (if (j_I M 35 22) = (2 : Int32) then (a_i M 48 150 ((j_I M 35 20) + x4) fun v66 => (tl (j_sI M 35 23 ((((10 : Int32) * (j_I M 35 23)) + v66) - (48 : Int32))) fun M68 => (f_X10_lookAt_L218 n  M68 (x4 + (1 : Int32)) K))) else (K x4 M)))
noncomputable def f_X10_lookAt (M : j_M) (x1 : Int32) : Option j_M :=
  tl (j_sI M 35 20 x1) fun M1 => (f_X10_lookAt_L5 j_fu  M1  (fun (M11 : j_M) => (tl (j_sI M11 35 21 (0 : Int32)) fun M13 => (tl (j_sI M13 35 22 (0 : Int32)) fun M16 => (tl (j_sI M16 35 23 (0 : Int32)) fun M19 => (if (j_I M19 35 20) = (j_I M19 35 19) then (some M19) else (a_i M19 48 150 (j_I M19 35 20) fun v23 => (tl (f_X10_isSmall v23) fun v25 => (jn (fun (v28 : Int32) => (tl (j_sI M19 35 22 v28) fun M31 => (tl (j_sI M31 35 21 (1 : Int32)) fun M34 => (jn (fun (v38 : Int32) => (f_X10_lookAt_L136 j_fu  M34 v38 (fun (y60 : Int32) (M61 : j_M) => (f_X10_lookAt_L218 j_fu  M61 (0 : Int32) (fun (y71 : Int32) (M72 : j_M) => (jn (fun (v75 : Int32) => (tl (j_sI M72 35 22 v75) fun M78 => (some M78))) (fun K76 => (if (j_I M72 35 22) = (2 : Int32) then (if (j_I M72 35 21) ≤ (2 : Int32) then (K76 (j_I M72 35 22)) else (K76 (4 : Int32))) else (K76 (j_I M72 35 22)))))))))) (fun K39 => (if (3 : Int32) ≤ (j_I M34 35 22) then (K39 (0 : Int32)) else (K39 (1 : Int32)))))))) (fun K29 => (if v25 = 0 then (tl (f_X10_isFigure v23) fun v82 => (if v82 = 0 then (if v23 = (59 : Int32) then (K29 (3 : Int32)) else (K29 (4 : Int32))) else (K29 (2 : Int32)))) else (K29 (1 : Int32)))))))))))))
set_option maxHeartbeats 4000000 in
theorem L_X10_lookAt_L5 {l : Launch} {G : j_G}  {r : j_M} : ∀ (n : Nat)  {M : j_M} (hs : sh_m M.2.2) {K : j_M → Option j_M}, f_X10_lookAt_L5 n  M  K = some r → (∀ (M1 : j_M), sh_m M1.2.2 → K M1 = some r → JT_X10_lookAt l G r 43 [(0, .ref 35)] [] M1) → JT_X10_lookAt l G r 5 [(0, .ref 35)] [] M := by
  intro n
  induction n with
  | zero =>
    intro  M hs K h hK
    rw [f_X10_lookAt_L5] at h; cases h
  | succ n ih =>
    intro  M hs K h hK
    rw [f_X10_lookAt_L5] at h
    refine J_aload_n (pc' := 6) (i := 0) (n := 0) dX10_lookAt_5 rfl rfl rfl ?_
    refine J_getI (pc' := 9) dX10_lookAt_6 rfl fl_X10_241 rfl (m_o hs) (m_n hs (Nat.le_of_ble_eq_true rfl)) ?_
    refine J_aload_n (pc' := 10) (i := 0) (n := 0) dX10_lookAt_9 rfl rfl rfl ?_
    refine J_getI (pc' := 13) dX10_lookAt_10 rfl fl_X10_230 rfl (m_o hs) (m_n hs (Nat.le_of_ble_eq_true rfl)) ?_
    refine J_icmp_ge (pc' := 16) (tgt := 43) dX10_lookAt_13 rfl (by decide) (fun c4 => ?_) (fun c4 => ?_)
    · replace h := j_ip c4 h
      exact hK M hs h
    · replace h := j_iq c4 h
      refine J_aload_n (pc' := 17) (i := 0) (n := 0) dX10_lookAt_16 rfl rfl rfl ?_
      refine J_getR (pc' := 20) (b := 48) dX10_lookAt_17 rfl fl_X10_51 rfl (m_o hs) (m_n hs (Nat.le_of_ble_eq_true rfl)) (m_r18 hs) ?_
      refine J_aload_n (pc' := 21) (i := 0) (n := 0) dX10_lookAt_20 rfl rfl rfl ?_
      refine J_getI (pc' := 24) dX10_lookAt_21 rfl fl_X10_241 rfl (m_o hs) (m_n hs (Nat.le_of_ble_eq_true rfl)) ?_
      obtain ⟨v5, e6, h⟩ := a_i_inv h
      refine J_ialde (pc' := 25) dX10_lookAt_24 rfl (m_s48 hs) (m_n hs (Nat.le_of_ble_eq_true rfl)) e6 ?_
      refine J_bipush (pc' := 27) (v := (32 : Int32)) dX10_lookAt_25 rfl bp_32 ?_
      refine J_icmp_ne (pc' := 30) (tgt := 43) dX10_lookAt_27 rfl (by decide) (fun c7 => ?_) (fun c7 => ?_)
      · replace h := j_iq c7 h
        exact hK M hs h
      · replace h := j_ip c7 h
        refine J_aload_n (pc' := 31) (i := 0) (n := 0) dX10_lookAt_30 rfl rfl rfl ?_
        refine J_dup (pc' := 32) dX10_lookAt_31 rfl rfl ?_
        refine J_getI (pc' := 35) dX10_lookAt_32 rfl fl_X10_241 rfl (m_o hs) (m_n hs (Nat.le_of_ble_eq_true rfl)) ?_
        refine J_iconst (pc' := 36) (v := (1 : Int32)) dX10_lookAt_35 rfl ic_1 ?_
        refine J_iadd (pc' := 37) dX10_lookAt_36 rfl ?_
        obtain ⟨M8, e9, h⟩ := tl_inv h
        have g10 : sh_m M8.2.2 := j_shI e9 hs
        refine J_putIe (pc' := 40) dX10_lookAt_37 rfl fl_X10_241 ⟨rfl, rfl, rfl⟩ (m_o hs) (m_n hs (Nat.le_of_ble_eq_true rfl)) e9 ?_
        refine J_goto (pc' := 5) dX10_lookAt_40 (by decide) ?_
        exact ih g10 h hK
set_option maxHeartbeats 4000000 in
theorem L_X10_lookAt_L136 {l : Launch} {G : j_G}  {r : j_M} : ∀ (n : Nat) {x3 : Int32} {M : j_M} (hs : sh_m M.2.2) {K : Int32 → j_M → Option j_M}, f_X10_lookAt_L136 n  M x3 K = some r → (∀ (y3 : Int32) (M1 : j_M), sh_m M1.2.2 → K y3 M1 = some r → JT_X10_lookAt l G r 215 [(0, .ref 35)] [] M1) → JT_X10_lookAt l G r 136 [(0, .ref 35), (3, .int x3)] [] M := by
  intro n
  induction n with
  | zero =>
    intro x3 M hs K h hK
    rw [f_X10_lookAt_L136] at h; cases h
  | succ n ih =>
    intro x3 M hs K h hK
    rw [f_X10_lookAt_L136] at h
    refine J_iload_n (pc' := 137) (i := 3) (n := 1) dX10_lookAt_136 rfl rfl rfl ?_
    refine J_if_eq (pc' := 140) (tgt := 215) dX10_lookAt_137 rfl (by decide) (fun c41 => ?_) (fun c41 => ?_)
    · replace h := j_ip c41 h
      refine J_sub [0] (lv' := [(0, .ref 35)]) rfl ?_
      exact hK x3 M hs h
    · replace h := j_iq c41 h
      refine J_aload_n (pc' := 141) (i := 0) (n := 0) dX10_lookAt_140 rfl rfl rfl ?_
      refine J_getI (pc' := 144) dX10_lookAt_141 rfl fl_X10_241 rfl (m_o hs) (m_n hs (Nat.le_of_ble_eq_true rfl)) ?_
      refine J_aload_n (pc' := 145) (i := 0) (n := 0) dX10_lookAt_144 rfl rfl rfl ?_
      refine J_getI (pc' := 148) dX10_lookAt_145 rfl fl_X10_244 rfl (m_o hs) (m_n hs (Nat.le_of_ble_eq_true rfl)) ?_
      refine J_iadd (pc' := 149) dX10_lookAt_148 rfl ?_
      refine J_aload_n (pc' := 150) (i := 0) (n := 0) dX10_lookAt_149 rfl rfl rfl ?_
      refine J_getI (pc' := 153) dX10_lookAt_150 rfl fl_X10_230 rfl (m_o hs) (m_n hs (Nat.le_of_ble_eq_true rfl)) ?_
      refine J_icmp_ge (pc' := 156) (tgt := 215) dX10_lookAt_153 rfl (by decide) (fun c42 => ?_) (fun c42 => ?_)
      · replace h := j_ip c42 h
        refine J_sub [0] (lv' := [(0, .ref 35)]) rfl ?_
        exact hK x3 M hs h
      · replace h := j_iq c42 h
        refine J_aload_n (pc' := 157) (i := 0) (n := 0) dX10_lookAt_156 rfl rfl rfl ?_
        refine J_getR (pc' := 160) (b := 48) dX10_lookAt_157 rfl fl_X10_51 rfl (m_o hs) (m_n hs (Nat.le_of_ble_eq_true rfl)) (m_r18 hs) ?_
        refine J_aload_n (pc' := 161) (i := 0) (n := 0) dX10_lookAt_160 rfl rfl rfl ?_
        refine J_getI (pc' := 164) dX10_lookAt_161 rfl fl_X10_241 rfl (m_o hs) (m_n hs (Nat.le_of_ble_eq_true rfl)) ?_
        refine J_aload_n (pc' := 165) (i := 0) (n := 0) dX10_lookAt_164 rfl rfl rfl ?_
        refine J_getI (pc' := 168) dX10_lookAt_165 rfl fl_X10_244 rfl (m_o hs) (m_n hs (Nat.le_of_ble_eq_true rfl)) ?_
        refine J_iadd (pc' := 169) dX10_lookAt_168 rfl ?_
        obtain ⟨v43, e44, h⟩ := a_i_inv h
        refine J_ialde (pc' := 170) dX10_lookAt_169 rfl (m_s48 hs) (m_n hs (Nat.le_of_ble_eq_true rfl)) e44 ?_
        refine J_istore (pc' := 172) (i := 4) (lv' := [(4, .int v43), (0, .ref 35), (3, .int x3)]) dX10_lookAt_170 rfl (by decide) rfl ?_
        refine J_aload_n (pc' := 173) (i := 0) (n := 1) dX10_lookAt_172 rfl rfl rfl ?_
        refine J_getI (pc' := 176) dX10_lookAt_173 rfl fl_X10_247 rfl (m_o hs) (m_n hs (Nat.le_of_ble_eq_true rfl)) ?_
        refine J_iconst (pc' := 177) (v := (1 : Int32)) dX10_lookAt_176 rfl ic_1 ?_
        refine J_join (C := fun (v46 : Int32) => JT_X10_lookAt l G r 193 [(0, .ref 35)] [.int v46] M) h (fun v46 h => ?_) (fun K47 h48 h => ?_)
        · refine J_istore_n (pc' := 194) (i := 3) (lv' := [(3, .int v46), (0, .ref 35)]) dX10_lookAt_193 rfl rfl (by decide) rfl ?_
          refine J_aload_n (pc' := 195) (i := 0) (n := 1) dX10_lookAt_194 rfl rfl rfl ?_
          refine J_dup (pc' := 196) dX10_lookAt_195 rfl rfl ?_
          refine J_getI (pc' := 199) dX10_lookAt_196 rfl fl_X10_244 rfl (m_o hs) (m_n hs (Nat.le_of_ble_eq_true rfl)) ?_
          refine J_iload_n (pc' := 200) (i := 3) (n := 0) dX10_lookAt_199 rfl rfl rfl ?_
          refine J_join (C := fun (v50 : Int32) => JT_X10_lookAt l G r 208 [(0, .ref 35), (3, .int v46)] [.int v50, .int (j_I M 35 21), .ref 35] M) h (fun v50 h => ?_) (fun K51 h52 h => ?_)
          · refine J_iadd (pc' := 209) dX10_lookAt_208 rfl ?_
            obtain ⟨M53, e54, h⟩ := tl_inv h
            have g55 : sh_m M53.2.2 := j_shI e54 hs
            refine J_putIe (pc' := 212) dX10_lookAt_209 rfl fl_X10_244 ⟨rfl, rfl, rfl⟩ (m_o hs) (m_n hs (Nat.le_of_ble_eq_true rfl)) e54 ?_
            refine J_goto (pc' := 136) dX10_lookAt_212 (by decide) ?_
            exact ih g55 h hK
          · refine J_if_eq (pc' := 203) (tgt := 207) dX10_lookAt_200 rfl (by decide) (fun c49 => ?_) (fun c49 => ?_)
            · replace h := j_ip c49 h
              refine J_iconst (pc' := 208) (v := (0 : Int32)) dX10_lookAt_207 rfl ic_0 ?_
              refine J_sub [1, 0] (lv' := [(0, .ref 35), (3, .int v46)]) rfl ?_
              exact h52 (0 : Int32) h
            · replace h := j_iq c49 h
              refine J_iconst (pc' := 204) (v := (1 : Int32)) dX10_lookAt_203 rfl ic_1 ?_
              refine J_goto (pc' := 208) dX10_lookAt_204 (by decide) ?_
              refine J_sub [1, 0] (lv' := [(0, .ref 35), (3, .int v46)]) rfl ?_
              exact h52 (1 : Int32) h
        · refine J_icmp_ne (pc' := 180) (tgt := 188) dX10_lookAt_177 rfl (by decide) (fun c45 => ?_) (fun c45 => ?_)
          · replace h := j_iq c45 h
            refine J_iload (pc' := 190) (i := 4) (n := 0) dX10_lookAt_188 rfl rfl ?_
            obtain ⟨v56, e57, h⟩ := tl_inv h
            refine J_callS (pc' := 193) (as := [.int v43]) (rest := []) dX10_lookAt_190 rfl lk_X10_256 rfl (c_X10_isFigure e57) ⟨Nat.le_of_ble_eq_true rfl, Nat.le_of_ble_eq_true rfl⟩ (Nat.le_of_ble_eq_true rfl) ⟨Nat.le_of_ble_eq_true rfl, Nat.le_of_ble_eq_true rfl⟩ (j_kq ?_)
            refine J_sub [1] (lv' := [(0, .ref 35)]) rfl ?_
            exact h48 v56 h
          · replace h := j_ip c45 h
            refine J_iload (pc' := 182) (i := 4) (n := 0) dX10_lookAt_180 rfl rfl ?_
            obtain ⟨v58, e59, h⟩ := tl_inv h
            refine J_callS (pc' := 185) (as := [.int v43]) (rest := []) dX10_lookAt_182 rfl lk_X10_253 rfl (c_X10_isSmall e59) ⟨Nat.le_of_ble_eq_true rfl, Nat.le_of_ble_eq_true rfl⟩ (Nat.le_of_ble_eq_true rfl) ⟨Nat.le_of_ble_eq_true rfl, Nat.le_of_ble_eq_true rfl⟩ (j_kq ?_)
            refine J_goto (pc' := 193) dX10_lookAt_185 (by decide) ?_
            refine J_sub [1] (lv' := [(0, .ref 35)]) rfl ?_
            exact h48 v58 h
set_option maxHeartbeats 4000000 in
theorem L_X10_lookAt_L218 {l : Launch} {G : j_G}  {r : j_M} : ∀ (n : Nat) {x4 : Int32} {M : j_M} (hs : sh_m M.2.2) {K : Int32 → j_M → Option j_M}, f_X10_lookAt_L218 n  M x4 K = some r → (∀ (y4 : Int32) (M1 : j_M), sh_m M1.2.2 → K y4 M1 = some r → JT_X10_lookAt l G r 274 [(0, .ref 35)] [] M1) → JT_X10_lookAt l G r 218 [(0, .ref 35), (4, .int x4)] [] M := by
  intro n
  induction n with
  | zero =>
    intro x4 M hs K h hK
    rw [f_X10_lookAt_L218] at h; cases h
  | succ n ih =>
    intro x4 M hs K h hK
    rw [f_X10_lookAt_L218] at h
    refine J_iload (pc' := 220) (i := 4) (n := 1) dX10_lookAt_218 rfl rfl ?_
    refine J_aload_n (pc' := 221) (i := 0) (n := 0) dX10_lookAt_220 rfl rfl rfl ?_
    refine J_getI (pc' := 224) dX10_lookAt_221 rfl fl_X10_244 rfl (m_o hs) (m_n hs (Nat.le_of_ble_eq_true rfl)) ?_
    refine J_icmp_ge (pc' := 227) (tgt := 274) dX10_lookAt_224 rfl (by decide) (fun c63 => ?_) (fun c63 => ?_)
    · replace h := j_ip c63 h
      refine J_sub [0] (lv' := [(0, .ref 35)]) rfl ?_
      exact hK x4 M hs h
    · replace h := j_iq c63 h
      refine J_iload (pc' := 229) (i := 4) (n := 1) dX10_lookAt_227 rfl rfl ?_
      refine J_iconst (pc' := 230) (v := (2 : Int32)) dX10_lookAt_229 rfl ic_2 ?_
      refine J_icmp_ge (pc' := 233) (tgt := 274) dX10_lookAt_230 rfl (by decide) (fun c64 => ?_) (fun c64 => ?_)
      · replace h := j_ip c64 h
        refine J_sub [0] (lv' := [(0, .ref 35)]) rfl ?_
        exact hK x4 M hs h
      · replace h := j_iq c64 h
        refine J_aload_n (pc' := 234) (i := 0) (n := 0) dX10_lookAt_233 rfl rfl rfl ?_
        refine J_getI (pc' := 237) dX10_lookAt_234 rfl fl_X10_247 rfl (m_o hs) (m_n hs (Nat.le_of_ble_eq_true rfl)) ?_
        refine J_iconst (pc' := 238) (v := (2 : Int32)) dX10_lookAt_237 rfl ic_2 ?_
        refine J_icmp_ne (pc' := 241) (tgt := 274) dX10_lookAt_238 rfl (by decide) (fun c65 => ?_) (fun c65 => ?_)
        · replace h := j_iq c65 h
          refine J_sub [0] (lv' := [(0, .ref 35)]) rfl ?_
          exact hK x4 M hs h
        · replace h := j_ip c65 h
          refine J_aload_n (pc' := 242) (i := 0) (n := 0) dX10_lookAt_241 rfl rfl rfl ?_
          refine J_bipush (pc' := 244) (v := (10 : Int32)) dX10_lookAt_242 rfl bp_10 ?_
          refine J_aload_n (pc' := 245) (i := 0) (n := 0) dX10_lookAt_244 rfl rfl rfl ?_
          refine J_getI (pc' := 248) dX10_lookAt_245 rfl fl_X10_250 rfl (m_o hs) (m_n hs (Nat.le_of_ble_eq_true rfl)) ?_
          refine J_imul (pc' := 249) dX10_lookAt_248 rfl ?_
          refine J_aload_n (pc' := 250) (i := 0) (n := 0) dX10_lookAt_249 rfl rfl rfl ?_
          refine J_getR (pc' := 253) (b := 48) dX10_lookAt_250 rfl fl_X10_51 rfl (m_o hs) (m_n hs (Nat.le_of_ble_eq_true rfl)) (m_r18 hs) ?_
          refine J_aload_n (pc' := 254) (i := 0) (n := 0) dX10_lookAt_253 rfl rfl rfl ?_
          refine J_getI (pc' := 257) dX10_lookAt_254 rfl fl_X10_241 rfl (m_o hs) (m_n hs (Nat.le_of_ble_eq_true rfl)) ?_
          refine J_iload (pc' := 259) (i := 4) (n := 1) dX10_lookAt_257 rfl rfl ?_
          refine J_iadd (pc' := 260) dX10_lookAt_259 rfl ?_
          obtain ⟨v66, e67, h⟩ := a_i_inv h
          refine J_ialde (pc' := 261) dX10_lookAt_260 rfl (m_s48 hs) (m_n hs (Nat.le_of_ble_eq_true rfl)) e67 ?_
          refine J_iadd (pc' := 262) dX10_lookAt_261 rfl ?_
          refine J_bipush (pc' := 264) (v := (48 : Int32)) dX10_lookAt_262 rfl bp_48 ?_
          refine J_isub (pc' := 265) dX10_lookAt_264 rfl ?_
          obtain ⟨M68, e69, h⟩ := tl_inv h
          have g70 : sh_m M68.2.2 := j_shI e69 hs
          refine J_putIe (pc' := 268) dX10_lookAt_265 rfl fl_X10_250 ⟨rfl, rfl, rfl⟩ (m_o hs) (m_n hs (Nat.le_of_ble_eq_true rfl)) e69 ?_
          refine J_iinc (pc' := 271) (i := 4) (n := 1) (v := (x4 + (1 : Int32))) (lv' := [(4, .int (x4 + (1 : Int32))), (0, .ref 35)]) dX10_lookAt_268 rfl rfl (j_inc _ _ rfl _) (by decide) rfl ?_
          refine J_goto (pc' := 218) dX10_lookAt_271 (by decide) ?_
          refine J_sub [1, 0] (lv' := [(0, .ref 35), (4, .int (x4 + (1 : Int32)))]) rfl ?_
          exact ih g70 h hK
set_option maxHeartbeats 4000000 in
theorem c_X10_lookAt {l : Launch} {G : j_G} {M : j_M} {x1 : Int32} (hs : sh_m M.2.2) {r : j_M} (h : f_X10_lookAt M x1 = some r) : j_Sp l G md_X10_lookAt 3 (0, 0) [.ref 35, .int x1] M (po none r) := by
  refine j_Sp.of (by decide) (Nat.le_of_ble_eq_true rfl) ?_
  show JT_X10_lookAt l G r 0 [(0, .ref 35), (1, .int x1)] [] M
  unfold f_X10_lookAt at h
  refine J_aload_n (pc' := 1) (i := 0) (n := 0) dX10_lookAt_0 rfl rfl rfl ?_
  refine J_iload_n (pc' := 2) (i := 1) (n := 1) dX10_lookAt_1 rfl rfl rfl ?_
  obtain ⟨M1, e2, h⟩ := tl_inv h
  have g3 : sh_m M1.2.2 := j_shI e2 hs
  refine J_putIe (pc' := 5) dX10_lookAt_2 rfl fl_X10_241 ⟨rfl, rfl, rfl⟩ (m_o hs) (m_n hs (Nat.le_of_ble_eq_true rfl)) e2 ?_
  refine J_sub [0] (lv' := [(0, .ref 35)]) rfl ?_
  refine L_X10_lookAt_L5 j_fu g3 h (fun M11 g12 h => ?_)
  refine J_aload_n (pc' := 44) (i := 0) (n := 0) dX10_lookAt_43 rfl rfl rfl ?_
  refine J_iconst (pc' := 45) (v := (0 : Int32)) dX10_lookAt_44 rfl ic_0 ?_
  obtain ⟨M13, e14, h⟩ := tl_inv h
  have g15 : sh_m M13.2.2 := j_shI e14 g12
  refine J_putIe (pc' := 48) dX10_lookAt_45 rfl fl_X10_244 ⟨rfl, rfl, rfl⟩ (m_o g12) (m_n g12 (Nat.le_of_ble_eq_true rfl)) e14 ?_
  refine J_aload_n (pc' := 49) (i := 0) (n := 0) dX10_lookAt_48 rfl rfl rfl ?_
  refine J_iconst (pc' := 50) (v := (0 : Int32)) dX10_lookAt_49 rfl ic_0 ?_
  obtain ⟨M16, e17, h⟩ := tl_inv h
  have g18 : sh_m M16.2.2 := j_shI e17 g15
  refine J_putIe (pc' := 53) dX10_lookAt_50 rfl fl_X10_247 ⟨rfl, rfl, rfl⟩ (m_o g15) (m_n g15 (Nat.le_of_ble_eq_true rfl)) e17 ?_
  refine J_aload_n (pc' := 54) (i := 0) (n := 0) dX10_lookAt_53 rfl rfl rfl ?_
  refine J_iconst (pc' := 55) (v := (0 : Int32)) dX10_lookAt_54 rfl ic_0 ?_
  obtain ⟨M19, e20, h⟩ := tl_inv h
  have g21 : sh_m M19.2.2 := j_shI e20 g18
  refine J_putIe (pc' := 58) dX10_lookAt_55 rfl fl_X10_250 ⟨rfl, rfl, rfl⟩ (m_o g18) (m_n g18 (Nat.le_of_ble_eq_true rfl)) e20 ?_
  refine J_aload_n (pc' := 59) (i := 0) (n := 0) dX10_lookAt_58 rfl rfl rfl ?_
  refine J_getI (pc' := 62) dX10_lookAt_59 rfl fl_X10_241 rfl (m_o g21) (m_n g21 (Nat.le_of_ble_eq_true rfl)) ?_
  refine J_aload_n (pc' := 63) (i := 0) (n := 0) dX10_lookAt_62 rfl rfl rfl ?_
  refine J_getI (pc' := 66) dX10_lookAt_63 rfl fl_X10_230 rfl (m_o g21) (m_n g21 (Nat.le_of_ble_eq_true rfl)) ?_
  refine J_icmp_ne (pc' := 69) (tgt := 70) dX10_lookAt_66 rfl (by decide) (fun c22 => ?_) (fun c22 => ?_)
  · replace h := j_iq c22 h
    refine J_aload_n (pc' := 71) (i := 0) (n := 0) dX10_lookAt_70 rfl rfl rfl ?_
    refine J_getR (pc' := 74) (b := 48) dX10_lookAt_71 rfl fl_X10_51 rfl (m_o g21) (m_n g21 (Nat.le_of_ble_eq_true rfl)) (m_r18 g21) ?_
    refine J_aload_n (pc' := 75) (i := 0) (n := 0) dX10_lookAt_74 rfl rfl rfl ?_
    refine J_getI (pc' := 78) dX10_lookAt_75 rfl fl_X10_241 rfl (m_o g21) (m_n g21 (Nat.le_of_ble_eq_true rfl)) ?_
    obtain ⟨v23, e24, h⟩ := a_i_inv h
    refine J_ialde (pc' := 79) dX10_lookAt_78 rfl (m_s48 g21) (m_n g21 (Nat.le_of_ble_eq_true rfl)) e24 ?_
    refine J_istore_n (pc' := 80) (i := 2) (lv' := [(2, .int v23), (0, .ref 35)]) dX10_lookAt_79 rfl rfl (by decide) rfl ?_
    refine J_aload_n (pc' := 81) (i := 0) (n := 1) dX10_lookAt_80 rfl rfl rfl ?_
    refine J_iload_n (pc' := 82) (i := 2) (n := 0) dX10_lookAt_81 rfl rfl rfl ?_
    obtain ⟨v25, e26, h⟩ := tl_inv h
    refine J_callS (pc' := 85) (as := [.int v23]) (rest := [.ref 35]) dX10_lookAt_82 rfl lk_X10_253 rfl (c_X10_isSmall e26) ⟨Nat.le_of_ble_eq_true rfl, Nat.le_of_ble_eq_true rfl⟩ (Nat.le_of_ble_eq_true rfl) ⟨Nat.le_of_ble_eq_true rfl, Nat.le_of_ble_eq_true rfl⟩ (j_kq ?_)
    refine J_join (C := fun (v28 : Int32) => JT_X10_lookAt l G r 114 [(0, .ref 35)] [.int v28, .ref 35] M19) h (fun v28 h => ?_) (fun K29 h30 h => ?_)
    · obtain ⟨M31, e32, h⟩ := tl_inv h
      have g33 : sh_m M31.2.2 := j_shI e32 g21
      refine J_putIe (pc' := 117) dX10_lookAt_114 rfl fl_X10_247 ⟨rfl, rfl, rfl⟩ (m_o g21) (m_n g21 (Nat.le_of_ble_eq_true rfl)) e32 ?_
      refine J_aload_n (pc' := 118) (i := 0) (n := 0) dX10_lookAt_117 rfl rfl rfl ?_
      refine J_iconst (pc' := 119) (v := (1 : Int32)) dX10_lookAt_118 rfl ic_1 ?_
      obtain ⟨M34, e35, h⟩ := tl_inv h
      have g36 : sh_m M34.2.2 := j_shI e35 g33
      refine J_putIe (pc' := 122) dX10_lookAt_119 rfl fl_X10_244 ⟨rfl, rfl, rfl⟩ (m_o g33) (m_n g33 (Nat.le_of_ble_eq_true rfl)) e35 ?_
      refine J_aload_n (pc' := 123) (i := 0) (n := 0) dX10_lookAt_122 rfl rfl rfl ?_
      refine J_getI (pc' := 126) dX10_lookAt_123 rfl fl_X10_247 rfl (m_o g36) (m_n g36 (Nat.le_of_ble_eq_true rfl)) ?_
      refine J_iconst (pc' := 127) (v := (3 : Int32)) dX10_lookAt_126 rfl ic_3 ?_
      refine J_join (C := fun (v38 : Int32) => JT_X10_lookAt l G r 135 [(0, .ref 35)] [.int v38] M34) h (fun v38 h => ?_) (fun K39 h40 h => ?_)
      · refine J_istore_n (pc' := 136) (i := 3) (lv' := [(3, .int v38), (0, .ref 35)]) dX10_lookAt_135 rfl rfl (by decide) rfl ?_
        refine J_sub [1, 0] (lv' := [(0, .ref 35), (3, .int v38)]) rfl ?_
        refine L_X10_lookAt_L136 j_fu g36 h (fun y60 M61 g62 h => ?_)
        refine J_iconst (pc' := 216) (v := (0 : Int32)) dX10_lookAt_215 rfl ic_0 ?_
        refine J_istore (pc' := 218) (i := 4) (lv' := [(4, .int (0 : Int32)), (0, .ref 35)]) dX10_lookAt_216 rfl (by decide) rfl ?_
        refine J_sub [1, 0] (lv' := [(0, .ref 35), (4, .int (0 : Int32))]) rfl ?_
        refine L_X10_lookAt_L218 j_fu g62 h (fun y71 M72 g73 h => ?_)
        refine J_aload_n (pc' := 275) (i := 0) (n := 0) dX10_lookAt_274 rfl rfl rfl ?_
        refine J_aload_n (pc' := 276) (i := 0) (n := 0) dX10_lookAt_275 rfl rfl rfl ?_
        refine J_getI (pc' := 279) dX10_lookAt_276 rfl fl_X10_247 rfl (m_o g73) (m_n g73 (Nat.le_of_ble_eq_true rfl)) ?_
        refine J_iconst (pc' := 280) (v := (2 : Int32)) dX10_lookAt_279 rfl ic_2 ?_
        refine J_join (C := fun (v75 : Int32) => JT_X10_lookAt l G r 299 [] [.int v75, .ref 35] M72) h (fun v75 h => ?_) (fun K76 h77 h => ?_)
        · obtain ⟨M78, e79, h⟩ := tl_inv h
          have g80 : sh_m M78.2.2 := j_shI e79 g73
          refine J_putIe (pc' := 302) dX10_lookAt_299 rfl fl_X10_247 ⟨rfl, rfl, rfl⟩ (m_o g73) (m_n g73 (Nat.le_of_ble_eq_true rfl)) e79 ?_
          exact J_vret rfl dX10_lookAt_302 ⟨rfl, Nat.le_refl _⟩ (j_pV h)
        · refine J_icmp_ne (pc' := 283) (tgt := 295) dX10_lookAt_280 rfl (by decide) (fun c74 => ?_) (fun c74 => ?_)
          · replace h := j_iq c74 h
            refine J_aload_n (pc' := 296) (i := 0) (n := 0) dX10_lookAt_295 rfl rfl rfl ?_
            refine J_getI (pc' := 299) dX10_lookAt_296 rfl fl_X10_247 rfl (m_o g73) (m_n g73 (Nat.le_of_ble_eq_true rfl)) ?_
            refine J_sub [] (lv' := []) rfl ?_
            exact h77 (j_I M72 35 22) h
          · replace h := j_ip c74 h
            refine J_aload_n (pc' := 284) (i := 0) (n := 0) dX10_lookAt_283 rfl rfl rfl ?_
            refine J_getI (pc' := 287) dX10_lookAt_284 rfl fl_X10_244 rfl (m_o g73) (m_n g73 (Nat.le_of_ble_eq_true rfl)) ?_
            refine J_iconst (pc' := 288) (v := (2 : Int32)) dX10_lookAt_287 rfl ic_2 ?_
            refine J_icmp_le (pc' := 291) (tgt := 295) dX10_lookAt_288 rfl (by decide) (fun c81 => ?_) (fun c81 => ?_)
            · replace h := j_ip c81 h
              refine J_aload_n (pc' := 296) (i := 0) (n := 0) dX10_lookAt_295 rfl rfl rfl ?_
              refine J_getI (pc' := 299) dX10_lookAt_296 rfl fl_X10_247 rfl (m_o g73) (m_n g73 (Nat.le_of_ble_eq_true rfl)) ?_
              refine J_sub [] (lv' := []) rfl ?_
              exact h77 (j_I M72 35 22) h
            · replace h := j_iq c81 h
              refine J_iconst (pc' := 292) (v := (4 : Int32)) dX10_lookAt_291 rfl ic_4 ?_
              refine J_goto (pc' := 299) dX10_lookAt_292 (by decide) ?_
              refine J_sub [] (lv' := []) rfl ?_
              exact h77 (4 : Int32) h
      · refine J_icmp_ge (pc' := 130) (tgt := 134) dX10_lookAt_127 rfl (by decide) (fun c37 => ?_) (fun c37 => ?_)
        · replace h := j_ip c37 h
          refine J_iconst (pc' := 135) (v := (0 : Int32)) dX10_lookAt_134 rfl ic_0 ?_
          exact h40 (0 : Int32) h
        · replace h := j_iq c37 h
          refine J_iconst (pc' := 131) (v := (1 : Int32)) dX10_lookAt_130 rfl ic_1 ?_
          refine J_goto (pc' := 135) dX10_lookAt_131 (by decide) ?_
          exact h40 (1 : Int32) h
    · refine J_if_eq (pc' := 88) (tgt := 92) dX10_lookAt_85 rfl (by decide) (fun c27 => ?_) (fun c27 => ?_)
      · replace h := j_ip c27 h
        refine J_iload_n (pc' := 93) (i := 2) (n := 0) dX10_lookAt_92 rfl rfl rfl ?_
        obtain ⟨v82, e83, h⟩ := tl_inv h
        refine J_callS (pc' := 96) (as := [.int v23]) (rest := [.ref 35]) dX10_lookAt_93 rfl lk_X10_256 rfl (c_X10_isFigure e83) ⟨Nat.le_of_ble_eq_true rfl, Nat.le_of_ble_eq_true rfl⟩ (Nat.le_of_ble_eq_true rfl) ⟨Nat.le_of_ble_eq_true rfl, Nat.le_of_ble_eq_true rfl⟩ (j_kq ?_)
        refine J_if_eq (pc' := 99) (tgt := 103) dX10_lookAt_96 rfl (by decide) (fun c84 => ?_) (fun c84 => ?_)
        · replace h := j_ip c84 h
          refine J_iload_n (pc' := 104) (i := 2) (n := 0) dX10_lookAt_103 rfl rfl rfl ?_
          refine J_bipush (pc' := 106) (v := (59 : Int32)) dX10_lookAt_104 rfl bp_59 ?_
          refine J_icmp_ne (pc' := 109) (tgt := 113) dX10_lookAt_106 rfl (by decide) (fun c85 => ?_) (fun c85 => ?_)
          · replace h := j_iq c85 h
            refine J_iconst (pc' := 114) (v := (4 : Int32)) dX10_lookAt_113 rfl ic_4 ?_
            refine J_sub [1] (lv' := [(0, .ref 35)]) rfl ?_
            exact h30 (4 : Int32) h
          · replace h := j_ip c85 h
            refine J_iconst (pc' := 110) (v := (3 : Int32)) dX10_lookAt_109 rfl ic_3 ?_
            refine J_goto (pc' := 114) dX10_lookAt_110 (by decide) ?_
            refine J_sub [1] (lv' := [(0, .ref 35)]) rfl ?_
            exact h30 (3 : Int32) h
        · replace h := j_iq c84 h
          refine J_iconst (pc' := 100) (v := (2 : Int32)) dX10_lookAt_99 rfl ic_2 ?_
          refine J_goto (pc' := 114) dX10_lookAt_100 (by decide) ?_
          refine J_sub [1] (lv' := [(0, .ref 35)]) rfl ?_
          exact h30 (2 : Int32) h
      · replace h := j_iq c27 h
        refine J_iconst (pc' := 89) (v := (1 : Int32)) dX10_lookAt_88 rfl ic_1 ?_
        refine J_goto (pc' := 114) dX10_lookAt_89 (by decide) ?_
        refine J_sub [1] (lv' := [(0, .ref 35)]) rfl ?_
        exact h30 (1 : Int32) h
  · replace h := j_ip c22 h
    exact J_vret rfl dX10_lookAt_69 ⟨rfl, Nat.le_refl _⟩ (j_pV h)
abbrev JT_X10_goBehind (l : Launch) (G : j_G) (r : j_M) : Nat → List (Nat × Value) → List Value → j_M → Prop := JJ l G md_X10_goBehind (j_rm 4 (0, 0)) (0, 0) (0, 0) (po none r)
noncomputable def f_X10_goBehind (M : j_M)  : Option j_M :=
  (f_X10_lookAt M ((j_I M 35 20) + (j_I M 35 21))).bind fun q1 => j_ck M q1 (some q1)
set_option maxHeartbeats 4000000 in
theorem c_X10_goBehind {l : Launch} {G : j_G} {M : j_M}  (hs : sh_m M.2.2) {r : j_M} (h : f_X10_goBehind M  = some r) : j_Sp l G md_X10_goBehind 4 (0, 0) [.ref 35] M (po none r) := by
  refine j_Sp.of (by decide) (Nat.le_of_ble_eq_true rfl) ?_
  show JT_X10_goBehind l G r 0 [(0, .ref 35)] [] M
  unfold f_X10_goBehind at h
  refine J_aload_n (pc' := 1) (i := 0) (n := 0) dX10_goBehind_0 rfl rfl rfl ?_
  refine J_aload_n (pc' := 2) (i := 0) (n := 0) dX10_goBehind_1 rfl rfl rfl ?_
  refine J_getI (pc' := 5) dX10_goBehind_2 rfl fl_X10_241 rfl (m_o hs) (m_n hs (Nat.le_of_ble_eq_true rfl)) ?_
  refine J_aload_n (pc' := 6) (i := 0) (n := 0) dX10_goBehind_5 rfl rfl rfl ?_
  refine J_getI (pc' := 9) dX10_goBehind_6 rfl fl_X10_244 rfl (m_o hs) (m_n hs (Nat.le_of_ble_eq_true rfl)) ?_
  refine J_iadd (pc' := 10) dX10_goBehind_9 rfl ?_
  obtain ⟨q1, e2, h⟩ := bi_inv h
  obtain ⟨c3, h⟩ := j_ck_inv h
  refine J_callV (pc' := 13) (as := [.int ((j_I M 35 20) + (j_I M 35 21))]) (rest := []) dX10_goBehind_10 rfl lk_X10_259 rfl 10 (by decide) rfl (m_o hs) (m_n hs (Nat.le_of_ble_eq_true rfl)) (c_X10_lookAt hs e2) ⟨Nat.le_of_ble_eq_true rfl, Nat.le_of_ble_eq_true rfl⟩ (Nat.le_of_ble_eq_true rfl) ⟨Nat.le_of_ble_eq_true rfl, Nat.le_of_ble_eq_true rfl⟩ (j_kv ?_)
  have g4 : sh_m q1.2.2 := j_shE c3 hs
  exact J_vret rfl dX10_goBehind_13 ⟨rfl, Nat.le_refl _⟩ (j_pV h)
abbrev JT_X10_spells (l : Launch) (G : j_G) (M : j_M) (r : Int32) : Nat → List (Nat × Value) → List Value → j_M → Prop := JJ l G md_X10_spells (j_rm 1 (0, 0)) (0, 0) (0, 0) (po (some (.int r)) M)
noncomputable def f_X10_spells_L26 : Nat → j_M → Int32 → Int32 → Int32 → Int32 → Int32 → Int32 → Int32 → (Int32 → Int32 → Option Int32) → Option Int32
  | 0, _, _, _, _, _, _, _, _, _ => none
  | n + 1, M, x1, x2, x3, x4, x5, x6, x7, K =>
    if x1 ≤ x7 then (K x6 x7) else (if x6 = 0 then (K x6 x7) else (a_i M 48 150 ((j_I M 35 20) + x7) fun v7 => (jn (fun (v10 : Int32) => (if v7 = v10 then (f_X10_spells_L26 n  M x1 x2 x3 x4 x5 (1 : Int32) (x7 + (1 : Int32)) K) else (f_X10_spells_L26 n  M x1 x2 x3 x4 x5 (0 : Int32) (x7 + (1 : Int32)) K))) (fun K11 => (if x7 = 0 then (K11 x2) else (if x7 = (1 : Int32) then (K11 x3) else (if x7 = (2 : Int32) then (K11 x4) else (K11 x5))))))))
noncomputable def f_X10_spells (M : j_M) (x1 : Int32) (x2 : Int32) (x3 : Int32) (x4 : Int32) (x5 : Int32) : Option Int32 :=
  jn (fun (v2 : Int32) => (f_X10_spells_L26 j_fu  M x1 x2 x3 x4 x5 v2 (0 : Int32) (fun (y16 : Int32) (y17 : Int32) => (z_b y16 (some y16))))) (fun K3 => (if (j_I M 35 22) = (1 : Int32) then (if (j_I M 35 21) = x1 then (K3 (1 : Int32)) else (K3 (0 : Int32))) else (K3 (0 : Int32))))
set_option maxHeartbeats 4000000 in
theorem L_X10_spells_L26 {l : Launch} {G : j_G}  {r : Int32} : ∀ (n : Nat) {x1 : Int32} {x2 : Int32} {x3 : Int32} {x4 : Int32} {x5 : Int32} {x6 : Int32} {x7 : Int32} {M : j_M} (hs : sh_m M.2.2) {K : Int32 → Int32 → Option Int32}, f_X10_spells_L26 n  M x1 x2 x3 x4 x5 x6 x7 K = some r → (∀ (y6 : Int32) (y7 : Int32), K y6 y7 = some r → JT_X10_spells l G M r 97 [(6, .int y6)] [] M) → JT_X10_spells l G M r 26 [(0, .ref 35), (1, .int x1), (2, .int x2), (3, .int x3), (4, .int x4), (5, .int x5), (6, .int x6), (7, .int x7)] [] M := by
  intro n
  induction n with
  | zero =>
    intro x1 x2 x3 x4 x5 x6 x7 M hs K h hK
    rw [f_X10_spells_L26] at h; cases h
  | succ n ih =>
    intro x1 x2 x3 x4 x5 x6 x7 M hs K h hK
    rw [f_X10_spells_L26] at h
    refine J_iload (pc' := 28) (i := 7) (n := 7) dX10_spells_26 rfl rfl ?_
    refine J_iload_n (pc' := 29) (i := 1) (n := 1) dX10_spells_28 rfl rfl rfl ?_
    refine J_icmp_ge (pc' := 32) (tgt := 97) dX10_spells_29 rfl (by decide) (fun c5 => ?_) (fun c5 => ?_)
    · replace h := j_ip c5 h
      refine J_sub [6] (lv' := [(6, .int x6)]) rfl ?_
      exact hK x6 x7  h
    · replace h := j_iq c5 h
      refine J_iload (pc' := 34) (i := 6) (n := 6) dX10_spells_32 rfl rfl ?_
      refine J_if_eq (pc' := 37) (tgt := 97) dX10_spells_34 rfl (by decide) (fun c6 => ?_) (fun c6 => ?_)
      · replace h := j_ip c6 h
        refine J_sub [6] (lv' := [(6, .int x6)]) rfl ?_
        exact hK x6 x7  h
      · replace h := j_iq c6 h
        refine J_aload_n (pc' := 38) (i := 0) (n := 0) dX10_spells_37 rfl rfl rfl ?_
        refine J_getR (pc' := 41) (b := 48) dX10_spells_38 rfl fl_X10_51 rfl (m_o hs) (m_n hs (Nat.le_of_ble_eq_true rfl)) (m_r18 hs) ?_
        refine J_aload_n (pc' := 42) (i := 0) (n := 0) dX10_spells_41 rfl rfl rfl ?_
        refine J_getI (pc' := 45) dX10_spells_42 rfl fl_X10_241 rfl (m_o hs) (m_n hs (Nat.le_of_ble_eq_true rfl)) ?_
        refine J_iload (pc' := 47) (i := 7) (n := 7) dX10_spells_45 rfl rfl ?_
        refine J_iadd (pc' := 48) dX10_spells_47 rfl ?_
        obtain ⟨v7, e8, h⟩ := a_i_inv h
        refine J_ialde (pc' := 49) dX10_spells_48 rfl (m_s48 hs) (m_n hs (Nat.le_of_ble_eq_true rfl)) e8 ?_
        refine J_iload (pc' := 51) (i := 7) (n := 7) dX10_spells_49 rfl rfl ?_
        refine J_join (C := fun (v10 : Int32) => JT_X10_spells l G M r 81 [(0, .ref 35), (1, .int x1), (2, .int x2), (3, .int x3), (4, .int x4), (5, .int x5), (7, .int x7)] [.int v10, .int v7] M) h (fun v10 h => ?_) (fun K11 h12 h => ?_)
        · refine J_icmp_ne (pc' := 84) (tgt := 88) dX10_spells_81 rfl (by decide) (fun c13 => ?_) (fun c13 => ?_)
          · replace h := j_iq c13 h
            refine J_iconst (pc' := 89) (v := (0 : Int32)) dX10_spells_88 rfl ic_0 ?_
            refine J_istore (pc' := 91) (i := 6) (lv' := [(6, .int (0 : Int32)), (0, .ref 35), (1, .int x1), (2, .int x2), (3, .int x3), (4, .int x4), (5, .int x5), (7, .int x7)]) dX10_spells_89 rfl (by decide) rfl ?_
            refine J_iinc (pc' := 94) (i := 7) (n := 7) (v := (x7 + (1 : Int32))) (lv' := [(7, .int (x7 + (1 : Int32))), (6, .int (0 : Int32)), (0, .ref 35), (1, .int x1), (2, .int x2), (3, .int x3), (4, .int x4), (5, .int x5)]) dX10_spells_91 rfl rfl (j_inc _ _ rfl _) (by decide) rfl ?_
            refine J_goto (pc' := 26) dX10_spells_94 (by decide) ?_
            refine J_sub [2, 3, 4, 5, 6, 7, 1, 0] (lv' := [(0, .ref 35), (1, .int x1), (2, .int x2), (3, .int x3), (4, .int x4), (5, .int x5), (6, .int (0 : Int32)), (7, .int (x7 + (1 : Int32)))]) rfl ?_
            exact ih hs h hK
          · replace h := j_ip c13 h
            refine J_iconst (pc' := 85) (v := (1 : Int32)) dX10_spells_84 rfl ic_1 ?_
            refine J_goto (pc' := 89) dX10_spells_85 (by decide) ?_
            refine J_istore (pc' := 91) (i := 6) (lv' := [(6, .int (1 : Int32)), (0, .ref 35), (1, .int x1), (2, .int x2), (3, .int x3), (4, .int x4), (5, .int x5), (7, .int x7)]) dX10_spells_89 rfl (by decide) rfl ?_
            refine J_iinc (pc' := 94) (i := 7) (n := 7) (v := (x7 + (1 : Int32))) (lv' := [(7, .int (x7 + (1 : Int32))), (6, .int (1 : Int32)), (0, .ref 35), (1, .int x1), (2, .int x2), (3, .int x3), (4, .int x4), (5, .int x5)]) dX10_spells_91 rfl rfl (j_inc _ _ rfl _) (by decide) rfl ?_
            refine J_goto (pc' := 26) dX10_spells_94 (by decide) ?_
            refine J_sub [2, 3, 4, 5, 6, 7, 1, 0] (lv' := [(0, .ref 35), (1, .int x1), (2, .int x2), (3, .int x3), (4, .int x4), (5, .int x5), (6, .int (1 : Int32)), (7, .int (x7 + (1 : Int32)))]) rfl ?_
            exact ih hs h hK
        · refine J_if_ne (pc' := 54) (tgt := 58) dX10_spells_51 rfl (by decide) (fun c9 => ?_) (fun c9 => ?_)
          · replace h := j_iq c9 h
            refine J_iload (pc' := 60) (i := 7) (n := 7) dX10_spells_58 rfl rfl ?_
            refine J_iconst (pc' := 61) (v := (1 : Int32)) dX10_spells_60 rfl ic_1 ?_
            refine J_icmp_ne (pc' := 64) (tgt := 68) dX10_spells_61 rfl (by decide) (fun c14 => ?_) (fun c14 => ?_)
            · replace h := j_iq c14 h
              refine J_iload (pc' := 70) (i := 7) (n := 7) dX10_spells_68 rfl rfl ?_
              refine J_iconst (pc' := 71) (v := (2 : Int32)) dX10_spells_70 rfl ic_2 ?_
              refine J_icmp_ne (pc' := 74) (tgt := 79) dX10_spells_71 rfl (by decide) (fun c15 => ?_) (fun c15 => ?_)
              · replace h := j_iq c15 h
                refine J_iload (pc' := 81) (i := 5) (n := 5) dX10_spells_79 rfl rfl ?_
                refine J_sub [0, 1, 2, 3, 4, 5, 7] (lv' := [(0, .ref 35), (1, .int x1), (2, .int x2), (3, .int x3), (4, .int x4), (5, .int x5), (7, .int x7)]) rfl ?_
                exact h12 x5 h
              · replace h := j_ip c15 h
                refine J_iload (pc' := 76) (i := 4) (n := 4) dX10_spells_74 rfl rfl ?_
                refine J_goto (pc' := 81) dX10_spells_76 (by decide) ?_
                refine J_sub [0, 1, 2, 3, 4, 5, 7] (lv' := [(0, .ref 35), (1, .int x1), (2, .int x2), (3, .int x3), (4, .int x4), (5, .int x5), (7, .int x7)]) rfl ?_
                exact h12 x4 h
            · replace h := j_ip c14 h
              refine J_iload_n (pc' := 65) (i := 3) (n := 3) dX10_spells_64 rfl rfl rfl ?_
              refine J_goto (pc' := 81) dX10_spells_65 (by decide) ?_
              refine J_sub [0, 1, 2, 3, 4, 5, 7] (lv' := [(0, .ref 35), (1, .int x1), (2, .int x2), (3, .int x3), (4, .int x4), (5, .int x5), (7, .int x7)]) rfl ?_
              exact h12 x3 h
          · replace h := j_ip c9 h
            refine J_iload_n (pc' := 55) (i := 2) (n := 2) dX10_spells_54 rfl rfl rfl ?_
            refine J_goto (pc' := 81) dX10_spells_55 (by decide) ?_
            refine J_sub [0, 1, 2, 3, 4, 5, 7] (lv' := [(0, .ref 35), (1, .int x1), (2, .int x2), (3, .int x3), (4, .int x4), (5, .int x5), (7, .int x7)]) rfl ?_
            exact h12 x2 h
set_option maxHeartbeats 4000000 in
theorem c_X10_spells {l : Launch} {G : j_G} {M : j_M} {x1 : Int32} {x2 : Int32} {x3 : Int32} {x4 : Int32} {x5 : Int32} (hs : sh_m M.2.2) {r : Int32} (h : f_X10_spells M x1 x2 x3 x4 x5 = some r) : j_Sp l G md_X10_spells 1 (0, 0) [.ref 35, .int x1, .int x2, .int x3, .int x4, .int x5] M (po (some (.int r)) M) := by
  refine j_Sp.of (by decide) (Nat.le_of_ble_eq_true rfl) ?_
  show JT_X10_spells l G M r 0 [(0, .ref 35), (1, .int x1), (2, .int x2), (3, .int x3), (4, .int x4), (5, .int x5)] [] M
  unfold f_X10_spells at h
  refine J_aload_n (pc' := 1) (i := 0) (n := 0) dX10_spells_0 rfl rfl rfl ?_
  refine J_getI (pc' := 4) dX10_spells_1 rfl fl_X10_247 rfl (m_o hs) (m_n hs (Nat.le_of_ble_eq_true rfl)) ?_
  refine J_iconst (pc' := 5) (v := (1 : Int32)) dX10_spells_4 rfl ic_1 ?_
  refine J_join (C := fun (v2 : Int32) => JT_X10_spells l G M r 21 [(0, .ref 35), (1, .int x1), (2, .int x2), (3, .int x3), (4, .int x4), (5, .int x5)] [.int v2] M) h (fun v2 h => ?_) (fun K3 h4 h => ?_)
  · refine J_istore (pc' := 23) (i := 6) (lv' := [(6, .int v2), (0, .ref 35), (1, .int x1), (2, .int x2), (3, .int x3), (4, .int x4), (5, .int x5)]) dX10_spells_21 rfl (by decide) rfl ?_
    refine J_iconst (pc' := 24) (v := (0 : Int32)) dX10_spells_23 rfl ic_0 ?_
    refine J_istore (pc' := 26) (i := 7) (lv' := [(7, .int (0 : Int32)), (6, .int v2), (0, .ref 35), (1, .int x1), (2, .int x2), (3, .int x3), (4, .int x4), (5, .int x5)]) dX10_spells_24 rfl (by decide) rfl ?_
    refine J_sub [2, 3, 4, 5, 6, 7, 1, 0] (lv' := [(0, .ref 35), (1, .int x1), (2, .int x2), (3, .int x3), (4, .int x4), (5, .int x5), (6, .int v2), (7, .int (0 : Int32))]) rfl ?_
    refine L_X10_spells_L26 j_fu hs h (fun y16 y17 h => ?_)
    refine J_iload (pc' := 99) (i := 6) (n := 0) dX10_spells_97 rfl rfl ?_
    obtain ⟨hz, h⟩ := z_b_inv h
    exact J_zret (ty := .boolean) rfl (j_zb hz) dX10_spells_99 ⟨rfl, Nat.le_refl _⟩ (j_pIs h)
  · refine J_icmp_ne (pc' := 8) (tgt := 20) dX10_spells_5 rfl (by decide) (fun c1 => ?_) (fun c1 => ?_)
    · replace h := j_iq c1 h
      refine J_iconst (pc' := 21) (v := (0 : Int32)) dX10_spells_20 rfl ic_0 ?_
      exact h4 (0 : Int32) h
    · replace h := j_ip c1 h
      refine J_aload_n (pc' := 9) (i := 0) (n := 0) dX10_spells_8 rfl rfl rfl ?_
      refine J_getI (pc' := 12) dX10_spells_9 rfl fl_X10_244 rfl (m_o hs) (m_n hs (Nat.le_of_ble_eq_true rfl)) ?_
      refine J_iload_n (pc' := 13) (i := 1) (n := 1) dX10_spells_12 rfl rfl rfl ?_
      refine J_icmp_ne (pc' := 16) (tgt := 20) dX10_spells_13 rfl (by decide) (fun c18 => ?_) (fun c18 => ?_)
      · replace h := j_iq c18 h
        refine J_iconst (pc' := 21) (v := (0 : Int32)) dX10_spells_20 rfl ic_0 ?_
        exact h4 (0 : Int32) h
      · replace h := j_ip c18 h
        refine J_iconst (pc' := 17) (v := (1 : Int32)) dX10_spells_16 rfl ic_1 ?_
        refine J_goto (pc' := 21) dX10_spells_17 (by decide) ?_
        exact h4 (1 : Int32) h
abbrev JT_X10_takes (l : Launch) (G : j_G) (r : (Int32 × j_M)) : Nat → List (Nat × Value) → List Value → j_M → Prop := JJ l G md_X10_takes (j_rm 5 (0, 0)) (0, 0) (0, 0) (po (some (.int r.1)) r.2)
noncomputable def f_X10_takes (M : j_M) (x1 : Int32) (x2 : Int32) (x3 : Int32) : Option (Int32 × j_M) :=
  if (j_I M 35 22) = (2 : Int32) then (tl (f_X10_in ((j_I M 35 23)).toInt64 (x2).toInt64 (x3).toInt64) fun v2 => (if v2 = 0 then (some ((0 : Int32), M)) else (w_i M 50 3 x1 (j_I M 35 23) fun M5 => ((f_X10_goBehind M5).bind fun q8 => j_ck M5 q8 (some ((1 : Int32), q8)))))) else (some ((0 : Int32), M))
set_option maxHeartbeats 4000000 in
theorem c_X10_takes {l : Launch} {G : j_G} {M : j_M} {x1 : Int32} {x2 : Int32} {x3 : Int32} (hs : sh_m M.2.2) {r : (Int32 × j_M)} (h : f_X10_takes M x1 x2 x3 = some r) : j_Sp l G md_X10_takes 5 (0, 0) [.ref 35, .int x1, .int x2, .int x3] M (po (some (.int r.1)) r.2) := by
  refine j_Sp.of (by decide) (Nat.le_of_ble_eq_true rfl) ?_
  show JT_X10_takes l G r 0 [(0, .ref 35), (1, .int x1), (2, .int x2), (3, .int x3)] [] M
  unfold f_X10_takes at h
  refine J_aload_n (pc' := 1) (i := 0) (n := 0) dX10_takes_0 rfl rfl rfl ?_
  refine J_getI (pc' := 4) dX10_takes_1 rfl fl_X10_247 rfl (m_o hs) (m_n hs (Nat.le_of_ble_eq_true rfl)) ?_
  refine J_iconst (pc' := 5) (v := (2 : Int32)) dX10_takes_4 rfl ic_2 ?_
  refine J_icmp_ne (pc' := 8) (tgt := 23) dX10_takes_5 rfl (by decide) (fun c1 => ?_) (fun c1 => ?_)
  · replace h := j_iq c1 h
    refine J_iconst (pc' := 24) (v := (0 : Int32)) dX10_takes_23 rfl ic_0 ?_
    exact J_zret (ty := .boolean) rfl rfl dX10_takes_24 ⟨rfl, Nat.le_refl _⟩ (j_pW h)
  · replace h := j_ip c1 h
    refine J_aload_n (pc' := 9) (i := 0) (n := 0) dX10_takes_8 rfl rfl rfl ?_
    refine J_getI (pc' := 12) dX10_takes_9 rfl fl_X10_250 rfl (m_o hs) (m_n hs (Nat.le_of_ble_eq_true rfl)) ?_
    refine J_i2l (pc' := 13) dX10_takes_12 rfl ?_
    refine J_iload_n (pc' := 14) (i := 2) (n := 2) dX10_takes_13 rfl rfl rfl ?_
    refine J_i2l (pc' := 15) dX10_takes_14 rfl ?_
    refine J_iload_n (pc' := 16) (i := 3) (n := 3) dX10_takes_15 rfl rfl rfl ?_
    refine J_i2l (pc' := 17) dX10_takes_16 rfl ?_
    obtain ⟨v2, e3, h⟩ := tl_inv h
    refine J_callS (pc' := 20) (as := [.long ((j_I M 35 23)).toInt64, .long (x2).toInt64, .long (x3).toInt64]) (rest := []) dX10_takes_17 rfl lk_X10_68 rfl (c_X10_in e3) ⟨Nat.le_of_ble_eq_true rfl, Nat.le_of_ble_eq_true rfl⟩ (Nat.le_of_ble_eq_true rfl) ⟨Nat.le_of_ble_eq_true rfl, Nat.le_of_ble_eq_true rfl⟩ (j_kq ?_)
    refine J_if_ne (pc' := 23) (tgt := 25) dX10_takes_20 rfl (by decide) (fun c4 => ?_) (fun c4 => ?_)
    · replace h := j_iq c4 h
      refine J_aload_n (pc' := 26) (i := 0) (n := 0) dX10_takes_25 rfl rfl rfl ?_
      refine J_getR (pc' := 29) (b := 50) dX10_takes_26 rfl fl_X10_57 rfl (m_o hs) (m_n hs (Nat.le_of_ble_eq_true rfl)) (m_r25 hs) ?_
      refine J_iload_n (pc' := 30) (i := 1) (n := 1) dX10_takes_29 rfl rfl rfl ?_
      refine J_aload_n (pc' := 31) (i := 0) (n := 0) dX10_takes_30 rfl rfl rfl ?_
      refine J_getI (pc' := 34) dX10_takes_31 rfl fl_X10_250 rfl (m_o hs) (m_n hs (Nat.le_of_ble_eq_true rfl)) ?_
      obtain ⟨M5, e6, h⟩ := w_i_inv h
      have g7 : sh_m M5.2.2 := j_shI e6.2 hs
      refine J_iaste (pc' := 35) dX10_takes_34 rfl (m_s50 hs) (m_n hs (Nat.le_of_ble_eq_true rfl)) e6 ?_
      refine J_aload_n (pc' := 36) (i := 0) (n := 0) dX10_takes_35 rfl rfl rfl ?_
      obtain ⟨q8, e9, h⟩ := bi_inv h
      obtain ⟨c10, h⟩ := j_ck_inv h
      refine J_callV (pc' := 39) (as := []) (rest := []) dX10_takes_36 rfl lk_X10_262 rfl 10 (by decide) rfl (m_o g7) (m_n g7 (Nat.le_of_ble_eq_true rfl)) (c_X10_goBehind g7 e9) ⟨Nat.le_of_ble_eq_true rfl, Nat.le_of_ble_eq_true rfl⟩ (Nat.le_of_ble_eq_true rfl) ⟨Nat.le_of_ble_eq_true rfl, Nat.le_of_ble_eq_true rfl⟩ (j_kv ?_)
      have g11 : sh_m q8.2.2 := j_shE c10 g7
      refine J_iconst (pc' := 40) (v := (1 : Int32)) dX10_takes_39 rfl ic_1 ?_
      exact J_zret (ty := .boolean) rfl rfl dX10_takes_40 ⟨rfl, Nat.le_refl _⟩ (j_pW h)
    · replace h := j_ip c4 h
      refine J_iconst (pc' := 24) (v := (0 : Int32)) dX10_takes_23 rfl ic_0 ?_
      exact J_zret (ty := .boolean) rfl rfl dX10_takes_24 ⟨rfl, Nat.le_refl _⟩ (j_pW h)
abbrev JT_X10_takesSign (l : Launch) (G : j_G) (r : (Int32 × j_M)) : Nat → List (Nat × Value) → List Value → j_M → Prop := JJ l G md_X10_takesSign (j_rm 6 (0, 0)) (0, 0) (0, 0) (po (some (.int r.1)) r.2)
noncomputable def f_X10_takesSign (M : j_M)  : Option (Int32 × j_M) :=
  (f_X10_goBehind M).bind fun q1 => j_ck M q1 ((f_X10_takes q1 (0 : Int32) (0 : Int32) (3 : Int32)).bind fun q5 => j_ck q1 q5.2 (if q5.1 = 0 then (some ((0 : Int32), q5.2)) else ((f_X10_takes q5.2 (1 : Int32) (0 : Int32) (2 : Int32)).bind fun q10 => j_ck q5.2 q10.2 (if q10.1 = 0 then (some ((0 : Int32), q10.2)) else (a_i q10.2 50 3 (0 : Int32) fun v15 => (a_i q10.2 50 3 (1 : Int32) fun v17 => (w_i q10.2 49 74 ((4 : Int32) + v15) v17 fun M19 => (some ((1 : Int32), M19)))))))))
set_option maxHeartbeats 4000000 in
theorem c_X10_takesSign {l : Launch} {G : j_G} {M : j_M}  (hs : sh_m M.2.2) {r : (Int32 × j_M)} (h : f_X10_takesSign M  = some r) : j_Sp l G md_X10_takesSign 6 (0, 0) [.ref 35] M (po (some (.int r.1)) r.2) := by
  refine j_Sp.of (by decide) (Nat.le_of_ble_eq_true rfl) ?_
  show JT_X10_takesSign l G r 0 [(0, .ref 35)] [] M
  unfold f_X10_takesSign at h
  refine J_aload_n (pc' := 1) (i := 0) (n := 0) dX10_takesSign_0 rfl rfl rfl ?_
  obtain ⟨q1, e2, h⟩ := bi_inv h
  obtain ⟨c3, h⟩ := j_ck_inv h
  refine J_callV (pc' := 4) (as := []) (rest := []) dX10_takesSign_1 rfl lk_X10_262 rfl 10 (by decide) rfl (m_o hs) (m_n hs (Nat.le_of_ble_eq_true rfl)) (c_X10_goBehind hs e2) ⟨Nat.le_of_ble_eq_true rfl, Nat.le_of_ble_eq_true rfl⟩ (Nat.le_of_ble_eq_true rfl) ⟨Nat.le_of_ble_eq_true rfl, Nat.le_of_ble_eq_true rfl⟩ (j_kv ?_)
  have g4 : sh_m q1.2.2 := j_shE c3 hs
  refine J_aload_n (pc' := 5) (i := 0) (n := 0) dX10_takesSign_4 rfl rfl rfl ?_
  refine J_iconst (pc' := 6) (v := (0 : Int32)) dX10_takesSign_5 rfl ic_0 ?_
  refine J_iconst (pc' := 7) (v := (0 : Int32)) dX10_takesSign_6 rfl ic_0 ?_
  refine J_iconst (pc' := 8) (v := (3 : Int32)) dX10_takesSign_7 rfl ic_3 ?_
  obtain ⟨q5, e6, h⟩ := bi_inv h
  obtain ⟨c7, h⟩ := j_ck_inv h
  refine J_callV (pc' := 11) (as := [.int (0 : Int32), .int (0 : Int32), .int (3 : Int32)]) (rest := []) dX10_takesSign_8 rfl lk_X10_265 rfl 10 (by decide) rfl (m_o g4) (m_n g4 (Nat.le_of_ble_eq_true rfl)) (c_X10_takes g4 e6) ⟨Nat.le_of_ble_eq_true rfl, Nat.le_of_ble_eq_true rfl⟩ (Nat.le_of_ble_eq_true rfl) ⟨Nat.le_of_ble_eq_true rfl, Nat.le_of_ble_eq_true rfl⟩ (j_kq ?_)
  have g8 : sh_m q5.2.2.2 := j_shE c7 g4
  refine J_if_eq (pc' := 14) (tgt := 24) dX10_takesSign_11 rfl (by decide) (fun c9 => ?_) (fun c9 => ?_)
  · replace h := j_ip c9 h
    refine J_iconst (pc' := 25) (v := (0 : Int32)) dX10_takesSign_24 rfl ic_0 ?_
    exact J_zret (ty := .boolean) rfl rfl dX10_takesSign_25 ⟨rfl, Nat.le_refl _⟩ (j_pW h)
  · replace h := j_iq c9 h
    refine J_aload_n (pc' := 15) (i := 0) (n := 0) dX10_takesSign_14 rfl rfl rfl ?_
    refine J_iconst (pc' := 16) (v := (1 : Int32)) dX10_takesSign_15 rfl ic_1 ?_
    refine J_iconst (pc' := 17) (v := (0 : Int32)) dX10_takesSign_16 rfl ic_0 ?_
    refine J_iconst (pc' := 18) (v := (2 : Int32)) dX10_takesSign_17 rfl ic_2 ?_
    obtain ⟨q10, e11, h⟩ := bi_inv h
    obtain ⟨c12, h⟩ := j_ck_inv h
    refine J_callV (pc' := 21) (as := [.int (1 : Int32), .int (0 : Int32), .int (2 : Int32)]) (rest := []) dX10_takesSign_18 rfl lk_X10_265 rfl 10 (by decide) rfl (m_o g8) (m_n g8 (Nat.le_of_ble_eq_true rfl)) (c_X10_takes g8 e11) ⟨Nat.le_of_ble_eq_true rfl, Nat.le_of_ble_eq_true rfl⟩ (Nat.le_of_ble_eq_true rfl) ⟨Nat.le_of_ble_eq_true rfl, Nat.le_of_ble_eq_true rfl⟩ (j_kq ?_)
    have g13 : sh_m q10.2.2.2 := j_shE c12 g8
    refine J_if_ne (pc' := 24) (tgt := 26) dX10_takesSign_21 rfl (by decide) (fun c14 => ?_) (fun c14 => ?_)
    · replace h := j_iq c14 h
      refine J_aload_n (pc' := 27) (i := 0) (n := 0) dX10_takesSign_26 rfl rfl rfl ?_
      refine J_getR (pc' := 30) (b := 49) dX10_takesSign_27 rfl fl_X10_54 rfl (m_o g13) (m_n g13 (Nat.le_of_ble_eq_true rfl)) (m_r24 g13) ?_
      refine J_iconst (pc' := 31) (v := (4 : Int32)) dX10_takesSign_30 rfl ic_4 ?_
      refine J_aload_n (pc' := 32) (i := 0) (n := 0) dX10_takesSign_31 rfl rfl rfl ?_
      refine J_getR (pc' := 35) (b := 50) dX10_takesSign_32 rfl fl_X10_57 rfl (m_o g13) (m_n g13 (Nat.le_of_ble_eq_true rfl)) (m_r25 g13) ?_
      refine J_iconst (pc' := 36) (v := (0 : Int32)) dX10_takesSign_35 rfl ic_0 ?_
      obtain ⟨v15, e16, h⟩ := a_i_inv h
      refine J_ialde (pc' := 37) dX10_takesSign_36 rfl (m_s50 g13) (m_n g13 (Nat.le_of_ble_eq_true rfl)) e16 ?_
      refine J_iadd (pc' := 38) dX10_takesSign_37 rfl ?_
      refine J_aload_n (pc' := 39) (i := 0) (n := 0) dX10_takesSign_38 rfl rfl rfl ?_
      refine J_getR (pc' := 42) (b := 50) dX10_takesSign_39 rfl fl_X10_57 rfl (m_o g13) (m_n g13 (Nat.le_of_ble_eq_true rfl)) (m_r25 g13) ?_
      refine J_iconst (pc' := 43) (v := (1 : Int32)) dX10_takesSign_42 rfl ic_1 ?_
      obtain ⟨v17, e18, h⟩ := a_i_inv h
      refine J_ialde (pc' := 44) dX10_takesSign_43 rfl (m_s50 g13) (m_n g13 (Nat.le_of_ble_eq_true rfl)) e18 ?_
      obtain ⟨M19, e20, h⟩ := w_i_inv h
      have g21 : sh_m M19.2.2 := j_shI e20.2 g13
      refine J_iaste (pc' := 45) dX10_takesSign_44 rfl (m_s49 g13) (m_n g13 (Nat.le_of_ble_eq_true rfl)) e20 ?_
      refine J_iconst (pc' := 46) (v := (1 : Int32)) dX10_takesSign_45 rfl ic_1 ?_
      exact J_zret (ty := .boolean) rfl rfl dX10_takesSign_46 ⟨rfl, Nat.le_refl _⟩ (j_pW h)
    · replace h := j_ip c14 h
      refine J_iconst (pc' := 25) (v := (0 : Int32)) dX10_takesSign_24 rfl ic_0 ?_
      exact J_zret (ty := .boolean) rfl rfl dX10_takesSign_25 ⟨rfl, Nat.le_refl _⟩ (j_pW h)
abbrev JT_X10_takesShut (l : Launch) (G : j_G) (r : (Int32 × j_M)) : Nat → List (Nat × Value) → List Value → j_M → Prop := JJ l G md_X10_takesShut (j_rm 6 (0, 0)) (0, 0) (0, 0) (po (some (.int r.1)) r.2)
noncomputable def f_X10_takesShut (M : j_M)  : Option (Int32 × j_M) :=
  (f_X10_goBehind M).bind fun q1 => j_ck M q1 (if (j_I q1 35 22) = (2 : Int32) then ((f_X10_whoIsIn q1 49 74 (j_I q1 35 23)).bind fun v6 => (if v6 = 0 then ((f_X10_takes q1 (0 : Int32) (0 : Int32) (3 : Int32)).bind fun q9 => j_ck q1 q9.2 (if q9.1 = 0 then (some ((0 : Int32), q9.2)) else (a_i q9.2 49 74 (8 : Int32) fun v14 => (a_i q9.2 50 3 (0 : Int32) fun v16 => (w_i q9.2 49 74 (8 : Int32) (v14 ||| ((1 : Int32) <<< (v16 &&& 31))) fun M18 => (some ((1 : Int32), M18))))))) else (some ((0 : Int32), q1)))) else (some ((0 : Int32), q1)))
set_option maxHeartbeats 4000000 in
theorem c_X10_takesShut {l : Launch} {G : j_G} {M : j_M}  (hs : sh_m M.2.2) {r : (Int32 × j_M)} (h : f_X10_takesShut M  = some r) : j_Sp l G md_X10_takesShut 6 (0, 0) [.ref 35] M (po (some (.int r.1)) r.2) := by
  refine j_Sp.of (by decide) (Nat.le_of_ble_eq_true rfl) ?_
  show JT_X10_takesShut l G r 0 [(0, .ref 35)] [] M
  unfold f_X10_takesShut at h
  refine J_aload_n (pc' := 1) (i := 0) (n := 0) dX10_takesShut_0 rfl rfl rfl ?_
  obtain ⟨q1, e2, h⟩ := bi_inv h
  obtain ⟨c3, h⟩ := j_ck_inv h
  refine J_callV (pc' := 4) (as := []) (rest := []) dX10_takesShut_1 rfl lk_X10_262 rfl 10 (by decide) rfl (m_o hs) (m_n hs (Nat.le_of_ble_eq_true rfl)) (c_X10_goBehind hs e2) ⟨Nat.le_of_ble_eq_true rfl, Nat.le_of_ble_eq_true rfl⟩ (Nat.le_of_ble_eq_true rfl) ⟨Nat.le_of_ble_eq_true rfl, Nat.le_of_ble_eq_true rfl⟩ (j_kv ?_)
  have g4 : sh_m q1.2.2 := j_shE c3 hs
  refine J_aload_n (pc' := 5) (i := 0) (n := 0) dX10_takesShut_4 rfl rfl rfl ?_
  refine J_getI (pc' := 8) dX10_takesShut_5 rfl fl_X10_247 rfl (m_o g4) (m_n g4 (Nat.le_of_ble_eq_true rfl)) ?_
  refine J_iconst (pc' := 9) (v := (2 : Int32)) dX10_takesShut_8 rfl ic_2 ?_
  refine J_icmp_ne (pc' := 12) (tgt := 36) dX10_takesShut_9 rfl (by decide) (fun c5 => ?_) (fun c5 => ?_)
  · replace h := j_iq c5 h
    refine J_iconst (pc' := 37) (v := (0 : Int32)) dX10_takesShut_36 rfl ic_0 ?_
    exact J_zret (ty := .boolean) rfl rfl dX10_takesShut_37 ⟨rfl, Nat.le_refl _⟩ (j_pW h)
  · replace h := j_ip c5 h
    refine J_aload_n (pc' := 13) (i := 0) (n := 0) dX10_takesShut_12 rfl rfl rfl ?_
    refine J_getR (pc' := 16) (b := 49) dX10_takesShut_13 rfl fl_X10_54 rfl (m_o g4) (m_n g4 (Nat.le_of_ble_eq_true rfl)) (m_r24 g4) ?_
    refine J_aload_n (pc' := 17) (i := 0) (n := 0) dX10_takesShut_16 rfl rfl rfl ?_
    refine J_getI (pc' := 20) dX10_takesShut_17 rfl fl_X10_250 rfl (m_o g4) (m_n g4 (Nat.le_of_ble_eq_true rfl)) ?_
    obtain ⟨v6, e7, h⟩ := bi_inv h
    refine J_callS (pc' := 23) (as := [.ref 49, .int (j_I q1 35 23)]) (rest := []) dX10_takesShut_20 rfl lk_X10_88 rfl (c_X10_whoIsIn ⟨(m_s49 g4), (m_n g4 (Nat.le_of_ble_eq_true rfl))⟩ e7) ⟨Nat.le_of_ble_eq_true rfl, Nat.le_of_ble_eq_true rfl⟩ (Nat.le_of_ble_eq_true rfl) ⟨Nat.le_of_ble_eq_true rfl, Nat.le_of_ble_eq_true rfl⟩ (j_kq ?_)
    refine J_if_ne (pc' := 26) (tgt := 36) dX10_takesShut_23 rfl (by decide) (fun c8 => ?_) (fun c8 => ?_)
    · replace h := j_iq c8 h
      refine J_iconst (pc' := 37) (v := (0 : Int32)) dX10_takesShut_36 rfl ic_0 ?_
      exact J_zret (ty := .boolean) rfl rfl dX10_takesShut_37 ⟨rfl, Nat.le_refl _⟩ (j_pW h)
    · replace h := j_ip c8 h
      refine J_aload_n (pc' := 27) (i := 0) (n := 0) dX10_takesShut_26 rfl rfl rfl ?_
      refine J_iconst (pc' := 28) (v := (0 : Int32)) dX10_takesShut_27 rfl ic_0 ?_
      refine J_iconst (pc' := 29) (v := (0 : Int32)) dX10_takesShut_28 rfl ic_0 ?_
      refine J_iconst (pc' := 30) (v := (3 : Int32)) dX10_takesShut_29 rfl ic_3 ?_
      obtain ⟨q9, e10, h⟩ := bi_inv h
      obtain ⟨c11, h⟩ := j_ck_inv h
      refine J_callV (pc' := 33) (as := [.int (0 : Int32), .int (0 : Int32), .int (3 : Int32)]) (rest := []) dX10_takesShut_30 rfl lk_X10_265 rfl 10 (by decide) rfl (m_o g4) (m_n g4 (Nat.le_of_ble_eq_true rfl)) (c_X10_takes g4 e10) ⟨Nat.le_of_ble_eq_true rfl, Nat.le_of_ble_eq_true rfl⟩ (Nat.le_of_ble_eq_true rfl) ⟨Nat.le_of_ble_eq_true rfl, Nat.le_of_ble_eq_true rfl⟩ (j_kq ?_)
      have g12 : sh_m q9.2.2.2 := j_shE c11 g4
      refine J_if_ne (pc' := 36) (tgt := 38) dX10_takesShut_33 rfl (by decide) (fun c13 => ?_) (fun c13 => ?_)
      · replace h := j_iq c13 h
        refine J_aload_n (pc' := 39) (i := 0) (n := 0) dX10_takesShut_38 rfl rfl rfl ?_
        refine J_getR (pc' := 42) (b := 49) dX10_takesShut_39 rfl fl_X10_54 rfl (m_o g12) (m_n g12 (Nat.le_of_ble_eq_true rfl)) (m_r24 g12) ?_
        refine J_bipush (pc' := 44) (v := (8 : Int32)) dX10_takesShut_42 rfl bp_8 ?_
        refine J_dup2 (pc' := 45) dX10_takesShut_44 rfl rfl rfl ?_
        obtain ⟨v14, e15, h⟩ := a_i_inv h
        refine J_ialde (pc' := 46) dX10_takesShut_45 rfl (m_s49 g12) (m_n g12 (Nat.le_of_ble_eq_true rfl)) e15 ?_
        refine J_iconst (pc' := 47) (v := (1 : Int32)) dX10_takesShut_46 rfl ic_1 ?_
        refine J_aload_n (pc' := 48) (i := 0) (n := 0) dX10_takesShut_47 rfl rfl rfl ?_
        refine J_getR (pc' := 51) (b := 50) dX10_takesShut_48 rfl fl_X10_57 rfl (m_o g12) (m_n g12 (Nat.le_of_ble_eq_true rfl)) (m_r25 g12) ?_
        refine J_iconst (pc' := 52) (v := (0 : Int32)) dX10_takesShut_51 rfl ic_0 ?_
        obtain ⟨v16, e17, h⟩ := a_i_inv h
        refine J_ialde (pc' := 53) dX10_takesShut_52 rfl (m_s50 g12) (m_n g12 (Nat.le_of_ble_eq_true rfl)) e17 ?_
        refine J_ishl (pc' := 54) dX10_takesShut_53 rfl ?_
        refine J_ior (pc' := 55) dX10_takesShut_54 rfl ?_
        obtain ⟨M18, e19, h⟩ := w_i_inv h
        have g20 : sh_m M18.2.2 := j_shI e19.2 g12
        refine J_iaste (pc' := 56) dX10_takesShut_55 rfl (m_s49 g12) (m_n g12 (Nat.le_of_ble_eq_true rfl)) e19 ?_
        refine J_iconst (pc' := 57) (v := (1 : Int32)) dX10_takesShut_56 rfl ic_1 ?_
        exact J_zret (ty := .boolean) rfl rfl dX10_takesShut_57 ⟨rfl, Nat.le_refl _⟩ (j_pW h)
      · replace h := j_ip c13 h
        refine J_iconst (pc' := 37) (v := (0 : Int32)) dX10_takesShut_36 rfl ic_0 ?_
        exact J_zret (ty := .boolean) rfl rfl dX10_takesShut_37 ⟨rfl, Nat.le_refl _⟩ (j_pW h)
abbrev JT_X10_takesOne (l : Launch) (G : j_G) (r : (Int32 × j_M)) : Nat → List (Nat × Value) → List Value → j_M → Prop := JJ l G md_X10_takesOne (j_rm 6 (0, 0)) (0, 0) (0, 0) (po (some (.int r.1)) r.2)
noncomputable def f_X10_takesOne (M : j_M)  : Option (Int32 × j_M) :=
  a_i M 49 74 (0 : Int32) fun v1 => (if v1 = (7 : Int32) then (some ((0 : Int32), M)) else ((f_X10_goBehind M).bind fun q4 => j_ck M q4 ((f_X10_takes q4 (0 : Int32) (0 : Int32) (5 : Int32)).bind fun q8 => j_ck q4 q8.2 (if q8.1 = 0 then (some ((0 : Int32), q8.2)) else ((f_X10_takes q8.2 (1 : Int32) (20 : Int32) (90 : Int32)).bind fun q13 => j_ck q8.2 q13.2 (if q13.1 = 0 then (some ((0 : Int32), q13.2)) else (if (j_I q13.2 35 22) = (2 : Int32) then (a_i q13.2 49 74 (8 : Int32) fun v19 => (tl (f_X10_has v19 (j_I q13.2 35 23)) fun v21 => (if v21 = 0 then ((f_X10_takes q13.2 (2 : Int32) (0 : Int32) (3 : Int32)).bind fun q24 => j_ck q13.2 q24.2 (if q24.1 = 0 then (some ((0 : Int32), q24.2)) else (a_i q24.2 50 3 (0 : Int32) fun v29 => (a_i q24.2 50 3 (1 : Int32) fun v31 => (a_i q24.2 50 3 (2 : Int32) fun v33 => ((f_X10_layOne q24.2 49 74 v29 v31 v33).bind fun q35 => j_ck q24.2 q35 (some ((1 : Int32), q35)))))))) else (some ((0 : Int32), q13.2))))) else (some ((0 : Int32), q13.2)))))))))
set_option maxHeartbeats 4000000 in
theorem c_X10_takesOne {l : Launch} {G : j_G} {M : j_M}  (hs : sh_m M.2.2) {r : (Int32 × j_M)} (h : f_X10_takesOne M  = some r) : j_Sp l G md_X10_takesOne 6 (0, 0) [.ref 35] M (po (some (.int r.1)) r.2) := by
  refine j_Sp.of (by decide) (Nat.le_of_ble_eq_true rfl) ?_
  show JT_X10_takesOne l G r 0 [(0, .ref 35)] [] M
  unfold f_X10_takesOne at h
  refine J_aload_n (pc' := 1) (i := 0) (n := 0) dX10_takesOne_0 rfl rfl rfl ?_
  refine J_getR (pc' := 4) (b := 49) dX10_takesOne_1 rfl fl_X10_54 rfl (m_o hs) (m_n hs (Nat.le_of_ble_eq_true rfl)) (m_r24 hs) ?_
  refine J_iconst (pc' := 5) (v := (0 : Int32)) dX10_takesOne_4 rfl ic_0 ?_
  obtain ⟨v1, e2, h⟩ := a_i_inv h
  refine J_ialde (pc' := 6) dX10_takesOne_5 rfl (m_s49 hs) (m_n hs (Nat.le_of_ble_eq_true rfl)) e2 ?_
  refine J_bipush (pc' := 8) (v := (7 : Int32)) dX10_takesOne_6 rfl bp_7 ?_
  refine J_icmp_ne (pc' := 11) (tgt := 13) dX10_takesOne_8 rfl (by decide) (fun c3 => ?_) (fun c3 => ?_)
  · replace h := j_iq c3 h
    refine J_aload_n (pc' := 14) (i := 0) (n := 0) dX10_takesOne_13 rfl rfl rfl ?_
    obtain ⟨q4, e5, h⟩ := bi_inv h
    obtain ⟨c6, h⟩ := j_ck_inv h
    refine J_callV (pc' := 17) (as := []) (rest := []) dX10_takesOne_14 rfl lk_X10_262 rfl 10 (by decide) rfl (m_o hs) (m_n hs (Nat.le_of_ble_eq_true rfl)) (c_X10_goBehind hs e5) ⟨Nat.le_of_ble_eq_true rfl, Nat.le_of_ble_eq_true rfl⟩ (Nat.le_of_ble_eq_true rfl) ⟨Nat.le_of_ble_eq_true rfl, Nat.le_of_ble_eq_true rfl⟩ (j_kv ?_)
    have g7 : sh_m q4.2.2 := j_shE c6 hs
    refine J_aload_n (pc' := 18) (i := 0) (n := 0) dX10_takesOne_17 rfl rfl rfl ?_
    refine J_iconst (pc' := 19) (v := (0 : Int32)) dX10_takesOne_18 rfl ic_0 ?_
    refine J_iconst (pc' := 20) (v := (0 : Int32)) dX10_takesOne_19 rfl ic_0 ?_
    refine J_iconst (pc' := 21) (v := (5 : Int32)) dX10_takesOne_20 rfl ic_5 ?_
    obtain ⟨q8, e9, h⟩ := bi_inv h
    obtain ⟨c10, h⟩ := j_ck_inv h
    refine J_callV (pc' := 24) (as := [.int (0 : Int32), .int (0 : Int32), .int (5 : Int32)]) (rest := []) dX10_takesOne_21 rfl lk_X10_265 rfl 10 (by decide) rfl (m_o g7) (m_n g7 (Nat.le_of_ble_eq_true rfl)) (c_X10_takes g7 e9) ⟨Nat.le_of_ble_eq_true rfl, Nat.le_of_ble_eq_true rfl⟩ (Nat.le_of_ble_eq_true rfl) ⟨Nat.le_of_ble_eq_true rfl, Nat.le_of_ble_eq_true rfl⟩ (j_kq ?_)
    have g11 : sh_m q8.2.2.2 := j_shE c10 g7
    refine J_if_eq (pc' := 27) (tgt := 74) dX10_takesOne_24 rfl (by decide) (fun c12 => ?_) (fun c12 => ?_)
    · replace h := j_ip c12 h
      refine J_iconst (pc' := 75) (v := (0 : Int32)) dX10_takesOne_74 rfl ic_0 ?_
      exact J_zret (ty := .boolean) rfl rfl dX10_takesOne_75 ⟨rfl, Nat.le_refl _⟩ (j_pW h)
    · replace h := j_iq c12 h
      refine J_aload_n (pc' := 28) (i := 0) (n := 0) dX10_takesOne_27 rfl rfl rfl ?_
      refine J_iconst (pc' := 29) (v := (1 : Int32)) dX10_takesOne_28 rfl ic_1 ?_
      refine J_bipush (pc' := 31) (v := (20 : Int32)) dX10_takesOne_29 rfl bp_20 ?_
      refine J_bipush (pc' := 33) (v := (90 : Int32)) dX10_takesOne_31 rfl bp_90 ?_
      obtain ⟨q13, e14, h⟩ := bi_inv h
      obtain ⟨c15, h⟩ := j_ck_inv h
      refine J_callV (pc' := 36) (as := [.int (1 : Int32), .int (20 : Int32), .int (90 : Int32)]) (rest := []) dX10_takesOne_33 rfl lk_X10_265 rfl 10 (by decide) rfl (m_o g11) (m_n g11 (Nat.le_of_ble_eq_true rfl)) (c_X10_takes g11 e14) ⟨Nat.le_of_ble_eq_true rfl, Nat.le_of_ble_eq_true rfl⟩ (Nat.le_of_ble_eq_true rfl) ⟨Nat.le_of_ble_eq_true rfl, Nat.le_of_ble_eq_true rfl⟩ (j_kq ?_)
      have g16 : sh_m q13.2.2.2 := j_shE c15 g11
      refine J_if_eq (pc' := 39) (tgt := 74) dX10_takesOne_36 rfl (by decide) (fun c17 => ?_) (fun c17 => ?_)
      · replace h := j_ip c17 h
        refine J_iconst (pc' := 75) (v := (0 : Int32)) dX10_takesOne_74 rfl ic_0 ?_
        exact J_zret (ty := .boolean) rfl rfl dX10_takesOne_75 ⟨rfl, Nat.le_refl _⟩ (j_pW h)
      · replace h := j_iq c17 h
        refine J_aload_n (pc' := 40) (i := 0) (n := 0) dX10_takesOne_39 rfl rfl rfl ?_
        refine J_getI (pc' := 43) dX10_takesOne_40 rfl fl_X10_247 rfl (m_o g16) (m_n g16 (Nat.le_of_ble_eq_true rfl)) ?_
        refine J_iconst (pc' := 44) (v := (2 : Int32)) dX10_takesOne_43 rfl ic_2 ?_
        refine J_icmp_ne (pc' := 47) (tgt := 74) dX10_takesOne_44 rfl (by decide) (fun c18 => ?_) (fun c18 => ?_)
        · replace h := j_iq c18 h
          refine J_iconst (pc' := 75) (v := (0 : Int32)) dX10_takesOne_74 rfl ic_0 ?_
          exact J_zret (ty := .boolean) rfl rfl dX10_takesOne_75 ⟨rfl, Nat.le_refl _⟩ (j_pW h)
        · replace h := j_ip c18 h
          refine J_aload_n (pc' := 48) (i := 0) (n := 0) dX10_takesOne_47 rfl rfl rfl ?_
          refine J_getR (pc' := 51) (b := 49) dX10_takesOne_48 rfl fl_X10_54 rfl (m_o g16) (m_n g16 (Nat.le_of_ble_eq_true rfl)) (m_r24 g16) ?_
          refine J_bipush (pc' := 53) (v := (8 : Int32)) dX10_takesOne_51 rfl bp_8 ?_
          obtain ⟨v19, e20, h⟩ := a_i_inv h
          refine J_ialde (pc' := 54) dX10_takesOne_53 rfl (m_s49 g16) (m_n g16 (Nat.le_of_ble_eq_true rfl)) e20 ?_
          refine J_aload_n (pc' := 55) (i := 0) (n := 0) dX10_takesOne_54 rfl rfl rfl ?_
          refine J_getI (pc' := 58) dX10_takesOne_55 rfl fl_X10_250 rfl (m_o g16) (m_n g16 (Nat.le_of_ble_eq_true rfl)) ?_
          obtain ⟨v21, e22, h⟩ := tl_inv h
          refine J_callS (pc' := 61) (as := [.int v19, .int (j_I q13.2 35 23)]) (rest := []) dX10_takesOne_58 rfl lk_X10_74 rfl (c_X10_has e22) ⟨Nat.le_of_ble_eq_true rfl, Nat.le_of_ble_eq_true rfl⟩ (Nat.le_of_ble_eq_true rfl) ⟨Nat.le_of_ble_eq_true rfl, Nat.le_of_ble_eq_true rfl⟩ (j_kq ?_)
          refine J_if_ne (pc' := 64) (tgt := 74) dX10_takesOne_61 rfl (by decide) (fun c23 => ?_) (fun c23 => ?_)
          · replace h := j_iq c23 h
            refine J_iconst (pc' := 75) (v := (0 : Int32)) dX10_takesOne_74 rfl ic_0 ?_
            exact J_zret (ty := .boolean) rfl rfl dX10_takesOne_75 ⟨rfl, Nat.le_refl _⟩ (j_pW h)
          · replace h := j_ip c23 h
            refine J_aload_n (pc' := 65) (i := 0) (n := 0) dX10_takesOne_64 rfl rfl rfl ?_
            refine J_iconst (pc' := 66) (v := (2 : Int32)) dX10_takesOne_65 rfl ic_2 ?_
            refine J_iconst (pc' := 67) (v := (0 : Int32)) dX10_takesOne_66 rfl ic_0 ?_
            refine J_iconst (pc' := 68) (v := (3 : Int32)) dX10_takesOne_67 rfl ic_3 ?_
            obtain ⟨q24, e25, h⟩ := bi_inv h
            obtain ⟨c26, h⟩ := j_ck_inv h
            refine J_callV (pc' := 71) (as := [.int (2 : Int32), .int (0 : Int32), .int (3 : Int32)]) (rest := []) dX10_takesOne_68 rfl lk_X10_265 rfl 10 (by decide) rfl (m_o g16) (m_n g16 (Nat.le_of_ble_eq_true rfl)) (c_X10_takes g16 e25) ⟨Nat.le_of_ble_eq_true rfl, Nat.le_of_ble_eq_true rfl⟩ (Nat.le_of_ble_eq_true rfl) ⟨Nat.le_of_ble_eq_true rfl, Nat.le_of_ble_eq_true rfl⟩ (j_kq ?_)
            have g27 : sh_m q24.2.2.2 := j_shE c26 g16
            refine J_if_ne (pc' := 74) (tgt := 76) dX10_takesOne_71 rfl (by decide) (fun c28 => ?_) (fun c28 => ?_)
            · replace h := j_iq c28 h
              refine J_aload_n (pc' := 77) (i := 0) (n := 0) dX10_takesOne_76 rfl rfl rfl ?_
              refine J_getR (pc' := 80) (b := 49) dX10_takesOne_77 rfl fl_X10_54 rfl (m_o g27) (m_n g27 (Nat.le_of_ble_eq_true rfl)) (m_r24 g27) ?_
              refine J_aload_n (pc' := 81) (i := 0) (n := 0) dX10_takesOne_80 rfl rfl rfl ?_
              refine J_getR (pc' := 84) (b := 50) dX10_takesOne_81 rfl fl_X10_57 rfl (m_o g27) (m_n g27 (Nat.le_of_ble_eq_true rfl)) (m_r25 g27) ?_
              refine J_iconst (pc' := 85) (v := (0 : Int32)) dX10_takesOne_84 rfl ic_0 ?_
              obtain ⟨v29, e30, h⟩ := a_i_inv h
              refine J_ialde (pc' := 86) dX10_takesOne_85 rfl (m_s50 g27) (m_n g27 (Nat.le_of_ble_eq_true rfl)) e30 ?_
              refine J_aload_n (pc' := 87) (i := 0) (n := 0) dX10_takesOne_86 rfl rfl rfl ?_
              refine J_getR (pc' := 90) (b := 50) dX10_takesOne_87 rfl fl_X10_57 rfl (m_o g27) (m_n g27 (Nat.le_of_ble_eq_true rfl)) (m_r25 g27) ?_
              refine J_iconst (pc' := 91) (v := (1 : Int32)) dX10_takesOne_90 rfl ic_1 ?_
              obtain ⟨v31, e32, h⟩ := a_i_inv h
              refine J_ialde (pc' := 92) dX10_takesOne_91 rfl (m_s50 g27) (m_n g27 (Nat.le_of_ble_eq_true rfl)) e32 ?_
              refine J_aload_n (pc' := 93) (i := 0) (n := 0) dX10_takesOne_92 rfl rfl rfl ?_
              refine J_getR (pc' := 96) (b := 50) dX10_takesOne_93 rfl fl_X10_57 rfl (m_o g27) (m_n g27 (Nat.le_of_ble_eq_true rfl)) (m_r25 g27) ?_
              refine J_iconst (pc' := 97) (v := (2 : Int32)) dX10_takesOne_96 rfl ic_2 ?_
              obtain ⟨v33, e34, h⟩ := a_i_inv h
              refine J_ialde (pc' := 98) dX10_takesOne_97 rfl (m_s50 g27) (m_n g27 (Nat.le_of_ble_eq_true rfl)) e34 ?_
              obtain ⟨q35, e36, h⟩ := bi_inv h
              obtain ⟨c37, h⟩ := j_ck_inv h
              refine J_callS (pc' := 101) (as := [.ref 49, .int v29, .int v31, .int v33]) (rest := []) dX10_takesOne_98 rfl lk_X10_107 rfl (c_X10_layOne ⟨(m_s49 g27), (m_n g27 (Nat.le_of_ble_eq_true rfl))⟩ e36) ⟨Nat.le_of_ble_eq_true rfl, Nat.le_of_ble_eq_true rfl⟩ (Nat.le_of_ble_eq_true rfl) ⟨Nat.le_of_ble_eq_true rfl, Nat.le_of_ble_eq_true rfl⟩ (j_kv ?_)
              have g38 : sh_m q35.2.2 := j_shE c37 g27
              refine J_iconst (pc' := 102) (v := (1 : Int32)) dX10_takesOne_101 rfl ic_1 ?_
              exact J_zret (ty := .boolean) rfl rfl dX10_takesOne_102 ⟨rfl, Nat.le_refl _⟩ (j_pW h)
            · replace h := j_ip c28 h
              refine J_iconst (pc' := 75) (v := (0 : Int32)) dX10_takesOne_74 rfl ic_0 ?_
              exact J_zret (ty := .boolean) rfl rfl dX10_takesOne_75 ⟨rfl, Nat.le_refl _⟩ (j_pW h)
  · replace h := j_ip c3 h
    refine J_iconst (pc' := 12) (v := (0 : Int32)) dX10_takesOne_11 rfl ic_0 ?_
    exact J_zret (ty := .boolean) rfl rfl dX10_takesOne_12 ⟨rfl, Nat.le_refl _⟩ (j_pW h)
abbrev JT_X10_takesItem (l : Launch) (G : j_G) (r : (Int32 × j_M)) : Nat → List (Nat × Value) → List Value → j_M → Prop := JJ l G md_X10_takesItem (j_rm 7 (0, 0)) (0, 0) (0, 0) (po (some (.int r.1)) r.2)
noncomputable def f_X10_takesItem (M : j_M)  : Option (Int32 × j_M) :=
  (f_X10_spells M (4 : Int32) (115 : Int32) (105 : Int32) (103 : Int32) (110 : Int32)).bind fun v1 => (if v1 = 0 then ((f_X10_spells M (4 : Int32) (115 : Int32) (104 : Int32) (117 : Int32) (116 : Int32)).bind fun v4 => (if v4 = 0 then ((f_X10_spells M (3 : Int32) (111 : Int32) (110 : Int32) (101 : Int32) (0 : Int32)).bind fun v7 => (if v7 = 0 then (some ((0 : Int32), M)) else ((f_X10_takesOne M).bind fun q10 => j_ck M q10.2 (if q10.1 = 0 then (some ((0 : Int32), q10.2)) else (some ((1 : Int32), q10.2)))))) else ((f_X10_takesShut M).bind fun q15 => j_ck M q15.2 (z_b q15.1 (some (q15.1, q15.2)))))) else ((f_X10_takesSign M).bind fun q19 => j_ck M q19.2 (z_b q19.1 (some (q19.1, q19.2)))))
set_option maxHeartbeats 4000000 in
theorem c_X10_takesItem {l : Launch} {G : j_G} {M : j_M}  (hs : sh_m M.2.2) {r : (Int32 × j_M)} (h : f_X10_takesItem M  = some r) : j_Sp l G md_X10_takesItem 7 (0, 0) [.ref 35] M (po (some (.int r.1)) r.2) := by
  refine j_Sp.of (by decide) (Nat.le_of_ble_eq_true rfl) ?_
  show JT_X10_takesItem l G r 0 [(0, .ref 35)] [] M
  unfold f_X10_takesItem at h
  refine J_aload_n (pc' := 1) (i := 0) (n := 0) dX10_takesItem_0 rfl rfl rfl ?_
  refine J_iconst (pc' := 2) (v := (4 : Int32)) dX10_takesItem_1 rfl ic_4 ?_
  refine J_bipush (pc' := 4) (v := (115 : Int32)) dX10_takesItem_2 rfl bp_115 ?_
  refine J_bipush (pc' := 6) (v := (105 : Int32)) dX10_takesItem_4 rfl bp_105 ?_
  refine J_bipush (pc' := 8) (v := (103 : Int32)) dX10_takesItem_6 rfl bp_103 ?_
  refine J_bipush (pc' := 10) (v := (110 : Int32)) dX10_takesItem_8 rfl bp_110 ?_
  obtain ⟨v1, e2, h⟩ := bi_inv h
  refine J_callV (pc' := 13) (as := [.int (4 : Int32), .int (115 : Int32), .int (105 : Int32), .int (103 : Int32), .int (110 : Int32)]) (rest := []) dX10_takesItem_10 rfl lk_X10_268 rfl 10 (by decide) rfl (m_o hs) (m_n hs (Nat.le_of_ble_eq_true rfl)) (c_X10_spells hs e2) ⟨Nat.le_of_ble_eq_true rfl, Nat.le_of_ble_eq_true rfl⟩ (Nat.le_of_ble_eq_true rfl) ⟨Nat.le_of_ble_eq_true rfl, Nat.le_of_ble_eq_true rfl⟩ (j_kq ?_)
  refine J_if_eq (pc' := 16) (tgt := 21) dX10_takesItem_13 rfl (by decide) (fun c3 => ?_) (fun c3 => ?_)
  · replace h := j_ip c3 h
    refine J_aload_n (pc' := 22) (i := 0) (n := 0) dX10_takesItem_21 rfl rfl rfl ?_
    refine J_iconst (pc' := 23) (v := (4 : Int32)) dX10_takesItem_22 rfl ic_4 ?_
    refine J_bipush (pc' := 25) (v := (115 : Int32)) dX10_takesItem_23 rfl bp_115 ?_
    refine J_bipush (pc' := 27) (v := (104 : Int32)) dX10_takesItem_25 rfl bp_104 ?_
    refine J_bipush (pc' := 29) (v := (117 : Int32)) dX10_takesItem_27 rfl bp_117 ?_
    refine J_bipush (pc' := 31) (v := (116 : Int32)) dX10_takesItem_29 rfl bp_116 ?_
    obtain ⟨v4, e5, h⟩ := bi_inv h
    refine J_callV (pc' := 34) (as := [.int (4 : Int32), .int (115 : Int32), .int (104 : Int32), .int (117 : Int32), .int (116 : Int32)]) (rest := []) dX10_takesItem_31 rfl lk_X10_268 rfl 10 (by decide) rfl (m_o hs) (m_n hs (Nat.le_of_ble_eq_true rfl)) (c_X10_spells hs e5) ⟨Nat.le_of_ble_eq_true rfl, Nat.le_of_ble_eq_true rfl⟩ (Nat.le_of_ble_eq_true rfl) ⟨Nat.le_of_ble_eq_true rfl, Nat.le_of_ble_eq_true rfl⟩ (j_kq ?_)
    refine J_if_eq (pc' := 37) (tgt := 42) dX10_takesItem_34 rfl (by decide) (fun c6 => ?_) (fun c6 => ?_)
    · replace h := j_ip c6 h
      refine J_aload_n (pc' := 43) (i := 0) (n := 0) dX10_takesItem_42 rfl rfl rfl ?_
      refine J_iconst (pc' := 44) (v := (3 : Int32)) dX10_takesItem_43 rfl ic_3 ?_
      refine J_bipush (pc' := 46) (v := (111 : Int32)) dX10_takesItem_44 rfl bp_111 ?_
      refine J_bipush (pc' := 48) (v := (110 : Int32)) dX10_takesItem_46 rfl bp_110 ?_
      refine J_bipush (pc' := 50) (v := (101 : Int32)) dX10_takesItem_48 rfl bp_101 ?_
      refine J_iconst (pc' := 51) (v := (0 : Int32)) dX10_takesItem_50 rfl ic_0 ?_
      obtain ⟨v7, e8, h⟩ := bi_inv h
      refine J_callV (pc' := 54) (as := [.int (3 : Int32), .int (111 : Int32), .int (110 : Int32), .int (101 : Int32), .int (0 : Int32)]) (rest := []) dX10_takesItem_51 rfl lk_X10_268 rfl 10 (by decide) rfl (m_o hs) (m_n hs (Nat.le_of_ble_eq_true rfl)) (c_X10_spells hs e8) ⟨Nat.le_of_ble_eq_true rfl, Nat.le_of_ble_eq_true rfl⟩ (Nat.le_of_ble_eq_true rfl) ⟨Nat.le_of_ble_eq_true rfl, Nat.le_of_ble_eq_true rfl⟩ (j_kq ?_)
      refine J_if_eq (pc' := 57) (tgt := 68) dX10_takesItem_54 rfl (by decide) (fun c9 => ?_) (fun c9 => ?_)
      · replace h := j_ip c9 h
        refine J_iconst (pc' := 69) (v := (0 : Int32)) dX10_takesItem_68 rfl ic_0 ?_
        exact J_zret (ty := .boolean) rfl rfl dX10_takesItem_69 ⟨rfl, Nat.le_refl _⟩ (j_pW h)
      · replace h := j_iq c9 h
        refine J_aload_n (pc' := 58) (i := 0) (n := 0) dX10_takesItem_57 rfl rfl rfl ?_
        obtain ⟨q10, e11, h⟩ := bi_inv h
        obtain ⟨c12, h⟩ := j_ck_inv h
        refine J_callV (pc' := 61) (as := []) (rest := []) dX10_takesItem_58 rfl lk_X10_279 rfl 10 (by decide) rfl (m_o hs) (m_n hs (Nat.le_of_ble_eq_true rfl)) (c_X10_takesOne hs e11) ⟨Nat.le_of_ble_eq_true rfl, Nat.le_of_ble_eq_true rfl⟩ (Nat.le_of_ble_eq_true rfl) ⟨Nat.le_of_ble_eq_true rfl, Nat.le_of_ble_eq_true rfl⟩ (j_kq ?_)
        have g13 : sh_m q10.2.2.2 := j_shE c12 hs
        refine J_if_eq (pc' := 64) (tgt := 68) dX10_takesItem_61 rfl (by decide) (fun c14 => ?_) (fun c14 => ?_)
        · replace h := j_ip c14 h
          refine J_iconst (pc' := 69) (v := (0 : Int32)) dX10_takesItem_68 rfl ic_0 ?_
          exact J_zret (ty := .boolean) rfl rfl dX10_takesItem_69 ⟨rfl, Nat.le_refl _⟩ (j_pW h)
        · replace h := j_iq c14 h
          refine J_iconst (pc' := 65) (v := (1 : Int32)) dX10_takesItem_64 rfl ic_1 ?_
          refine J_goto (pc' := 69) dX10_takesItem_65 (by decide) ?_
          exact J_zret (ty := .boolean) rfl rfl dX10_takesItem_69 ⟨rfl, Nat.le_refl _⟩ (j_pW h)
    · replace h := j_iq c6 h
      refine J_aload_n (pc' := 38) (i := 0) (n := 0) dX10_takesItem_37 rfl rfl rfl ?_
      obtain ⟨q15, e16, h⟩ := bi_inv h
      obtain ⟨c17, h⟩ := j_ck_inv h
      refine J_callV (pc' := 41) (as := []) (rest := []) dX10_takesItem_38 rfl lk_X10_276 rfl 10 (by decide) rfl (m_o hs) (m_n hs (Nat.le_of_ble_eq_true rfl)) (c_X10_takesShut hs e16) ⟨Nat.le_of_ble_eq_true rfl, Nat.le_of_ble_eq_true rfl⟩ (Nat.le_of_ble_eq_true rfl) ⟨Nat.le_of_ble_eq_true rfl, Nat.le_of_ble_eq_true rfl⟩ (j_kq ?_)
      have g18 : sh_m q15.2.2.2 := j_shE c17 hs
      obtain ⟨hz, h⟩ := z_b_inv h
      exact J_zret (ty := .boolean) rfl (j_zb hz) dX10_takesItem_41 ⟨rfl, Nat.le_refl _⟩ (j_pW h)
  · replace h := j_iq c3 h
    refine J_aload_n (pc' := 17) (i := 0) (n := 0) dX10_takesItem_16 rfl rfl rfl ?_
    obtain ⟨q19, e20, h⟩ := bi_inv h
    obtain ⟨c21, h⟩ := j_ck_inv h
    refine J_callV (pc' := 20) (as := []) (rest := []) dX10_takesItem_17 rfl lk_X10_272 rfl 10 (by decide) rfl (m_o hs) (m_n hs (Nat.le_of_ble_eq_true rfl)) (c_X10_takesSign hs e20) ⟨Nat.le_of_ble_eq_true rfl, Nat.le_of_ble_eq_true rfl⟩ (Nat.le_of_ble_eq_true rfl) ⟨Nat.le_of_ble_eq_true rfl, Nat.le_of_ble_eq_true rfl⟩ (j_kq ?_)
    have g22 : sh_m q19.2.2.2 := j_shE c21 hs
    obtain ⟨hz, h⟩ := z_b_inv h
    exact J_zret (ty := .boolean) rfl (j_zb hz) dX10_takesItem_20 ⟨rfl, Nat.le_refl _⟩ (j_pW h)
abbrev JT_X10_read (l : Launch) (G : j_G) (r : (Int32 × j_M)) : Nat → List (Nat × Value) → List Value → j_M → Prop := JJ l G md_X10_read (j_rm 8 (0, 0)) (0, 0) (0, 0) (po (some (.int r.1)) r.2)
noncomputable def f_X10_read_L62 : Nat → j_M → Int32 → (Int32 → j_M → Option (Int32 × j_M)) → Option (Int32 × j_M)
  | 0, _, _, _ => none
  | n + 1, M, x1, K =>
    if (j_I M 35 22) = 0 then (K x1 M) else ((f_X10_takesItem M).bind fun q22 => j_ck M q22.2 (if q22.1 = 0 then (some ((((-10) : Int32) - (j_I q22.2 35 20)), q22.2)) else (if (j_I q22.2 35 22) = (3 : Int32) then ((f_X10_goBehind q22.2).bind fun q28 => j_ck q22.2 q28 (f_X10_read_L62 n  q28 (x1 + (1 : Int32)) K)) else (some ((((-10) : Int32) - (j_I q22.2 35 20)), q22.2)))))
noncomputable def f_X10_read_L104 : Nat → j_M → Int32 → Int32 → (Int32 → j_M → Option (Int32 × j_M)) → Option (Int32 × j_M)
  | 0, _, _, _, _ => none
  | n + 1, M, x1, x2, K =>
    if (74 : Int32) ≤ x2 then (K x2 M) else (a_i M 49 74 x2 fun v36 => (w_i M 36 250 x2 v36 fun M38 => (f_X10_read_L104 n  M38 x1 (x2 + (1 : Int32)) K)))
noncomputable def f_X10_read (M : j_M)  : Option (Int32 × j_M) :=
  (f_X10_lookAt M (0 : Int32)).bind fun q1 => j_ck M q1 ((f_X10_spells q1 (4 : Int32) (98 : Int32) (97 : Int32) (116 : Int32) (104 : Int32)).bind fun v5 => (if v5 = 0 then (some ((((-10) : Int32) - (j_I q1 35 20)), q1)) else ((f_X10_goBehind q1).bind fun q8 => j_ck q1 q8 (if (j_I q8 35 22) = (3 : Int32) then ((f_X10_goBehind q8).bind fun q13 => j_ck q8 q13 ((f_X10_begin q13 49 74).bind fun q17 => j_ck q13 q17 (f_X10_read_L62 j_fu  q17 (1 : Int32) (fun (y32 : Int32) (M33 : j_M) => (f_X10_read_L104 j_fu  M33 y32 (0 : Int32) (fun (y41 : Int32) (M42 : j_M) => (some (y32, M42)))))))) else (some ((((-10) : Int32) - (j_I q8 35 20)), q8))))))
set_option maxHeartbeats 4000000 in
theorem L_X10_read_L62 {l : Launch} {G : j_G}  {r : (Int32 × j_M)} : ∀ (n : Nat) {x1 : Int32} {M : j_M} (hs : sh_m M.2.2) {K : Int32 → j_M → Option (Int32 × j_M)}, f_X10_read_L62 n  M x1 K = some r → (∀ (y1 : Int32) (M1 : j_M), sh_m M1.2.2 → K y1 M1 = some r → JT_X10_read l G r 102 [(0, .ref 35), (1, .int y1)] [] M1) → JT_X10_read l G r 62 [(0, .ref 35), (1, .int x1)] [] M := by
  intro n
  induction n with
  | zero =>
    intro x1 M hs K h hK
    rw [f_X10_read_L62] at h; cases h
  | succ n ih =>
    intro x1 M hs K h hK
    rw [f_X10_read_L62] at h
    refine J_aload_n (pc' := 63) (i := 0) (n := 0) dX10_read_62 rfl rfl rfl ?_
    refine J_getI (pc' := 66) dX10_read_63 rfl fl_X10_247 rfl (m_o hs) (m_n hs (Nat.le_of_ble_eq_true rfl)) ?_
    refine J_if_eq (pc' := 69) (tgt := 102) dX10_read_66 rfl (by decide) (fun c21 => ?_) (fun c21 => ?_)
    · replace h := j_ip c21 h
      exact hK x1 M hs h
    · replace h := j_iq c21 h
      refine J_aload_n (pc' := 70) (i := 0) (n := 0) dX10_read_69 rfl rfl rfl ?_
      obtain ⟨q22, e23, h⟩ := bi_inv h
      obtain ⟨c24, h⟩ := j_ck_inv h
      refine J_callV (pc' := 73) (as := []) (rest := []) dX10_read_70 rfl lk_X10_282 rfl 10 (by decide) rfl (m_o hs) (m_n hs (Nat.le_of_ble_eq_true rfl)) (c_X10_takesItem hs e23) ⟨Nat.le_of_ble_eq_true rfl, Nat.le_of_ble_eq_true rfl⟩ (Nat.le_of_ble_eq_true rfl) ⟨Nat.le_of_ble_eq_true rfl, Nat.le_of_ble_eq_true rfl⟩ (j_kq ?_)
      have g25 : sh_m q22.2.2.2 := j_shE c24 hs
      refine J_if_eq (pc' := 76) (tgt := 84) dX10_read_73 rfl (by decide) (fun c26 => ?_) (fun c26 => ?_)
      · replace h := j_ip c26 h
        refine J_bipush (pc' := 86) (v := ((-10) : Int32)) dX10_read_84 rfl bp_m10 ?_
        refine J_aload_n (pc' := 87) (i := 0) (n := 0) dX10_read_86 rfl rfl rfl ?_
        refine J_getI (pc' := 90) dX10_read_87 rfl fl_X10_241 rfl (m_o g25) (m_n g25 (Nat.le_of_ble_eq_true rfl)) ?_
        refine J_isub (pc' := 91) dX10_read_90 rfl ?_
        exact J_iret rfl dX10_read_91 ⟨rfl, Nat.le_refl _⟩ (j_pW h)
      · replace h := j_iq c26 h
        refine J_aload_n (pc' := 77) (i := 0) (n := 0) dX10_read_76 rfl rfl rfl ?_
        refine J_getI (pc' := 80) dX10_read_77 rfl fl_X10_247 rfl (m_o g25) (m_n g25 (Nat.le_of_ble_eq_true rfl)) ?_
        refine J_iconst (pc' := 81) (v := (3 : Int32)) dX10_read_80 rfl ic_3 ?_
        refine J_icmp_eq (pc' := 84) (tgt := 92) dX10_read_81 rfl (by decide) (fun c27 => ?_) (fun c27 => ?_)
        · replace h := j_ip c27 h
          refine J_aload_n (pc' := 93) (i := 0) (n := 0) dX10_read_92 rfl rfl rfl ?_
          obtain ⟨q28, e29, h⟩ := bi_inv h
          obtain ⟨c30, h⟩ := j_ck_inv h
          refine J_callV (pc' := 96) (as := []) (rest := []) dX10_read_93 rfl lk_X10_262 rfl 10 (by decide) rfl (m_o g25) (m_n g25 (Nat.le_of_ble_eq_true rfl)) (c_X10_goBehind g25 e29) ⟨Nat.le_of_ble_eq_true rfl, Nat.le_of_ble_eq_true rfl⟩ (Nat.le_of_ble_eq_true rfl) ⟨Nat.le_of_ble_eq_true rfl, Nat.le_of_ble_eq_true rfl⟩ (j_kv ?_)
          have g31 : sh_m q28.2.2 := j_shE c30 g25
          refine J_iinc (pc' := 99) (i := 1) (n := 1) (v := (x1 + (1 : Int32))) (lv' := [(1, .int (x1 + (1 : Int32))), (0, .ref 35)]) dX10_read_96 rfl rfl (j_inc _ _ rfl _) (by decide) rfl ?_
          refine J_goto (pc' := 62) dX10_read_99 (by decide) ?_
          refine J_sub [1, 0] (lv' := [(0, .ref 35), (1, .int (x1 + (1 : Int32)))]) rfl ?_
          exact ih g31 h hK
        · replace h := j_iq c27 h
          refine J_bipush (pc' := 86) (v := ((-10) : Int32)) dX10_read_84 rfl bp_m10 ?_
          refine J_aload_n (pc' := 87) (i := 0) (n := 0) dX10_read_86 rfl rfl rfl ?_
          refine J_getI (pc' := 90) dX10_read_87 rfl fl_X10_241 rfl (m_o g25) (m_n g25 (Nat.le_of_ble_eq_true rfl)) ?_
          refine J_isub (pc' := 91) dX10_read_90 rfl ?_
          exact J_iret rfl dX10_read_91 ⟨rfl, Nat.le_refl _⟩ (j_pW h)
set_option maxHeartbeats 4000000 in
theorem L_X10_read_L104 {l : Launch} {G : j_G}  {r : (Int32 × j_M)} : ∀ (n : Nat) {x1 : Int32} {x2 : Int32} {M : j_M} (hs : sh_m M.2.2) {K : Int32 → j_M → Option (Int32 × j_M)}, f_X10_read_L104 n  M x1 x2 K = some r → (∀ (y2 : Int32) (M1 : j_M), sh_m M1.2.2 → K y2 M1 = some r → JT_X10_read l G r 128 [(1, .int x1)] [] M1) → JT_X10_read l G r 104 [(0, .ref 35), (1, .int x1), (2, .int x2)] [] M := by
  intro n
  induction n with
  | zero =>
    intro x1 x2 M hs K h hK
    rw [f_X10_read_L104] at h; cases h
  | succ n ih =>
    intro x1 x2 M hs K h hK
    rw [f_X10_read_L104] at h
    refine J_iload_n (pc' := 105) (i := 2) (n := 2) dX10_read_104 rfl rfl rfl ?_
    refine J_bipush (pc' := 107) (v := (74 : Int32)) dX10_read_105 rfl bp_74 ?_
    refine J_icmp_ge (pc' := 110) (tgt := 128) dX10_read_107 rfl (by decide) (fun c35 => ?_) (fun c35 => ?_)
    · replace h := j_ip c35 h
      refine J_sub [1] (lv' := [(1, .int x1)]) rfl ?_
      exact hK x2 M hs h
    · replace h := j_iq c35 h
      refine J_aload_n (pc' := 111) (i := 0) (n := 0) dX10_read_110 rfl rfl rfl ?_
      refine J_getR (pc' := 114) (b := 36) dX10_read_111 rfl fl_X10_7 rfl (m_o hs) (m_n hs (Nat.le_of_ble_eq_true rfl)) (m_r0 hs) ?_
      refine J_iload_n (pc' := 115) (i := 2) (n := 2) dX10_read_114 rfl rfl rfl ?_
      refine J_aload_n (pc' := 116) (i := 0) (n := 0) dX10_read_115 rfl rfl rfl ?_
      refine J_getR (pc' := 119) (b := 49) dX10_read_116 rfl fl_X10_54 rfl (m_o hs) (m_n hs (Nat.le_of_ble_eq_true rfl)) (m_r24 hs) ?_
      refine J_iload_n (pc' := 120) (i := 2) (n := 2) dX10_read_119 rfl rfl rfl ?_
      obtain ⟨v36, e37, h⟩ := a_i_inv h
      refine J_ialde (pc' := 121) dX10_read_120 rfl (m_s49 hs) (m_n hs (Nat.le_of_ble_eq_true rfl)) e37 ?_
      obtain ⟨M38, e39, h⟩ := w_i_inv h
      have g40 : sh_m M38.2.2 := j_shI e39.2 hs
      refine J_iaste (pc' := 122) dX10_read_121 rfl (m_s36 hs) (m_n hs (Nat.le_of_ble_eq_true rfl)) e39 ?_
      refine J_iinc (pc' := 125) (i := 2) (n := 2) (v := (x2 + (1 : Int32))) (lv' := [(2, .int (x2 + (1 : Int32))), (0, .ref 35), (1, .int x1)]) dX10_read_122 rfl rfl (j_inc _ _ rfl _) (by decide) rfl ?_
      refine J_goto (pc' := 104) dX10_read_125 (by decide) ?_
      refine J_sub [1, 2, 0] (lv' := [(0, .ref 35), (1, .int x1), (2, .int (x2 + (1 : Int32)))]) rfl ?_
      exact ih g40 h hK
set_option maxHeartbeats 4000000 in
theorem c_X10_read {l : Launch} {G : j_G} {M : j_M}  (hs : sh_m M.2.2) {r : (Int32 × j_M)} (h : f_X10_read M  = some r) : j_Sp l G md_X10_read 8 (0, 0) [.ref 35] M (po (some (.int r.1)) r.2) := by
  refine j_Sp.of (by decide) (Nat.le_of_ble_eq_true rfl) ?_
  show JT_X10_read l G r 0 [(0, .ref 35)] [] M
  unfold f_X10_read at h
  refine J_aload_n (pc' := 1) (i := 0) (n := 0) dX10_read_0 rfl rfl rfl ?_
  refine J_iconst (pc' := 2) (v := (0 : Int32)) dX10_read_1 rfl ic_0 ?_
  obtain ⟨q1, e2, h⟩ := bi_inv h
  obtain ⟨c3, h⟩ := j_ck_inv h
  refine J_callV (pc' := 5) (as := [.int (0 : Int32)]) (rest := []) dX10_read_2 rfl lk_X10_259 rfl 10 (by decide) rfl (m_o hs) (m_n hs (Nat.le_of_ble_eq_true rfl)) (c_X10_lookAt hs e2) ⟨Nat.le_of_ble_eq_true rfl, Nat.le_of_ble_eq_true rfl⟩ (Nat.le_of_ble_eq_true rfl) ⟨Nat.le_of_ble_eq_true rfl, Nat.le_of_ble_eq_true rfl⟩ (j_kv ?_)
  have g4 : sh_m q1.2.2 := j_shE c3 hs
  refine J_aload_n (pc' := 6) (i := 0) (n := 0) dX10_read_5 rfl rfl rfl ?_
  refine J_iconst (pc' := 7) (v := (4 : Int32)) dX10_read_6 rfl ic_4 ?_
  refine J_bipush (pc' := 9) (v := (98 : Int32)) dX10_read_7 rfl bp_98 ?_
  refine J_bipush (pc' := 11) (v := (97 : Int32)) dX10_read_9 rfl bp_97 ?_
  refine J_bipush (pc' := 13) (v := (116 : Int32)) dX10_read_11 rfl bp_116 ?_
  refine J_bipush (pc' := 15) (v := (104 : Int32)) dX10_read_13 rfl bp_104 ?_
  obtain ⟨v5, e6, h⟩ := bi_inv h
  refine J_callV (pc' := 18) (as := [.int (4 : Int32), .int (98 : Int32), .int (97 : Int32), .int (116 : Int32), .int (104 : Int32)]) (rest := []) dX10_read_15 rfl lk_X10_268 rfl 10 (by decide) rfl (m_o g4) (m_n g4 (Nat.le_of_ble_eq_true rfl)) (c_X10_spells g4 e6) ⟨Nat.le_of_ble_eq_true rfl, Nat.le_of_ble_eq_true rfl⟩ (Nat.le_of_ble_eq_true rfl) ⟨Nat.le_of_ble_eq_true rfl, Nat.le_of_ble_eq_true rfl⟩ (j_kq ?_)
  refine J_if_ne (pc' := 21) (tgt := 29) dX10_read_18 rfl (by decide) (fun c7 => ?_) (fun c7 => ?_)
  · replace h := j_iq c7 h
    refine J_aload_n (pc' := 30) (i := 0) (n := 0) dX10_read_29 rfl rfl rfl ?_
    obtain ⟨q8, e9, h⟩ := bi_inv h
    obtain ⟨c10, h⟩ := j_ck_inv h
    refine J_callV (pc' := 33) (as := []) (rest := []) dX10_read_30 rfl lk_X10_262 rfl 10 (by decide) rfl (m_o g4) (m_n g4 (Nat.le_of_ble_eq_true rfl)) (c_X10_goBehind g4 e9) ⟨Nat.le_of_ble_eq_true rfl, Nat.le_of_ble_eq_true rfl⟩ (Nat.le_of_ble_eq_true rfl) ⟨Nat.le_of_ble_eq_true rfl, Nat.le_of_ble_eq_true rfl⟩ (j_kv ?_)
    have g11 : sh_m q8.2.2 := j_shE c10 g4
    refine J_aload_n (pc' := 34) (i := 0) (n := 0) dX10_read_33 rfl rfl rfl ?_
    refine J_getI (pc' := 37) dX10_read_34 rfl fl_X10_247 rfl (m_o g11) (m_n g11 (Nat.le_of_ble_eq_true rfl)) ?_
    refine J_iconst (pc' := 38) (v := (3 : Int32)) dX10_read_37 rfl ic_3 ?_
    refine J_icmp_eq (pc' := 41) (tgt := 49) dX10_read_38 rfl (by decide) (fun c12 => ?_) (fun c12 => ?_)
    · replace h := j_ip c12 h
      refine J_aload_n (pc' := 50) (i := 0) (n := 0) dX10_read_49 rfl rfl rfl ?_
      obtain ⟨q13, e14, h⟩ := bi_inv h
      obtain ⟨c15, h⟩ := j_ck_inv h
      refine J_callV (pc' := 53) (as := []) (rest := []) dX10_read_50 rfl lk_X10_262 rfl 10 (by decide) rfl (m_o g11) (m_n g11 (Nat.le_of_ble_eq_true rfl)) (c_X10_goBehind g11 e14) ⟨Nat.le_of_ble_eq_true rfl, Nat.le_of_ble_eq_true rfl⟩ (Nat.le_of_ble_eq_true rfl) ⟨Nat.le_of_ble_eq_true rfl, Nat.le_of_ble_eq_true rfl⟩ (j_kv ?_)
      have g16 : sh_m q13.2.2 := j_shE c15 g11
      refine J_aload_n (pc' := 54) (i := 0) (n := 0) dX10_read_53 rfl rfl rfl ?_
      refine J_getR (pc' := 57) (b := 49) dX10_read_54 rfl fl_X10_54 rfl (m_o g16) (m_n g16 (Nat.le_of_ble_eq_true rfl)) (m_r24 g16) ?_
      obtain ⟨q17, e18, h⟩ := bi_inv h
      obtain ⟨c19, h⟩ := j_ck_inv h
      refine J_callS (pc' := 60) (as := [.ref 49]) (rest := []) dX10_read_57 rfl lk_X10_60 rfl (c_X10_begin ⟨(m_s49 g16), (m_n g16 (Nat.le_of_ble_eq_true rfl))⟩ e18) ⟨Nat.le_of_ble_eq_true rfl, Nat.le_of_ble_eq_true rfl⟩ (Nat.le_of_ble_eq_true rfl) ⟨Nat.le_of_ble_eq_true rfl, Nat.le_of_ble_eq_true rfl⟩ (j_kv ?_)
      have g20 : sh_m q17.2.2 := j_shE c19 g16
      refine J_iconst (pc' := 61) (v := (1 : Int32)) dX10_read_60 rfl ic_1 ?_
      refine J_istore_n (pc' := 62) (i := 1) (lv' := [(1, .int (1 : Int32)), (0, .ref 35)]) dX10_read_61 rfl rfl (by decide) rfl ?_
      refine J_sub [1, 0] (lv' := [(0, .ref 35), (1, .int (1 : Int32))]) rfl ?_
      refine L_X10_read_L62 j_fu g20 h (fun y32 M33 g34 h => ?_)
      refine J_iconst (pc' := 103) (v := (0 : Int32)) dX10_read_102 rfl ic_0 ?_
      refine J_istore_n (pc' := 104) (i := 2) (lv' := [(2, .int (0 : Int32)), (0, .ref 35), (1, .int y32)]) dX10_read_103 rfl rfl (by decide) rfl ?_
      refine J_sub [1, 2, 0] (lv' := [(0, .ref 35), (1, .int y32), (2, .int (0 : Int32))]) rfl ?_
      refine L_X10_read_L104 j_fu g34 h (fun y41 M42 g43 h => ?_)
      refine J_iload_n (pc' := 129) (i := 1) (n := 0) dX10_read_128 rfl rfl rfl ?_
      exact J_iret rfl dX10_read_129 ⟨rfl, Nat.le_refl _⟩ (j_pW h)
    · replace h := j_iq c12 h
      refine J_bipush (pc' := 43) (v := ((-10) : Int32)) dX10_read_41 rfl bp_m10 ?_
      refine J_aload_n (pc' := 44) (i := 0) (n := 0) dX10_read_43 rfl rfl rfl ?_
      refine J_getI (pc' := 47) dX10_read_44 rfl fl_X10_241 rfl (m_o g11) (m_n g11 (Nat.le_of_ble_eq_true rfl)) ?_
      refine J_isub (pc' := 48) dX10_read_47 rfl ?_
      exact J_iret rfl dX10_read_48 ⟨rfl, Nat.le_refl _⟩ (j_pW h)
  · replace h := j_ip c7 h
    refine J_bipush (pc' := 23) (v := ((-10) : Int32)) dX10_read_21 rfl bp_m10 ?_
    refine J_aload_n (pc' := 24) (i := 0) (n := 0) dX10_read_23 rfl rfl rfl ?_
    refine J_getI (pc' := 27) dX10_read_24 rfl fl_X10_241 rfl (m_o g4) (m_n g4 (Nat.le_of_ble_eq_true rfl)) ?_
    refine J_isub (pc' := 28) dX10_read_27 rfl ?_
    exact J_iret rfl dX10_read_28 ⟨rfl, Nat.le_refl _⟩ (j_pW h)
abbrev JT_X10_part (l : Launch) (G : j_G) (r : (Int64 × j_M)) : Nat → List (Nat × Value) → List Value → j_M → Prop := JJ l G md_X10_part (j_rm 2 (0, 0)) (0, 0) (0, 0) (po (some (.long r.1)) r.2)
noncomputable def f_X10_part (M : j_M) (x1 : Int32) : Option (Int64 × j_M) :=
  if x1 = 0 then (some ((j_L M 35 4), M)) else (if x1 = (1 : Int32) then (some ((j_L M 35 5), M)) else ((f_X10_bad M ((-2) : Int32)).bind fun q3 => j_ck M q3.2 (some ((q3.1).toInt64, q3.2))))
set_option maxHeartbeats 4000000 in
theorem c_X10_part {l : Launch} {G : j_G} {M : j_M} {x1 : Int32} (hs : sh_m M.2.2) {r : (Int64 × j_M)} (h : f_X10_part M x1 = some r) : j_Sp l G md_X10_part 2 (0, 0) [.ref 35, .int x1] M (po (some (.long r.1)) r.2) := by
  refine j_Sp.of (by decide) (Nat.le_of_ble_eq_true rfl) ?_
  show JT_X10_part l G r 0 [(0, .ref 35), (1, .int x1)] [] M
  unfold f_X10_part at h
  refine J_iload_n (pc' := 1) (i := 1) (n := 1) dX10_part_0 rfl rfl rfl ?_
  refine J_if_ne (pc' := 4) (tgt := 11) dX10_part_1 rfl (by decide) (fun c1 => ?_) (fun c1 => ?_)
  · replace h := j_iq c1 h
    refine J_iload_n (pc' := 12) (i := 1) (n := 1) dX10_part_11 rfl rfl rfl ?_
    refine J_iconst (pc' := 13) (v := (1 : Int32)) dX10_part_12 rfl ic_1 ?_
    refine J_icmp_ne (pc' := 16) (tgt := 23) dX10_part_13 rfl (by decide) (fun c2 => ?_) (fun c2 => ?_)
    · replace h := j_iq c2 h
      refine J_aload_n (pc' := 24) (i := 0) (n := 0) dX10_part_23 rfl rfl rfl ?_
      refine J_bipush (pc' := 26) (v := ((-2) : Int32)) dX10_part_24 rfl bp_m2 ?_
      obtain ⟨q3, e4, h⟩ := bi_inv h
      obtain ⟨c5, h⟩ := j_ck_inv h
      refine J_callV (pc' := 29) (as := [.int ((-2) : Int32)]) (rest := []) dX10_part_26 rfl lk_X10_84 rfl 10 (by decide) rfl (m_o hs) (m_n hs (Nat.le_of_ble_eq_true rfl)) (c_X10_bad hs e4) ⟨Nat.le_of_ble_eq_true rfl, Nat.le_of_ble_eq_true rfl⟩ (Nat.le_of_ble_eq_true rfl) ⟨Nat.le_of_ble_eq_true rfl, Nat.le_of_ble_eq_true rfl⟩ (j_kq ?_)
      have g6 : sh_m q3.2.2.2 := j_shE c5 hs
      refine J_i2l (pc' := 30) dX10_part_29 rfl ?_
      exact J_lret rfl dX10_part_30 ⟨rfl, Nat.le_refl _⟩ (j_pX h)
    · replace h := j_ip c2 h
      refine J_aload_n (pc' := 17) (i := 0) (n := 0) dX10_part_16 rfl rfl rfl ?_
      refine J_getL (pc' := 20) dX10_part_17 rfl fl_X10_23 rfl (m_o hs) (m_n hs (Nat.le_of_ble_eq_true rfl)) ?_
      refine J_goto (pc' := 30) dX10_part_20 (by decide) ?_
      exact J_lret rfl dX10_part_30 ⟨rfl, Nat.le_refl _⟩ (j_pX h)
  · replace h := j_ip c1 h
    refine J_aload_n (pc' := 5) (i := 0) (n := 0) dX10_part_4 rfl rfl rfl ?_
    refine J_getL (pc' := 8) dX10_part_5 rfl fl_X10_201 rfl (m_o hs) (m_n hs (Nat.le_of_ble_eq_true rfl)) ?_
    refine J_goto (pc' := 30) dX10_part_8 (by decide) ?_
    exact J_lret rfl dX10_part_30 ⟨rfl, Nat.le_refl _⟩ (j_pX h)
abbrev JT_X10_image (l : Launch) (G : j_G) (r : (Int32 × j_M)) : Nat → List (Nat × Value) → List Value → j_M → Prop := JJ l G md_X10_image (j_rm 2 (0, 0)) (0, 0) (0, 0) (po (some (.int r.1)) r.2)
noncomputable def f_X10_image_L19 : Nat → j_M → Int32 → Int32 → (Int32 → j_M → Option (Int32 × j_M)) → Option (Int32 × j_M)
  | 0, _, _, _, _ => none
  | n + 1, M, x1, x2, K =>
    if (250 : Int32) ≤ x2 then (K x2 M) else (a_i M 36 250 x2 fun v5 => (w_i M 37 500 (((250 : Int32) * x1) + x2) v5 fun M7 => (f_X10_image_L19 n  M7 x1 (x2 + (1 : Int32)) K)))
noncomputable def f_X10_image (M : j_M) (x1 : Int32) : Option (Int32 × j_M) :=
  tl (f_X10_in (x1).toInt64 (0 : Int64) (1 : Int64)) fun v1 => (if v1 = 0 then ((f_X10_bad M ((-2) : Int32)).bind fun q16 => j_ck M q16.2 (some (q16.1, q16.2))) else (f_X10_image_L19 j_fu  M x1 (0 : Int32) (fun (y10 : Int32) (M11 : j_M) => (w_i M11 38 2 x1 (vp_nar .boolean (1 : Int32)) fun M13 => (some ((1 : Int32), M13))))))
set_option maxHeartbeats 4000000 in
theorem L_X10_image_L19 {l : Launch} {G : j_G}  {r : (Int32 × j_M)} : ∀ (n : Nat) {x1 : Int32} {x2 : Int32} {M : j_M} (hs : sh_m M.2.2) {K : Int32 → j_M → Option (Int32 × j_M)}, f_X10_image_L19 n  M x1 x2 K = some r → (∀ (y2 : Int32) (M1 : j_M), sh_m M1.2.2 → K y2 M1 = some r → JT_X10_image l G r 50 [(0, .ref 35), (1, .int x1)] [] M1) → JT_X10_image l G r 19 [(0, .ref 35), (1, .int x1), (2, .int x2)] [] M := by
  intro n
  induction n with
  | zero =>
    intro x1 x2 M hs K h hK
    rw [f_X10_image_L19] at h; cases h
  | succ n ih =>
    intro x1 x2 M hs K h hK
    rw [f_X10_image_L19] at h
    refine J_iload_n (pc' := 20) (i := 2) (n := 2) dX10_image_19 rfl rfl rfl ?_
    refine J_sipush (pc' := 23) (v := (250 : Int32)) dX10_image_20 rfl sp_250 ?_
    refine J_icmp_ge (pc' := 26) (tgt := 50) dX10_image_23 rfl (by decide) (fun c4 => ?_) (fun c4 => ?_)
    · replace h := j_ip c4 h
      refine J_sub [0, 1] (lv' := [(0, .ref 35), (1, .int x1)]) rfl ?_
      exact hK x2 M hs h
    · replace h := j_iq c4 h
      refine J_aload_n (pc' := 27) (i := 0) (n := 0) dX10_image_26 rfl rfl rfl ?_
      refine J_getR (pc' := 30) (b := 37) dX10_image_27 rfl fl_X10_13 rfl (m_o hs) (m_n hs (Nat.le_of_ble_eq_true rfl)) (m_r1 hs) ?_
      refine J_sipush (pc' := 33) (v := (250 : Int32)) dX10_image_30 rfl sp_250 ?_
      refine J_iload_n (pc' := 34) (i := 1) (n := 1) dX10_image_33 rfl rfl rfl ?_
      refine J_imul (pc' := 35) dX10_image_34 rfl ?_
      refine J_iload_n (pc' := 36) (i := 2) (n := 2) dX10_image_35 rfl rfl rfl ?_
      refine J_iadd (pc' := 37) dX10_image_36 rfl ?_
      refine J_aload_n (pc' := 38) (i := 0) (n := 0) dX10_image_37 rfl rfl rfl ?_
      refine J_getR (pc' := 41) (b := 36) dX10_image_38 rfl fl_X10_7 rfl (m_o hs) (m_n hs (Nat.le_of_ble_eq_true rfl)) (m_r0 hs) ?_
      refine J_iload_n (pc' := 42) (i := 2) (n := 2) dX10_image_41 rfl rfl rfl ?_
      obtain ⟨v5, e6, h⟩ := a_i_inv h
      refine J_ialde (pc' := 43) dX10_image_42 rfl (m_s36 hs) (m_n hs (Nat.le_of_ble_eq_true rfl)) e6 ?_
      obtain ⟨M7, e8, h⟩ := w_i_inv h
      have g9 : sh_m M7.2.2 := j_shI e8.2 hs
      refine J_iaste (pc' := 44) dX10_image_43 rfl (m_s37 hs) (m_n hs (Nat.le_of_ble_eq_true rfl)) e8 ?_
      refine J_iinc (pc' := 47) (i := 2) (n := 2) (v := (x2 + (1 : Int32))) (lv' := [(2, .int (x2 + (1 : Int32))), (0, .ref 35), (1, .int x1)]) dX10_image_44 rfl rfl (j_inc _ _ rfl _) (by decide) rfl ?_
      refine J_goto (pc' := 19) dX10_image_47 (by decide) ?_
      refine J_sub [1, 2, 0] (lv' := [(0, .ref 35), (1, .int x1), (2, .int (x2 + (1 : Int32)))]) rfl ?_
      exact ih g9 h hK
set_option maxHeartbeats 4000000 in
theorem c_X10_image {l : Launch} {G : j_G} {M : j_M} {x1 : Int32} (hs : sh_m M.2.2) {r : (Int32 × j_M)} (h : f_X10_image M x1 = some r) : j_Sp l G md_X10_image 2 (0, 0) [.ref 35, .int x1] M (po (some (.int r.1)) r.2) := by
  refine j_Sp.of (by decide) (Nat.le_of_ble_eq_true rfl) ?_
  show JT_X10_image l G r 0 [(0, .ref 35), (1, .int x1)] [] M
  unfold f_X10_image at h
  refine J_iload_n (pc' := 1) (i := 1) (n := 1) dX10_image_0 rfl rfl rfl ?_
  refine J_i2l (pc' := 2) dX10_image_1 rfl ?_
  refine J_lconst (pc' := 3) (v := (0 : Int64)) dX10_image_2 rfl rfl ?_
  refine J_lconst (pc' := 4) (v := (1 : Int64)) dX10_image_3 rfl rfl ?_
  obtain ⟨v1, e2, h⟩ := tl_inv h
  refine J_callS (pc' := 7) (as := [.long (x1).toInt64, .long (0 : Int64), .long (1 : Int64)]) (rest := []) dX10_image_4 rfl lk_X10_68 rfl (c_X10_in e2) ⟨Nat.le_of_ble_eq_true rfl, Nat.le_of_ble_eq_true rfl⟩ (Nat.le_of_ble_eq_true rfl) ⟨Nat.le_of_ble_eq_true rfl, Nat.le_of_ble_eq_true rfl⟩ (j_kq ?_)
  refine J_if_ne (pc' := 10) (tgt := 17) dX10_image_7 rfl (by decide) (fun c3 => ?_) (fun c3 => ?_)
  · replace h := j_iq c3 h
    refine J_iconst (pc' := 18) (v := (0 : Int32)) dX10_image_17 rfl ic_0 ?_
    refine J_istore_n (pc' := 19) (i := 2) (lv' := [(2, .int (0 : Int32)), (0, .ref 35), (1, .int x1)]) dX10_image_18 rfl rfl (by decide) rfl ?_
    refine J_sub [1, 2, 0] (lv' := [(0, .ref 35), (1, .int x1), (2, .int (0 : Int32))]) rfl ?_
    refine L_X10_image_L19 j_fu hs h (fun y10 M11 g12 h => ?_)
    refine J_aload_n (pc' := 51) (i := 0) (n := 0) dX10_image_50 rfl rfl rfl ?_
    refine J_getR (pc' := 54) (b := 38) dX10_image_51 rfl fl_X10_16 rfl (m_o g12) (m_n g12 (Nat.le_of_ble_eq_true rfl)) (m_r2 g12) ?_
    refine J_iload_n (pc' := 55) (i := 1) (n := 1) dX10_image_54 rfl rfl rfl ?_
    refine J_iconst (pc' := 56) (v := (1 : Int32)) dX10_image_55 rfl ic_1 ?_
    obtain ⟨M13, e14, h⟩ := w_i_inv h
    have g15 : sh_m M13.2.2 := j_shI e14.2 g12
    refine J_zaste (pc' := 57) dX10_image_56 rfl (m_s38 g12) (m_n g12 (Nat.le_of_ble_eq_true rfl)) e14 ?_
    refine J_iconst (pc' := 58) (v := (1 : Int32)) dX10_image_57 rfl ic_1 ?_
    exact J_iret rfl dX10_image_58 ⟨rfl, Nat.le_refl _⟩ (j_pW h)
  · replace h := j_ip c3 h
    refine J_aload_n (pc' := 11) (i := 0) (n := 0) dX10_image_10 rfl rfl rfl ?_
    refine J_bipush (pc' := 13) (v := ((-2) : Int32)) dX10_image_11 rfl bp_m2 ?_
    obtain ⟨q16, e17, h⟩ := bi_inv h
    obtain ⟨c18, h⟩ := j_ck_inv h
    refine J_callV (pc' := 16) (as := [.int ((-2) : Int32)]) (rest := []) dX10_image_13 rfl lk_X10_84 rfl 10 (by decide) rfl (m_o hs) (m_n hs (Nat.le_of_ble_eq_true rfl)) (c_X10_bad hs e17) ⟨Nat.le_of_ble_eq_true rfl, Nat.le_of_ble_eq_true rfl⟩ (Nat.le_of_ble_eq_true rfl) ⟨Nat.le_of_ble_eq_true rfl, Nat.le_of_ble_eq_true rfl⟩ (j_kq ?_)
    have g19 : sh_m q16.2.2.2 := j_shE c18 hs
    exact J_iret rfl dX10_image_16 ⟨rfl, Nat.le_refl _⟩ (j_pW h)
abbrev JT_X10_from (l : Launch) (G : j_G) (r : (Int32 × j_M)) : Nat → List (Nat × Value) → List Value → j_M → Prop := JJ l G md_X10_from (j_rm 2 (0, 0)) (0, 0) (0, 0) (po (some (.int r.1)) r.2)
noncomputable def f_X10_from_L33 : Nat → j_M → Int32 → Int32 → (Int32 → j_M → Option (Int32 × j_M)) → Option (Int32 × j_M)
  | 0, _, _, _, _ => none
  | n + 1, M, x1, x2, K =>
    if (250 : Int32) ≤ x2 then (K x2 M) else (a_i M 37 500 (((250 : Int32) * x1) + x2) fun v8 => (w_i M 36 250 x2 v8 fun M10 => (f_X10_from_L33 n  M10 x1 (x2 + (1 : Int32)) K)))
noncomputable def f_X10_from (M : j_M) (x1 : Int32) : Option (Int32 × j_M) :=
  tl (f_X10_in (x1).toInt64 (0 : Int64) (1 : Int64)) fun v1 => (if v1 = 0 then ((f_X10_bad M ((-2) : Int32)).bind fun q20 => j_ck M q20.2 (some (q20.1, q20.2))) else (a_i M 38 2 x1 fun v4 => (if v4 = 0 then ((f_X10_no M).bind fun q16 => j_ck M q16.2 (some (q16.1, q16.2))) else (f_X10_from_L33 j_fu  M x1 (0 : Int32) (fun (y13 : Int32) (M14 : j_M) => (some ((1 : Int32), M14)))))))
set_option maxHeartbeats 4000000 in
theorem L_X10_from_L33 {l : Launch} {G : j_G}  {r : (Int32 × j_M)} : ∀ (n : Nat) {x1 : Int32} {x2 : Int32} {M : j_M} (hs : sh_m M.2.2) {K : Int32 → j_M → Option (Int32 × j_M)}, f_X10_from_L33 n  M x1 x2 K = some r → (∀ (y2 : Int32) (M1 : j_M), sh_m M1.2.2 → K y2 M1 = some r → JT_X10_from l G r 64 [] [] M1) → JT_X10_from l G r 33 [(0, .ref 35), (1, .int x1), (2, .int x2)] [] M := by
  intro n
  induction n with
  | zero =>
    intro x1 x2 M hs K h hK
    rw [f_X10_from_L33] at h; cases h
  | succ n ih =>
    intro x1 x2 M hs K h hK
    rw [f_X10_from_L33] at h
    refine J_iload_n (pc' := 34) (i := 2) (n := 2) dX10_from_33 rfl rfl rfl ?_
    refine J_sipush (pc' := 37) (v := (250 : Int32)) dX10_from_34 rfl sp_250 ?_
    refine J_icmp_ge (pc' := 40) (tgt := 64) dX10_from_37 rfl (by decide) (fun c7 => ?_) (fun c7 => ?_)
    · replace h := j_ip c7 h
      refine J_sub [] (lv' := []) rfl ?_
      exact hK x2 M hs h
    · replace h := j_iq c7 h
      refine J_aload_n (pc' := 41) (i := 0) (n := 0) dX10_from_40 rfl rfl rfl ?_
      refine J_getR (pc' := 44) (b := 36) dX10_from_41 rfl fl_X10_7 rfl (m_o hs) (m_n hs (Nat.le_of_ble_eq_true rfl)) (m_r0 hs) ?_
      refine J_iload_n (pc' := 45) (i := 2) (n := 2) dX10_from_44 rfl rfl rfl ?_
      refine J_aload_n (pc' := 46) (i := 0) (n := 0) dX10_from_45 rfl rfl rfl ?_
      refine J_getR (pc' := 49) (b := 37) dX10_from_46 rfl fl_X10_13 rfl (m_o hs) (m_n hs (Nat.le_of_ble_eq_true rfl)) (m_r1 hs) ?_
      refine J_sipush (pc' := 52) (v := (250 : Int32)) dX10_from_49 rfl sp_250 ?_
      refine J_iload_n (pc' := 53) (i := 1) (n := 1) dX10_from_52 rfl rfl rfl ?_
      refine J_imul (pc' := 54) dX10_from_53 rfl ?_
      refine J_iload_n (pc' := 55) (i := 2) (n := 2) dX10_from_54 rfl rfl rfl ?_
      refine J_iadd (pc' := 56) dX10_from_55 rfl ?_
      obtain ⟨v8, e9, h⟩ := a_i_inv h
      refine J_ialde (pc' := 57) dX10_from_56 rfl (m_s37 hs) (m_n hs (Nat.le_of_ble_eq_true rfl)) e9 ?_
      obtain ⟨M10, e11, h⟩ := w_i_inv h
      have g12 : sh_m M10.2.2 := j_shI e11.2 hs
      refine J_iaste (pc' := 58) dX10_from_57 rfl (m_s36 hs) (m_n hs (Nat.le_of_ble_eq_true rfl)) e11 ?_
      refine J_iinc (pc' := 61) (i := 2) (n := 2) (v := (x2 + (1 : Int32))) (lv' := [(2, .int (x2 + (1 : Int32))), (0, .ref 35), (1, .int x1)]) dX10_from_58 rfl rfl (j_inc _ _ rfl _) (by decide) rfl ?_
      refine J_goto (pc' := 33) dX10_from_61 (by decide) ?_
      refine J_sub [1, 2, 0] (lv' := [(0, .ref 35), (1, .int x1), (2, .int (x2 + (1 : Int32)))]) rfl ?_
      exact ih g12 h hK
set_option maxHeartbeats 4000000 in
theorem c_X10_from {l : Launch} {G : j_G} {M : j_M} {x1 : Int32} (hs : sh_m M.2.2) {r : (Int32 × j_M)} (h : f_X10_from M x1 = some r) : j_Sp l G md_X10_from 2 (0, 0) [.ref 35, .int x1] M (po (some (.int r.1)) r.2) := by
  refine j_Sp.of (by decide) (Nat.le_of_ble_eq_true rfl) ?_
  show JT_X10_from l G r 0 [(0, .ref 35), (1, .int x1)] [] M
  unfold f_X10_from at h
  refine J_iload_n (pc' := 1) (i := 1) (n := 1) dX10_from_0 rfl rfl rfl ?_
  refine J_i2l (pc' := 2) dX10_from_1 rfl ?_
  refine J_lconst (pc' := 3) (v := (0 : Int64)) dX10_from_2 rfl rfl ?_
  refine J_lconst (pc' := 4) (v := (1 : Int64)) dX10_from_3 rfl rfl ?_
  obtain ⟨v1, e2, h⟩ := tl_inv h
  refine J_callS (pc' := 7) (as := [.long (x1).toInt64, .long (0 : Int64), .long (1 : Int64)]) (rest := []) dX10_from_4 rfl lk_X10_68 rfl (c_X10_in e2) ⟨Nat.le_of_ble_eq_true rfl, Nat.le_of_ble_eq_true rfl⟩ (Nat.le_of_ble_eq_true rfl) ⟨Nat.le_of_ble_eq_true rfl, Nat.le_of_ble_eq_true rfl⟩ (j_kq ?_)
  refine J_if_ne (pc' := 10) (tgt := 17) dX10_from_7 rfl (by decide) (fun c3 => ?_) (fun c3 => ?_)
  · replace h := j_iq c3 h
    refine J_aload_n (pc' := 18) (i := 0) (n := 0) dX10_from_17 rfl rfl rfl ?_
    refine J_getR (pc' := 21) (b := 38) dX10_from_18 rfl fl_X10_16 rfl (m_o hs) (m_n hs (Nat.le_of_ble_eq_true rfl)) (m_r2 hs) ?_
    refine J_iload_n (pc' := 22) (i := 1) (n := 1) dX10_from_21 rfl rfl rfl ?_
    obtain ⟨v4, e5, h⟩ := a_i_inv h
    refine J_zalde (pc' := 23) dX10_from_22 rfl (m_s38 hs) (m_n hs (Nat.le_of_ble_eq_true rfl)) e5 ?_
    refine J_if_ne (pc' := 26) (tgt := 31) dX10_from_23 rfl (by decide) (fun c6 => ?_) (fun c6 => ?_)
    · replace h := j_iq c6 h
      refine J_iconst (pc' := 32) (v := (0 : Int32)) dX10_from_31 rfl ic_0 ?_
      refine J_istore_n (pc' := 33) (i := 2) (lv' := [(2, .int (0 : Int32)), (0, .ref 35), (1, .int x1)]) dX10_from_32 rfl rfl (by decide) rfl ?_
      refine J_sub [1, 2, 0] (lv' := [(0, .ref 35), (1, .int x1), (2, .int (0 : Int32))]) rfl ?_
      refine L_X10_from_L33 j_fu hs h (fun y13 M14 g15 h => ?_)
      refine J_iconst (pc' := 65) (v := (1 : Int32)) dX10_from_64 rfl ic_1 ?_
      exact J_iret rfl dX10_from_65 ⟨rfl, Nat.le_refl _⟩ (j_pW h)
    · replace h := j_ip c6 h
      refine J_aload_n (pc' := 27) (i := 0) (n := 0) dX10_from_26 rfl rfl rfl ?_
      obtain ⟨q16, e17, h⟩ := bi_inv h
      obtain ⟨c18, h⟩ := j_ck_inv h
      refine J_callV (pc' := 30) (as := []) (rest := []) dX10_from_27 rfl lk_X10_92 rfl 10 (by decide) rfl (m_o hs) (m_n hs (Nat.le_of_ble_eq_true rfl)) (c_X10_no hs e17) ⟨Nat.le_of_ble_eq_true rfl, Nat.le_of_ble_eq_true rfl⟩ (Nat.le_of_ble_eq_true rfl) ⟨Nat.le_of_ble_eq_true rfl, Nat.le_of_ble_eq_true rfl⟩ (j_kq ?_)
      have g19 : sh_m q16.2.2.2 := j_shE c18 hs
      exact J_iret rfl dX10_from_30 ⟨rfl, Nat.le_refl _⟩ (j_pW h)
  · replace h := j_ip c3 h
    refine J_aload_n (pc' := 11) (i := 0) (n := 0) dX10_from_10 rfl rfl rfl ?_
    refine J_bipush (pc' := 13) (v := ((-2) : Int32)) dX10_from_11 rfl bp_m2 ?_
    obtain ⟨q20, e21, h⟩ := bi_inv h
    obtain ⟨c22, h⟩ := j_ck_inv h
    refine J_callV (pc' := 16) (as := [.int ((-2) : Int32)]) (rest := []) dX10_from_13 rfl lk_X10_84 rfl 10 (by decide) rfl (m_o hs) (m_n hs (Nat.le_of_ble_eq_true rfl)) (c_X10_bad hs e21) ⟨Nat.le_of_ble_eq_true rfl, Nat.le_of_ble_eq_true rfl⟩ (Nat.le_of_ble_eq_true rfl) ⟨Nat.le_of_ble_eq_true rfl, Nat.le_of_ble_eq_true rfl⟩ (j_kq ?_)
    have g23 : sh_m q20.2.2.2 := j_shE c22 hs
    exact J_iret rfl dX10_from_16 ⟨rfl, Nat.le_refl _⟩ (j_pW h)
abbrev JT_X10_status (l : Launch) (G : j_G) (r : (Int32 × j_M)) : Nat → List (Nat × Value) → List Value → j_M → Prop := JJ l G md_X10_status (j_rm 2 (0, 0)) (0, 0) (0, 0) (po (some (.int r.1)) r.2)
noncomputable def f_X10_status (M : j_M) (x1 : Int32) : Option (Int32 × j_M) :=
  tl (f_X10_in (x1).toInt64 (0 : Int64) (2 : Int64)) fun v1 => (if v1 = 0 then ((f_X10_bad M ((-1) : Int32)).bind fun q4 => j_ck M q4.2 (some (q4.1, q4.2))) else (a_i M 39 3 x1 fun v8 => (some (v8, M))))
set_option maxHeartbeats 4000000 in
theorem c_X10_status {l : Launch} {G : j_G} {M : j_M} {x1 : Int32} (hs : sh_m M.2.2) {r : (Int32 × j_M)} (h : f_X10_status M x1 = some r) : j_Sp l G md_X10_status 2 (0, 0) [.ref 35, .int x1] M (po (some (.int r.1)) r.2) := by
  refine j_Sp.of (by decide) (Nat.le_of_ble_eq_true rfl) ?_
  show JT_X10_status l G r 0 [(0, .ref 35), (1, .int x1)] [] M
  unfold f_X10_status at h
  refine J_iload_n (pc' := 1) (i := 1) (n := 1) dX10_status_0 rfl rfl rfl ?_
  refine J_i2l (pc' := 2) dX10_status_1 rfl ?_
  refine J_lconst (pc' := 3) (v := (0 : Int64)) dX10_status_2 rfl rfl ?_
  refine J_ldc2 (pc' := 6) (v := (2 : Int64)) dX10_status_3 rfl wd_997 ?_
  obtain ⟨v1, e2, h⟩ := tl_inv h
  refine J_callS (pc' := 9) (as := [.long (x1).toInt64, .long (0 : Int64), .long (2 : Int64)]) (rest := []) dX10_status_6 rfl lk_X10_68 rfl (c_X10_in e2) ⟨Nat.le_of_ble_eq_true rfl, Nat.le_of_ble_eq_true rfl⟩ (Nat.le_of_ble_eq_true rfl) ⟨Nat.le_of_ble_eq_true rfl, Nat.le_of_ble_eq_true rfl⟩ (j_kq ?_)
  refine J_if_eq (pc' := 12) (tgt := 21) dX10_status_9 rfl (by decide) (fun c3 => ?_) (fun c3 => ?_)
  · replace h := j_ip c3 h
    refine J_aload_n (pc' := 22) (i := 0) (n := 0) dX10_status_21 rfl rfl rfl ?_
    refine J_iconst (pc' := 23) (v := ((-1) : Int32)) dX10_status_22 rfl ic_m1 ?_
    obtain ⟨q4, e5, h⟩ := bi_inv h
    obtain ⟨c6, h⟩ := j_ck_inv h
    refine J_callV (pc' := 26) (as := [.int ((-1) : Int32)]) (rest := []) dX10_status_23 rfl lk_X10_84 rfl 10 (by decide) rfl (m_o hs) (m_n hs (Nat.le_of_ble_eq_true rfl)) (c_X10_bad hs e5) ⟨Nat.le_of_ble_eq_true rfl, Nat.le_of_ble_eq_true rfl⟩ (Nat.le_of_ble_eq_true rfl) ⟨Nat.le_of_ble_eq_true rfl, Nat.le_of_ble_eq_true rfl⟩ (j_kq ?_)
    have g7 : sh_m q4.2.2.2 := j_shE c6 hs
    exact J_iret rfl dX10_status_26 ⟨rfl, Nat.le_refl _⟩ (j_pW h)
  · replace h := j_iq c3 h
    refine J_aload_n (pc' := 13) (i := 0) (n := 0) dX10_status_12 rfl rfl rfl ?_
    refine J_getR (pc' := 16) (b := 39) dX10_status_13 rfl fl_X10_20 rfl (m_o hs) (m_n hs (Nat.le_of_ble_eq_true rfl)) (m_r3 hs) ?_
    refine J_iload_n (pc' := 17) (i := 1) (n := 1) dX10_status_16 rfl rfl rfl ?_
    obtain ⟨v8, e9, h⟩ := a_i_inv h
    refine J_ialde (pc' := 18) dX10_status_17 rfl (m_s39 hs) (m_n hs (Nat.le_of_ble_eq_true rfl)) e9 ?_
    refine J_goto (pc' := 26) dX10_status_18 (by decide) ?_
    exact J_iret rfl dX10_status_26 ⟨rfl, Nat.le_refl _⟩ (j_pW h)
abbrev JT_X10_allLengths (l : Launch) (G : j_G) (M : j_M) (r : Int32) : Nat → List (Nat × Value) → List Value → j_M → Prop := JJ l G md_X10_allLengths (j_rm 2 (0, 0)) (0, 0) (0, 0) (po (some (.int r)) M)
noncomputable def f_X10_allLengths_L4 : Nat → j_M → Int32 → Int32 → (Int32 → Int32 → Option Int32) → Option Int32
  | 0, _, _, _, _ => none
  | n + 1, M, x1, x2, K =>
    (f_X10_many M).bind fun v1 => (if v1 ≤ x2 then (K x1 x2) else (a_i M 36 250 ((16 : Int32) + x2) fun v4 => (f_X10_allLengths_L4 n  M (x1 + v4) (x2 + (1 : Int32)) K)))
noncomputable def f_X10_allLengths (M : j_M)  : Option Int32 :=
  f_X10_allLengths_L4 j_fu  M (0 : Int32) (0 : Int32) (fun (y6 : Int32) (y7 : Int32) => (some y6))
set_option maxHeartbeats 4000000 in
theorem L_X10_allLengths_L4 {l : Launch} {G : j_G}  {r : Int32} : ∀ (n : Nat) {x1 : Int32} {x2 : Int32} {M : j_M} (hs : sh_m M.2.2) {K : Int32 → Int32 → Option Int32}, f_X10_allLengths_L4 n  M x1 x2 K = some r → (∀ (y1 : Int32) (y2 : Int32), K y1 y2 = some r → JT_X10_allLengths l G M r 30 [(1, .int y1)] [] M) → JT_X10_allLengths l G M r 4 [(0, .ref 35), (1, .int x1), (2, .int x2)] [] M := by
  intro n
  induction n with
  | zero =>
    intro x1 x2 M hs K h hK
    rw [f_X10_allLengths_L4] at h; cases h
  | succ n ih =>
    intro x1 x2 M hs K h hK
    rw [f_X10_allLengths_L4] at h
    refine J_iload_n (pc' := 5) (i := 2) (n := 2) dX10_allLengths_4 rfl rfl rfl ?_
    refine J_aload_n (pc' := 6) (i := 0) (n := 0) dX10_allLengths_5 rfl rfl rfl ?_
    obtain ⟨v1, e2, h⟩ := bi_inv h
    refine J_callV (pc' := 9) (as := []) (rest := [.int x2]) dX10_allLengths_6 rfl lk_X10_64 rfl 10 (by decide) rfl (m_o hs) (m_n hs (Nat.le_of_ble_eq_true rfl)) (c_X10_many hs e2) ⟨Nat.le_of_ble_eq_true rfl, Nat.le_of_ble_eq_true rfl⟩ (Nat.le_of_ble_eq_true rfl) ⟨Nat.le_of_ble_eq_true rfl, Nat.le_of_ble_eq_true rfl⟩ (j_kq ?_)
    refine J_icmp_ge (pc' := 12) (tgt := 30) dX10_allLengths_9 rfl (by decide) (fun c3 => ?_) (fun c3 => ?_)
    · replace h := j_ip c3 h
      refine J_sub [1] (lv' := [(1, .int x1)]) rfl ?_
      exact hK x1 x2  h
    · replace h := j_iq c3 h
      refine J_iload_n (pc' := 13) (i := 1) (n := 1) dX10_allLengths_12 rfl rfl rfl ?_
      refine J_aload_n (pc' := 14) (i := 0) (n := 0) dX10_allLengths_13 rfl rfl rfl ?_
      refine J_getR (pc' := 17) (b := 36) dX10_allLengths_14 rfl fl_X10_7 rfl (m_o hs) (m_n hs (Nat.le_of_ble_eq_true rfl)) (m_r0 hs) ?_
      refine J_bipush (pc' := 19) (v := (16 : Int32)) dX10_allLengths_17 rfl bp_16 ?_
      refine J_iload_n (pc' := 20) (i := 2) (n := 2) dX10_allLengths_19 rfl rfl rfl ?_
      refine J_iadd (pc' := 21) dX10_allLengths_20 rfl ?_
      obtain ⟨v4, e5, h⟩ := a_i_inv h
      refine J_ialde (pc' := 22) dX10_allLengths_21 rfl (m_s36 hs) (m_n hs (Nat.le_of_ble_eq_true rfl)) e5 ?_
      refine J_iadd (pc' := 23) dX10_allLengths_22 rfl ?_
      refine J_istore_n (pc' := 24) (i := 1) (lv' := [(1, .int (x1 + v4)), (0, .ref 35), (2, .int x2)]) dX10_allLengths_23 rfl rfl (by decide) rfl ?_
      refine J_iinc (pc' := 27) (i := 2) (n := 2) (v := (x2 + (1 : Int32))) (lv' := [(2, .int (x2 + (1 : Int32))), (1, .int (x1 + v4)), (0, .ref 35)]) dX10_allLengths_24 rfl rfl (j_inc _ _ rfl _) (by decide) rfl ?_
      refine J_goto (pc' := 4) dX10_allLengths_27 (by decide) ?_
      refine J_sub [2, 1, 0] (lv' := [(0, .ref 35), (1, .int (x1 + v4)), (2, .int (x2 + (1 : Int32)))]) rfl ?_
      exact ih hs h hK
set_option maxHeartbeats 4000000 in
theorem c_X10_allLengths {l : Launch} {G : j_G} {M : j_M}  (hs : sh_m M.2.2) {r : Int32} (h : f_X10_allLengths M  = some r) : j_Sp l G md_X10_allLengths 2 (0, 0) [.ref 35] M (po (some (.int r)) M) := by
  refine j_Sp.of (by decide) (Nat.le_of_ble_eq_true rfl) ?_
  show JT_X10_allLengths l G M r 0 [(0, .ref 35)] [] M
  unfold f_X10_allLengths at h
  refine J_iconst (pc' := 1) (v := (0 : Int32)) dX10_allLengths_0 rfl ic_0 ?_
  refine J_istore_n (pc' := 2) (i := 1) (lv' := [(1, .int (0 : Int32)), (0, .ref 35)]) dX10_allLengths_1 rfl rfl (by decide) rfl ?_
  refine J_iconst (pc' := 3) (v := (0 : Int32)) dX10_allLengths_2 rfl ic_0 ?_
  refine J_istore_n (pc' := 4) (i := 2) (lv' := [(2, .int (0 : Int32)), (1, .int (0 : Int32)), (0, .ref 35)]) dX10_allLengths_3 rfl rfl (by decide) rfl ?_
  refine J_sub [2, 1, 0] (lv' := [(0, .ref 35), (1, .int (0 : Int32)), (2, .int (0 : Int32))]) rfl ?_
  refine L_X10_allLengths_L4 j_fu hs h (fun y6 y7 h => ?_)
  refine J_iload_n (pc' := 31) (i := 1) (n := 0) dX10_allLengths_30 rfl rfl rfl ?_
  exact J_iret rfl dX10_allLengths_31 ⟨rfl, Nat.le_refl _⟩ (j_pIs h)
abbrev JT_X10_counted (l : Launch) (G : j_G) (M : j_M) (r : Int32) : Nat → List (Nat × Value) → List Value → j_M → Prop := JJ l G md_X10_counted (j_rm 3 (0, 0)) (0, 0) (0, 0) (po (some (.int r)) M)
noncomputable def f_X10_counted (M : j_M) (x1 : Int32) : Option Int32 :=
  if x1 = (0 : Int32) then ((f_X10_many M).bind fun v2 => (some v2)) else (if x1 = (1 : Int32) then (a_i M 36 250 (1 : Int32) fun v5 => (some v5)) else (if x1 = (2 : Int32) then (a_i M 36 250 (8 : Int32) fun v8 => ((f_X10_bits v8).bind fun v10 => (some ((4 : Int32) - v10)))) else (if x1 = (3 : Int32) then ((f_X10_allLengths M).bind fun v13 => (some v13)) else (if x1 = (4 : Int32) then (a_i M 36 250 (2 : Int32) fun v16 => (some v16)) else (if x1 = (5 : Int32) then (a_i M 36 250 (3 : Int32) fun v19 => (some v19)) else (some (j_I M 35 19)))))))
set_option maxHeartbeats 4000000 in
theorem c_X10_counted {l : Launch} {G : j_G} {M : j_M} {x1 : Int32} (hs : sh_m M.2.2) {r : Int32} (h : f_X10_counted M x1 = some r) : j_Sp l G md_X10_counted 3 (0, 0) [.ref 35, .int x1] M (po (some (.int r)) M) := by
  refine j_Sp.of (by decide) (Nat.le_of_ble_eq_true rfl) ?_
  show JT_X10_counted l G M r 0 [(0, .ref 35), (1, .int x1)] [] M
  unfold f_X10_counted at h
  refine J_iload_n (pc' := 1) (i := 1) (n := 1) dX10_counted_0 rfl rfl rfl ?_
  by_cases c1 : x1 = (0 : Int32)
  · replace h := j_ip c1 h
    refine J_tin (tgt := 40) dX10_counted_1 (0 : Int32) c1 ⟨by decide, by decide, rfl, by decide⟩ ?_
    refine J_aload_n (pc' := 41) (i := 0) (n := 0) dX10_counted_40 rfl rfl rfl ?_
    obtain ⟨v2, e3, h⟩ := bi_inv h
    refine J_callV (pc' := 44) (as := []) (rest := []) dX10_counted_41 rfl lk_X10_64 rfl 10 (by decide) rfl (m_o hs) (m_n hs (Nat.le_of_ble_eq_true rfl)) (c_X10_many hs e3) ⟨Nat.le_of_ble_eq_true rfl, Nat.le_of_ble_eq_true rfl⟩ (Nat.le_of_ble_eq_true rfl) ⟨Nat.le_of_ble_eq_true rfl, Nat.le_of_ble_eq_true rfl⟩ (j_kq ?_)
    exact J_iret rfl dX10_counted_44 ⟨rfl, Nat.le_refl _⟩ (j_pIs h)
  replace h := j_iq c1 h
  by_cases c4 : x1 = (1 : Int32)
  · replace h := j_ip c4 h
    refine J_tin (tgt := 45) dX10_counted_1 (1 : Int32) c4 ⟨by decide, by decide, rfl, by decide⟩ ?_
    refine J_aload_n (pc' := 46) (i := 0) (n := 0) dX10_counted_45 rfl rfl rfl ?_
    refine J_getR (pc' := 49) (b := 36) dX10_counted_46 rfl fl_X10_7 rfl (m_o hs) (m_n hs (Nat.le_of_ble_eq_true rfl)) (m_r0 hs) ?_
    refine J_iconst (pc' := 50) (v := (1 : Int32)) dX10_counted_49 rfl ic_1 ?_
    obtain ⟨v5, e6, h⟩ := a_i_inv h
    refine J_ialde (pc' := 51) dX10_counted_50 rfl (m_s36 hs) (m_n hs (Nat.le_of_ble_eq_true rfl)) e6 ?_
    exact J_iret rfl dX10_counted_51 ⟨rfl, Nat.le_refl _⟩ (j_pIs h)
  replace h := j_iq c4 h
  by_cases c7 : x1 = (2 : Int32)
  · replace h := j_ip c7 h
    refine J_tin (tgt := 52) dX10_counted_1 (2 : Int32) c7 ⟨by decide, by decide, rfl, by decide⟩ ?_
    refine J_iconst (pc' := 53) (v := (4 : Int32)) dX10_counted_52 rfl ic_4 ?_
    refine J_aload_n (pc' := 54) (i := 0) (n := 0) dX10_counted_53 rfl rfl rfl ?_
    refine J_getR (pc' := 57) (b := 36) dX10_counted_54 rfl fl_X10_7 rfl (m_o hs) (m_n hs (Nat.le_of_ble_eq_true rfl)) (m_r0 hs) ?_
    refine J_bipush (pc' := 59) (v := (8 : Int32)) dX10_counted_57 rfl bp_8 ?_
    obtain ⟨v8, e9, h⟩ := a_i_inv h
    refine J_ialde (pc' := 60) dX10_counted_59 rfl (m_s36 hs) (m_n hs (Nat.le_of_ble_eq_true rfl)) e9 ?_
    obtain ⟨v10, e11, h⟩ := bi_inv h
    refine J_callS (pc' := 63) (as := [.int v8]) (rest := [.int (4 : Int32)]) dX10_counted_60 rfl lk_X10_206 rfl (c_X10_bits e11) ⟨Nat.le_of_ble_eq_true rfl, Nat.le_of_ble_eq_true rfl⟩ (Nat.le_of_ble_eq_true rfl) ⟨Nat.le_of_ble_eq_true rfl, Nat.le_of_ble_eq_true rfl⟩ (j_kq ?_)
    refine J_isub (pc' := 64) dX10_counted_63 rfl ?_
    exact J_iret rfl dX10_counted_64 ⟨rfl, Nat.le_refl _⟩ (j_pIs h)
  replace h := j_iq c7 h
  by_cases c12 : x1 = (3 : Int32)
  · replace h := j_ip c12 h
    refine J_tin (tgt := 65) dX10_counted_1 (3 : Int32) c12 ⟨by decide, by decide, rfl, by decide⟩ ?_
    refine J_aload_n (pc' := 66) (i := 0) (n := 0) dX10_counted_65 rfl rfl rfl ?_
    obtain ⟨v13, e14, h⟩ := bi_inv h
    refine J_callV (pc' := 69) (as := []) (rest := []) dX10_counted_66 rfl lk_X10_285 rfl 10 (by decide) rfl (m_o hs) (m_n hs (Nat.le_of_ble_eq_true rfl)) (c_X10_allLengths hs e14) ⟨Nat.le_of_ble_eq_true rfl, Nat.le_of_ble_eq_true rfl⟩ (Nat.le_of_ble_eq_true rfl) ⟨Nat.le_of_ble_eq_true rfl, Nat.le_of_ble_eq_true rfl⟩ (j_kq ?_)
    exact J_iret rfl dX10_counted_69 ⟨rfl, Nat.le_refl _⟩ (j_pIs h)
  replace h := j_iq c12 h
  by_cases c15 : x1 = (4 : Int32)
  · replace h := j_ip c15 h
    refine J_tin (tgt := 70) dX10_counted_1 (4 : Int32) c15 ⟨by decide, by decide, rfl, by decide⟩ ?_
    refine J_aload_n (pc' := 71) (i := 0) (n := 0) dX10_counted_70 rfl rfl rfl ?_
    refine J_getR (pc' := 74) (b := 36) dX10_counted_71 rfl fl_X10_7 rfl (m_o hs) (m_n hs (Nat.le_of_ble_eq_true rfl)) (m_r0 hs) ?_
    refine J_iconst (pc' := 75) (v := (2 : Int32)) dX10_counted_74 rfl ic_2 ?_
    obtain ⟨v16, e17, h⟩ := a_i_inv h
    refine J_ialde (pc' := 76) dX10_counted_75 rfl (m_s36 hs) (m_n hs (Nat.le_of_ble_eq_true rfl)) e17 ?_
    exact J_iret rfl dX10_counted_76 ⟨rfl, Nat.le_refl _⟩ (j_pIs h)
  replace h := j_iq c15 h
  by_cases c18 : x1 = (5 : Int32)
  · replace h := j_ip c18 h
    refine J_tin (tgt := 77) dX10_counted_1 (5 : Int32) c18 ⟨by decide, by decide, rfl, by decide⟩ ?_
    refine J_aload_n (pc' := 78) (i := 0) (n := 0) dX10_counted_77 rfl rfl rfl ?_
    refine J_getR (pc' := 81) (b := 36) dX10_counted_78 rfl fl_X10_7 rfl (m_o hs) (m_n hs (Nat.le_of_ble_eq_true rfl)) (m_r0 hs) ?_
    refine J_iconst (pc' := 82) (v := (3 : Int32)) dX10_counted_81 rfl ic_3 ?_
    obtain ⟨v19, e20, h⟩ := a_i_inv h
    refine J_ialde (pc' := 83) dX10_counted_82 rfl (m_s36 hs) (m_n hs (Nat.le_of_ble_eq_true rfl)) e20 ?_
    exact J_iret rfl dX10_counted_83 ⟨rfl, Nat.le_refl _⟩ (j_pIs h)
  replace h := j_iq c18 h
  refine J_tout (tgt := 84) dX10_counted_1 (j_out0_5 c1 c4 c7 c12 c15 c18) (by decide) ?_
  refine J_aload_n (pc' := 85) (i := 0) (n := 0) dX10_counted_84 rfl rfl rfl ?_
  refine J_getI (pc' := 88) dX10_counted_85 rfl fl_X10_230 rfl (m_o hs) (m_n hs (Nat.le_of_ble_eq_true rfl)) ?_
  exact J_iret rfl dX10_counted_88 ⟨rfl, Nat.le_refl _⟩ (j_pIs h)
abbrev JT_X10_count (l : Launch) (G : j_G) (r : (Int32 × j_M)) : Nat → List (Nat × Value) → List Value → j_M → Prop := JJ l G md_X10_count (j_rm 4 (0, 0)) (0, 0) (0, 0) (po (some (.int r.1)) r.2)
noncomputable def f_X10_count (M : j_M) (x1 : Int32) : Option (Int32 × j_M) :=
  tl (f_X10_in (x1).toInt64 (0 : Int64) (6 : Int64)) fun v1 => (if v1 = 0 then ((f_X10_bad M ((-2) : Int32)).bind fun q4 => j_ck M q4.2 (some (q4.1, q4.2))) else ((f_X10_counted M x1).bind fun v8 => (some (v8, M))))
set_option maxHeartbeats 4000000 in
theorem c_X10_count {l : Launch} {G : j_G} {M : j_M} {x1 : Int32} (hs : sh_m M.2.2) {r : (Int32 × j_M)} (h : f_X10_count M x1 = some r) : j_Sp l G md_X10_count 4 (0, 0) [.ref 35, .int x1] M (po (some (.int r.1)) r.2) := by
  refine j_Sp.of (by decide) (Nat.le_of_ble_eq_true rfl) ?_
  show JT_X10_count l G r 0 [(0, .ref 35), (1, .int x1)] [] M
  unfold f_X10_count at h
  refine J_iload_n (pc' := 1) (i := 1) (n := 1) dX10_count_0 rfl rfl rfl ?_
  refine J_i2l (pc' := 2) dX10_count_1 rfl ?_
  refine J_lconst (pc' := 3) (v := (0 : Int64)) dX10_count_2 rfl rfl ?_
  refine J_ldc2 (pc' := 6) (v := (6 : Int64)) dX10_count_3 rfl wd_1168 ?_
  obtain ⟨v1, e2, h⟩ := tl_inv h
  refine J_callS (pc' := 9) (as := [.long (x1).toInt64, .long (0 : Int64), .long (6 : Int64)]) (rest := []) dX10_count_6 rfl lk_X10_68 rfl (c_X10_in e2) ⟨Nat.le_of_ble_eq_true rfl, Nat.le_of_ble_eq_true rfl⟩ (Nat.le_of_ble_eq_true rfl) ⟨Nat.le_of_ble_eq_true rfl, Nat.le_of_ble_eq_true rfl⟩ (j_kq ?_)
  refine J_if_eq (pc' := 12) (tgt := 20) dX10_count_9 rfl (by decide) (fun c3 => ?_) (fun c3 => ?_)
  · replace h := j_ip c3 h
    refine J_aload_n (pc' := 21) (i := 0) (n := 0) dX10_count_20 rfl rfl rfl ?_
    refine J_bipush (pc' := 23) (v := ((-2) : Int32)) dX10_count_21 rfl bp_m2 ?_
    obtain ⟨q4, e5, h⟩ := bi_inv h
    obtain ⟨c6, h⟩ := j_ck_inv h
    refine J_callV (pc' := 26) (as := [.int ((-2) : Int32)]) (rest := []) dX10_count_23 rfl lk_X10_84 rfl 10 (by decide) rfl (m_o hs) (m_n hs (Nat.le_of_ble_eq_true rfl)) (c_X10_bad hs e5) ⟨Nat.le_of_ble_eq_true rfl, Nat.le_of_ble_eq_true rfl⟩ (Nat.le_of_ble_eq_true rfl) ⟨Nat.le_of_ble_eq_true rfl, Nat.le_of_ble_eq_true rfl⟩ (j_kq ?_)
    have g7 : sh_m q4.2.2.2 := j_shE c6 hs
    exact J_iret rfl dX10_count_26 ⟨rfl, Nat.le_refl _⟩ (j_pW h)
  · replace h := j_iq c3 h
    refine J_aload_n (pc' := 13) (i := 0) (n := 0) dX10_count_12 rfl rfl rfl ?_
    refine J_iload_n (pc' := 14) (i := 1) (n := 1) dX10_count_13 rfl rfl rfl ?_
    obtain ⟨v8, e9, h⟩ := bi_inv h
    refine J_callV (pc' := 17) (as := [.int x1]) (rest := []) dX10_count_14 rfl lk_X10_288 rfl 10 (by decide) rfl (m_o hs) (m_n hs (Nat.le_of_ble_eq_true rfl)) (c_X10_counted hs e9) ⟨Nat.le_of_ble_eq_true rfl, Nat.le_of_ble_eq_true rfl⟩ (Nat.le_of_ble_eq_true rfl) ⟨Nat.le_of_ble_eq_true rfl, Nat.le_of_ble_eq_true rfl⟩ (j_kq ?_)
    refine J_goto (pc' := 26) dX10_count_17 (by decide) ?_
    exact J_iret rfl dX10_count_26 ⟨rfl, Nat.le_refl _⟩ (j_pW h)
abbrev JT_X10_sums (l : Launch) (G : j_G) (M : j_M) (r : Int64) : Nat → List (Nat × Value) → List Value → j_M → Prop := JJ l G md_X10_sums (j_rm 1 (0, 0)) (0, 0) (0, 0) (po (some (.long r)) M)
noncomputable def f_X10_sums_L6 : Nat → j_M → Int32 → Int32 → Int64 → Int32 → (Int64 → Int32 → Option Int64) → Option Int64
  | 0, _, _, _, _, _, _ => none
  | n + 1, M, x3, x4, x5, x7, K =>
    if x4 ≤ x7 then (K x5 x7) else (a_i M 36 250 (x3 + x7) fun v2 => (f_X10_sums_L6 n  M x3 x4 (((31 : Int64) * x5) + (v2).toInt64) (x7 + (1 : Int32)) K))
noncomputable def f_X10_sums (M : j_M) (x1 : Int64) (x3 : Int32) (x4 : Int32) : Option Int64 :=
  f_X10_sums_L6 j_fu  M x3 x4 x1 (0 : Int32) (fun (y4 : Int64) (y5 : Int32) => (some y4))
set_option maxHeartbeats 4000000 in
theorem L_X10_sums_L6 {l : Launch} {G : j_G}  {r : Int64} : ∀ (n : Nat) {x3 : Int32} {x4 : Int32} {x5 : Int64} {x7 : Int32} {M : j_M} (hs : sh_m M.2.2) {K : Int64 → Int32 → Option Int64}, f_X10_sums_L6 n  M x3 x4 x5 x7 K = some r → (∀ (y5 : Int64) (y7 : Int32), K y5 y7 = some r → JT_X10_sums l G M r 38 [(5, .long y5)] [] M) → JT_X10_sums l G M r 6 [(0, .ref 35), (3, .int x3), (4, .int x4), (5, .long x5), (7, .int x7)] [] M := by
  intro n
  induction n with
  | zero =>
    intro x3 x4 x5 x7 M hs K h hK
    rw [f_X10_sums_L6] at h; cases h
  | succ n ih =>
    intro x3 x4 x5 x7 M hs K h hK
    rw [f_X10_sums_L6] at h
    refine J_iload (pc' := 8) (i := 7) (n := 4) dX10_sums_6 rfl rfl ?_
    refine J_iload (pc' := 10) (i := 4) (n := 2) dX10_sums_8 rfl rfl ?_
    refine J_icmp_ge (pc' := 13) (tgt := 38) dX10_sums_10 rfl (by decide) (fun c1 => ?_) (fun c1 => ?_)
    · replace h := j_ip c1 h
      refine J_sub [3] (lv' := [(5, .long x5)]) rfl ?_
      exact hK x5 x7  h
    · replace h := j_iq c1 h
      refine J_ldc2 (pc' := 16) (v := (31 : Int64)) dX10_sums_13 rfl wd_1311 ?_
      refine J_lload (pc' := 18) (i := 5) (n := 3) dX10_sums_16 rfl rfl ?_
      refine J_lmul (pc' := 19) dX10_sums_18 rfl ?_
      refine J_aload_n (pc' := 20) (i := 0) (n := 0) dX10_sums_19 rfl rfl rfl ?_
      refine J_getR (pc' := 23) (b := 36) dX10_sums_20 rfl fl_X10_7 rfl (m_o hs) (m_n hs (Nat.le_of_ble_eq_true rfl)) (m_r0 hs) ?_
      refine J_iload_n (pc' := 24) (i := 3) (n := 1) dX10_sums_23 rfl rfl rfl ?_
      refine J_iload (pc' := 26) (i := 7) (n := 4) dX10_sums_24 rfl rfl ?_
      refine J_iadd (pc' := 27) dX10_sums_26 rfl ?_
      obtain ⟨v2, e3, h⟩ := a_i_inv h
      refine J_ialde (pc' := 28) dX10_sums_27 rfl (m_s36 hs) (m_n hs (Nat.le_of_ble_eq_true rfl)) e3 ?_
      refine J_i2l (pc' := 29) dX10_sums_28 rfl ?_
      refine J_ladd (pc' := 30) dX10_sums_29 rfl ?_
      refine J_lstore (pc' := 32) (i := 5) (lv' := [(5, .long (((31 : Int64) * x5) + (v2).toInt64)), (0, .ref 35), (3, .int x3), (4, .int x4), (7, .int x7)]) dX10_sums_30 rfl (by decide) rfl ?_
      refine J_iinc (pc' := 35) (i := 7) (n := 4) (v := (x7 + (1 : Int32))) (lv' := [(7, .int (x7 + (1 : Int32))), (5, .long (((31 : Int64) * x5) + (v2).toInt64)), (0, .ref 35), (3, .int x3), (4, .int x4)]) dX10_sums_32 rfl rfl (j_inc _ _ rfl _) (by decide) rfl ?_
      refine J_goto (pc' := 6) dX10_sums_35 (by decide) ?_
      refine J_sub [2, 3, 4, 1, 0] (lv' := [(0, .ref 35), (3, .int x3), (4, .int x4), (5, .long (((31 : Int64) * x5) + (v2).toInt64)), (7, .int (x7 + (1 : Int32)))]) rfl ?_
      exact ih hs h hK
set_option maxHeartbeats 4000000 in
theorem c_X10_sums {l : Launch} {G : j_G} {M : j_M} {x1 : Int64} {x3 : Int32} {x4 : Int32} (hs : sh_m M.2.2) {r : Int64} (h : f_X10_sums M x1 x3 x4 = some r) : j_Sp l G md_X10_sums 1 (0, 0) [.ref 35, .long x1, .int x3, .int x4] M (po (some (.long r)) M) := by
  refine j_Sp.of (by decide) (Nat.le_of_ble_eq_true rfl) ?_
  show JT_X10_sums l G M r 0 [(0, .ref 35), (1, .long x1), (3, .int x3), (4, .int x4)] [] M
  unfold f_X10_sums at h
  refine J_lload_n (pc' := 1) (i := 1) (n := 1) dX10_sums_0 rfl rfl rfl ?_
  refine J_lstore (pc' := 3) (i := 5) (lv' := [(5, .long x1), (0, .ref 35), (1, .long x1), (3, .int x3), (4, .int x4)]) dX10_sums_1 rfl (by decide) rfl ?_
  refine J_iconst (pc' := 4) (v := (0 : Int32)) dX10_sums_3 rfl ic_0 ?_
  refine J_istore (pc' := 6) (i := 7) (lv' := [(7, .int (0 : Int32)), (5, .long x1), (0, .ref 35), (1, .long x1), (3, .int x3), (4, .int x4)]) dX10_sums_4 rfl (by decide) rfl ?_
  refine J_sub [2, 4, 5, 1, 0] (lv' := [(0, .ref 35), (3, .int x3), (4, .int x4), (5, .long x1), (7, .int (0 : Int32))]) rfl ?_
  refine L_X10_sums_L6 j_fu hs h (fun y4 y5 h => ?_)
  refine J_lload (pc' := 40) (i := 5) (n := 0) dX10_sums_38 rfl rfl ?_
  exact J_lret rfl dX10_sums_40 ⟨rfl, Nat.le_refl _⟩ (j_pLs h)
abbrev JT_X10_digest (l : Launch) (G : j_G) (M : j_M) (r : Int64) : Nat → List (Nat × Value) → List Value → j_M → Prop := JJ l G md_X10_digest (j_rm 4 (0, 0)) (0, 0) (0, 0) (po (some (.long r)) M)
noncomputable def f_X10_digest_L6 : Nat → j_M → Int64 → Int32 → (Int64 → Int32 → Option Int64) → Option Int64
  | 0, _, _, _, _ => none
  | n + 1, M, x1, x3, K =>
    if (7 : Int32) ≤ x3 then (K x1 x3) else ((f_X10_counted M x3).bind fun v2 => (f_X10_digest_L6 n  M (((31 : Int64) * x1) + (v2).toInt64) (x3 + (1 : Int32)) K))
noncomputable def f_X10_digest_L33 : Nat → j_M → Int64 → Int32 → (Int64 → Int32 → Option Int64) → Option Int64
  | 0, _, _, _, _ => none
  | n + 1, M, x1, x3, K =>
    if (4 : Int32) ≤ x3 then (K x1 x3) else (a_i M 36 250 ((4 : Int32) + x3) fun v7 => (a_i M 36 250 (8 : Int32) fun v9 => (f_X10_digest_L33 n  M (((31 : Int64) * (((31 : Int64) * x1) + (v7).toInt64)) + (((v9 >>> (x3 &&& 31)) &&& (1 : Int32))).toInt64) (x3 + (1 : Int32)) K)))
noncomputable def f_X10_digest_L79 : Nat → j_M → Int64 → Int32 → (Int64 → Int32 → Option Int64) → Option Int64
  | 0, _, _, _, _ => none
  | n + 1, M, x1, x3, K =>
    (f_X10_many M).bind fun v13 => (if v13 ≤ x3 then (K x1 x3) else (a_i M 36 250 ((30 : Int32) + x3) fun v16 => (a_i M 36 250 ((37 : Int32) + x3) fun v18 => (a_i M 36 250 ((9 : Int32) + x3) fun v20 => (a_i M 36 250 ((16 : Int32) + x3) fun v22 => (a_i M 36 250 ((23 : Int32) + x3) fun v24 => (f_X10_digest_L79 n  M (((31 : Int64) * (((31 : Int64) * (((31 : Int64) * (((31 : Int64) * (((31 : Int64) * x1) + (v16).toInt64)) + (v18).toInt64)) + (v20).toInt64)) + (v22).toInt64)) + (v24).toInt64) (x3 + (1 : Int32)) K)))))))
noncomputable def f_X10_digest (M : j_M)  : Option Int64 :=
  f_X10_digest_L6 j_fu  M (1279 : Int64) (0 : Int32) (fun (y4 : Int64) (y5 : Int32) => (f_X10_digest_L33 j_fu  M y4 (0 : Int32) (fun (y11 : Int64) (y12 : Int32) => (f_X10_digest_L79 j_fu  M y11 (0 : Int32) (fun (y26 : Int64) (y27 : Int32) => (a_i M 36 250 (2 : Int32) fun v28 => ((f_X10_sums M y26 (44 : Int32) ((5 : Int32) * v28)).bind fun v30 => (some (((31 : Int64) * (((31 : Int64) * v30) + (j_L M 35 4))) + (j_L M 35 5))))))))))
set_option maxHeartbeats 4000000 in
theorem L_X10_digest_L6 {l : Launch} {G : j_G}  {r : Int64} : ∀ (n : Nat) {x1 : Int64} {x3 : Int32} {M : j_M} (hs : sh_m M.2.2) {K : Int64 → Int32 → Option Int64}, f_X10_digest_L6 n  M x1 x3 K = some r → (∀ (y1 : Int64) (y3 : Int32), K y1 y3 = some r → JT_X10_digest l G M r 31 [(0, .ref 35), (1, .long y1)] [] M) → JT_X10_digest l G M r 6 [(0, .ref 35), (1, .long x1), (3, .int x3)] [] M := by
  intro n
  induction n with
  | zero =>
    intro x1 x3 M hs K h hK
    rw [f_X10_digest_L6] at h; cases h
  | succ n ih =>
    intro x1 x3 M hs K h hK
    rw [f_X10_digest_L6] at h
    refine J_iload_n (pc' := 7) (i := 3) (n := 2) dX10_digest_6 rfl rfl rfl ?_
    refine J_bipush (pc' := 9) (v := (7 : Int32)) dX10_digest_7 rfl bp_7 ?_
    refine J_icmp_ge (pc' := 12) (tgt := 31) dX10_digest_9 rfl (by decide) (fun c1 => ?_) (fun c1 => ?_)
    · replace h := j_ip c1 h
      refine J_sub [0, 1] (lv' := [(0, .ref 35), (1, .long x1)]) rfl ?_
      exact hK x1 x3  h
    · replace h := j_iq c1 h
      refine J_ldc2 (pc' := 15) (v := (31 : Int64)) dX10_digest_12 rfl wd_1311 ?_
      refine J_lload_n (pc' := 16) (i := 1) (n := 1) dX10_digest_15 rfl rfl rfl ?_
      refine J_lmul (pc' := 17) dX10_digest_16 rfl ?_
      refine J_aload_n (pc' := 18) (i := 0) (n := 0) dX10_digest_17 rfl rfl rfl ?_
      refine J_iload_n (pc' := 19) (i := 3) (n := 2) dX10_digest_18 rfl rfl rfl ?_
      obtain ⟨v2, e3, h⟩ := bi_inv h
      refine J_callV (pc' := 22) (as := [.int x3]) (rest := [.long ((31 : Int64) * x1)]) dX10_digest_19 rfl lk_X10_288 rfl 10 (by decide) rfl (m_o hs) (m_n hs (Nat.le_of_ble_eq_true rfl)) (c_X10_counted hs e3) ⟨Nat.le_of_ble_eq_true rfl, Nat.le_of_ble_eq_true rfl⟩ (Nat.le_of_ble_eq_true rfl) ⟨Nat.le_of_ble_eq_true rfl, Nat.le_of_ble_eq_true rfl⟩ (j_kq ?_)
      refine J_i2l (pc' := 23) dX10_digest_22 rfl ?_
      refine J_ladd (pc' := 24) dX10_digest_23 rfl ?_
      refine J_lstore_n (pc' := 25) (i := 1) (lv' := [(1, .long (((31 : Int64) * x1) + (v2).toInt64)), (0, .ref 35), (3, .int x3)]) dX10_digest_24 rfl rfl (by decide) rfl ?_
      refine J_iinc (pc' := 28) (i := 3) (n := 2) (v := (x3 + (1 : Int32))) (lv' := [(3, .int (x3 + (1 : Int32))), (1, .long (((31 : Int64) * x1) + (v2).toInt64)), (0, .ref 35)]) dX10_digest_25 rfl rfl (j_inc _ _ rfl _) (by decide) rfl ?_
      refine J_goto (pc' := 6) dX10_digest_28 (by decide) ?_
      refine J_sub [2, 1, 0] (lv' := [(0, .ref 35), (1, .long (((31 : Int64) * x1) + (v2).toInt64)), (3, .int (x3 + (1 : Int32)))]) rfl ?_
      exact ih hs h hK
set_option maxHeartbeats 4000000 in
theorem L_X10_digest_L33 {l : Launch} {G : j_G}  {r : Int64} : ∀ (n : Nat) {x1 : Int64} {x3 : Int32} {M : j_M} (hs : sh_m M.2.2) {K : Int64 → Int32 → Option Int64}, f_X10_digest_L33 n  M x1 x3 K = some r → (∀ (y1 : Int64) (y3 : Int32), K y1 y3 = some r → JT_X10_digest l G M r 77 [(0, .ref 35), (1, .long y1)] [] M) → JT_X10_digest l G M r 33 [(0, .ref 35), (1, .long x1), (3, .int x3)] [] M := by
  intro n
  induction n with
  | zero =>
    intro x1 x3 M hs K h hK
    rw [f_X10_digest_L33] at h; cases h
  | succ n ih =>
    intro x1 x3 M hs K h hK
    rw [f_X10_digest_L33] at h
    refine J_iload_n (pc' := 34) (i := 3) (n := 2) dX10_digest_33 rfl rfl rfl ?_
    refine J_iconst (pc' := 35) (v := (4 : Int32)) dX10_digest_34 rfl ic_4 ?_
    refine J_icmp_ge (pc' := 38) (tgt := 77) dX10_digest_35 rfl (by decide) (fun c6 => ?_) (fun c6 => ?_)
    · replace h := j_ip c6 h
      refine J_sub [0, 1] (lv' := [(0, .ref 35), (1, .long x1)]) rfl ?_
      exact hK x1 x3  h
    · replace h := j_iq c6 h
      refine J_ldc2 (pc' := 41) (v := (31 : Int64)) dX10_digest_38 rfl wd_1311 ?_
      refine J_ldc2 (pc' := 44) (v := (31 : Int64)) dX10_digest_41 rfl wd_1311 ?_
      refine J_lload_n (pc' := 45) (i := 1) (n := 1) dX10_digest_44 rfl rfl rfl ?_
      refine J_lmul (pc' := 46) dX10_digest_45 rfl ?_
      refine J_aload_n (pc' := 47) (i := 0) (n := 0) dX10_digest_46 rfl rfl rfl ?_
      refine J_getR (pc' := 50) (b := 36) dX10_digest_47 rfl fl_X10_7 rfl (m_o hs) (m_n hs (Nat.le_of_ble_eq_true rfl)) (m_r0 hs) ?_
      refine J_iconst (pc' := 51) (v := (4 : Int32)) dX10_digest_50 rfl ic_4 ?_
      refine J_iload_n (pc' := 52) (i := 3) (n := 2) dX10_digest_51 rfl rfl rfl ?_
      refine J_iadd (pc' := 53) dX10_digest_52 rfl ?_
      obtain ⟨v7, e8, h⟩ := a_i_inv h
      refine J_ialde (pc' := 54) dX10_digest_53 rfl (m_s36 hs) (m_n hs (Nat.le_of_ble_eq_true rfl)) e8 ?_
      refine J_i2l (pc' := 55) dX10_digest_54 rfl ?_
      refine J_ladd (pc' := 56) dX10_digest_55 rfl ?_
      refine J_lmul (pc' := 57) dX10_digest_56 rfl ?_
      refine J_aload_n (pc' := 58) (i := 0) (n := 0) dX10_digest_57 rfl rfl rfl ?_
      refine J_getR (pc' := 61) (b := 36) dX10_digest_58 rfl fl_X10_7 rfl (m_o hs) (m_n hs (Nat.le_of_ble_eq_true rfl)) (m_r0 hs) ?_
      refine J_bipush (pc' := 63) (v := (8 : Int32)) dX10_digest_61 rfl bp_8 ?_
      obtain ⟨v9, e10, h⟩ := a_i_inv h
      refine J_ialde (pc' := 64) dX10_digest_63 rfl (m_s36 hs) (m_n hs (Nat.le_of_ble_eq_true rfl)) e10 ?_
      refine J_iload_n (pc' := 65) (i := 3) (n := 2) dX10_digest_64 rfl rfl rfl ?_
      refine J_ishr (pc' := 66) dX10_digest_65 rfl ?_
      refine J_iconst (pc' := 67) (v := (1 : Int32)) dX10_digest_66 rfl ic_1 ?_
      refine J_iand (pc' := 68) dX10_digest_67 rfl ?_
      refine J_i2l (pc' := 69) dX10_digest_68 rfl ?_
      refine J_ladd (pc' := 70) dX10_digest_69 rfl ?_
      refine J_lstore_n (pc' := 71) (i := 1) (lv' := [(1, .long (((31 : Int64) * (((31 : Int64) * x1) + (v7).toInt64)) + (((v9 >>> (x3 &&& 31)) &&& (1 : Int32))).toInt64)), (0, .ref 35), (3, .int x3)]) dX10_digest_70 rfl rfl (by decide) rfl ?_
      refine J_iinc (pc' := 74) (i := 3) (n := 2) (v := (x3 + (1 : Int32))) (lv' := [(3, .int (x3 + (1 : Int32))), (1, .long (((31 : Int64) * (((31 : Int64) * x1) + (v7).toInt64)) + (((v9 >>> (x3 &&& 31)) &&& (1 : Int32))).toInt64)), (0, .ref 35)]) dX10_digest_71 rfl rfl (j_inc _ _ rfl _) (by decide) rfl ?_
      refine J_goto (pc' := 33) dX10_digest_74 (by decide) ?_
      refine J_sub [2, 1, 0] (lv' := [(0, .ref 35), (1, .long (((31 : Int64) * (((31 : Int64) * x1) + (v7).toInt64)) + (((v9 >>> (x3 &&& 31)) &&& (1 : Int32))).toInt64)), (3, .int (x3 + (1 : Int32)))]) rfl ?_
      exact ih hs h hK
set_option maxHeartbeats 4000000 in
theorem L_X10_digest_L79 {l : Launch} {G : j_G}  {r : Int64} : ∀ (n : Nat) {x1 : Int64} {x3 : Int32} {M : j_M} (hs : sh_m M.2.2) {K : Int64 → Int32 → Option Int64}, f_X10_digest_L79 n  M x1 x3 K = some r → (∀ (y1 : Int64) (y3 : Int32), K y1 y3 = some r → JT_X10_digest l G M r 172 [(0, .ref 35), (1, .long y1)] [] M) → JT_X10_digest l G M r 79 [(0, .ref 35), (1, .long x1), (3, .int x3)] [] M := by
  intro n
  induction n with
  | zero =>
    intro x1 x3 M hs K h hK
    rw [f_X10_digest_L79] at h; cases h
  | succ n ih =>
    intro x1 x3 M hs K h hK
    rw [f_X10_digest_L79] at h
    refine J_iload_n (pc' := 80) (i := 3) (n := 2) dX10_digest_79 rfl rfl rfl ?_
    refine J_aload_n (pc' := 81) (i := 0) (n := 0) dX10_digest_80 rfl rfl rfl ?_
    obtain ⟨v13, e14, h⟩ := bi_inv h
    refine J_callV (pc' := 84) (as := []) (rest := [.int x3]) dX10_digest_81 rfl lk_X10_64 rfl 10 (by decide) rfl (m_o hs) (m_n hs (Nat.le_of_ble_eq_true rfl)) (c_X10_many hs e14) ⟨Nat.le_of_ble_eq_true rfl, Nat.le_of_ble_eq_true rfl⟩ (Nat.le_of_ble_eq_true rfl) ⟨Nat.le_of_ble_eq_true rfl, Nat.le_of_ble_eq_true rfl⟩ (j_kq ?_)
    refine J_icmp_ge (pc' := 87) (tgt := 172) dX10_digest_84 rfl (by decide) (fun c15 => ?_) (fun c15 => ?_)
    · replace h := j_ip c15 h
      refine J_sub [0, 1] (lv' := [(0, .ref 35), (1, .long x1)]) rfl ?_
      exact hK x1 x3  h
    · replace h := j_iq c15 h
      refine J_ldc2 (pc' := 90) (v := (31 : Int64)) dX10_digest_87 rfl wd_1311 ?_
      refine J_ldc2 (pc' := 93) (v := (31 : Int64)) dX10_digest_90 rfl wd_1311 ?_
      refine J_lload_n (pc' := 94) (i := 1) (n := 1) dX10_digest_93 rfl rfl rfl ?_
      refine J_lmul (pc' := 95) dX10_digest_94 rfl ?_
      refine J_aload_n (pc' := 96) (i := 0) (n := 0) dX10_digest_95 rfl rfl rfl ?_
      refine J_getR (pc' := 99) (b := 36) dX10_digest_96 rfl fl_X10_7 rfl (m_o hs) (m_n hs (Nat.le_of_ble_eq_true rfl)) (m_r0 hs) ?_
      refine J_bipush (pc' := 101) (v := (30 : Int32)) dX10_digest_99 rfl bp_30 ?_
      refine J_iload_n (pc' := 102) (i := 3) (n := 2) dX10_digest_101 rfl rfl rfl ?_
      refine J_iadd (pc' := 103) dX10_digest_102 rfl ?_
      obtain ⟨v16, e17, h⟩ := a_i_inv h
      refine J_ialde (pc' := 104) dX10_digest_103 rfl (m_s36 hs) (m_n hs (Nat.le_of_ble_eq_true rfl)) e17 ?_
      refine J_i2l (pc' := 105) dX10_digest_104 rfl ?_
      refine J_ladd (pc' := 106) dX10_digest_105 rfl ?_
      refine J_lmul (pc' := 107) dX10_digest_106 rfl ?_
      refine J_aload_n (pc' := 108) (i := 0) (n := 0) dX10_digest_107 rfl rfl rfl ?_
      refine J_getR (pc' := 111) (b := 36) dX10_digest_108 rfl fl_X10_7 rfl (m_o hs) (m_n hs (Nat.le_of_ble_eq_true rfl)) (m_r0 hs) ?_
      refine J_bipush (pc' := 113) (v := (37 : Int32)) dX10_digest_111 rfl bp_37 ?_
      refine J_iload_n (pc' := 114) (i := 3) (n := 2) dX10_digest_113 rfl rfl rfl ?_
      refine J_iadd (pc' := 115) dX10_digest_114 rfl ?_
      obtain ⟨v18, e19, h⟩ := a_i_inv h
      refine J_ialde (pc' := 116) dX10_digest_115 rfl (m_s36 hs) (m_n hs (Nat.le_of_ble_eq_true rfl)) e19 ?_
      refine J_i2l (pc' := 117) dX10_digest_116 rfl ?_
      refine J_ladd (pc' := 118) dX10_digest_117 rfl ?_
      refine J_lstore_n (pc' := 119) (i := 1) (lv' := [(1, .long (((31 : Int64) * (((31 : Int64) * x1) + (v16).toInt64)) + (v18).toInt64)), (0, .ref 35), (3, .int x3)]) dX10_digest_118 rfl rfl (by decide) rfl ?_
      refine J_ldc2 (pc' := 122) (v := (31 : Int64)) dX10_digest_119 rfl wd_1311 ?_
      refine J_ldc2 (pc' := 125) (v := (31 : Int64)) dX10_digest_122 rfl wd_1311 ?_
      refine J_ldc2 (pc' := 128) (v := (31 : Int64)) dX10_digest_125 rfl wd_1311 ?_
      refine J_lload_n (pc' := 129) (i := 1) (n := 0) dX10_digest_128 rfl rfl rfl ?_
      refine J_lmul (pc' := 130) dX10_digest_129 rfl ?_
      refine J_aload_n (pc' := 131) (i := 0) (n := 1) dX10_digest_130 rfl rfl rfl ?_
      refine J_getR (pc' := 134) (b := 36) dX10_digest_131 rfl fl_X10_7 rfl (m_o hs) (m_n hs (Nat.le_of_ble_eq_true rfl)) (m_r0 hs) ?_
      refine J_bipush (pc' := 136) (v := (9 : Int32)) dX10_digest_134 rfl bp_9 ?_
      refine J_iload_n (pc' := 137) (i := 3) (n := 2) dX10_digest_136 rfl rfl rfl ?_
      refine J_iadd (pc' := 138) dX10_digest_137 rfl ?_
      obtain ⟨v20, e21, h⟩ := a_i_inv h
      refine J_ialde (pc' := 139) dX10_digest_138 rfl (m_s36 hs) (m_n hs (Nat.le_of_ble_eq_true rfl)) e21 ?_
      refine J_i2l (pc' := 140) dX10_digest_139 rfl ?_
      refine J_ladd (pc' := 141) dX10_digest_140 rfl ?_
      refine J_lmul (pc' := 142) dX10_digest_141 rfl ?_
      refine J_aload_n (pc' := 143) (i := 0) (n := 1) dX10_digest_142 rfl rfl rfl ?_
      refine J_getR (pc' := 146) (b := 36) dX10_digest_143 rfl fl_X10_7 rfl (m_o hs) (m_n hs (Nat.le_of_ble_eq_true rfl)) (m_r0 hs) ?_
      refine J_bipush (pc' := 148) (v := (16 : Int32)) dX10_digest_146 rfl bp_16 ?_
      refine J_iload_n (pc' := 149) (i := 3) (n := 2) dX10_digest_148 rfl rfl rfl ?_
      refine J_iadd (pc' := 150) dX10_digest_149 rfl ?_
      obtain ⟨v22, e23, h⟩ := a_i_inv h
      refine J_ialde (pc' := 151) dX10_digest_150 rfl (m_s36 hs) (m_n hs (Nat.le_of_ble_eq_true rfl)) e23 ?_
      refine J_i2l (pc' := 152) dX10_digest_151 rfl ?_
      refine J_ladd (pc' := 153) dX10_digest_152 rfl ?_
      refine J_lmul (pc' := 154) dX10_digest_153 rfl ?_
      refine J_aload_n (pc' := 155) (i := 0) (n := 1) dX10_digest_154 rfl rfl rfl ?_
      refine J_getR (pc' := 158) (b := 36) dX10_digest_155 rfl fl_X10_7 rfl (m_o hs) (m_n hs (Nat.le_of_ble_eq_true rfl)) (m_r0 hs) ?_
      refine J_bipush (pc' := 160) (v := (23 : Int32)) dX10_digest_158 rfl bp_23 ?_
      refine J_iload_n (pc' := 161) (i := 3) (n := 2) dX10_digest_160 rfl rfl rfl ?_
      refine J_iadd (pc' := 162) dX10_digest_161 rfl ?_
      obtain ⟨v24, e25, h⟩ := a_i_inv h
      refine J_ialde (pc' := 163) dX10_digest_162 rfl (m_s36 hs) (m_n hs (Nat.le_of_ble_eq_true rfl)) e25 ?_
      refine J_i2l (pc' := 164) dX10_digest_163 rfl ?_
      refine J_ladd (pc' := 165) dX10_digest_164 rfl ?_
      refine J_lstore_n (pc' := 166) (i := 1) (lv' := [(1, .long (((31 : Int64) * (((31 : Int64) * (((31 : Int64) * (((31 : Int64) * (((31 : Int64) * x1) + (v16).toInt64)) + (v18).toInt64)) + (v20).toInt64)) + (v22).toInt64)) + (v24).toInt64)), (0, .ref 35), (3, .int x3)]) dX10_digest_165 rfl rfl (by decide) rfl ?_
      refine J_iinc (pc' := 169) (i := 3) (n := 2) (v := (x3 + (1 : Int32))) (lv' := [(3, .int (x3 + (1 : Int32))), (1, .long (((31 : Int64) * (((31 : Int64) * (((31 : Int64) * (((31 : Int64) * (((31 : Int64) * x1) + (v16).toInt64)) + (v18).toInt64)) + (v20).toInt64)) + (v22).toInt64)) + (v24).toInt64)), (0, .ref 35)]) dX10_digest_166 rfl rfl (j_inc _ _ rfl _) (by decide) rfl ?_
      refine J_goto (pc' := 79) dX10_digest_169 (by decide) ?_
      refine J_sub [2, 1, 0] (lv' := [(0, .ref 35), (1, .long (((31 : Int64) * (((31 : Int64) * (((31 : Int64) * (((31 : Int64) * (((31 : Int64) * x1) + (v16).toInt64)) + (v18).toInt64)) + (v20).toInt64)) + (v22).toInt64)) + (v24).toInt64)), (3, .int (x3 + (1 : Int32)))]) rfl ?_
      exact ih hs h hK
set_option maxHeartbeats 4000000 in
theorem c_X10_digest {l : Launch} {G : j_G} {M : j_M}  (hs : sh_m M.2.2) {r : Int64} (h : f_X10_digest M  = some r) : j_Sp l G md_X10_digest 4 (0, 0) [.ref 35] M (po (some (.long r)) M) := by
  refine j_Sp.of (by decide) (Nat.le_of_ble_eq_true rfl) ?_
  show JT_X10_digest l G M r 0 [(0, .ref 35)] [] M
  unfold f_X10_digest at h
  refine J_ldc2 (pc' := 3) (v := (1279 : Int64)) dX10_digest_0 rfl wd_1310 ?_
  refine J_lstore_n (pc' := 4) (i := 1) (lv' := [(1, .long (1279 : Int64)), (0, .ref 35)]) dX10_digest_3 rfl rfl (by decide) rfl ?_
  refine J_iconst (pc' := 5) (v := (0 : Int32)) dX10_digest_4 rfl ic_0 ?_
  refine J_istore_n (pc' := 6) (i := 3) (lv' := [(3, .int (0 : Int32)), (1, .long (1279 : Int64)), (0, .ref 35)]) dX10_digest_5 rfl rfl (by decide) rfl ?_
  refine J_sub [2, 1, 0] (lv' := [(0, .ref 35), (1, .long (1279 : Int64)), (3, .int (0 : Int32))]) rfl ?_
  refine L_X10_digest_L6 j_fu hs h (fun y4 y5 h => ?_)
  refine J_iconst (pc' := 32) (v := (0 : Int32)) dX10_digest_31 rfl ic_0 ?_
  refine J_istore_n (pc' := 33) (i := 3) (lv' := [(3, .int (0 : Int32)), (0, .ref 35), (1, .long y4)]) dX10_digest_32 rfl rfl (by decide) rfl ?_
  refine J_sub [1, 2, 0] (lv' := [(0, .ref 35), (1, .long y4), (3, .int (0 : Int32))]) rfl ?_
  refine L_X10_digest_L33 j_fu hs h (fun y11 y12 h => ?_)
  refine J_iconst (pc' := 78) (v := (0 : Int32)) dX10_digest_77 rfl ic_0 ?_
  refine J_istore_n (pc' := 79) (i := 3) (lv' := [(3, .int (0 : Int32)), (0, .ref 35), (1, .long y11)]) dX10_digest_78 rfl rfl (by decide) rfl ?_
  refine J_sub [1, 2, 0] (lv' := [(0, .ref 35), (1, .long y11), (3, .int (0 : Int32))]) rfl ?_
  refine L_X10_digest_L79 j_fu hs h (fun y26 y27 h => ?_)
  refine J_aload_n (pc' := 173) (i := 0) (n := 0) dX10_digest_172 rfl rfl rfl ?_
  refine J_lload_n (pc' := 174) (i := 1) (n := 1) dX10_digest_173 rfl rfl rfl ?_
  refine J_bipush (pc' := 176) (v := (44 : Int32)) dX10_digest_174 rfl bp_44 ?_
  refine J_iconst (pc' := 177) (v := (5 : Int32)) dX10_digest_176 rfl ic_5 ?_
  refine J_aload_n (pc' := 178) (i := 0) (n := 0) dX10_digest_177 rfl rfl rfl ?_
  refine J_getR (pc' := 181) (b := 36) dX10_digest_178 rfl fl_X10_7 rfl (m_o hs) (m_n hs (Nat.le_of_ble_eq_true rfl)) (m_r0 hs) ?_
  refine J_iconst (pc' := 182) (v := (2 : Int32)) dX10_digest_181 rfl ic_2 ?_
  obtain ⟨v28, e29, h⟩ := a_i_inv h
  refine J_ialde (pc' := 183) dX10_digest_182 rfl (m_s36 hs) (m_n hs (Nat.le_of_ble_eq_true rfl)) e29 ?_
  refine J_imul (pc' := 184) dX10_digest_183 rfl ?_
  obtain ⟨v30, e31, h⟩ := bi_inv h
  refine J_callV (pc' := 187) (as := [.long y26, .int (44 : Int32), .int ((5 : Int32) * v28)]) (rest := []) dX10_digest_184 rfl lk_X10_295 rfl 10 (by decide) rfl (m_o hs) (m_n hs (Nat.le_of_ble_eq_true rfl)) (c_X10_sums hs e31) ⟨Nat.le_of_ble_eq_true rfl, Nat.le_of_ble_eq_true rfl⟩ (Nat.le_of_ble_eq_true rfl) ⟨Nat.le_of_ble_eq_true rfl, Nat.le_of_ble_eq_true rfl⟩ (j_kq ?_)
  refine J_lstore_n (pc' := 188) (i := 1) (lv' := [(1, .long v30), (0, .ref 35)]) dX10_digest_187 rfl rfl (by decide) rfl ?_
  refine J_ldc2 (pc' := 191) (v := (31 : Int64)) dX10_digest_188 rfl wd_1311 ?_
  refine J_ldc2 (pc' := 194) (v := (31 : Int64)) dX10_digest_191 rfl wd_1311 ?_
  refine J_lload_n (pc' := 195) (i := 1) (n := 0) dX10_digest_194 rfl rfl rfl ?_
  refine J_lmul (pc' := 196) dX10_digest_195 rfl ?_
  refine J_aload_n (pc' := 197) (i := 0) (n := 1) dX10_digest_196 rfl rfl rfl ?_
  refine J_getL (pc' := 200) dX10_digest_197 rfl fl_X10_201 rfl (m_o hs) (m_n hs (Nat.le_of_ble_eq_true rfl)) ?_
  refine J_ladd (pc' := 201) dX10_digest_200 rfl ?_
  refine J_lmul (pc' := 202) dX10_digest_201 rfl ?_
  refine J_aload_n (pc' := 203) (i := 0) (n := 1) dX10_digest_202 rfl rfl rfl ?_
  refine J_getL (pc' := 206) dX10_digest_203 rfl fl_X10_23 rfl (m_o hs) (m_n hs (Nat.le_of_ble_eq_true rfl)) ?_
  refine J_ladd (pc' := 207) dX10_digest_206 rfl ?_
  exact J_lret rfl dX10_digest_207 ⟨rfl, Nat.le_refl _⟩ (j_pLs h)
