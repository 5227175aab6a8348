abbrev JT_X7_isWord (l : Launch) (G : j_G) (M : j_M) (r : Int32) : Nat → List (Nat × Value) → List Value → j_M → Prop := JJ l G md_X7_isWord (j_rm 5 (0, 0)) (0, 0) (0, 0) (po (some (.int r)) M)
noncomputable def f_X7_isWord_L20 : Nat → Nat → j_M → Int32 → (Int32 → Option Int32) → Option Int32
  | 0, _, _, _, _ => none
  | n + 1, w1, M, x2, K =>
    tl (j_sl w1) fun v4 => (if v4 ≤ x2 then (K x2) else (a_i M 8 150 ((j_I M 7 2) + x2) fun v7 => (sc w1 x2 fun v9 => (if v7 = v9 then (f_X7_isWord_L20 n w1 M (x2 + (1 : Int32)) K) else (some (0 : Int32))))))
noncomputable def f_X7_isWord (M : j_M) (w1 : Nat) : Option Int32 :=
  tl (j_sl w1) fun v1 => (if ((j_I M 7 3) - (j_I M 7 2)) = v1 then (f_X7_isWord_L20 j_fu w1 M (0 : Int32) (fun (y12 : Int32) => (some (1 : Int32)))) else (some (0 : Int32)))
set_option maxHeartbeats 4000000 in
theorem L_X7_isWord_L20 {l : Launch} {G : j_G} {w1 : Nat} {r : Int32} (hw : w1 < 4) : ∀ (n : Nat) {x2 : Int32} {M : j_M} (hs : sh_x M.2.2) {K : Int32 → Option Int32}, f_X7_isWord_L20 n w1 M x2 K = some r → (∀ (y2 : Int32), K y2 = some r → JT_X7_isWord l G M r 55 [] [] M) → JT_X7_isWord l G M r 20 [(0, .ref 7), (1, .ref (1000001 + w1)), (2, .int x2)] [] M := by
  intro n
  induction n with
  | zero =>
    intro x2 M hs K h hK
    rw [f_X7_isWord_L20] at h; cases h
  | succ n ih =>
    intro x2 M hs K h hK
    rw [f_X7_isWord_L20] at h
    refine J_iload_n (pc' := 21) (i := 2) (n := 2) dX7_isWord_20 rfl rfl rfl ?_
    refine J_aload_n (pc' := 22) (i := 1) (n := 1) dX7_isWord_21 rfl rfl rfl ?_
    obtain ⟨v4, e5, h⟩ := tl_inv h
    refine J_callVs (pc' := 25) (as := []) (rest := [.int x2]) hw dX7_isWord_22 rfl lk_X7_108 rfl rfl (c_slen hw e5) ⟨Nat.le_of_ble_eq_true rfl, Nat.le_of_ble_eq_true rfl⟩ (Nat.le_of_ble_eq_true rfl) ⟨Nat.le_of_ble_eq_true rfl, Nat.le_of_ble_eq_true rfl⟩ (j_kq ?_)
    refine J_icmp_ge (pc' := 28) (tgt := 55) dX7_isWord_25 rfl (by decide) (fun c6 => ?_) (fun c6 => ?_)
    · replace h := j_ip c6 h
      refine J_sub [] (lv' := []) rfl ?_
      exact hK x2  h
    · replace h := j_iq c6 h
      refine J_aload_n (pc' := 29) (i := 0) (n := 0) dX7_isWord_28 rfl rfl rfl ?_
      refine J_getR (pc' := 32) (b := 8) dX7_isWord_29 rfl fl_X7_11 rfl (x_o7 hs) (x_n hs (Nat.le_of_ble_eq_true rfl)) (x_t0 hs) ?_
      refine J_aload_n (pc' := 33) (i := 0) (n := 0) dX7_isWord_32 rfl rfl rfl ?_
      refine J_getI (pc' := 36) dX7_isWord_33 rfl fl_X7_19 rfl (x_o7 hs) (x_n hs (Nat.le_of_ble_eq_true rfl)) ?_
      refine J_iload_n (pc' := 37) (i := 2) (n := 2) dX7_isWord_36 rfl rfl rfl ?_
      refine J_iadd (pc' := 38) dX7_isWord_37 rfl ?_
      obtain ⟨v7, e8, h⟩ := a_i_inv h
      refine J_calde (pc' := 39) dX7_isWord_38 rfl (x_s8 hs) (x_n hs (Nat.le_of_ble_eq_true rfl)) e8 ?_
      refine J_aload_n (pc' := 40) (i := 1) (n := 1) dX7_isWord_39 rfl rfl rfl ?_
      refine J_iload_n (pc' := 41) (i := 2) (n := 2) dX7_isWord_40 rfl rfl rfl ?_
      obtain ⟨v9, e10, h⟩ := sc_inv h
      refine J_callVs (pc' := 44) (as := [.int x2]) (rest := [.int v7]) hw dX7_isWord_41 rfl lk_X7_113 rfl rfl (c_schr hw e10) ⟨Nat.le_of_ble_eq_true rfl, Nat.le_of_ble_eq_true rfl⟩ (Nat.le_of_ble_eq_true rfl) ⟨Nat.le_of_ble_eq_true rfl, Nat.le_of_ble_eq_true rfl⟩ (j_kq ?_)
      refine J_icmp_eq (pc' := 47) (tgt := 49) dX7_isWord_44 rfl (by decide) (fun c11 => ?_) (fun c11 => ?_)
      · replace h := j_ip c11 h
        refine J_iinc (pc' := 52) (i := 2) (n := 2) (v := (x2 + (1 : Int32))) (lv' := [(2, .int (x2 + (1 : Int32))), (0, .ref 7), (1, .ref (1000001 + w1))]) dX7_isWord_49 rfl rfl (j_inc _ _ rfl _) (by decide) rfl ?_
        refine J_goto (pc' := 20) dX7_isWord_52 (by decide) ?_
        refine J_sub [1, 2, 0] (lv' := [(0, .ref 7), (1, .ref (1000001 + w1)), (2, .int (x2 + (1 : Int32)))]) rfl ?_
        exact ih hs h hK
      · replace h := j_iq c11 h
        refine J_iconst (pc' := 48) (v := (0 : Int32)) dX7_isWord_47 rfl ic_0 ?_
        exact J_zret (ty := .boolean) rfl rfl dX7_isWord_48 ⟨rfl, Nat.le_refl _⟩ (j_pIs h)
set_option maxHeartbeats 4000000 in
theorem c_X7_isWord {l : Launch} {G : j_G} {M : j_M} {w1 : Nat} (hw : w1 < 4) (hs : sh_x M.2.2) {r : Int32} (h : f_X7_isWord M w1 = some r) : j_Sp l G md_X7_isWord 5 (0, 0) [.ref 7, .ref (1000001 + w1)] M (po (some (.int r)) M) := by
  refine j_Sp.of (by decide) (Nat.le_of_ble_eq_true rfl) ?_
  show JT_X7_isWord l G M r 0 [(0, .ref 7), (1, .ref (1000001 + w1))] [] M
  unfold f_X7_isWord at h
  refine J_aload_n (pc' := 1) (i := 0) (n := 0) dX7_isWord_0 rfl rfl rfl ?_
  refine J_getI (pc' := 4) dX7_isWord_1 rfl fl_X7_22 rfl (x_o7 hs) (x_n hs (Nat.le_of_ble_eq_true rfl)) ?_
  refine J_aload_n (pc' := 5) (i := 0) (n := 0) dX7_isWord_4 rfl rfl rfl ?_
  refine J_getI (pc' := 8) dX7_isWord_5 rfl fl_X7_19 rfl (x_o7 hs) (x_n hs (Nat.le_of_ble_eq_true rfl)) ?_
  refine J_isub (pc' := 9) dX7_isWord_8 rfl ?_
  refine J_aload_n (pc' := 10) (i := 1) (n := 1) dX7_isWord_9 rfl rfl rfl ?_
  obtain ⟨v1, e2, h⟩ := tl_inv h
  refine J_callVs (pc' := 13) (as := []) (rest := [.int ((j_I M 7 3) - (j_I M 7 2))]) hw dX7_isWord_10 rfl lk_X7_108 rfl rfl (c_slen hw e2) ⟨Nat.le_of_ble_eq_true rfl, Nat.le_of_ble_eq_true rfl⟩ (Nat.le_of_ble_eq_true rfl) ⟨Nat.le_of_ble_eq_true rfl, Nat.le_of_ble_eq_true rfl⟩ (j_kq ?_)
  refine J_icmp_eq (pc' := 16) (tgt := 18) dX7_isWord_13 rfl (by decide) (fun c3 => ?_) (fun c3 => ?_)
  · replace h := j_ip c3 h
    refine J_iconst (pc' := 19) (v := (0 : Int32)) dX7_isWord_18 rfl ic_0 ?_
    refine J_istore_n (pc' := 20) (i := 2) (lv' := [(2, .int (0 : Int32)), (0, .ref 7), (1, .ref (1000001 + w1))]) dX7_isWord_19 rfl rfl (by decide) rfl ?_
    refine J_sub [1, 2, 0] (lv' := [(0, .ref 7), (1, .ref (1000001 + w1)), (2, .int (0 : Int32))]) rfl ?_
    refine L_X7_isWord_L20 hw j_fu hs h (fun y12 h => ?_)
    refine J_iconst (pc' := 56) (v := (1 : Int32)) dX7_isWord_55 rfl ic_1 ?_
    exact J_zret (ty := .boolean) rfl rfl dX7_isWord_56 ⟨rfl, Nat.le_refl _⟩ (j_pIs h)
  · replace h := j_iq c3 h
    refine J_iconst (pc' := 17) (v := (0 : Int32)) dX7_isWord_16 rfl ic_0 ?_
    exact J_zret (ty := .boolean) rfl rfl dX7_isWord_17 ⟨rfl, Nat.le_refl _⟩ (j_pIs h)
abbrev JT_X7_nextEndsItem (l : Launch) (G : j_G) (r : (Int32 × j_M)) : Nat → List (Nat × Value) → List Value → j_M → Prop := JJ l G md_X7_nextEndsItem (j_rm 3 (0, 0)) (0, 0) (0, 0) (po (some (.int r.1)) r.2)
noncomputable def f_X7_nextEndsItem (M : j_M)  : Option (Int32 × j_M) :=
  (f_X7_next M).bind fun q1 => j_ck M q1 (if (j_I q1 7 1) ≤ (j_I q1 7 2) then (some ((0 : Int32), q1)) else (a_i q1 8 150 (j_I q1 7 2) fun v6 => (if v6 = (59 : Int32) then (some ((1 : Int32), q1)) else (some ((0 : Int32), q1)))))
set_option maxHeartbeats 4000000 in
theorem c_X7_nextEndsItem {l : Launch} {G : j_G} {M : j_M}  (hs : sh_x M.2.2) {r : (Int32 × j_M)} (h : f_X7_nextEndsItem M  = some r) : j_Sp l G md_X7_nextEndsItem 3 (0, 0) [.ref 7] M (po (some (.int r.1)) r.2) := by
  refine j_Sp.of (by decide) (Nat.le_of_ble_eq_true rfl) ?_
  show JT_X7_nextEndsItem l G r 0 [(0, .ref 7)] [] M
  unfold f_X7_nextEndsItem at h
  refine J_aload_n (pc' := 1) (i := 0) (n := 0) dX7_nextEndsItem_0 rfl rfl rfl ?_
  obtain ⟨q1, e2, h⟩ := bi_inv h
  obtain ⟨c3, h⟩ := j_ck_inv h
  refine J_callV (pc' := 4) (as := []) (rest := []) dX7_nextEndsItem_1 rfl lk_X7_30 rfl 7 (by decide) rfl (x_o7 hs) (x_n hs (Nat.le_of_ble_eq_true rfl)) (c_X7_next hs e2) ⟨Nat.le_of_ble_eq_true rfl, Nat.le_of_ble_eq_true rfl⟩ (Nat.le_of_ble_eq_true rfl) ⟨Nat.le_of_ble_eq_true rfl, Nat.le_of_ble_eq_true rfl⟩ (j_kv ?_)
  have g4 : sh_x q1.2.2 := j_shE c3 hs
  refine J_aload_n (pc' := 5) (i := 0) (n := 0) dX7_nextEndsItem_4 rfl rfl rfl ?_
  refine J_getI (pc' := 8) dX7_nextEndsItem_5 rfl fl_X7_19 rfl (x_o7 g4) (x_n g4 (Nat.le_of_ble_eq_true rfl)) ?_
  refine J_aload_n (pc' := 9) (i := 0) (n := 0) dX7_nextEndsItem_8 rfl rfl rfl ?_
  refine J_getI (pc' := 12) dX7_nextEndsItem_9 rfl fl_X7_15 rfl (x_o7 g4) (x_n g4 (Nat.le_of_ble_eq_true rfl)) ?_
  refine J_icmp_ge (pc' := 15) (tgt := 33) dX7_nextEndsItem_12 rfl (by decide) (fun c5 => ?_) (fun c5 => ?_)
  · replace h := j_ip c5 h
    refine J_iconst (pc' := 34) (v := (0 : Int32)) dX7_nextEndsItem_33 rfl ic_0 ?_
    exact J_zret (ty := .boolean) rfl rfl dX7_nextEndsItem_34 ⟨rfl, Nat.le_refl _⟩ (j_pW h)
  · replace h := j_iq c5 h
    refine J_aload_n (pc' := 16) (i := 0) (n := 0) dX7_nextEndsItem_15 rfl rfl rfl ?_
    refine J_getR (pc' := 19) (b := 8) dX7_nextEndsItem_16 rfl fl_X7_11 rfl (x_o7 g4) (x_n g4 (Nat.le_of_ble_eq_true rfl)) (x_t0 g4) ?_
    refine J_aload_n (pc' := 20) (i := 0) (n := 0) dX7_nextEndsItem_19 rfl rfl rfl ?_
    refine J_getI (pc' := 23) dX7_nextEndsItem_20 rfl fl_X7_19 rfl (x_o7 g4) (x_n g4 (Nat.le_of_ble_eq_true rfl)) ?_
    obtain ⟨v6, e7, h⟩ := a_i_inv h
    refine J_calde (pc' := 24) dX7_nextEndsItem_23 rfl (x_s8 g4) (x_n g4 (Nat.le_of_ble_eq_true rfl)) e7 ?_
    refine J_bipush (pc' := 26) (v := (59 : Int32)) dX7_nextEndsItem_24 rfl bp_59 ?_
    refine J_icmp_ne (pc' := 29) (tgt := 33) dX7_nextEndsItem_26 rfl (by decide) (fun c8 => ?_) (fun c8 => ?_)
    · replace h := j_iq c8 h
      refine J_iconst (pc' := 34) (v := (0 : Int32)) dX7_nextEndsItem_33 rfl ic_0 ?_
      exact J_zret (ty := .boolean) rfl rfl dX7_nextEndsItem_34 ⟨rfl, Nat.le_refl _⟩ (j_pW h)
    · replace h := j_ip c8 h
      refine J_iconst (pc' := 30) (v := (1 : Int32)) dX7_nextEndsItem_29 rfl ic_1 ?_
      refine J_goto (pc' := 34) dX7_nextEndsItem_30 (by decide) ?_
      exact J_zret (ty := .boolean) rfl rfl dX7_nextEndsItem_34 ⟨rfl, Nat.le_refl _⟩ (j_pW h)
abbrev JT_X7_nextNumber (l : Launch) (G : j_G) (r : (Int32 × j_M)) : Nat → List (Nat × Value) → List Value → j_M → Prop := JJ l G md_X7_nextNumber (j_rm 3 (0, 0)) (0, 0) (0, 0) (po (some (.int r.1)) r.2)
noncomputable def f_X7_nextNumber_L45 : Nat → j_M → Int32 → Int32 → (Int32 → Int32 → Option (Int32 × j_M)) → Option (Int32 × j_M)
  | 0, _, _, _, _ => none
  | n + 1, M, x2, x3, K =>
    if (j_I M 7 3) ≤ x3 then (K x2 x3) else (a_i M 8 150 x3 fun v11 => (f_X7_nextNumber_L45 n  M (((10 : Int32) * x2) + (v11 - (48 : Int32))) (x3 + (1 : Int32)) K))
noncomputable def f_X7_nextNumber (M : j_M)  : Option (Int32 × j_M) :=
  (f_X7_next M).bind fun q1 => j_ck M q1 (if ((j_I q1 7 3) - (j_I q1 7 2)) < (1 : Int32) then (some (((-1) : Int32), q1)) else (if (2 : Int32) < ((j_I q1 7 3) - (j_I q1 7 2)) then (some (((-1) : Int32), q1)) else ((f_X7_sortAt q1 (j_I q1 7 2)).bind fun v7 => (if v7 = (2 : Int32) then (f_X7_nextNumber_L45 j_fu  q1 (0 : Int32) (j_I q1 7 2) (fun (y13 : Int32) (y14 : Int32) => (some (y13, q1)))) else (some (((-1) : Int32), q1))))))
set_option maxHeartbeats 4000000 in
theorem L_X7_nextNumber_L45 {l : Launch} {G : j_G}  {r : (Int32 × j_M)} : ∀ (n : Nat) {x2 : Int32} {x3 : Int32} {M : j_M} (hs : sh_x M.2.2) {K : Int32 → Int32 → Option (Int32 × j_M)}, f_X7_nextNumber_L45 n  M x2 x3 K = some r → (∀ (y2 : Int32) (y3 : Int32), K y2 y3 = some r → JT_X7_nextNumber l G r 74 [(2, .int y2)] [] M) → JT_X7_nextNumber l G r 45 [(0, .ref 7), (2, .int x2), (3, .int x3)] [] M := by
  intro n
  induction n with
  | zero =>
    intro x2 x3 M hs K h hK
    rw [f_X7_nextNumber_L45] at h; cases h
  | succ n ih =>
    intro x2 x3 M hs K h hK
    rw [f_X7_nextNumber_L45] at h
    refine J_iload_n (pc' := 46) (i := 3) (n := 2) dX7_nextNumber_45 rfl rfl rfl ?_
    refine J_aload_n (pc' := 47) (i := 0) (n := 0) dX7_nextNumber_46 rfl rfl rfl ?_
    refine J_getI (pc' := 50) dX7_nextNumber_47 rfl fl_X7_22 rfl (x_o7 hs) (x_n hs (Nat.le_of_ble_eq_true rfl)) ?_
    refine J_icmp_ge (pc' := 53) (tgt := 74) dX7_nextNumber_50 rfl (by decide) (fun c10 => ?_) (fun c10 => ?_)
    · replace h := j_ip c10 h
      refine J_sub [1] (lv' := [(2, .int x2)]) rfl ?_
      exact hK x2 x3  h
    · replace h := j_iq c10 h
      refine J_bipush (pc' := 55) (v := (10 : Int32)) dX7_nextNumber_53 rfl bp_10 ?_
      refine J_iload_n (pc' := 56) (i := 2) (n := 1) dX7_nextNumber_55 rfl rfl rfl ?_
      refine J_imul (pc' := 57) dX7_nextNumber_56 rfl ?_
      refine J_aload_n (pc' := 58) (i := 0) (n := 0) dX7_nextNumber_57 rfl rfl rfl ?_
      refine J_getR (pc' := 61) (b := 8) dX7_nextNumber_58 rfl fl_X7_11 rfl (x_o7 hs) (x_n hs (Nat.le_of_ble_eq_true rfl)) (x_t0 hs) ?_
      refine J_iload_n (pc' := 62) (i := 3) (n := 2) dX7_nextNumber_61 rfl rfl rfl ?_
      obtain ⟨v11, e12, h⟩ := a_i_inv h
      refine J_calde (pc' := 63) dX7_nextNumber_62 rfl (x_s8 hs) (x_n hs (Nat.le_of_ble_eq_true rfl)) e12 ?_
      refine J_bipush (pc' := 65) (v := (48 : Int32)) dX7_nextNumber_63 rfl bp_48 ?_
      refine J_isub (pc' := 66) dX7_nextNumber_65 rfl ?_
      refine J_iadd (pc' := 67) dX7_nextNumber_66 rfl ?_
      refine J_istore_n (pc' := 68) (i := 2) (lv' := [(2, .int (((10 : Int32) * x2) + (v11 - (48 : Int32)))), (0, .ref 7), (3, .int x3)]) dX7_nextNumber_67 rfl rfl (by decide) rfl ?_
      refine J_iinc (pc' := 71) (i := 3) (n := 2) (v := (x3 + (1 : Int32))) (lv' := [(3, .int (x3 + (1 : Int32))), (2, .int (((10 : Int32) * x2) + (v11 - (48 : Int32)))), (0, .ref 7)]) dX7_nextNumber_68 rfl rfl (j_inc _ _ rfl _) (by decide) rfl ?_
      refine J_goto (pc' := 45) dX7_nextNumber_71 (by decide) ?_
      refine J_sub [2, 1, 0] (lv' := [(0, .ref 7), (2, .int (((10 : Int32) * x2) + (v11 - (48 : Int32)))), (3, .int (x3 + (1 : Int32)))]) rfl ?_
      exact ih hs h hK
set_option maxHeartbeats 4000000 in
theorem c_X7_nextNumber {l : Launch} {G : j_G} {M : j_M}  (hs : sh_x M.2.2) {r : (Int32 × j_M)} (h : f_X7_nextNumber M  = some r) : j_Sp l G md_X7_nextNumber 3 (0, 0) [.ref 7] M (po (some (.int r.1)) r.2) := by
  refine j_Sp.of (by decide) (Nat.le_of_ble_eq_true rfl) ?_
  show JT_X7_nextNumber l G r 0 [(0, .ref 7)] [] M
  unfold f_X7_nextNumber at h
  refine J_aload_n (pc' := 1) (i := 0) (n := 0) dX7_nextNumber_0 rfl rfl rfl ?_
  obtain ⟨q1, e2, h⟩ := bi_inv h
  obtain ⟨c3, h⟩ := j_ck_inv h
  refine J_callV (pc' := 4) (as := []) (rest := []) dX7_nextNumber_1 rfl lk_X7_30 rfl 7 (by decide) rfl (x_o7 hs) (x_n hs (Nat.le_of_ble_eq_true rfl)) (c_X7_next hs e2) ⟨Nat.le_of_ble_eq_true rfl, Nat.le_of_ble_eq_true rfl⟩ (Nat.le_of_ble_eq_true rfl) ⟨Nat.le_of_ble_eq_true rfl, Nat.le_of_ble_eq_true rfl⟩ (j_kv ?_)
  have g4 : sh_x q1.2.2 := j_shE c3 hs
  refine J_aload_n (pc' := 5) (i := 0) (n := 0) dX7_nextNumber_4 rfl rfl rfl ?_
  refine J_getI (pc' := 8) dX7_nextNumber_5 rfl fl_X7_22 rfl (x_o7 g4) (x_n g4 (Nat.le_of_ble_eq_true rfl)) ?_
  refine J_aload_n (pc' := 9) (i := 0) (n := 0) dX7_nextNumber_8 rfl rfl rfl ?_
  refine J_getI (pc' := 12) dX7_nextNumber_9 rfl fl_X7_19 rfl (x_o7 g4) (x_n g4 (Nat.le_of_ble_eq_true rfl)) ?_
  refine J_isub (pc' := 13) dX7_nextNumber_12 rfl ?_
  refine J_istore_n (pc' := 14) (i := 1) (lv' := [(1, .int ((j_I q1 7 3) - (j_I q1 7 2))), (0, .ref 7)]) dX7_nextNumber_13 rfl rfl (by decide) rfl ?_
  refine J_iload_n (pc' := 15) (i := 1) (n := 0) dX7_nextNumber_14 rfl rfl rfl ?_
  refine J_iconst (pc' := 16) (v := (1 : Int32)) dX7_nextNumber_15 rfl ic_1 ?_
  refine J_icmp_lt (pc' := 19) (tgt := 36) dX7_nextNumber_16 rfl (by decide) (fun c5 => ?_) (fun c5 => ?_)
  · replace h := j_ip c5 h
    refine J_iconst (pc' := 37) (v := ((-1) : Int32)) dX7_nextNumber_36 rfl ic_m1 ?_
    exact J_iret rfl dX7_nextNumber_37 ⟨rfl, Nat.le_refl _⟩ (j_pW h)
  · replace h := j_iq c5 h
    refine J_iload_n (pc' := 20) (i := 1) (n := 0) dX7_nextNumber_19 rfl rfl rfl ?_
    refine J_iconst (pc' := 21) (v := (2 : Int32)) dX7_nextNumber_20 rfl ic_2 ?_
    refine J_icmp_gt (pc' := 24) (tgt := 36) dX7_nextNumber_21 rfl (by decide) (fun c6 => ?_) (fun c6 => ?_)
    · replace h := j_ip c6 h
      refine J_iconst (pc' := 37) (v := ((-1) : Int32)) dX7_nextNumber_36 rfl ic_m1 ?_
      exact J_iret rfl dX7_nextNumber_37 ⟨rfl, Nat.le_refl _⟩ (j_pW h)
    · replace h := j_iq c6 h
      refine J_aload_n (pc' := 25) (i := 0) (n := 1) dX7_nextNumber_24 rfl rfl rfl ?_
      refine J_aload_n (pc' := 26) (i := 0) (n := 1) dX7_nextNumber_25 rfl rfl rfl ?_
      refine J_getI (pc' := 29) dX7_nextNumber_26 rfl fl_X7_19 rfl (x_o7 g4) (x_n g4 (Nat.le_of_ble_eq_true rfl)) ?_
      obtain ⟨v7, e8, h⟩ := bi_inv h
      refine J_callV (pc' := 32) (as := [.int (j_I q1 7 2)]) (rest := []) dX7_nextNumber_29 rfl lk_X7_104 rfl 7 (by decide) rfl (x_o7 g4) (x_n g4 (Nat.le_of_ble_eq_true rfl)) (c_X7_sortAt g4 e8) ⟨Nat.le_of_ble_eq_true rfl, Nat.le_of_ble_eq_true rfl⟩ (Nat.le_of_ble_eq_true rfl) ⟨Nat.le_of_ble_eq_true rfl, Nat.le_of_ble_eq_true rfl⟩ (j_kq ?_)
      refine J_iconst (pc' := 33) (v := (2 : Int32)) dX7_nextNumber_32 rfl ic_2 ?_
      refine J_icmp_eq (pc' := 36) (tgt := 38) dX7_nextNumber_33 rfl (by decide) (fun c9 => ?_) (fun c9 => ?_)
      · replace h := j_ip c9 h
        refine J_iconst (pc' := 39) (v := (0 : Int32)) dX7_nextNumber_38 rfl ic_0 ?_
        refine J_istore_n (pc' := 40) (i := 2) (lv' := [(2, .int (0 : Int32)), (1, .int ((j_I q1 7 3) - (j_I q1 7 2))), (0, .ref 7)]) dX7_nextNumber_39 rfl rfl (by decide) rfl ?_
        refine J_aload_n (pc' := 41) (i := 0) (n := 2) dX7_nextNumber_40 rfl rfl rfl ?_
        refine J_getI (pc' := 44) dX7_nextNumber_41 rfl fl_X7_19 rfl (x_o7 g4) (x_n g4 (Nat.le_of_ble_eq_true rfl)) ?_
        refine J_istore_n (pc' := 45) (i := 3) (lv' := [(3, .int (j_I q1 7 2)), (2, .int (0 : Int32)), (1, .int ((j_I q1 7 3) - (j_I q1 7 2))), (0, .ref 7)]) dX7_nextNumber_44 rfl rfl (by decide) rfl ?_
        refine J_sub [3, 1, 0] (lv' := [(0, .ref 7), (2, .int (0 : Int32)), (3, .int (j_I q1 7 2))]) rfl ?_
        refine L_X7_nextNumber_L45 j_fu g4 h (fun y13 y14 h => ?_)
        refine J_iload_n (pc' := 75) (i := 2) (n := 0) dX7_nextNumber_74 rfl rfl rfl ?_
        exact J_iret rfl dX7_nextNumber_75 ⟨rfl, Nat.le_refl _⟩ (j_pW h)
      · replace h := j_iq c9 h
        refine J_iconst (pc' := 37) (v := ((-1) : Int32)) dX7_nextNumber_36 rfl ic_m1 ?_
        exact J_iret rfl dX7_nextNumber_37 ⟨rfl, Nat.le_refl _⟩ (j_pW h)
abbrev JT_X9_within (l : Launch) (G : j_G) (M : j_M) (r : Int32) : Nat → List (Nat × Value) → List Value → j_M → Prop := JJ l G md_X9_within (j_rm 1 (0, 0)) (0, 0) (0, 0) (po (some (.int r)) M)
def f_X9_within (x0 : Int32) (x1 : Int32) (x2 : Int32) : Int32 :=
  if x0 < x1 then ((0 : Int32)) else (if x2 < x0 then ((0 : Int32)) else ((1 : Int32)))
theorem z_X9_within (x0 : Int32) (x1 : Int32) (x2 : Int32) : f_X9_within x0 x1 x2 = 0 ∨ f_X9_within x0 x1 x2 = 1 := by
  unfold f_X9_within
  try simp only [tl, jn]
  repeat' split
  all_goals first | exact Or.inl rfl | exact Or.inr rfl
set_option maxHeartbeats 4000000 in
theorem c_X9_within {l : Launch} {G : j_G} {M : j_M} {x0 : Int32} {x1 : Int32} {x2 : Int32}  {r : Int32} (h : f_X9_within x0 x1 x2 = r) : j_Sp l G md_X9_within 1 (0, 0) [.int x0, .int x1, .int x2] M (po (some (.int r)) M) := by
  refine j_Sp.of (by decide) (Nat.le_of_ble_eq_true rfl) ?_
  show JT_X9_within l G M r 0 [(0, .int x0), (1, .int x1), (2, .int x2)] [] M
  unfold f_X9_within at h
  refine J_iload_n (pc' := 1) (i := 0) (n := 0) dX9_within_0 rfl rfl rfl ?_
  refine J_iload_n (pc' := 2) (i := 1) (n := 1) dX9_within_1 rfl rfl rfl ?_
  refine J_icmp_lt (pc' := 5) (tgt := 14) dX9_within_2 rfl (by decide) (fun c1 => ?_) (fun c1 => ?_)
  · replace h := j_ip c1 h
    refine J_iconst (pc' := 15) (v := (0 : Int32)) dX9_within_14 rfl ic_0 ?_
    exact J_zret (ty := .boolean) rfl rfl dX9_within_15 ⟨rfl, Nat.le_refl _⟩ (j_pI h)
  · replace h := j_iq c1 h
    refine J_iload_n (pc' := 6) (i := 0) (n := 0) dX9_within_5 rfl rfl rfl ?_
    refine J_iload_n (pc' := 7) (i := 2) (n := 2) dX9_within_6 rfl rfl rfl ?_
    refine J_icmp_gt (pc' := 10) (tgt := 14) dX9_within_7 rfl (by decide) (fun c2 => ?_) (fun c2 => ?_)
    · replace h := j_ip c2 h
      refine J_iconst (pc' := 15) (v := (0 : Int32)) dX9_within_14 rfl ic_0 ?_
      exact J_zret (ty := .boolean) rfl rfl dX9_within_15 ⟨rfl, Nat.le_refl _⟩ (j_pI h)
    · replace h := j_iq c2 h
      refine J_iconst (pc' := 11) (v := (1 : Int32)) dX9_within_10 rfl ic_1 ?_
      refine J_goto (pc' := 15) dX9_within_11 (by decide) ?_
      exact J_zret (ty := .boolean) rfl rfl dX9_within_15 ⟨rfl, Nat.le_refl _⟩ (j_pI h)
abbrev JT_X9_isLane (l : Launch) (G : j_G) (M : j_M) (r : Int32) : Nat → List (Nat × Value) → List Value → j_M → Prop := JJ l G md_X9_isLane (j_rm 2 (0, 0)) (0, 0) (0, 0) (po (some (.int r)) M)
def f_X9_isLane (x0 : Int32) : Int32 :=
  tl (f_X9_within x0 (0 : Int32) (3 : Int32)) fun v1 => (v1)
theorem z_X9_isLane (x0 : Int32) : f_X9_isLane x0 = 0 ∨ f_X9_isLane x0 = 1 := by
  unfold f_X9_isLane
  try simp only [tl, jn]
  repeat' split
  all_goals first | exact Or.inl rfl | exact Or.inr rfl | exact z_X9_within _ _ _
set_option maxHeartbeats 4000000 in
theorem c_X9_isLane {l : Launch} {G : j_G} {M : j_M} {x0 : Int32}  {r : Int32} (h : f_X9_isLane x0 = r) : j_Sp l G md_X9_isLane 2 (0, 0) [.int x0] M (po (some (.int r)) M) := by
  refine j_Sp.of (by decide) (Nat.le_of_ble_eq_true rfl) ?_
  show JT_X9_isLane l G M r 0 [(0, .int x0)] [] M
  unfold f_X9_isLane at h
  refine J_iload_n (pc' := 1) (i := 0) (n := 0) dX9_isLane_0 rfl rfl rfl ?_
  refine J_iconst (pc' := 2) (v := (0 : Int32)) dX9_isLane_1 rfl ic_0 ?_
  refine J_iconst (pc' := 3) (v := (3 : Int32)) dX9_isLane_2 rfl ic_3 ?_
  obtain ⟨v1, e2, h⟩ := tl_inv h
  refine J_callS (pc' := 6) (as := [.int x0, .int (0 : Int32), .int (3 : Int32)]) (rest := []) dX9_isLane_3 rfl lk_X9_92 rfl (c_X9_within e2) ⟨Nat.le_of_ble_eq_true rfl, Nat.le_of_ble_eq_true rfl⟩ (Nat.le_of_ble_eq_true rfl) ⟨Nat.le_of_ble_eq_true rfl, Nat.le_of_ble_eq_true rfl⟩ (j_kq ?_)
  exact J_zret (ty := .boolean) rfl (j_z01 (e2 ▸ z_X9_within _ _ _)) dX9_isLane_6 ⟨rfl, Nat.le_refl _⟩ (j_pI h)
abbrev JT_X7_tellSign (l : Launch) (G : j_G) (r : (Int32 × j_M)) : Nat → List (Nat × Value) → List Value → j_M → Prop := JJ l G md_X7_tellSign (j_rm 4 (0, 0)) (0, 0) (0, 0) (po (some (.int r.1)) r.2)
noncomputable def f_X7_tellSign (M : j_M)  : Option (Int32 × j_M) :=
  (f_X7_nextNumber M).bind fun q1 => j_ck M q1.2 (tl (f_X9_isLane q1.1) fun v5 => (if v5 = 0 then (some ((0 : Int32), q1.2)) else ((f_X7_nextNumber q1.2).bind fun q8 => j_ck q1.2 q8.2 (tl (f_X9_within q8.1 (0 : Int32) (2 : Int32)) fun v12 => (if v12 = 0 then (some ((0 : Int32), q8.2)) else (w_i q8.2 (26 + 1) 4 q1.1 q8.1 fun M15 => (some ((1 : Int32), M15))))))))
set_option maxHeartbeats 4000000 in
theorem c_X7_tellSign {l : Launch} {G : j_G} {M : j_M}  (hs : sh_x M.2.2) {r : (Int32 × j_M)} (h : f_X7_tellSign M  = some r) : j_Sp l G md_X7_tellSign 4 (0, 0) [.ref 7, .ref 26] M (po (some (.int r.1)) r.2) := by
  refine j_Sp.of (by decide) (Nat.le_of_ble_eq_true rfl) ?_
  show JT_X7_tellSign l G r 0 [(0, .ref 7), (1, .ref 26)] [] M
  unfold f_X7_tellSign at h
  refine J_aload_n (pc' := 1) (i := 0) (n := 0) dX7_tellSign_0 rfl rfl rfl ?_
  obtain ⟨q1, e2, h⟩ := bi_inv h
  obtain ⟨c3, h⟩ := j_ck_inv h
  refine J_callV (pc' := 4) (as := []) (rest := []) dX7_tellSign_1 rfl lk_X7_65 rfl 7 (by decide) rfl (x_o7 hs) (x_n hs (Nat.le_of_ble_eq_true rfl)) (c_X7_nextNumber hs e2) ⟨Nat.le_of_ble_eq_true rfl, Nat.le_of_ble_eq_true rfl⟩ (Nat.le_of_ble_eq_true rfl) ⟨Nat.le_of_ble_eq_true rfl, Nat.le_of_ble_eq_true rfl⟩ (j_kq ?_)
  have g4 : sh_x q1.2.2.2 := j_shE c3 hs
  refine J_istore_n (pc' := 5) (i := 2) (lv' := [(2, .int q1.1), (0, .ref 7), (1, .ref 26)]) dX7_tellSign_4 rfl rfl (by decide) rfl ?_
  refine J_iload_n (pc' := 6) (i := 2) (n := 0) dX7_tellSign_5 rfl rfl rfl ?_
  obtain ⟨v5, e6, h⟩ := tl_inv h
  refine J_callSN (pc' := 9) (as := [.int q1.1]) (rest := []) dX7_tellSign_6 rfl lk_X7_69 rfl (c_X9_isLane e6) ⟨Nat.le_of_ble_eq_true rfl, Nat.le_of_ble_eq_true rfl⟩ (Nat.le_of_ble_eq_true rfl) ⟨Nat.le_of_ble_eq_true rfl, Nat.le_of_ble_eq_true rfl⟩ (j_kq ?_)
  refine J_if_ne (pc' := 12) (tgt := 14) dX7_tellSign_9 rfl (by decide) (fun c7 => ?_) (fun c7 => ?_)
  · replace h := j_iq c7 h
    refine J_aload_n (pc' := 15) (i := 0) (n := 1) dX7_tellSign_14 rfl rfl rfl ?_
    obtain ⟨q8, e9, h⟩ := bi_inv h
    obtain ⟨c10, h⟩ := j_ck_inv h
    refine J_callV (pc' := 18) (as := []) (rest := []) dX7_tellSign_15 rfl lk_X7_65 rfl 7 (by decide) rfl (x_o7 g4) (x_n g4 (Nat.le_of_ble_eq_true rfl)) (c_X7_nextNumber g4 e9) ⟨Nat.le_of_ble_eq_true rfl, Nat.le_of_ble_eq_true rfl⟩ (Nat.le_of_ble_eq_true rfl) ⟨Nat.le_of_ble_eq_true rfl, Nat.le_of_ble_eq_true rfl⟩ (j_kq ?_)
    have g11 : sh_x q8.2.2.2 := j_shE c10 g4
    refine J_istore_n (pc' := 19) (i := 3) (lv' := [(3, .int q8.1), (2, .int q1.1), (0, .ref 7), (1, .ref 26)]) dX7_tellSign_18 rfl rfl (by decide) rfl ?_
    refine J_iload_n (pc' := 20) (i := 3) (n := 0) dX7_tellSign_19 rfl rfl rfl ?_
    refine J_iconst (pc' := 21) (v := (0 : Int32)) dX7_tellSign_20 rfl ic_0 ?_
    refine J_iconst (pc' := 22) (v := (2 : Int32)) dX7_tellSign_21 rfl ic_2 ?_
    obtain ⟨v12, e13, h⟩ := tl_inv h
    refine J_callSN (pc' := 25) (as := [.int q8.1, .int (0 : Int32), .int (2 : Int32)]) (rest := []) dX7_tellSign_22 rfl lk_X7_73 rfl (c_X9_within e13) ⟨Nat.le_of_ble_eq_true rfl, Nat.le_of_ble_eq_true rfl⟩ (Nat.le_of_ble_eq_true rfl) ⟨Nat.le_of_ble_eq_true rfl, Nat.le_of_ble_eq_true rfl⟩ (j_kq ?_)
    refine J_if_ne (pc' := 28) (tgt := 30) dX7_tellSign_25 rfl (by decide) (fun c14 => ?_) (fun c14 => ?_)
    · replace h := j_iq c14 h
      refine J_aload_n (pc' := 31) (i := 1) (n := 3) dX7_tellSign_30 rfl rfl rfl ?_
      refine J_getR (pc' := 34) (b := (26 + 1)) dX7_tellSign_31 rfl fl_X7_77 rfl (b_o (x_b26 g11)) (b_no (x_b26 g11)) (b_r1 (x_b26 g11)) ?_
      refine J_iload_n (pc' := 35) (i := 2) (n := 1) dX7_tellSign_34 rfl rfl rfl ?_
      refine J_iload_n (pc' := 36) (i := 3) (n := 0) dX7_tellSign_35 rfl rfl rfl ?_
      obtain ⟨M15, e16, h⟩ := w_i_inv h
      have g17 : sh_x M15.2.2 := j_shI e16.2 g11
      refine J_iaste (pc' := 37) dX7_tellSign_36 rfl (b_s1 (x_b26 g11)) (b_n (x_b26 g11) (Nat.le_of_ble_eq_true rfl)) e16 ?_
      refine J_iconst (pc' := 38) (v := (1 : Int32)) dX7_tellSign_37 rfl ic_1 ?_
      exact J_zret (ty := .boolean) rfl rfl dX7_tellSign_38 ⟨rfl, Nat.le_refl _⟩ (j_pW h)
    · replace h := j_ip c14 h
      refine J_iconst (pc' := 29) (v := (0 : Int32)) dX7_tellSign_28 rfl ic_0 ?_
      exact J_zret (ty := .boolean) rfl rfl dX7_tellSign_29 ⟨rfl, Nat.le_refl _⟩ (j_pW h)
  · replace h := j_ip c7 h
    refine J_iconst (pc' := 13) (v := (0 : Int32)) dX7_tellSign_12 rfl ic_0 ?_
    exact J_zret (ty := .boolean) rfl rfl dX7_tellSign_13 ⟨rfl, Nat.le_refl _⟩ (j_pW h)
abbrev JT_X7_tellShut (l : Launch) (G : j_G) (r : (Int32 × j_M)) : Nat → List (Nat × Value) → List Value → j_M → Prop := JJ l G md_X7_tellShut (j_rm 4 (0, 0)) (0, 0) (0, 0) (po (some (.int r.1)) r.2)
noncomputable def f_X7_tellShut (M : j_M)  : Option (Int32 × j_M) :=
  (f_X7_nextNumber M).bind fun q1 => j_ck M q1.2 (tl (f_X9_isLane q1.1) fun v5 => (if v5 = 0 then (some ((0 : Int32), q1.2)) else ((f_X0_members q1.2 26 (26 + 5) q1.1).bind fun v8 => (if v8 = 0 then (w_i q1.2 (26 + 2) 4 q1.1 (1 : Int32) fun M11 => (some ((1 : Int32), M11))) else (some ((0 : Int32), q1.2))))))
set_option maxHeartbeats 4000000 in
theorem c_X7_tellShut {l : Launch} {G : j_G} {M : j_M}  (hs : sh_x M.2.2) {r : (Int32 × j_M)} (h : f_X7_tellShut M  = some r) : j_Sp l G md_X7_tellShut 4 (0, 0) [.ref 7, .ref 26] M (po (some (.int r.1)) r.2) := by
  refine j_Sp.of (by decide) (Nat.le_of_ble_eq_true rfl) ?_
  show JT_X7_tellShut l G r 0 [(0, .ref 7), (1, .ref 26)] [] M
  unfold f_X7_tellShut at h
  refine J_aload_n (pc' := 1) (i := 0) (n := 0) dX7_tellShut_0 rfl rfl rfl ?_
  obtain ⟨q1, e2, h⟩ := bi_inv h
  obtain ⟨c3, h⟩ := j_ck_inv h
  refine J_callV (pc' := 4) (as := []) (rest := []) dX7_tellShut_1 rfl lk_X7_65 rfl 7 (by decide) rfl (x_o7 hs) (x_n hs (Nat.le_of_ble_eq_true rfl)) (c_X7_nextNumber hs e2) ⟨Nat.le_of_ble_eq_true rfl, Nat.le_of_ble_eq_true rfl⟩ (Nat.le_of_ble_eq_true rfl) ⟨Nat.le_of_ble_eq_true rfl, Nat.le_of_ble_eq_true rfl⟩ (j_kq ?_)
  have g4 : sh_x q1.2.2.2 := j_shE c3 hs
  refine J_istore_n (pc' := 5) (i := 2) (lv' := [(2, .int q1.1), (0, .ref 7), (1, .ref 26)]) dX7_tellShut_4 rfl rfl (by decide) rfl ?_
  refine J_iload_n (pc' := 6) (i := 2) (n := 0) dX7_tellShut_5 rfl rfl rfl ?_
  obtain ⟨v5, e6, h⟩ := tl_inv h
  refine J_callSN (pc' := 9) (as := [.int q1.1]) (rest := []) dX7_tellShut_6 rfl lk_X7_69 rfl (c_X9_isLane e6) ⟨Nat.le_of_ble_eq_true rfl, Nat.le_of_ble_eq_true rfl⟩ (Nat.le_of_ble_eq_true rfl) ⟨Nat.le_of_ble_eq_true rfl, Nat.le_of_ble_eq_true rfl⟩ (j_kq ?_)
  refine J_if_eq (pc' := 12) (tgt := 24) dX7_tellShut_9 rfl (by decide) (fun c7 => ?_) (fun c7 => ?_)
  · replace h := j_ip c7 h
    refine J_iconst (pc' := 25) (v := (0 : Int32)) dX7_tellShut_24 rfl ic_0 ?_
    exact J_zret (ty := .boolean) rfl rfl dX7_tellShut_25 ⟨rfl, Nat.le_refl _⟩ (j_pW h)
  · replace h := j_iq c7 h
    refine J_aload_n (pc' := 13) (i := 1) (n := 2) dX7_tellShut_12 rfl rfl rfl ?_
    refine J_aload_n (pc' := 14) (i := 1) (n := 2) dX7_tellShut_13 rfl rfl rfl ?_
    refine J_getR (pc' := 17) (b := (26 + 5)) dX7_tellShut_14 rfl fl_X7_81 rfl (b_o (x_b26 g4)) (b_no (x_b26 g4)) (b_r5 (x_b26 g4)) ?_
    refine J_iload_n (pc' := 18) (i := 2) (n := 0) dX7_tellShut_17 rfl rfl rfl ?_
    obtain ⟨v8, e9, h⟩ := bi_inv h
    refine J_callVN (pc' := 21) (as := [.ref (26 + 5), .int q1.1]) (rest := []) dX7_tellShut_18 rfl lk_X7_84 rfl 0 (by decide) rfl (b_o (x_b26 g4)) (b_no (x_b26 g4)) (c_X0_members (x_b26 g4) ⟨(b_s5 (x_b26 g4)), (b_n (x_b26 g4) (Nat.le_of_ble_eq_true rfl))⟩ e9) ⟨Nat.le_of_ble_eq_true rfl, Nat.le_of_ble_eq_true rfl⟩ (Nat.le_of_ble_eq_true rfl) ⟨Nat.le_of_ble_eq_true rfl, Nat.le_of_ble_eq_true rfl⟩ (j_kq ?_)
    refine J_if_eq (pc' := 24) (tgt := 26) dX7_tellShut_21 rfl (by decide) (fun c10 => ?_) (fun c10 => ?_)
    · replace h := j_ip c10 h
      refine J_aload_n (pc' := 27) (i := 1) (n := 2) dX7_tellShut_26 rfl rfl rfl ?_
      refine J_getR (pc' := 30) (b := (26 + 2)) dX7_tellShut_27 rfl fl_X7_88 rfl (b_o (x_b26 g4)) (b_no (x_b26 g4)) (b_r2 (x_b26 g4)) ?_
      refine J_iload_n (pc' := 31) (i := 2) (n := 0) dX7_tellShut_30 rfl rfl rfl ?_
      refine J_iconst (pc' := 32) (v := (1 : Int32)) dX7_tellShut_31 rfl ic_1 ?_
      obtain ⟨M11, e12, h⟩ := w_i_inv h
      have g13 : sh_x M11.2.2 := j_shI e12.2 g4
      refine J_iaste (pc' := 33) dX7_tellShut_32 rfl (b_s2 (x_b26 g4)) (b_n (x_b26 g4) (Nat.le_of_ble_eq_true rfl)) e12 ?_
      refine J_iconst (pc' := 34) (v := (1 : Int32)) dX7_tellShut_33 rfl ic_1 ?_
      exact J_zret (ty := .boolean) rfl rfl dX7_tellShut_34 ⟨rfl, Nat.le_refl _⟩ (j_pW h)
    · replace h := j_iq c10 h
      refine J_iconst (pc' := 25) (v := (0 : Int32)) dX7_tellShut_24 rfl ic_0 ?_
      exact J_zret (ty := .boolean) rfl rfl dX7_tellShut_25 ⟨rfl, Nat.le_refl _⟩ (j_pW h)
abbrev JT_X9_isKind (l : Launch) (G : j_G) (M : j_M) (r : Int32) : Nat → List (Nat × Value) → List Value → j_M → Prop := JJ l G md_X9_isKind (j_rm 2 (0, 0)) (0, 0) (0, 0) (po (some (.int r)) M)
def f_X9_isKind (x0 : Int32) : Int32 :=
  tl (f_X9_within x0 (0 : Int32) (5 : Int32)) fun v1 => (v1)
theorem z_X9_isKind (x0 : Int32) : f_X9_isKind x0 = 0 ∨ f_X9_isKind x0 = 1 := by
  unfold f_X9_isKind
  try simp only [tl, jn]
  repeat' split
  all_goals first | exact Or.inl rfl | exact Or.inr rfl | exact z_X9_within _ _ _
set_option maxHeartbeats 4000000 in
theorem c_X9_isKind {l : Launch} {G : j_G} {M : j_M} {x0 : Int32}  {r : Int32} (h : f_X9_isKind x0 = r) : j_Sp l G md_X9_isKind 2 (0, 0) [.int x0] M (po (some (.int r)) M) := by
  refine j_Sp.of (by decide) (Nat.le_of_ble_eq_true rfl) ?_
  show JT_X9_isKind l G M r 0 [(0, .int x0)] [] M
  unfold f_X9_isKind at h
  refine J_iload_n (pc' := 1) (i := 0) (n := 0) dX9_isKind_0 rfl rfl rfl ?_
  refine J_iconst (pc' := 2) (v := (0 : Int32)) dX9_isKind_1 rfl ic_0 ?_
  refine J_iconst (pc' := 3) (v := (5 : Int32)) dX9_isKind_2 rfl ic_5 ?_
  obtain ⟨v1, e2, h⟩ := tl_inv h
  refine J_callS (pc' := 6) (as := [.int x0, .int (0 : Int32), .int (5 : Int32)]) (rest := []) dX9_isKind_3 rfl lk_X9_92 rfl (c_X9_within e2) ⟨Nat.le_of_ble_eq_true rfl, Nat.le_of_ble_eq_true rfl⟩ (Nat.le_of_ble_eq_true rfl) ⟨Nat.le_of_ble_eq_true rfl, Nat.le_of_ble_eq_true rfl⟩ (j_kq ?_)
  exact J_zret (ty := .boolean) rfl (j_z01 (e2 ▸ z_X9_within _ _ _)) dX9_isKind_6 ⟨rfl, Nat.le_refl _⟩ (j_pI h)
abbrev JT_X9_isPace (l : Launch) (G : j_G) (M : j_M) (r : Int32) : Nat → List (Nat × Value) → List Value → j_M → Prop := JJ l G md_X9_isPace (j_rm 2 (0, 0)) (0, 0) (0, 0) (po (some (.int r)) M)
def f_X9_isPace (x0 : Int32) : Int32 :=
  tl (f_X9_within x0 (20 : Int32) (90 : Int32)) fun v1 => (v1)
theorem z_X9_isPace (x0 : Int32) : f_X9_isPace x0 = 0 ∨ f_X9_isPace x0 = 1 := by
  unfold f_X9_isPace
  try simp only [tl, jn]
  repeat' split
  all_goals first | exact Or.inl rfl | exact Or.inr rfl | exact z_X9_within _ _ _
set_option maxHeartbeats 4000000 in
theorem c_X9_isPace {l : Launch} {G : j_G} {M : j_M} {x0 : Int32}  {r : Int32} (h : f_X9_isPace x0 = r) : j_Sp l G md_X9_isPace 2 (0, 0) [.int x0] M (po (some (.int r)) M) := by
  refine j_Sp.of (by decide) (Nat.le_of_ble_eq_true rfl) ?_
  show JT_X9_isPace l G M r 0 [(0, .int x0)] [] M
  unfold f_X9_isPace at h
  refine J_iload_n (pc' := 1) (i := 0) (n := 0) dX9_isPace_0 rfl rfl rfl ?_
  refine J_bipush (pc' := 3) (v := (20 : Int32)) dX9_isPace_1 rfl bp_20 ?_
  refine J_bipush (pc' := 5) (v := (90 : Int32)) dX9_isPace_3 rfl bp_90 ?_
  obtain ⟨v1, e2, h⟩ := tl_inv h
  refine J_callS (pc' := 8) (as := [.int x0, .int (20 : Int32), .int (90 : Int32)]) (rest := []) dX9_isPace_5 rfl lk_X9_92 rfl (c_X9_within e2) ⟨Nat.le_of_ble_eq_true rfl, Nat.le_of_ble_eq_true rfl⟩ (Nat.le_of_ble_eq_true rfl) ⟨Nat.le_of_ble_eq_true rfl, Nat.le_of_ble_eq_true rfl⟩ (j_kq ?_)
  exact J_zret (ty := .boolean) rfl (j_z01 (e2 ▸ z_X9_within _ _ _)) dX9_isPace_8 ⟨rfl, Nat.le_refl _⟩ (j_pI h)
abbrev JT_X7_tellOne (l : Launch) (G : j_G) (r : (Int32 × j_M)) : Nat → List (Nat × Value) → List Value → j_M → Prop := JJ l G md_X7_tellOne (j_rm 4 (0, 0)) (0, 0) (0, 0) (po (some (.int r.1)) r.2)
noncomputable def f_X7_tellOne (M : j_M)  : Option (Int32 × j_M) :=
  (f_X7_nextNumber M).bind fun q1 => j_ck M q1.2 (tl (f_X9_isKind q1.1) fun v5 => (if v5 = 0 then (some ((0 : Int32), q1.2)) else ((f_X7_nextNumber q1.2).bind fun q8 => j_ck q1.2 q8.2 (tl (f_X9_isPace q8.1) fun v12 => (if v12 = 0 then (some ((0 : Int32), q8.2)) else ((f_X7_nextNumber q8.2).bind fun q15 => j_ck q8.2 q15.2 (tl (f_X9_isLane q15.1) fun v19 => (if v19 = 0 then (some ((0 : Int32), q15.2)) else ((f_X0_isOpen q15.2 26 q15.1).bind fun v22 => (if v22 = 0 then (some ((0 : Int32), q15.2)) else ((f_X0_comes q15.2 26 q1.1 q8.1 q15.1).bind fun q25 => j_ck q15.2 q25.2 (if q25.1 = ((-1) : Int32) then (some ((0 : Int32), q25.2)) else (some ((1 : Int32), q25.2))))))))))))))
set_option maxHeartbeats 4000000 in
theorem c_X7_tellOne {l : Launch} {G : j_G} {M : j_M}  (hs : sh_x M.2.2) {r : (Int32 × j_M)} (h : f_X7_tellOne M  = some r) : j_Sp l G md_X7_tellOne 4 (0, 0) [.ref 7, .ref 26] M (po (some (.int r.1)) r.2) := by
  refine j_Sp.of (by decide) (Nat.le_of_ble_eq_true rfl) ?_
  show JT_X7_tellOne l G r 0 [(0, .ref 7), (1, .ref 26)] [] M
  unfold f_X7_tellOne at h
  refine J_aload_n (pc' := 1) (i := 0) (n := 0) dX7_tellOne_0 rfl rfl rfl ?_
  obtain ⟨q1, e2, h⟩ := bi_inv h
  obtain ⟨c3, h⟩ := j_ck_inv h
  refine J_callV (pc' := 4) (as := []) (rest := []) dX7_tellOne_1 rfl lk_X7_65 rfl 7 (by decide) rfl (x_o7 hs) (x_n hs (Nat.le_of_ble_eq_true rfl)) (c_X7_nextNumber hs e2) ⟨Nat.le_of_ble_eq_true rfl, Nat.le_of_ble_eq_true rfl⟩ (Nat.le_of_ble_eq_true rfl) ⟨Nat.le_of_ble_eq_true rfl, Nat.le_of_ble_eq_true rfl⟩ (j_kq ?_)
  have g4 : sh_x q1.2.2.2 := j_shE c3 hs
  refine J_istore_n (pc' := 5) (i := 2) (lv' := [(2, .int q1.1), (0, .ref 7), (1, .ref 26)]) dX7_tellOne_4 rfl rfl (by decide) rfl ?_
  refine J_iload_n (pc' := 6) (i := 2) (n := 0) dX7_tellOne_5 rfl rfl rfl ?_
  obtain ⟨v5, e6, h⟩ := tl_inv h
  refine J_callSN (pc' := 9) (as := [.int q1.1]) (rest := []) dX7_tellOne_6 rfl lk_X7_91 rfl (c_X9_isKind e6) ⟨Nat.le_of_ble_eq_true rfl, Nat.le_of_ble_eq_true rfl⟩ (Nat.le_of_ble_eq_true rfl) ⟨Nat.le_of_ble_eq_true rfl, Nat.le_of_ble_eq_true rfl⟩ (j_kq ?_)
  refine J_if_ne (pc' := 12) (tgt := 14) dX7_tellOne_9 rfl (by decide) (fun c7 => ?_) (fun c7 => ?_)
  · replace h := j_iq c7 h
    refine J_aload_n (pc' := 15) (i := 0) (n := 1) dX7_tellOne_14 rfl rfl rfl ?_
    obtain ⟨q8, e9, h⟩ := bi_inv h
    obtain ⟨c10, h⟩ := j_ck_inv h
    refine J_callV (pc' := 18) (as := []) (rest := []) dX7_tellOne_15 rfl lk_X7_65 rfl 7 (by decide) rfl (x_o7 g4) (x_n g4 (Nat.le_of_ble_eq_true rfl)) (c_X7_nextNumber g4 e9) ⟨Nat.le_of_ble_eq_true rfl, Nat.le_of_ble_eq_true rfl⟩ (Nat.le_of_ble_eq_true rfl) ⟨Nat.le_of_ble_eq_true rfl, Nat.le_of_ble_eq_true rfl⟩ (j_kq ?_)
    have g11 : sh_x q8.2.2.2 := j_shE c10 g4
    refine J_istore_n (pc' := 19) (i := 3) (lv' := [(3, .int q8.1), (2, .int q1.1), (0, .ref 7), (1, .ref 26)]) dX7_tellOne_18 rfl rfl (by decide) rfl ?_
    refine J_iload_n (pc' := 20) (i := 3) (n := 0) dX7_tellOne_19 rfl rfl rfl ?_
    obtain ⟨v12, e13, h⟩ := tl_inv h
    refine J_callSN (pc' := 23) (as := [.int q8.1]) (rest := []) dX7_tellOne_20 rfl lk_X7_94 rfl (c_X9_isPace e13) ⟨Nat.le_of_ble_eq_true rfl, Nat.le_of_ble_eq_true rfl⟩ (Nat.le_of_ble_eq_true rfl) ⟨Nat.le_of_ble_eq_true rfl, Nat.le_of_ble_eq_true rfl⟩ (j_kq ?_)
    refine J_if_ne (pc' := 26) (tgt := 28) dX7_tellOne_23 rfl (by decide) (fun c14 => ?_) (fun c14 => ?_)
    · replace h := j_iq c14 h
      refine J_aload_n (pc' := 29) (i := 0) (n := 2) dX7_tellOne_28 rfl rfl rfl ?_
      obtain ⟨q15, e16, h⟩ := bi_inv h
      obtain ⟨c17, h⟩ := j_ck_inv h
      refine J_callV (pc' := 32) (as := []) (rest := []) dX7_tellOne_29 rfl lk_X7_65 rfl 7 (by decide) rfl (x_o7 g11) (x_n g11 (Nat.le_of_ble_eq_true rfl)) (c_X7_nextNumber g11 e16) ⟨Nat.le_of_ble_eq_true rfl, Nat.le_of_ble_eq_true rfl⟩ (Nat.le_of_ble_eq_true rfl) ⟨Nat.le_of_ble_eq_true rfl, Nat.le_of_ble_eq_true rfl⟩ (j_kq ?_)
      have g18 : sh_x q15.2.2.2 := j_shE c17 g11
      refine J_istore (pc' := 34) (i := 4) (lv' := [(4, .int q15.1), (3, .int q8.1), (2, .int q1.1), (0, .ref 7), (1, .ref 26)]) dX7_tellOne_32 rfl (by decide) rfl ?_
      refine J_iload (pc' := 36) (i := 4) (n := 0) dX7_tellOne_34 rfl rfl ?_
      obtain ⟨v19, e20, h⟩ := tl_inv h
      refine J_callSN (pc' := 39) (as := [.int q15.1]) (rest := []) dX7_tellOne_36 rfl lk_X7_69 rfl (c_X9_isLane e20) ⟨Nat.le_of_ble_eq_true rfl, Nat.le_of_ble_eq_true rfl⟩ (Nat.le_of_ble_eq_true rfl) ⟨Nat.le_of_ble_eq_true rfl, Nat.le_of_ble_eq_true rfl⟩ (j_kq ?_)
      refine J_if_eq (pc' := 42) (tgt := 67) dX7_tellOne_39 rfl (by decide) (fun c21 => ?_) (fun c21 => ?_)
      · replace h := j_ip c21 h
        refine J_iconst (pc' := 68) (v := (0 : Int32)) dX7_tellOne_67 rfl ic_0 ?_
        exact J_zret (ty := .boolean) rfl rfl dX7_tellOne_68 ⟨rfl, Nat.le_refl _⟩ (j_pW h)
      · replace h := j_iq c21 h
        refine J_aload_n (pc' := 43) (i := 1) (n := 4) dX7_tellOne_42 rfl rfl rfl ?_
        refine J_iload (pc' := 45) (i := 4) (n := 0) dX7_tellOne_43 rfl rfl ?_
        obtain ⟨v22, e23, h⟩ := bi_inv h
        refine J_callVN (pc' := 48) (as := [.int q15.1]) (rest := []) dX7_tellOne_45 rfl lk_X7_97 rfl 0 (by decide) rfl (b_o (x_b26 g18)) (b_no (x_b26 g18)) (c_X0_isOpen (x_b26 g18) e23) ⟨Nat.le_of_ble_eq_true rfl, Nat.le_of_ble_eq_true rfl⟩ (Nat.le_of_ble_eq_true rfl) ⟨Nat.le_of_ble_eq_true rfl, Nat.le_of_ble_eq_true rfl⟩ (j_kq ?_)
        refine J_if_eq (pc' := 51) (tgt := 67) dX7_tellOne_48 rfl (by decide) (fun c24 => ?_) (fun c24 => ?_)
        · replace h := j_ip c24 h
          refine J_iconst (pc' := 68) (v := (0 : Int32)) dX7_tellOne_67 rfl ic_0 ?_
          exact J_zret (ty := .boolean) rfl rfl dX7_tellOne_68 ⟨rfl, Nat.le_refl _⟩ (j_pW h)
        · replace h := j_iq c24 h
          refine J_aload_n (pc' := 52) (i := 1) (n := 4) dX7_tellOne_51 rfl rfl rfl ?_
          refine J_iload_n (pc' := 53) (i := 2) (n := 2) dX7_tellOne_52 rfl rfl rfl ?_
          refine J_iload_n (pc' := 54) (i := 3) (n := 1) dX7_tellOne_53 rfl rfl rfl ?_
          refine J_iload (pc' := 56) (i := 4) (n := 0) dX7_tellOne_54 rfl rfl ?_
          obtain ⟨q25, e26, h⟩ := bi_inv h
          obtain ⟨c27, h⟩ := j_ck_inv h
          refine J_callVN (pc' := 59) (as := [.int q1.1, .int q8.1, .int q15.1]) (rest := []) dX7_tellOne_56 rfl lk_X7_100 rfl 0 (by decide) rfl (b_o (x_b26 g18)) (b_no (x_b26 g18)) (c_X0_comes (x_b26 g18) e26) ⟨Nat.le_of_ble_eq_true rfl, Nat.le_of_ble_eq_true rfl⟩ (Nat.le_of_ble_eq_true rfl) ⟨Nat.le_of_ble_eq_true rfl, Nat.le_of_ble_eq_true rfl⟩ (j_kq ?_)
          have g28 : sh_x q25.2.2.2 := j_shE c27 g18
          refine J_iconst (pc' := 60) (v := ((-1) : Int32)) dX7_tellOne_59 rfl ic_m1 ?_
          refine J_icmp_eq (pc' := 63) (tgt := 67) dX7_tellOne_60 rfl (by decide) (fun c29 => ?_) (fun c29 => ?_)
          · replace h := j_ip c29 h
            refine J_iconst (pc' := 68) (v := (0 : Int32)) dX7_tellOne_67 rfl ic_0 ?_
            exact J_zret (ty := .boolean) rfl rfl dX7_tellOne_68 ⟨rfl, Nat.le_refl _⟩ (j_pW h)
          · replace h := j_iq c29 h
            refine J_iconst (pc' := 64) (v := (1 : Int32)) dX7_tellOne_63 rfl ic_1 ?_
            refine J_goto (pc' := 68) dX7_tellOne_64 (by decide) ?_
            exact J_zret (ty := .boolean) rfl rfl dX7_tellOne_68 ⟨rfl, Nat.le_refl _⟩ (j_pW h)
    · replace h := j_ip c14 h
      refine J_iconst (pc' := 27) (v := (0 : Int32)) dX7_tellOne_26 rfl ic_0 ?_
      exact J_zret (ty := .boolean) rfl rfl dX7_tellOne_27 ⟨rfl, Nat.le_refl _⟩ (j_pW h)
  · replace h := j_ip c7 h
    refine J_iconst (pc' := 13) (v := (0 : Int32)) dX7_tellOne_12 rfl ic_0 ?_
    exact J_zret (ty := .boolean) rfl rfl dX7_tellOne_13 ⟨rfl, Nat.le_refl _⟩ (j_pW h)
abbrev JT_X7_tellItem (l : Launch) (G : j_G) (r : (Int32 × j_M)) : Nat → List (Nat × Value) → List Value → j_M → Prop := JJ l G md_X7_tellItem (j_rm 6 (0, 0)) (0, 0) (0, 0) (po (some (.int r.1)) r.2)
noncomputable def f_X7_tellItem (M : j_M)  : Option (Int32 × j_M) :=
  (f_X7_isWord M 1).bind fun v1 => (if v1 = 0 then ((f_X7_isWord M 2).bind fun v4 => (if v4 = 0 then ((f_X7_isWord M 3).bind fun v7 => (if v7 = 0 then (some ((0 : Int32), M)) else (if (7 : Int32) ≤ (j_I M 26 9) then (some ((0 : Int32), M)) else ((f_X7_tellOne M).bind fun q11 => j_ck M q11.2 (if q11.1 = 0 then (some ((0 : Int32), q11.2)) else (some ((1 : Int32), q11.2))))))) else ((f_X7_tellShut M).bind fun q16 => j_ck M q16.2 (z_b q16.1 (some (q16.1, q16.2)))))) else ((f_X7_tellSign M).bind fun q20 => j_ck M q20.2 (z_b q20.1 (some (q20.1, q20.2)))))
set_option maxHeartbeats 4000000 in
theorem c_X7_tellItem {l : Launch} {G : j_G} {M : j_M}  (hs : sh_x M.2.2) {r : (Int32 × j_M)} (h : f_X7_tellItem M  = some r) : j_Sp l G md_X7_tellItem 6 (0, 0) [.ref 7, .ref 26] M (po (some (.int r.1)) r.2) := by
  refine j_Sp.of (by decide) (Nat.le_of_ble_eq_true rfl) ?_
  show JT_X7_tellItem l G r 0 [(0, .ref 7), (1, .ref 26)] [] M
  unfold f_X7_tellItem at h
  refine J_aload_n (pc' := 1) (i := 0) (n := 0) dX7_tellItem_0 rfl rfl rfl ?_
  refine J_ldcS1 (pc' := 3) dX7_tellItem_1 rfl rfl ?_
  obtain ⟨v1, e2, h⟩ := bi_inv h
  refine J_callV (pc' := 6) (as := [.ref (1000001 + 1)]) (rest := []) dX7_tellItem_3 rfl lk_X7_35 rfl 7 (by decide) rfl (x_o7 hs) (x_n hs (Nat.le_of_ble_eq_true rfl)) (c_X7_isWord (Nat.le_of_ble_eq_true rfl) hs e2) ⟨Nat.le_of_ble_eq_true rfl, Nat.le_of_ble_eq_true rfl⟩ (Nat.le_of_ble_eq_true rfl) ⟨Nat.le_of_ble_eq_true rfl, Nat.le_of_ble_eq_true rfl⟩ (j_kq ?_)
  refine J_if_eq (pc' := 9) (tgt := 15) dX7_tellItem_6 rfl (by decide) (fun c3 => ?_) (fun c3 => ?_)
  · replace h := j_ip c3 h
    refine J_aload_n (pc' := 16) (i := 0) (n := 0) dX7_tellItem_15 rfl rfl rfl ?_
    refine J_ldcS2 (pc' := 18) dX7_tellItem_16 rfl rfl ?_
    obtain ⟨v4, e5, h⟩ := bi_inv h
    refine J_callV (pc' := 21) (as := [.ref (1000001 + 2)]) (rest := []) dX7_tellItem_18 rfl lk_X7_35 rfl 7 (by decide) rfl (x_o7 hs) (x_n hs (Nat.le_of_ble_eq_true rfl)) (c_X7_isWord (Nat.le_of_ble_eq_true rfl) hs e5) ⟨Nat.le_of_ble_eq_true rfl, Nat.le_of_ble_eq_true rfl⟩ (Nat.le_of_ble_eq_true rfl) ⟨Nat.le_of_ble_eq_true rfl, Nat.le_of_ble_eq_true rfl⟩ (j_kq ?_)
    refine J_if_eq (pc' := 24) (tgt := 30) dX7_tellItem_21 rfl (by decide) (fun c6 => ?_) (fun c6 => ?_)
    · replace h := j_ip c6 h
      refine J_aload_n (pc' := 31) (i := 0) (n := 0) dX7_tellItem_30 rfl rfl rfl ?_
      refine J_ldcS3 (pc' := 33) dX7_tellItem_31 rfl rfl ?_
      obtain ⟨v7, e8, h⟩ := bi_inv h
      refine J_callV (pc' := 36) (as := [.ref (1000001 + 3)]) (rest := []) dX7_tellItem_33 rfl lk_X7_35 rfl 7 (by decide) rfl (x_o7 hs) (x_n hs (Nat.le_of_ble_eq_true rfl)) (c_X7_isWord (Nat.le_of_ble_eq_true rfl) hs e8) ⟨Nat.le_of_ble_eq_true rfl, Nat.le_of_ble_eq_true rfl⟩ (Nat.le_of_ble_eq_true rfl) ⟨Nat.le_of_ble_eq_true rfl, Nat.le_of_ble_eq_true rfl⟩ (j_kq ?_)
      refine J_if_eq (pc' := 39) (tgt := 60) dX7_tellItem_36 rfl (by decide) (fun c9 => ?_) (fun c9 => ?_)
      · replace h := j_ip c9 h
        refine J_iconst (pc' := 61) (v := (0 : Int32)) dX7_tellItem_60 rfl ic_0 ?_
        exact J_zret (ty := .boolean) rfl rfl dX7_tellItem_61 ⟨rfl, Nat.le_refl _⟩ (j_pW h)
      · replace h := j_iq c9 h
        refine J_aload_n (pc' := 40) (i := 1) (n := 1) dX7_tellItem_39 rfl rfl rfl ?_
        refine J_getI (pc' := 43) dX7_tellItem_40 rfl fl_X7_59 rfl (b_o (x_b26 hs)) (b_no (x_b26 hs)) ?_
        refine J_bipush (pc' := 45) (v := (7 : Int32)) dX7_tellItem_43 rfl bp_7 ?_
        refine J_icmp_ge (pc' := 48) (tgt := 60) dX7_tellItem_45 rfl (by decide) (fun c10 => ?_) (fun c10 => ?_)
        · replace h := j_ip c10 h
          refine J_iconst (pc' := 61) (v := (0 : Int32)) dX7_tellItem_60 rfl ic_0 ?_
          exact J_zret (ty := .boolean) rfl rfl dX7_tellItem_61 ⟨rfl, Nat.le_refl _⟩ (j_pW h)
        · replace h := j_iq c10 h
          refine J_aload_n (pc' := 49) (i := 0) (n := 0) dX7_tellItem_48 rfl rfl rfl ?_
          refine J_aload_n (pc' := 50) (i := 1) (n := 1) dX7_tellItem_49 rfl rfl rfl ?_
          obtain ⟨q11, e12, h⟩ := bi_inv h
          obtain ⟨c13, h⟩ := j_ck_inv h
          refine J_callV (pc' := 53) (as := [.ref 26]) (rest := []) dX7_tellItem_50 rfl lk_X7_62 rfl 7 (by decide) rfl (x_o7 hs) (x_n hs (Nat.le_of_ble_eq_true rfl)) (c_X7_tellOne hs e12) ⟨Nat.le_of_ble_eq_true rfl, Nat.le_of_ble_eq_true rfl⟩ (Nat.le_of_ble_eq_true rfl) ⟨Nat.le_of_ble_eq_true rfl, Nat.le_of_ble_eq_true rfl⟩ (j_kq ?_)
          have g14 : sh_x q11.2.2.2 := j_shE c13 hs
          refine J_if_eq (pc' := 56) (tgt := 60) dX7_tellItem_53 rfl (by decide) (fun c15 => ?_) (fun c15 => ?_)
          · replace h := j_ip c15 h
            refine J_iconst (pc' := 61) (v := (0 : Int32)) dX7_tellItem_60 rfl ic_0 ?_
            exact J_zret (ty := .boolean) rfl rfl dX7_tellItem_61 ⟨rfl, Nat.le_refl _⟩ (j_pW h)
          · replace h := j_iq c15 h
            refine J_iconst (pc' := 57) (v := (1 : Int32)) dX7_tellItem_56 rfl ic_1 ?_
            refine J_goto (pc' := 61) dX7_tellItem_57 (by decide) ?_
            exact J_zret (ty := .boolean) rfl rfl dX7_tellItem_61 ⟨rfl, Nat.le_refl _⟩ (j_pW h)
    · replace h := j_iq c6 h
      refine J_aload_n (pc' := 25) (i := 0) (n := 0) dX7_tellItem_24 rfl rfl rfl ?_
      refine J_aload_n (pc' := 26) (i := 1) (n := 1) dX7_tellItem_25 rfl rfl rfl ?_
      obtain ⟨q16, e17, h⟩ := bi_inv h
      obtain ⟨c18, h⟩ := j_ck_inv h
      refine J_callV (pc' := 29) (as := [.ref 26]) (rest := []) dX7_tellItem_26 rfl lk_X7_54 rfl 7 (by decide) rfl (x_o7 hs) (x_n hs (Nat.le_of_ble_eq_true rfl)) (c_X7_tellShut hs e17) ⟨Nat.le_of_ble_eq_true rfl, Nat.le_of_ble_eq_true rfl⟩ (Nat.le_of_ble_eq_true rfl) ⟨Nat.le_of_ble_eq_true rfl, Nat.le_of_ble_eq_true rfl⟩ (j_kq ?_)
      have g19 : sh_x q16.2.2.2 := j_shE c18 hs
      obtain ⟨hz, h⟩ := z_b_inv h
      exact J_zret (ty := .boolean) rfl (j_zb hz) dX7_tellItem_29 ⟨rfl, Nat.le_refl _⟩ (j_pW h)
  · replace h := j_iq c3 h
    refine J_aload_n (pc' := 10) (i := 0) (n := 0) dX7_tellItem_9 rfl rfl rfl ?_
    refine J_aload_n (pc' := 11) (i := 1) (n := 1) dX7_tellItem_10 rfl rfl rfl ?_
    obtain ⟨q20, e21, h⟩ := bi_inv h
    obtain ⟨c22, h⟩ := j_ck_inv h
    refine J_callV (pc' := 14) (as := [.ref 26]) (rest := []) dX7_tellItem_11 rfl lk_X7_49 rfl 7 (by decide) rfl (x_o7 hs) (x_n hs (Nat.le_of_ble_eq_true rfl)) (c_X7_tellSign hs e21) ⟨Nat.le_of_ble_eq_true rfl, Nat.le_of_ble_eq_true rfl⟩ (Nat.le_of_ble_eq_true rfl) ⟨Nat.le_of_ble_eq_true rfl, Nat.le_of_ble_eq_true rfl⟩ (j_kq ?_)
    have g23 : sh_x q20.2.2.2 := j_shE c22 hs
    obtain ⟨hz, h⟩ := z_b_inv h
    exact J_zret (ty := .boolean) rfl (j_zb hz) dX7_tellItem_14 ⟨rfl, Nat.le_refl _⟩ (j_pW h)
abbrev JT_X7_tellTo (l : Launch) (G : j_G) (r : (Int32 × j_M)) : Nat → List (Nat × Value) → List Value → j_M → Prop := JJ l G md_X7_tellTo (j_rm 7 (0, 0)) (0, 0) (0, 0) (po (some (.int r.1)) r.2)
noncomputable def f_X7_tellTo_L33 : Nat → j_M → Int32 → (Int32 → j_M → Option (Int32 × j_M)) → Option (Int32 × j_M)
  | 0, _, _, _ => none
  | n + 1, M, x2, K =>
    if (150 : Int32) < x2 then (K x2 M) else ((f_X7_next M).bind fun q21 => j_ck M q21 (if (j_I q21 7 2) < (j_I q21 7 1) then ((f_X7_tellItem q21).bind fun q26 => j_ck q21 q26.2 (if q26.1 = 0 then (some (((-1) : Int32), q26.2)) else ((f_X7_nextEndsItem q26.2).bind fun q31 => j_ck q26.2 q31.2 (if q31.1 = 0 then (some (((-1) : Int32), q31.2)) else (f_X7_tellTo_L33 n  q31.2 (x2 + (1 : Int32)) K))))) else (some (x2, q21))))
noncomputable def f_X7_tellTo (M : j_M)  : Option (Int32 × j_M) :=
  (f_X0_begin M 26).bind fun q1 => j_ck M q1 (tl (j_sI q1 7 3 (0 : Int32)) fun M5 => ((f_X7_next M5).bind fun q8 => j_ck M5 q8 ((f_X7_isWord q8 0).bind fun v12 => (if v12 = 0 then (some (((-1) : Int32), q8)) else ((f_X7_nextEndsItem q8).bind fun q15 => j_ck q8 q15.2 (if q15.1 = 0 then (some (((-1) : Int32), q15.2)) else (f_X7_tellTo_L33 j_fu  q15.2 (1 : Int32) (fun (y36 : Int32) (M37 : j_M) => (some (((-1) : Int32), M37))))))))))
set_option maxHeartbeats 4000000 in
theorem L_X7_tellTo_L33 {l : Launch} {G : j_G}  {r : (Int32 × j_M)} : ∀ (n : Nat) {x2 : Int32} {M : j_M} (hs : sh_x M.2.2) {K : Int32 → j_M → Option (Int32 × j_M)}, f_X7_tellTo_L33 n  M x2 K = some r → (∀ (y2 : Int32) (M1 : j_M), sh_x M1.2.2 → K y2 M1 = some r → JT_X7_tellTo l G r 80 [] [] M1) → JT_X7_tellTo l G r 33 [(0, .ref 7), (1, .ref 26), (2, .int x2)] [] M := by
  intro n
  induction n with
  | zero =>
    intro x2 M hs K h hK
    rw [f_X7_tellTo_L33] at h; cases h
  | succ n ih =>
    intro x2 M hs K h hK
    rw [f_X7_tellTo_L33] at h
    refine J_iload_n (pc' := 34) (i := 2) (n := 2) dX7_tellTo_33 rfl rfl rfl ?_
    refine J_sipush (pc' := 37) (v := (150 : Int32)) dX7_tellTo_34 rfl sp_150 ?_
    refine J_icmp_gt (pc' := 40) (tgt := 80) dX7_tellTo_37 rfl (by decide) (fun c20 => ?_) (fun c20 => ?_)
    · replace h := j_ip c20 h
      refine J_sub [] (lv' := []) rfl ?_
      exact hK x2 M hs h
    · replace h := j_iq c20 h
      refine J_aload_n (pc' := 41) (i := 0) (n := 0) dX7_tellTo_40 rfl rfl rfl ?_
      obtain ⟨q21, e22, h⟩ := bi_inv h
      obtain ⟨c23, h⟩ := j_ck_inv h
      refine J_callV (pc' := 44) (as := []) (rest := []) dX7_tellTo_41 rfl lk_X7_30 rfl 7 (by decide) rfl (x_o7 hs) (x_n hs (Nat.le_of_ble_eq_true rfl)) (c_X7_next hs e22) ⟨Nat.le_of_ble_eq_true rfl, Nat.le_of_ble_eq_true rfl⟩ (Nat.le_of_ble_eq_true rfl) ⟨Nat.le_of_ble_eq_true rfl, Nat.le_of_ble_eq_true rfl⟩ (j_kv ?_)
      have g24 : sh_x q21.2.2 := j_shE c23 hs
      refine J_aload_n (pc' := 45) (i := 0) (n := 0) dX7_tellTo_44 rfl rfl rfl ?_
      refine J_getI (pc' := 48) dX7_tellTo_45 rfl fl_X7_19 rfl (x_o7 g24) (x_n g24 (Nat.le_of_ble_eq_true rfl)) ?_
      refine J_aload_n (pc' := 49) (i := 0) (n := 0) dX7_tellTo_48 rfl rfl rfl ?_
      refine J_getI (pc' := 52) dX7_tellTo_49 rfl fl_X7_15 rfl (x_o7 g24) (x_n g24 (Nat.le_of_ble_eq_true rfl)) ?_
      refine J_icmp_lt (pc' := 55) (tgt := 57) dX7_tellTo_52 rfl (by decide) (fun c25 => ?_) (fun c25 => ?_)
      · replace h := j_ip c25 h
        refine J_aload_n (pc' := 58) (i := 0) (n := 0) dX7_tellTo_57 rfl rfl rfl ?_
        refine J_aload_n (pc' := 59) (i := 1) (n := 1) dX7_tellTo_58 rfl rfl rfl ?_
        obtain ⟨q26, e27, h⟩ := bi_inv h
        obtain ⟨c28, h⟩ := j_ck_inv h
        refine J_callV (pc' := 62) (as := [.ref 26]) (rest := []) dX7_tellTo_59 rfl lk_X7_43 rfl 7 (by decide) rfl (x_o7 g24) (x_n g24 (Nat.le_of_ble_eq_true rfl)) (c_X7_tellItem g24 e27) ⟨Nat.le_of_ble_eq_true rfl, Nat.le_of_ble_eq_true rfl⟩ (Nat.le_of_ble_eq_true rfl) ⟨Nat.le_of_ble_eq_true rfl, Nat.le_of_ble_eq_true rfl⟩ (j_kq ?_)
        have g29 : sh_x q26.2.2.2 := j_shE c28 g24
        refine J_if_eq (pc' := 65) (tgt := 72) dX7_tellTo_62 rfl (by decide) (fun c30 => ?_) (fun c30 => ?_)
        · replace h := j_ip c30 h
          refine J_iconst (pc' := 73) (v := ((-1) : Int32)) dX7_tellTo_72 rfl ic_m1 ?_
          exact J_iret rfl dX7_tellTo_73 ⟨rfl, Nat.le_refl _⟩ (j_pW h)
        · replace h := j_iq c30 h
          refine J_aload_n (pc' := 66) (i := 0) (n := 0) dX7_tellTo_65 rfl rfl rfl ?_
          obtain ⟨q31, e32, h⟩ := bi_inv h
          obtain ⟨c33, h⟩ := j_ck_inv h
          refine J_callV (pc' := 69) (as := []) (rest := []) dX7_tellTo_66 rfl lk_X7_39 rfl 7 (by decide) rfl (x_o7 g29) (x_n g29 (Nat.le_of_ble_eq_true rfl)) (c_X7_nextEndsItem g29 e32) ⟨Nat.le_of_ble_eq_true rfl, Nat.le_of_ble_eq_true rfl⟩ (Nat.le_of_ble_eq_true rfl) ⟨Nat.le_of_ble_eq_true rfl, Nat.le_of_ble_eq_true rfl⟩ (j_kq ?_)
          have g34 : sh_x q31.2.2.2 := j_shE c33 g29
          refine J_if_ne (pc' := 72) (tgt := 74) dX7_tellTo_69 rfl (by decide) (fun c35 => ?_) (fun c35 => ?_)
          · replace h := j_iq c35 h
            refine J_iinc (pc' := 77) (i := 2) (n := 2) (v := (x2 + (1 : Int32))) (lv' := [(2, .int (x2 + (1 : Int32))), (0, .ref 7), (1, .ref 26)]) dX7_tellTo_74 rfl rfl (j_inc _ _ rfl _) (by decide) rfl ?_
            refine J_goto (pc' := 33) dX7_tellTo_77 (by decide) ?_
            refine J_sub [1, 2, 0] (lv' := [(0, .ref 7), (1, .ref 26), (2, .int (x2 + (1 : Int32)))]) rfl ?_
            exact ih g34 h hK
          · replace h := j_ip c35 h
            refine J_iconst (pc' := 73) (v := ((-1) : Int32)) dX7_tellTo_72 rfl ic_m1 ?_
            exact J_iret rfl dX7_tellTo_73 ⟨rfl, Nat.le_refl _⟩ (j_pW h)
      · replace h := j_iq c25 h
        refine J_iload_n (pc' := 56) (i := 2) (n := 2) dX7_tellTo_55 rfl rfl rfl ?_
        exact J_iret rfl dX7_tellTo_56 ⟨rfl, Nat.le_refl _⟩ (j_pW h)
set_option maxHeartbeats 4000000 in
theorem c_X7_tellTo {l : Launch} {G : j_G} {M : j_M}  (hs : sh_x M.2.2) {r : (Int32 × j_M)} (h : f_X7_tellTo M  = some r) : j_Sp l G md_X7_tellTo 7 (0, 0) [.ref 7, .ref 26] M (po (some (.int r.1)) r.2) := by
  refine j_Sp.of (by decide) (Nat.le_of_ble_eq_true rfl) ?_
  show JT_X7_tellTo l G r 0 [(0, .ref 7), (1, .ref 26)] [] M
  unfold f_X7_tellTo at h
  refine J_aload_n (pc' := 1) (i := 1) (n := 1) dX7_tellTo_0 rfl rfl rfl ?_
  obtain ⟨q1, e2, h⟩ := bi_inv h
  obtain ⟨c3, h⟩ := j_ck_inv h
  refine J_callVN (pc' := 4) (as := []) (rest := []) dX7_tellTo_1 rfl lk_X7_25 rfl 0 (by decide) rfl (b_o (x_b26 hs)) (b_no (x_b26 hs)) (c_X0_begin (x_b26 hs) e2) ⟨Nat.le_of_ble_eq_true rfl, Nat.le_of_ble_eq_true rfl⟩ (Nat.le_of_ble_eq_true rfl) ⟨Nat.le_of_ble_eq_true rfl, Nat.le_of_ble_eq_true rfl⟩ (j_kv ?_)
  have g4 : sh_x q1.2.2 := j_shE c3 hs
  refine J_aload_n (pc' := 5) (i := 0) (n := 0) dX7_tellTo_4 rfl rfl rfl ?_
  refine J_iconst (pc' := 6) (v := (0 : Int32)) dX7_tellTo_5 rfl ic_0 ?_
  obtain ⟨M5, e6, h⟩ := tl_inv h
  have g7 : sh_x M5.2.2 := j_shI e6 g4
  refine J_putIe (pc' := 9) dX7_tellTo_6 rfl fl_X7_22 ⟨rfl, rfl, rfl⟩ (x_o7 g4) (x_n g4 (Nat.le_of_ble_eq_true rfl)) e6 ?_
  refine J_aload_n (pc' := 10) (i := 0) (n := 0) dX7_tellTo_9 rfl rfl rfl ?_
  obtain ⟨q8, e9, h⟩ := bi_inv h
  obtain ⟨c10, h⟩ := j_ck_inv h
  refine J_callV (pc' := 13) (as := []) (rest := []) dX7_tellTo_10 rfl lk_X7_30 rfl 7 (by decide) rfl (x_o7 g7) (x_n g7 (Nat.le_of_ble_eq_true rfl)) (c_X7_next g7 e9) ⟨Nat.le_of_ble_eq_true rfl, Nat.le_of_ble_eq_true rfl⟩ (Nat.le_of_ble_eq_true rfl) ⟨Nat.le_of_ble_eq_true rfl, Nat.le_of_ble_eq_true rfl⟩ (j_kv ?_)
  have g11 : sh_x q8.2.2 := j_shE c10 g7
  refine J_aload_n (pc' := 14) (i := 0) (n := 0) dX7_tellTo_13 rfl rfl rfl ?_
  refine J_ldcS0 (pc' := 16) dX7_tellTo_14 rfl rfl ?_
  obtain ⟨v12, e13, h⟩ := bi_inv h
  refine J_callV (pc' := 19) (as := [.ref (1000001 + 0)]) (rest := []) dX7_tellTo_16 rfl lk_X7_35 rfl 7 (by decide) rfl (x_o7 g11) (x_n g11 (Nat.le_of_ble_eq_true rfl)) (c_X7_isWord (Nat.le_of_ble_eq_true rfl) g11 e13) ⟨Nat.le_of_ble_eq_true rfl, Nat.le_of_ble_eq_true rfl⟩ (Nat.le_of_ble_eq_true rfl) ⟨Nat.le_of_ble_eq_true rfl, Nat.le_of_ble_eq_true rfl⟩ (j_kq ?_)
  refine J_if_eq (pc' := 22) (tgt := 29) dX7_tellTo_19 rfl (by decide) (fun c14 => ?_) (fun c14 => ?_)
  · replace h := j_ip c14 h
    refine J_iconst (pc' := 30) (v := ((-1) : Int32)) dX7_tellTo_29 rfl ic_m1 ?_
    exact J_iret rfl dX7_tellTo_30 ⟨rfl, Nat.le_refl _⟩ (j_pW h)
  · replace h := j_iq c14 h
    refine J_aload_n (pc' := 23) (i := 0) (n := 0) dX7_tellTo_22 rfl rfl rfl ?_
    obtain ⟨q15, e16, h⟩ := bi_inv h
    obtain ⟨c17, h⟩ := j_ck_inv h
    refine J_callV (pc' := 26) (as := []) (rest := []) dX7_tellTo_23 rfl lk_X7_39 rfl 7 (by decide) rfl (x_o7 g11) (x_n g11 (Nat.le_of_ble_eq_true rfl)) (c_X7_nextEndsItem g11 e16) ⟨Nat.le_of_ble_eq_true rfl, Nat.le_of_ble_eq_true rfl⟩ (Nat.le_of_ble_eq_true rfl) ⟨Nat.le_of_ble_eq_true rfl, Nat.le_of_ble_eq_true rfl⟩ (j_kq ?_)
    have g18 : sh_x q15.2.2.2 := j_shE c17 g11
    refine J_if_ne (pc' := 29) (tgt := 31) dX7_tellTo_26 rfl (by decide) (fun c19 => ?_) (fun c19 => ?_)
    · replace h := j_iq c19 h
      refine J_iconst (pc' := 32) (v := (1 : Int32)) dX7_tellTo_31 rfl ic_1 ?_
      refine J_istore_n (pc' := 33) (i := 2) (lv' := [(2, .int (1 : Int32)), (0, .ref 7), (1, .ref 26)]) dX7_tellTo_32 rfl rfl (by decide) rfl ?_
      refine J_sub [1, 2, 0] (lv' := [(0, .ref 7), (1, .ref 26), (2, .int (1 : Int32))]) rfl ?_
      refine L_X7_tellTo_L33 j_fu g18 h (fun y36 M37 g38 h => ?_)
      refine J_iconst (pc' := 81) (v := ((-1) : Int32)) dX7_tellTo_80 rfl ic_m1 ?_
      exact J_iret rfl dX7_tellTo_81 ⟨rfl, Nat.le_refl _⟩ (j_pW h)
    · replace h := j_ip c19 h
      refine J_iconst (pc' := 30) (v := ((-1) : Int32)) dX7_tellTo_29 rfl ic_m1 ?_
      exact J_iret rfl dX7_tellTo_30 ⟨rfl, Nat.le_refl _⟩ (j_pW h)
abbrev JT_X4_begin (l : Launch) (G : j_G) (r : j_M) : Nat → List (Nat × Value) → List Value → j_M → Prop := JJ l G md_X4_begin (j_rm 2 (0, 0)) (0, 0) (0, 0) (po none r)
noncomputable def f_X4_begin (M : j_M)  : Option j_M :=
  tl (j_fi M 4 4 (0 : Int32)) fun M1 => (tl (j_sI M1 3 3 (1000000 : Int32)) fun M4 => (some M4))
set_option maxHeartbeats 4000000 in
theorem c_X4_begin {l : Launch} {G : j_G} {M : j_M}  (hs : sh_x M.2.2) {r : j_M} (h : f_X4_begin M  = some r) : j_Sp l G md_X4_begin 2 (0, 0) [.ref 3] M (po none r) := by
  refine j_Sp.of (by decide) (Nat.le_of_ble_eq_true rfl) ?_
  show JT_X4_begin l G r 0 [(0, .ref 3)] [] M
  unfold f_X4_begin at h
  refine J_aload_n (pc' := 1) (i := 0) (n := 0) dX4_begin_0 rfl rfl rfl ?_
  refine J_getR (pc' := 4) (b := 4) dX4_begin_1 rfl fl_X4_9 rfl (x_o3 hs) (x_n hs (Nat.le_of_ble_eq_true rfl)) (x_p0 hs) ?_
  refine J_iconst (pc' := 5) (v := (0 : Int32)) dX4_begin_4 rfl ic_0 ?_
  obtain ⟨M1, e2, h⟩ := tl_inv h
  have g3 : sh_x M1.2.2 := j_shfi e2 hs
  refine J_callS (pc' := 8) (as := [.ref 4, .int (0 : Int32)]) (rest := []) dX4_begin_5 rfl lk_X4_21 rfl (c_fi (x_s4 hs) (x_n hs (Nat.le_of_ble_eq_true rfl)) (Nat.le_of_ble_eq_true rfl) e2) ⟨Nat.le_of_ble_eq_true rfl, Nat.le_of_ble_eq_true rfl⟩ (Nat.le_of_ble_eq_true rfl) ⟨Nat.le_of_ble_eq_true rfl, Nat.le_of_ble_eq_true rfl⟩ (j_kv ?_)
  refine J_aload_n (pc' := 9) (i := 0) (n := 0) dX4_begin_8 rfl rfl rfl ?_
  refine J_ldc (pc' := 11) (v := (1000000 : Int32)) dX4_begin_9 rfl wd_690 ?_
  obtain ⟨M4, e5, h⟩ := tl_inv h
  have g6 : sh_x M4.2.2 := j_shI e5 g3
  refine J_putIe (pc' := 14) dX4_begin_11 rfl fl_X4_28 ⟨rfl, rfl, rfl⟩ (x_o3 g3) (x_n g3 (Nat.le_of_ble_eq_true rfl)) e5 ?_
  exact J_vret rfl dX4_begin_14 ⟨rfl, Nat.le_refl _⟩ (j_pV h)
abbrev JT_X9_bath (l : Launch) (G : j_G) (r : (Int32 × j_M)) : Nat → List (Nat × Value) → List Value → j_M → Prop := JJ l G md_X9_bath (j_rm 4 (0, 0)) (0, 0) (0, 0) (po (some (.int r.1)) r.2)
noncomputable def f_X9_bath (M : j_M)  : Option (Int32 × j_M) :=
  (f_X0_begin M 17).bind fun q1 => j_ck M q1 (some ((j_I M 17 9), q1))
set_option maxHeartbeats 4000000 in
theorem c_X9_bath {l : Launch} {G : j_G} {M : j_M}  (hs : sh_x M.2.2) {r : (Int32 × j_M)} (h : f_X9_bath M  = some r) : j_Sp l G md_X9_bath 4 (0, 0) [.ref 0] M (po (some (.int r.1)) r.2) := by
  refine j_Sp.of (by decide) (Nat.le_of_ble_eq_true rfl) ?_
  show JT_X9_bath l G r 0 [(0, .ref 0)] [] M
  unfold f_X9_bath at h
  refine J_aload_n (pc' := 1) (i := 0) (n := 0) dX9_bath_0 rfl rfl rfl ?_
  refine J_getR (pc' := 4) (b := 17) dX9_bath_1 rfl fl_X9_75 rfl (x_o hs) (x_n hs (Nat.le_of_ble_eq_true rfl)) (x_r0 hs) ?_
  refine J_getI (pc' := 7) dX9_bath_4 rfl fl_X9_82 rfl (b_o (x_b17 hs)) (b_no (x_b17 hs)) ?_
  refine J_istore_n (pc' := 8) (i := 1) (lv' := [(1, .int (j_I M 17 9)), (0, .ref 0)]) dX9_bath_7 rfl rfl (by decide) rfl ?_
  refine J_aload_n (pc' := 9) (i := 0) (n := 1) dX9_bath_8 rfl rfl rfl ?_
  refine J_getR (pc' := 12) (b := 17) dX9_bath_9 rfl fl_X9_75 rfl (x_o hs) (x_n hs (Nat.le_of_ble_eq_true rfl)) (x_r0 hs) ?_
  obtain ⟨q1, e2, h⟩ := bi_inv h
  obtain ⟨c3, h⟩ := j_ck_inv h
  refine J_callVN (pc' := 15) (as := []) (rest := []) dX9_bath_12 rfl lk_X9_85 rfl 0 (by decide) rfl (b_o (x_b17 hs)) (b_no (x_b17 hs)) (c_X0_begin (x_b17 hs) e2) ⟨Nat.le_of_ble_eq_true rfl, Nat.le_of_ble_eq_true rfl⟩ (Nat.le_of_ble_eq_true rfl) ⟨Nat.le_of_ble_eq_true rfl, Nat.le_of_ble_eq_true rfl⟩ (j_kv ?_)
  have g4 : sh_x q1.2.2 := j_shE c3 hs
  refine J_iload_n (pc' := 16) (i := 1) (n := 0) dX9_bath_15 rfl rfl rfl ?_
  exact J_iret rfl dX9_bath_16 ⟨rfl, Nat.le_refl _⟩ (j_pW h)
abbrev JT_X9_bad (l : Launch) (G : j_G) (r : (Int32 × j_M)) : Nat → List (Nat × Value) → List Value → j_M → Prop := JJ l G md_X9_bad (j_rm 1 (0, 0)) (0, 0) (0, 0) (po (some (.int r.1)) r.2)
noncomputable def f_X9_bad (M : j_M)  : Option (Int32 × j_M) :=
  tl (j_sI M 0 9 ((j_I M 0 9) + (1 : Int32))) fun M1 => (some (((-2) : Int32), M1))
set_option maxHeartbeats 4000000 in
theorem c_X9_bad {l : Launch} {G : j_G} {M : j_M}  (hs : sh_x M.2.2) {r : (Int32 × j_M)} (h : f_X9_bad M  = some r) : j_Sp l G md_X9_bad 1 (0, 0) [.ref 0] M (po (some (.int r.1)) r.2) := by
  refine j_Sp.of (by decide) (Nat.le_of_ble_eq_true rfl) ?_
  show JT_X9_bad l G r 0 [(0, .ref 0)] [] M
  unfold f_X9_bad at h
  refine J_aload_n (pc' := 1) (i := 0) (n := 0) dX9_bad_0 rfl rfl rfl ?_
  refine J_dup (pc' := 2) dX9_bad_1 rfl rfl ?_
  refine J_getI (pc' := 5) dX9_bad_2 rfl fl_X9_44 rfl (x_o hs) (x_n hs (Nat.le_of_ble_eq_true rfl)) ?_
  refine J_iconst (pc' := 6) (v := (1 : Int32)) dX9_bad_5 rfl ic_1 ?_
  refine J_iadd (pc' := 7) dX9_bad_6 rfl ?_
  obtain ⟨M1, e2, h⟩ := tl_inv h
  have g3 : sh_x M1.2.2 := j_shI e2 hs
  refine J_putIe (pc' := 10) dX9_bad_7 rfl fl_X9_44 ⟨rfl, rfl, rfl⟩ (x_o hs) (x_n hs (Nat.le_of_ble_eq_true rfl)) e2 ?_
  refine J_bipush (pc' := 12) (v := ((-2) : Int32)) dX9_bad_10 rfl bp_m2 ?_
  exact J_iret rfl dX9_bad_12 ⟨rfl, Nat.le_refl _⟩ (j_pW h)
abbrev JT_X9_sign (l : Launch) (G : j_G) (r : (Int32 × j_M)) : Nat → List (Nat × Value) → List Value → j_M → Prop := JJ l G md_X9_sign (j_rm 3 (0, 0)) (0, 0) (0, 0) (po (some (.int r.1)) r.2)
noncomputable def f_X9_sign (M : j_M) (x1 : Int32) (x2 : Int32) : Option (Int32 × j_M) :=
  tl (f_X9_isLane x1) fun v1 => (if v1 = 0 then ((f_X9_bad M).bind fun q4 => j_ck M q4.2 (some (q4.1, q4.2))) else (tl (f_X9_within x2 (0 : Int32) (2 : Int32)) fun v8 => (if v8 = 0 then ((f_X9_bad M).bind fun q16 => j_ck M q16.2 (some (q16.1, q16.2))) else (a_i M (17 + 1) 4 x1 fun v11 => (w_i M (17 + 1) 4 x1 x2 fun M13 => (some (v11, M13)))))))
set_option maxHeartbeats 4000000 in
theorem c_X9_sign {l : Launch} {G : j_G} {M : j_M} {x1 : Int32} {x2 : Int32} (hs : sh_x M.2.2) {r : (Int32 × j_M)} (h : f_X9_sign M x1 x2 = some r) : j_Sp l G md_X9_sign 3 (0, 0) [.ref 0, .int x1, .int x2] M (po (some (.int r.1)) r.2) := by
  refine j_Sp.of (by decide) (Nat.le_of_ble_eq_true rfl) ?_
  show JT_X9_sign l G r 0 [(0, .ref 0), (1, .int x1), (2, .int x2)] [] M
  unfold f_X9_sign at h
  refine J_iload_n (pc' := 1) (i := 1) (n := 1) dX9_sign_0 rfl rfl rfl ?_
  obtain ⟨v1, e2, h⟩ := tl_inv h
  refine J_callS (pc' := 4) (as := [.int x1]) (rest := []) dX9_sign_1 rfl lk_X9_88 rfl (c_X9_isLane e2) ⟨Nat.le_of_ble_eq_true rfl, Nat.le_of_ble_eq_true rfl⟩ (Nat.le_of_ble_eq_true rfl) ⟨Nat.le_of_ble_eq_true rfl, Nat.le_of_ble_eq_true rfl⟩ (j_kq ?_)
  refine J_if_eq (pc' := 7) (tgt := 16) dX9_sign_4 rfl (by decide) (fun c3 => ?_) (fun c3 => ?_)
  · replace h := j_ip c3 h
    refine J_aload_n (pc' := 17) (i := 0) (n := 0) dX9_sign_16 rfl rfl rfl ?_
    obtain ⟨q4, e5, h⟩ := bi_inv h
    obtain ⟨c6, h⟩ := j_ck_inv h
    refine J_callV (pc' := 20) (as := []) (rest := []) dX9_sign_17 rfl lk_X9_96 rfl 9 (by decide) rfl (x_o hs) (x_n hs (Nat.le_of_ble_eq_true rfl)) (c_X9_bad hs e5) ⟨Nat.le_of_ble_eq_true rfl, Nat.le_of_ble_eq_true rfl⟩ (Nat.le_of_ble_eq_true rfl) ⟨Nat.le_of_ble_eq_true rfl, Nat.le_of_ble_eq_true rfl⟩ (j_kq ?_)
    have g7 : sh_x q4.2.2.2 := j_shE c6 hs
    exact J_iret rfl dX9_sign_20 ⟨rfl, Nat.le_refl _⟩ (j_pW h)
  · replace h := j_iq c3 h
    refine J_iload_n (pc' := 8) (i := 2) (n := 2) dX9_sign_7 rfl rfl rfl ?_
    refine J_iconst (pc' := 9) (v := (0 : Int32)) dX9_sign_8 rfl ic_0 ?_
    refine J_iconst (pc' := 10) (v := (2 : Int32)) dX9_sign_9 rfl ic_2 ?_
    obtain ⟨v8, e9, h⟩ := tl_inv h
    refine J_callS (pc' := 13) (as := [.int x2, .int (0 : Int32), .int (2 : Int32)]) (rest := []) dX9_sign_10 rfl lk_X9_92 rfl (c_X9_within e9) ⟨Nat.le_of_ble_eq_true rfl, Nat.le_of_ble_eq_true rfl⟩ (Nat.le_of_ble_eq_true rfl) ⟨Nat.le_of_ble_eq_true rfl, Nat.le_of_ble_eq_true rfl⟩ (j_kq ?_)
    refine J_if_ne (pc' := 16) (tgt := 21) dX9_sign_13 rfl (by decide) (fun c10 => ?_) (fun c10 => ?_)
    · replace h := j_iq c10 h
      refine J_aload_n (pc' := 22) (i := 0) (n := 0) dX9_sign_21 rfl rfl rfl ?_
      refine J_getR (pc' := 25) (b := 17) dX9_sign_22 rfl fl_X9_75 rfl (x_o hs) (x_n hs (Nat.le_of_ble_eq_true rfl)) (x_r0 hs) ?_
      refine J_getR (pc' := 28) (b := (17 + 1)) dX9_sign_25 rfl fl_X9_100 rfl (b_o (x_b17 hs)) (b_no (x_b17 hs)) (b_r1 (x_b17 hs)) ?_
      refine J_iload_n (pc' := 29) (i := 1) (n := 1) dX9_sign_28 rfl rfl rfl ?_
      obtain ⟨v11, e12, h⟩ := a_i_inv h
      refine J_ialde (pc' := 30) dX9_sign_29 rfl (b_s1 (x_b17 hs)) (b_n (x_b17 hs) (Nat.le_of_ble_eq_true rfl)) e12 ?_
      refine J_istore_n (pc' := 31) (i := 3) (lv' := [(3, .int v11), (0, .ref 0), (1, .int x1), (2, .int x2)]) dX9_sign_30 rfl rfl (by decide) rfl ?_
      refine J_aload_n (pc' := 32) (i := 0) (n := 1) dX9_sign_31 rfl rfl rfl ?_
      refine J_getR (pc' := 35) (b := 17) dX9_sign_32 rfl fl_X9_75 rfl (x_o hs) (x_n hs (Nat.le_of_ble_eq_true rfl)) (x_r0 hs) ?_
      refine J_getR (pc' := 38) (b := (17 + 1)) dX9_sign_35 rfl fl_X9_100 rfl (b_o (x_b17 hs)) (b_no (x_b17 hs)) (b_r1 (x_b17 hs)) ?_
      refine J_iload_n (pc' := 39) (i := 1) (n := 2) dX9_sign_38 rfl rfl rfl ?_
      refine J_iload_n (pc' := 40) (i := 2) (n := 3) dX9_sign_39 rfl rfl rfl ?_
      obtain ⟨M13, e14, h⟩ := w_i_inv h
      have g15 : sh_x M13.2.2 := j_shI e14.2 hs
      refine J_iaste (pc' := 41) dX9_sign_40 rfl (b_s1 (x_b17 hs)) (b_n (x_b17 hs) (Nat.le_of_ble_eq_true rfl)) e14 ?_
      refine J_iload_n (pc' := 42) (i := 3) (n := 0) dX9_sign_41 rfl rfl rfl ?_
      exact J_iret rfl dX9_sign_42 ⟨rfl, Nat.le_refl _⟩ (j_pW h)
    · replace h := j_ip c10 h
      refine J_aload_n (pc' := 17) (i := 0) (n := 0) dX9_sign_16 rfl rfl rfl ?_
      obtain ⟨q16, e17, h⟩ := bi_inv h
      obtain ⟨c18, h⟩ := j_ck_inv h
      refine J_callV (pc' := 20) (as := []) (rest := []) dX9_sign_17 rfl lk_X9_96 rfl 9 (by decide) rfl (x_o hs) (x_n hs (Nat.le_of_ble_eq_true rfl)) (c_X9_bad hs e17) ⟨Nat.le_of_ble_eq_true rfl, Nat.le_of_ble_eq_true rfl⟩ (Nat.le_of_ble_eq_true rfl) ⟨Nat.le_of_ble_eq_true rfl, Nat.le_of_ble_eq_true rfl⟩ (j_kq ?_)
      have g19 : sh_x q16.2.2.2 := j_shE c18 hs
      exact J_iret rfl dX9_sign_20 ⟨rfl, Nat.le_refl _⟩ (j_pW h)
abbrev JT_X9_no (l : Launch) (G : j_G) (r : (Int32 × j_M)) : Nat → List (Nat × Value) → List Value → j_M → Prop := JJ l G md_X9_no (j_rm 1 (0, 0)) (0, 0) (0, 0) (po (some (.int r.1)) r.2)
noncomputable def f_X9_no (M : j_M)  : Option (Int32 × j_M) :=
  tl (j_sI M 0 10 ((j_I M 0 10) + (1 : Int32))) fun M1 => (some (((-3) : Int32), M1))
set_option maxHeartbeats 4000000 in
theorem c_X9_no {l : Launch} {G : j_G} {M : j_M}  (hs : sh_x M.2.2) {r : (Int32 × j_M)} (h : f_X9_no M  = some r) : j_Sp l G md_X9_no 1 (0, 0) [.ref 0] M (po (some (.int r.1)) r.2) := by
  refine j_Sp.of (by decide) (Nat.le_of_ble_eq_true rfl) ?_
  show JT_X9_no l G r 0 [(0, .ref 0)] [] M
  unfold f_X9_no at h
  refine J_aload_n (pc' := 1) (i := 0) (n := 0) dX9_no_0 rfl rfl rfl ?_
  refine J_dup (pc' := 2) dX9_no_1 rfl rfl ?_
  refine J_getI (pc' := 5) dX9_no_2 rfl fl_X9_48 rfl (x_o hs) (x_n hs (Nat.le_of_ble_eq_true rfl)) ?_
  refine J_iconst (pc' := 6) (v := (1 : Int32)) dX9_no_5 rfl ic_1 ?_
  refine J_iadd (pc' := 7) dX9_no_6 rfl ?_
  obtain ⟨M1, e2, h⟩ := tl_inv h
  have g3 : sh_x M1.2.2 := j_shI e2 hs
  refine J_putIe (pc' := 10) dX9_no_7 rfl fl_X9_48 ⟨rfl, rfl, rfl⟩ (x_o hs) (x_n hs (Nat.le_of_ble_eq_true rfl)) e2 ?_
  refine J_bipush (pc' := 12) (v := ((-3) : Int32)) dX9_no_10 rfl bp_m3 ?_
  exact J_iret rfl dX9_no_12 ⟨rfl, Nat.le_refl _⟩ (j_pW h)
abbrev JT_X9_shut (l : Launch) (G : j_G) (r : (Int32 × j_M)) : Nat → List (Nat × Value) → List Value → j_M → Prop := JJ l G md_X9_shut (j_rm 3 (0, 0)) (0, 0) (0, 0) (po (some (.int r.1)) r.2)
noncomputable def f_X9_shut (M : j_M) (x1 : Int32) (x2 : Int32) : Option (Int32 × j_M) :=
  tl (f_X9_isLane x1) fun v1 => (if v1 = 0 then ((f_X9_bad M).bind fun q4 => j_ck M q4.2 (some (q4.1, q4.2))) else (tl (f_X9_within x2 (0 : Int32) (1 : Int32)) fun v8 => (if v8 = 0 then ((f_X9_bad M).bind fun q35 => j_ck M q35.2 (some (q35.1, q35.2))) else (if x2 = (1 : Int32) then ((f_X0_members M 17 (17 + 5) x1).bind fun v20 => (if v20 = 0 then (a_i M (17 + 2) 4 x1 fun v23 => (w_i M (17 + 2) 4 x1 x2 fun M25 => (tl (j_sI M25 17 10 (0 : Int32)) fun M28 => (some (v23, M28))))) else ((f_X9_no M).bind fun q31 => j_ck M q31.2 (some (q31.1, q31.2))))) else (a_i M (17 + 2) 4 x1 fun v12 => (w_i M (17 + 2) 4 x1 x2 fun M14 => (tl (j_sI M14 17 10 (0 : Int32)) fun M17 => (some (v12, M17)))))))))
set_option maxHeartbeats 4000000 in
theorem c_X9_shut {l : Launch} {G : j_G} {M : j_M} {x1 : Int32} {x2 : Int32} (hs : sh_x M.2.2) {r : (Int32 × j_M)} (h : f_X9_shut M x1 x2 = some r) : j_Sp l G md_X9_shut 3 (0, 0) [.ref 0, .int x1, .int x2] M (po (some (.int r.1)) r.2) := by
  refine j_Sp.of (by decide) (Nat.le_of_ble_eq_true rfl) ?_
  show JT_X9_shut l G r 0 [(0, .ref 0), (1, .int x1), (2, .int x2)] [] M
  unfold f_X9_shut at h
  refine J_iload_n (pc' := 1) (i := 1) (n := 1) dX9_shut_0 rfl rfl rfl ?_
  obtain ⟨v1, e2, h⟩ := tl_inv h
  refine J_callS (pc' := 4) (as := [.int x1]) (rest := []) dX9_shut_1 rfl lk_X9_88 rfl (c_X9_isLane e2) ⟨Nat.le_of_ble_eq_true rfl, Nat.le_of_ble_eq_true rfl⟩ (Nat.le_of_ble_eq_true rfl) ⟨Nat.le_of_ble_eq_true rfl, Nat.le_of_ble_eq_true rfl⟩ (j_kq ?_)
  refine J_if_eq (pc' := 7) (tgt := 16) dX9_shut_4 rfl (by decide) (fun c3 => ?_) (fun c3 => ?_)
  · replace h := j_ip c3 h
    refine J_aload_n (pc' := 17) (i := 0) (n := 0) dX9_shut_16 rfl rfl rfl ?_
    obtain ⟨q4, e5, h⟩ := bi_inv h
    obtain ⟨c6, h⟩ := j_ck_inv h
    refine J_callV (pc' := 20) (as := []) (rest := []) dX9_shut_17 rfl lk_X9_96 rfl 9 (by decide) rfl (x_o hs) (x_n hs (Nat.le_of_ble_eq_true rfl)) (c_X9_bad hs e5) ⟨Nat.le_of_ble_eq_true rfl, Nat.le_of_ble_eq_true rfl⟩ (Nat.le_of_ble_eq_true rfl) ⟨Nat.le_of_ble_eq_true rfl, Nat.le_of_ble_eq_true rfl⟩ (j_kq ?_)
    have g7 : sh_x q4.2.2.2 := j_shE c6 hs
    exact J_iret rfl dX9_shut_20 ⟨rfl, Nat.le_refl _⟩ (j_pW h)
  · replace h := j_iq c3 h
    refine J_iload_n (pc' := 8) (i := 2) (n := 2) dX9_shut_7 rfl rfl rfl ?_
    refine J_iconst (pc' := 9) (v := (0 : Int32)) dX9_shut_8 rfl ic_0 ?_
    refine J_iconst (pc' := 10) (v := (1 : Int32)) dX9_shut_9 rfl ic_1 ?_
    obtain ⟨v8, e9, h⟩ := tl_inv h
    refine J_callS (pc' := 13) (as := [.int x2, .int (0 : Int32), .int (1 : Int32)]) (rest := []) dX9_shut_10 rfl lk_X9_92 rfl (c_X9_within e9) ⟨Nat.le_of_ble_eq_true rfl, Nat.le_of_ble_eq_true rfl⟩ (Nat.le_of_ble_eq_true rfl) ⟨Nat.le_of_ble_eq_true rfl, Nat.le_of_ble_eq_true rfl⟩ (j_kq ?_)
    refine J_if_ne (pc' := 16) (tgt := 21) dX9_shut_13 rfl (by decide) (fun c10 => ?_) (fun c10 => ?_)
    · replace h := j_iq c10 h
      refine J_iload_n (pc' := 22) (i := 2) (n := 2) dX9_shut_21 rfl rfl rfl ?_
      refine J_iconst (pc' := 23) (v := (1 : Int32)) dX9_shut_22 rfl ic_1 ?_
      refine J_icmp_ne (pc' := 26) (tgt := 49) dX9_shut_23 rfl (by decide) (fun c11 => ?_) (fun c11 => ?_)
      · replace h := j_iq c11 h
        refine J_aload_n (pc' := 50) (i := 0) (n := 0) dX9_shut_49 rfl rfl rfl ?_
        refine J_getR (pc' := 53) (b := 17) dX9_shut_50 rfl fl_X9_75 rfl (x_o hs) (x_n hs (Nat.le_of_ble_eq_true rfl)) (x_r0 hs) ?_
        refine J_getR (pc' := 56) (b := (17 + 2)) dX9_shut_53 rfl fl_X9_113 rfl (b_o (x_b17 hs)) (b_no (x_b17 hs)) (b_r2 (x_b17 hs)) ?_
        refine J_iload_n (pc' := 57) (i := 1) (n := 1) dX9_shut_56 rfl rfl rfl ?_
        obtain ⟨v12, e13, h⟩ := a_i_inv h
        refine J_ialde (pc' := 58) dX9_shut_57 rfl (b_s2 (x_b17 hs)) (b_n (x_b17 hs) (Nat.le_of_ble_eq_true rfl)) e13 ?_
        refine J_istore_n (pc' := 59) (i := 3) (lv' := [(3, .int v12), (0, .ref 0), (1, .int x1), (2, .int x2)]) dX9_shut_58 rfl rfl (by decide) rfl ?_
        refine J_aload_n (pc' := 60) (i := 0) (n := 1) dX9_shut_59 rfl rfl rfl ?_
        refine J_getR (pc' := 63) (b := 17) dX9_shut_60 rfl fl_X9_75 rfl (x_o hs) (x_n hs (Nat.le_of_ble_eq_true rfl)) (x_r0 hs) ?_
        refine J_getR (pc' := 66) (b := (17 + 2)) dX9_shut_63 rfl fl_X9_113 rfl (b_o (x_b17 hs)) (b_no (x_b17 hs)) (b_r2 (x_b17 hs)) ?_
        refine J_iload_n (pc' := 67) (i := 1) (n := 2) dX9_shut_66 rfl rfl rfl ?_
        refine J_iload_n (pc' := 68) (i := 2) (n := 3) dX9_shut_67 rfl rfl rfl ?_
        obtain ⟨M14, e15, h⟩ := w_i_inv h
        have g16 : sh_x M14.2.2 := j_shI e15.2 hs
        refine J_iaste (pc' := 69) dX9_shut_68 rfl (b_s2 (x_b17 hs)) (b_n (x_b17 hs) (Nat.le_of_ble_eq_true rfl)) e15 ?_
        refine J_aload_n (pc' := 70) (i := 0) (n := 1) dX9_shut_69 rfl rfl rfl ?_
        refine J_getR (pc' := 73) (b := 17) dX9_shut_70 rfl fl_X9_75 rfl (x_o g16) (x_n g16 (Nat.le_of_ble_eq_true rfl)) (x_r0 g16) ?_
        refine J_iconst (pc' := 74) (v := (0 : Int32)) dX9_shut_73 rfl ic_0 ?_
        obtain ⟨M17, e18, h⟩ := tl_inv h
        have g19 : sh_x M17.2.2 := j_shI e18 g16
        refine J_putIe (pc' := 77) dX9_shut_74 rfl fl_X9_116 ⟨rfl, rfl, rfl⟩ (b_o (x_b17 g16)) (b_no (x_b17 g16)) e18 ?_
        refine J_iload_n (pc' := 78) (i := 3) (n := 0) dX9_shut_77 rfl rfl rfl ?_
        exact J_iret rfl dX9_shut_78 ⟨rfl, Nat.le_refl _⟩ (j_pW h)
      · replace h := j_ip c11 h
        refine J_aload_n (pc' := 27) (i := 0) (n := 0) dX9_shut_26 rfl rfl rfl ?_
        refine J_getR (pc' := 30) (b := 17) dX9_shut_27 rfl fl_X9_75 rfl (x_o hs) (x_n hs (Nat.le_of_ble_eq_true rfl)) (x_r0 hs) ?_
        refine J_aload_n (pc' := 31) (i := 0) (n := 0) dX9_shut_30 rfl rfl rfl ?_
        refine J_getR (pc' := 34) (b := 17) dX9_shut_31 rfl fl_X9_75 rfl (x_o hs) (x_n hs (Nat.le_of_ble_eq_true rfl)) (x_r0 hs) ?_
        refine J_getR (pc' := 37) (b := (17 + 5)) dX9_shut_34 rfl fl_X9_103 rfl (b_o (x_b17 hs)) (b_no (x_b17 hs)) (b_r5 (x_b17 hs)) ?_
        refine J_iload_n (pc' := 38) (i := 1) (n := 1) dX9_shut_37 rfl rfl rfl ?_
        obtain ⟨v20, e21, h⟩ := bi_inv h
        refine J_callVN (pc' := 41) (as := [.ref (17 + 5), .int x1]) (rest := []) dX9_shut_38 rfl lk_X9_106 rfl 0 (by decide) rfl (b_o (x_b17 hs)) (b_no (x_b17 hs)) (c_X0_members (x_b17 hs) ⟨(b_s5 (x_b17 hs)), (b_n (x_b17 hs) (Nat.le_of_ble_eq_true rfl))⟩ e21) ⟨Nat.le_of_ble_eq_true rfl, Nat.le_of_ble_eq_true rfl⟩ (Nat.le_of_ble_eq_true rfl) ⟨Nat.le_of_ble_eq_true rfl, Nat.le_of_ble_eq_true rfl⟩ (j_kq ?_)
        refine J_if_eq (pc' := 44) (tgt := 49) dX9_shut_41 rfl (by decide) (fun c22 => ?_) (fun c22 => ?_)
        · replace h := j_ip c22 h
          refine J_aload_n (pc' := 50) (i := 0) (n := 0) dX9_shut_49 rfl rfl rfl ?_
          refine J_getR (pc' := 53) (b := 17) dX9_shut_50 rfl fl_X9_75 rfl (x_o hs) (x_n hs (Nat.le_of_ble_eq_true rfl)) (x_r0 hs) ?_
          refine J_getR (pc' := 56) (b := (17 + 2)) dX9_shut_53 rfl fl_X9_113 rfl (b_o (x_b17 hs)) (b_no (x_b17 hs)) (b_r2 (x_b17 hs)) ?_
          refine J_iload_n (pc' := 57) (i := 1) (n := 1) dX9_shut_56 rfl rfl rfl ?_
          obtain ⟨v23, e24, h⟩ := a_i_inv h
          refine J_ialde (pc' := 58) dX9_shut_57 rfl (b_s2 (x_b17 hs)) (b_n (x_b17 hs) (Nat.le_of_ble_eq_true rfl)) e24 ?_
          refine J_istore_n (pc' := 59) (i := 3) (lv' := [(3, .int v23), (0, .ref 0), (1, .int x1), (2, .int x2)]) dX9_shut_58 rfl rfl (by decide) rfl ?_
          refine J_aload_n (pc' := 60) (i := 0) (n := 1) dX9_shut_59 rfl rfl rfl ?_
          refine J_getR (pc' := 63) (b := 17) dX9_shut_60 rfl fl_X9_75 rfl (x_o hs) (x_n hs (Nat.le_of_ble_eq_true rfl)) (x_r0 hs) ?_
          refine J_getR (pc' := 66) (b := (17 + 2)) dX9_shut_63 rfl fl_X9_113 rfl (b_o (x_b17 hs)) (b_no (x_b17 hs)) (b_r2 (x_b17 hs)) ?_
          refine J_iload_n (pc' := 67) (i := 1) (n := 2) dX9_shut_66 rfl rfl rfl ?_
          refine J_iload_n (pc' := 68) (i := 2) (n := 3) dX9_shut_67 rfl rfl rfl ?_
          obtain ⟨M25, e26, h⟩ := w_i_inv h
          have g27 : sh_x M25.2.2 := j_shI e26.2 hs
          refine J_iaste (pc' := 69) dX9_shut_68 rfl (b_s2 (x_b17 hs)) (b_n (x_b17 hs) (Nat.le_of_ble_eq_true rfl)) e26 ?_
          refine J_aload_n (pc' := 70) (i := 0) (n := 1) dX9_shut_69 rfl rfl rfl ?_
          refine J_getR (pc' := 73) (b := 17) dX9_shut_70 rfl fl_X9_75 rfl (x_o g27) (x_n g27 (Nat.le_of_ble_eq_true rfl)) (x_r0 g27) ?_
          refine J_iconst (pc' := 74) (v := (0 : Int32)) dX9_shut_73 rfl ic_0 ?_
          obtain ⟨M28, e29, h⟩ := tl_inv h
          have g30 : sh_x M28.2.2 := j_shI e29 g27
          refine J_putIe (pc' := 77) dX9_shut_74 rfl fl_X9_116 ⟨rfl, rfl, rfl⟩ (b_o (x_b17 g27)) (b_no (x_b17 g27)) e29 ?_
          refine J_iload_n (pc' := 78) (i := 3) (n := 0) dX9_shut_77 rfl rfl rfl ?_
          exact J_iret rfl dX9_shut_78 ⟨rfl, Nat.le_refl _⟩ (j_pW h)
        · replace h := j_iq c22 h
          refine J_aload_n (pc' := 45) (i := 0) (n := 0) dX9_shut_44 rfl rfl rfl ?_
          obtain ⟨q31, e32, h⟩ := bi_inv h
          obtain ⟨c33, h⟩ := j_ck_inv h
          refine J_callV (pc' := 48) (as := []) (rest := []) dX9_shut_45 rfl lk_X9_110 rfl 9 (by decide) rfl (x_o hs) (x_n hs (Nat.le_of_ble_eq_true rfl)) (c_X9_no hs e32) ⟨Nat.le_of_ble_eq_true rfl, Nat.le_of_ble_eq_true rfl⟩ (Nat.le_of_ble_eq_true rfl) ⟨Nat.le_of_ble_eq_true rfl, Nat.le_of_ble_eq_true rfl⟩ (j_kq ?_)
          have g34 : sh_x q31.2.2.2 := j_shE c33 hs
          exact J_iret rfl dX9_shut_48 ⟨rfl, Nat.le_refl _⟩ (j_pW h)
    · replace h := j_ip c10 h
      refine J_aload_n (pc' := 17) (i := 0) (n := 0) dX9_shut_16 rfl rfl rfl ?_
      obtain ⟨q35, e36, h⟩ := bi_inv h
      obtain ⟨c37, h⟩ := j_ck_inv h
      refine J_callV (pc' := 20) (as := []) (rest := []) dX9_shut_17 rfl lk_X9_96 rfl 9 (by decide) rfl (x_o hs) (x_n hs (Nat.le_of_ble_eq_true rfl)) (c_X9_bad hs e36) ⟨Nat.le_of_ble_eq_true rfl, Nat.le_of_ble_eq_true rfl⟩ (Nat.le_of_ble_eq_true rfl) ⟨Nat.le_of_ble_eq_true rfl, Nat.le_of_ble_eq_true rfl⟩ (j_kq ?_)
      have g38 : sh_x q35.2.2.2 := j_shE c37 hs
      exact J_iret rfl dX9_shut_20 ⟨rfl, Nat.le_refl _⟩ (j_pW h)
abbrev JT_X9_full (l : Launch) (G : j_G) (r : (Int32 × j_M)) : Nat → List (Nat × Value) → List Value → j_M → Prop := JJ l G md_X9_full (j_rm 1 (0, 0)) (0, 0) (0, 0) (po (some (.int r.1)) r.2)
noncomputable def f_X9_full (M : j_M)  : Option (Int32 × j_M) :=
  tl (j_sI M 0 11 ((j_I M 0 11) + (1 : Int32))) fun M1 => (some (((-4) : Int32), M1))
set_option maxHeartbeats 4000000 in
theorem c_X9_full {l : Launch} {G : j_G} {M : j_M}  (hs : sh_x M.2.2) {r : (Int32 × j_M)} (h : f_X9_full M  = some r) : j_Sp l G md_X9_full 1 (0, 0) [.ref 0] M (po (some (.int r.1)) r.2) := by
  refine j_Sp.of (by decide) (Nat.le_of_ble_eq_true rfl) ?_
  show JT_X9_full l G r 0 [(0, .ref 0)] [] M
  unfold f_X9_full at h
  refine J_aload_n (pc' := 1) (i := 0) (n := 0) dX9_full_0 rfl rfl rfl ?_
  refine J_dup (pc' := 2) dX9_full_1 rfl rfl ?_
  refine J_getI (pc' := 5) dX9_full_2 rfl fl_X9_51 rfl (x_o hs) (x_n hs (Nat.le_of_ble_eq_true rfl)) ?_
  refine J_iconst (pc' := 6) (v := (1 : Int32)) dX9_full_5 rfl ic_1 ?_
  refine J_iadd (pc' := 7) dX9_full_6 rfl ?_
  obtain ⟨M1, e2, h⟩ := tl_inv h
  have g3 : sh_x M1.2.2 := j_shI e2 hs
  refine J_putIe (pc' := 10) dX9_full_7 rfl fl_X9_51 ⟨rfl, rfl, rfl⟩ (x_o hs) (x_n hs (Nat.le_of_ble_eq_true rfl)) e2 ?_
  refine J_bipush (pc' := 12) (v := ((-4) : Int32)) dX9_full_10 rfl bp_m4 ?_
  exact J_iret rfl dX9_full_12 ⟨rfl, Nat.le_refl _⟩ (j_pW h)
abbrev JT_X9_one (l : Launch) (G : j_G) (r : (Int32 × j_M)) : Nat → List (Nat × Value) → List Value → j_M → Prop := JJ l G md_X9_one (j_rm 3 (0, 0)) (0, 0) (0, 0) (po (some (.int r.1)) r.2)
noncomputable def f_X9_one (M : j_M) (x1 : Int32) (x2 : Int32) (x3 : Int32) : Option (Int32 × j_M) :=
  tl (f_X9_isKind x1) fun v1 => (if v1 = 0 then ((f_X9_bad M).bind fun q4 => j_ck M q4.2 (some (q4.1, q4.2))) else (tl (f_X9_isPace x2) fun v8 => (if v8 = 0 then ((f_X9_bad M).bind fun q11 => j_ck M q11.2 (some (q11.1, q11.2))) else (tl (f_X9_isLane x3) fun v15 => (if v15 = 0 then ((f_X9_bad M).bind fun q34 => j_ck M q34.2 (some (q34.1, q34.2))) else ((f_X0_isOpen M 17 x3).bind fun v18 => (if v18 = 0 then ((f_X9_no M).bind fun q30 => j_ck M q30.2 (some (q30.1, q30.2))) else (if (j_I M 17 9) < (7 : Int32) then ((f_X0_comes M 17 x1 x2 x3).bind fun q22 => j_ck M q22.2 (some (q22.1, q22.2))) else ((f_X9_full M).bind fun q26 => j_ck M q26.2 (some (q26.1, q26.2)))))))))))
set_option maxHeartbeats 4000000 in
theorem c_X9_one {l : Launch} {G : j_G} {M : j_M} {x1 : Int32} {x2 : Int32} {x3 : Int32} (hs : sh_x M.2.2) {r : (Int32 × j_M)} (h : f_X9_one M x1 x2 x3 = some r) : j_Sp l G md_X9_one 3 (0, 0) [.ref 0, .int x1, .int x2, .int x3] M (po (some (.int r.1)) r.2) := by
  refine j_Sp.of (by decide) (Nat.le_of_ble_eq_true rfl) ?_
  show JT_X9_one l G r 0 [(0, .ref 0), (1, .int x1), (2, .int x2), (3, .int x3)] [] M
  unfold f_X9_one at h
  refine J_iload_n (pc' := 1) (i := 1) (n := 1) dX9_one_0 rfl rfl rfl ?_
  obtain ⟨v1, e2, h⟩ := tl_inv h
  refine J_callS (pc' := 4) (as := [.int x1]) (rest := []) dX9_one_1 rfl lk_X9_119 rfl (c_X9_isKind e2) ⟨Nat.le_of_ble_eq_true rfl, Nat.le_of_ble_eq_true rfl⟩ (Nat.le_of_ble_eq_true rfl) ⟨Nat.le_of_ble_eq_true rfl, Nat.le_of_ble_eq_true rfl⟩ (j_kq ?_)
  refine J_if_eq (pc' := 7) (tgt := 21) dX9_one_4 rfl (by decide) (fun c3 => ?_) (fun c3 => ?_)
  · replace h := j_ip c3 h
    refine J_aload_n (pc' := 22) (i := 0) (n := 0) dX9_one_21 rfl rfl rfl ?_
    obtain ⟨q4, e5, h⟩ := bi_inv h
    obtain ⟨c6, h⟩ := j_ck_inv h
    refine J_callV (pc' := 25) (as := []) (rest := []) dX9_one_22 rfl lk_X9_96 rfl 9 (by decide) rfl (x_o hs) (x_n hs (Nat.le_of_ble_eq_true rfl)) (c_X9_bad hs e5) ⟨Nat.le_of_ble_eq_true rfl, Nat.le_of_ble_eq_true rfl⟩ (Nat.le_of_ble_eq_true rfl) ⟨Nat.le_of_ble_eq_true rfl, Nat.le_of_ble_eq_true rfl⟩ (j_kq ?_)
    have g7 : sh_x q4.2.2.2 := j_shE c6 hs
    exact J_iret rfl dX9_one_25 ⟨rfl, Nat.le_refl _⟩ (j_pW h)
  · replace h := j_iq c3 h
    refine J_iload_n (pc' := 8) (i := 2) (n := 2) dX9_one_7 rfl rfl rfl ?_
    obtain ⟨v8, e9, h⟩ := tl_inv h
    refine J_callS (pc' := 11) (as := [.int x2]) (rest := []) dX9_one_8 rfl lk_X9_122 rfl (c_X9_isPace e9) ⟨Nat.le_of_ble_eq_true rfl, Nat.le_of_ble_eq_true rfl⟩ (Nat.le_of_ble_eq_true rfl) ⟨Nat.le_of_ble_eq_true rfl, Nat.le_of_ble_eq_true rfl⟩ (j_kq ?_)
    refine J_if_eq (pc' := 14) (tgt := 21) dX9_one_11 rfl (by decide) (fun c10 => ?_) (fun c10 => ?_)
    · replace h := j_ip c10 h
      refine J_aload_n (pc' := 22) (i := 0) (n := 0) dX9_one_21 rfl rfl rfl ?_
      obtain ⟨q11, e12, h⟩ := bi_inv h
      obtain ⟨c13, h⟩ := j_ck_inv h
      refine J_callV (pc' := 25) (as := []) (rest := []) dX9_one_22 rfl lk_X9_96 rfl 9 (by decide) rfl (x_o hs) (x_n hs (Nat.le_of_ble_eq_true rfl)) (c_X9_bad hs e12) ⟨Nat.le_of_ble_eq_true rfl, Nat.le_of_ble_eq_true rfl⟩ (Nat.le_of_ble_eq_true rfl) ⟨Nat.le_of_ble_eq_true rfl, Nat.le_of_ble_eq_true rfl⟩ (j_kq ?_)
      have g14 : sh_x q11.2.2.2 := j_shE c13 hs
      exact J_iret rfl dX9_one_25 ⟨rfl, Nat.le_refl _⟩ (j_pW h)
    · replace h := j_iq c10 h
      refine J_iload_n (pc' := 15) (i := 3) (n := 3) dX9_one_14 rfl rfl rfl ?_
      obtain ⟨v15, e16, h⟩ := tl_inv h
      refine J_callS (pc' := 18) (as := [.int x3]) (rest := []) dX9_one_15 rfl lk_X9_88 rfl (c_X9_isLane e16) ⟨Nat.le_of_ble_eq_true rfl, Nat.le_of_ble_eq_true rfl⟩ (Nat.le_of_ble_eq_true rfl) ⟨Nat.le_of_ble_eq_true rfl, Nat.le_of_ble_eq_true rfl⟩ (j_kq ?_)
      refine J_if_ne (pc' := 21) (tgt := 26) dX9_one_18 rfl (by decide) (fun c17 => ?_) (fun c17 => ?_)
      · replace h := j_iq c17 h
        refine J_aload_n (pc' := 27) (i := 0) (n := 0) dX9_one_26 rfl rfl rfl ?_
        refine J_getR (pc' := 30) (b := 17) dX9_one_27 rfl fl_X9_75 rfl (x_o hs) (x_n hs (Nat.le_of_ble_eq_true rfl)) (x_r0 hs) ?_
        refine J_iload_n (pc' := 31) (i := 3) (n := 3) dX9_one_30 rfl rfl rfl ?_
        obtain ⟨v18, e19, h⟩ := bi_inv h
        refine J_callVN (pc' := 34) (as := [.int x3]) (rest := []) dX9_one_31 rfl lk_X9_125 rfl 0 (by decide) rfl (b_o (x_b17 hs)) (b_no (x_b17 hs)) (c_X0_isOpen (x_b17 hs) e19) ⟨Nat.le_of_ble_eq_true rfl, Nat.le_of_ble_eq_true rfl⟩ (Nat.le_of_ble_eq_true rfl) ⟨Nat.le_of_ble_eq_true rfl, Nat.le_of_ble_eq_true rfl⟩ (j_kq ?_)
        refine J_if_ne (pc' := 37) (tgt := 42) dX9_one_34 rfl (by decide) (fun c20 => ?_) (fun c20 => ?_)
        · replace h := j_iq c20 h
          refine J_aload_n (pc' := 43) (i := 0) (n := 0) dX9_one_42 rfl rfl rfl ?_
          refine J_getR (pc' := 46) (b := 17) dX9_one_43 rfl fl_X9_75 rfl (x_o hs) (x_n hs (Nat.le_of_ble_eq_true rfl)) (x_r0 hs) ?_
          refine J_getI (pc' := 49) dX9_one_46 rfl fl_X9_82 rfl (b_o (x_b17 hs)) (b_no (x_b17 hs)) ?_
          refine J_bipush (pc' := 51) (v := (7 : Int32)) dX9_one_49 rfl bp_7 ?_
          refine J_icmp_lt (pc' := 54) (tgt := 59) dX9_one_51 rfl (by decide) (fun c21 => ?_) (fun c21 => ?_)
          · replace h := j_ip c21 h
            refine J_aload_n (pc' := 60) (i := 0) (n := 0) dX9_one_59 rfl rfl rfl ?_
            refine J_getR (pc' := 63) (b := 17) dX9_one_60 rfl fl_X9_75 rfl (x_o hs) (x_n hs (Nat.le_of_ble_eq_true rfl)) (x_r0 hs) ?_
            refine J_iload_n (pc' := 64) (i := 1) (n := 1) dX9_one_63 rfl rfl rfl ?_
            refine J_iload_n (pc' := 65) (i := 2) (n := 2) dX9_one_64 rfl rfl rfl ?_
            refine J_iload_n (pc' := 66) (i := 3) (n := 3) dX9_one_65 rfl rfl rfl ?_
            obtain ⟨q22, e23, h⟩ := bi_inv h
            obtain ⟨c24, h⟩ := j_ck_inv h
            refine J_callVN (pc' := 69) (as := [.int x1, .int x2, .int x3]) (rest := []) dX9_one_66 rfl lk_X9_131 rfl 0 (by decide) rfl (b_o (x_b17 hs)) (b_no (x_b17 hs)) (c_X0_comes (x_b17 hs) e23) ⟨Nat.le_of_ble_eq_true rfl, Nat.le_of_ble_eq_true rfl⟩ (Nat.le_of_ble_eq_true rfl) ⟨Nat.le_of_ble_eq_true rfl, Nat.le_of_ble_eq_true rfl⟩ (j_kq ?_)
            have g25 : sh_x q22.2.2.2 := j_shE c24 hs
            exact J_iret rfl dX9_one_69 ⟨rfl, Nat.le_refl _⟩ (j_pW h)
          · replace h := j_iq c21 h
            refine J_aload_n (pc' := 55) (i := 0) (n := 0) dX9_one_54 rfl rfl rfl ?_
            obtain ⟨q26, e27, h⟩ := bi_inv h
            obtain ⟨c28, h⟩ := j_ck_inv h
            refine J_callV (pc' := 58) (as := []) (rest := []) dX9_one_55 rfl lk_X9_128 rfl 9 (by decide) rfl (x_o hs) (x_n hs (Nat.le_of_ble_eq_true rfl)) (c_X9_full hs e27) ⟨Nat.le_of_ble_eq_true rfl, Nat.le_of_ble_eq_true rfl⟩ (Nat.le_of_ble_eq_true rfl) ⟨Nat.le_of_ble_eq_true rfl, Nat.le_of_ble_eq_true rfl⟩ (j_kq ?_)
            have g29 : sh_x q26.2.2.2 := j_shE c28 hs
            exact J_iret rfl dX9_one_58 ⟨rfl, Nat.le_refl _⟩ (j_pW h)
        · replace h := j_ip c20 h
          refine J_aload_n (pc' := 38) (i := 0) (n := 0) dX9_one_37 rfl rfl rfl ?_
          obtain ⟨q30, e31, h⟩ := bi_inv h
          obtain ⟨c32, h⟩ := j_ck_inv h
          refine J_callV (pc' := 41) (as := []) (rest := []) dX9_one_38 rfl lk_X9_110 rfl 9 (by decide) rfl (x_o hs) (x_n hs (Nat.le_of_ble_eq_true rfl)) (c_X9_no hs e31) ⟨Nat.le_of_ble_eq_true rfl, Nat.le_of_ble_eq_true rfl⟩ (Nat.le_of_ble_eq_true rfl) ⟨Nat.le_of_ble_eq_true rfl, Nat.le_of_ble_eq_true rfl⟩ (j_kq ?_)
          have g33 : sh_x q30.2.2.2 := j_shE c32 hs
          exact J_iret rfl dX9_one_41 ⟨rfl, Nat.le_refl _⟩ (j_pW h)
      · replace h := j_ip c17 h
        refine J_aload_n (pc' := 22) (i := 0) (n := 0) dX9_one_21 rfl rfl rfl ?_
        obtain ⟨q34, e35, h⟩ := bi_inv h
        obtain ⟨c36, h⟩ := j_ck_inv h
        refine J_callV (pc' := 25) (as := []) (rest := []) dX9_one_22 rfl lk_X9_96 rfl 9 (by decide) rfl (x_o hs) (x_n hs (Nat.le_of_ble_eq_true rfl)) (c_X9_bad hs e35) ⟨Nat.le_of_ble_eq_true rfl, Nat.le_of_ble_eq_true rfl⟩ (Nat.le_of_ble_eq_true rfl) ⟨Nat.le_of_ble_eq_true rfl, Nat.le_of_ble_eq_true rfl⟩ (j_kq ?_)
        have g37 : sh_x q34.2.2.2 := j_shE c36 hs
        exact J_iret rfl dX9_one_25 ⟨rfl, Nat.le_refl _⟩ (j_pW h)
abbrev JT_X9_type (l : Launch) (G : j_G) (r : (Int32 × j_M)) : Nat → List (Nat × Value) → List Value → j_M → Prop := JJ l G md_X9_type (j_rm 2 (0, 0)) (0, 0) (0, 0) (po (some (.int r.1)) r.2)
noncomputable def f_X9_type (M : j_M) (x1 : Int32) : Option (Int32 × j_M) :=
  tl (f_X9_within x1 (0 : Int32) (127 : Int32)) fun v1 => (if v1 = 0 then ((f_X9_bad M).bind fun q13 => j_ck M q13.2 (some (q13.1, q13.2))) else (if (j_I M 7 1) < (150 : Int32) then ((f_X7_add M x1).bind fun q5 => j_ck M q5.2 (some (q5.1, q5.2))) else ((f_X9_full M).bind fun q9 => j_ck M q9.2 (some (q9.1, q9.2)))))
set_option maxHeartbeats 4000000 in
theorem c_X9_type {l : Launch} {G : j_G} {M : j_M} {x1 : Int32} (hs : sh_x M.2.2) {r : (Int32 × j_M)} (h : f_X9_type M x1 = some r) : j_Sp l G md_X9_type 2 (0, 0) [.ref 0, .int x1] M (po (some (.int r.1)) r.2) := by
  refine j_Sp.of (by decide) (Nat.le_of_ble_eq_true rfl) ?_
  show JT_X9_type l G r 0 [(0, .ref 0), (1, .int x1)] [] M
  unfold f_X9_type at h
  refine J_iload_n (pc' := 1) (i := 1) (n := 1) dX9_type_0 rfl rfl rfl ?_
  refine J_iconst (pc' := 2) (v := (0 : Int32)) dX9_type_1 rfl ic_0 ?_
  refine J_bipush (pc' := 4) (v := (127 : Int32)) dX9_type_2 rfl bp_127 ?_
  obtain ⟨v1, e2, h⟩ := tl_inv h
  refine J_callS (pc' := 7) (as := [.int x1, .int (0 : Int32), .int (127 : Int32)]) (rest := []) dX9_type_4 rfl lk_X9_92 rfl (c_X9_within e2) ⟨Nat.le_of_ble_eq_true rfl, Nat.le_of_ble_eq_true rfl⟩ (Nat.le_of_ble_eq_true rfl) ⟨Nat.le_of_ble_eq_true rfl, Nat.le_of_ble_eq_true rfl⟩ (j_kq ?_)
  refine J_if_ne (pc' := 10) (tgt := 15) dX9_type_7 rfl (by decide) (fun c3 => ?_) (fun c3 => ?_)
  · replace h := j_iq c3 h
    refine J_aload_n (pc' := 16) (i := 0) (n := 0) dX9_type_15 rfl rfl rfl ?_
    refine J_getR (pc' := 19) (b := 7) dX9_type_16 rfl fl_X9_29 rfl (x_o hs) (x_n hs (Nat.le_of_ble_eq_true rfl)) (x_r5 hs) ?_
    refine J_getI (pc' := 22) dX9_type_19 rfl fl_X9_135 rfl (x_o7 hs) (x_n hs (Nat.le_of_ble_eq_true rfl)) ?_
    refine J_sipush (pc' := 25) (v := (150 : Int32)) dX9_type_22 rfl sp_150 ?_
    refine J_icmp_lt (pc' := 28) (tgt := 33) dX9_type_25 rfl (by decide) (fun c4 => ?_) (fun c4 => ?_)
    · replace h := j_ip c4 h
      refine J_aload_n (pc' := 34) (i := 0) (n := 0) dX9_type_33 rfl rfl rfl ?_
      refine J_getR (pc' := 37) (b := 7) dX9_type_34 rfl fl_X9_29 rfl (x_o hs) (x_n hs (Nat.le_of_ble_eq_true rfl)) (x_r5 hs) ?_
      refine J_iload_n (pc' := 38) (i := 1) (n := 1) dX9_type_37 rfl rfl rfl ?_
      obtain ⟨q5, e6, h⟩ := bi_inv h
      obtain ⟨c7, h⟩ := j_ck_inv h
      refine J_callVN (pc' := 41) (as := [.int x1]) (rest := []) dX9_type_38 rfl lk_X9_138 rfl 7 (by decide) rfl (x_o7 hs) (x_n hs (Nat.le_of_ble_eq_true rfl)) (c_X7_add hs e6) ⟨Nat.le_of_ble_eq_true rfl, Nat.le_of_ble_eq_true rfl⟩ (Nat.le_of_ble_eq_true rfl) ⟨Nat.le_of_ble_eq_true rfl, Nat.le_of_ble_eq_true rfl⟩ (j_kq ?_)
      have g8 : sh_x q5.2.2.2 := j_shE c7 hs
      exact J_iret rfl dX9_type_41 ⟨rfl, Nat.le_refl _⟩ (j_pW h)
    · replace h := j_iq c4 h
      refine J_aload_n (pc' := 29) (i := 0) (n := 0) dX9_type_28 rfl rfl rfl ?_
      obtain ⟨q9, e10, h⟩ := bi_inv h
      obtain ⟨c11, h⟩ := j_ck_inv h
      refine J_callV (pc' := 32) (as := []) (rest := []) dX9_type_29 rfl lk_X9_128 rfl 9 (by decide) rfl (x_o hs) (x_n hs (Nat.le_of_ble_eq_true rfl)) (c_X9_full hs e10) ⟨Nat.le_of_ble_eq_true rfl, Nat.le_of_ble_eq_true rfl⟩ (Nat.le_of_ble_eq_true rfl) ⟨Nat.le_of_ble_eq_true rfl, Nat.le_of_ble_eq_true rfl⟩ (j_kq ?_)
      have g12 : sh_x q9.2.2.2 := j_shE c11 hs
      exact J_iret rfl dX9_type_32 ⟨rfl, Nat.le_refl _⟩ (j_pW h)
  · replace h := j_ip c3 h
    refine J_aload_n (pc' := 11) (i := 0) (n := 0) dX9_type_10 rfl rfl rfl ?_
    obtain ⟨q13, e14, h⟩ := bi_inv h
    obtain ⟨c15, h⟩ := j_ck_inv h
    refine J_callV (pc' := 14) (as := []) (rest := []) dX9_type_11 rfl lk_X9_96 rfl 9 (by decide) rfl (x_o hs) (x_n hs (Nat.le_of_ble_eq_true rfl)) (c_X9_bad hs e14) ⟨Nat.le_of_ble_eq_true rfl, Nat.le_of_ble_eq_true rfl⟩ (Nat.le_of_ble_eq_true rfl) ⟨Nat.le_of_ble_eq_true rfl, Nat.le_of_ble_eq_true rfl⟩ (j_kq ?_)
    have g16 : sh_x q13.2.2.2 := j_shE c15 hs
    exact J_iret rfl dX9_type_14 ⟨rfl, Nat.le_refl _⟩ (j_pW h)
abbrev JT_X9_clear (l : Launch) (G : j_G) (r : (Int32 × j_M)) : Nat → List (Nat × Value) → List Value → j_M → Prop := JJ l G md_X9_clear (j_rm 1 (0, 0)) (0, 0) (0, 0) (po (some (.int r.1)) r.2)
noncomputable def f_X9_clear (M : j_M)  : Option (Int32 × j_M) :=
  tl (j_sI M 7 1 (0 : Int32)) fun M1 => (some ((j_I M 7 1), M1))
set_option maxHeartbeats 4000000 in
theorem c_X9_clear {l : Launch} {G : j_G} {M : j_M}  (hs : sh_x M.2.2) {r : (Int32 × j_M)} (h : f_X9_clear M  = some r) : j_Sp l G md_X9_clear 1 (0, 0) [.ref 0] M (po (some (.int r.1)) r.2) := by
  refine j_Sp.of (by decide) (Nat.le_of_ble_eq_true rfl) ?_
  show JT_X9_clear l G r 0 [(0, .ref 0)] [] M
  unfold f_X9_clear at h
  refine J_aload_n (pc' := 1) (i := 0) (n := 0) dX9_clear_0 rfl rfl rfl ?_
  refine J_getR (pc' := 4) (b := 7) dX9_clear_1 rfl fl_X9_29 rfl (x_o hs) (x_n hs (Nat.le_of_ble_eq_true rfl)) (x_r5 hs) ?_
  refine J_getI (pc' := 7) dX9_clear_4 rfl fl_X9_135 rfl (x_o7 hs) (x_n hs (Nat.le_of_ble_eq_true rfl)) ?_
  refine J_istore_n (pc' := 8) (i := 1) (lv' := [(1, .int (j_I M 7 1)), (0, .ref 0)]) dX9_clear_7 rfl rfl (by decide) rfl ?_
  refine J_aload_n (pc' := 9) (i := 0) (n := 1) dX9_clear_8 rfl rfl rfl ?_
  refine J_getR (pc' := 12) (b := 7) dX9_clear_9 rfl fl_X9_29 rfl (x_o hs) (x_n hs (Nat.le_of_ble_eq_true rfl)) (x_r5 hs) ?_
  refine J_iconst (pc' := 13) (v := (0 : Int32)) dX9_clear_12 rfl ic_0 ?_
  obtain ⟨M1, e2, h⟩ := tl_inv h
  have g3 : sh_x M1.2.2 := j_shI e2 hs
  refine J_putIe (pc' := 16) dX9_clear_13 rfl fl_X9_135 ⟨rfl, rfl, rfl⟩ (x_o7 hs) (x_n hs (Nat.le_of_ble_eq_true rfl)) e2 ?_
  refine J_iload_n (pc' := 17) (i := 1) (n := 0) dX9_clear_16 rfl rfl rfl ?_
  exact J_iret rfl dX9_clear_17 ⟨rfl, Nat.le_refl _⟩ (j_pW h)
abbrev JT_X9_read (l : Launch) (G : j_G) (r : (Int32 × j_M)) : Nat → List (Nat × Value) → List Value → j_M → Prop := JJ l G md_X9_read (j_rm 8 (0, 0)) (0, 0) (0, 0) (po (some (.int r.1)) r.2)
noncomputable def f_X9_read (M : j_M)  : Option (Int32 × j_M) :=
  (f_X7_tellTo M).bind fun q1 => j_ck M q1.2 (if q1.1 = ((-1) : Int32) then (some ((((-10) : Int32) - (j_I q1.2 7 2)), q1.2)) else ((f_X0_becomes q1.2 17 26).bind fun q6 => j_ck q1.2 q6 (some (q1.1, q6))))
set_option maxHeartbeats 4000000 in
theorem c_X9_read {l : Launch} {G : j_G} {M : j_M}  (hs : sh_x M.2.2) {r : (Int32 × j_M)} (h : f_X9_read M  = some r) : j_Sp l G md_X9_read 8 (0, 0) [.ref 0] M (po (some (.int r.1)) r.2) := by
  refine j_Sp.of (by decide) (Nat.le_of_ble_eq_true rfl) ?_
  show JT_X9_read l G r 0 [(0, .ref 0)] [] M
  unfold f_X9_read at h
  refine J_aload_n (pc' := 1) (i := 0) (n := 0) dX9_read_0 rfl rfl rfl ?_
  refine J_getR (pc' := 4) (b := 7) dX9_read_1 rfl fl_X9_29 rfl (x_o hs) (x_n hs (Nat.le_of_ble_eq_true rfl)) (x_r5 hs) ?_
  refine J_aload_n (pc' := 5) (i := 0) (n := 0) dX9_read_4 rfl rfl rfl ?_
  refine J_getR (pc' := 8) (b := 26) dX9_read_5 rfl fl_X9_79 rfl (x_o hs) (x_n hs (Nat.le_of_ble_eq_true rfl)) (x_r1 hs) ?_
  obtain ⟨q1, e2, h⟩ := bi_inv h
  obtain ⟨c3, h⟩ := j_ck_inv h
  refine J_callVN (pc' := 11) (as := [.ref 26]) (rest := []) dX9_read_8 rfl lk_X9_142 rfl 7 (by decide) rfl (x_o7 hs) (x_n hs (Nat.le_of_ble_eq_true rfl)) (c_X7_tellTo hs e2) ⟨Nat.le_of_ble_eq_true rfl, Nat.le_of_ble_eq_true rfl⟩ (Nat.le_of_ble_eq_true rfl) ⟨Nat.le_of_ble_eq_true rfl, Nat.le_of_ble_eq_true rfl⟩ (j_kq ?_)
  have g4 : sh_x q1.2.2.2 := j_shE c3 hs
  refine J_istore_n (pc' := 12) (i := 1) (lv' := [(1, .int q1.1), (0, .ref 0)]) dX9_read_11 rfl rfl (by decide) rfl ?_
  refine J_iload_n (pc' := 13) (i := 1) (n := 0) dX9_read_12 rfl rfl rfl ?_
  refine J_iconst (pc' := 14) (v := ((-1) : Int32)) dX9_read_13 rfl ic_m1 ?_
  refine J_icmp_ne (pc' := 17) (tgt := 28) dX9_read_14 rfl (by decide) (fun c5 => ?_) (fun c5 => ?_)
  · replace h := j_iq c5 h
    refine J_aload_n (pc' := 29) (i := 0) (n := 1) dX9_read_28 rfl rfl rfl ?_
    refine J_getR (pc' := 32) (b := 17) dX9_read_29 rfl fl_X9_75 rfl (x_o g4) (x_n g4 (Nat.le_of_ble_eq_true rfl)) (x_r0 g4) ?_
    refine J_aload_n (pc' := 33) (i := 0) (n := 1) dX9_read_32 rfl rfl rfl ?_
    refine J_getR (pc' := 36) (b := 26) dX9_read_33 rfl fl_X9_79 rfl (x_o g4) (x_n g4 (Nat.le_of_ble_eq_true rfl)) (x_r1 g4) ?_
    obtain ⟨q6, e7, h⟩ := bi_inv h
    obtain ⟨c8, h⟩ := j_ck_inv h
    refine J_callVN (pc' := 39) (as := [.ref 26]) (rest := []) dX9_read_36 rfl lk_X9_149 rfl 0 (by decide) rfl (b_o (x_b17 g4)) (b_no (x_b17 g4)) (c_X0_becomes (x_b17 g4) (x_b26 g4) e7) ⟨Nat.le_of_ble_eq_true rfl, Nat.le_of_ble_eq_true rfl⟩ (Nat.le_of_ble_eq_true rfl) ⟨Nat.le_of_ble_eq_true rfl, Nat.le_of_ble_eq_true rfl⟩ (j_kv ?_)
    have g9 : sh_x q6.2.2 := j_shE c8 g4
    refine J_iload_n (pc' := 40) (i := 1) (n := 0) dX9_read_39 rfl rfl rfl ?_
    exact J_iret rfl dX9_read_40 ⟨rfl, Nat.le_refl _⟩ (j_pW h)
  · replace h := j_ip c5 h
    refine J_bipush (pc' := 19) (v := ((-10) : Int32)) dX9_read_17 rfl bp_m10 ?_
    refine J_aload_n (pc' := 20) (i := 0) (n := 1) dX9_read_19 rfl rfl rfl ?_
    refine J_getR (pc' := 23) (b := 7) dX9_read_20 rfl fl_X9_29 rfl (x_o g4) (x_n g4 (Nat.le_of_ble_eq_true rfl)) (x_r5 g4) ?_
    refine J_getI (pc' := 26) dX9_read_23 rfl fl_X9_146 rfl (x_o7 g4) (x_n g4 (Nat.le_of_ble_eq_true rfl)) ?_
    refine J_isub (pc' := 27) dX9_read_26 rfl ?_
    exact J_iret rfl dX9_read_27 ⟨rfl, Nat.le_refl _⟩ (j_pW h)
abbrev JT_X9_isOne (l : Launch) (G : j_G) (M : j_M) (r : Int32) : Nat → List (Nat × Value) → List Value → j_M → Prop := JJ l G md_X9_isOne (j_rm 1 (0, 0)) (0, 0) (0, 0) (po (some (.int r)) M)
def f_X9_isOne (M : j_M) (x1 : Int32) : Int32 :=
  if x1 < 0 then ((0 : Int32)) else (if (j_I M 17 9) ≤ x1 then ((0 : Int32)) else ((1 : Int32)))
theorem z_X9_isOne (M : j_M) (x1 : Int32) : f_X9_isOne M x1 = 0 ∨ f_X9_isOne M x1 = 1 := by
  unfold f_X9_isOne
  try simp only [tl, jn]
  repeat' split
  all_goals first | exact Or.inl rfl | exact Or.inr rfl
set_option maxHeartbeats 4000000 in
theorem c_X9_isOne {l : Launch} {G : j_G} {M : j_M} {x1 : Int32} (hs : sh_x M.2.2) {r : Int32} (h : f_X9_isOne M x1 = r) : j_Sp l G md_X9_isOne 1 (0, 0) [.ref 0, .int x1] M (po (some (.int r)) M) := by
  refine j_Sp.of (by decide) (Nat.le_of_ble_eq_true rfl) ?_
  show JT_X9_isOne l G M r 0 [(0, .ref 0), (1, .int x1)] [] M
  unfold f_X9_isOne at h
  refine J_iload_n (pc' := 1) (i := 1) (n := 1) dX9_isOne_0 rfl rfl rfl ?_
  refine J_if_lt (pc' := 4) (tgt := 19) dX9_isOne_1 rfl (by decide) (fun c1 => ?_) (fun c1 => ?_)
  · replace h := j_ip c1 h
    refine J_iconst (pc' := 20) (v := (0 : Int32)) dX9_isOne_19 rfl ic_0 ?_
    exact J_zret (ty := .boolean) rfl rfl dX9_isOne_20 ⟨rfl, Nat.le_refl _⟩ (j_pI h)
  · replace h := j_iq c1 h
    refine J_iload_n (pc' := 5) (i := 1) (n := 1) dX9_isOne_4 rfl rfl rfl ?_
    refine J_aload_n (pc' := 6) (i := 0) (n := 0) dX9_isOne_5 rfl rfl rfl ?_
    refine J_getR (pc' := 9) (b := 17) dX9_isOne_6 rfl fl_X9_75 rfl (x_o hs) (x_n hs (Nat.le_of_ble_eq_true rfl)) (x_r0 hs) ?_
    refine J_getI (pc' := 12) dX9_isOne_9 rfl fl_X9_82 rfl (b_o (x_b17 hs)) (b_no (x_b17 hs)) ?_
    refine J_icmp_ge (pc' := 15) (tgt := 19) dX9_isOne_12 rfl (by decide) (fun c2 => ?_) (fun c2 => ?_)
    · replace h := j_ip c2 h
      refine J_iconst (pc' := 20) (v := (0 : Int32)) dX9_isOne_19 rfl ic_0 ?_
      exact J_zret (ty := .boolean) rfl rfl dX9_isOne_20 ⟨rfl, Nat.le_refl _⟩ (j_pI h)
    · replace h := j_iq c2 h
      refine J_iconst (pc' := 16) (v := (1 : Int32)) dX9_isOne_15 rfl ic_1 ?_
      refine J_goto (pc' := 20) dX9_isOne_16 (by decide) ?_
      exact J_zret (ty := .boolean) rfl rfl dX9_isOne_20 ⟨rfl, Nat.le_refl _⟩ (j_pI h)
abbrev JT_X9_goes (l : Launch) (G : j_G) (r : (Int32 × j_M)) : Nat → List (Nat × Value) → List Value → j_M → Prop := JJ l G md_X9_goes (j_rm 4 (0, 0)) (0, 0) (0, 0) (po (some (.int r.1)) r.2)
noncomputable def f_X9_goes (M : j_M) (x1 : Int32) (x2 : Int32) : Option (Int32 × j_M) :=
  tl (f_X9_isOne M x1) fun v1 => (if v1 = 0 then ((f_X9_bad M).bind fun q4 => j_ck M q4.2 (some (q4.1, q4.2))) else (tl (f_X9_isLane x2) fun v8 => (if v8 = 0 then ((f_X9_bad M).bind fun q27 => j_ck M q27.2 (some (q27.1, q27.2))) else ((f_X0_isOpen M 17 x2).bind fun v11 => (if v11 = 0 then ((f_X9_no M).bind fun q23 => j_ck M q23.2 (some (q23.1, q23.2))) else ((f_X0_laneOf M 17 x1).bind fun v14 => ((f_X0_keepForUndo M 17).bind fun q16 => j_ck M q16 (w_i q16 (17 + 5) 22 ((1 : Int32) + x1) x2 fun M20 => (some (v14, M20))))))))))
set_option maxHeartbeats 4000000 in
theorem c_X9_goes {l : Launch} {G : j_G} {M : j_M} {x1 : Int32} {x2 : Int32} (hs : sh_x M.2.2) {r : (Int32 × j_M)} (h : f_X9_goes M x1 x2 = some r) : j_Sp l G md_X9_goes 4 (0, 0) [.ref 0, .int x1, .int x2] M (po (some (.int r.1)) r.2) := by
  refine j_Sp.of (by decide) (Nat.le_of_ble_eq_true rfl) ?_
  show JT_X9_goes l G r 0 [(0, .ref 0), (1, .int x1), (2, .int x2)] [] M
  unfold f_X9_goes at h
  refine J_aload_n (pc' := 1) (i := 0) (n := 0) dX9_goes_0 rfl rfl rfl ?_
  refine J_iload_n (pc' := 2) (i := 1) (n := 1) dX9_goes_1 rfl rfl rfl ?_
  obtain ⟨v1, e2, h⟩ := tl_inv h
  refine J_callV (pc' := 5) (as := [.int x1]) (rest := []) dX9_goes_2 rfl lk_X9_153 rfl 9 (by decide) rfl (x_o hs) (x_n hs (Nat.le_of_ble_eq_true rfl)) (c_X9_isOne hs e2) ⟨Nat.le_of_ble_eq_true rfl, Nat.le_of_ble_eq_true rfl⟩ (Nat.le_of_ble_eq_true rfl) ⟨Nat.le_of_ble_eq_true rfl, Nat.le_of_ble_eq_true rfl⟩ (j_kq ?_)
  refine J_if_eq (pc' := 8) (tgt := 15) dX9_goes_5 rfl (by decide) (fun c3 => ?_) (fun c3 => ?_)
  · replace h := j_ip c3 h
    refine J_aload_n (pc' := 16) (i := 0) (n := 0) dX9_goes_15 rfl rfl rfl ?_
    obtain ⟨q4, e5, h⟩ := bi_inv h
    obtain ⟨c6, h⟩ := j_ck_inv h
    refine J_callV (pc' := 19) (as := []) (rest := []) dX9_goes_16 rfl lk_X9_96 rfl 9 (by decide) rfl (x_o hs) (x_n hs (Nat.le_of_ble_eq_true rfl)) (c_X9_bad hs e5) ⟨Nat.le_of_ble_eq_true rfl, Nat.le_of_ble_eq_true rfl⟩ (Nat.le_of_ble_eq_true rfl) ⟨Nat.le_of_ble_eq_true rfl, Nat.le_of_ble_eq_true rfl⟩ (j_kq ?_)
    have g7 : sh_x q4.2.2.2 := j_shE c6 hs
    exact J_iret rfl dX9_goes_19 ⟨rfl, Nat.le_refl _⟩ (j_pW h)
  · replace h := j_iq c3 h
    refine J_iload_n (pc' := 9) (i := 2) (n := 2) dX9_goes_8 rfl rfl rfl ?_
    obtain ⟨v8, e9, h⟩ := tl_inv h
    refine J_callS (pc' := 12) (as := [.int x2]) (rest := []) dX9_goes_9 rfl lk_X9_88 rfl (c_X9_isLane e9) ⟨Nat.le_of_ble_eq_true rfl, Nat.le_of_ble_eq_true rfl⟩ (Nat.le_of_ble_eq_true rfl) ⟨Nat.le_of_ble_eq_true rfl, Nat.le_of_ble_eq_true rfl⟩ (j_kq ?_)
    refine J_if_ne (pc' := 15) (tgt := 20) dX9_goes_12 rfl (by decide) (fun c10 => ?_) (fun c10 => ?_)
    · replace h := j_iq c10 h
      refine J_aload_n (pc' := 21) (i := 0) (n := 0) dX9_goes_20 rfl rfl rfl ?_
      refine J_getR (pc' := 24) (b := 17) dX9_goes_21 rfl fl_X9_75 rfl (x_o hs) (x_n hs (Nat.le_of_ble_eq_true rfl)) (x_r0 hs) ?_
      refine J_iload_n (pc' := 25) (i := 2) (n := 2) dX9_goes_24 rfl rfl rfl ?_
      obtain ⟨v11, e12, h⟩ := bi_inv h
      refine J_callVN (pc' := 28) (as := [.int x2]) (rest := []) dX9_goes_25 rfl lk_X9_125 rfl 0 (by decide) rfl (b_o (x_b17 hs)) (b_no (x_b17 hs)) (c_X0_isOpen (x_b17 hs) e12) ⟨Nat.le_of_ble_eq_true rfl, Nat.le_of_ble_eq_true rfl⟩ (Nat.le_of_ble_eq_true rfl) ⟨Nat.le_of_ble_eq_true rfl, Nat.le_of_ble_eq_true rfl⟩ (j_kq ?_)
      refine J_if_ne (pc' := 31) (tgt := 36) dX9_goes_28 rfl (by decide) (fun c13 => ?_) (fun c13 => ?_)
      · replace h := j_iq c13 h
        refine J_aload_n (pc' := 37) (i := 0) (n := 0) dX9_goes_36 rfl rfl rfl ?_
        refine J_getR (pc' := 40) (b := 17) dX9_goes_37 rfl fl_X9_75 rfl (x_o hs) (x_n hs (Nat.le_of_ble_eq_true rfl)) (x_r0 hs) ?_
        refine J_iload_n (pc' := 41) (i := 1) (n := 1) dX9_goes_40 rfl rfl rfl ?_
        obtain ⟨v14, e15, h⟩ := bi_inv h
        refine J_callVN (pc' := 44) (as := [.int x1]) (rest := []) dX9_goes_41 rfl lk_X9_156 rfl 0 (by decide) rfl (b_o (x_b17 hs)) (b_no (x_b17 hs)) (c_X0_laneOf (x_b17 hs) e15) ⟨Nat.le_of_ble_eq_true rfl, Nat.le_of_ble_eq_true rfl⟩ (Nat.le_of_ble_eq_true rfl) ⟨Nat.le_of_ble_eq_true rfl, Nat.le_of_ble_eq_true rfl⟩ (j_kq ?_)
        refine J_istore_n (pc' := 45) (i := 3) (lv' := [(3, .int v14), (0, .ref 0), (1, .int x1), (2, .int x2)]) dX9_goes_44 rfl rfl (by decide) rfl ?_
        refine J_aload_n (pc' := 46) (i := 0) (n := 1) dX9_goes_45 rfl rfl rfl ?_
        refine J_getR (pc' := 49) (b := 17) dX9_goes_46 rfl fl_X9_75 rfl (x_o hs) (x_n hs (Nat.le_of_ble_eq_true rfl)) (x_r0 hs) ?_
        obtain ⟨q16, e17, h⟩ := bi_inv h
        obtain ⟨c18, h⟩ := j_ck_inv h
        refine J_callVN (pc' := 52) (as := []) (rest := []) dX9_goes_49 rfl lk_X9_159 rfl 0 (by decide) rfl (b_o (x_b17 hs)) (b_no (x_b17 hs)) (c_X0_keepForUndo (x_b17 hs) e17) ⟨Nat.le_of_ble_eq_true rfl, Nat.le_of_ble_eq_true rfl⟩ (Nat.le_of_ble_eq_true rfl) ⟨Nat.le_of_ble_eq_true rfl, Nat.le_of_ble_eq_true rfl⟩ (j_kv ?_)
        have g19 : sh_x q16.2.2 := j_shE c18 hs
        refine J_aload_n (pc' := 53) (i := 0) (n := 1) dX9_goes_52 rfl rfl rfl ?_
        refine J_getR (pc' := 56) (b := 17) dX9_goes_53 rfl fl_X9_75 rfl (x_o g19) (x_n g19 (Nat.le_of_ble_eq_true rfl)) (x_r0 g19) ?_
        refine J_getR (pc' := 59) (b := (17 + 5)) dX9_goes_56 rfl fl_X9_103 rfl (b_o (x_b17 g19)) (b_no (x_b17 g19)) (b_r5 (x_b17 g19)) ?_
        refine J_iconst (pc' := 60) (v := (1 : Int32)) dX9_goes_59 rfl ic_1 ?_
        refine J_iload_n (pc' := 61) (i := 1) (n := 2) dX9_goes_60 rfl rfl rfl ?_
        refine J_iadd (pc' := 62) dX9_goes_61 rfl ?_
        refine J_iload_n (pc' := 63) (i := 2) (n := 3) dX9_goes_62 rfl rfl rfl ?_
        obtain ⟨M20, e21, h⟩ := w_i_inv h
        have g22 : sh_x M20.2.2 := j_shI e21.2 g19
        refine J_iaste (pc' := 64) dX9_goes_63 rfl (b_s5 (x_b17 g19)) (b_n (x_b17 g19) (Nat.le_of_ble_eq_true rfl)) e21 ?_
        refine J_iload_n (pc' := 65) (i := 3) (n := 0) dX9_goes_64 rfl rfl rfl ?_
        exact J_iret rfl dX9_goes_65 ⟨rfl, Nat.le_refl _⟩ (j_pW h)
      · replace h := j_ip c13 h
        refine J_aload_n (pc' := 32) (i := 0) (n := 0) dX9_goes_31 rfl rfl rfl ?_
        obtain ⟨q23, e24, h⟩ := bi_inv h
        obtain ⟨c25, h⟩ := j_ck_inv h
        refine J_callV (pc' := 35) (as := []) (rest := []) dX9_goes_32 rfl lk_X9_110 rfl 9 (by decide) rfl (x_o hs) (x_n hs (Nat.le_of_ble_eq_true rfl)) (c_X9_no hs e24) ⟨Nat.le_of_ble_eq_true rfl, Nat.le_of_ble_eq_true rfl⟩ (Nat.le_of_ble_eq_true rfl) ⟨Nat.le_of_ble_eq_true rfl, Nat.le_of_ble_eq_true rfl⟩ (j_kq ?_)
        have g26 : sh_x q23.2.2.2 := j_shE c25 hs
        exact J_iret rfl dX9_goes_35 ⟨rfl, Nat.le_refl _⟩ (j_pW h)
    · replace h := j_ip c10 h
      refine J_aload_n (pc' := 16) (i := 0) (n := 0) dX9_goes_15 rfl rfl rfl ?_
      obtain ⟨q27, e28, h⟩ := bi_inv h
      obtain ⟨c29, h⟩ := j_ck_inv h
      refine J_callV (pc' := 19) (as := []) (rest := []) dX9_goes_16 rfl lk_X9_96 rfl 9 (by decide) rfl (x_o hs) (x_n hs (Nat.le_of_ble_eq_true rfl)) (c_X9_bad hs e28) ⟨Nat.le_of_ble_eq_true rfl, Nat.le_of_ble_eq_true rfl⟩ (Nat.le_of_ble_eq_true rfl) ⟨Nat.le_of_ble_eq_true rfl, Nat.le_of_ble_eq_true rfl⟩ (j_kq ?_)
      have g30 : sh_x q27.2.2.2 := j_shE c29 hs
      exact J_iret rfl dX9_goes_19 ⟨rfl, Nat.le_refl _⟩ (j_pW h)
abbrev JT_X9_minute (l : Launch) (G : j_G) (r : (Int32 × j_M)) : Nat → List (Nat × Value) → List Value → j_M → Prop := JJ l G md_X9_minute (j_rm 9 (0, 0)) (0, 0) (0, 0) (po (some (.int r.1)) r.2)
noncomputable def f_X9_minute_L26 : Nat → j_M → Int32 → Int32 → Int32 → (Int32 → Int32 → j_M → Option (Int32 × j_M)) → Option (Int32 × j_M)
  | 0, _, _, _, _, _ => none
  | n + 1, M, x1, x2, x3, K =>
    if x1 ≤ x3 then (K x2 x3 M) else ((f_X0_minuteGoesBy M 17 (17 + 5)).bind fun q9 => j_ck M q9.2 (f_X9_minute_L26 n  q9.2 x1 (x2 + q9.1) (x3 + (1 : Int32)) K))
noncomputable def f_X9_minute (M : j_M) (x1 : Int32) : Option (Int32 × j_M) :=
  tl (f_X9_within x1 (1 : Int32) (60 : Int32)) fun v1 => (if v1 = 0 then ((f_X9_bad M).bind fun q17 => j_ck M q17.2 (some (q17.1, q17.2))) else ((f_X0_keepForUndo M 17).bind fun q4 => j_ck M q4 (f_X9_minute_L26 j_fu  q4 x1 (0 : Int32) (0 : Int32) (fun (y13 : Int32) (y14 : Int32) (M15 : j_M) => (some (y13, M15))))))
set_option maxHeartbeats 4000000 in
theorem L_X9_minute_L26 {l : Launch} {G : j_G}  {r : (Int32 × j_M)} : ∀ (n : Nat) {x1 : Int32} {x2 : Int32} {x3 : Int32} {M : j_M} (hs : sh_x M.2.2) {K : Int32 → Int32 → j_M → Option (Int32 × j_M)}, f_X9_minute_L26 n  M x1 x2 x3 K = some r → (∀ (y2 : Int32) (y3 : Int32) (M1 : j_M), sh_x M1.2.2 → K y2 y3 M1 = some r → JT_X9_minute l G r 54 [(2, .int y2)] [] M1) → JT_X9_minute l G r 26 [(0, .ref 0), (1, .int x1), (2, .int x2), (3, .int x3)] [] M := by
  intro n
  induction n with
  | zero =>
    intro x1 x2 x3 M hs K h hK
    rw [f_X9_minute_L26] at h; cases h
  | succ n ih =>
    intro x1 x2 x3 M hs K h hK
    rw [f_X9_minute_L26] at h
    refine J_iload_n (pc' := 27) (i := 3) (n := 3) dX9_minute_26 rfl rfl rfl ?_
    refine J_iload_n (pc' := 28) (i := 1) (n := 1) dX9_minute_27 rfl rfl rfl ?_
    refine J_icmp_ge (pc' := 31) (tgt := 54) dX9_minute_28 rfl (by decide) (fun c8 => ?_) (fun c8 => ?_)
    · replace h := j_ip c8 h
      refine J_sub [2] (lv' := [(2, .int x2)]) rfl ?_
      exact hK x2 x3 M hs h
    · replace h := j_iq c8 h
      refine J_iload_n (pc' := 32) (i := 2) (n := 2) dX9_minute_31 rfl rfl rfl ?_
      refine J_aload_n (pc' := 33) (i := 0) (n := 0) dX9_minute_32 rfl rfl rfl ?_
      refine J_getR (pc' := 36) (b := 17) dX9_minute_33 rfl fl_X9_75 rfl (x_o hs) (x_n hs (Nat.le_of_ble_eq_true rfl)) (x_r0 hs) ?_
      refine J_aload_n (pc' := 37) (i := 0) (n := 0) dX9_minute_36 rfl rfl rfl ?_
      refine J_getR (pc' := 40) (b := 17) dX9_minute_37 rfl fl_X9_75 rfl (x_o hs) (x_n hs (Nat.le_of_ble_eq_true rfl)) (x_r0 hs) ?_
      refine J_getR (pc' := 43) (b := (17 + 5)) dX9_minute_40 rfl fl_X9_103 rfl (b_o (x_b17 hs)) (b_no (x_b17 hs)) (b_r5 (x_b17 hs)) ?_
      obtain ⟨q9, e10, h⟩ := bi_inv h
      obtain ⟨c11, h⟩ := j_ck_inv h
      refine J_callVN (pc' := 46) (as := [.ref (17 + 5)]) (rest := [.int x2]) dX9_minute_43 rfl lk_X9_162 rfl 0 (by decide) rfl (b_o (x_b17 hs)) (b_no (x_b17 hs)) (c_X0_minuteGoesBy (x_b17 hs) ⟨(b_s5 (x_b17 hs)), (b_n (x_b17 hs) (Nat.le_of_ble_eq_true rfl))⟩ e10) ⟨Nat.le_of_ble_eq_true rfl, Nat.le_of_ble_eq_true rfl⟩ (Nat.le_of_ble_eq_true rfl) ⟨Nat.le_of_ble_eq_true rfl, Nat.le_of_ble_eq_true rfl⟩ (j_kq ?_)
      have g12 : sh_x q9.2.2.2 := j_shE c11 hs
      refine J_iadd (pc' := 47) dX9_minute_46 rfl ?_
      refine J_istore_n (pc' := 48) (i := 2) (lv' := [(2, .int (x2 + q9.1)), (0, .ref 0), (1, .int x1), (3, .int x3)]) dX9_minute_47 rfl rfl (by decide) rfl ?_
      refine J_iinc (pc' := 51) (i := 3) (n := 3) (v := (x3 + (1 : Int32))) (lv' := [(3, .int (x3 + (1 : Int32))), (2, .int (x2 + q9.1)), (0, .ref 0), (1, .int x1)]) dX9_minute_48 rfl rfl (j_inc _ _ rfl _) (by decide) rfl ?_
      refine J_goto (pc' := 26) dX9_minute_51 (by decide) ?_
      refine J_sub [2, 3, 1, 0] (lv' := [(0, .ref 0), (1, .int x1), (2, .int (x2 + q9.1)), (3, .int (x3 + (1 : Int32)))]) rfl ?_
      exact ih g12 h hK
set_option maxHeartbeats 4000000 in
theorem c_X9_minute {l : Launch} {G : j_G} {M : j_M} {x1 : Int32} (hs : sh_x M.2.2) {r : (Int32 × j_M)} (h : f_X9_minute M x1 = some r) : j_Sp l G md_X9_minute 9 (0, 0) [.ref 0, .int x1] M (po (some (.int r.1)) r.2) := by
  refine j_Sp.of (by decide) (Nat.le_of_ble_eq_true rfl) ?_
  show JT_X9_minute l G r 0 [(0, .ref 0), (1, .int x1)] [] M
  unfold f_X9_minute at h
  refine J_iload_n (pc' := 1) (i := 1) (n := 1) dX9_minute_0 rfl rfl rfl ?_
  refine J_iconst (pc' := 2) (v := (1 : Int32)) dX9_minute_1 rfl ic_1 ?_
  refine J_bipush (pc' := 4) (v := (60 : Int32)) dX9_minute_2 rfl bp_60 ?_
  obtain ⟨v1, e2, h⟩ := tl_inv h
  refine J_callS (pc' := 7) (as := [.int x1, .int (1 : Int32), .int (60 : Int32)]) (rest := []) dX9_minute_4 rfl lk_X9_92 rfl (c_X9_within e2) ⟨Nat.le_of_ble_eq_true rfl, Nat.le_of_ble_eq_true rfl⟩ (Nat.le_of_ble_eq_true rfl) ⟨Nat.le_of_ble_eq_true rfl, Nat.le_of_ble_eq_true rfl⟩ (j_kq ?_)
  refine J_if_ne (pc' := 10) (tgt := 15) dX9_minute_7 rfl (by decide) (fun c3 => ?_) (fun c3 => ?_)
  · replace h := j_iq c3 h
    refine J_aload_n (pc' := 16) (i := 0) (n := 0) dX9_minute_15 rfl rfl rfl ?_
    refine J_getR (pc' := 19) (b := 17) dX9_minute_16 rfl fl_X9_75 rfl (x_o hs) (x_n hs (Nat.le_of_ble_eq_true rfl)) (x_r0 hs) ?_
    obtain ⟨q4, e5, h⟩ := bi_inv h
    obtain ⟨c6, h⟩ := j_ck_inv h
    refine J_callVN (pc' := 22) (as := []) (rest := []) dX9_minute_19 rfl lk_X9_159 rfl 0 (by decide) rfl (b_o (x_b17 hs)) (b_no (x_b17 hs)) (c_X0_keepForUndo (x_b17 hs) e5) ⟨Nat.le_of_ble_eq_true rfl, Nat.le_of_ble_eq_true rfl⟩ (Nat.le_of_ble_eq_true rfl) ⟨Nat.le_of_ble_eq_true rfl, Nat.le_of_ble_eq_true rfl⟩ (j_kv ?_)
    have g7 : sh_x q4.2.2 := j_shE c6 hs
    refine J_iconst (pc' := 23) (v := (0 : Int32)) dX9_minute_22 rfl ic_0 ?_
    refine J_istore_n (pc' := 24) (i := 2) (lv' := [(2, .int (0 : Int32)), (0, .ref 0), (1, .int x1)]) dX9_minute_23 rfl rfl (by decide) rfl ?_
    refine J_iconst (pc' := 25) (v := (0 : Int32)) dX9_minute_24 rfl ic_0 ?_
    refine J_istore_n (pc' := 26) (i := 3) (lv' := [(3, .int (0 : Int32)), (2, .int (0 : Int32)), (0, .ref 0), (1, .int x1)]) dX9_minute_25 rfl rfl (by decide) rfl ?_
    refine J_sub [2, 3, 1, 0] (lv' := [(0, .ref 0), (1, .int x1), (2, .int (0 : Int32)), (3, .int (0 : Int32))]) rfl ?_
    refine L_X9_minute_L26 j_fu g7 h (fun y13 y14 M15 g16 h => ?_)
    refine J_iload_n (pc' := 55) (i := 2) (n := 0) dX9_minute_54 rfl rfl rfl ?_
    exact J_iret rfl dX9_minute_55 ⟨rfl, Nat.le_refl _⟩ (j_pW h)
  · replace h := j_ip c3 h
    refine J_aload_n (pc' := 11) (i := 0) (n := 0) dX9_minute_10 rfl rfl rfl ?_
    obtain ⟨q17, e18, h⟩ := bi_inv h
    obtain ⟨c19, h⟩ := j_ck_inv h
    refine J_callV (pc' := 14) (as := []) (rest := []) dX9_minute_11 rfl lk_X9_96 rfl 9 (by decide) rfl (x_o hs) (x_n hs (Nat.le_of_ble_eq_true rfl)) (c_X9_bad hs e18) ⟨Nat.le_of_ble_eq_true rfl, Nat.le_of_ble_eq_true rfl⟩ (Nat.le_of_ble_eq_true rfl) ⟨Nat.le_of_ble_eq_true rfl, Nat.le_of_ble_eq_true rfl⟩ (j_kq ?_)
    have g20 : sh_x q17.2.2.2 := j_shE c19 hs
    exact J_iret rfl dX9_minute_14 ⟨rfl, Nat.le_refl _⟩ (j_pW h)
abbrev JT_X9_undo (l : Launch) (G : j_G) (r : (Int32 × j_M)) : Nat → List (Nat × Value) → List Value → j_M → Prop := JJ l G md_X9_undo (j_rm 4 (0, 0)) (0, 0) (0, 0) (po (some (.int r.1)) r.2)
noncomputable def f_X9_undo (M : j_M)  : Option (Int32 × j_M) :=
  if 0 < (j_I M 17 10) then ((f_X0_takeBack M 17).bind fun q2 => j_ck M q2 (a_i q2 (17 + 5) 22 (0 : Int32) fun v6 => (some (v6, q2)))) else ((f_X9_no M).bind fun q8 => j_ck M q8.2 (some (q8.1, q8.2)))
set_option maxHeartbeats 4000000 in
theorem c_X9_undo {l : Launch} {G : j_G} {M : j_M}  (hs : sh_x M.2.2) {r : (Int32 × j_M)} (h : f_X9_undo M  = some r) : j_Sp l G md_X9_undo 4 (0, 0) [.ref 0] M (po (some (.int r.1)) r.2) := by
  refine j_Sp.of (by decide) (Nat.le_of_ble_eq_true rfl) ?_
  show JT_X9_undo l G r 0 [(0, .ref 0)] [] M
  unfold f_X9_undo at h
  refine J_aload_n (pc' := 1) (i := 0) (n := 0) dX9_undo_0 rfl rfl rfl ?_
  refine J_getR (pc' := 4) (b := 17) dX9_undo_1 rfl fl_X9_75 rfl (x_o hs) (x_n hs (Nat.le_of_ble_eq_true rfl)) (x_r0 hs) ?_
  refine J_getI (pc' := 7) dX9_undo_4 rfl fl_X9_116 rfl (b_o (x_b17 hs)) (b_no (x_b17 hs)) ?_
  refine J_if_gt (pc' := 10) (tgt := 15) dX9_undo_7 rfl (by decide) (fun c1 => ?_) (fun c1 => ?_)
  · replace h := j_ip c1 h
    refine J_aload_n (pc' := 16) (i := 0) (n := 0) dX9_undo_15 rfl rfl rfl ?_
    refine J_getR (pc' := 19) (b := 17) dX9_undo_16 rfl fl_X9_75 rfl (x_o hs) (x_n hs (Nat.le_of_ble_eq_true rfl)) (x_r0 hs) ?_
    obtain ⟨q2, e3, h⟩ := bi_inv h
    obtain ⟨c4, h⟩ := j_ck_inv h
    refine J_callVN (pc' := 22) (as := []) (rest := []) dX9_undo_19 rfl lk_X9_166 rfl 0 (by decide) rfl (b_o (x_b17 hs)) (b_no (x_b17 hs)) (c_X0_takeBack (x_b17 hs) e3) ⟨Nat.le_of_ble_eq_true rfl, Nat.le_of_ble_eq_true rfl⟩ (Nat.le_of_ble_eq_true rfl) ⟨Nat.le_of_ble_eq_true rfl, Nat.le_of_ble_eq_true rfl⟩ (j_kv ?_)
    have g5 : sh_x q2.2.2 := j_shE c4 hs
    refine J_aload_n (pc' := 23) (i := 0) (n := 0) dX9_undo_22 rfl rfl rfl ?_
    refine J_getR (pc' := 26) (b := 17) dX9_undo_23 rfl fl_X9_75 rfl (x_o g5) (x_n g5 (Nat.le_of_ble_eq_true rfl)) (x_r0 g5) ?_
    refine J_getR (pc' := 29) (b := (17 + 5)) dX9_undo_26 rfl fl_X9_103 rfl (b_o (x_b17 g5)) (b_no (x_b17 g5)) (b_r5 (x_b17 g5)) ?_
    refine J_iconst (pc' := 30) (v := (0 : Int32)) dX9_undo_29 rfl ic_0 ?_
    obtain ⟨v6, e7, h⟩ := a_i_inv h
    refine J_ialde (pc' := 31) dX9_undo_30 rfl (b_s5 (x_b17 g5)) (b_n (x_b17 g5) (Nat.le_of_ble_eq_true rfl)) e7 ?_
    exact J_iret rfl dX9_undo_31 ⟨rfl, Nat.le_refl _⟩ (j_pW h)
  · replace h := j_iq c1 h
    refine J_aload_n (pc' := 11) (i := 0) (n := 0) dX9_undo_10 rfl rfl rfl ?_
    obtain ⟨q8, e9, h⟩ := bi_inv h
    obtain ⟨c10, h⟩ := j_ck_inv h
    refine J_callV (pc' := 14) (as := []) (rest := []) dX9_undo_11 rfl lk_X9_110 rfl 9 (by decide) rfl (x_o hs) (x_n hs (Nat.le_of_ble_eq_true rfl)) (c_X9_no hs e9) ⟨Nat.le_of_ble_eq_true rfl, Nat.le_of_ble_eq_true rfl⟩ (Nat.le_of_ble_eq_true rfl) ⟨Nat.le_of_ble_eq_true rfl, Nat.le_of_ble_eq_true rfl⟩ (j_kq ?_)
    have g11 : sh_x q8.2.2.2 := j_shE c10 hs
    exact J_iret rfl dX9_undo_14 ⟨rfl, Nat.le_refl _⟩ (j_pW h)
abbrev JT_X9_of (l : Launch) (G : j_G) (r : (Int32 × j_M)) : Nat → List (Nat × Value) → List Value → j_M → Prop := JJ l G md_X9_of (j_rm 6 (0, 0)) (0, 0) (0, 0) (po (some (.int r.1)) r.2)
noncomputable def f_X9_of (M : j_M) (x1 : Int32) (x2 : Int32) : Option (Int32 × j_M) :=
  tl (f_X9_isOne M x1) fun v1 => (if v1 = 0 then ((f_X9_bad M).bind fun q26 => j_ck M q26.2 (some (q26.1, q26.2))) else (if x2 = (0 : Int32) then (a_i M (17 + 3) 7 x1 fun v5 => (some (v5, M))) else (if x2 = (1 : Int32) then (a_i M (17 + 4) 7 x1 fun v8 => (some (v8, M))) else (if x2 = (2 : Int32) then ((f_X0_laneOf M 17 x1).bind fun v11 => (some (v11, M))) else (if x2 = (3 : Int32) then (a_i M (17 + 5) 22 ((8 : Int32) + x1) fun v14 => (some (v14, M))) else (if x2 = (4 : Int32) then (a_i M (17 + 5) 22 ((15 : Int32) + x1) fun v17 => (some (v17, M))) else (if x2 = (5 : Int32) then ((f_X0_believedBy M 17 x1).bind fun v20 => (some (v20, M))) else ((f_X9_bad M).bind fun q22 => j_ck M q22.2 (some (q22.1, q22.2))))))))))
set_option maxHeartbeats 4000000 in
theorem c_X9_of {l : Launch} {G : j_G} {M : j_M} {x1 : Int32} {x2 : Int32} (hs : sh_x M.2.2) {r : (Int32 × j_M)} (h : f_X9_of M x1 x2 = some r) : j_Sp l G md_X9_of 6 (0, 0) [.ref 0, .int x1, .int x2] M (po (some (.int r.1)) r.2) := by
  refine j_Sp.of (by decide) (Nat.le_of_ble_eq_true rfl) ?_
  show JT_X9_of l G r 0 [(0, .ref 0), (1, .int x1), (2, .int x2)] [] M
  unfold f_X9_of at h
  refine J_aload_n (pc' := 1) (i := 0) (n := 0) dX9_of_0 rfl rfl rfl ?_
  refine J_iload_n (pc' := 2) (i := 1) (n := 1) dX9_of_1 rfl rfl rfl ?_
  obtain ⟨v1, e2, h⟩ := tl_inv h
  refine J_callV (pc' := 5) (as := [.int x1]) (rest := []) dX9_of_2 rfl lk_X9_153 rfl 9 (by decide) rfl (x_o hs) (x_n hs (Nat.le_of_ble_eq_true rfl)) (c_X9_isOne hs e2) ⟨Nat.le_of_ble_eq_true rfl, Nat.le_of_ble_eq_true rfl⟩ (Nat.le_of_ble_eq_true rfl) ⟨Nat.le_of_ble_eq_true rfl, Nat.le_of_ble_eq_true rfl⟩ (j_kq ?_)
  refine J_if_ne (pc' := 8) (tgt := 13) dX9_of_5 rfl (by decide) (fun c3 => ?_) (fun c3 => ?_)
  · replace h := j_iq c3 h
    refine J_iload_n (pc' := 14) (i := 2) (n := 2) dX9_of_13 rfl rfl rfl ?_
    by_cases c4 : x2 = (0 : Int32)
    · replace h := j_ip c4 h
      refine J_tin (tgt := 52) dX9_of_14 (0 : Int32) c4 ⟨by decide, by decide, rfl, by decide⟩ ?_
      refine J_aload_n (pc' := 53) (i := 0) (n := 0) dX9_of_52 rfl rfl rfl ?_
      refine J_getR (pc' := 56) (b := 17) dX9_of_53 rfl fl_X9_75 rfl (x_o hs) (x_n hs (Nat.le_of_ble_eq_true rfl)) (x_r0 hs) ?_
      refine J_getR (pc' := 59) (b := (17 + 3)) dX9_of_56 rfl fl_X9_169 rfl (b_o (x_b17 hs)) (b_no (x_b17 hs)) (b_r3 (x_b17 hs)) ?_
      refine J_iload_n (pc' := 60) (i := 1) (n := 1) dX9_of_59 rfl rfl rfl ?_
      obtain ⟨v5, e6, h⟩ := a_i_inv h
      refine J_ialde (pc' := 61) dX9_of_60 rfl (b_s3 (x_b17 hs)) (b_n (x_b17 hs) (Nat.le_of_ble_eq_true rfl)) e6 ?_
      exact J_iret rfl dX9_of_61 ⟨rfl, Nat.le_refl _⟩ (j_pW h)
    replace h := j_iq c4 h
    by_cases c7 : x2 = (1 : Int32)
    · replace h := j_ip c7 h
      refine J_tin (tgt := 62) dX9_of_14 (1 : Int32) c7 ⟨by decide, by decide, rfl, by decide⟩ ?_
      refine J_aload_n (pc' := 63) (i := 0) (n := 0) dX9_of_62 rfl rfl rfl ?_
      refine J_getR (pc' := 66) (b := 17) dX9_of_63 rfl fl_X9_75 rfl (x_o hs) (x_n hs (Nat.le_of_ble_eq_true rfl)) (x_r0 hs) ?_
      refine J_getR (pc' := 69) (b := (17 + 4)) dX9_of_66 rfl fl_X9_172 rfl (b_o (x_b17 hs)) (b_no (x_b17 hs)) (b_r4 (x_b17 hs)) ?_
      refine J_iload_n (pc' := 70) (i := 1) (n := 1) dX9_of_69 rfl rfl rfl ?_
      obtain ⟨v8, e9, h⟩ := a_i_inv h
      refine J_ialde (pc' := 71) dX9_of_70 rfl (b_s4 (x_b17 hs)) (b_n (x_b17 hs) (Nat.le_of_ble_eq_true rfl)) e9 ?_
      exact J_iret rfl dX9_of_71 ⟨rfl, Nat.le_refl _⟩ (j_pW h)
    replace h := j_iq c7 h
    by_cases c10 : x2 = (2 : Int32)
    · replace h := j_ip c10 h
      refine J_tin (tgt := 72) dX9_of_14 (2 : Int32) c10 ⟨by decide, by decide, rfl, by decide⟩ ?_
      refine J_aload_n (pc' := 73) (i := 0) (n := 0) dX9_of_72 rfl rfl rfl ?_
      refine J_getR (pc' := 76) (b := 17) dX9_of_73 rfl fl_X9_75 rfl (x_o hs) (x_n hs (Nat.le_of_ble_eq_true rfl)) (x_r0 hs) ?_
      refine J_iload_n (pc' := 77) (i := 1) (n := 1) dX9_of_76 rfl rfl rfl ?_
      obtain ⟨v11, e12, h⟩ := bi_inv h
      refine J_callVN (pc' := 80) (as := [.int x1]) (rest := []) dX9_of_77 rfl lk_X9_156 rfl 0 (by decide) rfl (b_o (x_b17 hs)) (b_no (x_b17 hs)) (c_X0_laneOf (x_b17 hs) e12) ⟨Nat.le_of_ble_eq_true rfl, Nat.le_of_ble_eq_true rfl⟩ (Nat.le_of_ble_eq_true rfl) ⟨Nat.le_of_ble_eq_true rfl, Nat.le_of_ble_eq_true rfl⟩ (j_kq ?_)
      exact J_iret rfl dX9_of_80 ⟨rfl, Nat.le_refl _⟩ (j_pW h)
    replace h := j_iq c10 h
    by_cases c13 : x2 = (3 : Int32)
    · replace h := j_ip c13 h
      refine J_tin (tgt := 81) dX9_of_14 (3 : Int32) c13 ⟨by decide, by decide, rfl, by decide⟩ ?_
      refine J_aload_n (pc' := 82) (i := 0) (n := 0) dX9_of_81 rfl rfl rfl ?_
      refine J_getR (pc' := 85) (b := 17) dX9_of_82 rfl fl_X9_75 rfl (x_o hs) (x_n hs (Nat.le_of_ble_eq_true rfl)) (x_r0 hs) ?_
      refine J_getR (pc' := 88) (b := (17 + 5)) dX9_of_85 rfl fl_X9_103 rfl (b_o (x_b17 hs)) (b_no (x_b17 hs)) (b_r5 (x_b17 hs)) ?_
      refine J_bipush (pc' := 90) (v := (8 : Int32)) dX9_of_88 rfl bp_8 ?_
      refine J_iload_n (pc' := 91) (i := 1) (n := 1) dX9_of_90 rfl rfl rfl ?_
      refine J_iadd (pc' := 92) dX9_of_91 rfl ?_
      obtain ⟨v14, e15, h⟩ := a_i_inv h
      refine J_ialde (pc' := 93) dX9_of_92 rfl (b_s5 (x_b17 hs)) (b_n (x_b17 hs) (Nat.le_of_ble_eq_true rfl)) e15 ?_
      exact J_iret rfl dX9_of_93 ⟨rfl, Nat.le_refl _⟩ (j_pW h)
    replace h := j_iq c13 h
    by_cases c16 : x2 = (4 : Int32)
    · replace h := j_ip c16 h
      refine J_tin (tgt := 94) dX9_of_14 (4 : Int32) c16 ⟨by decide, by decide, rfl, by decide⟩ ?_
      refine J_aload_n (pc' := 95) (i := 0) (n := 0) dX9_of_94 rfl rfl rfl ?_
      refine J_getR (pc' := 98) (b := 17) dX9_of_95 rfl fl_X9_75 rfl (x_o hs) (x_n hs (Nat.le_of_ble_eq_true rfl)) (x_r0 hs) ?_
      refine J_getR (pc' := 101) (b := (17 + 5)) dX9_of_98 rfl fl_X9_103 rfl (b_o (x_b17 hs)) (b_no (x_b17 hs)) (b_r5 (x_b17 hs)) ?_
      refine J_bipush (pc' := 103) (v := (15 : Int32)) dX9_of_101 rfl bp_15 ?_
      refine J_iload_n (pc' := 104) (i := 1) (n := 1) dX9_of_103 rfl rfl rfl ?_
      refine J_iadd (pc' := 105) dX9_of_104 rfl ?_
      obtain ⟨v17, e18, h⟩ := a_i_inv h
      refine J_ialde (pc' := 106) dX9_of_105 rfl (b_s5 (x_b17 hs)) (b_n (x_b17 hs) (Nat.le_of_ble_eq_true rfl)) e18 ?_
      exact J_iret rfl dX9_of_106 ⟨rfl, Nat.le_refl _⟩ (j_pW h)
    replace h := j_iq c16 h
    by_cases c19 : x2 = (5 : Int32)
    · replace h := j_ip c19 h
      refine J_tin (tgt := 107) dX9_of_14 (5 : Int32) c19 ⟨by decide, by decide, rfl, by decide⟩ ?_
      refine J_aload_n (pc' := 108) (i := 0) (n := 0) dX9_of_107 rfl rfl rfl ?_
      refine J_getR (pc' := 111) (b := 17) dX9_of_108 rfl fl_X9_75 rfl (x_o hs) (x_n hs (Nat.le_of_ble_eq_true rfl)) (x_r0 hs) ?_
      refine J_iload_n (pc' := 112) (i := 1) (n := 1) dX9_of_111 rfl rfl rfl ?_
      obtain ⟨v20, e21, h⟩ := bi_inv h
      refine J_callVN (pc' := 115) (as := [.int x1]) (rest := []) dX9_of_112 rfl lk_X9_175 rfl 0 (by decide) rfl (b_o (x_b17 hs)) (b_no (x_b17 hs)) (c_X0_believedBy (x_b17 hs) e21) ⟨Nat.le_of_ble_eq_true rfl, Nat.le_of_ble_eq_true rfl⟩ (Nat.le_of_ble_eq_true rfl) ⟨Nat.le_of_ble_eq_true rfl, Nat.le_of_ble_eq_true rfl⟩ (j_kq ?_)
      exact J_iret rfl dX9_of_115 ⟨rfl, Nat.le_refl _⟩ (j_pW h)
    replace h := j_iq c19 h
    refine J_tout (tgt := 116) dX9_of_14 (j_out0_5 c4 c7 c10 c13 c16 c19) (by decide) ?_
    refine J_aload_n (pc' := 117) (i := 0) (n := 0) dX9_of_116 rfl rfl rfl ?_
    obtain ⟨q22, e23, h⟩ := bi_inv h
    obtain ⟨c24, h⟩ := j_ck_inv h
    refine J_callV (pc' := 120) (as := []) (rest := []) dX9_of_117 rfl lk_X9_96 rfl 9 (by decide) rfl (x_o hs) (x_n hs (Nat.le_of_ble_eq_true rfl)) (c_X9_bad hs e23) ⟨Nat.le_of_ble_eq_true rfl, Nat.le_of_ble_eq_true rfl⟩ (Nat.le_of_ble_eq_true rfl) ⟨Nat.le_of_ble_eq_true rfl, Nat.le_of_ble_eq_true rfl⟩ (j_kq ?_)
    have g25 : sh_x q22.2.2.2 := j_shE c24 hs
    exact J_iret rfl dX9_of_120 ⟨rfl, Nat.le_refl _⟩ (j_pW h)
  · replace h := j_ip c3 h
    refine J_aload_n (pc' := 9) (i := 0) (n := 0) dX9_of_8 rfl rfl rfl ?_
    obtain ⟨q26, e27, h⟩ := bi_inv h
    obtain ⟨c28, h⟩ := j_ck_inv h
    refine J_callV (pc' := 12) (as := []) (rest := []) dX9_of_9 rfl lk_X9_96 rfl 9 (by decide) rfl (x_o hs) (x_n hs (Nat.le_of_ble_eq_true rfl)) (c_X9_bad hs e27) ⟨Nat.le_of_ble_eq_true rfl, Nat.le_of_ble_eq_true rfl⟩ (Nat.le_of_ble_eq_true rfl) ⟨Nat.le_of_ble_eq_true rfl, Nat.le_of_ble_eq_true rfl⟩ (j_kq ?_)
    have g29 : sh_x q26.2.2.2 := j_shE c28 hs
    exact J_iret rfl dX9_of_12 ⟨rfl, Nat.le_refl _⟩ (j_pW h)
abbrev JT_X9_lane (l : Launch) (G : j_G) (r : (Int32 × j_M)) : Nat → List (Nat × Value) → List Value → j_M → Prop := JJ l G md_X9_lane (j_rm 3 (0, 0)) (0, 0) (0, 0) (po (some (.int r.1)) r.2)
noncomputable def f_X9_lane (M : j_M) (x1 : Int32) (x2 : Int32) : Option (Int32 × j_M) :=
  tl (f_X9_isLane x1) fun v1 => (if v1 = 0 then ((f_X9_bad M).bind fun q17 => j_ck M q17.2 (some (q17.1, q17.2))) else (if x2 = (0 : Int32) then (a_i M (17 + 1) 4 x1 fun v5 => (some (v5, M))) else (if x2 = (1 : Int32) then (a_i M (17 + 2) 4 x1 fun v8 => (some (v8, M))) else (if x2 = (2 : Int32) then ((f_X0_members M 17 (17 + 5) x1).bind fun v11 => (some (v11, M))) else ((f_X9_bad M).bind fun q13 => j_ck M q13.2 (some (q13.1, q13.2)))))))
set_option maxHeartbeats 4000000 in
theorem c_X9_lane {l : Launch} {G : j_G} {M : j_M} {x1 : Int32} {x2 : Int32} (hs : sh_x M.2.2) {r : (Int32 × j_M)} (h : f_X9_lane M x1 x2 = some r) : j_Sp l G md_X9_lane 3 (0, 0) [.ref 0, .int x1, .int x2] M (po (some (.int r.1)) r.2) := by
  refine j_Sp.of (by decide) (Nat.le_of_ble_eq_true rfl) ?_
  show JT_X9_lane l G r 0 [(0, .ref 0), (1, .int x1), (2, .int x2)] [] M
  unfold f_X9_lane at h
  refine J_iload_n (pc' := 1) (i := 1) (n := 1) dX9_lane_0 rfl rfl rfl ?_
  obtain ⟨v1, e2, h⟩ := tl_inv h
  refine J_callS (pc' := 4) (as := [.int x1]) (rest := []) dX9_lane_1 rfl lk_X9_88 rfl (c_X9_isLane e2) ⟨Nat.le_of_ble_eq_true rfl, Nat.le_of_ble_eq_true rfl⟩ (Nat.le_of_ble_eq_true rfl) ⟨Nat.le_of_ble_eq_true rfl, Nat.le_of_ble_eq_true rfl⟩ (j_kq ?_)
  refine J_if_ne (pc' := 7) (tgt := 12) dX9_lane_4 rfl (by decide) (fun c3 => ?_) (fun c3 => ?_)
  · replace h := j_iq c3 h
    refine J_iload_n (pc' := 13) (i := 2) (n := 2) dX9_lane_12 rfl rfl rfl ?_
    by_cases c4 : x2 = (0 : Int32)
    · replace h := j_ip c4 h
      refine J_tin (tgt := 40) dX9_lane_13 (0 : Int32) c4 ⟨by decide, by decide, rfl, by decide⟩ ?_
      refine J_aload_n (pc' := 41) (i := 0) (n := 0) dX9_lane_40 rfl rfl rfl ?_
      refine J_getR (pc' := 44) (b := 17) dX9_lane_41 rfl fl_X9_75 rfl (x_o hs) (x_n hs (Nat.le_of_ble_eq_true rfl)) (x_r0 hs) ?_
      refine J_getR (pc' := 47) (b := (17 + 1)) dX9_lane_44 rfl fl_X9_100 rfl (b_o (x_b17 hs)) (b_no (x_b17 hs)) (b_r1 (x_b17 hs)) ?_
      refine J_iload_n (pc' := 48) (i := 1) (n := 1) dX9_lane_47 rfl rfl rfl ?_
      obtain ⟨v5, e6, h⟩ := a_i_inv h
      refine J_ialde (pc' := 49) dX9_lane_48 rfl (b_s1 (x_b17 hs)) (b_n (x_b17 hs) (Nat.le_of_ble_eq_true rfl)) e6 ?_
      exact J_iret rfl dX9_lane_49 ⟨rfl, Nat.le_refl _⟩ (j_pW h)
    replace h := j_iq c4 h
    by_cases c7 : x2 = (1 : Int32)
    · replace h := j_ip c7 h
      refine J_tin (tgt := 50) dX9_lane_13 (1 : Int32) c7 ⟨by decide, by decide, rfl, by decide⟩ ?_
      refine J_aload_n (pc' := 51) (i := 0) (n := 0) dX9_lane_50 rfl rfl rfl ?_
      refine J_getR (pc' := 54) (b := 17) dX9_lane_51 rfl fl_X9_75 rfl (x_o hs) (x_n hs (Nat.le_of_ble_eq_true rfl)) (x_r0 hs) ?_
      refine J_getR (pc' := 57) (b := (17 + 2)) dX9_lane_54 rfl fl_X9_113 rfl (b_o (x_b17 hs)) (b_no (x_b17 hs)) (b_r2 (x_b17 hs)) ?_
      refine J_iload_n (pc' := 58) (i := 1) (n := 1) dX9_lane_57 rfl rfl rfl ?_
      obtain ⟨v8, e9, h⟩ := a_i_inv h
      refine J_ialde (pc' := 59) dX9_lane_58 rfl (b_s2 (x_b17 hs)) (b_n (x_b17 hs) (Nat.le_of_ble_eq_true rfl)) e9 ?_
      exact J_iret rfl dX9_lane_59 ⟨rfl, Nat.le_refl _⟩ (j_pW h)
    replace h := j_iq c7 h
    by_cases c10 : x2 = (2 : Int32)
    · replace h := j_ip c10 h
      refine J_tin (tgt := 60) dX9_lane_13 (2 : Int32) c10 ⟨by decide, by decide, rfl, by decide⟩ ?_
      refine J_aload_n (pc' := 61) (i := 0) (n := 0) dX9_lane_60 rfl rfl rfl ?_
      refine J_getR (pc' := 64) (b := 17) dX9_lane_61 rfl fl_X9_75 rfl (x_o hs) (x_n hs (Nat.le_of_ble_eq_true rfl)) (x_r0 hs) ?_
      refine J_aload_n (pc' := 65) (i := 0) (n := 0) dX9_lane_64 rfl rfl rfl ?_
      refine J_getR (pc' := 68) (b := 17) dX9_lane_65 rfl fl_X9_75 rfl (x_o hs) (x_n hs (Nat.le_of_ble_eq_true rfl)) (x_r0 hs) ?_
      refine J_getR (pc' := 71) (b := (17 + 5)) dX9_lane_68 rfl fl_X9_103 rfl (b_o (x_b17 hs)) (b_no (x_b17 hs)) (b_r5 (x_b17 hs)) ?_
      refine J_iload_n (pc' := 72) (i := 1) (n := 1) dX9_lane_71 rfl rfl rfl ?_
      obtain ⟨v11, e12, h⟩ := bi_inv h
      refine J_callVN (pc' := 75) (as := [.ref (17 + 5), .int x1]) (rest := []) dX9_lane_72 rfl lk_X9_106 rfl 0 (by decide) rfl (b_o (x_b17 hs)) (b_no (x_b17 hs)) (c_X0_members (x_b17 hs) ⟨(b_s5 (x_b17 hs)), (b_n (x_b17 hs) (Nat.le_of_ble_eq_true rfl))⟩ e12) ⟨Nat.le_of_ble_eq_true rfl, Nat.le_of_ble_eq_true rfl⟩ (Nat.le_of_ble_eq_true rfl) ⟨Nat.le_of_ble_eq_true rfl, Nat.le_of_ble_eq_true rfl⟩ (j_kq ?_)
      exact J_iret rfl dX9_lane_75 ⟨rfl, Nat.le_refl _⟩ (j_pW h)
    replace h := j_iq c10 h
    refine J_tout (tgt := 76) dX9_lane_13 (j_out0_2 c4 c7 c10) (by decide) ?_
    refine J_aload_n (pc' := 77) (i := 0) (n := 0) dX9_lane_76 rfl rfl rfl ?_
    obtain ⟨q13, e14, h⟩ := bi_inv h
    obtain ⟨c15, h⟩ := j_ck_inv h
    refine J_callV (pc' := 80) (as := []) (rest := []) dX9_lane_77 rfl lk_X9_96 rfl 9 (by decide) rfl (x_o hs) (x_n hs (Nat.le_of_ble_eq_true rfl)) (c_X9_bad hs e14) ⟨Nat.le_of_ble_eq_true rfl, Nat.le_of_ble_eq_true rfl⟩ (Nat.le_of_ble_eq_true rfl) ⟨Nat.le_of_ble_eq_true rfl, Nat.le_of_ble_eq_true rfl⟩ (j_kq ?_)
    have g16 : sh_x q13.2.2.2 := j_shE c15 hs
    exact J_iret rfl dX9_lane_80 ⟨rfl, Nat.le_refl _⟩ (j_pW h)
  · replace h := j_ip c3 h
    refine J_aload_n (pc' := 8) (i := 0) (n := 0) dX9_lane_7 rfl rfl rfl ?_
    obtain ⟨q17, e18, h⟩ := bi_inv h
    obtain ⟨c19, h⟩ := j_ck_inv h
    refine J_callV (pc' := 11) (as := []) (rest := []) dX9_lane_8 rfl lk_X9_96 rfl 9 (by decide) rfl (x_o hs) (x_n hs (Nat.le_of_ble_eq_true rfl)) (c_X9_bad hs e18) ⟨Nat.le_of_ble_eq_true rfl, Nat.le_of_ble_eq_true rfl⟩ (Nat.le_of_ble_eq_true rfl) ⟨Nat.le_of_ble_eq_true rfl, Nat.le_of_ble_eq_true rfl⟩ (j_kq ?_)
    have g20 : sh_x q17.2.2.2 := j_shE c19 hs
    exact J_iret rfl dX9_lane_11 ⟨rfl, Nat.le_refl _⟩ (j_pW h)
abbrev JT_X9_seconds (l : Launch) (G : j_G) (r : (Int32 × j_M)) : Nat → List (Nat × Value) → List Value → j_M → Prop := JJ l G md_X9_seconds (j_rm 7 (0, 0)) (0, 0) (0, 0) (po (some (.int r.1)) r.2)
noncomputable def f_X9_seconds (M : j_M) (x1 : Int32) (x2 : Int32) (x3 : Int32) : Option (Int32 × j_M) :=
  tl (f_X9_isOne M x1) fun v1 => (if v1 = 0 then ((f_X9_bad M).bind fun q4 => j_ck M q4.2 (some (q4.1, q4.2))) else (tl (f_X9_isLane x2) fun v8 => (if v8 = 0 then ((f_X9_bad M).bind fun q26 => j_ck M q26.2 (some (q26.1, q26.2))) else ((f_X0_others M 17 (17 + 5) x1 x2).bind fun v11 => (if x3 = (0 : Int32) then ((f_X0_takes M 17 x1 v11).bind fun v14 => (some (v14, M))) else (if x3 = (1 : Int32) then ((f_X0_slowerThan M 17 x1 v11).bind fun v17 => (some (v17, M))) else (if x3 = (2 : Int32) then (tl (bc v11) fun v20 => (some (v20, M))) else ((f_X9_bad M).bind fun q22 => j_ck M q22.2 (some (q22.1, q22.2))))))))))
set_option maxHeartbeats 4000000 in
theorem c_X9_seconds {l : Launch} {G : j_G} {M : j_M} {x1 : Int32} {x2 : Int32} {x3 : Int32} (hs : sh_x M.2.2) {r : (Int32 × j_M)} (h : f_X9_seconds M x1 x2 x3 = some r) : j_Sp l G md_X9_seconds 7 (0, 0) [.ref 0, .int x1, .int x2, .int x3] M (po (some (.int r.1)) r.2) := by
  refine j_Sp.of (by decide) (Nat.le_of_ble_eq_true rfl) ?_
  show JT_X9_seconds l G r 0 [(0, .ref 0), (1, .int x1), (2, .int x2), (3, .int x3)] [] M
  unfold f_X9_seconds at h
  refine J_aload_n (pc' := 1) (i := 0) (n := 0) dX9_seconds_0 rfl rfl rfl ?_
  refine J_iload_n (pc' := 2) (i := 1) (n := 1) dX9_seconds_1 rfl rfl rfl ?_
  obtain ⟨v1, e2, h⟩ := tl_inv h
  refine J_callV (pc' := 5) (as := [.int x1]) (rest := []) dX9_seconds_2 rfl lk_X9_153 rfl 9 (by decide) rfl (x_o hs) (x_n hs (Nat.le_of_ble_eq_true rfl)) (c_X9_isOne hs e2) ⟨Nat.le_of_ble_eq_true rfl, Nat.le_of_ble_eq_true rfl⟩ (Nat.le_of_ble_eq_true rfl) ⟨Nat.le_of_ble_eq_true rfl, Nat.le_of_ble_eq_true rfl⟩ (j_kq ?_)
  refine J_if_eq (pc' := 8) (tgt := 15) dX9_seconds_5 rfl (by decide) (fun c3 => ?_) (fun c3 => ?_)
  · replace h := j_ip c3 h
    refine J_aload_n (pc' := 16) (i := 0) (n := 0) dX9_seconds_15 rfl rfl rfl ?_
    obtain ⟨q4, e5, h⟩ := bi_inv h
    obtain ⟨c6, h⟩ := j_ck_inv h
    refine J_callV (pc' := 19) (as := []) (rest := []) dX9_seconds_16 rfl lk_X9_96 rfl 9 (by decide) rfl (x_o hs) (x_n hs (Nat.le_of_ble_eq_true rfl)) (c_X9_bad hs e5) ⟨Nat.le_of_ble_eq_true rfl, Nat.le_of_ble_eq_true rfl⟩ (Nat.le_of_ble_eq_true rfl) ⟨Nat.le_of_ble_eq_true rfl, Nat.le_of_ble_eq_true rfl⟩ (j_kq ?_)
    have g7 : sh_x q4.2.2.2 := j_shE c6 hs
    exact J_iret rfl dX9_seconds_19 ⟨rfl, Nat.le_refl _⟩ (j_pW h)
  · replace h := j_iq c3 h
    refine J_iload_n (pc' := 9) (i := 2) (n := 2) dX9_seconds_8 rfl rfl rfl ?_
    obtain ⟨v8, e9, h⟩ := tl_inv h
    refine J_callS (pc' := 12) (as := [.int x2]) (rest := []) dX9_seconds_9 rfl lk_X9_88 rfl (c_X9_isLane e9) ⟨Nat.le_of_ble_eq_true rfl, Nat.le_of_ble_eq_true rfl⟩ (Nat.le_of_ble_eq_true rfl) ⟨Nat.le_of_ble_eq_true rfl, Nat.le_of_ble_eq_true rfl⟩ (j_kq ?_)
    refine J_if_ne (pc' := 15) (tgt := 20) dX9_seconds_12 rfl (by decide) (fun c10 => ?_) (fun c10 => ?_)
    · replace h := j_iq c10 h
      refine J_aload_n (pc' := 21) (i := 0) (n := 0) dX9_seconds_20 rfl rfl rfl ?_
      refine J_getR (pc' := 24) (b := 17) dX9_seconds_21 rfl fl_X9_75 rfl (x_o hs) (x_n hs (Nat.le_of_ble_eq_true rfl)) (x_r0 hs) ?_
      refine J_aload_n (pc' := 25) (i := 0) (n := 0) dX9_seconds_24 rfl rfl rfl ?_
      refine J_getR (pc' := 28) (b := 17) dX9_seconds_25 rfl fl_X9_75 rfl (x_o hs) (x_n hs (Nat.le_of_ble_eq_true rfl)) (x_r0 hs) ?_
      refine J_getR (pc' := 31) (b := (17 + 5)) dX9_seconds_28 rfl fl_X9_103 rfl (b_o (x_b17 hs)) (b_no (x_b17 hs)) (b_r5 (x_b17 hs)) ?_
      refine J_iload_n (pc' := 32) (i := 1) (n := 1) dX9_seconds_31 rfl rfl rfl ?_
      refine J_iload_n (pc' := 33) (i := 2) (n := 2) dX9_seconds_32 rfl rfl rfl ?_
      obtain ⟨v11, e12, h⟩ := bi_inv h
      refine J_callVN (pc' := 36) (as := [.ref (17 + 5), .int x1, .int x2]) (rest := []) dX9_seconds_33 rfl lk_X9_178 rfl 0 (by decide) rfl (b_o (x_b17 hs)) (b_no (x_b17 hs)) (c_X0_others (x_b17 hs) ⟨(b_s5 (x_b17 hs)), (b_n (x_b17 hs) (Nat.le_of_ble_eq_true rfl))⟩ e12) ⟨Nat.le_of_ble_eq_true rfl, Nat.le_of_ble_eq_true rfl⟩ (Nat.le_of_ble_eq_true rfl) ⟨Nat.le_of_ble_eq_true rfl, Nat.le_of_ble_eq_true rfl⟩ (j_kq ?_)
      refine J_istore (pc' := 38) (i := 4) (lv' := [(4, .int v11), (0, .ref 0), (1, .int x1), (2, .int x2), (3, .int x3)]) dX9_seconds_36 rfl (by decide) rfl ?_
      refine J_iload_n (pc' := 39) (i := 3) (n := 4) dX9_seconds_38 rfl rfl rfl ?_
      by_cases c13 : x3 = (0 : Int32)
      · replace h := j_ip c13 h
        refine J_tin (tgt := 64) dX9_seconds_39 (0 : Int32) c13 ⟨by decide, by decide, rfl, by decide⟩ ?_
        refine J_aload_n (pc' := 65) (i := 0) (n := 1) dX9_seconds_64 rfl rfl rfl ?_
        refine J_getR (pc' := 68) (b := 17) dX9_seconds_65 rfl fl_X9_75 rfl (x_o hs) (x_n hs (Nat.le_of_ble_eq_true rfl)) (x_r0 hs) ?_
        refine J_iload_n (pc' := 69) (i := 1) (n := 2) dX9_seconds_68 rfl rfl rfl ?_
        refine J_iload (pc' := 71) (i := 4) (n := 0) dX9_seconds_69 rfl rfl ?_
        obtain ⟨v14, e15, h⟩ := bi_inv h
        refine J_callVN (pc' := 74) (as := [.int x1, .int v11]) (rest := []) dX9_seconds_71 rfl lk_X9_182 rfl 0 (by decide) rfl (b_o (x_b17 hs)) (b_no (x_b17 hs)) (c_X0_takes (x_b17 hs) e15) ⟨Nat.le_of_ble_eq_true rfl, Nat.le_of_ble_eq_true rfl⟩ (Nat.le_of_ble_eq_true rfl) ⟨Nat.le_of_ble_eq_true rfl, Nat.le_of_ble_eq_true rfl⟩ (j_kq ?_)
        exact J_iret rfl dX9_seconds_74 ⟨rfl, Nat.le_refl _⟩ (j_pW h)
      replace h := j_iq c13 h
      by_cases c16 : x3 = (1 : Int32)
      · replace h := j_ip c16 h
        refine J_tin (tgt := 75) dX9_seconds_39 (1 : Int32) c16 ⟨by decide, by decide, rfl, by decide⟩ ?_
        refine J_aload_n (pc' := 76) (i := 0) (n := 1) dX9_seconds_75 rfl rfl rfl ?_
        refine J_getR (pc' := 79) (b := 17) dX9_seconds_76 rfl fl_X9_75 rfl (x_o hs) (x_n hs (Nat.le_of_ble_eq_true rfl)) (x_r0 hs) ?_
        refine J_iload_n (pc' := 80) (i := 1) (n := 2) dX9_seconds_79 rfl rfl rfl ?_
        refine J_iload (pc' := 82) (i := 4) (n := 0) dX9_seconds_80 rfl rfl ?_
        obtain ⟨v17, e18, h⟩ := bi_inv h
        refine J_callVN (pc' := 85) (as := [.int x1, .int v11]) (rest := []) dX9_seconds_82 rfl lk_X9_186 rfl 0 (by decide) rfl (b_o (x_b17 hs)) (b_no (x_b17 hs)) (c_X0_slowerThan (x_b17 hs) e18) ⟨Nat.le_of_ble_eq_true rfl, Nat.le_of_ble_eq_true rfl⟩ (Nat.le_of_ble_eq_true rfl) ⟨Nat.le_of_ble_eq_true rfl, Nat.le_of_ble_eq_true rfl⟩ (j_kq ?_)
        exact J_iret rfl dX9_seconds_85 ⟨rfl, Nat.le_refl _⟩ (j_pW h)
      replace h := j_iq c16 h
      by_cases c19 : x3 = (2 : Int32)
      · replace h := j_ip c19 h
        refine J_tin (tgt := 86) dX9_seconds_39 (2 : Int32) c19 ⟨by decide, by decide, rfl, by decide⟩ ?_
        refine J_iload (pc' := 88) (i := 4) (n := 0) dX9_seconds_86 rfl rfl ?_
        obtain ⟨v20, e21, h⟩ := tl_inv h
        refine J_callS (pc' := 91) (as := [.int v11]) (rest := []) dX9_seconds_88 rfl lk_X9_189 rfl (c_bc e21) ⟨Nat.le_of_ble_eq_true rfl, Nat.le_of_ble_eq_true rfl⟩ (Nat.le_of_ble_eq_true rfl) ⟨Nat.le_of_ble_eq_true rfl, Nat.le_of_ble_eq_true rfl⟩ (j_kq ?_)
        exact J_iret rfl dX9_seconds_91 ⟨rfl, Nat.le_refl _⟩ (j_pW h)
      replace h := j_iq c19 h
      refine J_tout (tgt := 92) dX9_seconds_39 (j_out0_2 c13 c16 c19) (by decide) ?_
      refine J_aload_n (pc' := 93) (i := 0) (n := 1) dX9_seconds_92 rfl rfl rfl ?_
      obtain ⟨q22, e23, h⟩ := bi_inv h
      obtain ⟨c24, h⟩ := j_ck_inv h
      refine J_callV (pc' := 96) (as := []) (rest := []) dX9_seconds_93 rfl lk_X9_96 rfl 9 (by decide) rfl (x_o hs) (x_n hs (Nat.le_of_ble_eq_true rfl)) (c_X9_bad hs e23) ⟨Nat.le_of_ble_eq_true rfl, Nat.le_of_ble_eq_true rfl⟩ (Nat.le_of_ble_eq_true rfl) ⟨Nat.le_of_ble_eq_true rfl, Nat.le_of_ble_eq_true rfl⟩ (j_kq ?_)
      have g25 : sh_x q22.2.2.2 := j_shE c24 hs
      exact J_iret rfl dX9_seconds_96 ⟨rfl, Nat.le_refl _⟩ (j_pW h)
    · replace h := j_ip c10 h
      refine J_aload_n (pc' := 16) (i := 0) (n := 0) dX9_seconds_15 rfl rfl rfl ?_
      obtain ⟨q26, e27, h⟩ := bi_inv h
      obtain ⟨c28, h⟩ := j_ck_inv h
      refine J_callV (pc' := 19) (as := []) (rest := []) dX9_seconds_16 rfl lk_X9_96 rfl 9 (by decide) rfl (x_o hs) (x_n hs (Nat.le_of_ble_eq_true rfl)) (c_X9_bad hs e27) ⟨Nat.le_of_ble_eq_true rfl, Nat.le_of_ble_eq_true rfl⟩ (Nat.le_of_ble_eq_true rfl) ⟨Nat.le_of_ble_eq_true rfl, Nat.le_of_ble_eq_true rfl⟩ (j_kq ?_)
      have g29 : sh_x q26.2.2.2 := j_shE c28 hs
      exact J_iret rfl dX9_seconds_19 ⟨rfl, Nat.le_refl _⟩ (j_pW h)
abbrev JT_X9_lengthsToCome (l : Launch) (G : j_G) (M : j_M) (r : Int32) : Nat → List (Nat × Value) → List Value → j_M → Prop := JJ l G md_X9_lengthsToCome (j_rm 7 (0, 0)) (0, 0) (0, 0) (po (some (.int r)) M)
noncomputable def f_X9_lengthsToCome (M : j_M) (x1 : Int32) (x2 : Int32) : Option Int32 :=
  (f_X0_laneOf M 17 x1).bind fun v1 => ((f_X0_takesIn M 17 (17 + 5) x1 v1).bind fun v3 => (if x2 = 0 then (some (0 : Int32)) else (if 0 < v3 then (a_i M (17 + 5) 22 ((15 : Int32) + x1) fun v7 => (d_i (v7 + ((60 : Int32) * x2)) v3 fun v9 => (some v9))) else (some (0 : Int32)))))
set_option maxHeartbeats 4000000 in
theorem c_X9_lengthsToCome {l : Launch} {G : j_G} {M : j_M} {x1 : Int32} {x2 : Int32} (hs : sh_x M.2.2) {r : Int32} (h : f_X9_lengthsToCome M x1 x2 = some r) : j_Sp l G md_X9_lengthsToCome 7 (0, 0) [.ref 0, .int x1, .int x2] M (po (some (.int r)) M) := by
  refine j_Sp.of (by decide) (Nat.le_of_ble_eq_true rfl) ?_
  show JT_X9_lengthsToCome l G M r 0 [(0, .ref 0), (1, .int x1), (2, .int x2)] [] M
  unfold f_X9_lengthsToCome at h
  refine J_aload_n (pc' := 1) (i := 0) (n := 0) dX9_lengthsToCome_0 rfl rfl rfl ?_
  refine J_getR (pc' := 4) (b := 17) dX9_lengthsToCome_1 rfl fl_X9_75 rfl (x_o hs) (x_n hs (Nat.le_of_ble_eq_true rfl)) (x_r0 hs) ?_
  refine J_aload_n (pc' := 5) (i := 0) (n := 0) dX9_lengthsToCome_4 rfl rfl rfl ?_
  refine J_getR (pc' := 8) (b := 17) dX9_lengthsToCome_5 rfl fl_X9_75 rfl (x_o hs) (x_n hs (Nat.le_of_ble_eq_true rfl)) (x_r0 hs) ?_
  refine J_getR (pc' := 11) (b := (17 + 5)) dX9_lengthsToCome_8 rfl fl_X9_103 rfl (b_o (x_b17 hs)) (b_no (x_b17 hs)) (b_r5 (x_b17 hs)) ?_
  refine J_iload_n (pc' := 12) (i := 1) (n := 1) dX9_lengthsToCome_11 rfl rfl rfl ?_
  refine J_aload_n (pc' := 13) (i := 0) (n := 0) dX9_lengthsToCome_12 rfl rfl rfl ?_
  refine J_getR (pc' := 16) (b := 17) dX9_lengthsToCome_13 rfl fl_X9_75 rfl (x_o hs) (x_n hs (Nat.le_of_ble_eq_true rfl)) (x_r0 hs) ?_
  refine J_iload_n (pc' := 17) (i := 1) (n := 1) dX9_lengthsToCome_16 rfl rfl rfl ?_
  obtain ⟨v1, e2, h⟩ := bi_inv h
  refine J_callVN (pc' := 20) (as := [.int x1]) (rest := [.int x1, .ref (17 + 5), .ref 17]) dX9_lengthsToCome_17 rfl lk_X9_156 rfl 0 (by decide) rfl (b_o (x_b17 hs)) (b_no (x_b17 hs)) (c_X0_laneOf (x_b17 hs) e2) ⟨Nat.le_of_ble_eq_true rfl, Nat.le_of_ble_eq_true rfl⟩ (Nat.le_of_ble_eq_true rfl) ⟨Nat.le_of_ble_eq_true rfl, Nat.le_of_ble_eq_true rfl⟩ (j_kq ?_)
  obtain ⟨v3, e4, h⟩ := bi_inv h
  refine J_callVN (pc' := 23) (as := [.ref (17 + 5), .int x1, .int v1]) (rest := []) dX9_lengthsToCome_20 rfl lk_X9_299 rfl 0 (by decide) rfl (b_o (x_b17 hs)) (b_no (x_b17 hs)) (c_X0_takesIn (x_b17 hs) ⟨(b_s5 (x_b17 hs)), (b_n (x_b17 hs) (Nat.le_of_ble_eq_true rfl))⟩ e4) ⟨Nat.le_of_ble_eq_true rfl, Nat.le_of_ble_eq_true rfl⟩ (Nat.le_of_ble_eq_true rfl) ⟨Nat.le_of_ble_eq_true rfl, Nat.le_of_ble_eq_true rfl⟩ (j_kq ?_)
  refine J_istore_n (pc' := 24) (i := 3) (lv' := [(3, .int v3), (0, .ref 0), (1, .int x1), (2, .int x2)]) dX9_lengthsToCome_23 rfl rfl (by decide) rfl ?_
  refine J_iload_n (pc' := 25) (i := 2) (n := 3) dX9_lengthsToCome_24 rfl rfl rfl ?_
  refine J_if_eq (pc' := 28) (tgt := 32) dX9_lengthsToCome_25 rfl (by decide) (fun c5 => ?_) (fun c5 => ?_)
  · replace h := j_ip c5 h
    refine J_iconst (pc' := 33) (v := (0 : Int32)) dX9_lengthsToCome_32 rfl ic_0 ?_
    refine J_goto (pc' := 55) dX9_lengthsToCome_33 (by decide) ?_
    exact J_iret rfl dX9_lengthsToCome_55 ⟨rfl, Nat.le_refl _⟩ (j_pIs h)
  · replace h := j_iq c5 h
    refine J_iload_n (pc' := 29) (i := 3) (n := 0) dX9_lengthsToCome_28 rfl rfl rfl ?_
    refine J_if_gt (pc' := 32) (tgt := 36) dX9_lengthsToCome_29 rfl (by decide) (fun c6 => ?_) (fun c6 => ?_)
    · replace h := j_ip c6 h
      refine J_aload_n (pc' := 37) (i := 0) (n := 1) dX9_lengthsToCome_36 rfl rfl rfl ?_
      refine J_getR (pc' := 40) (b := 17) dX9_lengthsToCome_37 rfl fl_X9_75 rfl (x_o hs) (x_n hs (Nat.le_of_ble_eq_true rfl)) (x_r0 hs) ?_
      refine J_getR (pc' := 43) (b := (17 + 5)) dX9_lengthsToCome_40 rfl fl_X9_103 rfl (b_o (x_b17 hs)) (b_no (x_b17 hs)) (b_r5 (x_b17 hs)) ?_
      refine J_bipush (pc' := 45) (v := (15 : Int32)) dX9_lengthsToCome_43 rfl bp_15 ?_
      refine J_iload_n (pc' := 46) (i := 1) (n := 2) dX9_lengthsToCome_45 rfl rfl rfl ?_
      refine J_iadd (pc' := 47) dX9_lengthsToCome_46 rfl ?_
      obtain ⟨v7, e8, h⟩ := a_i_inv h
      refine J_ialde (pc' := 48) dX9_lengthsToCome_47 rfl (b_s5 (x_b17 hs)) (b_n (x_b17 hs) (Nat.le_of_ble_eq_true rfl)) e8 ?_
      refine J_bipush (pc' := 50) (v := (60 : Int32)) dX9_lengthsToCome_48 rfl bp_60 ?_
      refine J_iload_n (pc' := 51) (i := 2) (n := 3) dX9_lengthsToCome_50 rfl rfl rfl ?_
      refine J_imul (pc' := 52) dX9_lengthsToCome_51 rfl ?_
      refine J_iadd (pc' := 53) dX9_lengthsToCome_52 rfl ?_
      refine J_iload_n (pc' := 54) (i := 3) (n := 0) dX9_lengthsToCome_53 rfl rfl rfl ?_
      obtain ⟨v9, e10, h⟩ := d_i_inv h
      refine J_dive (pc' := 55) dX9_lengthsToCome_54 rfl e10 ?_
      exact J_iret rfl dX9_lengthsToCome_55 ⟨rfl, Nat.le_refl _⟩ (j_pIs h)
    · replace h := j_iq c6 h
      refine J_iconst (pc' := 33) (v := (0 : Int32)) dX9_lengthsToCome_32 rfl ic_0 ?_
      refine J_goto (pc' := 55) dX9_lengthsToCome_33 (by decide) ?_
      exact J_iret rfl dX9_lengthsToCome_55 ⟨rfl, Nat.le_refl _⟩ (j_pIs h)
abbrev JT_X9_lengths (l : Launch) (G : j_G) (r : (Int32 × j_M)) : Nat → List (Nat × Value) → List Value → j_M → Prop := JJ l G md_X9_lengths (j_rm 8 (0, 0)) (0, 0) (0, 0) (po (some (.int r.1)) r.2)
noncomputable def f_X9_lengths (M : j_M) (x1 : Int32) (x2 : Int32) : Option (Int32 × j_M) :=
  tl (f_X9_isOne M x1) fun v1 => (if v1 = 0 then ((f_X9_bad M).bind fun q4 => j_ck M q4.2 (some (q4.1, q4.2))) else (tl (f_X9_within x2 (0 : Int32) (60 : Int32)) fun v8 => (if v8 = 0 then ((f_X9_bad M).bind fun q15 => j_ck M q15.2 (some (q15.1, q15.2))) else (a_i M (17 + 5) 22 ((8 : Int32) + x1) fun v11 => ((f_X9_lengthsToCome M x1 x2).bind fun v13 => (some ((v11 + v13), M)))))))
set_option maxHeartbeats 4000000 in
theorem c_X9_lengths {l : Launch} {G : j_G} {M : j_M} {x1 : Int32} {x2 : Int32} (hs : sh_x M.2.2) {r : (Int32 × j_M)} (h : f_X9_lengths M x1 x2 = some r) : j_Sp l G md_X9_lengths 8 (0, 0) [.ref 0, .int x1, .int x2] M (po (some (.int r.1)) r.2) := by
  refine j_Sp.of (by decide) (Nat.le_of_ble_eq_true rfl) ?_
  show JT_X9_lengths l G r 0 [(0, .ref 0), (1, .int x1), (2, .int x2)] [] M
  unfold f_X9_lengths at h
  refine J_aload_n (pc' := 1) (i := 0) (n := 0) dX9_lengths_0 rfl rfl rfl ?_
  refine J_iload_n (pc' := 2) (i := 1) (n := 1) dX9_lengths_1 rfl rfl rfl ?_
  obtain ⟨v1, e2, h⟩ := tl_inv h
  refine J_callV (pc' := 5) (as := [.int x1]) (rest := []) dX9_lengths_2 rfl lk_X9_153 rfl 9 (by decide) rfl (x_o hs) (x_n hs (Nat.le_of_ble_eq_true rfl)) (c_X9_isOne hs e2) ⟨Nat.le_of_ble_eq_true rfl, Nat.le_of_ble_eq_true rfl⟩ (Nat.le_of_ble_eq_true rfl) ⟨Nat.le_of_ble_eq_true rfl, Nat.le_of_ble_eq_true rfl⟩ (j_kq ?_)
  refine J_if_eq (pc' := 8) (tgt := 18) dX9_lengths_5 rfl (by decide) (fun c3 => ?_) (fun c3 => ?_)
  · replace h := j_ip c3 h
    refine J_aload_n (pc' := 19) (i := 0) (n := 0) dX9_lengths_18 rfl rfl rfl ?_
    obtain ⟨q4, e5, h⟩ := bi_inv h
    obtain ⟨c6, h⟩ := j_ck_inv h
    refine J_callV (pc' := 22) (as := []) (rest := []) dX9_lengths_19 rfl lk_X9_96 rfl 9 (by decide) rfl (x_o hs) (x_n hs (Nat.le_of_ble_eq_true rfl)) (c_X9_bad hs e5) ⟨Nat.le_of_ble_eq_true rfl, Nat.le_of_ble_eq_true rfl⟩ (Nat.le_of_ble_eq_true rfl) ⟨Nat.le_of_ble_eq_true rfl, Nat.le_of_ble_eq_true rfl⟩ (j_kq ?_)
    have g7 : sh_x q4.2.2.2 := j_shE c6 hs
    exact J_iret rfl dX9_lengths_22 ⟨rfl, Nat.le_refl _⟩ (j_pW h)
  · replace h := j_iq c3 h
    refine J_iload_n (pc' := 9) (i := 2) (n := 2) dX9_lengths_8 rfl rfl rfl ?_
    refine J_iconst (pc' := 10) (v := (0 : Int32)) dX9_lengths_9 rfl ic_0 ?_
    refine J_bipush (pc' := 12) (v := (60 : Int32)) dX9_lengths_10 rfl bp_60 ?_
    obtain ⟨v8, e9, h⟩ := tl_inv h
    refine J_callS (pc' := 15) (as := [.int x2, .int (0 : Int32), .int (60 : Int32)]) (rest := []) dX9_lengths_12 rfl lk_X9_92 rfl (c_X9_within e9) ⟨Nat.le_of_ble_eq_true rfl, Nat.le_of_ble_eq_true rfl⟩ (Nat.le_of_ble_eq_true rfl) ⟨Nat.le_of_ble_eq_true rfl, Nat.le_of_ble_eq_true rfl⟩ (j_kq ?_)
    refine J_if_ne (pc' := 18) (tgt := 23) dX9_lengths_15 rfl (by decide) (fun c10 => ?_) (fun c10 => ?_)
    · replace h := j_iq c10 h
      refine J_aload_n (pc' := 24) (i := 0) (n := 0) dX9_lengths_23 rfl rfl rfl ?_
      refine J_getR (pc' := 27) (b := 17) dX9_lengths_24 rfl fl_X9_75 rfl (x_o hs) (x_n hs (Nat.le_of_ble_eq_true rfl)) (x_r0 hs) ?_
      refine J_getR (pc' := 30) (b := (17 + 5)) dX9_lengths_27 rfl fl_X9_103 rfl (b_o (x_b17 hs)) (b_no (x_b17 hs)) (b_r5 (x_b17 hs)) ?_
      refine J_bipush (pc' := 32) (v := (8 : Int32)) dX9_lengths_30 rfl bp_8 ?_
      refine J_iload_n (pc' := 33) (i := 1) (n := 1) dX9_lengths_32 rfl rfl rfl ?_
      refine J_iadd (pc' := 34) dX9_lengths_33 rfl ?_
      obtain ⟨v11, e12, h⟩ := a_i_inv h
      refine J_ialde (pc' := 35) dX9_lengths_34 rfl (b_s5 (x_b17 hs)) (b_n (x_b17 hs) (Nat.le_of_ble_eq_true rfl)) e12 ?_
      refine J_aload_n (pc' := 36) (i := 0) (n := 0) dX9_lengths_35 rfl rfl rfl ?_
      refine J_iload_n (pc' := 37) (i := 1) (n := 1) dX9_lengths_36 rfl rfl rfl ?_
      refine J_iload_n (pc' := 38) (i := 2) (n := 2) dX9_lengths_37 rfl rfl rfl ?_
      obtain ⟨v13, e14, h⟩ := bi_inv h
      refine J_callV (pc' := 41) (as := [.int x1, .int x2]) (rest := [.int v11]) dX9_lengths_38 rfl lk_X9_194 rfl 9 (by decide) rfl (x_o hs) (x_n hs (Nat.le_of_ble_eq_true rfl)) (c_X9_lengthsToCome hs e14) ⟨Nat.le_of_ble_eq_true rfl, Nat.le_of_ble_eq_true rfl⟩ (Nat.le_of_ble_eq_true rfl) ⟨Nat.le_of_ble_eq_true rfl, Nat.le_of_ble_eq_true rfl⟩ (j_kq ?_)
      refine J_iadd (pc' := 42) dX9_lengths_41 rfl ?_
      exact J_iret rfl dX9_lengths_42 ⟨rfl, Nat.le_refl _⟩ (j_pW h)
    · replace h := j_ip c10 h
      refine J_aload_n (pc' := 19) (i := 0) (n := 0) dX9_lengths_18 rfl rfl rfl ?_
      obtain ⟨q15, e16, h⟩ := bi_inv h
      obtain ⟨c17, h⟩ := j_ck_inv h
      refine J_callV (pc' := 22) (as := []) (rest := []) dX9_lengths_19 rfl lk_X9_96 rfl 9 (by decide) rfl (x_o hs) (x_n hs (Nat.le_of_ble_eq_true rfl)) (c_X9_bad hs e16) ⟨Nat.le_of_ble_eq_true rfl, Nat.le_of_ble_eq_true rfl⟩ (Nat.le_of_ble_eq_true rfl) ⟨Nat.le_of_ble_eq_true rfl, Nat.le_of_ble_eq_true rfl⟩ (j_kq ?_)
      have g18 : sh_x q15.2.2.2 := j_shE c17 hs
      exact J_iret rfl dX9_lengths_22 ⟨rfl, Nat.le_refl _⟩ (j_pW h)
abbrev JT_X9_best (l : Launch) (G : j_G) (r : (Int32 × j_M)) : Nat → List (Nat × Value) → List Value → j_M → Prop := JJ l G md_X9_best (j_rm 8 (0, 0)) (0, 0) (0, 0) (po (some (.int r.1)) r.2)
noncomputable def f_X9_best (M : j_M) (x1 : Int32) : Option (Int32 × j_M) :=
  tl (f_X9_isOne M x1) fun v1 => (if v1 = 0 then ((f_X9_bad M).bind fun q4 => j_ck M q4.2 (some (q4.1, q4.2))) else ((f_X0_quickestLane M 17 (17 + 5) x1).bind fun q8 => j_ck M q8.2 (some (q8.1, q8.2))))
set_option maxHeartbeats 4000000 in
theorem c_X9_best {l : Launch} {G : j_G} {M : j_M} {x1 : Int32} (hs : sh_x M.2.2) {r : (Int32 × j_M)} (h : f_X9_best M x1 = some r) : j_Sp l G md_X9_best 8 (0, 0) [.ref 0, .int x1] M (po (some (.int r.1)) r.2) := by
  refine j_Sp.of (by decide) (Nat.le_of_ble_eq_true rfl) ?_
  show JT_X9_best l G r 0 [(0, .ref 0), (1, .int x1)] [] M
  unfold f_X9_best at h
  refine J_aload_n (pc' := 1) (i := 0) (n := 0) dX9_best_0 rfl rfl rfl ?_
  refine J_iload_n (pc' := 2) (i := 1) (n := 1) dX9_best_1 rfl rfl rfl ?_
  obtain ⟨v1, e2, h⟩ := tl_inv h
  refine J_callV (pc' := 5) (as := [.int x1]) (rest := []) dX9_best_2 rfl lk_X9_153 rfl 9 (by decide) rfl (x_o hs) (x_n hs (Nat.le_of_ble_eq_true rfl)) (c_X9_isOne hs e2) ⟨Nat.le_of_ble_eq_true rfl, Nat.le_of_ble_eq_true rfl⟩ (Nat.le_of_ble_eq_true rfl) ⟨Nat.le_of_ble_eq_true rfl, Nat.le_of_ble_eq_true rfl⟩ (j_kq ?_)
  refine J_if_eq (pc' := 8) (tgt := 26) dX9_best_5 rfl (by decide) (fun c3 => ?_) (fun c3 => ?_)
  · replace h := j_ip c3 h
    refine J_aload_n (pc' := 27) (i := 0) (n := 0) dX9_best_26 rfl rfl rfl ?_
    obtain ⟨q4, e5, h⟩ := bi_inv h
    obtain ⟨c6, h⟩ := j_ck_inv h
    refine J_callV (pc' := 30) (as := []) (rest := []) dX9_best_27 rfl lk_X9_96 rfl 9 (by decide) rfl (x_o hs) (x_n hs (Nat.le_of_ble_eq_true rfl)) (c_X9_bad hs e5) ⟨Nat.le_of_ble_eq_true rfl, Nat.le_of_ble_eq_true rfl⟩ (Nat.le_of_ble_eq_true rfl) ⟨Nat.le_of_ble_eq_true rfl, Nat.le_of_ble_eq_true rfl⟩ (j_kq ?_)
    have g7 : sh_x q4.2.2.2 := j_shE c6 hs
    exact J_iret rfl dX9_best_30 ⟨rfl, Nat.le_refl _⟩ (j_pW h)
  · replace h := j_iq c3 h
    refine J_aload_n (pc' := 9) (i := 0) (n := 0) dX9_best_8 rfl rfl rfl ?_
    refine J_getR (pc' := 12) (b := 17) dX9_best_9 rfl fl_X9_75 rfl (x_o hs) (x_n hs (Nat.le_of_ble_eq_true rfl)) (x_r0 hs) ?_
    refine J_aload_n (pc' := 13) (i := 0) (n := 0) dX9_best_12 rfl rfl rfl ?_
    refine J_getR (pc' := 16) (b := 17) dX9_best_13 rfl fl_X9_75 rfl (x_o hs) (x_n hs (Nat.le_of_ble_eq_true rfl)) (x_r0 hs) ?_
    refine J_getR (pc' := 19) (b := (17 + 5)) dX9_best_16 rfl fl_X9_103 rfl (b_o (x_b17 hs)) (b_no (x_b17 hs)) (b_r5 (x_b17 hs)) ?_
    refine J_iload_n (pc' := 20) (i := 1) (n := 1) dX9_best_19 rfl rfl rfl ?_
    obtain ⟨q8, e9, h⟩ := bi_inv h
    obtain ⟨c10, h⟩ := j_ck_inv h
    refine J_callVN (pc' := 23) (as := [.ref (17 + 5), .int x1]) (rest := []) dX9_best_20 rfl lk_X9_197 rfl 0 (by decide) rfl (b_o (x_b17 hs)) (b_no (x_b17 hs)) (c_X0_quickestLane (x_b17 hs) ⟨(b_s5 (x_b17 hs)), (b_n (x_b17 hs) (Nat.le_of_ble_eq_true rfl))⟩ e9) ⟨Nat.le_of_ble_eq_true rfl, Nat.le_of_ble_eq_true rfl⟩ (Nat.le_of_ble_eq_true rfl) ⟨Nat.le_of_ble_eq_true rfl, Nat.le_of_ble_eq_true rfl⟩ (j_kq ?_)
    have g11 : sh_x q8.2.2.2 := j_shE c10 hs
    refine J_goto (pc' := 30) dX9_best_23 (by decide) ?_
    exact J_iret rfl dX9_best_30 ⟨rfl, Nat.le_refl _⟩ (j_pW h)
abbrev JT_X9_cost (l : Launch) (G : j_G) (r : (Int32 × j_M)) : Nat → List (Nat × Value) → List Value → j_M → Prop := JJ l G md_X9_cost (j_rm 8 (0, 0)) (0, 0) (0, 0) (po (some (.int r.1)) r.2)
noncomputable def f_X9_cost (M : j_M) (x1 : Int32) (x2 : Int32) : Option (Int32 × j_M) :=
  tl (f_X9_isOne M x1) fun v1 => (if v1 = 0 then ((f_X9_bad M).bind fun q4 => j_ck M q4.2 (some (q4.1, q4.2))) else (tl (f_X9_isLane x2) fun v8 => (if v8 = 0 then ((f_X9_bad M).bind fun q22 => j_ck M q22.2 (some (q22.1, q22.2))) else ((f_X0_isOpen M 17 x2).bind fun v11 => (if v11 = 0 then ((f_X9_no M).bind fun q18 => j_ck M q18.2 (some (q18.1, q18.2))) else ((f_X0_others M 17 (17 + 5) x1 x2).bind fun v14 => ((f_X0_costTo M 17 v14 x1).bind fun v16 => (some (v16, M)))))))))
set_option maxHeartbeats 4000000 in
theorem c_X9_cost {l : Launch} {G : j_G} {M : j_M} {x1 : Int32} {x2 : Int32} (hs : sh_x M.2.2) {r : (Int32 × j_M)} (h : f_X9_cost M x1 x2 = some r) : j_Sp l G md_X9_cost 8 (0, 0) [.ref 0, .int x1, .int x2] M (po (some (.int r.1)) r.2) := by
  refine j_Sp.of (by decide) (Nat.le_of_ble_eq_true rfl) ?_
  show JT_X9_cost l G r 0 [(0, .ref 0), (1, .int x1), (2, .int x2)] [] M
  unfold f_X9_cost at h
  refine J_aload_n (pc' := 1) (i := 0) (n := 0) dX9_cost_0 rfl rfl rfl ?_
  refine J_iload_n (pc' := 2) (i := 1) (n := 1) dX9_cost_1 rfl rfl rfl ?_
  obtain ⟨v1, e2, h⟩ := tl_inv h
  refine J_callV (pc' := 5) (as := [.int x1]) (rest := []) dX9_cost_2 rfl lk_X9_153 rfl 9 (by decide) rfl (x_o hs) (x_n hs (Nat.le_of_ble_eq_true rfl)) (c_X9_isOne hs e2) ⟨Nat.le_of_ble_eq_true rfl, Nat.le_of_ble_eq_true rfl⟩ (Nat.le_of_ble_eq_true rfl) ⟨Nat.le_of_ble_eq_true rfl, Nat.le_of_ble_eq_true rfl⟩ (j_kq ?_)
  refine J_if_eq (pc' := 8) (tgt := 15) dX9_cost_5 rfl (by decide) (fun c3 => ?_) (fun c3 => ?_)
  · replace h := j_ip c3 h
    refine J_aload_n (pc' := 16) (i := 0) (n := 0) dX9_cost_15 rfl rfl rfl ?_
    obtain ⟨q4, e5, h⟩ := bi_inv h
    obtain ⟨c6, h⟩ := j_ck_inv h
    refine J_callV (pc' := 19) (as := []) (rest := []) dX9_cost_16 rfl lk_X9_96 rfl 9 (by decide) rfl (x_o hs) (x_n hs (Nat.le_of_ble_eq_true rfl)) (c_X9_bad hs e5) ⟨Nat.le_of_ble_eq_true rfl, Nat.le_of_ble_eq_true rfl⟩ (Nat.le_of_ble_eq_true rfl) ⟨Nat.le_of_ble_eq_true rfl, Nat.le_of_ble_eq_true rfl⟩ (j_kq ?_)
    have g7 : sh_x q4.2.2.2 := j_shE c6 hs
    exact J_iret rfl dX9_cost_19 ⟨rfl, Nat.le_refl _⟩ (j_pW h)
  · replace h := j_iq c3 h
    refine J_iload_n (pc' := 9) (i := 2) (n := 2) dX9_cost_8 rfl rfl rfl ?_
    obtain ⟨v8, e9, h⟩ := tl_inv h
    refine J_callS (pc' := 12) (as := [.int x2]) (rest := []) dX9_cost_9 rfl lk_X9_88 rfl (c_X9_isLane e9) ⟨Nat.le_of_ble_eq_true rfl, Nat.le_of_ble_eq_true rfl⟩ (Nat.le_of_ble_eq_true rfl) ⟨Nat.le_of_ble_eq_true rfl, Nat.le_of_ble_eq_true rfl⟩ (j_kq ?_)
    refine J_if_ne (pc' := 15) (tgt := 20) dX9_cost_12 rfl (by decide) (fun c10 => ?_) (fun c10 => ?_)
    · replace h := j_iq c10 h
      refine J_aload_n (pc' := 21) (i := 0) (n := 0) dX9_cost_20 rfl rfl rfl ?_
      refine J_getR (pc' := 24) (b := 17) dX9_cost_21 rfl fl_X9_75 rfl (x_o hs) (x_n hs (Nat.le_of_ble_eq_true rfl)) (x_r0 hs) ?_
      refine J_iload_n (pc' := 25) (i := 2) (n := 2) dX9_cost_24 rfl rfl rfl ?_
      obtain ⟨v11, e12, h⟩ := bi_inv h
      refine J_callVN (pc' := 28) (as := [.int x2]) (rest := []) dX9_cost_25 rfl lk_X9_125 rfl 0 (by decide) rfl (b_o (x_b17 hs)) (b_no (x_b17 hs)) (c_X0_isOpen (x_b17 hs) e12) ⟨Nat.le_of_ble_eq_true rfl, Nat.le_of_ble_eq_true rfl⟩ (Nat.le_of_ble_eq_true rfl) ⟨Nat.le_of_ble_eq_true rfl, Nat.le_of_ble_eq_true rfl⟩ (j_kq ?_)
      refine J_if_ne (pc' := 31) (tgt := 36) dX9_cost_28 rfl (by decide) (fun c13 => ?_) (fun c13 => ?_)
      · replace h := j_iq c13 h
        refine J_aload_n (pc' := 37) (i := 0) (n := 0) dX9_cost_36 rfl rfl rfl ?_
        refine J_getR (pc' := 40) (b := 17) dX9_cost_37 rfl fl_X9_75 rfl (x_o hs) (x_n hs (Nat.le_of_ble_eq_true rfl)) (x_r0 hs) ?_
        refine J_aload_n (pc' := 41) (i := 0) (n := 0) dX9_cost_40 rfl rfl rfl ?_
        refine J_getR (pc' := 44) (b := 17) dX9_cost_41 rfl fl_X9_75 rfl (x_o hs) (x_n hs (Nat.le_of_ble_eq_true rfl)) (x_r0 hs) ?_
        refine J_aload_n (pc' := 45) (i := 0) (n := 0) dX9_cost_44 rfl rfl rfl ?_
        refine J_getR (pc' := 48) (b := 17) dX9_cost_45 rfl fl_X9_75 rfl (x_o hs) (x_n hs (Nat.le_of_ble_eq_true rfl)) (x_r0 hs) ?_
        refine J_getR (pc' := 51) (b := (17 + 5)) dX9_cost_48 rfl fl_X9_103 rfl (b_o (x_b17 hs)) (b_no (x_b17 hs)) (b_r5 (x_b17 hs)) ?_
        refine J_iload_n (pc' := 52) (i := 1) (n := 1) dX9_cost_51 rfl rfl rfl ?_
        refine J_iload_n (pc' := 53) (i := 2) (n := 2) dX9_cost_52 rfl rfl rfl ?_
        obtain ⟨v14, e15, h⟩ := bi_inv h
        refine J_callVN (pc' := 56) (as := [.ref (17 + 5), .int x1, .int x2]) (rest := [.ref 17]) dX9_cost_53 rfl lk_X9_178 rfl 0 (by decide) rfl (b_o (x_b17 hs)) (b_no (x_b17 hs)) (c_X0_others (x_b17 hs) ⟨(b_s5 (x_b17 hs)), (b_n (x_b17 hs) (Nat.le_of_ble_eq_true rfl))⟩ e15) ⟨Nat.le_of_ble_eq_true rfl, Nat.le_of_ble_eq_true rfl⟩ (Nat.le_of_ble_eq_true rfl) ⟨Nat.le_of_ble_eq_true rfl, Nat.le_of_ble_eq_true rfl⟩ (j_kq ?_)
        refine J_iload_n (pc' := 57) (i := 1) (n := 1) dX9_cost_56 rfl rfl rfl ?_
        obtain ⟨v16, e17, h⟩ := bi_inv h
        refine J_callVN (pc' := 60) (as := [.int v14, .int x1]) (rest := []) dX9_cost_57 rfl lk_X9_200 rfl 0 (by decide) rfl (b_o (x_b17 hs)) (b_no (x_b17 hs)) (c_X0_costTo (x_b17 hs) e17) ⟨Nat.le_of_ble_eq_true rfl, Nat.le_of_ble_eq_true rfl⟩ (Nat.le_of_ble_eq_true rfl) ⟨Nat.le_of_ble_eq_true rfl, Nat.le_of_ble_eq_true rfl⟩ (j_kq ?_)
        exact J_iret rfl dX9_cost_60 ⟨rfl, Nat.le_refl _⟩ (j_pW h)
      · replace h := j_ip c13 h
        refine J_aload_n (pc' := 32) (i := 0) (n := 0) dX9_cost_31 rfl rfl rfl ?_
        obtain ⟨q18, e19, h⟩ := bi_inv h
        obtain ⟨c20, h⟩ := j_ck_inv h
        refine J_callV (pc' := 35) (as := []) (rest := []) dX9_cost_32 rfl lk_X9_110 rfl 9 (by decide) rfl (x_o hs) (x_n hs (Nat.le_of_ble_eq_true rfl)) (c_X9_no hs e19) ⟨Nat.le_of_ble_eq_true rfl, Nat.le_of_ble_eq_true rfl⟩ (Nat.le_of_ble_eq_true rfl) ⟨Nat.le_of_ble_eq_true rfl, Nat.le_of_ble_eq_true rfl⟩ (j_kq ?_)
        have g21 : sh_x q18.2.2.2 := j_shE c20 hs
        exact J_iret rfl dX9_cost_35 ⟨rfl, Nat.le_refl _⟩ (j_pW h)
    · replace h := j_ip c10 h
      refine J_aload_n (pc' := 16) (i := 0) (n := 0) dX9_cost_15 rfl rfl rfl ?_
      obtain ⟨q22, e23, h⟩ := bi_inv h
      obtain ⟨c24, h⟩ := j_ck_inv h
      refine J_callV (pc' := 19) (as := []) (rest := []) dX9_cost_16 rfl lk_X9_96 rfl 9 (by decide) rfl (x_o hs) (x_n hs (Nat.le_of_ble_eq_true rfl)) (c_X9_bad hs e23) ⟨Nat.le_of_ble_eq_true rfl, Nat.le_of_ble_eq_true rfl⟩ (Nat.le_of_ble_eq_true rfl) ⟨Nat.le_of_ble_eq_true rfl, Nat.le_of_ble_eq_true rfl⟩ (j_kq ?_)
      have g25 : sh_x q22.2.2.2 := j_shE c24 hs
      exact J_iret rfl dX9_cost_19 ⟨rfl, Nat.le_refl _⟩ (j_pW h)
abbrev JT_X9_cheapestLane (l : Launch) (G : j_G) (r : (Int32 × j_M)) : Nat → List (Nat × Value) → List Value → j_M → Prop := JJ l G md_X9_cheapestLane (j_rm 8 (0, 0)) (0, 0) (0, 0) (po (some (.int r.1)) r.2)
noncomputable def f_X9_cheapestLane_L2 : Nat → j_M → Int32 → Int32 → (Int32 → j_M → Option (Int32 × j_M)) → Option (Int32 × j_M)
  | 0, _, _, _, _ => none
  | n + 1, M, x1, x2, K =>
    if (4 : Int32) ≤ x2 then (K x2 M) else ((f_X0_others M 17 (17 + 5) x1 x2).bind fun v2 => ((f_X0_costTo M 17 v2 x1).bind fun v4 => (w_i M (17 + 8) 4 x2 v4 fun M6 => (f_X9_cheapestLane_L2 n  M6 x1 (x2 + (1 : Int32)) K))))
noncomputable def f_X9_cheapestLane (M : j_M) (x1 : Int32) : Option (Int32 × j_M) :=
  f_X9_cheapestLane_L2 j_fu  M x1 (0 : Int32) (fun (y9 : Int32) (M10 : j_M) => ((f_X0_leastOpenLane M10 17).bind fun v12 => (some (v12, M10))))
set_option maxHeartbeats 4000000 in
theorem L_X9_cheapestLane_L2 {l : Launch} {G : j_G}  {r : (Int32 × j_M)} : ∀ (n : Nat) {x1 : Int32} {x2 : Int32} {M : j_M} (hs : sh_x M.2.2) {K : Int32 → j_M → Option (Int32 × j_M)}, f_X9_cheapestLane_L2 n  M x1 x2 K = some r → (∀ (y2 : Int32) (M1 : j_M), sh_x M1.2.2 → K y2 M1 = some r → JT_X9_cheapestLane l G r 46 [(0, .ref 0)] [] M1) → JT_X9_cheapestLane l G r 2 [(0, .ref 0), (1, .int x1), (2, .int x2)] [] M := by
  intro n
  induction n with
  | zero =>
    intro x1 x2 M hs K h hK
    rw [f_X9_cheapestLane_L2] at h; cases h
  | succ n ih =>
    intro x1 x2 M hs K h hK
    rw [f_X9_cheapestLane_L2] at h
    refine J_iload_n (pc' := 3) (i := 2) (n := 2) dX9_cheapestLane_2 rfl rfl rfl ?_
    refine J_iconst (pc' := 4) (v := (4 : Int32)) dX9_cheapestLane_3 rfl ic_4 ?_
    refine J_icmp_ge (pc' := 7) (tgt := 46) dX9_cheapestLane_4 rfl (by decide) (fun c1 => ?_) (fun c1 => ?_)
    · replace h := j_ip c1 h
      refine J_sub [0] (lv' := [(0, .ref 0)]) rfl ?_
      exact hK x2 M hs h
    · replace h := j_iq c1 h
      refine J_aload_n (pc' := 8) (i := 0) (n := 0) dX9_cheapestLane_7 rfl rfl rfl ?_
      refine J_getR (pc' := 11) (b := 17) dX9_cheapestLane_8 rfl fl_X9_75 rfl (x_o hs) (x_n hs (Nat.le_of_ble_eq_true rfl)) (x_r0 hs) ?_
      refine J_getR (pc' := 14) (b := (17 + 8)) dX9_cheapestLane_11 rfl fl_X9_302 rfl (b_o (x_b17 hs)) (b_no (x_b17 hs)) (b_r8 (x_b17 hs)) ?_
      refine J_iload_n (pc' := 15) (i := 2) (n := 2) dX9_cheapestLane_14 rfl rfl rfl ?_
      refine J_aload_n (pc' := 16) (i := 0) (n := 0) dX9_cheapestLane_15 rfl rfl rfl ?_
      refine J_getR (pc' := 19) (b := 17) dX9_cheapestLane_16 rfl fl_X9_75 rfl (x_o hs) (x_n hs (Nat.le_of_ble_eq_true rfl)) (x_r0 hs) ?_
      refine J_aload_n (pc' := 20) (i := 0) (n := 0) dX9_cheapestLane_19 rfl rfl rfl ?_
      refine J_getR (pc' := 23) (b := 17) dX9_cheapestLane_20 rfl fl_X9_75 rfl (x_o hs) (x_n hs (Nat.le_of_ble_eq_true rfl)) (x_r0 hs) ?_
      refine J_aload_n (pc' := 24) (i := 0) (n := 0) dX9_cheapestLane_23 rfl rfl rfl ?_
      refine J_getR (pc' := 27) (b := 17) dX9_cheapestLane_24 rfl fl_X9_75 rfl (x_o hs) (x_n hs (Nat.le_of_ble_eq_true rfl)) (x_r0 hs) ?_
      refine J_getR (pc' := 30) (b := (17 + 5)) dX9_cheapestLane_27 rfl fl_X9_103 rfl (b_o (x_b17 hs)) (b_no (x_b17 hs)) (b_r5 (x_b17 hs)) ?_
      refine J_iload_n (pc' := 31) (i := 1) (n := 1) dX9_cheapestLane_30 rfl rfl rfl ?_
      refine J_iload_n (pc' := 32) (i := 2) (n := 2) dX9_cheapestLane_31 rfl rfl rfl ?_
      obtain ⟨v2, e3, h⟩ := bi_inv h
      refine J_callVN (pc' := 35) (as := [.ref (17 + 5), .int x1, .int x2]) (rest := [.ref 17, .int x2, .ref (17 + 8)]) dX9_cheapestLane_32 rfl lk_X9_178 rfl 0 (by decide) rfl (b_o (x_b17 hs)) (b_no (x_b17 hs)) (c_X0_others (x_b17 hs) ⟨(b_s5 (x_b17 hs)), (b_n (x_b17 hs) (Nat.le_of_ble_eq_true rfl))⟩ e3) ⟨Nat.le_of_ble_eq_true rfl, Nat.le_of_ble_eq_true rfl⟩ (Nat.le_of_ble_eq_true rfl) ⟨Nat.le_of_ble_eq_true rfl, Nat.le_of_ble_eq_true rfl⟩ (j_kq ?_)
      refine J_iload_n (pc' := 36) (i := 1) (n := 1) dX9_cheapestLane_35 rfl rfl rfl ?_
      obtain ⟨v4, e5, h⟩ := bi_inv h
      refine J_callVN (pc' := 39) (as := [.int v2, .int x1]) (rest := [.int x2, .ref (17 + 8)]) dX9_cheapestLane_36 rfl lk_X9_200 rfl 0 (by decide) rfl (b_o (x_b17 hs)) (b_no (x_b17 hs)) (c_X0_costTo (x_b17 hs) e5) ⟨Nat.le_of_ble_eq_true rfl, Nat.le_of_ble_eq_true rfl⟩ (Nat.le_of_ble_eq_true rfl) ⟨Nat.le_of_ble_eq_true rfl, Nat.le_of_ble_eq_true rfl⟩ (j_kq ?_)
      obtain ⟨M6, e7, h⟩ := w_i_inv h
      have g8 : sh_x M6.2.2 := j_shI e7.2 hs
      refine J_iaste (pc' := 40) dX9_cheapestLane_39 rfl (b_s8 (x_b17 hs)) (b_n (x_b17 hs) (Nat.le_of_ble_eq_true rfl)) e7 ?_
      refine J_iinc (pc' := 43) (i := 2) (n := 2) (v := (x2 + (1 : Int32))) (lv' := [(2, .int (x2 + (1 : Int32))), (0, .ref 0), (1, .int x1)]) dX9_cheapestLane_40 rfl rfl (j_inc _ _ rfl _) (by decide) rfl ?_
      refine J_goto (pc' := 2) dX9_cheapestLane_43 (by decide) ?_
      refine J_sub [1, 2, 0] (lv' := [(0, .ref 0), (1, .int x1), (2, .int (x2 + (1 : Int32)))]) rfl ?_
      exact ih g8 h hK
set_option maxHeartbeats 4000000 in
theorem c_X9_cheapestLane {l : Launch} {G : j_G} {M : j_M} {x1 : Int32} (hs : sh_x M.2.2) {r : (Int32 × j_M)} (h : f_X9_cheapestLane M x1 = some r) : j_Sp l G md_X9_cheapestLane 8 (0, 0) [.ref 0, .int x1] M (po (some (.int r.1)) r.2) := by
  refine j_Sp.of (by decide) (Nat.le_of_ble_eq_true rfl) ?_
  show JT_X9_cheapestLane l G r 0 [(0, .ref 0), (1, .int x1)] [] M
  unfold f_X9_cheapestLane at h
  refine J_iconst (pc' := 1) (v := (0 : Int32)) dX9_cheapestLane_0 rfl ic_0 ?_
  refine J_istore_n (pc' := 2) (i := 2) (lv' := [(2, .int (0 : Int32)), (0, .ref 0), (1, .int x1)]) dX9_cheapestLane_1 rfl rfl (by decide) rfl ?_
  refine J_sub [1, 2, 0] (lv' := [(0, .ref 0), (1, .int x1), (2, .int (0 : Int32))]) rfl ?_
  refine L_X9_cheapestLane_L2 j_fu hs h (fun y9 M10 g11 h => ?_)
  refine J_aload_n (pc' := 47) (i := 0) (n := 0) dX9_cheapestLane_46 rfl rfl rfl ?_
  refine J_getR (pc' := 50) (b := 17) dX9_cheapestLane_47 rfl fl_X9_75 rfl (x_o g11) (x_n g11 (Nat.le_of_ble_eq_true rfl)) (x_r0 g11) ?_
  obtain ⟨v12, e13, h⟩ := bi_inv h
  refine J_callVN (pc' := 53) (as := []) (rest := []) dX9_cheapestLane_50 rfl lk_X9_305 rfl 0 (by decide) rfl (b_o (x_b17 g11)) (b_no (x_b17 g11)) (c_X0_leastOpenLane (x_b17 g11) e13) ⟨Nat.le_of_ble_eq_true rfl, Nat.le_of_ble_eq_true rfl⟩ (Nat.le_of_ble_eq_true rfl) ⟨Nat.le_of_ble_eq_true rfl, Nat.le_of_ble_eq_true rfl⟩ (j_kq ?_)
  exact J_iret rfl dX9_cheapestLane_53 ⟨rfl, Nat.le_refl _⟩ (j_pW h)
abbrev JT_X9_where (l : Launch) (G : j_G) (r : (Int32 × j_M)) : Nat → List (Nat × Value) → List Value → j_M → Prop := JJ l G md_X9_where (j_rm 9 (0, 0)) (0, 0) (0, 0) (po (some (.int r.1)) r.2)
noncomputable def f_X9_where (M : j_M) (x1 : Int32) : Option (Int32 × j_M) :=
  tl (f_X9_isOne M x1) fun v1 => (if v1 = 0 then ((f_X9_bad M).bind fun q4 => j_ck M q4.2 (some (q4.1, q4.2))) else ((f_X9_cheapestLane M x1).bind fun q8 => j_ck M q8.2 (some (q8.1, q8.2))))
set_option maxHeartbeats 4000000 in
theorem c_X9_where {l : Launch} {G : j_G} {M : j_M} {x1 : Int32} (hs : sh_x M.2.2) {r : (Int32 × j_M)} (h : f_X9_where M x1 = some r) : j_Sp l G md_X9_where 9 (0, 0) [.ref 0, .int x1] M (po (some (.int r.1)) r.2) := by
  refine j_Sp.of (by decide) (Nat.le_of_ble_eq_true rfl) ?_
  show JT_X9_where l G r 0 [(0, .ref 0), (1, .int x1)] [] M
  unfold f_X9_where at h
  refine J_aload_n (pc' := 1) (i := 0) (n := 0) dX9_where_0 rfl rfl rfl ?_
  refine J_iload_n (pc' := 2) (i := 1) (n := 1) dX9_where_1 rfl rfl rfl ?_
  obtain ⟨v1, e2, h⟩ := tl_inv h
  refine J_callV (pc' := 5) (as := [.int x1]) (rest := []) dX9_where_2 rfl lk_X9_153 rfl 9 (by decide) rfl (x_o hs) (x_n hs (Nat.le_of_ble_eq_true rfl)) (c_X9_isOne hs e2) ⟨Nat.le_of_ble_eq_true rfl, Nat.le_of_ble_eq_true rfl⟩ (Nat.le_of_ble_eq_true rfl) ⟨Nat.le_of_ble_eq_true rfl, Nat.le_of_ble_eq_true rfl⟩ (j_kq ?_)
  refine J_if_eq (pc' := 8) (tgt := 16) dX9_where_5 rfl (by decide) (fun c3 => ?_) (fun c3 => ?_)
  · replace h := j_ip c3 h
    refine J_aload_n (pc' := 17) (i := 0) (n := 0) dX9_where_16 rfl rfl rfl ?_
    obtain ⟨q4, e5, h⟩ := bi_inv h
    obtain ⟨c6, h⟩ := j_ck_inv h
    refine J_callV (pc' := 20) (as := []) (rest := []) dX9_where_17 rfl lk_X9_96 rfl 9 (by decide) rfl (x_o hs) (x_n hs (Nat.le_of_ble_eq_true rfl)) (c_X9_bad hs e5) ⟨Nat.le_of_ble_eq_true rfl, Nat.le_of_ble_eq_true rfl⟩ (Nat.le_of_ble_eq_true rfl) ⟨Nat.le_of_ble_eq_true rfl, Nat.le_of_ble_eq_true rfl⟩ (j_kq ?_)
    have g7 : sh_x q4.2.2.2 := j_shE c6 hs
    exact J_iret rfl dX9_where_20 ⟨rfl, Nat.le_refl _⟩ (j_pW h)
  · replace h := j_iq c3 h
    refine J_aload_n (pc' := 9) (i := 0) (n := 0) dX9_where_8 rfl rfl rfl ?_
    refine J_iload_n (pc' := 10) (i := 1) (n := 1) dX9_where_9 rfl rfl rfl ?_
    obtain ⟨q8, e9, h⟩ := bi_inv h
    obtain ⟨c10, h⟩ := j_ck_inv h
    refine J_callV (pc' := 13) (as := [.int x1]) (rest := []) dX9_where_10 rfl lk_X9_203 rfl 9 (by decide) rfl (x_o hs) (x_n hs (Nat.le_of_ble_eq_true rfl)) (c_X9_cheapestLane hs e9) ⟨Nat.le_of_ble_eq_true rfl, Nat.le_of_ble_eq_true rfl⟩ (Nat.le_of_ble_eq_true rfl) ⟨Nat.le_of_ble_eq_true rfl, Nat.le_of_ble_eq_true rfl⟩ (j_kq ?_)
    have g11 : sh_x q8.2.2.2 := j_shE c10 hs
    refine J_goto (pc' := 20) dX9_where_13 (by decide) ?_
    exact J_iret rfl dX9_where_20 ⟨rfl, Nat.le_refl _⟩ (j_pW h)
abbrev JT_X9_signOf (l : Launch) (G : j_G) (M : j_M) (r : Int32) : Nat → List (Nat × Value) → List Value → j_M → Prop := JJ l G md_X9_signOf (j_rm 1 (0, 0)) (0, 0) (0, 0) (po (some (.int r)) M)
def f_X9_signOf (x0 : Int32) : Int32 :=
  if x0 < (60 : Int32) then (if (40 : Int32) ≤ x0 then ((1 : Int32)) else ((2 : Int32))) else ((0 : Int32))
set_option maxHeartbeats 4000000 in
theorem c_X9_signOf {l : Launch} {G : j_G} {M : j_M} {x0 : Int32}  {r : Int32} (h : f_X9_signOf x0 = r) : j_Sp l G md_X9_signOf 1 (0, 0) [.int x0] M (po (some (.int r)) M) := by
  refine j_Sp.of (by decide) (Nat.le_of_ble_eq_true rfl) ?_
  show JT_X9_signOf l G M r 0 [(0, .int x0)] [] M
  unfold f_X9_signOf at h
  refine J_iload_n (pc' := 1) (i := 0) (n := 0) dX9_signOf_0 rfl rfl rfl ?_
  refine J_bipush (pc' := 3) (v := (60 : Int32)) dX9_signOf_1 rfl bp_60 ?_
  refine J_icmp_lt (pc' := 6) (tgt := 8) dX9_signOf_3 rfl (by decide) (fun c1 => ?_) (fun c1 => ?_)
  · replace h := j_ip c1 h
    refine J_iload_n (pc' := 9) (i := 0) (n := 0) dX9_signOf_8 rfl rfl rfl ?_
    refine J_bipush (pc' := 11) (v := (40 : Int32)) dX9_signOf_9 rfl bp_40 ?_
    refine J_icmp_ge (pc' := 14) (tgt := 18) dX9_signOf_11 rfl (by decide) (fun c2 => ?_) (fun c2 => ?_)
    · replace h := j_ip c2 h
      refine J_iconst (pc' := 19) (v := (1 : Int32)) dX9_signOf_18 rfl ic_1 ?_
      exact J_iret rfl dX9_signOf_19 ⟨rfl, Nat.le_refl _⟩ (j_pI h)
    · replace h := j_iq c2 h
      refine J_iconst (pc' := 15) (v := (2 : Int32)) dX9_signOf_14 rfl ic_2 ?_
      refine J_goto (pc' := 19) dX9_signOf_15 (by decide) ?_
      exact J_iret rfl dX9_signOf_19 ⟨rfl, Nat.le_refl _⟩ (j_pI h)
  · replace h := j_iq c1 h
    refine J_iconst (pc' := 7) (v := (0 : Int32)) dX9_signOf_6 rfl ic_0 ?_
    exact J_iret rfl dX9_signOf_7 ⟨rfl, Nat.le_refl _⟩ (j_pI h)
abbrev JT_X9_obey (l : Launch) (G : j_G) (r : (Int32 × j_M)) : Nat → List (Nat × Value) → List Value → j_M → Prop := JJ l G md_X9_obey (j_rm 6 (0, 0)) (0, 0) (0, 0) (po (some (.int r.1)) r.2)
noncomputable def f_X9_obey_L18 : Nat → j_M → Int32 → Int32 → Int32 → (Int32 → Int32 → Option (Int32 × j_M)) → Option (Int32 × j_M)
  | 0, _, _, _, _, _ => none
  | n + 1, M, x1, x2, x3, K =>
    if (j_I M 17 9) ≤ x3 then (K x2 x3) else (jn (fun (v6 : Int32) => ((f_X0_laneOf M 17 x3).bind fun v9 => (a_i M (17 + 1) 4 v9 fun v11 => (tl (f_X9_signOf v6) fun v13 => (if v11 = v13 then (f_X9_obey_L18 n  M x1 (x2 ||| ((1 : Int32) <<< (x3 &&& 31))) (x3 + (1 : Int32)) K) else (f_X9_obey_L18 n  M x1 x2 (x3 + (1 : Int32)) K)))))) (fun K7 => (if x1 = 0 then (a_i M (17 + 4) 7 x3 fun v18 => (K7 v18)) else ((f_X0_believedBy M 17 x3).bind fun v16 => (K7 v16)))))
noncomputable def f_X9_obey (M : j_M) (x1 : Int32) : Option (Int32 × j_M) :=
  tl (f_X9_within x1 (0 : Int32) (1 : Int32)) fun v1 => (if v1 = 0 then ((f_X9_bad M).bind fun q22 => j_ck M q22.2 (some (q22.1, q22.2))) else (f_X9_obey_L18 j_fu  M x1 (0 : Int32) (0 : Int32) (fun (y20 : Int32) (y21 : Int32) => (some (y20, M)))))
set_option maxHeartbeats 4000000 in
theorem L_X9_obey_L18 {l : Launch} {G : j_G}  {r : (Int32 × j_M)} : ∀ (n : Nat) {x1 : Int32} {x2 : Int32} {x3 : Int32} {M : j_M} (hs : sh_x M.2.2) {K : Int32 → Int32 → Option (Int32 × j_M)}, f_X9_obey_L18 n  M x1 x2 x3 K = some r → (∀ (y2 : Int32) (y3 : Int32), K y2 y3 = some r → JT_X9_obey l G r 91 [(2, .int y2)] [] M) → JT_X9_obey l G r 18 [(0, .ref 0), (1, .int x1), (2, .int x2), (3, .int x3)] [] M := by
  intro n
  induction n with
  | zero =>
    intro x1 x2 x3 M hs K h hK
    rw [f_X9_obey_L18] at h; cases h
  | succ n ih =>
    intro x1 x2 x3 M hs K h hK
    rw [f_X9_obey_L18] at h
    refine J_iload_n (pc' := 19) (i := 3) (n := 3) dX9_obey_18 rfl rfl rfl ?_
    refine J_aload_n (pc' := 20) (i := 0) (n := 0) dX9_obey_19 rfl rfl rfl ?_
    refine J_getR (pc' := 23) (b := 17) dX9_obey_20 rfl fl_X9_75 rfl (x_o hs) (x_n hs (Nat.le_of_ble_eq_true rfl)) (x_r0 hs) ?_
    refine J_getI (pc' := 26) dX9_obey_23 rfl fl_X9_82 rfl (b_o (x_b17 hs)) (b_no (x_b17 hs)) ?_
    refine J_icmp_ge (pc' := 29) (tgt := 91) dX9_obey_26 rfl (by decide) (fun c4 => ?_) (fun c4 => ?_)
    · replace h := j_ip c4 h
      refine J_sub [2] (lv' := [(2, .int x2)]) rfl ?_
      exact hK x2 x3  h
    · replace h := j_iq c4 h
      refine J_iload_n (pc' := 30) (i := 1) (n := 1) dX9_obey_29 rfl rfl rfl ?_
      refine J_join (C := fun (v6 : Int32) => JT_X9_obey l G r 53 [(0, .ref 0), (1, .int x1), (2, .int x2), (3, .int x3)] [.int v6] M) h (fun v6 h => ?_) (fun K7 h8 h => ?_)
      · refine J_istore (pc' := 55) (i := 4) (lv' := [(4, .int v6), (0, .ref 0), (1, .int x1), (2, .int x2), (3, .int x3)]) dX9_obey_53 rfl (by decide) rfl ?_
        refine J_aload_n (pc' := 56) (i := 0) (n := 1) dX9_obey_55 rfl rfl rfl ?_
        refine J_getR (pc' := 59) (b := 17) dX9_obey_56 rfl fl_X9_75 rfl (x_o hs) (x_n hs (Nat.le_of_ble_eq_true rfl)) (x_r0 hs) ?_
        refine J_getR (pc' := 62) (b := (17 + 1)) dX9_obey_59 rfl fl_X9_100 rfl (b_o (x_b17 hs)) (b_no (x_b17 hs)) (b_r1 (x_b17 hs)) ?_
        refine J_aload_n (pc' := 63) (i := 0) (n := 1) dX9_obey_62 rfl rfl rfl ?_
        refine J_getR (pc' := 66) (b := 17) dX9_obey_63 rfl fl_X9_75 rfl (x_o hs) (x_n hs (Nat.le_of_ble_eq_true rfl)) (x_r0 hs) ?_
        refine J_iload_n (pc' := 67) (i := 3) (n := 4) dX9_obey_66 rfl rfl rfl ?_
        obtain ⟨v9, e10, h⟩ := bi_inv h
        refine J_callVN (pc' := 70) (as := [.int x3]) (rest := [.ref (17 + 1)]) dX9_obey_67 rfl lk_X9_156 rfl 0 (by decide) rfl (b_o (x_b17 hs)) (b_no (x_b17 hs)) (c_X0_laneOf (x_b17 hs) e10) ⟨Nat.le_of_ble_eq_true rfl, Nat.le_of_ble_eq_true rfl⟩ (Nat.le_of_ble_eq_true rfl) ⟨Nat.le_of_ble_eq_true rfl, Nat.le_of_ble_eq_true rfl⟩ (j_kq ?_)
        obtain ⟨v11, e12, h⟩ := a_i_inv h
        refine J_ialde (pc' := 71) dX9_obey_70 rfl (b_s1 (x_b17 hs)) (b_n (x_b17 hs) (Nat.le_of_ble_eq_true rfl)) e12 ?_
        refine J_iload (pc' := 73) (i := 4) (n := 0) dX9_obey_71 rfl rfl ?_
        obtain ⟨v13, e14, h⟩ := tl_inv h
        refine J_callS (pc' := 76) (as := [.int v6]) (rest := [.int v11]) dX9_obey_73 rfl lk_X9_206 rfl (c_X9_signOf e14) ⟨Nat.le_of_ble_eq_true rfl, Nat.le_of_ble_eq_true rfl⟩ (Nat.le_of_ble_eq_true rfl) ⟨Nat.le_of_ble_eq_true rfl, Nat.le_of_ble_eq_true rfl⟩ (j_kq ?_)
        refine J_icmp_ne (pc' := 79) (tgt := 85) dX9_obey_76 rfl (by decide) (fun c15 => ?_) (fun c15 => ?_)
        · replace h := j_iq c15 h
          refine J_iinc (pc' := 88) (i := 3) (n := 4) (v := (x3 + (1 : Int32))) (lv' := [(3, .int (x3 + (1 : Int32))), (4, .int v6), (0, .ref 0), (1, .int x1), (2, .int x2)]) dX9_obey_85 rfl rfl (j_inc _ _ rfl _) (by decide) rfl ?_
          refine J_goto (pc' := 18) dX9_obey_88 (by decide) ?_
          refine J_sub [2, 3, 4, 0] (lv' := [(0, .ref 0), (1, .int x1), (2, .int x2), (3, .int (x3 + (1 : Int32)))]) rfl ?_
          exact ih hs h hK
        · replace h := j_ip c15 h
          refine J_iload_n (pc' := 80) (i := 2) (n := 3) dX9_obey_79 rfl rfl rfl ?_
          refine J_iconst (pc' := 81) (v := (1 : Int32)) dX9_obey_80 rfl ic_1 ?_
          refine J_iload_n (pc' := 82) (i := 3) (n := 4) dX9_obey_81 rfl rfl rfl ?_
          refine J_ishl (pc' := 83) dX9_obey_82 rfl ?_
          refine J_ior (pc' := 84) dX9_obey_83 rfl ?_
          refine J_istore_n (pc' := 85) (i := 2) (lv' := [(2, .int (x2 ||| ((1 : Int32) <<< (x3 &&& 31)))), (4, .int v6), (0, .ref 0), (1, .int x1), (3, .int x3)]) dX9_obey_84 rfl rfl (by decide) rfl ?_
          refine J_iinc (pc' := 88) (i := 3) (n := 4) (v := (x3 + (1 : Int32))) (lv' := [(3, .int (x3 + (1 : Int32))), (2, .int (x2 ||| ((1 : Int32) <<< (x3 &&& 31)))), (4, .int v6), (0, .ref 0), (1, .int x1)]) dX9_obey_85 rfl rfl (j_inc _ _ rfl _) (by decide) rfl ?_
          refine J_goto (pc' := 18) dX9_obey_88 (by decide) ?_
          refine J_sub [3, 4, 1, 0] (lv' := [(0, .ref 0), (1, .int x1), (2, .int (x2 ||| ((1 : Int32) <<< (x3 &&& 31)))), (3, .int (x3 + (1 : Int32)))]) rfl ?_
          exact ih hs h hK
      · refine J_if_ne (pc' := 33) (tgt := 45) dX9_obey_30 rfl (by decide) (fun c5 => ?_) (fun c5 => ?_)
        · replace h := j_iq c5 h
          refine J_aload_n (pc' := 46) (i := 0) (n := 0) dX9_obey_45 rfl rfl rfl ?_
          refine J_getR (pc' := 49) (b := 17) dX9_obey_46 rfl fl_X9_75 rfl (x_o hs) (x_n hs (Nat.le_of_ble_eq_true rfl)) (x_r0 hs) ?_
          refine J_iload_n (pc' := 50) (i := 3) (n := 3) dX9_obey_49 rfl rfl rfl ?_
          obtain ⟨v16, e17, h⟩ := bi_inv h
          refine J_callVN (pc' := 53) (as := [.int x3]) (rest := []) dX9_obey_50 rfl lk_X9_175 rfl 0 (by decide) rfl (b_o (x_b17 hs)) (b_no (x_b17 hs)) (c_X0_believedBy (x_b17 hs) e17) ⟨Nat.le_of_ble_eq_true rfl, Nat.le_of_ble_eq_true rfl⟩ (Nat.le_of_ble_eq_true rfl) ⟨Nat.le_of_ble_eq_true rfl, Nat.le_of_ble_eq_true rfl⟩ (j_kq ?_)
          exact h8 v16 h
        · replace h := j_ip c5 h
          refine J_aload_n (pc' := 34) (i := 0) (n := 0) dX9_obey_33 rfl rfl rfl ?_
          refine J_getR (pc' := 37) (b := 17) dX9_obey_34 rfl fl_X9_75 rfl (x_o hs) (x_n hs (Nat.le_of_ble_eq_true rfl)) (x_r0 hs) ?_
          refine J_getR (pc' := 40) (b := (17 + 4)) dX9_obey_37 rfl fl_X9_172 rfl (b_o (x_b17 hs)) (b_no (x_b17 hs)) (b_r4 (x_b17 hs)) ?_
          refine J_iload_n (pc' := 41) (i := 3) (n := 3) dX9_obey_40 rfl rfl rfl ?_
          obtain ⟨v18, e19, h⟩ := a_i_inv h
          refine J_ialde (pc' := 42) dX9_obey_41 rfl (b_s4 (x_b17 hs)) (b_n (x_b17 hs) (Nat.le_of_ble_eq_true rfl)) e19 ?_
          refine J_goto (pc' := 53) dX9_obey_42 (by decide) ?_
          exact h8 v18 h
set_option maxHeartbeats 4000000 in
theorem c_X9_obey {l : Launch} {G : j_G} {M : j_M} {x1 : Int32} (hs : sh_x M.2.2) {r : (Int32 × j_M)} (h : f_X9_obey M x1 = some r) : j_Sp l G md_X9_obey 6 (0, 0) [.ref 0, .int x1] M (po (some (.int r.1)) r.2) := by
  refine j_Sp.of (by decide) (Nat.le_of_ble_eq_true rfl) ?_
  show JT_X9_obey l G r 0 [(0, .ref 0), (1, .int x1)] [] M
  unfold f_X9_obey at h
  refine J_iload_n (pc' := 1) (i := 1) (n := 1) dX9_obey_0 rfl rfl rfl ?_
  refine J_iconst (pc' := 2) (v := (0 : Int32)) dX9_obey_1 rfl ic_0 ?_
  refine J_iconst (pc' := 3) (v := (1 : Int32)) dX9_obey_2 rfl ic_1 ?_
  obtain ⟨v1, e2, h⟩ := tl_inv h
  refine J_callS (pc' := 6) (as := [.int x1, .int (0 : Int32), .int (1 : Int32)]) (rest := []) dX9_obey_3 rfl lk_X9_92 rfl (c_X9_within e2) ⟨Nat.le_of_ble_eq_true rfl, Nat.le_of_ble_eq_true rfl⟩ (Nat.le_of_ble_eq_true rfl) ⟨Nat.le_of_ble_eq_true rfl, Nat.le_of_ble_eq_true rfl⟩ (j_kq ?_)
  refine J_if_ne (pc' := 9) (tgt := 14) dX9_obey_6 rfl (by decide) (fun c3 => ?_) (fun c3 => ?_)
  · replace h := j_iq c3 h
    refine J_iconst (pc' := 15) (v := (0 : Int32)) dX9_obey_14 rfl ic_0 ?_
    refine J_istore_n (pc' := 16) (i := 2) (lv' := [(2, .int (0 : Int32)), (0, .ref 0), (1, .int x1)]) dX9_obey_15 rfl rfl (by decide) rfl ?_
    refine J_iconst (pc' := 17) (v := (0 : Int32)) dX9_obey_16 rfl ic_0 ?_
    refine J_istore_n (pc' := 18) (i := 3) (lv' := [(3, .int (0 : Int32)), (2, .int (0 : Int32)), (0, .ref 0), (1, .int x1)]) dX9_obey_17 rfl rfl (by decide) rfl ?_
    refine J_sub [2, 3, 1, 0] (lv' := [(0, .ref 0), (1, .int x1), (2, .int (0 : Int32)), (3, .int (0 : Int32))]) rfl ?_
    refine L_X9_obey_L18 j_fu hs h (fun y20 y21 h => ?_)
    refine J_iload_n (pc' := 92) (i := 2) (n := 0) dX9_obey_91 rfl rfl rfl ?_
    exact J_iret rfl dX9_obey_92 ⟨rfl, Nat.le_refl _⟩ (j_pW h)
  · replace h := j_ip c3 h
    refine J_aload_n (pc' := 10) (i := 0) (n := 0) dX9_obey_9 rfl rfl rfl ?_
    obtain ⟨q22, e23, h⟩ := bi_inv h
    obtain ⟨c24, h⟩ := j_ck_inv h
    refine J_callV (pc' := 13) (as := []) (rest := []) dX9_obey_10 rfl lk_X9_96 rfl 9 (by decide) rfl (x_o hs) (x_n hs (Nat.le_of_ble_eq_true rfl)) (c_X9_bad hs e23) ⟨Nat.le_of_ble_eq_true rfl, Nat.le_of_ble_eq_true rfl⟩ (Nat.le_of_ble_eq_true rfl) ⟨Nat.le_of_ble_eq_true rfl, Nat.le_of_ble_eq_true rfl⟩ (j_kq ?_)
    have g25 : sh_x q22.2.2.2 := j_shE c24 hs
    exact J_iret rfl dX9_obey_13 ⟨rfl, Nat.le_refl _⟩ (j_pW h)
abbrev JT_X9_badAsTen (l : Launch) (G : j_G) (r : (Int32 × j_M)) : Nat → List (Nat × Value) → List Value → j_M → Prop := JJ l G md_X9_badAsTen (j_rm 2 (0, 0)) (0, 0) (0, 0) (po (some (.int r.1)) r.2)
noncomputable def f_X9_badAsTen (M : j_M)  : Option (Int32 × j_M) :=
  (f_X9_bad M).bind fun q1 => j_ck M q1.2 (some (((-10) : Int32), q1.2))
set_option maxHeartbeats 4000000 in
theorem c_X9_badAsTen {l : Launch} {G : j_G} {M : j_M}  (hs : sh_x M.2.2) {r : (Int32 × j_M)} (h : f_X9_badAsTen M  = some r) : j_Sp l G md_X9_badAsTen 2 (0, 0) [.ref 0] M (po (some (.int r.1)) r.2) := by
  refine j_Sp.of (by decide) (Nat.le_of_ble_eq_true rfl) ?_
  show JT_X9_badAsTen l G r 0 [(0, .ref 0)] [] M
  unfold f_X9_badAsTen at h
  refine J_aload_n (pc' := 1) (i := 0) (n := 0) dX9_badAsTen_0 rfl rfl rfl ?_
  obtain ⟨q1, e2, h⟩ := bi_inv h
  obtain ⟨c3, h⟩ := j_ck_inv h
  refine J_callV (pc' := 4) (as := []) (rest := []) dX9_badAsTen_1 rfl lk_X9_96 rfl 9 (by decide) rfl (x_o hs) (x_n hs (Nat.le_of_ble_eq_true rfl)) (c_X9_bad hs e2) ⟨Nat.le_of_ble_eq_true rfl, Nat.le_of_ble_eq_true rfl⟩ (Nat.le_of_ble_eq_true rfl) ⟨Nat.le_of_ble_eq_true rfl, Nat.le_of_ble_eq_true rfl⟩ (j_kq ?_)
  have g4 : sh_x q1.2.2.2 := j_shE c3 hs
  refine J_pop (pc' := 5) dX9_badAsTen_4 rfl rfl ?_
  refine J_bipush (pc' := 7) (v := ((-10) : Int32)) dX9_badAsTen_5 rfl bp_m10 ?_
  exact J_iret rfl dX9_badAsTen_7 ⟨rfl, Nat.le_refl _⟩ (j_pW h)
abbrev JT_X9_changeTillNobodyWould (l : Launch) (G : j_G) (r : (Int32 × j_M)) : Nat → List (Nat × Value) → List Value → j_M → Prop := JJ l G md_X9_changeTillNobodyWould (j_rm 8 (0, 0)) (0, 0) (0, 0) (po (some (.int r.1)) r.2)
noncomputable def f_X9_changeTillNobodyWould_L15 : Nat → Nat → j_M → Int32 → Int32 → Int32 → Int32 → Int32 → (Int32 → Int32 → Int32 → Int32 → j_M → Option (Int32 × j_M)) → Option (Int32 × j_M)
  | 0, _, _, _, _, _, _, _, _ => none
  | n + 1, a1, M, x2, x3, x4, x5, x6, K =>
    if x5 ≤ x6 then (K x2 x3 x4 x6 M) else (if (j_I M 17 9) ≤ x3 then (K x2 x3 x4 x6 M) else (if (60 : Int32) ≤ x2 then (K x2 x3 x4 x6 M) else ((f_X0_quickestLane M 17 a1 x4).bind fun q4 => j_ck M q4.2 (jn3 (fun (v10 : Int32) (v11 : Int32) (M12 : j_M) => (if (j_I M12 17 9) ≤ (x4 + (1 : Int32)) then (f_X9_changeTillNobodyWould_L15 n a1 M12 v10 v11 (0 : Int32) x5 (x6 + (1 : Int32)) K) else (f_X9_changeTillNobodyWould_L15 n a1 M12 v10 v11 (x4 + (1 : Int32)) x5 (x6 + (1 : Int32)) K))) (fun K13 => (if q4.1 = ((-1) : Int32) then (K13 x2 (x3 + (1 : Int32)) q4.2) else ((f_X0_takesIn q4.2 17 a1 x4 q4.1).bind fun v18 => (a_i q4.2 a1 22 ((1 : Int32) + x4) fun v20 => ((f_X0_takesIn q4.2 17 a1 x4 v20).bind fun v22 => (if v22 ≤ v18 then (K13 x2 (x3 + (1 : Int32)) q4.2) else (w_i q4.2 a1 22 ((1 : Int32) + x4) q4.1 fun M25 => (K13 (x2 + (1 : Int32)) (0 : Int32) M25))))))))))))
noncomputable def f_X9_changeTillNobodyWould (M : j_M) (a1 : Nat) : Option (Int32 × j_M) :=
  f_X9_changeTillNobodyWould_L15 j_fu a1 M (0 : Int32) (0 : Int32) (0 : Int32) (427 : Int32) (0 : Int32) (fun (y29 : Int32) (y30 : Int32) (y31 : Int32) (y32 : Int32) (M33 : j_M) => (some (y29, M33)))
set_option maxHeartbeats 4000000 in
theorem L_X9_changeTillNobodyWould_L15 {l : Launch} {G : j_G} {a1 : Nat} {r : (Int32 × j_M)} : ∀ (n : Nat) {x2 : Int32} {x3 : Int32} {x4 : Int32} {x5 : Int32} {x6 : Int32} {M : j_M} (hs : sh_x M.2.2) (ha1 : sh_a a1 22 M.2.2) {K : Int32 → Int32 → Int32 → Int32 → j_M → Option (Int32 × j_M)}, f_X9_changeTillNobodyWould_L15 n a1 M x2 x3 x4 x5 x6 K = some r → (∀ (y2 : Int32) (y3 : Int32) (y4 : Int32) (y6 : Int32) (M1 : j_M), sh_x M1.2.2 → sh_a a1 22 M1.2.2 → K y2 y3 y4 y6 M1 = some r → JT_X9_changeTillNobodyWould l G r 134 [(2, .int y2)] [] M1) → JT_X9_changeTillNobodyWould l G r 15 [(0, .ref 0), (1, .ref a1), (2, .int x2), (3, .int x3), (4, .int x4), (5, .int x5), (6, .int x6)] [] M := by
  intro n
  induction n with
  | zero =>
    intro x2 x3 x4 x5 x6 M hs ha1 K h hK
    rw [f_X9_changeTillNobodyWould_L15] at h; cases h
  | succ n ih =>
    intro x2 x3 x4 x5 x6 M hs ha1 K h hK
    rw [f_X9_changeTillNobodyWould_L15] at h
    refine J_iload (pc' := 17) (i := 6) (n := 6) dX9_changeTillNobodyWould_15 rfl rfl ?_
    refine J_iload (pc' := 19) (i := 5) (n := 5) dX9_changeTillNobodyWould_17 rfl rfl ?_
    refine J_icmp_ge (pc' := 22) (tgt := 134) dX9_changeTillNobodyWould_19 rfl (by decide) (fun c1 => ?_) (fun c1 => ?_)
    · replace h := j_ip c1 h
      refine J_sub [2] (lv' := [(2, .int x2)]) rfl ?_
      exact hK x2 x3 x4 x6 M hs ha1 h
    · replace h := j_iq c1 h
      refine J_iload_n (pc' := 23) (i := 3) (n := 3) dX9_changeTillNobodyWould_22 rfl rfl rfl ?_
      refine J_aload_n (pc' := 24) (i := 0) (n := 0) dX9_changeTillNobodyWould_23 rfl rfl rfl ?_
      refine J_getR (pc' := 27) (b := 17) dX9_changeTillNobodyWould_24 rfl fl_X9_75 rfl (x_o hs) (x_n hs (Nat.le_of_ble_eq_true rfl)) (x_r0 hs) ?_
      refine J_getI (pc' := 30) dX9_changeTillNobodyWould_27 rfl fl_X9_82 rfl (b_o (x_b17 hs)) (b_no (x_b17 hs)) ?_
      refine J_icmp_ge (pc' := 33) (tgt := 134) dX9_changeTillNobodyWould_30 rfl (by decide) (fun c2 => ?_) (fun c2 => ?_)
      · replace h := j_ip c2 h
        refine J_sub [2] (lv' := [(2, .int x2)]) rfl ?_
        exact hK x2 x3 x4 x6 M hs ha1 h
      · replace h := j_iq c2 h
        refine J_iload_n (pc' := 34) (i := 2) (n := 2) dX9_changeTillNobodyWould_33 rfl rfl rfl ?_
        refine J_bipush (pc' := 36) (v := (60 : Int32)) dX9_changeTillNobodyWould_34 rfl bp_60 ?_
        refine J_icmp_ge (pc' := 39) (tgt := 134) dX9_changeTillNobodyWould_36 rfl (by decide) (fun c3 => ?_) (fun c3 => ?_)
        · replace h := j_ip c3 h
          refine J_sub [2] (lv' := [(2, .int x2)]) rfl ?_
          exact hK x2 x3 x4 x6 M hs ha1 h
        · replace h := j_iq c3 h
          refine J_aload_n (pc' := 40) (i := 0) (n := 0) dX9_changeTillNobodyWould_39 rfl rfl rfl ?_
          refine J_getR (pc' := 43) (b := 17) dX9_changeTillNobodyWould_40 rfl fl_X9_75 rfl (x_o hs) (x_n hs (Nat.le_of_ble_eq_true rfl)) (x_r0 hs) ?_
          refine J_aload_n (pc' := 44) (i := 1) (n := 1) dX9_changeTillNobodyWould_43 rfl rfl rfl ?_
          refine J_iload (pc' := 46) (i := 4) (n := 4) dX9_changeTillNobodyWould_44 rfl rfl ?_
          obtain ⟨q4, e5, h⟩ := bi_inv h
          obtain ⟨c6, h⟩ := j_ck_inv h
          refine J_callVN (pc' := 49) (as := [.ref a1, .int x4]) (rest := []) dX9_changeTillNobodyWould_46 rfl lk_X9_197 rfl 0 (by decide) rfl (b_o (x_b17 hs)) (b_no (x_b17 hs)) (c_X0_quickestLane (x_b17 hs) ⟨(a_s ha1), (a_n ha1)⟩ e5) ⟨Nat.le_of_ble_eq_true rfl, Nat.le_of_ble_eq_true rfl⟩ (Nat.le_of_ble_eq_true rfl) ⟨Nat.le_of_ble_eq_true rfl, Nat.le_of_ble_eq_true rfl⟩ (j_kq ?_)
          have g7 : sh_x q4.2.2.2 := j_shE c6 hs
          have g8 : sh_a a1 22 q4.2.2.2 := j_shE c6 ha1
          refine J_istore (pc' := 51) (i := 7) (lv' := [(7, .int q4.1), (0, .ref 0), (1, .ref a1), (2, .int x2), (3, .int x3), (4, .int x4), (5, .int x5), (6, .int x6)]) dX9_changeTillNobodyWould_49 rfl (by decide) rfl ?_
          refine J_iinc (pc' := 54) (i := 3) (n := 4) (v := (x3 + (1 : Int32))) (lv' := [(3, .int (x3 + (1 : Int32))), (7, .int q4.1), (0, .ref 0), (1, .ref a1), (2, .int x2), (4, .int x4), (5, .int x5), (6, .int x6)]) dX9_changeTillNobodyWould_51 rfl rfl (j_inc _ _ rfl _) (by decide) rfl ?_
          refine J_iload (pc' := 56) (i := 7) (n := 1) dX9_changeTillNobodyWould_54 rfl rfl ?_
          refine J_iconst (pc' := 57) (v := ((-1) : Int32)) dX9_changeTillNobodyWould_56 rfl ic_m1 ?_
          refine J_join3 (C := fun (v10 : Int32) (v11 : Int32) (M12 : j_M) => sh_x M12.2.2 → sh_a a1 22 M12.2.2 → JT_X9_changeTillNobodyWould l G r 104 [(0, .ref 0), (1, .ref a1), (2, .int v10), (3, .int v11), (4, .int x4), (5, .int x5), (6, .int x6)] [] M12) h (fun v10 v11 M12 h => ?_) (fun K13 h14 h => ?_)
          · intro g15 g16
            refine J_iload (pc' := 106) (i := 4) (n := 4) dX9_changeTillNobodyWould_104 rfl rfl ?_
            refine J_iconst (pc' := 107) (v := (1 : Int32)) dX9_changeTillNobodyWould_106 rfl ic_1 ?_
            refine J_iadd (pc' := 108) dX9_changeTillNobodyWould_107 rfl ?_
            refine J_aload_n (pc' := 109) (i := 0) (n := 0) dX9_changeTillNobodyWould_108 rfl rfl rfl ?_
            refine J_getR (pc' := 112) (b := 17) dX9_changeTillNobodyWould_109 rfl fl_X9_75 rfl (x_o g15) (x_n g15 (Nat.le_of_ble_eq_true rfl)) (x_r0 g15) ?_
            refine J_getI (pc' := 115) dX9_changeTillNobodyWould_112 rfl fl_X9_82 rfl (b_o (x_b17 g15)) (b_no (x_b17 g15)) ?_
            refine J_icmp_ge (pc' := 118) (tgt := 125) dX9_changeTillNobodyWould_115 rfl (by decide) (fun c17 => ?_) (fun c17 => ?_)
            · replace h := j_ip c17 h
              refine J_iconst (pc' := 126) (v := (0 : Int32)) dX9_changeTillNobodyWould_125 rfl ic_0 ?_
              refine J_istore (pc' := 128) (i := 4) (lv' := [(4, .int (0 : Int32)), (0, .ref 0), (1, .ref a1), (2, .int v10), (3, .int v11), (5, .int x5), (6, .int x6)]) dX9_changeTillNobodyWould_126 rfl (by decide) rfl ?_
              refine J_iinc (pc' := 131) (i := 6) (n := 6) (v := (x6 + (1 : Int32))) (lv' := [(6, .int (x6 + (1 : Int32))), (4, .int (0 : Int32)), (0, .ref 0), (1, .ref a1), (2, .int v10), (3, .int v11), (5, .int x5)]) dX9_changeTillNobodyWould_128 rfl rfl (j_inc _ _ rfl _) (by decide) rfl ?_
              refine J_goto (pc' := 15) dX9_changeTillNobodyWould_131 (by decide) ?_
              refine J_sub [2, 3, 4, 5, 1, 6, 0] (lv' := [(0, .ref 0), (1, .ref a1), (2, .int v10), (3, .int v11), (4, .int (0 : Int32)), (5, .int x5), (6, .int (x6 + (1 : Int32)))]) rfl ?_
              exact ih g15 g16 h hK
            · replace h := j_iq c17 h
              refine J_iload (pc' := 120) (i := 4) (n := 4) dX9_changeTillNobodyWould_118 rfl rfl ?_
              refine J_iconst (pc' := 121) (v := (1 : Int32)) dX9_changeTillNobodyWould_120 rfl ic_1 ?_
              refine J_iadd (pc' := 122) dX9_changeTillNobodyWould_121 rfl ?_
              refine J_goto (pc' := 126) dX9_changeTillNobodyWould_122 (by decide) ?_
              refine J_istore (pc' := 128) (i := 4) (lv' := [(4, .int (x4 + (1 : Int32))), (0, .ref 0), (1, .ref a1), (2, .int v10), (3, .int v11), (5, .int x5), (6, .int x6)]) dX9_changeTillNobodyWould_126 rfl (by decide) rfl ?_
              refine J_iinc (pc' := 131) (i := 6) (n := 6) (v := (x6 + (1 : Int32))) (lv' := [(6, .int (x6 + (1 : Int32))), (4, .int (x4 + (1 : Int32))), (0, .ref 0), (1, .ref a1), (2, .int v10), (3, .int v11), (5, .int x5)]) dX9_changeTillNobodyWould_128 rfl rfl (j_inc _ _ rfl _) (by decide) rfl ?_
              refine J_goto (pc' := 15) dX9_changeTillNobodyWould_131 (by decide) ?_
              refine J_sub [2, 3, 4, 5, 1, 6, 0] (lv' := [(0, .ref 0), (1, .ref a1), (2, .int v10), (3, .int v11), (4, .int (x4 + (1 : Int32))), (5, .int x5), (6, .int (x6 + (1 : Int32)))]) rfl ?_
              exact ih g15 g16 h hK
          · refine J_icmp_eq (pc' := 60) (tgt := 104) dX9_changeTillNobodyWould_57 rfl (by decide) (fun c9 => ?_) (fun c9 => ?_)
            · replace h := j_ip c9 h
              refine J_sub [2, 3, 4, 0, 5, 6, 7] (lv' := [(0, .ref 0), (1, .ref a1), (2, .int x2), (3, .int (x3 + (1 : Int32))), (4, .int x4), (5, .int x5), (6, .int x6)]) rfl ?_
              exact h14 x2 (x3 + (1 : Int32)) q4.2 h g7 g8
            · replace h := j_iq c9 h
              refine J_aload_n (pc' := 61) (i := 0) (n := 2) dX9_changeTillNobodyWould_60 rfl rfl rfl ?_
              refine J_getR (pc' := 64) (b := 17) dX9_changeTillNobodyWould_61 rfl fl_X9_75 rfl (x_o g7) (x_n g7 (Nat.le_of_ble_eq_true rfl)) (x_r0 g7) ?_
              refine J_aload_n (pc' := 65) (i := 1) (n := 3) dX9_changeTillNobodyWould_64 rfl rfl rfl ?_
              refine J_iload (pc' := 67) (i := 4) (n := 5) dX9_changeTillNobodyWould_65 rfl rfl ?_
              refine J_iload (pc' := 69) (i := 7) (n := 1) dX9_changeTillNobodyWould_67 rfl rfl ?_
              obtain ⟨v18, e19, h⟩ := bi_inv h
              refine J_callVN (pc' := 72) (as := [.ref a1, .int x4, .int q4.1]) (rest := []) dX9_changeTillNobodyWould_69 rfl lk_X9_299 rfl 0 (by decide) rfl (b_o (x_b17 g7)) (b_no (x_b17 g7)) (c_X0_takesIn (x_b17 g7) ⟨(a_s g8), (a_n g8)⟩ e19) ⟨Nat.le_of_ble_eq_true rfl, Nat.le_of_ble_eq_true rfl⟩ (Nat.le_of_ble_eq_true rfl) ⟨Nat.le_of_ble_eq_true rfl, Nat.le_of_ble_eq_true rfl⟩ (j_kq ?_)
              refine J_aload_n (pc' := 73) (i := 0) (n := 2) dX9_changeTillNobodyWould_72 rfl rfl rfl ?_
              refine J_getR (pc' := 76) (b := 17) dX9_changeTillNobodyWould_73 rfl fl_X9_75 rfl (x_o g7) (x_n g7 (Nat.le_of_ble_eq_true rfl)) (x_r0 g7) ?_
              refine J_aload_n (pc' := 77) (i := 1) (n := 3) dX9_changeTillNobodyWould_76 rfl rfl rfl ?_
              refine J_iload (pc' := 79) (i := 4) (n := 5) dX9_changeTillNobodyWould_77 rfl rfl ?_
              refine J_aload_n (pc' := 80) (i := 1) (n := 3) dX9_changeTillNobodyWould_79 rfl rfl rfl ?_
              refine J_iconst (pc' := 81) (v := (1 : Int32)) dX9_changeTillNobodyWould_80 rfl ic_1 ?_
              refine J_iload (pc' := 83) (i := 4) (n := 5) dX9_changeTillNobodyWould_81 rfl rfl ?_
              refine J_iadd (pc' := 84) dX9_changeTillNobodyWould_83 rfl ?_
              obtain ⟨v20, e21, h⟩ := a_i_inv h
              refine J_ialde (pc' := 85) dX9_changeTillNobodyWould_84 rfl (a_s g8) (a_n g8) e21 ?_
              obtain ⟨v22, e23, h⟩ := bi_inv h
              refine J_callVN (pc' := 88) (as := [.ref a1, .int x4, .int v20]) (rest := [.int v18]) dX9_changeTillNobodyWould_85 rfl lk_X9_299 rfl 0 (by decide) rfl (b_o (x_b17 g7)) (b_no (x_b17 g7)) (c_X0_takesIn (x_b17 g7) ⟨(a_s g8), (a_n g8)⟩ e23) ⟨Nat.le_of_ble_eq_true rfl, Nat.le_of_ble_eq_true rfl⟩ (Nat.le_of_ble_eq_true rfl) ⟨Nat.le_of_ble_eq_true rfl, Nat.le_of_ble_eq_true rfl⟩ (j_kq ?_)
              refine J_icmp_ge (pc' := 91) (tgt := 104) dX9_changeTillNobodyWould_88 rfl (by decide) (fun c24 => ?_) (fun c24 => ?_)
              · replace h := j_ip c24 h
                refine J_sub [2, 3, 4, 0, 5, 6, 7] (lv' := [(0, .ref 0), (1, .ref a1), (2, .int x2), (3, .int (x3 + (1 : Int32))), (4, .int x4), (5, .int x5), (6, .int x6)]) rfl ?_
                exact h14 x2 (x3 + (1 : Int32)) q4.2 h g7 g8
              · replace h := j_iq c24 h
                refine J_aload_n (pc' := 92) (i := 1) (n := 3) dX9_changeTillNobodyWould_91 rfl rfl rfl ?_
                refine J_iconst (pc' := 93) (v := (1 : Int32)) dX9_changeTillNobodyWould_92 rfl ic_1 ?_
                refine J_iload (pc' := 95) (i := 4) (n := 5) dX9_changeTillNobodyWould_93 rfl rfl ?_
                refine J_iadd (pc' := 96) dX9_changeTillNobodyWould_95 rfl ?_
                refine J_iload (pc' := 98) (i := 7) (n := 1) dX9_changeTillNobodyWould_96 rfl rfl ?_
                obtain ⟨M25, e26, h⟩ := w_i_inv h
                have g27 : sh_x M25.2.2 := j_shI e26.2 g7
                have g28 : sh_a a1 22 M25.2.2 := j_shI e26.2 g8
                refine J_iaste (pc' := 99) dX9_changeTillNobodyWould_98 rfl (a_s g8) (a_n g8) e26 ?_
                refine J_iinc (pc' := 102) (i := 2) (n := 4) (v := (x2 + (1 : Int32))) (lv' := [(2, .int (x2 + (1 : Int32))), (3, .int (x3 + (1 : Int32))), (7, .int q4.1), (0, .ref 0), (1, .ref a1), (4, .int x4), (5, .int x5), (6, .int x6)]) dX9_changeTillNobodyWould_99 rfl rfl (j_inc _ _ rfl _) (by decide) rfl ?_
                refine J_iconst (pc' := 103) (v := (0 : Int32)) dX9_changeTillNobodyWould_102 rfl ic_0 ?_
                refine J_istore_n (pc' := 104) (i := 3) (lv' := [(3, .int (0 : Int32)), (2, .int (x2 + (1 : Int32))), (7, .int q4.1), (0, .ref 0), (1, .ref a1), (4, .int x4), (5, .int x5), (6, .int x6)]) dX9_changeTillNobodyWould_103 rfl rfl (by decide) rfl ?_
                refine J_sub [3, 4, 1, 0, 5, 6, 7] (lv' := [(0, .ref 0), (1, .ref a1), (2, .int (x2 + (1 : Int32))), (3, .int (0 : Int32)), (4, .int x4), (5, .int x5), (6, .int x6)]) rfl ?_
                exact h14 (x2 + (1 : Int32)) (0 : Int32) M25 h g27 g28
set_option maxHeartbeats 4000000 in
theorem c_X9_changeTillNobodyWould {l : Launch} {G : j_G} {M : j_M} {a1 : Nat} (hs : sh_x M.2.2) (ha1 : sh_a a1 22 M.2.2) {r : (Int32 × j_M)} (h : f_X9_changeTillNobodyWould M a1 = some r) : j_Sp l G md_X9_changeTillNobodyWould 8 (0, 0) [.ref 0, .ref a1] M (po (some (.int r.1)) r.2) := by
  refine j_Sp.of (by decide) (Nat.le_of_ble_eq_true rfl) ?_
  show JT_X9_changeTillNobodyWould l G r 0 [(0, .ref 0), (1, .ref a1)] [] M
  unfold f_X9_changeTillNobodyWould at h
  refine J_iconst (pc' := 1) (v := (0 : Int32)) dX9_changeTillNobodyWould_0 rfl ic_0 ?_
  refine J_istore_n (pc' := 2) (i := 2) (lv' := [(2, .int (0 : Int32)), (0, .ref 0), (1, .ref a1)]) dX9_changeTillNobodyWould_1 rfl rfl (by decide) rfl ?_
  refine J_iconst (pc' := 3) (v := (0 : Int32)) dX9_changeTillNobodyWould_2 rfl ic_0 ?_
  refine J_istore_n (pc' := 4) (i := 3) (lv' := [(3, .int (0 : Int32)), (2, .int (0 : Int32)), (0, .ref 0), (1, .ref a1)]) dX9_changeTillNobodyWould_3 rfl rfl (by decide) rfl ?_
  refine J_iconst (pc' := 5) (v := (0 : Int32)) dX9_changeTillNobodyWould_4 rfl ic_0 ?_
  refine J_istore (pc' := 7) (i := 4) (lv' := [(4, .int (0 : Int32)), (3, .int (0 : Int32)), (2, .int (0 : Int32)), (0, .ref 0), (1, .ref a1)]) dX9_changeTillNobodyWould_5 rfl (by decide) rfl ?_
  refine J_sipush (pc' := 10) (v := (427 : Int32)) dX9_changeTillNobodyWould_7 rfl sp_427 ?_
  refine J_istore (pc' := 12) (i := 5) (lv' := [(5, .int (427 : Int32)), (4, .int (0 : Int32)), (3, .int (0 : Int32)), (2, .int (0 : Int32)), (0, .ref 0), (1, .ref a1)]) dX9_changeTillNobodyWould_10 rfl (by decide) rfl ?_
  refine J_iconst (pc' := 13) (v := (0 : Int32)) dX9_changeTillNobodyWould_12 rfl ic_0 ?_
  refine J_istore (pc' := 15) (i := 6) (lv' := [(6, .int (0 : Int32)), (5, .int (427 : Int32)), (4, .int (0 : Int32)), (3, .int (0 : Int32)), (2, .int (0 : Int32)), (0, .ref 0), (1, .ref a1)]) dX9_changeTillNobodyWould_13 rfl (by decide) rfl ?_
  refine J_sub [5, 6, 4, 3, 2, 1, 0] (lv' := [(0, .ref 0), (1, .ref a1), (2, .int (0 : Int32)), (3, .int (0 : Int32)), (4, .int (0 : Int32)), (5, .int (427 : Int32)), (6, .int (0 : Int32))]) rfl ?_
  refine L_X9_changeTillNobodyWould_L15 j_fu hs ha1 h (fun y29 y30 y31 y32 M33 g34 g35 h => ?_)
  refine J_iload_n (pc' := 135) (i := 2) (n := 0) dX9_changeTillNobodyWould_134 rfl rfl rfl ?_
  exact J_iret rfl dX9_changeTillNobodyWould_135 ⟨rfl, Nat.le_refl _⟩ (j_pW h)
