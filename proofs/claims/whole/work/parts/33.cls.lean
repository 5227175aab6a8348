abbrev JT_X9_lowerBy (l : Launch) (G : j_G) (r : j_M) : Nat → List (Nat × Value) → List Value → j_M → Prop := JJ l G md_X9_lowerBy (j_rm 1 (0, 0)) (0, 0) (0, 0) (po none r)
noncomputable def f_X9_lowerBy (M : j_M) (x1 : Int32) : Option j_M :=
  if x1 ≤ 0 then (some M) else (r_l (j_L M 0 7) (x1).toInt64 fun v2 => (if (lg_cmp v2 (0 : Int64)) = 0 then (r_l (j_L M 0 8) (x1).toInt64 fun v5 => (if (lg_cmp v5 (0 : Int64)) = 0 then (d_l (j_L M 0 7) (x1).toInt64 fun v8 => (tl (j_sL M 0 7 v8) fun M10 => (d_l (j_L M10 0 8) (x1).toInt64 fun v13 => (tl (j_sL M10 0 8 v13) fun M15 => (some M15))))) else (some M))) else (some M)))
set_option maxHeartbeats 4000000 in
theorem c_X9_lowerBy {l : Launch} {G : j_G} {M : j_M} {x1 : Int32} (hs : sh_x M.2.2) {r : j_M} (h : f_X9_lowerBy M x1 = some r) : j_Sp l G md_X9_lowerBy 1 (0, 0) [.ref 0, .int x1] M (po none r) := by
  refine j_Sp.of (by decide) (Nat.le_of_ble_eq_true rfl) ?_
  show JT_X9_lowerBy l G r 0 [(0, .ref 0), (1, .int x1)] [] M
  unfold f_X9_lowerBy at h
  refine J_iload_n (pc' := 1) (i := 1) (n := 1) dX9_lowerBy_0 rfl rfl rfl ?_
  refine J_if_le (pc' := 4) (tgt := 50) dX9_lowerBy_1 rfl (by decide) (fun c1 => ?_) (fun c1 => ?_)
  · replace h := j_ip c1 h
    exact J_vret rfl dX9_lowerBy_50 ⟨rfl, Nat.le_refl _⟩ (j_pV h)
  · replace h := j_iq c1 h
    refine J_aload_n (pc' := 5) (i := 0) (n := 0) dX9_lowerBy_4 rfl rfl rfl ?_
    refine J_getL (pc' := 8) dX9_lowerBy_5 rfl fl_X9_37 rfl (x_o hs) (x_n hs (Nat.le_of_ble_eq_true rfl)) ?_
    refine J_iload_n (pc' := 9) (i := 1) (n := 1) dX9_lowerBy_8 rfl rfl rfl ?_
    refine J_i2l (pc' := 10) dX9_lowerBy_9 rfl ?_
    obtain ⟨v2, e3, h⟩ := r_l_inv h
    refine J_lreme (pc' := 11) dX9_lowerBy_10 rfl e3 ?_
    refine J_lconst (pc' := 12) (v := (0 : Int64)) dX9_lowerBy_11 rfl rfl ?_
    refine J_lcmp (pc' := 13) dX9_lowerBy_12 rfl ?_
    refine J_if_ne (pc' := 16) (tgt := 50) dX9_lowerBy_13 rfl (by decide) (fun c4 => ?_) (fun c4 => ?_)
    · replace h := j_iq c4 h
      exact J_vret rfl dX9_lowerBy_50 ⟨rfl, Nat.le_refl _⟩ (j_pV h)
    · replace h := j_ip c4 h
      refine J_aload_n (pc' := 17) (i := 0) (n := 0) dX9_lowerBy_16 rfl rfl rfl ?_
      refine J_getL (pc' := 20) dX9_lowerBy_17 rfl fl_X9_41 rfl (x_o hs) (x_n hs (Nat.le_of_ble_eq_true rfl)) ?_
      refine J_iload_n (pc' := 21) (i := 1) (n := 1) dX9_lowerBy_20 rfl rfl rfl ?_
      refine J_i2l (pc' := 22) dX9_lowerBy_21 rfl ?_
      obtain ⟨v5, e6, h⟩ := r_l_inv h
      refine J_lreme (pc' := 23) dX9_lowerBy_22 rfl e6 ?_
      refine J_lconst (pc' := 24) (v := (0 : Int64)) dX9_lowerBy_23 rfl rfl ?_
      refine J_lcmp (pc' := 25) dX9_lowerBy_24 rfl ?_
      refine J_if_ne (pc' := 28) (tgt := 50) dX9_lowerBy_25 rfl (by decide) (fun c7 => ?_) (fun c7 => ?_)
      · replace h := j_iq c7 h
        exact J_vret rfl dX9_lowerBy_50 ⟨rfl, Nat.le_refl _⟩ (j_pV h)
      · replace h := j_ip c7 h
        refine J_aload_n (pc' := 29) (i := 0) (n := 0) dX9_lowerBy_28 rfl rfl rfl ?_
        refine J_dup (pc' := 30) dX9_lowerBy_29 rfl rfl ?_
        refine J_getL (pc' := 33) dX9_lowerBy_30 rfl fl_X9_37 rfl (x_o hs) (x_n hs (Nat.le_of_ble_eq_true rfl)) ?_
        refine J_iload_n (pc' := 34) (i := 1) (n := 1) dX9_lowerBy_33 rfl rfl rfl ?_
        refine J_i2l (pc' := 35) dX9_lowerBy_34 rfl ?_
        obtain ⟨v8, e9, h⟩ := d_l_inv h
        refine J_ldive (pc' := 36) dX9_lowerBy_35 rfl e9 ?_
        obtain ⟨M10, e11, h⟩ := tl_inv h
        have g12 : sh_x M10.2.2 := j_shL e11 hs
        refine J_putLe (pc' := 39) dX9_lowerBy_36 rfl fl_X9_37 ⟨rfl, rfl, rfl⟩ (x_o hs) (x_n hs (Nat.le_of_ble_eq_true rfl)) e11 ?_
        refine J_aload_n (pc' := 40) (i := 0) (n := 0) dX9_lowerBy_39 rfl rfl rfl ?_
        refine J_dup (pc' := 41) dX9_lowerBy_40 rfl rfl ?_
        refine J_getL (pc' := 44) dX9_lowerBy_41 rfl fl_X9_41 rfl (x_o g12) (x_n g12 (Nat.le_of_ble_eq_true rfl)) ?_
        refine J_iload_n (pc' := 45) (i := 1) (n := 1) dX9_lowerBy_44 rfl rfl rfl ?_
        refine J_i2l (pc' := 46) dX9_lowerBy_45 rfl ?_
        obtain ⟨v13, e14, h⟩ := d_l_inv h
        refine J_ldive (pc' := 47) dX9_lowerBy_46 rfl e14 ?_
        obtain ⟨M15, e16, h⟩ := tl_inv h
        have g17 : sh_x M15.2.2 := j_shL e16 g12
        refine J_putLe (pc' := 50) dX9_lowerBy_47 rfl fl_X9_41 ⟨rfl, rfl, rfl⟩ (x_o g12) (x_n g12 (Nat.le_of_ble_eq_true rfl)) e16 ?_
        exact J_vret rfl dX9_lowerBy_50 ⟨rfl, Nat.le_refl _⟩ (j_pV h)
abbrev JT_X9_lowerTerms (l : Launch) (G : j_G) (r : j_M) : Nat → List (Nat × Value) → List Value → j_M → Prop := JJ l G md_X9_lowerTerms (j_rm 2 (0, 0)) (0, 0) (0, 0) (po none r)
noncomputable def f_X9_lowerTerms_L7 : Nat → j_M → Int32 → Int32 → (Int32 → j_M → Option j_M) → Option j_M
  | 0, _, _, _, _ => none
  | n + 1, M, x1, x2, K =>
    if x1 ≤ x2 then (K x2 M) else (tl (j_sL M 0 8 ((j_L M 0 8) * (10 : Int64))) fun M5 => (f_X9_lowerTerms_L7 n  M5 x1 (x2 + (1 : Int32)) K))
noncomputable def f_X9_lowerTerms_L32 : Nat → j_M → Int32 → Int32 → (Int32 → j_M → Option j_M) → Option j_M
  | 0, _, _, _, _ => none
  | n + 1, M, x1, x2, K =>
    if x1 ≤ x2 then (K x2 M) else ((f_X9_lowerBy M (2 : Int32)).bind fun q12 => j_ck M q12 ((f_X9_lowerBy q12 (5 : Int32)).bind fun q16 => j_ck q12 q16 (f_X9_lowerTerms_L32 n  q16 x1 (x2 + (1 : Int32)) K)))
noncomputable def f_X9_lowerTerms (M : j_M) (x1 : Int32) : Option j_M :=
  tl (j_sL M 0 8 (1 : Int64)) fun M1 => (f_X9_lowerTerms_L7 j_fu  M1 x1 (0 : Int32) (fun (y8 : Int32) (M9 : j_M) => (f_X9_lowerTerms_L32 j_fu  M9 x1 (0 : Int32) (fun (y20 : Int32) (M21 : j_M) => (some M21)))))
set_option maxHeartbeats 4000000 in
theorem L_X9_lowerTerms_L7 {l : Launch} {G : j_G}  {r : j_M} : ∀ (n : Nat) {x1 : Int32} {x2 : Int32} {M : j_M} (hs : sh_x M.2.2) {K : Int32 → j_M → Option j_M}, f_X9_lowerTerms_L7 n  M x1 x2 K = some r → (∀ (y2 : Int32) (M1 : j_M), sh_x M1.2.2 → K y2 M1 = some r → JT_X9_lowerTerms l G r 30 [(0, .ref 0), (1, .int x1)] [] M1) → JT_X9_lowerTerms l G r 7 [(0, .ref 0), (1, .int x1), (2, .int x2)] [] M := by
  intro n
  induction n with
  | zero =>
    intro x1 x2 M hs K h hK
    rw [f_X9_lowerTerms_L7] at h; cases h
  | succ n ih =>
    intro x1 x2 M hs K h hK
    rw [f_X9_lowerTerms_L7] at h
    refine J_iload_n (pc' := 8) (i := 2) (n := 2) dX9_lowerTerms_7 rfl rfl rfl ?_
    refine J_iload_n (pc' := 9) (i := 1) (n := 1) dX9_lowerTerms_8 rfl rfl rfl ?_
    refine J_icmp_ge (pc' := 12) (tgt := 30) dX9_lowerTerms_9 rfl (by decide) (fun c4 => ?_) (fun c4 => ?_)
    · replace h := j_ip c4 h
      refine J_sub [0, 1] (lv' := [(0, .ref 0), (1, .int x1)]) rfl ?_
      exact hK x2 M hs h
    · replace h := j_iq c4 h
      refine J_aload_n (pc' := 13) (i := 0) (n := 0) dX9_lowerTerms_12 rfl rfl rfl ?_
      refine J_dup (pc' := 14) dX9_lowerTerms_13 rfl rfl ?_
      refine J_getL (pc' := 17) dX9_lowerTerms_14 rfl fl_X9_41 rfl (x_o hs) (x_n hs (Nat.le_of_ble_eq_true rfl)) ?_
      refine J_ldc2 (pc' := 20) (v := (10 : Int64)) dX9_lowerTerms_17 rfl wd_828 ?_
      refine J_lmul (pc' := 21) dX9_lowerTerms_20 rfl ?_
      obtain ⟨M5, e6, h⟩ := tl_inv h
      have g7 : sh_x M5.2.2 := j_shL e6 hs
      refine J_putLe (pc' := 24) dX9_lowerTerms_21 rfl fl_X9_41 ⟨rfl, rfl, rfl⟩ (x_o hs) (x_n hs (Nat.le_of_ble_eq_true rfl)) e6 ?_
      refine J_iinc (pc' := 27) (i := 2) (n := 2) (v := (x2 + (1 : Int32))) (lv' := [(2, .int (x2 + (1 : Int32))), (0, .ref 0), (1, .int x1)]) dX9_lowerTerms_24 rfl rfl (j_inc _ _ rfl _) (by decide) rfl ?_
      refine J_goto (pc' := 7) dX9_lowerTerms_27 (by decide) ?_
      refine J_sub [1, 2, 0] (lv' := [(0, .ref 0), (1, .int x1), (2, .int (x2 + (1 : Int32)))]) rfl ?_
      exact ih g7 h hK
set_option maxHeartbeats 4000000 in
theorem L_X9_lowerTerms_L32 {l : Launch} {G : j_G}  {r : j_M} : ∀ (n : Nat) {x1 : Int32} {x2 : Int32} {M : j_M} (hs : sh_x M.2.2) {K : Int32 → j_M → Option j_M}, f_X9_lowerTerms_L32 n  M x1 x2 K = some r → (∀ (y2 : Int32) (M1 : j_M), sh_x M1.2.2 → K y2 M1 = some r → JT_X9_lowerTerms l G r 53 [] [] M1) → JT_X9_lowerTerms l G r 32 [(0, .ref 0), (1, .int x1), (2, .int x2)] [] M := by
  intro n
  induction n with
  | zero =>
    intro x1 x2 M hs K h hK
    rw [f_X9_lowerTerms_L32] at h; cases h
  | succ n ih =>
    intro x1 x2 M hs K h hK
    rw [f_X9_lowerTerms_L32] at h
    refine J_iload_n (pc' := 33) (i := 2) (n := 2) dX9_lowerTerms_32 rfl rfl rfl ?_
    refine J_iload_n (pc' := 34) (i := 1) (n := 1) dX9_lowerTerms_33 rfl rfl rfl ?_
    refine J_icmp_ge (pc' := 37) (tgt := 53) dX9_lowerTerms_34 rfl (by decide) (fun c11 => ?_) (fun c11 => ?_)
    · replace h := j_ip c11 h
      refine J_sub [] (lv' := []) rfl ?_
      exact hK x2 M hs h
    · replace h := j_iq c11 h
      refine J_aload_n (pc' := 38) (i := 0) (n := 0) dX9_lowerTerms_37 rfl rfl rfl ?_
      refine J_iconst (pc' := 39) (v := (2 : Int32)) dX9_lowerTerms_38 rfl ic_2 ?_
      obtain ⟨q12, e13, h⟩ := bi_inv h
      obtain ⟨c14, h⟩ := j_ck_inv h
      refine J_callV (pc' := 42) (as := [.int (2 : Int32)]) (rest := []) dX9_lowerTerms_39 rfl lk_X9_371 rfl 9 (by decide) rfl (x_o hs) (x_n hs (Nat.le_of_ble_eq_true rfl)) (c_X9_lowerBy hs e13) ⟨Nat.le_of_ble_eq_true rfl, Nat.le_of_ble_eq_true rfl⟩ (Nat.le_of_ble_eq_true rfl) ⟨Nat.le_of_ble_eq_true rfl, Nat.le_of_ble_eq_true rfl⟩ (j_kv ?_)
      have g15 : sh_x q12.2.2 := j_shE c14 hs
      refine J_aload_n (pc' := 43) (i := 0) (n := 0) dX9_lowerTerms_42 rfl rfl rfl ?_
      refine J_iconst (pc' := 44) (v := (5 : Int32)) dX9_lowerTerms_43 rfl ic_5 ?_
      obtain ⟨q16, e17, h⟩ := bi_inv h
      obtain ⟨c18, h⟩ := j_ck_inv h
      refine J_callV (pc' := 47) (as := [.int (5 : Int32)]) (rest := []) dX9_lowerTerms_44 rfl lk_X9_371 rfl 9 (by decide) rfl (x_o g15) (x_n g15 (Nat.le_of_ble_eq_true rfl)) (c_X9_lowerBy g15 e17) ⟨Nat.le_of_ble_eq_true rfl, Nat.le_of_ble_eq_true rfl⟩ (Nat.le_of_ble_eq_true rfl) ⟨Nat.le_of_ble_eq_true rfl, Nat.le_of_ble_eq_true rfl⟩ (j_kv ?_)
      have g19 : sh_x q16.2.2 := j_shE c18 g15
      refine J_iinc (pc' := 50) (i := 2) (n := 2) (v := (x2 + (1 : Int32))) (lv' := [(2, .int (x2 + (1 : Int32))), (0, .ref 0), (1, .int x1)]) dX9_lowerTerms_47 rfl rfl (j_inc _ _ rfl _) (by decide) rfl ?_
      refine J_goto (pc' := 32) dX9_lowerTerms_50 (by decide) ?_
      refine J_sub [1, 2, 0] (lv' := [(0, .ref 0), (1, .int x1), (2, .int (x2 + (1 : Int32)))]) rfl ?_
      exact ih g19 h hK
set_option maxHeartbeats 4000000 in
theorem c_X9_lowerTerms {l : Launch} {G : j_G} {M : j_M} {x1 : Int32} (hs : sh_x M.2.2) {r : j_M} (h : f_X9_lowerTerms M x1 = some r) : j_Sp l G md_X9_lowerTerms 2 (0, 0) [.ref 0, .int x1] M (po none r) := by
  refine j_Sp.of (by decide) (Nat.le_of_ble_eq_true rfl) ?_
  show JT_X9_lowerTerms l G r 0 [(0, .ref 0), (1, .int x1)] [] M
  unfold f_X9_lowerTerms at h
  refine J_aload_n (pc' := 1) (i := 0) (n := 0) dX9_lowerTerms_0 rfl rfl rfl ?_
  refine J_lconst (pc' := 2) (v := (1 : Int64)) dX9_lowerTerms_1 rfl rfl ?_
  obtain ⟨M1, e2, h⟩ := tl_inv h
  have g3 : sh_x M1.2.2 := j_shL e2 hs
  refine J_putLe (pc' := 5) dX9_lowerTerms_2 rfl fl_X9_41 ⟨rfl, rfl, rfl⟩ (x_o hs) (x_n hs (Nat.le_of_ble_eq_true rfl)) e2 ?_
  refine J_iconst (pc' := 6) (v := (0 : Int32)) dX9_lowerTerms_5 rfl ic_0 ?_
  refine J_istore_n (pc' := 7) (i := 2) (lv' := [(2, .int (0 : Int32)), (0, .ref 0), (1, .int x1)]) dX9_lowerTerms_6 rfl rfl (by decide) rfl ?_
  refine J_sub [1, 2, 0] (lv' := [(0, .ref 0), (1, .int x1), (2, .int (0 : Int32))]) rfl ?_
  refine L_X9_lowerTerms_L7 j_fu g3 h (fun y8 M9 g10 h => ?_)
  refine J_iconst (pc' := 31) (v := (0 : Int32)) dX9_lowerTerms_30 rfl ic_0 ?_
  refine J_istore_n (pc' := 32) (i := 2) (lv' := [(2, .int (0 : Int32)), (0, .ref 0), (1, .int x1)]) dX9_lowerTerms_31 rfl rfl (by decide) rfl ?_
  refine J_sub [1, 2, 0] (lv' := [(0, .ref 0), (1, .int x1), (2, .int (0 : Int32))]) rfl ?_
  refine L_X9_lowerTerms_L32 j_fu g10 h (fun y20 M21 g22 h => ?_)
  exact J_vret rfl dX9_lowerTerms_53 ⟨rfl, Nat.le_refl _⟩ (j_pV h)
abbrev JT_X9_counts (l : Launch) (G : j_G) (r : (Int32 × j_M)) : Nat → List (Nat × Value) → List Value → j_M → Prop := JJ l G md_X9_counts (j_rm 3 (0, 0)) (0, 0) (0, 0) (po (some (.int r.1)) r.2)
noncomputable def f_X9_counts_L49 : Nat → j_M → Int32 → Int32 → (Int32 → j_M → Option (Int32 × j_M)) → Option (Int32 × j_M)
  | 0, _, _, _, _ => none
  | n + 1, M, x1, x4, K =>
    if x1 < x4 then (K x4 M) else (a_l M 9 10 x4 fun v26 => (tl (j_sL M 0 7 ((j_L M 0 7) + v26)) fun M28 => (f_X9_counts_L49 n  M28 x1 (x4 + (1 : Int32)) K)))
noncomputable def f_X9_counts (M : j_M) (x1 : Int32) (x2 : Int32) (x3 : Int32) : Option (Int32 × j_M) :=
  tl (f_X9_within x1 (0 : Int32) (9 : Int32)) fun v1 => (if v1 = 0 then ((f_X9_bad M).bind fun q4 => j_ck M q4.2 (some (q4.1, q4.2))) else (tl (f_X9_within x2 (0 : Int32) (9 : Int32)) fun v8 => (if v8 = 0 then ((f_X9_bad M).bind fun q11 => j_ck M q11.2 (some (q11.1, q11.2))) else (tl (f_X9_within x3 (0 : Int32) (10 : Int32)) fun v15 => (if v15 = 0 then ((f_X9_bad M).bind fun q38 => j_ck M q38.2 (some (q38.1, q38.2))) else ((f_X9_countWays M x1 x3).bind fun q18 => j_ck M q18 (tl (j_sL q18 0 7 (0 : Int64)) fun M22 => (f_X9_counts_L49 j_fu  M22 x1 x2 (fun (y31 : Int32) (M32 : j_M) => ((f_X9_lowerTerms M32 x1).bind fun q34 => j_ck M32 q34 (some ((1 : Int32), q34))))))))))))
set_option maxHeartbeats 4000000 in
theorem L_X9_counts_L49 {l : Launch} {G : j_G}  {r : (Int32 × j_M)} : ∀ (n : Nat) {x1 : Int32} {x4 : Int32} {M : j_M} (hs : sh_x M.2.2) {K : Int32 → j_M → Option (Int32 × j_M)}, f_X9_counts_L49 n  M x1 x4 K = some r → (∀ (y4 : Int32) (M1 : j_M), sh_x M1.2.2 → K y4 M1 = some r → JT_X9_counts l G r 77 [(0, .ref 0), (1, .int x1)] [] M1) → JT_X9_counts l G r 49 [(0, .ref 0), (1, .int x1), (4, .int x4)] [] M := by
  intro n
  induction n with
  | zero =>
    intro x1 x4 M hs K h hK
    rw [f_X9_counts_L49] at h; cases h
  | succ n ih =>
    intro x1 x4 M hs K h hK
    rw [f_X9_counts_L49] at h
    refine J_iload (pc' := 51) (i := 4) (n := 2) dX9_counts_49 rfl rfl ?_
    refine J_iload_n (pc' := 52) (i := 1) (n := 1) dX9_counts_51 rfl rfl rfl ?_
    refine J_icmp_gt (pc' := 55) (tgt := 77) dX9_counts_52 rfl (by decide) (fun c25 => ?_) (fun c25 => ?_)
    · replace h := j_ip c25 h
      refine J_sub [0, 1] (lv' := [(0, .ref 0), (1, .int x1)]) rfl ?_
      exact hK x4 M hs h
    · replace h := j_iq c25 h
      refine J_aload_n (pc' := 56) (i := 0) (n := 0) dX9_counts_55 rfl rfl rfl ?_
      refine J_dup (pc' := 57) dX9_counts_56 rfl rfl ?_
      refine J_getL (pc' := 60) dX9_counts_57 rfl fl_X9_37 rfl (x_o hs) (x_n hs (Nat.le_of_ble_eq_true rfl)) ?_
      refine J_aload_n (pc' := 61) (i := 0) (n := 0) dX9_counts_60 rfl rfl rfl ?_
      refine J_getR (pc' := 64) (b := 9) dX9_counts_61 rfl fl_X9_33 rfl (x_o hs) (x_n hs (Nat.le_of_ble_eq_true rfl)) (x_r6 hs) ?_
      refine J_iload (pc' := 66) (i := 4) (n := 2) dX9_counts_64 rfl rfl ?_
      obtain ⟨v26, e27, h⟩ := a_l_inv h
      refine J_lalde (pc' := 67) dX9_counts_66 rfl (x_s9 hs) (x_n hs (Nat.le_of_ble_eq_true rfl)) e27 ?_
      refine J_ladd (pc' := 68) dX9_counts_67 rfl ?_
      obtain ⟨M28, e29, h⟩ := tl_inv h
      have g30 : sh_x M28.2.2 := j_shL e29 hs
      refine J_putLe (pc' := 71) dX9_counts_68 rfl fl_X9_37 ⟨rfl, rfl, rfl⟩ (x_o hs) (x_n hs (Nat.le_of_ble_eq_true rfl)) e29 ?_
      refine J_iinc (pc' := 74) (i := 4) (n := 2) (v := (x4 + (1 : Int32))) (lv' := [(4, .int (x4 + (1 : Int32))), (0, .ref 0), (1, .int x1)]) dX9_counts_71 rfl rfl (j_inc _ _ rfl _) (by decide) rfl ?_
      refine J_goto (pc' := 49) dX9_counts_74 (by decide) ?_
      refine J_sub [1, 2, 0] (lv' := [(0, .ref 0), (1, .int x1), (4, .int (x4 + (1 : Int32)))]) rfl ?_
      exact ih g30 h hK
set_option maxHeartbeats 4000000 in
theorem c_X9_counts {l : Launch} {G : j_G} {M : j_M} {x1 : Int32} {x2 : Int32} {x3 : Int32} (hs : sh_x M.2.2) {r : (Int32 × j_M)} (h : f_X9_counts M x1 x2 x3 = some r) : j_Sp l G md_X9_counts 3 (0, 0) [.ref 0, .int x1, .int x2, .int x3] M (po (some (.int r.1)) r.2) := by
  refine j_Sp.of (by decide) (Nat.le_of_ble_eq_true rfl) ?_
  show JT_X9_counts l G r 0 [(0, .ref 0), (1, .int x1), (2, .int x2), (3, .int x3)] [] M
  unfold f_X9_counts at h
  refine J_iload_n (pc' := 1) (i := 1) (n := 1) dX9_counts_0 rfl rfl rfl ?_
  refine J_iconst (pc' := 2) (v := (0 : Int32)) dX9_counts_1 rfl ic_0 ?_
  refine J_bipush (pc' := 4) (v := (9 : Int32)) dX9_counts_2 rfl bp_9 ?_
  obtain ⟨v1, e2, h⟩ := tl_inv h
  refine J_callS (pc' := 7) (as := [.int x1, .int (0 : Int32), .int (9 : Int32)]) (rest := []) dX9_counts_4 rfl lk_X9_92 rfl (c_X9_within e2) ⟨Nat.le_of_ble_eq_true rfl, Nat.le_of_ble_eq_true rfl⟩ (Nat.le_of_ble_eq_true rfl) ⟨Nat.le_of_ble_eq_true rfl, Nat.le_of_ble_eq_true rfl⟩ (j_kq ?_)
  refine J_if_eq (pc' := 10) (tgt := 30) dX9_counts_7 rfl (by decide) (fun c3 => ?_) (fun c3 => ?_)
  · replace h := j_ip c3 h
    refine J_aload_n (pc' := 31) (i := 0) (n := 0) dX9_counts_30 rfl rfl rfl ?_
    obtain ⟨q4, e5, h⟩ := bi_inv h
    obtain ⟨c6, h⟩ := j_ck_inv h
    refine J_callV (pc' := 34) (as := []) (rest := []) dX9_counts_31 rfl lk_X9_96 rfl 9 (by decide) rfl (x_o hs) (x_n hs (Nat.le_of_ble_eq_true rfl)) (c_X9_bad hs e5) ⟨Nat.le_of_ble_eq_true rfl, Nat.le_of_ble_eq_true rfl⟩ (Nat.le_of_ble_eq_true rfl) ⟨Nat.le_of_ble_eq_true rfl, Nat.le_of_ble_eq_true rfl⟩ (j_kq ?_)
    have g7 : sh_x q4.2.2.2 := j_shE c6 hs
    exact J_iret rfl dX9_counts_34 ⟨rfl, Nat.le_refl _⟩ (j_pW h)
  · replace h := j_iq c3 h
    refine J_iload_n (pc' := 11) (i := 2) (n := 2) dX9_counts_10 rfl rfl rfl ?_
    refine J_iconst (pc' := 12) (v := (0 : Int32)) dX9_counts_11 rfl ic_0 ?_
    refine J_bipush (pc' := 14) (v := (9 : Int32)) dX9_counts_12 rfl bp_9 ?_
    obtain ⟨v8, e9, h⟩ := tl_inv h
    refine J_callS (pc' := 17) (as := [.int x2, .int (0 : Int32), .int (9 : Int32)]) (rest := []) dX9_counts_14 rfl lk_X9_92 rfl (c_X9_within e9) ⟨Nat.le_of_ble_eq_true rfl, Nat.le_of_ble_eq_true rfl⟩ (Nat.le_of_ble_eq_true rfl) ⟨Nat.le_of_ble_eq_true rfl, Nat.le_of_ble_eq_true rfl⟩ (j_kq ?_)
    refine J_if_eq (pc' := 20) (tgt := 30) dX9_counts_17 rfl (by decide) (fun c10 => ?_) (fun c10 => ?_)
    · replace h := j_ip c10 h
      refine J_aload_n (pc' := 31) (i := 0) (n := 0) dX9_counts_30 rfl rfl rfl ?_
      obtain ⟨q11, e12, h⟩ := bi_inv h
      obtain ⟨c13, h⟩ := j_ck_inv h
      refine J_callV (pc' := 34) (as := []) (rest := []) dX9_counts_31 rfl lk_X9_96 rfl 9 (by decide) rfl (x_o hs) (x_n hs (Nat.le_of_ble_eq_true rfl)) (c_X9_bad hs e12) ⟨Nat.le_of_ble_eq_true rfl, Nat.le_of_ble_eq_true rfl⟩ (Nat.le_of_ble_eq_true rfl) ⟨Nat.le_of_ble_eq_true rfl, Nat.le_of_ble_eq_true rfl⟩ (j_kq ?_)
      have g14 : sh_x q11.2.2.2 := j_shE c13 hs
      exact J_iret rfl dX9_counts_34 ⟨rfl, Nat.le_refl _⟩ (j_pW h)
    · replace h := j_iq c10 h
      refine J_iload_n (pc' := 21) (i := 3) (n := 3) dX9_counts_20 rfl rfl rfl ?_
      refine J_iconst (pc' := 22) (v := (0 : Int32)) dX9_counts_21 rfl ic_0 ?_
      refine J_bipush (pc' := 24) (v := (10 : Int32)) dX9_counts_22 rfl bp_10 ?_
      obtain ⟨v15, e16, h⟩ := tl_inv h
      refine J_callS (pc' := 27) (as := [.int x3, .int (0 : Int32), .int (10 : Int32)]) (rest := []) dX9_counts_24 rfl lk_X9_92 rfl (c_X9_within e16) ⟨Nat.le_of_ble_eq_true rfl, Nat.le_of_ble_eq_true rfl⟩ (Nat.le_of_ble_eq_true rfl) ⟨Nat.le_of_ble_eq_true rfl, Nat.le_of_ble_eq_true rfl⟩ (j_kq ?_)
      refine J_if_ne (pc' := 30) (tgt := 35) dX9_counts_27 rfl (by decide) (fun c17 => ?_) (fun c17 => ?_)
      · replace h := j_iq c17 h
        refine J_aload_n (pc' := 36) (i := 0) (n := 0) dX9_counts_35 rfl rfl rfl ?_
        refine J_iload_n (pc' := 37) (i := 1) (n := 1) dX9_counts_36 rfl rfl rfl ?_
        refine J_iload_n (pc' := 38) (i := 3) (n := 3) dX9_counts_37 rfl rfl rfl ?_
        obtain ⟨q18, e19, h⟩ := bi_inv h
        obtain ⟨c20, h⟩ := j_ck_inv h
        refine J_callV (pc' := 41) (as := [.int x1, .int x3]) (rest := []) dX9_counts_38 rfl lk_X9_262 rfl 9 (by decide) rfl (x_o hs) (x_n hs (Nat.le_of_ble_eq_true rfl)) (c_X9_countWays hs e19) ⟨Nat.le_of_ble_eq_true rfl, Nat.le_of_ble_eq_true rfl⟩ (Nat.le_of_ble_eq_true rfl) ⟨Nat.le_of_ble_eq_true rfl, Nat.le_of_ble_eq_true rfl⟩ (j_kv ?_)
        have g21 : sh_x q18.2.2 := j_shE c20 hs
        refine J_aload_n (pc' := 42) (i := 0) (n := 0) dX9_counts_41 rfl rfl rfl ?_
        refine J_lconst (pc' := 43) (v := (0 : Int64)) dX9_counts_42 rfl rfl ?_
        obtain ⟨M22, e23, h⟩ := tl_inv h
        have g24 : sh_x M22.2.2 := j_shL e23 g21
        refine J_putLe (pc' := 46) dX9_counts_43 rfl fl_X9_37 ⟨rfl, rfl, rfl⟩ (x_o g21) (x_n g21 (Nat.le_of_ble_eq_true rfl)) e23 ?_
        refine J_iload_n (pc' := 47) (i := 2) (n := 2) dX9_counts_46 rfl rfl rfl ?_
        refine J_istore (pc' := 49) (i := 4) (lv' := [(4, .int x2), (0, .ref 0), (1, .int x1), (2, .int x2), (3, .int x3)]) dX9_counts_47 rfl (by decide) rfl ?_
        refine J_sub [1, 2, 0] (lv' := [(0, .ref 0), (1, .int x1), (4, .int x2)]) rfl ?_
        refine L_X9_counts_L49 j_fu g24 h (fun y31 M32 g33 h => ?_)
        refine J_aload_n (pc' := 78) (i := 0) (n := 0) dX9_counts_77 rfl rfl rfl ?_
        refine J_iload_n (pc' := 79) (i := 1) (n := 1) dX9_counts_78 rfl rfl rfl ?_
        obtain ⟨q34, e35, h⟩ := bi_inv h
        obtain ⟨c36, h⟩ := j_ck_inv h
        refine J_callV (pc' := 82) (as := [.int x1]) (rest := []) dX9_counts_79 rfl lk_X9_266 rfl 9 (by decide) rfl (x_o g33) (x_n g33 (Nat.le_of_ble_eq_true rfl)) (c_X9_lowerTerms g33 e35) ⟨Nat.le_of_ble_eq_true rfl, Nat.le_of_ble_eq_true rfl⟩ (Nat.le_of_ble_eq_true rfl) ⟨Nat.le_of_ble_eq_true rfl, Nat.le_of_ble_eq_true rfl⟩ (j_kv ?_)
        have g37 : sh_x q34.2.2 := j_shE c36 g33
        refine J_iconst (pc' := 83) (v := (1 : Int32)) dX9_counts_82 rfl ic_1 ?_
        exact J_iret rfl dX9_counts_83 ⟨rfl, Nat.le_refl _⟩ (j_pW h)
      · replace h := j_ip c17 h
        refine J_aload_n (pc' := 31) (i := 0) (n := 0) dX9_counts_30 rfl rfl rfl ?_
        obtain ⟨q38, e39, h⟩ := bi_inv h
        obtain ⟨c40, h⟩ := j_ck_inv h
        refine J_callV (pc' := 34) (as := []) (rest := []) dX9_counts_31 rfl lk_X9_96 rfl 9 (by decide) rfl (x_o hs) (x_n hs (Nat.le_of_ble_eq_true rfl)) (c_X9_bad hs e39) ⟨Nat.le_of_ble_eq_true rfl, Nat.le_of_ble_eq_true rfl⟩ (Nat.le_of_ble_eq_true rfl) ⟨Nat.le_of_ble_eq_true rfl, Nat.le_of_ble_eq_true rfl⟩ (j_kq ?_)
        have g41 : sh_x q38.2.2.2 := j_shE c40 hs
        exact J_iret rfl dX9_counts_34 ⟨rfl, Nat.le_refl _⟩ (j_pW h)
abbrev JT_X9_afterwards (l : Launch) (G : j_G) (M : j_M) (r : Int64) : Nat → List (Nat × Value) → List Value → j_M → Prop := JJ l G md_X9_afterwards (j_rm 1 (0, 0)) (0, 0) (0, 0) (po (some (.long r)) M)
def f_X9_afterwards (x0 : Int64) : Int64 :=
  (((x0 * (1103515245 : Int64)) + (12345 : Int64)) - ((x0 * (1103515245 : Int64)) + (12345 : Int64)) / (2147483648 : Int64) * (2147483648 : Int64))
set_option maxHeartbeats 4000000 in
theorem c_X9_afterwards {l : Launch} {G : j_G} {M : j_M} {x0 : Int64}  {r : Int64} (h : f_X9_afterwards x0 = r) : j_Sp l G md_X9_afterwards 1 (0, 0) [.long x0] M (po (some (.long r)) M) := by
  refine j_Sp.of (by decide) (Nat.le_of_ble_eq_true rfl) ?_
  show JT_X9_afterwards l G M r 0 [(0, .long x0)] [] M
  unfold f_X9_afterwards at h
  refine J_lload_n (pc' := 1) (i := 0) (n := 0) dX9_afterwards_0 rfl rfl rfl ?_
  refine J_ldc2 (pc' := 4) (v := (1103515245 : Int64)) dX9_afterwards_1 rfl wd_841 ?_
  refine J_lmul (pc' := 5) dX9_afterwards_4 rfl ?_
  refine J_ldc2 (pc' := 8) (v := (12345 : Int64)) dX9_afterwards_5 rfl wd_842 ?_
  refine J_ladd (pc' := 9) dX9_afterwards_8 rfl ?_
  refine J_ldc2 (pc' := 12) (v := (2147483648 : Int64)) dX9_afterwards_9 rfl wd_843 ?_
  refine J_lrem (pc' := 13) dX9_afterwards_12 rfl (by decide) ?_
  exact J_lret rfl dX9_afterwards_13 ⟨rfl, Nat.le_refl _⟩ (j_pL h)
abbrev JT_X9_mornings (l : Launch) (G : j_G) (r : (Int32 × j_M)) : Nat → List (Nat × Value) → List Value → j_M → Prop := JJ l G md_X9_mornings (j_rm 9 (0, 0)) (0, 0) (0, 0) (po (some (.int r.1)) r.2)
noncomputable def f_X9_mornings_L68 : Nat → j_M → Int32 → Int64 → Int32 → Int32 → (Int64 → Int32 → Int32 → j_M → Option (Int32 × j_M)) → Option (Int32 × j_M)
  | 0, _, _, _, _, _, _ => none
  | n + 1, M, x2, x3, x5, x6, K =>
    if x2 ≤ x6 then (K x3 x5 x6 M) else (tl (f_X9_afterwards x3) fun v16 => (r_l (v16 / (65536 : Int64)) ((j_I M 17 9)).toInt64 fun v18 => (tl (f_X9_afterwards v16) fun v20 => ((f_X0_isOpen M 17 (((v20 / (65536 : Int64)) - (v20 / (65536 : Int64)) / (4 : Int64) * (4 : Int64))).toInt32).bind fun v22 => (jn (fun (M25 : j_M) => ((f_X0_minuteGoesBy M25 17 2).bind fun q29 => j_ck M25 q29.2 (f_X9_mornings_L68 n  q29.2 x2 v20 (x5 + q29.1) (x6 + (1 : Int32)) K))) (fun K26 => (if v22 = 0 then (K26 M) else (w_i M 2 22 ((1 : Int32) + (v18).toInt32) (((v20 / (65536 : Int64)) - (v20 / (65536 : Int64)) / (4 : Int64) * (4 : Int64))).toInt32 fun M33 => (K26 M33)))))))))
noncomputable def f_X9_mornings (M : j_M) (x1 : Int32) (x2 : Int32) : Option (Int32 × j_M) :=
  tl (f_X9_within x1 (0 : Int32) (999999 : Int32)) fun v1 => (if v1 = 0 then ((f_X9_bad M).bind fun q4 => j_ck M q4.2 (some (q4.1, q4.2))) else (tl (f_X9_within x2 (0 : Int32) (60 : Int32)) fun v8 => (if v8 = 0 then ((f_X9_bad M).bind fun q45 => j_ck M q45.2 (some (q45.1, q45.2))) else (if 0 < (j_I M 17 9) then (c_i M (17 + 5) 22 (0 : Int32) 2 22 (0 : Int32) (22 : Int32) fun M12 => (f_X9_mornings_L68 j_fu  M12 x2 (x1).toInt64 (0 : Int32) (0 : Int32) (fun (y36 : Int64) (y37 : Int32) (y38 : Int32) (M39 : j_M) => (some (y37, M39))))) else ((f_X9_no M).bind fun q41 => j_ck M q41.2 (some (q41.1, q41.2)))))))
set_option maxHeartbeats 4000000 in
theorem L_X9_mornings_L68 {l : Launch} {G : j_G}  {r : (Int32 × j_M)} : ∀ (n : Nat) {x2 : Int32} {x3 : Int64} {x5 : Int32} {x6 : Int32} {M : j_M} (hs : sh_x M.2.2) {K : Int64 → Int32 → Int32 → j_M → Option (Int32 × j_M)}, f_X9_mornings_L68 n  M x2 x3 x5 x6 K = some r → (∀ (y3 : Int64) (y5 : Int32) (y6 : Int32) (M1 : j_M), sh_x M1.2.2 → K y3 y5 y6 M1 = some r → JT_X9_mornings l G r 158 [(5, .int y5)] [] M1) → JT_X9_mornings l G r 68 [(0, .ref 0), (2, .int x2), (3, .long x3), (5, .int x5), (6, .int x6)] [] M := by
  intro n
  induction n with
  | zero =>
    intro x2 x3 x5 x6 M hs K h hK
    rw [f_X9_mornings_L68] at h; cases h
  | succ n ih =>
    intro x2 x3 x5 x6 M hs K h hK
    rw [f_X9_mornings_L68] at h
    refine J_iload (pc' := 70) (i := 6) (n := 4) dX9_mornings_68 rfl rfl ?_
    refine J_iload_n (pc' := 71) (i := 2) (n := 1) dX9_mornings_70 rfl rfl rfl ?_
    refine J_icmp_ge (pc' := 74) (tgt := 158) dX9_mornings_71 rfl (by decide) (fun c15 => ?_) (fun c15 => ?_)
    · replace h := j_ip c15 h
      refine J_sub [3] (lv' := [(5, .int x5)]) rfl ?_
      exact hK x3 x5 x6 M hs h
    · replace h := j_iq c15 h
      refine J_lload_n (pc' := 75) (i := 3) (n := 2) dX9_mornings_74 rfl rfl rfl ?_
      obtain ⟨v16, e17, h⟩ := tl_inv h
      refine J_callS (pc' := 78) (as := [.long x3]) (rest := []) dX9_mornings_75 rfl lk_X9_271 rfl (c_X9_afterwards e17) ⟨Nat.le_of_ble_eq_true rfl, Nat.le_of_ble_eq_true rfl⟩ (Nat.le_of_ble_eq_true rfl) ⟨Nat.le_of_ble_eq_true rfl, Nat.le_of_ble_eq_true rfl⟩ (j_kq ?_)
      refine J_lstore_n (pc' := 79) (i := 3) (lv' := [(3, .long v16), (0, .ref 0), (2, .int x2), (5, .int x5), (6, .int x6)]) dX9_mornings_78 rfl rfl (by decide) rfl ?_
      refine J_lload_n (pc' := 80) (i := 3) (n := 0) dX9_mornings_79 rfl rfl rfl ?_
      refine J_ldc2 (pc' := 83) (v := (65536 : Int64)) dX9_mornings_80 rfl wd_844 ?_
      refine J_ldiv (pc' := 84) dX9_mornings_83 rfl (by decide) ?_
      refine J_aload_n (pc' := 85) (i := 0) (n := 1) dX9_mornings_84 rfl rfl rfl ?_
      refine J_getR (pc' := 88) (b := 17) dX9_mornings_85 rfl fl_X9_75 rfl (x_o hs) (x_n hs (Nat.le_of_ble_eq_true rfl)) (x_r0 hs) ?_
      refine J_getI (pc' := 91) dX9_mornings_88 rfl fl_X9_82 rfl (b_o (x_b17 hs)) (b_no (x_b17 hs)) ?_
      refine J_i2l (pc' := 92) dX9_mornings_91 rfl ?_
      obtain ⟨v18, e19, h⟩ := r_l_inv h
      refine J_lreme (pc' := 93) dX9_mornings_92 rfl e19 ?_
      refine J_l2i (pc' := 94) dX9_mornings_93 rfl ?_
      refine J_istore (pc' := 96) (i := 7) (lv' := [(7, .int (v18).toInt32), (3, .long v16), (0, .ref 0), (2, .int x2), (5, .int x5), (6, .int x6)]) dX9_mornings_94 rfl (by decide) rfl ?_
      refine J_lload_n (pc' := 97) (i := 3) (n := 1) dX9_mornings_96 rfl rfl rfl ?_
      obtain ⟨v20, e21, h⟩ := tl_inv h
      refine J_callS (pc' := 100) (as := [.long v16]) (rest := []) dX9_mornings_97 rfl lk_X9_271 rfl (c_X9_afterwards e21) ⟨Nat.le_of_ble_eq_true rfl, Nat.le_of_ble_eq_true rfl⟩ (Nat.le_of_ble_eq_true rfl) ⟨Nat.le_of_ble_eq_true rfl, Nat.le_of_ble_eq_true rfl⟩ (j_kq ?_)
      refine J_lstore_n (pc' := 101) (i := 3) (lv' := [(3, .long v20), (7, .int (v18).toInt32), (0, .ref 0), (2, .int x2), (5, .int x5), (6, .int x6)]) dX9_mornings_100 rfl rfl (by decide) rfl ?_
      refine J_lload_n (pc' := 102) (i := 3) (n := 0) dX9_mornings_101 rfl rfl rfl ?_
      refine J_ldc2 (pc' := 105) (v := (65536 : Int64)) dX9_mornings_102 rfl wd_844 ?_
      refine J_ldiv (pc' := 106) dX9_mornings_105 rfl (by decide) ?_
      refine J_ldc2 (pc' := 109) (v := (4 : Int64)) dX9_mornings_106 rfl wd_845 ?_
      refine J_lrem (pc' := 110) dX9_mornings_109 rfl (by decide) ?_
      refine J_l2i (pc' := 111) dX9_mornings_110 rfl ?_
      refine J_istore (pc' := 113) (i := 8) (lv' := [(8, .int (((v20 / (65536 : Int64)) - (v20 / (65536 : Int64)) / (4 : Int64) * (4 : Int64))).toInt32), (3, .long v20), (7, .int (v18).toInt32), (0, .ref 0), (2, .int x2), (5, .int x5), (6, .int x6)]) dX9_mornings_111 rfl (by decide) rfl ?_
      refine J_aload_n (pc' := 114) (i := 0) (n := 3) dX9_mornings_113 rfl rfl rfl ?_
      refine J_getR (pc' := 117) (b := 17) dX9_mornings_114 rfl fl_X9_75 rfl (x_o hs) (x_n hs (Nat.le_of_ble_eq_true rfl)) (x_r0 hs) ?_
      refine J_iload (pc' := 119) (i := 8) (n := 0) dX9_mornings_117 rfl rfl ?_
      obtain ⟨v22, e23, h⟩ := bi_inv h
      refine J_callVN (pc' := 122) (as := [.int (((v20 / (65536 : Int64)) - (v20 / (65536 : Int64)) / (4 : Int64) * (4 : Int64))).toInt32]) (rest := []) dX9_mornings_119 rfl lk_X9_125 rfl 0 (by decide) rfl (b_o (x_b17 hs)) (b_no (x_b17 hs)) (c_X0_isOpen (x_b17 hs) e23) ⟨Nat.le_of_ble_eq_true rfl, Nat.le_of_ble_eq_true rfl⟩ (Nat.le_of_ble_eq_true rfl) ⟨Nat.le_of_ble_eq_true rfl, Nat.le_of_ble_eq_true rfl⟩ (j_kq ?_)
      refine J_join (C := fun (M25 : j_M) => sh_x M25.2.2 → JT_X9_mornings l G r 136 [(0, .ref 0), (2, .int x2), (3, .long v20), (5, .int x5), (6, .int x6)] [] M25) h (fun M25 h => ?_) (fun K26 h27 h => ?_)
      · intro g28
        refine J_iload (pc' := 138) (i := 5) (n := 3) dX9_mornings_136 rfl rfl ?_
        refine J_aload_n (pc' := 139) (i := 0) (n := 0) dX9_mornings_138 rfl rfl rfl ?_
        refine J_getR (pc' := 142) (b := 17) dX9_mornings_139 rfl fl_X9_75 rfl (x_o g28) (x_n g28 (Nat.le_of_ble_eq_true rfl)) (x_r0 g28) ?_
        refine J_aload_n (pc' := 143) (i := 0) (n := 0) dX9_mornings_142 rfl rfl rfl ?_
        refine J_getR (pc' := 146) (b := 2) dX9_mornings_143 rfl fl_X9_15 rfl (x_o g28) (x_n g28 (Nat.le_of_ble_eq_true rfl)) (x_r3 g28) ?_
        obtain ⟨q29, e30, h⟩ := bi_inv h
        obtain ⟨c31, h⟩ := j_ck_inv h
        refine J_callVN (pc' := 149) (as := [.ref 2]) (rest := [.int x5]) dX9_mornings_146 rfl lk_X9_162 rfl 0 (by decide) rfl (b_o (x_b17 g28)) (b_no (x_b17 g28)) (c_X0_minuteGoesBy (x_b17 g28) ⟨(x_s2 g28), (x_n g28 (Nat.le_of_ble_eq_true rfl))⟩ e30) ⟨Nat.le_of_ble_eq_true rfl, Nat.le_of_ble_eq_true rfl⟩ (Nat.le_of_ble_eq_true rfl) ⟨Nat.le_of_ble_eq_true rfl, Nat.le_of_ble_eq_true rfl⟩ (j_kq ?_)
        have g32 : sh_x q29.2.2.2 := j_shE c31 g28
        refine J_iadd (pc' := 150) dX9_mornings_149 rfl ?_
        refine J_istore (pc' := 152) (i := 5) (lv' := [(5, .int (x5 + q29.1)), (0, .ref 0), (2, .int x2), (3, .long v20), (6, .int x6)]) dX9_mornings_150 rfl (by decide) rfl ?_
        refine J_iinc (pc' := 155) (i := 6) (n := 4) (v := (x6 + (1 : Int32))) (lv' := [(6, .int (x6 + (1 : Int32))), (5, .int (x5 + q29.1)), (0, .ref 0), (2, .int x2), (3, .long v20)]) dX9_mornings_152 rfl rfl (j_inc _ _ rfl _) (by decide) rfl ?_
        refine J_goto (pc' := 68) dX9_mornings_155 (by decide) ?_
        refine J_sub [2, 3, 4, 1, 0] (lv' := [(0, .ref 0), (2, .int x2), (3, .long v20), (5, .int (x5 + q29.1)), (6, .int (x6 + (1 : Int32)))]) rfl ?_
        exact ih g32 h hK
      · refine J_if_eq (pc' := 125) (tgt := 136) dX9_mornings_122 rfl (by decide) (fun c24 => ?_) (fun c24 => ?_)
        · replace h := j_ip c24 h
          refine J_sub [3, 4, 1, 5, 6] (lv' := [(0, .ref 0), (2, .int x2), (3, .long v20), (5, .int x5), (6, .int x6)]) rfl ?_
          exact h27 M h hs
        · replace h := j_iq c24 h
          refine J_aload_n (pc' := 126) (i := 0) (n := 3) dX9_mornings_125 rfl rfl rfl ?_
          refine J_getR (pc' := 129) (b := 2) dX9_mornings_126 rfl fl_X9_15 rfl (x_o hs) (x_n hs (Nat.le_of_ble_eq_true rfl)) (x_r3 hs) ?_
          refine J_iconst (pc' := 130) (v := (1 : Int32)) dX9_mornings_129 rfl ic_1 ?_
          refine J_iload (pc' := 132) (i := 7) (n := 2) dX9_mornings_130 rfl rfl ?_
          refine J_iadd (pc' := 133) dX9_mornings_132 rfl ?_
          refine J_iload (pc' := 135) (i := 8) (n := 0) dX9_mornings_133 rfl rfl ?_
          obtain ⟨M33, e34, h⟩ := w_i_inv h
          have g35 : sh_x M33.2.2 := j_shI e34.2 hs
          refine J_iaste (pc' := 136) dX9_mornings_135 rfl (x_s2 hs) (x_n hs (Nat.le_of_ble_eq_true rfl)) e34 ?_
          refine J_sub [3, 4, 1, 5, 6] (lv' := [(0, .ref 0), (2, .int x2), (3, .long v20), (5, .int x5), (6, .int x6)]) rfl ?_
          exact h27 M33 h g35
set_option maxHeartbeats 4000000 in
theorem c_X9_mornings {l : Launch} {G : j_G} {M : j_M} {x1 : Int32} {x2 : Int32} (hs : sh_x M.2.2) {r : (Int32 × j_M)} (h : f_X9_mornings M x1 x2 = some r) : j_Sp l G md_X9_mornings 9 (0, 0) [.ref 0, .int x1, .int x2] M (po (some (.int r.1)) r.2) := by
  refine j_Sp.of (by decide) (Nat.le_of_ble_eq_true rfl) ?_
  show JT_X9_mornings l G r 0 [(0, .ref 0), (1, .int x1), (2, .int x2)] [] M
  unfold f_X9_mornings at h
  refine J_iload_n (pc' := 1) (i := 1) (n := 1) dX9_mornings_0 rfl rfl rfl ?_
  refine J_iconst (pc' := 2) (v := (0 : Int32)) dX9_mornings_1 rfl ic_0 ?_
  refine J_ldcw (pc' := 5) (v := (999999 : Int32)) dX9_mornings_2 rfl wd_837 ?_
  obtain ⟨v1, e2, h⟩ := tl_inv h
  refine J_callS (pc' := 8) (as := [.int x1, .int (0 : Int32), .int (999999 : Int32)]) (rest := []) dX9_mornings_5 rfl lk_X9_92 rfl (c_X9_within e2) ⟨Nat.le_of_ble_eq_true rfl, Nat.le_of_ble_eq_true rfl⟩ (Nat.le_of_ble_eq_true rfl) ⟨Nat.le_of_ble_eq_true rfl, Nat.le_of_ble_eq_true rfl⟩ (j_kq ?_)
  refine J_if_eq (pc' := 11) (tgt := 21) dX9_mornings_8 rfl (by decide) (fun c3 => ?_) (fun c3 => ?_)
  · replace h := j_ip c3 h
    refine J_aload_n (pc' := 22) (i := 0) (n := 0) dX9_mornings_21 rfl rfl rfl ?_
    obtain ⟨q4, e5, h⟩ := bi_inv h
    obtain ⟨c6, h⟩ := j_ck_inv h
    refine J_callV (pc' := 25) (as := []) (rest := []) dX9_mornings_22 rfl lk_X9_96 rfl 9 (by decide) rfl (x_o hs) (x_n hs (Nat.le_of_ble_eq_true rfl)) (c_X9_bad hs e5) ⟨Nat.le_of_ble_eq_true rfl, Nat.le_of_ble_eq_true rfl⟩ (Nat.le_of_ble_eq_true rfl) ⟨Nat.le_of_ble_eq_true rfl, Nat.le_of_ble_eq_true rfl⟩ (j_kq ?_)
    have g7 : sh_x q4.2.2.2 := j_shE c6 hs
    exact J_iret rfl dX9_mornings_25 ⟨rfl, Nat.le_refl _⟩ (j_pW h)
  · replace h := j_iq c3 h
    refine J_iload_n (pc' := 12) (i := 2) (n := 2) dX9_mornings_11 rfl rfl rfl ?_
    refine J_iconst (pc' := 13) (v := (0 : Int32)) dX9_mornings_12 rfl ic_0 ?_
    refine J_bipush (pc' := 15) (v := (60 : Int32)) dX9_mornings_13 rfl bp_60 ?_
    obtain ⟨v8, e9, h⟩ := tl_inv h
    refine J_callS (pc' := 18) (as := [.int x2, .int (0 : Int32), .int (60 : Int32)]) (rest := []) dX9_mornings_15 rfl lk_X9_92 rfl (c_X9_within e9) ⟨Nat.le_of_ble_eq_true rfl, Nat.le_of_ble_eq_true rfl⟩ (Nat.le_of_ble_eq_true rfl) ⟨Nat.le_of_ble_eq_true rfl, Nat.le_of_ble_eq_true rfl⟩ (j_kq ?_)
    refine J_if_ne (pc' := 21) (tgt := 26) dX9_mornings_18 rfl (by decide) (fun c10 => ?_) (fun c10 => ?_)
    · replace h := j_iq c10 h
      refine J_aload_n (pc' := 27) (i := 0) (n := 0) dX9_mornings_26 rfl rfl rfl ?_
      refine J_getR (pc' := 30) (b := 17) dX9_mornings_27 rfl fl_X9_75 rfl (x_o hs) (x_n hs (Nat.le_of_ble_eq_true rfl)) (x_r0 hs) ?_
      refine J_getI (pc' := 33) dX9_mornings_30 rfl fl_X9_82 rfl (b_o (x_b17 hs)) (b_no (x_b17 hs)) ?_
      refine J_if_gt (pc' := 36) (tgt := 41) dX9_mornings_33 rfl (by decide) (fun c11 => ?_) (fun c11 => ?_)
      · replace h := j_ip c11 h
        refine J_aload_n (pc' := 42) (i := 0) (n := 0) dX9_mornings_41 rfl rfl rfl ?_
        refine J_getR (pc' := 45) (b := 17) dX9_mornings_42 rfl fl_X9_75 rfl (x_o hs) (x_n hs (Nat.le_of_ble_eq_true rfl)) (x_r0 hs) ?_
        refine J_getR (pc' := 48) (b := (17 + 5)) dX9_mornings_45 rfl fl_X9_103 rfl (b_o (x_b17 hs)) (b_no (x_b17 hs)) (b_r5 (x_b17 hs)) ?_
        refine J_iconst (pc' := 49) (v := (0 : Int32)) dX9_mornings_48 rfl ic_0 ?_
        refine J_aload_n (pc' := 50) (i := 0) (n := 0) dX9_mornings_49 rfl rfl rfl ?_
        refine J_getR (pc' := 53) (b := 2) dX9_mornings_50 rfl fl_X9_15 rfl (x_o hs) (x_n hs (Nat.le_of_ble_eq_true rfl)) (x_r3 hs) ?_
        refine J_iconst (pc' := 54) (v := (0 : Int32)) dX9_mornings_53 rfl ic_0 ?_
        refine J_bipush (pc' := 56) (v := (22 : Int32)) dX9_mornings_54 rfl bp_22 ?_
        obtain ⟨M12, e13, h⟩ := c_i_inv h
        have g14 : sh_x M12.2.2 := j_shC e13.2 hs
        refine J_copye (pc' := 59) dX9_mornings_56 rfl lk_X9_223 (b_s5 (x_b17 hs)) (b_n (x_b17 hs) (Nat.le_of_ble_eq_true rfl)) (x_s2 hs) (x_n hs (Nat.le_of_ble_eq_true rfl)) ⟨Nat.le_of_ble_eq_true rfl, Nat.le_of_ble_eq_true rfl⟩ e13 ?_
        refine J_iload_n (pc' := 60) (i := 1) (n := 1) dX9_mornings_59 rfl rfl rfl ?_
        refine J_i2l (pc' := 61) dX9_mornings_60 rfl ?_
        refine J_lstore_n (pc' := 62) (i := 3) (lv' := [(3, .long (x1).toInt64), (0, .ref 0), (1, .int x1), (2, .int x2)]) dX9_mornings_61 rfl rfl (by decide) rfl ?_
        refine J_iconst (pc' := 63) (v := (0 : Int32)) dX9_mornings_62 rfl ic_0 ?_
        refine J_istore (pc' := 65) (i := 5) (lv' := [(5, .int (0 : Int32)), (3, .long (x1).toInt64), (0, .ref 0), (1, .int x1), (2, .int x2)]) dX9_mornings_63 rfl (by decide) rfl ?_
        refine J_iconst (pc' := 66) (v := (0 : Int32)) dX9_mornings_65 rfl ic_0 ?_
        refine J_istore (pc' := 68) (i := 6) (lv' := [(6, .int (0 : Int32)), (5, .int (0 : Int32)), (3, .long (x1).toInt64), (0, .ref 0), (1, .int x1), (2, .int x2)]) dX9_mornings_66 rfl (by decide) rfl ?_
        refine J_sub [3, 5, 2, 1, 0] (lv' := [(0, .ref 0), (2, .int x2), (3, .long (x1).toInt64), (5, .int (0 : Int32)), (6, .int (0 : Int32))]) rfl ?_
        refine L_X9_mornings_L68 j_fu g14 h (fun y36 y37 y38 M39 g40 h => ?_)
        refine J_iload (pc' := 160) (i := 5) (n := 0) dX9_mornings_158 rfl rfl ?_
        exact J_iret rfl dX9_mornings_160 ⟨rfl, Nat.le_refl _⟩ (j_pW h)
      · replace h := j_iq c11 h
        refine J_aload_n (pc' := 37) (i := 0) (n := 0) dX9_mornings_36 rfl rfl rfl ?_
        obtain ⟨q41, e42, h⟩ := bi_inv h
        obtain ⟨c43, h⟩ := j_ck_inv h
        refine J_callV (pc' := 40) (as := []) (rest := []) dX9_mornings_37 rfl lk_X9_110 rfl 9 (by decide) rfl (x_o hs) (x_n hs (Nat.le_of_ble_eq_true rfl)) (c_X9_no hs e42) ⟨Nat.le_of_ble_eq_true rfl, Nat.le_of_ble_eq_true rfl⟩ (Nat.le_of_ble_eq_true rfl) ⟨Nat.le_of_ble_eq_true rfl, Nat.le_of_ble_eq_true rfl⟩ (j_kq ?_)
        have g44 : sh_x q41.2.2.2 := j_shE c43 hs
        exact J_iret rfl dX9_mornings_40 ⟨rfl, Nat.le_refl _⟩ (j_pW h)
    · replace h := j_ip c10 h
      refine J_aload_n (pc' := 22) (i := 0) (n := 0) dX9_mornings_21 rfl rfl rfl ?_
      obtain ⟨q45, e46, h⟩ := bi_inv h
      obtain ⟨c47, h⟩ := j_ck_inv h
      refine J_callV (pc' := 25) (as := []) (rest := []) dX9_mornings_22 rfl lk_X9_96 rfl 9 (by decide) rfl (x_o hs) (x_n hs (Nat.le_of_ble_eq_true rfl)) (c_X9_bad hs e46) ⟨Nat.le_of_ble_eq_true rfl, Nat.le_of_ble_eq_true rfl⟩ (Nat.le_of_ble_eq_true rfl) ⟨Nat.le_of_ble_eq_true rfl, Nat.le_of_ble_eq_true rfl⟩ (j_kq ?_)
      have g48 : sh_x q45.2.2.2 := j_shE c47 hs
      exact J_iret rfl dX9_mornings_25 ⟨rfl, Nat.le_refl _⟩ (j_pW h)
abbrev JT_X9_part (l : Launch) (G : j_G) (r : (Int64 × j_M)) : Nat → List (Nat × Value) → List Value → j_M → Prop := JJ l G md_X9_part (j_rm 2 (0, 0)) (0, 0) (0, 0) (po (some (.long r.1)) r.2)
noncomputable def f_X9_part (M : j_M) (x1 : Int32) : Option (Int64 × j_M) :=
  if x1 = (0 : Int32) then (some ((j_L M 0 7), M)) else (if x1 = (1 : Int32) then (some ((j_L M 0 8), M)) else ((f_X9_bad M).bind fun q3 => j_ck M q3.2 (some ((q3.1).toInt64, q3.2))))
set_option maxHeartbeats 4000000 in
theorem c_X9_part {l : Launch} {G : j_G} {M : j_M} {x1 : Int32} (hs : sh_x M.2.2) {r : (Int64 × j_M)} (h : f_X9_part M x1 = some r) : j_Sp l G md_X9_part 2 (0, 0) [.ref 0, .int x1] M (po (some (.long r.1)) r.2) := by
  refine j_Sp.of (by decide) (Nat.le_of_ble_eq_true rfl) ?_
  show JT_X9_part l G r 0 [(0, .ref 0), (1, .int x1)] [] M
  unfold f_X9_part at h
  refine J_iload_n (pc' := 1) (i := 1) (n := 1) dX9_part_0 rfl rfl rfl ?_
  by_cases c1 : x1 = (0 : Int32)
  · replace h := j_ip c1 h
    refine J_lsw (off := 27) (tgt := 28) dX9_part_1 (by decide) (by rw [c1] <;> rfl) (by decide) ?_
    refine J_aload_n (pc' := 29) (i := 0) (n := 0) dX9_part_28 rfl rfl rfl ?_
    refine J_getL (pc' := 32) dX9_part_29 rfl fl_X9_37 rfl (x_o hs) (x_n hs (Nat.le_of_ble_eq_true rfl)) ?_
    exact J_lret rfl dX9_part_32 ⟨rfl, Nat.le_refl _⟩ (j_pX h)
  replace h := j_iq c1 h
  by_cases c2 : x1 = (1 : Int32)
  · replace h := j_ip c2 h
    refine J_lsw (off := 32) (tgt := 33) dX9_part_1 (by decide) (by rw [c2] <;> rfl) (by decide) ?_
    refine J_aload_n (pc' := 34) (i := 0) (n := 0) dX9_part_33 rfl rfl rfl ?_
    refine J_getL (pc' := 37) dX9_part_34 rfl fl_X9_41 rfl (x_o hs) (x_n hs (Nat.le_of_ble_eq_true rfl)) ?_
    exact J_lret rfl dX9_part_37 ⟨rfl, Nat.le_refl _⟩ (j_pX h)
  replace h := j_iq c2 h
  refine J_lsw (off := 37) (tgt := 38) dX9_part_1 (by decide) (by show Op.lookupswitch.offset [(0, 27), (1, 32)] 37 x1.toInt = 37; rw [lv_osw (a := 0) c1 rfl, lv_osw (a := 1) c2 rfl] <;> rfl) (by decide) ?_
  refine J_aload_n (pc' := 39) (i := 0) (n := 0) dX9_part_38 rfl rfl rfl ?_
  obtain ⟨q3, e4, h⟩ := bi_inv h
  obtain ⟨c5, h⟩ := j_ck_inv h
  refine J_callV (pc' := 42) (as := []) (rest := []) dX9_part_39 rfl lk_X9_96 rfl 9 (by decide) rfl (x_o hs) (x_n hs (Nat.le_of_ble_eq_true rfl)) (c_X9_bad hs e4) ⟨Nat.le_of_ble_eq_true rfl, Nat.le_of_ble_eq_true rfl⟩ (Nat.le_of_ble_eq_true rfl) ⟨Nat.le_of_ble_eq_true rfl, Nat.le_of_ble_eq_true rfl⟩ (j_kq ?_)
  have g6 : sh_x q3.2.2.2 := j_shE c5 hs
  refine J_i2l (pc' := 43) dX9_part_42 rfl ?_
  exact J_lret rfl dX9_part_43 ⟨rfl, Nat.le_refl _⟩ (j_pX h)
abbrev JT_X9_status (l : Launch) (G : j_G) (r : (Int32 × j_M)) : Nat → List (Nat × Value) → List Value → j_M → Prop := JJ l G md_X9_status (j_rm 2 (0, 0)) (0, 0) (0, 0) (po (some (.int r.1)) r.2)
noncomputable def f_X9_status (M : j_M) (x1 : Int32) : Option (Int32 × j_M) :=
  if x1 = (0 : Int32) then (some ((j_I M 0 9), M)) else (if x1 = (1 : Int32) then (some ((j_I M 0 10), M)) else (if x1 = (2 : Int32) then (some ((j_I M 0 11), M)) else ((f_X9_bad M).bind fun q4 => j_ck M q4.2 (some (((-1) : Int32), q4.2)))))
set_option maxHeartbeats 4000000 in
theorem c_X9_status {l : Launch} {G : j_G} {M : j_M} {x1 : Int32} (hs : sh_x M.2.2) {r : (Int32 × j_M)} (h : f_X9_status M x1 = some r) : j_Sp l G md_X9_status 2 (0, 0) [.ref 0, .int x1] M (po (some (.int r.1)) r.2) := by
  refine j_Sp.of (by decide) (Nat.le_of_ble_eq_true rfl) ?_
  show JT_X9_status l G r 0 [(0, .ref 0), (1, .int x1)] [] M
  unfold f_X9_status at h
  refine J_iload_n (pc' := 1) (i := 1) (n := 1) dX9_status_0 rfl rfl rfl ?_
  by_cases c1 : x1 = (0 : Int32)
  · replace h := j_ip c1 h
    refine J_tin (tgt := 28) dX9_status_1 (0 : Int32) c1 ⟨by decide, by decide, rfl, by decide⟩ ?_
    refine J_aload_n (pc' := 29) (i := 0) (n := 0) dX9_status_28 rfl rfl rfl ?_
    refine J_getI (pc' := 32) dX9_status_29 rfl fl_X9_44 rfl (x_o hs) (x_n hs (Nat.le_of_ble_eq_true rfl)) ?_
    exact J_iret rfl dX9_status_32 ⟨rfl, Nat.le_refl _⟩ (j_pW h)
  replace h := j_iq c1 h
  by_cases c2 : x1 = (1 : Int32)
  · replace h := j_ip c2 h
    refine J_tin (tgt := 33) dX9_status_1 (1 : Int32) c2 ⟨by decide, by decide, rfl, by decide⟩ ?_
    refine J_aload_n (pc' := 34) (i := 0) (n := 0) dX9_status_33 rfl rfl rfl ?_
    refine J_getI (pc' := 37) dX9_status_34 rfl fl_X9_48 rfl (x_o hs) (x_n hs (Nat.le_of_ble_eq_true rfl)) ?_
    exact J_iret rfl dX9_status_37 ⟨rfl, Nat.le_refl _⟩ (j_pW h)
  replace h := j_iq c2 h
  by_cases c3 : x1 = (2 : Int32)
  · replace h := j_ip c3 h
    refine J_tin (tgt := 38) dX9_status_1 (2 : Int32) c3 ⟨by decide, by decide, rfl, by decide⟩ ?_
    refine J_aload_n (pc' := 39) (i := 0) (n := 0) dX9_status_38 rfl rfl rfl ?_
    refine J_getI (pc' := 42) dX9_status_39 rfl fl_X9_51 rfl (x_o hs) (x_n hs (Nat.le_of_ble_eq_true rfl)) ?_
    exact J_iret rfl dX9_status_42 ⟨rfl, Nat.le_refl _⟩ (j_pW h)
  replace h := j_iq c3 h
  refine J_tout (tgt := 43) dX9_status_1 (j_out0_2 c1 c2 c3) (by decide) ?_
  refine J_aload_n (pc' := 44) (i := 0) (n := 0) dX9_status_43 rfl rfl rfl ?_
  obtain ⟨q4, e5, h⟩ := bi_inv h
  obtain ⟨c6, h⟩ := j_ck_inv h
  refine J_callV (pc' := 47) (as := []) (rest := []) dX9_status_44 rfl lk_X9_96 rfl 9 (by decide) rfl (x_o hs) (x_n hs (Nat.le_of_ble_eq_true rfl)) (c_X9_bad hs e5) ⟨Nat.le_of_ble_eq_true rfl, Nat.le_of_ble_eq_true rfl⟩ (Nat.le_of_ble_eq_true rfl) ⟨Nat.le_of_ble_eq_true rfl, Nat.le_of_ble_eq_true rfl⟩ (j_kq ?_)
  have g7 : sh_x q4.2.2.2 := j_shE c6 hs
  refine J_pop (pc' := 48) dX9_status_47 rfl rfl ?_
  refine J_iconst (pc' := 49) (v := ((-1) : Int32)) dX9_status_48 rfl ic_m1 ?_
  exact J_iret rfl dX9_status_49 ⟨rfl, Nat.le_refl _⟩ (j_pW h)
abbrev JT_X9_howMany (l : Launch) (G : j_G) (M : j_M) (r : Int32) : Nat → List (Nat × Value) → List Value → j_M → Prop := JJ l G md_X9_howMany (j_rm 3 (0, 0)) (0, 0) (0, 0) (po (some (.int r)) M)
noncomputable def f_X9_howMany (M : j_M) (x1 : Int32) : Option Int32 :=
  if x1 = (0 : Int32) then (some (j_I M 17 9)) else (if x1 = (1 : Int32) then (a_i M (17 + 5) 22 (0 : Int32) fun v3 => (some v3)) else (if x1 = (2 : Int32) then ((f_X0_openLanes M 17).bind fun v6 => (some v6)) else (if x1 = (3 : Int32) then ((f_X0_lengthsOfAll M 17).bind fun v9 => (some v9)) else (if x1 = (4 : Int32) then (some (j_I M 17 11)) else (if x1 = (5 : Int32) then (some (j_I M 17 10)) else (some (j_I M 7 1)))))))
set_option maxHeartbeats 4000000 in
theorem c_X9_howMany {l : Launch} {G : j_G} {M : j_M} {x1 : Int32} (hs : sh_x M.2.2) {r : Int32} (h : f_X9_howMany M x1 = some r) : j_Sp l G md_X9_howMany 3 (0, 0) [.ref 0, .int x1] M (po (some (.int r)) M) := by
  refine j_Sp.of (by decide) (Nat.le_of_ble_eq_true rfl) ?_
  show JT_X9_howMany l G M r 0 [(0, .ref 0), (1, .int x1)] [] M
  unfold f_X9_howMany at h
  refine J_iload_n (pc' := 1) (i := 1) (n := 1) dX9_howMany_0 rfl rfl rfl ?_
  by_cases c1 : x1 = (0 : Int32)
  · replace h := j_ip c1 h
    refine J_tin (tgt := 40) dX9_howMany_1 (0 : Int32) c1 ⟨by decide, by decide, rfl, by decide⟩ ?_
    refine J_aload_n (pc' := 41) (i := 0) (n := 0) dX9_howMany_40 rfl rfl rfl ?_
    refine J_getR (pc' := 44) (b := 17) dX9_howMany_41 rfl fl_X9_75 rfl (x_o hs) (x_n hs (Nat.le_of_ble_eq_true rfl)) (x_r0 hs) ?_
    refine J_getI (pc' := 47) dX9_howMany_44 rfl fl_X9_82 rfl (b_o (x_b17 hs)) (b_no (x_b17 hs)) ?_
    exact J_iret rfl dX9_howMany_47 ⟨rfl, Nat.le_refl _⟩ (j_pIs h)
  replace h := j_iq c1 h
  by_cases c2 : x1 = (1 : Int32)
  · replace h := j_ip c2 h
    refine J_tin (tgt := 48) dX9_howMany_1 (1 : Int32) c2 ⟨by decide, by decide, rfl, by decide⟩ ?_
    refine J_aload_n (pc' := 49) (i := 0) (n := 0) dX9_howMany_48 rfl rfl rfl ?_
    refine J_getR (pc' := 52) (b := 17) dX9_howMany_49 rfl fl_X9_75 rfl (x_o hs) (x_n hs (Nat.le_of_ble_eq_true rfl)) (x_r0 hs) ?_
    refine J_getR (pc' := 55) (b := (17 + 5)) dX9_howMany_52 rfl fl_X9_103 rfl (b_o (x_b17 hs)) (b_no (x_b17 hs)) (b_r5 (x_b17 hs)) ?_
    refine J_iconst (pc' := 56) (v := (0 : Int32)) dX9_howMany_55 rfl ic_0 ?_
    obtain ⟨v3, e4, h⟩ := a_i_inv h
    refine J_ialde (pc' := 57) dX9_howMany_56 rfl (b_s5 (x_b17 hs)) (b_n (x_b17 hs) (Nat.le_of_ble_eq_true rfl)) e4 ?_
    exact J_iret rfl dX9_howMany_57 ⟨rfl, Nat.le_refl _⟩ (j_pIs h)
  replace h := j_iq c2 h
  by_cases c5 : x1 = (2 : Int32)
  · replace h := j_ip c5 h
    refine J_tin (tgt := 58) dX9_howMany_1 (2 : Int32) c5 ⟨by decide, by decide, rfl, by decide⟩ ?_
    refine J_aload_n (pc' := 59) (i := 0) (n := 0) dX9_howMany_58 rfl rfl rfl ?_
    refine J_getR (pc' := 62) (b := 17) dX9_howMany_59 rfl fl_X9_75 rfl (x_o hs) (x_n hs (Nat.le_of_ble_eq_true rfl)) (x_r0 hs) ?_
    obtain ⟨v6, e7, h⟩ := bi_inv h
    refine J_callVN (pc' := 65) (as := []) (rest := []) dX9_howMany_62 rfl lk_X9_293 rfl 0 (by decide) rfl (b_o (x_b17 hs)) (b_no (x_b17 hs)) (c_X0_openLanes (x_b17 hs) e7) ⟨Nat.le_of_ble_eq_true rfl, Nat.le_of_ble_eq_true rfl⟩ (Nat.le_of_ble_eq_true rfl) ⟨Nat.le_of_ble_eq_true rfl, Nat.le_of_ble_eq_true rfl⟩ (j_kq ?_)
    exact J_iret rfl dX9_howMany_65 ⟨rfl, Nat.le_refl _⟩ (j_pIs h)
  replace h := j_iq c5 h
  by_cases c8 : x1 = (3 : Int32)
  · replace h := j_ip c8 h
    refine J_tin (tgt := 66) dX9_howMany_1 (3 : Int32) c8 ⟨by decide, by decide, rfl, by decide⟩ ?_
    refine J_aload_n (pc' := 67) (i := 0) (n := 0) dX9_howMany_66 rfl rfl rfl ?_
    refine J_getR (pc' := 70) (b := 17) dX9_howMany_67 rfl fl_X9_75 rfl (x_o hs) (x_n hs (Nat.le_of_ble_eq_true rfl)) (x_r0 hs) ?_
    obtain ⟨v9, e10, h⟩ := bi_inv h
    refine J_callVN (pc' := 73) (as := []) (rest := []) dX9_howMany_70 rfl lk_X9_296 rfl 0 (by decide) rfl (b_o (x_b17 hs)) (b_no (x_b17 hs)) (c_X0_lengthsOfAll (x_b17 hs) e10) ⟨Nat.le_of_ble_eq_true rfl, Nat.le_of_ble_eq_true rfl⟩ (Nat.le_of_ble_eq_true rfl) ⟨Nat.le_of_ble_eq_true rfl, Nat.le_of_ble_eq_true rfl⟩ (j_kq ?_)
    exact J_iret rfl dX9_howMany_73 ⟨rfl, Nat.le_refl _⟩ (j_pIs h)
  replace h := j_iq c8 h
  by_cases c11 : x1 = (4 : Int32)
  · replace h := j_ip c11 h
    refine J_tin (tgt := 74) dX9_howMany_1 (4 : Int32) c11 ⟨by decide, by decide, rfl, by decide⟩ ?_
    refine J_aload_n (pc' := 75) (i := 0) (n := 0) dX9_howMany_74 rfl rfl rfl ?_
    refine J_getR (pc' := 78) (b := 17) dX9_howMany_75 rfl fl_X9_75 rfl (x_o hs) (x_n hs (Nat.le_of_ble_eq_true rfl)) (x_r0 hs) ?_
    refine J_getI (pc' := 81) dX9_howMany_78 rfl fl_X9_242 rfl (b_o (x_b17 hs)) (b_no (x_b17 hs)) ?_
    exact J_iret rfl dX9_howMany_81 ⟨rfl, Nat.le_refl _⟩ (j_pIs h)
  replace h := j_iq c11 h
  by_cases c12 : x1 = (5 : Int32)
  · replace h := j_ip c12 h
    refine J_tin (tgt := 82) dX9_howMany_1 (5 : Int32) c12 ⟨by decide, by decide, rfl, by decide⟩ ?_
    refine J_aload_n (pc' := 83) (i := 0) (n := 0) dX9_howMany_82 rfl rfl rfl ?_
    refine J_getR (pc' := 86) (b := 17) dX9_howMany_83 rfl fl_X9_75 rfl (x_o hs) (x_n hs (Nat.le_of_ble_eq_true rfl)) (x_r0 hs) ?_
    refine J_getI (pc' := 89) dX9_howMany_86 rfl fl_X9_116 rfl (b_o (x_b17 hs)) (b_no (x_b17 hs)) ?_
    exact J_iret rfl dX9_howMany_89 ⟨rfl, Nat.le_refl _⟩ (j_pIs h)
  replace h := j_iq c12 h
  refine J_tout (tgt := 90) dX9_howMany_1 (j_out0_5 c1 c2 c5 c8 c11 c12) (by decide) ?_
  refine J_aload_n (pc' := 91) (i := 0) (n := 0) dX9_howMany_90 rfl rfl rfl ?_
  refine J_getR (pc' := 94) (b := 7) dX9_howMany_91 rfl fl_X9_29 rfl (x_o hs) (x_n hs (Nat.le_of_ble_eq_true rfl)) (x_r5 hs) ?_
  refine J_getI (pc' := 97) dX9_howMany_94 rfl fl_X9_135 rfl (x_o7 hs) (x_n hs (Nat.le_of_ble_eq_true rfl)) ?_
  exact J_iret rfl dX9_howMany_97 ⟨rfl, Nat.le_refl _⟩ (j_pIs h)
abbrev JT_X9_count (l : Launch) (G : j_G) (r : (Int32 × j_M)) : Nat → List (Nat × Value) → List Value → j_M → Prop := JJ l G md_X9_count (j_rm 4 (0, 0)) (0, 0) (0, 0) (po (some (.int r.1)) r.2)
noncomputable def f_X9_count (M : j_M) (x1 : Int32) : Option (Int32 × j_M) :=
  tl (f_X9_within x1 (0 : Int32) (6 : Int32)) fun v1 => (if v1 = 0 then ((f_X9_bad M).bind fun q4 => j_ck M q4.2 (some (q4.1, q4.2))) else ((f_X9_howMany M x1).bind fun v8 => (some (v8, M))))
set_option maxHeartbeats 4000000 in
theorem c_X9_count {l : Launch} {G : j_G} {M : j_M} {x1 : Int32} (hs : sh_x M.2.2) {r : (Int32 × j_M)} (h : f_X9_count M x1 = some r) : j_Sp l G md_X9_count 4 (0, 0) [.ref 0, .int x1] M (po (some (.int r.1)) r.2) := by
  refine j_Sp.of (by decide) (Nat.le_of_ble_eq_true rfl) ?_
  show JT_X9_count l G r 0 [(0, .ref 0), (1, .int x1)] [] M
  unfold f_X9_count at h
  refine J_iload_n (pc' := 1) (i := 1) (n := 1) dX9_count_0 rfl rfl rfl ?_
  refine J_iconst (pc' := 2) (v := (0 : Int32)) dX9_count_1 rfl ic_0 ?_
  refine J_bipush (pc' := 4) (v := (6 : Int32)) dX9_count_2 rfl bp_6 ?_
  obtain ⟨v1, e2, h⟩ := tl_inv h
  refine J_callS (pc' := 7) (as := [.int x1, .int (0 : Int32), .int (6 : Int32)]) (rest := []) dX9_count_4 rfl lk_X9_92 rfl (c_X9_within e2) ⟨Nat.le_of_ble_eq_true rfl, Nat.le_of_ble_eq_true rfl⟩ (Nat.le_of_ble_eq_true rfl) ⟨Nat.le_of_ble_eq_true rfl, Nat.le_of_ble_eq_true rfl⟩ (j_kq ?_)
  refine J_if_eq (pc' := 10) (tgt := 18) dX9_count_7 rfl (by decide) (fun c3 => ?_) (fun c3 => ?_)
  · replace h := j_ip c3 h
    refine J_aload_n (pc' := 19) (i := 0) (n := 0) dX9_count_18 rfl rfl rfl ?_
    obtain ⟨q4, e5, h⟩ := bi_inv h
    obtain ⟨c6, h⟩ := j_ck_inv h
    refine J_callV (pc' := 22) (as := []) (rest := []) dX9_count_19 rfl lk_X9_96 rfl 9 (by decide) rfl (x_o hs) (x_n hs (Nat.le_of_ble_eq_true rfl)) (c_X9_bad hs e5) ⟨Nat.le_of_ble_eq_true rfl, Nat.le_of_ble_eq_true rfl⟩ (Nat.le_of_ble_eq_true rfl) ⟨Nat.le_of_ble_eq_true rfl, Nat.le_of_ble_eq_true rfl⟩ (j_kq ?_)
    have g7 : sh_x q4.2.2.2 := j_shE c6 hs
    exact J_iret rfl dX9_count_22 ⟨rfl, Nat.le_refl _⟩ (j_pW h)
  · replace h := j_iq c3 h
    refine J_aload_n (pc' := 11) (i := 0) (n := 0) dX9_count_10 rfl rfl rfl ?_
    refine J_iload_n (pc' := 12) (i := 1) (n := 1) dX9_count_11 rfl rfl rfl ?_
    obtain ⟨v8, e9, h⟩ := bi_inv h
    refine J_callV (pc' := 15) (as := [.int x1]) (rest := []) dX9_count_12 rfl lk_X9_283 rfl 9 (by decide) rfl (x_o hs) (x_n hs (Nat.le_of_ble_eq_true rfl)) (c_X9_howMany hs e9) ⟨Nat.le_of_ble_eq_true rfl, Nat.le_of_ble_eq_true rfl⟩ (Nat.le_of_ble_eq_true rfl) ⟨Nat.le_of_ble_eq_true rfl, Nat.le_of_ble_eq_true rfl⟩ (j_kq ?_)
    refine J_goto (pc' := 22) dX9_count_15 (by decide) ?_
    exact J_iret rfl dX9_count_22 ⟨rfl, Nat.le_refl _⟩ (j_pW h)
abbrev JT_X9_digest (l : Launch) (G : j_G) (M : j_M) (r : Int64) : Nat → List (Nat × Value) → List Value → j_M → Prop := JJ l G md_X9_digest (j_rm 4 (0, 0)) (0, 0) (0, 0) (po (some (.long r)) M)
noncomputable def f_X9_digest_L6 : Nat → j_M → Int64 → Int32 → (Int64 → Int32 → Option Int64) → Option Int64
  | 0, _, _, _, _ => none
  | n + 1, M, x1, x3, K =>
    if (6 : Int32) < x3 then (K x1 x3) else ((f_X9_howMany M x3).bind fun v2 => (f_X9_digest_L6 n  M (((31 : Int64) * x1) + (v2).toInt64) (x3 + (1 : Int32)) K))
noncomputable def f_X9_digest (M : j_M)  : Option Int64 :=
  f_X9_digest_L6 j_fu  M (1279 : Int64) (0 : Int32) (fun (y4 : Int64) (y5 : Int32) => ((f_X0_digestFrom M 17 y4).bind fun v6 => (some (((31 : Int64) * (((31 : Int64) * v6) + (j_L M 0 7))) + (j_L M 0 8)))))
set_option maxHeartbeats 4000000 in
theorem L_X9_digest_L6 {l : Launch} {G : j_G}  {r : Int64} : ∀ (n : Nat) {x1 : Int64} {x3 : Int32} {M : j_M} (hs : sh_x M.2.2) {K : Int64 → Int32 → Option Int64}, f_X9_digest_L6 n  M x1 x3 K = some r → (∀ (y1 : Int64) (y3 : Int32), K y1 y3 = some r → JT_X9_digest l G M r 31 [(0, .ref 0), (1, .long y1)] [] M) → JT_X9_digest l G M r 6 [(0, .ref 0), (1, .long x1), (3, .int x3)] [] M := by
  intro n
  induction n with
  | zero =>
    intro x1 x3 M hs K h hK
    rw [f_X9_digest_L6] at h; cases h
  | succ n ih =>
    intro x1 x3 M hs K h hK
    rw [f_X9_digest_L6] at h
    refine J_iload_n (pc' := 7) (i := 3) (n := 2) dX9_digest_6 rfl rfl rfl ?_
    refine J_bipush (pc' := 9) (v := (6 : Int32)) dX9_digest_7 rfl bp_6 ?_
    refine J_icmp_gt (pc' := 12) (tgt := 31) dX9_digest_9 rfl (by decide) (fun c1 => ?_) (fun c1 => ?_)
    · replace h := j_ip c1 h
      refine J_sub [0, 1] (lv' := [(0, .ref 0), (1, .long x1)]) rfl ?_
      exact hK x1 x3  h
    · replace h := j_iq c1 h
      refine J_ldc2 (pc' := 15) (v := (31 : Int64)) dX9_digest_12 rfl wd_883 ?_
      refine J_lload_n (pc' := 16) (i := 1) (n := 1) dX9_digest_15 rfl rfl rfl ?_
      refine J_lmul (pc' := 17) dX9_digest_16 rfl ?_
      refine J_aload_n (pc' := 18) (i := 0) (n := 0) dX9_digest_17 rfl rfl rfl ?_
      refine J_iload_n (pc' := 19) (i := 3) (n := 2) dX9_digest_18 rfl rfl rfl ?_
      obtain ⟨v2, e3, h⟩ := bi_inv h
      refine J_callV (pc' := 22) (as := [.int x3]) (rest := [.long ((31 : Int64) * x1)]) dX9_digest_19 rfl lk_X9_283 rfl 9 (by decide) rfl (x_o hs) (x_n hs (Nat.le_of_ble_eq_true rfl)) (c_X9_howMany hs e3) ⟨Nat.le_of_ble_eq_true rfl, Nat.le_of_ble_eq_true rfl⟩ (Nat.le_of_ble_eq_true rfl) ⟨Nat.le_of_ble_eq_true rfl, Nat.le_of_ble_eq_true rfl⟩ (j_kq ?_)
      refine J_i2l (pc' := 23) dX9_digest_22 rfl ?_
      refine J_ladd (pc' := 24) dX9_digest_23 rfl ?_
      refine J_lstore_n (pc' := 25) (i := 1) (lv' := [(1, .long (((31 : Int64) * x1) + (v2).toInt64)), (0, .ref 0), (3, .int x3)]) dX9_digest_24 rfl rfl (by decide) rfl ?_
      refine J_iinc (pc' := 28) (i := 3) (n := 2) (v := (x3 + (1 : Int32))) (lv' := [(3, .int (x3 + (1 : Int32))), (1, .long (((31 : Int64) * x1) + (v2).toInt64)), (0, .ref 0)]) dX9_digest_25 rfl rfl (j_inc _ _ rfl _) (by decide) rfl ?_
      refine J_goto (pc' := 6) dX9_digest_28 (by decide) ?_
      refine J_sub [2, 1, 0] (lv' := [(0, .ref 0), (1, .long (((31 : Int64) * x1) + (v2).toInt64)), (3, .int (x3 + (1 : Int32)))]) rfl ?_
      exact ih hs h hK
set_option maxHeartbeats 4000000 in
theorem c_X9_digest {l : Launch} {G : j_G} {M : j_M}  (hs : sh_x M.2.2) {r : Int64} (h : f_X9_digest M  = some r) : j_Sp l G md_X9_digest 4 (0, 0) [.ref 0] M (po (some (.long r)) M) := by
  refine j_Sp.of (by decide) (Nat.le_of_ble_eq_true rfl) ?_
  show JT_X9_digest l G M r 0 [(0, .ref 0)] [] M
  unfold f_X9_digest at h
  refine J_ldc2 (pc' := 3) (v := (1279 : Int64)) dX9_digest_0 rfl wd_882 ?_
  refine J_lstore_n (pc' := 4) (i := 1) (lv' := [(1, .long (1279 : Int64)), (0, .ref 0)]) dX9_digest_3 rfl rfl (by decide) rfl ?_
  refine J_iconst (pc' := 5) (v := (0 : Int32)) dX9_digest_4 rfl ic_0 ?_
  refine J_istore_n (pc' := 6) (i := 3) (lv' := [(3, .int (0 : Int32)), (1, .long (1279 : Int64)), (0, .ref 0)]) dX9_digest_5 rfl rfl (by decide) rfl ?_
  refine J_sub [2, 1, 0] (lv' := [(0, .ref 0), (1, .long (1279 : Int64)), (3, .int (0 : Int32))]) rfl ?_
  refine L_X9_digest_L6 j_fu hs h (fun y4 y5 h => ?_)
  refine J_aload_n (pc' := 32) (i := 0) (n := 0) dX9_digest_31 rfl rfl rfl ?_
  refine J_getR (pc' := 35) (b := 17) dX9_digest_32 rfl fl_X9_75 rfl (x_o hs) (x_n hs (Nat.le_of_ble_eq_true rfl)) (x_r0 hs) ?_
  refine J_lload_n (pc' := 36) (i := 1) (n := 1) dX9_digest_35 rfl rfl rfl ?_
  obtain ⟨v6, e7, h⟩ := bi_inv h
  refine J_callVN (pc' := 39) (as := [.long y4]) (rest := []) dX9_digest_36 rfl lk_X9_290 rfl 0 (by decide) rfl (b_o (x_b17 hs)) (b_no (x_b17 hs)) (c_X0_digestFrom (x_b17 hs) e7) ⟨Nat.le_of_ble_eq_true rfl, Nat.le_of_ble_eq_true rfl⟩ (Nat.le_of_ble_eq_true rfl) ⟨Nat.le_of_ble_eq_true rfl, Nat.le_of_ble_eq_true rfl⟩ (j_kq ?_)
  refine J_lstore_n (pc' := 40) (i := 1) (lv' := [(1, .long v6), (0, .ref 0)]) dX9_digest_39 rfl rfl (by decide) rfl ?_
  refine J_ldc2 (pc' := 43) (v := (31 : Int64)) dX9_digest_40 rfl wd_883 ?_
  refine J_lload_n (pc' := 44) (i := 1) (n := 0) dX9_digest_43 rfl rfl rfl ?_
  refine J_lmul (pc' := 45) dX9_digest_44 rfl ?_
  refine J_aload_n (pc' := 46) (i := 0) (n := 1) dX9_digest_45 rfl rfl rfl ?_
  refine J_getL (pc' := 49) dX9_digest_46 rfl fl_X9_37 rfl (x_o hs) (x_n hs (Nat.le_of_ble_eq_true rfl)) ?_
  refine J_ladd (pc' := 50) dX9_digest_49 rfl ?_
  refine J_lstore_n (pc' := 51) (i := 1) (lv' := [(1, .long (((31 : Int64) * v6) + (j_L M 0 7))), (0, .ref 0)]) dX9_digest_50 rfl rfl (by decide) rfl ?_
  refine J_ldc2 (pc' := 54) (v := (31 : Int64)) dX9_digest_51 rfl wd_883 ?_
  refine J_lload_n (pc' := 55) (i := 1) (n := 0) dX9_digest_54 rfl rfl rfl ?_
  refine J_lmul (pc' := 56) dX9_digest_55 rfl ?_
  refine J_aload_n (pc' := 57) (i := 0) (n := 1) dX9_digest_56 rfl rfl rfl ?_
  refine J_getL (pc' := 60) dX9_digest_57 rfl fl_X9_41 rfl (x_o hs) (x_n hs (Nat.le_of_ble_eq_true rfl)) ?_
  refine J_ladd (pc' := 61) dX9_digest_60 rfl ?_
  exact J_lret rfl dX9_digest_61 ⟨rfl, Nat.le_refl _⟩ (j_pLs h)
