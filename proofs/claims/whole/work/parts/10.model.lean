abbrev JT_X10_in (l : Launch) (G : j_G) (M : j_M) (r : Int32) : Nat → List (Nat × Value) → List Value → j_M → Prop := JJ l G md_X10_in (j_rm 1 (0, 0)) (0, 0) (0, 0) (po (some (.int r)) M)
def f_X10_in (x0 : Int64) (x2 : Int64) (x4 : Int64) : Int32 :=
  if (lg_cmp x0 x2) < 0 then ((0 : Int32)) else (if 0 < (lg_cmp x0 x4) then ((0 : Int32)) else ((1 : Int32)))
theorem z_X10_in (x0 : Int64) (x2 : Int64) (x4 : Int64) : f_X10_in x0 x2 x4 = 0 ∨ f_X10_in x0 x2 x4 = 1 := by
  unfold f_X10_in
  try simp only [tl, jn]
  repeat' split
  all_goals first | exact Or.inl rfl | exact Or.inr rfl
set_option maxHeartbeats 4000000 in
theorem c_X10_in {l : Launch} {G : j_G} {M : j_M} {x0 : Int64} {x2 : Int64} {x4 : Int64}  {r : Int32} (h : f_X10_in x0 x2 x4 = r) : j_Sp l G md_X10_in 1 (0, 0) [.long x0, .long x2, .long x4] M (po (some (.int r)) M) := by
  refine j_Sp.of (by decide) (Nat.le_of_ble_eq_true rfl) ?_
  show JT_X10_in l G M r 0 [(0, .long x0), (2, .long x2), (4, .long x4)] [] M
  unfold f_X10_in at h
  refine J_lload_n (pc' := 1) (i := 0) (n := 0) dX10_in_0 rfl rfl rfl ?_
  refine J_lload_n (pc' := 2) (i := 2) (n := 1) dX10_in_1 rfl rfl rfl ?_
  refine J_lcmp (pc' := 3) dX10_in_2 rfl ?_
  refine J_if_lt (pc' := 6) (tgt := 17) dX10_in_3 rfl (by decide) (fun c1 => ?_) (fun c1 => ?_)
  · replace h := j_ip c1 h
    refine J_iconst (pc' := 18) (v := (0 : Int32)) dX10_in_17 rfl ic_0 ?_
    exact J_zret (ty := .boolean) rfl rfl dX10_in_18 ⟨rfl, Nat.le_refl _⟩ (j_pI h)
  · replace h := j_iq c1 h
    refine J_lload_n (pc' := 7) (i := 0) (n := 0) dX10_in_6 rfl rfl rfl ?_
    refine J_lload (pc' := 9) (i := 4) (n := 2) dX10_in_7 rfl rfl ?_
    refine J_lcmp (pc' := 10) dX10_in_9 rfl ?_
    refine J_if_gt (pc' := 13) (tgt := 17) dX10_in_10 rfl (by decide) (fun c2 => ?_) (fun c2 => ?_)
    · replace h := j_ip c2 h
      refine J_iconst (pc' := 18) (v := (0 : Int32)) dX10_in_17 rfl ic_0 ?_
      exact J_zret (ty := .boolean) rfl rfl dX10_in_18 ⟨rfl, Nat.le_refl _⟩ (j_pI h)
    · replace h := j_iq c2 h
      refine J_iconst (pc' := 14) (v := (1 : Int32)) dX10_in_13 rfl ic_1 ?_
      refine J_goto (pc' := 18) dX10_in_14 (by decide) ?_
      exact J_zret (ty := .boolean) rfl rfl dX10_in_18 ⟨rfl, Nat.le_refl _⟩ (j_pI h)
abbrev JT_X10_bad (l : Launch) (G : j_G) (r : (Int32 × j_M)) : Nat → List (Nat × Value) → List Value → j_M → Prop := JJ l G md_X10_bad (j_rm 1 (0, 0)) (0, 0) (0, 0) (po (some (.int r.1)) r.2)
noncomputable def f_X10_bad (M : j_M) (x1 : Int32) : Option (Int32 × j_M) :=
  a_i M 39 3 (0 : Int32) fun v1 => (w_i M 39 3 (0 : Int32) (v1 + (1 : Int32)) fun M3 => (some (x1, M3)))
set_option maxHeartbeats 4000000 in
theorem c_X10_bad {l : Launch} {G : j_G} {M : j_M} {x1 : Int32} (hs : sh_m M.2.2) {r : (Int32 × j_M)} (h : f_X10_bad M x1 = some r) : j_Sp l G md_X10_bad 1 (0, 0) [.ref 35, .int x1] M (po (some (.int r.1)) r.2) := by
  refine j_Sp.of (by decide) (Nat.le_of_ble_eq_true rfl) ?_
  show JT_X10_bad l G r 0 [(0, .ref 35), (1, .int x1)] [] M
  unfold f_X10_bad at h
  refine J_aload_n (pc' := 1) (i := 0) (n := 0) dX10_bad_0 rfl rfl rfl ?_
  refine J_getR (pc' := 4) (b := 39) dX10_bad_1 rfl fl_X10_20 rfl (m_o hs) (m_n hs (Nat.le_of_ble_eq_true rfl)) (m_r3 hs) ?_
  refine J_iconst (pc' := 5) (v := (0 : Int32)) dX10_bad_4 rfl ic_0 ?_
  refine J_dup2 (pc' := 6) dX10_bad_5 rfl rfl rfl ?_
  obtain ⟨v1, e2, h⟩ := a_i_inv h
  refine J_ialde (pc' := 7) dX10_bad_6 rfl (m_s39 hs) (m_n hs (Nat.le_of_ble_eq_true rfl)) e2 ?_
  refine J_iconst (pc' := 8) (v := (1 : Int32)) dX10_bad_7 rfl ic_1 ?_
  refine J_iadd (pc' := 9) dX10_bad_8 rfl ?_
  obtain ⟨M3, e4, h⟩ := w_i_inv h
  have g5 : sh_m M3.2.2 := j_shI e4.2 hs
  refine J_iaste (pc' := 10) dX10_bad_9 rfl (m_s39 hs) (m_n hs (Nat.le_of_ble_eq_true rfl)) e4 ?_
  refine J_iload_n (pc' := 11) (i := 1) (n := 1) dX10_bad_10 rfl rfl rfl ?_
  exact J_iret rfl dX10_bad_11 ⟨rfl, Nat.le_refl _⟩ (j_pW h)
abbrev JT_X10_no (l : Launch) (G : j_G) (r : (Int32 × j_M)) : Nat → List (Nat × Value) → List Value → j_M → Prop := JJ l G md_X10_no (j_rm 1 (0, 0)) (0, 0) (0, 0) (po (some (.int r.1)) r.2)
noncomputable def f_X10_no (M : j_M)  : Option (Int32 × j_M) :=
  a_i M 39 3 (1 : Int32) fun v1 => (w_i M 39 3 (1 : Int32) (v1 + (1 : Int32)) fun M3 => (some (((-3) : Int32), M3)))
set_option maxHeartbeats 4000000 in
theorem c_X10_no {l : Launch} {G : j_G} {M : j_M}  (hs : sh_m M.2.2) {r : (Int32 × j_M)} (h : f_X10_no M  = some r) : j_Sp l G md_X10_no 1 (0, 0) [.ref 35] M (po (some (.int r.1)) r.2) := by
  refine j_Sp.of (by decide) (Nat.le_of_ble_eq_true rfl) ?_
  show JT_X10_no l G r 0 [(0, .ref 35)] [] M
  unfold f_X10_no at h
  refine J_aload_n (pc' := 1) (i := 0) (n := 0) dX10_no_0 rfl rfl rfl ?_
  refine J_getR (pc' := 4) (b := 39) dX10_no_1 rfl fl_X10_20 rfl (m_o hs) (m_n hs (Nat.le_of_ble_eq_true rfl)) (m_r3 hs) ?_
  refine J_iconst (pc' := 5) (v := (1 : Int32)) dX10_no_4 rfl ic_1 ?_
  refine J_dup2 (pc' := 6) dX10_no_5 rfl rfl rfl ?_
  obtain ⟨v1, e2, h⟩ := a_i_inv h
  refine J_ialde (pc' := 7) dX10_no_6 rfl (m_s39 hs) (m_n hs (Nat.le_of_ble_eq_true rfl)) e2 ?_
  refine J_iconst (pc' := 8) (v := (1 : Int32)) dX10_no_7 rfl ic_1 ?_
  refine J_iadd (pc' := 9) dX10_no_8 rfl ?_
  obtain ⟨M3, e4, h⟩ := w_i_inv h
  have g5 : sh_m M3.2.2 := j_shI e4.2 hs
  refine J_iaste (pc' := 10) dX10_no_9 rfl (m_s39 hs) (m_n hs (Nat.le_of_ble_eq_true rfl)) e4 ?_
  refine J_bipush (pc' := 12) (v := ((-3) : Int32)) dX10_no_10 rfl bp_m3 ?_
  exact J_iret rfl dX10_no_12 ⟨rfl, Nat.le_refl _⟩ (j_pW h)
abbrev JT_X10_full (l : Launch) (G : j_G) (r : (Int32 × j_M)) : Nat → List (Nat × Value) → List Value → j_M → Prop := JJ l G md_X10_full (j_rm 1 (0, 0)) (0, 0) (0, 0) (po (some (.int r.1)) r.2)
noncomputable def f_X10_full (M : j_M)  : Option (Int32 × j_M) :=
  a_i M 39 3 (2 : Int32) fun v1 => (w_i M 39 3 (2 : Int32) (v1 + (1 : Int32)) fun M3 => (some (((-4) : Int32), M3)))
set_option maxHeartbeats 4000000 in
theorem c_X10_full {l : Launch} {G : j_G} {M : j_M}  (hs : sh_m M.2.2) {r : (Int32 × j_M)} (h : f_X10_full M  = some r) : j_Sp l G md_X10_full 1 (0, 0) [.ref 35] M (po (some (.int r.1)) r.2) := by
  refine j_Sp.of (by decide) (Nat.le_of_ble_eq_true rfl) ?_
  show JT_X10_full l G r 0 [(0, .ref 35)] [] M
  unfold f_X10_full at h
  refine J_aload_n (pc' := 1) (i := 0) (n := 0) dX10_full_0 rfl rfl rfl ?_
  refine J_getR (pc' := 4) (b := 39) dX10_full_1 rfl fl_X10_20 rfl (m_o hs) (m_n hs (Nat.le_of_ble_eq_true rfl)) (m_r3 hs) ?_
  refine J_iconst (pc' := 5) (v := (2 : Int32)) dX10_full_4 rfl ic_2 ?_
  refine J_dup2 (pc' := 6) dX10_full_5 rfl rfl rfl ?_
  obtain ⟨v1, e2, h⟩ := a_i_inv h
  refine J_ialde (pc' := 7) dX10_full_6 rfl (m_s39 hs) (m_n hs (Nat.le_of_ble_eq_true rfl)) e2 ?_
  refine J_iconst (pc' := 8) (v := (1 : Int32)) dX10_full_7 rfl ic_1 ?_
  refine J_iadd (pc' := 9) dX10_full_8 rfl ?_
  obtain ⟨M3, e4, h⟩ := w_i_inv h
  have g5 : sh_m M3.2.2 := j_shI e4.2 hs
  refine J_iaste (pc' := 10) dX10_full_9 rfl (m_s39 hs) (m_n hs (Nat.le_of_ble_eq_true rfl)) e4 ?_
  refine J_bipush (pc' := 12) (v := ((-4) : Int32)) dX10_full_10 rfl bp_m4 ?_
  exact J_iret rfl dX10_full_12 ⟨rfl, Nat.le_refl _⟩ (j_pW h)
abbrev JT_X10_bits (l : Launch) (G : j_G) (M : j_M) (r : Int32) : Nat → List (Nat × Value) → List Value → j_M → Prop := JJ l G md_X10_bits (j_rm 1 (0, 0)) (0, 0) (0, 0) (po (some (.int r)) M)
noncomputable def f_X10_bits_L4 : Nat → Int32 → Int32 → (Int32 → Int32 → Option Int32) → Option Int32
  | 0, _, _, _ => none
  | n + 1, x1, x2, K =>
    if x2 ≤ 0 then (K x1 x2) else (f_X10_bits_L4 n   (x1 + (x2 &&& (1 : Int32))) (x2 >>> ((1 : Int32) &&& 31)) K)
noncomputable def f_X10_bits (x0 : Int32) : Option Int32 :=
  f_X10_bits_L4 j_fu   (0 : Int32) x0 (fun (y2 : Int32) (y3 : Int32) => (some y2))
set_option maxHeartbeats 4000000 in
theorem L_X10_bits_L4 {l : Launch} {G : j_G}  {r : Int32} : ∀ (n : Nat) {x1 : Int32} {x2 : Int32} {M : j_M}  {K : Int32 → Int32 → Option Int32}, f_X10_bits_L4 n   x1 x2 K = some r → (∀ (y1 : Int32) (y2 : Int32), K y1 y2 = some r → JT_X10_bits l G M r 21 [(1, .int y1)] [] M) → JT_X10_bits l G M r 4 [(1, .int x1), (2, .int x2)] [] M := by
  intro n
  induction n with
  | zero =>
    intro x1 x2 M  K h hK
    rw [f_X10_bits_L4] at h; cases h
  | succ n ih =>
    intro x1 x2 M  K h hK
    rw [f_X10_bits_L4] at h
    refine J_iload_n (pc' := 5) (i := 2) (n := 1) dX10_bits_4 rfl rfl rfl ?_
    refine J_if_le (pc' := 8) (tgt := 21) dX10_bits_5 rfl (by decide) (fun c1 => ?_) (fun c1 => ?_)
    · replace h := j_ip c1 h
      refine J_sub [0] (lv' := [(1, .int x1)]) rfl ?_
      exact hK x1 x2  h
    · replace h := j_iq c1 h
      refine J_iload_n (pc' := 9) (i := 1) (n := 0) dX10_bits_8 rfl rfl rfl ?_
      refine J_iload_n (pc' := 10) (i := 2) (n := 1) dX10_bits_9 rfl rfl rfl ?_
      refine J_iconst (pc' := 11) (v := (1 : Int32)) dX10_bits_10 rfl ic_1 ?_
      refine J_iand (pc' := 12) dX10_bits_11 rfl ?_
      refine J_iadd (pc' := 13) dX10_bits_12 rfl ?_
      refine J_istore_n (pc' := 14) (i := 1) (lv' := [(1, .int (x1 + (x2 &&& (1 : Int32)))), (2, .int x2)]) dX10_bits_13 rfl rfl (by decide) rfl ?_
      refine J_iload_n (pc' := 15) (i := 2) (n := 1) dX10_bits_14 rfl rfl rfl ?_
      refine J_iconst (pc' := 16) (v := (1 : Int32)) dX10_bits_15 rfl ic_1 ?_
      refine J_ishr (pc' := 17) dX10_bits_16 rfl ?_
      refine J_istore_n (pc' := 18) (i := 2) (lv' := [(2, .int (x2 >>> ((1 : Int32) &&& 31))), (1, .int (x1 + (x2 &&& (1 : Int32))))]) dX10_bits_17 rfl rfl (by decide) rfl ?_
      refine J_goto (pc' := 4) dX10_bits_18 (by decide) ?_
      refine J_sub [1, 0] (lv' := [(1, .int (x1 + (x2 &&& (1 : Int32)))), (2, .int (x2 >>> ((1 : Int32) &&& 31)))]) rfl ?_
      exact ih  h hK
set_option maxHeartbeats 4000000 in
theorem c_X10_bits {l : Launch} {G : j_G} {M : j_M} {x0 : Int32}  {r : Int32} (h : f_X10_bits x0 = some r) : j_Sp l G md_X10_bits 1 (0, 0) [.int x0] M (po (some (.int r)) M) := by
  refine j_Sp.of (by decide) (Nat.le_of_ble_eq_true rfl) ?_
  show JT_X10_bits l G M r 0 [(0, .int x0)] [] M
  unfold f_X10_bits at h
  refine J_iconst (pc' := 1) (v := (0 : Int32)) dX10_bits_0 rfl ic_0 ?_
  refine J_istore_n (pc' := 2) (i := 1) (lv' := [(1, .int (0 : Int32)), (0, .int x0)]) dX10_bits_1 rfl rfl (by decide) rfl ?_
  refine J_iload_n (pc' := 3) (i := 0) (n := 1) dX10_bits_2 rfl rfl rfl ?_
  refine J_istore_n (pc' := 4) (i := 2) (lv' := [(2, .int x0), (1, .int (0 : Int32)), (0, .int x0)]) dX10_bits_3 rfl rfl (by decide) rfl ?_
  refine J_sub [1, 0] (lv' := [(1, .int (0 : Int32)), (2, .int x0)]) rfl ?_
  refine L_X10_bits_L4 j_fu  h (fun y2 y3 h => ?_)
  refine J_iload_n (pc' := 22) (i := 1) (n := 0) dX10_bits_21 rfl rfl rfl ?_
  exact J_iret rfl dX10_bits_22 ⟨rfl, Nat.le_refl _⟩ (j_pIs h)
abbrev JT_X10_has (l : Launch) (G : j_G) (M : j_M) (r : Int32) : Nat → List (Nat × Value) → List Value → j_M → Prop := JJ l G md_X10_has (j_rm 1 (0, 0)) (0, 0) (0, 0) (po (some (.int r)) M)
def f_X10_has (x0 : Int32) (x1 : Int32) : Int32 :=
  if ((x0 >>> (x1 &&& 31)) &&& (1 : Int32)) = (1 : Int32) then ((1 : Int32)) else ((0 : Int32))
theorem z_X10_has (x0 : Int32) (x1 : Int32) : f_X10_has x0 x1 = 0 ∨ f_X10_has x0 x1 = 1 := by
  unfold f_X10_has
  try simp only [tl, jn]
  repeat' split
  all_goals first | exact Or.inl rfl | exact Or.inr rfl
set_option maxHeartbeats 4000000 in
theorem c_X10_has {l : Launch} {G : j_G} {M : j_M} {x0 : Int32} {x1 : Int32}  {r : Int32} (h : f_X10_has x0 x1 = r) : j_Sp l G md_X10_has 1 (0, 0) [.int x0, .int x1] M (po (some (.int r)) M) := by
  refine j_Sp.of (by decide) (Nat.le_of_ble_eq_true rfl) ?_
  show JT_X10_has l G M r 0 [(0, .int x0), (1, .int x1)] [] M
  unfold f_X10_has at h
  refine J_iload_n (pc' := 1) (i := 0) (n := 0) dX10_has_0 rfl rfl rfl ?_
  refine J_iload_n (pc' := 2) (i := 1) (n := 1) dX10_has_1 rfl rfl rfl ?_
  refine J_ishr (pc' := 3) dX10_has_2 rfl ?_
  refine J_iconst (pc' := 4) (v := (1 : Int32)) dX10_has_3 rfl ic_1 ?_
  refine J_iand (pc' := 5) dX10_has_4 rfl ?_
  refine J_iconst (pc' := 6) (v := (1 : Int32)) dX10_has_5 rfl ic_1 ?_
  refine J_icmp_ne (pc' := 9) (tgt := 13) dX10_has_6 rfl (by decide) (fun c1 => ?_) (fun c1 => ?_)
  · replace h := j_iq c1 h
    refine J_iconst (pc' := 14) (v := (0 : Int32)) dX10_has_13 rfl ic_0 ?_
    exact J_zret (ty := .boolean) rfl rfl dX10_has_14 ⟨rfl, Nat.le_refl _⟩ (j_pI h)
  · replace h := j_ip c1 h
    refine J_iconst (pc' := 10) (v := (1 : Int32)) dX10_has_9 rfl ic_1 ?_
    refine J_goto (pc' := 14) dX10_has_10 (by decide) ?_
    exact J_zret (ty := .boolean) rfl rfl dX10_has_14 ⟨rfl, Nat.le_refl _⟩ (j_pI h)
abbrev JT_X10_begin (l : Launch) (G : j_G) (r : j_M) : Nat → List (Nat × Value) → List Value → j_M → Prop := JJ l G md_X10_begin (j_rm 1 (0, 0)) (0, 0) (0, 0) (po none r)
noncomputable def f_X10_begin_L2 : Nat → Nat → Nat → j_M → Int32 → (Int32 → j_M → Option j_M) → Option j_M
  | 0, _, _, _, _, _ => none
  | n + 1, a0, n0, M, x1, K =>
    if (74 : Int32) ≤ x1 then (K x1 M) else (w_i M a0 n0 x1 (0 : Int32) fun M2 => (f_X10_begin_L2 n a0 n0 M2 (x1 + (1 : Int32)) K))
noncomputable def f_X10_begin (M : j_M) (a0 : Nat) (n0 : Nat) : Option j_M :=
  f_X10_begin_L2 j_fu a0 n0 M (0 : Int32) (fun (y5 : Int32) (M6 : j_M) => (w_i M6 a0 n0 (5 : Int32) (1 : Int32) fun M8 => (w_i M8 a0 n0 (6 : Int32) (1 : Int32) fun M11 => (w_i M11 a0 n0 (7 : Int32) (2 : Int32) fun M14 => (some M14)))))
set_option maxHeartbeats 4000000 in
theorem L_X10_begin_L2 {l : Launch} {G : j_G} {a0 : Nat} {n0 : Nat} {r : j_M} : ∀ (n : Nat) {x1 : Int32} {M : j_M} (ha0 : sh_a a0 n0 M.2.2) {K : Int32 → j_M → Option j_M}, f_X10_begin_L2 n a0 n0 M x1 K = some r → (∀ (y1 : Int32) (M1 : j_M), sh_a a0 n0 M1.2.2 → K y1 M1 = some r → JT_X10_begin l G r 18 [(0, .ref a0)] [] M1) → JT_X10_begin l G r 2 [(0, .ref a0), (1, .int x1)] [] M := by
  intro n
  induction n with
  | zero =>
    intro x1 M ha0 K h hK
    rw [f_X10_begin_L2] at h; cases h
  | succ n ih =>
    intro x1 M ha0 K h hK
    rw [f_X10_begin_L2] at h
    refine J_iload_n (pc' := 3) (i := 1) (n := 1) dX10_begin_2 rfl rfl rfl ?_
    refine J_bipush (pc' := 5) (v := (74 : Int32)) dX10_begin_3 rfl bp_74 ?_
    refine J_icmp_ge (pc' := 8) (tgt := 18) dX10_begin_5 rfl (by decide) (fun c1 => ?_) (fun c1 => ?_)
    · replace h := j_ip c1 h
      refine J_sub [0] (lv' := [(0, .ref a0)]) rfl ?_
      exact hK x1 M ha0 h
    · replace h := j_iq c1 h
      refine J_aload_n (pc' := 9) (i := 0) (n := 0) dX10_begin_8 rfl rfl rfl ?_
      refine J_iload_n (pc' := 10) (i := 1) (n := 1) dX10_begin_9 rfl rfl rfl ?_
      refine J_iconst (pc' := 11) (v := (0 : Int32)) dX10_begin_10 rfl ic_0 ?_
      obtain ⟨M2, e3, h⟩ := w_i_inv h
      have g4 : sh_a a0 n0 M2.2.2 := j_shI e3.2 ha0
      refine J_iaste (pc' := 12) dX10_begin_11 rfl (a_s ha0) (a_n ha0) e3 ?_
      refine J_iinc (pc' := 15) (i := 1) (n := 1) (v := (x1 + (1 : Int32))) (lv' := [(1, .int (x1 + (1 : Int32))), (0, .ref a0)]) dX10_begin_12 rfl rfl (j_inc _ _ rfl _) (by decide) rfl ?_
      refine J_goto (pc' := 2) dX10_begin_15 (by decide) ?_
      refine J_sub [1, 0] (lv' := [(0, .ref a0), (1, .int (x1 + (1 : Int32)))]) rfl ?_
      exact ih g4 h hK
set_option maxHeartbeats 4000000 in
theorem c_X10_begin {l : Launch} {G : j_G} {M : j_M} {a0 : Nat} {n0 : Nat} (ha0 : sh_a a0 n0 M.2.2) {r : j_M} (h : f_X10_begin M a0 n0 = some r) : j_Sp l G md_X10_begin 1 (0, 0) [.ref a0] M (po none r) := by
  refine j_Sp.of (by decide) (Nat.le_of_ble_eq_true rfl) ?_
  show JT_X10_begin l G r 0 [(0, .ref a0)] [] M
  unfold f_X10_begin at h
  refine J_iconst (pc' := 1) (v := (0 : Int32)) dX10_begin_0 rfl ic_0 ?_
  refine J_istore_n (pc' := 2) (i := 1) (lv' := [(1, .int (0 : Int32)), (0, .ref a0)]) dX10_begin_1 rfl rfl (by decide) rfl ?_
  refine J_sub [1, 0] (lv' := [(0, .ref a0), (1, .int (0 : Int32))]) rfl ?_
  refine L_X10_begin_L2 j_fu ha0 h (fun y5 M6 g7 h => ?_)
  refine J_aload_n (pc' := 19) (i := 0) (n := 0) dX10_begin_18 rfl rfl rfl ?_
  refine J_iconst (pc' := 20) (v := (5 : Int32)) dX10_begin_19 rfl ic_5 ?_
  refine J_iconst (pc' := 21) (v := (1 : Int32)) dX10_begin_20 rfl ic_1 ?_
  obtain ⟨M8, e9, h⟩ := w_i_inv h
  have g10 : sh_a a0 n0 M8.2.2 := j_shI e9.2 g7
  refine J_iaste (pc' := 22) dX10_begin_21 rfl (a_s g7) (a_n g7) e9 ?_
  refine J_aload_n (pc' := 23) (i := 0) (n := 0) dX10_begin_22 rfl rfl rfl ?_
  refine J_bipush (pc' := 25) (v := (6 : Int32)) dX10_begin_23 rfl bp_6 ?_
  refine J_iconst (pc' := 26) (v := (1 : Int32)) dX10_begin_25 rfl ic_1 ?_
  obtain ⟨M11, e12, h⟩ := w_i_inv h
  have g13 : sh_a a0 n0 M11.2.2 := j_shI e12.2 g10
  refine J_iaste (pc' := 27) dX10_begin_26 rfl (a_s g10) (a_n g10) e12 ?_
  refine J_aload_n (pc' := 28) (i := 0) (n := 0) dX10_begin_27 rfl rfl rfl ?_
  refine J_bipush (pc' := 30) (v := (7 : Int32)) dX10_begin_28 rfl bp_7 ?_
  refine J_iconst (pc' := 31) (v := (2 : Int32)) dX10_begin_30 rfl ic_2 ?_
  obtain ⟨M14, e15, h⟩ := w_i_inv h
  have g16 : sh_a a0 n0 M14.2.2 := j_shI e15.2 g13
  refine J_iaste (pc' := 32) dX10_begin_31 rfl (a_s g13) (a_n g13) e15 ?_
  exact J_vret rfl dX10_begin_32 ⟨rfl, Nat.le_refl _⟩ (j_pV h)
abbrev JT_X10_many (l : Launch) (G : j_G) (M : j_M) (r : Int32) : Nat → List (Nat × Value) → List Value → j_M → Prop := JJ l G md_X10_many (j_rm 1 (0, 0)) (0, 0) (0, 0) (po (some (.int r)) M)
noncomputable def f_X10_many (M : j_M)  : Option Int32 :=
  a_i M 36 250 (0 : Int32) fun v1 => (some v1)
set_option maxHeartbeats 4000000 in
theorem c_X10_many {l : Launch} {G : j_G} {M : j_M}  (hs : sh_m M.2.2) {r : Int32} (h : f_X10_many M  = some r) : j_Sp l G md_X10_many 1 (0, 0) [.ref 35] M (po (some (.int r)) M) := by
  refine j_Sp.of (by decide) (Nat.le_of_ble_eq_true rfl) ?_
  show JT_X10_many l G M r 0 [(0, .ref 35)] [] M
  unfold f_X10_many at h
  refine J_aload_n (pc' := 1) (i := 0) (n := 0) dX10_many_0 rfl rfl rfl ?_
  refine J_getR (pc' := 4) (b := 36) dX10_many_1 rfl fl_X10_7 rfl (m_o hs) (m_n hs (Nat.le_of_ble_eq_true rfl)) (m_r0 hs) ?_
  refine J_iconst (pc' := 5) (v := (0 : Int32)) dX10_many_4 rfl ic_0 ?_
  obtain ⟨v1, e2, h⟩ := a_i_inv h
  refine J_ialde (pc' := 6) dX10_many_5 rfl (m_s36 hs) (m_n hs (Nat.le_of_ble_eq_true rfl)) e2 ?_
  exact J_iret rfl dX10_many_6 ⟨rfl, Nat.le_refl _⟩ (j_pIs h)
abbrev JT_X10_isOne (l : Launch) (G : j_G) (M : j_M) (r : Int32) : Nat → List (Nat × Value) → List Value → j_M → Prop := JJ l G md_X10_isOne (j_rm 2 (0, 0)) (0, 0) (0, 0) (po (some (.int r)) M)
noncomputable def f_X10_isOne (M : j_M) (x1 : Int32) : Option Int32 :=
  (f_X10_many M).bind fun v1 => (tl (f_X10_in (x1).toInt64 (0 : Int64) ((v1 - (1 : Int32))).toInt64) fun v3 => (some v3))
set_option maxHeartbeats 4000000 in
theorem c_X10_isOne {l : Launch} {G : j_G} {M : j_M} {x1 : Int32} (hs : sh_m M.2.2) {r : Int32} (h : f_X10_isOne M x1 = some r) : j_Sp l G md_X10_isOne 2 (0, 0) [.ref 35, .int x1] M (po (some (.int r)) M) := by
  refine j_Sp.of (by decide) (Nat.le_of_ble_eq_true rfl) ?_
  show JT_X10_isOne l G M r 0 [(0, .ref 35), (1, .int x1)] [] M
  unfold f_X10_isOne at h
  refine J_iload_n (pc' := 1) (i := 1) (n := 1) dX10_isOne_0 rfl rfl rfl ?_
  refine J_i2l (pc' := 2) dX10_isOne_1 rfl ?_
  refine J_lconst (pc' := 3) (v := (0 : Int64)) dX10_isOne_2 rfl rfl ?_
  refine J_aload_n (pc' := 4) (i := 0) (n := 0) dX10_isOne_3 rfl rfl rfl ?_
  obtain ⟨v1, e2, h⟩ := bi_inv h
  refine J_callV (pc' := 7) (as := []) (rest := [.long (0 : Int64), .long (x1).toInt64]) dX10_isOne_4 rfl lk_X10_64 rfl 10 (by decide) rfl (m_o hs) (m_n hs (Nat.le_of_ble_eq_true rfl)) (c_X10_many hs e2) ⟨Nat.le_of_ble_eq_true rfl, Nat.le_of_ble_eq_true rfl⟩ (Nat.le_of_ble_eq_true rfl) ⟨Nat.le_of_ble_eq_true rfl, Nat.le_of_ble_eq_true rfl⟩ (j_kq ?_)
  refine J_iconst (pc' := 8) (v := (1 : Int32)) dX10_isOne_7 rfl ic_1 ?_
  refine J_isub (pc' := 9) dX10_isOne_8 rfl ?_
  refine J_i2l (pc' := 10) dX10_isOne_9 rfl ?_
  obtain ⟨v3, e4, h⟩ := tl_inv h
  refine J_callS (pc' := 13) (as := [.long (x1).toInt64, .long (0 : Int64), .long ((v1 - (1 : Int32))).toInt64]) (rest := []) dX10_isOne_10 rfl lk_X10_68 rfl (c_X10_in e4) ⟨Nat.le_of_ble_eq_true rfl, Nat.le_of_ble_eq_true rfl⟩ (Nat.le_of_ble_eq_true rfl) ⟨Nat.le_of_ble_eq_true rfl, Nat.le_of_ble_eq_true rfl⟩ (j_kq ?_)
  exact J_zret (ty := .boolean) rfl (j_z01 (e4 ▸ z_X10_in _ _ _)) dX10_isOne_13 ⟨rfl, Nat.le_refl _⟩ (j_pIs h)
abbrev JT_X10_isLane (l : Launch) (G : j_G) (M : j_M) (r : Int32) : Nat → List (Nat × Value) → List Value → j_M → Prop := JJ l G md_X10_isLane (j_rm 2 (0, 0)) (0, 0) (0, 0) (po (some (.int r)) M)
def f_X10_isLane (x0 : Int32) : Int32 :=
  tl (f_X10_in (x0).toInt64 (0 : Int64) (3 : Int64)) fun v1 => (v1)
theorem z_X10_isLane (x0 : Int32) : f_X10_isLane x0 = 0 ∨ f_X10_isLane x0 = 1 := by
  unfold f_X10_isLane
  try simp only [tl, jn]
  repeat' split
  all_goals first | exact Or.inl rfl | exact Or.inr rfl | exact z_X10_in _ _ _
set_option maxHeartbeats 4000000 in
theorem c_X10_isLane {l : Launch} {G : j_G} {M : j_M} {x0 : Int32}  {r : Int32} (h : f_X10_isLane x0 = r) : j_Sp l G md_X10_isLane 2 (0, 0) [.int x0] M (po (some (.int r)) M) := by
  refine j_Sp.of (by decide) (Nat.le_of_ble_eq_true rfl) ?_
  show JT_X10_isLane l G M r 0 [(0, .int x0)] [] M
  unfold f_X10_isLane at h
  refine J_iload_n (pc' := 1) (i := 0) (n := 0) dX10_isLane_0 rfl rfl rfl ?_
  refine J_i2l (pc' := 2) dX10_isLane_1 rfl ?_
  refine J_lconst (pc' := 3) (v := (0 : Int64)) dX10_isLane_2 rfl rfl ?_
  refine J_ldc2 (pc' := 6) (v := (3 : Int64)) dX10_isLane_3 rfl wd_993 ?_
  obtain ⟨v1, e2, h⟩ := tl_inv h
  refine J_callS (pc' := 9) (as := [.long (x0).toInt64, .long (0 : Int64), .long (3 : Int64)]) (rest := []) dX10_isLane_6 rfl lk_X10_68 rfl (c_X10_in e2) ⟨Nat.le_of_ble_eq_true rfl, Nat.le_of_ble_eq_true rfl⟩ (Nat.le_of_ble_eq_true rfl) ⟨Nat.le_of_ble_eq_true rfl, Nat.le_of_ble_eq_true rfl⟩ (j_kq ?_)
  exact J_zret (ty := .boolean) rfl (j_z01 (e2 ▸ z_X10_in _ _ _)) dX10_isLane_9 ⟨rfl, Nat.le_refl _⟩ (j_pI h)
abbrev JT_X10_isOpen (l : Launch) (G : j_G) (M : j_M) (r : Int32) : Nat → List (Nat × Value) → List Value → j_M → Prop := JJ l G md_X10_isOpen (j_rm 2 (0, 0)) (0, 0) (0, 0) (po (some (.int r)) M)
noncomputable def f_X10_isOpen (M : j_M) (x1 : Int32) : Option Int32 :=
  a_i M 36 250 (8 : Int32) fun v1 => (tl (f_X10_has v1 x1) fun v3 => (if v3 = 0 then (some (1 : Int32)) else (some (0 : Int32))))
set_option maxHeartbeats 4000000 in
theorem c_X10_isOpen {l : Launch} {G : j_G} {M : j_M} {x1 : Int32} (hs : sh_m M.2.2) {r : Int32} (h : f_X10_isOpen M x1 = some r) : j_Sp l G md_X10_isOpen 2 (0, 0) [.ref 35, .int x1] M (po (some (.int r)) M) := by
  refine j_Sp.of (by decide) (Nat.le_of_ble_eq_true rfl) ?_
  show JT_X10_isOpen l G M r 0 [(0, .ref 35), (1, .int x1)] [] M
  unfold f_X10_isOpen at h
  refine J_aload_n (pc' := 1) (i := 0) (n := 0) dX10_isOpen_0 rfl rfl rfl ?_
  refine J_getR (pc' := 4) (b := 36) dX10_isOpen_1 rfl fl_X10_7 rfl (m_o hs) (m_n hs (Nat.le_of_ble_eq_true rfl)) (m_r0 hs) ?_
  refine J_bipush (pc' := 6) (v := (8 : Int32)) dX10_isOpen_4 rfl bp_8 ?_
  obtain ⟨v1, e2, h⟩ := a_i_inv h
  refine J_ialde (pc' := 7) dX10_isOpen_6 rfl (m_s36 hs) (m_n hs (Nat.le_of_ble_eq_true rfl)) e2 ?_
  refine J_iload_n (pc' := 8) (i := 1) (n := 1) dX10_isOpen_7 rfl rfl rfl ?_
  obtain ⟨v3, e4, h⟩ := tl_inv h
  refine J_callS (pc' := 11) (as := [.int v1, .int x1]) (rest := []) dX10_isOpen_8 rfl lk_X10_74 rfl (c_X10_has e4) ⟨Nat.le_of_ble_eq_true rfl, Nat.le_of_ble_eq_true rfl⟩ (Nat.le_of_ble_eq_true rfl) ⟨Nat.le_of_ble_eq_true rfl, Nat.le_of_ble_eq_true rfl⟩ (j_kq ?_)
  refine J_if_ne (pc' := 14) (tgt := 18) dX10_isOpen_11 rfl (by decide) (fun c5 => ?_) (fun c5 => ?_)
  · replace h := j_iq c5 h
    refine J_iconst (pc' := 19) (v := (0 : Int32)) dX10_isOpen_18 rfl ic_0 ?_
    exact J_zret (ty := .boolean) rfl rfl dX10_isOpen_19 ⟨rfl, Nat.le_refl _⟩ (j_pIs h)
  · replace h := j_ip c5 h
    refine J_iconst (pc' := 15) (v := (1 : Int32)) dX10_isOpen_14 rfl ic_1 ?_
    refine J_goto (pc' := 19) dX10_isOpen_15 (by decide) ?_
    exact J_zret (ty := .boolean) rfl rfl dX10_isOpen_19 ⟨rfl, Nat.le_refl _⟩ (j_pIs h)
abbrev JT_X10_whoIsIn (l : Launch) (G : j_G) (M : j_M) (r : Int32) : Nat → List (Nat × Value) → List Value → j_M → Prop := JJ l G md_X10_whoIsIn (j_rm 1 (0, 0)) (0, 0) (0, 0) (po (some (.int r)) M)
noncomputable def f_X10_whoIsIn_L4 : Nat → Nat → Nat → j_M → Int32 → Int32 → Int32 → (Int32 → Int32 → Option Int32) → Option Int32
  | 0, _, _, _, _, _, _, _ => none
  | n + 1, a0, n0, M, x1, x2, x3, K =>
    a_i M a0 n0 (0 : Int32) fun v1 => (if v1 ≤ x3 then (K x2 x3) else (a_i M a0 n0 ((9 : Int32) + x3) fun v4 => (if v4 = x1 then (f_X10_whoIsIn_L4 n a0 n0 M x1 (x2 ||| ((1 : Int32) <<< (x3 &&& 31))) (x3 + (1 : Int32)) K) else (f_X10_whoIsIn_L4 n a0 n0 M x1 (x2 ||| (0 : Int32)) (x3 + (1 : Int32)) K))))
noncomputable def f_X10_whoIsIn (M : j_M) (a0 : Nat) (n0 : Nat) (x1 : Int32) : Option Int32 :=
  f_X10_whoIsIn_L4 j_fu a0 n0 M x1 (0 : Int32) (0 : Int32) (fun (y7 : Int32) (y8 : Int32) => (some y7))
set_option maxHeartbeats 4000000 in
theorem L_X10_whoIsIn_L4 {l : Launch} {G : j_G} {a0 : Nat} {n0 : Nat} {r : Int32} : ∀ (n : Nat) {x1 : Int32} {x2 : Int32} {x3 : Int32} {M : j_M} (ha0 : sh_a a0 n0 M.2.2) {K : Int32 → Int32 → Option Int32}, f_X10_whoIsIn_L4 n a0 n0 M x1 x2 x3 K = some r → (∀ (y2 : Int32) (y3 : Int32), K y2 y3 = some r → JT_X10_whoIsIn l G M r 37 [(2, .int y2)] [] M) → JT_X10_whoIsIn l G M r 4 [(0, .ref a0), (1, .int x1), (2, .int x2), (3, .int x3)] [] M := by
  intro n
  induction n with
  | zero =>
    intro x1 x2 x3 M ha0 K h hK
    rw [f_X10_whoIsIn_L4] at h; cases h
  | succ n ih =>
    intro x1 x2 x3 M ha0 K h hK
    rw [f_X10_whoIsIn_L4] at h
    refine J_iload_n (pc' := 5) (i := 3) (n := 3) dX10_whoIsIn_4 rfl rfl rfl ?_
    refine J_aload_n (pc' := 6) (i := 0) (n := 0) dX10_whoIsIn_5 rfl rfl rfl ?_
    refine J_iconst (pc' := 7) (v := (0 : Int32)) dX10_whoIsIn_6 rfl ic_0 ?_
    obtain ⟨v1, e2, h⟩ := a_i_inv h
    refine J_ialde (pc' := 8) dX10_whoIsIn_7 rfl (a_s ha0) (a_n ha0) e2 ?_
    refine J_icmp_ge (pc' := 11) (tgt := 37) dX10_whoIsIn_8 rfl (by decide) (fun c3 => ?_) (fun c3 => ?_)
    · replace h := j_ip c3 h
      refine J_sub [2] (lv' := [(2, .int x2)]) rfl ?_
      exact hK x2 x3  h
    · replace h := j_iq c3 h
      refine J_iload_n (pc' := 12) (i := 2) (n := 2) dX10_whoIsIn_11 rfl rfl rfl ?_
      refine J_aload_n (pc' := 13) (i := 0) (n := 0) dX10_whoIsIn_12 rfl rfl rfl ?_
      refine J_bipush (pc' := 15) (v := (9 : Int32)) dX10_whoIsIn_13 rfl bp_9 ?_
      refine J_iload_n (pc' := 16) (i := 3) (n := 3) dX10_whoIsIn_15 rfl rfl rfl ?_
      refine J_iadd (pc' := 17) dX10_whoIsIn_16 rfl ?_
      obtain ⟨v4, e5, h⟩ := a_i_inv h
      refine J_ialde (pc' := 18) dX10_whoIsIn_17 rfl (a_s ha0) (a_n ha0) e5 ?_
      refine J_iload_n (pc' := 19) (i := 1) (n := 1) dX10_whoIsIn_18 rfl rfl rfl ?_
      refine J_icmp_ne (pc' := 22) (tgt := 28) dX10_whoIsIn_19 rfl (by decide) (fun c6 => ?_) (fun c6 => ?_)
      · replace h := j_iq c6 h
        refine J_iconst (pc' := 29) (v := (0 : Int32)) dX10_whoIsIn_28 rfl ic_0 ?_
        refine J_ior (pc' := 30) dX10_whoIsIn_29 rfl ?_
        refine J_istore_n (pc' := 31) (i := 2) (lv' := [(2, .int (x2 ||| (0 : Int32))), (0, .ref a0), (1, .int x1), (3, .int x3)]) dX10_whoIsIn_30 rfl rfl (by decide) rfl ?_
        refine J_iinc (pc' := 34) (i := 3) (n := 3) (v := (x3 + (1 : Int32))) (lv' := [(3, .int (x3 + (1 : Int32))), (2, .int (x2 ||| (0 : Int32))), (0, .ref a0), (1, .int x1)]) dX10_whoIsIn_31 rfl rfl (j_inc _ _ rfl _) (by decide) rfl ?_
        refine J_goto (pc' := 4) dX10_whoIsIn_34 (by decide) ?_
        refine J_sub [2, 3, 1, 0] (lv' := [(0, .ref a0), (1, .int x1), (2, .int (x2 ||| (0 : Int32))), (3, .int (x3 + (1 : Int32)))]) rfl ?_
        exact ih ha0 h hK
      · replace h := j_ip c6 h
        refine J_iconst (pc' := 23) (v := (1 : Int32)) dX10_whoIsIn_22 rfl ic_1 ?_
        refine J_iload_n (pc' := 24) (i := 3) (n := 3) dX10_whoIsIn_23 rfl rfl rfl ?_
        refine J_ishl (pc' := 25) dX10_whoIsIn_24 rfl ?_
        refine J_goto (pc' := 29) dX10_whoIsIn_25 (by decide) ?_
        refine J_ior (pc' := 30) dX10_whoIsIn_29 rfl ?_
        refine J_istore_n (pc' := 31) (i := 2) (lv' := [(2, .int (x2 ||| ((1 : Int32) <<< (x3 &&& 31)))), (0, .ref a0), (1, .int x1), (3, .int x3)]) dX10_whoIsIn_30 rfl rfl (by decide) rfl ?_
        refine J_iinc (pc' := 34) (i := 3) (n := 3) (v := (x3 + (1 : Int32))) (lv' := [(3, .int (x3 + (1 : Int32))), (2, .int (x2 ||| ((1 : Int32) <<< (x3 &&& 31)))), (0, .ref a0), (1, .int x1)]) dX10_whoIsIn_31 rfl rfl (j_inc _ _ rfl _) (by decide) rfl ?_
        refine J_goto (pc' := 4) dX10_whoIsIn_34 (by decide) ?_
        refine J_sub [2, 3, 1, 0] (lv' := [(0, .ref a0), (1, .int x1), (2, .int (x2 ||| ((1 : Int32) <<< (x3 &&& 31)))), (3, .int (x3 + (1 : Int32)))]) rfl ?_
        exact ih ha0 h hK
set_option maxHeartbeats 4000000 in
theorem c_X10_whoIsIn {l : Launch} {G : j_G} {M : j_M} {a0 : Nat} {n0 : Nat} {x1 : Int32} (ha0 : sh_a a0 n0 M.2.2) {r : Int32} (h : f_X10_whoIsIn M a0 n0 x1 = some r) : j_Sp l G md_X10_whoIsIn 1 (0, 0) [.ref a0, .int x1] M (po (some (.int r)) M) := by
  refine j_Sp.of (by decide) (Nat.le_of_ble_eq_true rfl) ?_
  show JT_X10_whoIsIn l G M r 0 [(0, .ref a0), (1, .int x1)] [] M
  unfold f_X10_whoIsIn at h
  refine J_iconst (pc' := 1) (v := (0 : Int32)) dX10_whoIsIn_0 rfl ic_0 ?_
  refine J_istore_n (pc' := 2) (i := 2) (lv' := [(2, .int (0 : Int32)), (0, .ref a0), (1, .int x1)]) dX10_whoIsIn_1 rfl rfl (by decide) rfl ?_
  refine J_iconst (pc' := 3) (v := (0 : Int32)) dX10_whoIsIn_2 rfl ic_0 ?_
  refine J_istore_n (pc' := 4) (i := 3) (lv' := [(3, .int (0 : Int32)), (2, .int (0 : Int32)), (0, .ref a0), (1, .int x1)]) dX10_whoIsIn_3 rfl rfl (by decide) rfl ?_
  refine J_sub [2, 3, 1, 0] (lv' := [(0, .ref a0), (1, .int x1), (2, .int (0 : Int32)), (3, .int (0 : Int32))]) rfl ?_
  refine L_X10_whoIsIn_L4 j_fu ha0 h (fun y7 y8 h => ?_)
  refine J_iload_n (pc' := 38) (i := 2) (n := 0) dX10_whoIsIn_37 rfl rfl rfl ?_
  exact J_iret rfl dX10_whoIsIn_38 ⟨rfl, Nat.le_refl _⟩ (j_pIs h)
abbrev JT_X10_bath (l : Launch) (G : j_G) (r : (Int32 × j_M)) : Nat → List (Nat × Value) → List Value → j_M → Prop := JJ l G md_X10_bath (j_rm 2 (0, 0)) (0, 0) (0, 0) (po (some (.int r.1)) r.2)
noncomputable def f_X10_bath (M : j_M)  : Option (Int32 × j_M) :=
  (f_X10_many M).bind fun v1 => ((f_X10_begin M 36 250).bind fun q3 => j_ck M q3 (some (v1, q3)))
set_option maxHeartbeats 4000000 in
theorem c_X10_bath {l : Launch} {G : j_G} {M : j_M}  (hs : sh_m M.2.2) {r : (Int32 × j_M)} (h : f_X10_bath M  = some r) : j_Sp l G md_X10_bath 2 (0, 0) [.ref 35] M (po (some (.int r.1)) r.2) := by
  refine j_Sp.of (by decide) (Nat.le_of_ble_eq_true rfl) ?_
  show JT_X10_bath l G r 0 [(0, .ref 35)] [] M
  unfold f_X10_bath at h
  refine J_aload_n (pc' := 1) (i := 0) (n := 0) dX10_bath_0 rfl rfl rfl ?_
  obtain ⟨v1, e2, h⟩ := bi_inv h
  refine J_callV (pc' := 4) (as := []) (rest := []) dX10_bath_1 rfl lk_X10_64 rfl 10 (by decide) rfl (m_o hs) (m_n hs (Nat.le_of_ble_eq_true rfl)) (c_X10_many hs e2) ⟨Nat.le_of_ble_eq_true rfl, Nat.le_of_ble_eq_true rfl⟩ (Nat.le_of_ble_eq_true rfl) ⟨Nat.le_of_ble_eq_true rfl, Nat.le_of_ble_eq_true rfl⟩ (j_kq ?_)
  refine J_istore_n (pc' := 5) (i := 1) (lv' := [(1, .int v1), (0, .ref 35)]) dX10_bath_4 rfl rfl (by decide) rfl ?_
  refine J_aload_n (pc' := 6) (i := 0) (n := 1) dX10_bath_5 rfl rfl rfl ?_
  refine J_getR (pc' := 9) (b := 36) dX10_bath_6 rfl fl_X10_7 rfl (m_o hs) (m_n hs (Nat.le_of_ble_eq_true rfl)) (m_r0 hs) ?_
  obtain ⟨q3, e4, h⟩ := bi_inv h
  obtain ⟨c5, h⟩ := j_ck_inv h
  refine J_callS (pc' := 12) (as := [.ref 36]) (rest := []) dX10_bath_9 rfl lk_X10_60 rfl (c_X10_begin ⟨(m_s36 hs), (m_n hs (Nat.le_of_ble_eq_true rfl))⟩ e4) ⟨Nat.le_of_ble_eq_true rfl, Nat.le_of_ble_eq_true rfl⟩ (Nat.le_of_ble_eq_true rfl) ⟨Nat.le_of_ble_eq_true rfl, Nat.le_of_ble_eq_true rfl⟩ (j_kv ?_)
  have g6 : sh_m q3.2.2 := j_shE c5 hs
  refine J_iload_n (pc' := 13) (i := 1) (n := 0) dX10_bath_12 rfl rfl rfl ?_
  exact J_iret rfl dX10_bath_13 ⟨rfl, Nat.le_refl _⟩ (j_pW h)
abbrev JT_X10_sign (l : Launch) (G : j_G) (r : (Int32 × j_M)) : Nat → List (Nat × Value) → List Value → j_M → Prop := JJ l G md_X10_sign (j_rm 3 (0, 0)) (0, 0) (0, 0) (po (some (.int r.1)) r.2)
noncomputable def f_X10_sign (M : j_M) (x1 : Int32) (x2 : Int32) : Option (Int32 × j_M) :=
  tl (f_X10_isLane x1) fun v1 => (if v1 = 0 then ((f_X10_bad M ((-2) : Int32)).bind fun q4 => j_ck M q4.2 (some (q4.1, q4.2))) else (tl (f_X10_in (x2).toInt64 (0 : Int64) (2 : Int64)) fun v8 => (if v8 = 0 then ((f_X10_bad M ((-2) : Int32)).bind fun q16 => j_ck M q16.2 (some (q16.1, q16.2))) else (a_i M 36 250 ((4 : Int32) + x1) fun v11 => (w_i M 36 250 ((4 : Int32) + x1) x2 fun M13 => (some (v11, M13)))))))
set_option maxHeartbeats 4000000 in
theorem c_X10_sign {l : Launch} {G : j_G} {M : j_M} {x1 : Int32} {x2 : Int32} (hs : sh_m M.2.2) {r : (Int32 × j_M)} (h : f_X10_sign M x1 x2 = some r) : j_Sp l G md_X10_sign 3 (0, 0) [.ref 35, .int x1, .int x2] M (po (some (.int r.1)) r.2) := by
  refine j_Sp.of (by decide) (Nat.le_of_ble_eq_true rfl) ?_
  show JT_X10_sign l G r 0 [(0, .ref 35), (1, .int x1), (2, .int x2)] [] M
  unfold f_X10_sign at h
  refine J_iload_n (pc' := 1) (i := 1) (n := 1) dX10_sign_0 rfl rfl rfl ?_
  obtain ⟨v1, e2, h⟩ := tl_inv h
  refine J_callS (pc' := 4) (as := [.int x1]) (rest := []) dX10_sign_1 rfl lk_X10_78 rfl (c_X10_isLane e2) ⟨Nat.le_of_ble_eq_true rfl, Nat.le_of_ble_eq_true rfl⟩ (Nat.le_of_ble_eq_true rfl) ⟨Nat.le_of_ble_eq_true rfl, Nat.le_of_ble_eq_true rfl⟩ (j_kq ?_)
  refine J_if_eq (pc' := 7) (tgt := 19) dX10_sign_4 rfl (by decide) (fun c3 => ?_) (fun c3 => ?_)
  · replace h := j_ip c3 h
    refine J_aload_n (pc' := 20) (i := 0) (n := 0) dX10_sign_19 rfl rfl rfl ?_
    refine J_bipush (pc' := 22) (v := ((-2) : Int32)) dX10_sign_20 rfl bp_m2 ?_
    obtain ⟨q4, e5, h⟩ := bi_inv h
    obtain ⟨c6, h⟩ := j_ck_inv h
    refine J_callV (pc' := 25) (as := [.int ((-2) : Int32)]) (rest := []) dX10_sign_22 rfl lk_X10_84 rfl 10 (by decide) rfl (m_o hs) (m_n hs (Nat.le_of_ble_eq_true rfl)) (c_X10_bad hs e5) ⟨Nat.le_of_ble_eq_true rfl, Nat.le_of_ble_eq_true rfl⟩ (Nat.le_of_ble_eq_true rfl) ⟨Nat.le_of_ble_eq_true rfl, Nat.le_of_ble_eq_true rfl⟩ (j_kq ?_)
    have g7 : sh_m q4.2.2.2 := j_shE c6 hs
    exact J_iret rfl dX10_sign_25 ⟨rfl, Nat.le_refl _⟩ (j_pW h)
  · replace h := j_iq c3 h
    refine J_iload_n (pc' := 8) (i := 2) (n := 2) dX10_sign_7 rfl rfl rfl ?_
    refine J_i2l (pc' := 9) dX10_sign_8 rfl ?_
    refine J_lconst (pc' := 10) (v := (0 : Int64)) dX10_sign_9 rfl rfl ?_
    refine J_ldc2 (pc' := 13) (v := (2 : Int64)) dX10_sign_10 rfl wd_997 ?_
    obtain ⟨v8, e9, h⟩ := tl_inv h
    refine J_callS (pc' := 16) (as := [.long (x2).toInt64, .long (0 : Int64), .long (2 : Int64)]) (rest := []) dX10_sign_13 rfl lk_X10_68 rfl (c_X10_in e9) ⟨Nat.le_of_ble_eq_true rfl, Nat.le_of_ble_eq_true rfl⟩ (Nat.le_of_ble_eq_true rfl) ⟨Nat.le_of_ble_eq_true rfl, Nat.le_of_ble_eq_true rfl⟩ (j_kq ?_)
    refine J_if_ne (pc' := 19) (tgt := 26) dX10_sign_16 rfl (by decide) (fun c10 => ?_) (fun c10 => ?_)
    · replace h := j_iq c10 h
      refine J_aload_n (pc' := 27) (i := 0) (n := 0) dX10_sign_26 rfl rfl rfl ?_
      refine J_getR (pc' := 30) (b := 36) dX10_sign_27 rfl fl_X10_7 rfl (m_o hs) (m_n hs (Nat.le_of_ble_eq_true rfl)) (m_r0 hs) ?_
      refine J_iconst (pc' := 31) (v := (4 : Int32)) dX10_sign_30 rfl ic_4 ?_
      refine J_iload_n (pc' := 32) (i := 1) (n := 1) dX10_sign_31 rfl rfl rfl ?_
      refine J_iadd (pc' := 33) dX10_sign_32 rfl ?_
      obtain ⟨v11, e12, h⟩ := a_i_inv h
      refine J_ialde (pc' := 34) dX10_sign_33 rfl (m_s36 hs) (m_n hs (Nat.le_of_ble_eq_true rfl)) e12 ?_
      refine J_istore_n (pc' := 35) (i := 3) (lv' := [(3, .int v11), (0, .ref 35), (1, .int x1), (2, .int x2)]) dX10_sign_34 rfl rfl (by decide) rfl ?_
      refine J_aload_n (pc' := 36) (i := 0) (n := 1) dX10_sign_35 rfl rfl rfl ?_
      refine J_getR (pc' := 39) (b := 36) dX10_sign_36 rfl fl_X10_7 rfl (m_o hs) (m_n hs (Nat.le_of_ble_eq_true rfl)) (m_r0 hs) ?_
      refine J_iconst (pc' := 40) (v := (4 : Int32)) dX10_sign_39 rfl ic_4 ?_
      refine J_iload_n (pc' := 41) (i := 1) (n := 2) dX10_sign_40 rfl rfl rfl ?_
      refine J_iadd (pc' := 42) dX10_sign_41 rfl ?_
      refine J_iload_n (pc' := 43) (i := 2) (n := 3) dX10_sign_42 rfl rfl rfl ?_
      obtain ⟨M13, e14, h⟩ := w_i_inv h
      have g15 : sh_m M13.2.2 := j_shI e14.2 hs
      refine J_iaste (pc' := 44) dX10_sign_43 rfl (m_s36 hs) (m_n hs (Nat.le_of_ble_eq_true rfl)) e14 ?_
      refine J_iload_n (pc' := 45) (i := 3) (n := 0) dX10_sign_44 rfl rfl rfl ?_
      exact J_iret rfl dX10_sign_45 ⟨rfl, Nat.le_refl _⟩ (j_pW h)
    · replace h := j_ip c10 h
      refine J_aload_n (pc' := 20) (i := 0) (n := 0) dX10_sign_19 rfl rfl rfl ?_
      refine J_bipush (pc' := 22) (v := ((-2) : Int32)) dX10_sign_20 rfl bp_m2 ?_
      obtain ⟨q16, e17, h⟩ := bi_inv h
      obtain ⟨c18, h⟩ := j_ck_inv h
      refine J_callV (pc' := 25) (as := [.int ((-2) : Int32)]) (rest := []) dX10_sign_22 rfl lk_X10_84 rfl 10 (by decide) rfl (m_o hs) (m_n hs (Nat.le_of_ble_eq_true rfl)) (c_X10_bad hs e17) ⟨Nat.le_of_ble_eq_true rfl, Nat.le_of_ble_eq_true rfl⟩ (Nat.le_of_ble_eq_true rfl) ⟨Nat.le_of_ble_eq_true rfl, Nat.le_of_ble_eq_true rfl⟩ (j_kq ?_)
      have g19 : sh_m q16.2.2.2 := j_shE c18 hs
      exact J_iret rfl dX10_sign_25 ⟨rfl, Nat.le_refl _⟩ (j_pW h)
abbrev JT_X10_shut (l : Launch) (G : j_G) (r : (Int32 × j_M)) : Nat → List (Nat × Value) → List Value → j_M → Prop := JJ l G md_X10_shut (j_rm 3 (0, 0)) (0, 0) (0, 0) (po (some (.int r.1)) r.2)
noncomputable def f_X10_shut (M : j_M) (x1 : Int32) (x2 : Int32) : Option (Int32 × j_M) :=
  tl (f_X10_isLane x1) fun v1 => (if v1 = 0 then ((f_X10_bad M ((-2) : Int32)).bind fun q4 => j_ck M q4.2 (some (q4.1, q4.2))) else (tl (f_X10_in (x2).toInt64 (0 : Int64) (1 : Int64)) fun v8 => (if v8 = 0 then ((f_X10_bad M ((-2) : Int32)).bind fun q51 => j_ck M q51.2 (some (q51.1, q51.2))) else (if x2 = (1 : Int32) then ((f_X10_whoIsIn M 36 250 x1).bind fun v28 => (if v28 = 0 then (a_i M 36 250 (8 : Int32) fun v31 => (jn (fun (v34 : Int32) => (w_i M 36 250 (8 : Int32) v34 fun M37 => (w_i M37 36 250 (3 : Int32) (0 : Int32) fun M40 => (some (((v31 >>> (x1 &&& 31)) &&& (1 : Int32)), M40))))) (fun K35 => (if x2 = (1 : Int32) then (a_i M 36 250 (8 : Int32) fun v45 => (K35 (v45 ||| ((1 : Int32) <<< (x1 &&& 31))))) else (a_i M 36 250 (8 : Int32) fun v43 => (K35 (v43 &&& (((1 : Int32) <<< (x1 &&& 31)) ^^^ ((-1) : Int32))))))))) else ((f_X10_no M).bind fun q47 => j_ck M q47.2 (some (q47.1, q47.2))))) else (a_i M 36 250 (8 : Int32) fun v12 => (jn (fun (v15 : Int32) => (w_i M 36 250 (8 : Int32) v15 fun M18 => (w_i M18 36 250 (3 : Int32) (0 : Int32) fun M21 => (some (((v12 >>> (x1 &&& 31)) &&& (1 : Int32)), M21))))) (fun K16 => (if x2 = (1 : Int32) then (a_i M 36 250 (8 : Int32) fun v26 => (K16 (v26 ||| ((1 : Int32) <<< (x1 &&& 31))))) else (a_i M 36 250 (8 : Int32) fun v24 => (K16 (v24 &&& (((1 : Int32) <<< (x1 &&& 31)) ^^^ ((-1) : Int32)))))))))))))
set_option maxHeartbeats 4000000 in
theorem c_X10_shut {l : Launch} {G : j_G} {M : j_M} {x1 : Int32} {x2 : Int32} (hs : sh_m M.2.2) {r : (Int32 × j_M)} (h : f_X10_shut M x1 x2 = some r) : j_Sp l G md_X10_shut 3 (0, 0) [.ref 35, .int x1, .int x2] M (po (some (.int r.1)) r.2) := by
  refine j_Sp.of (by decide) (Nat.le_of_ble_eq_true rfl) ?_
  show JT_X10_shut l G r 0 [(0, .ref 35), (1, .int x1), (2, .int x2)] [] M
  unfold f_X10_shut at h
  refine J_iload_n (pc' := 1) (i := 1) (n := 1) dX10_shut_0 rfl rfl rfl ?_
  obtain ⟨v1, e2, h⟩ := tl_inv h
  refine J_callS (pc' := 4) (as := [.int x1]) (rest := []) dX10_shut_1 rfl lk_X10_78 rfl (c_X10_isLane e2) ⟨Nat.le_of_ble_eq_true rfl, Nat.le_of_ble_eq_true rfl⟩ (Nat.le_of_ble_eq_true rfl) ⟨Nat.le_of_ble_eq_true rfl, Nat.le_of_ble_eq_true rfl⟩ (j_kq ?_)
  refine J_if_eq (pc' := 7) (tgt := 17) dX10_shut_4 rfl (by decide) (fun c3 => ?_) (fun c3 => ?_)
  · replace h := j_ip c3 h
    refine J_aload_n (pc' := 18) (i := 0) (n := 0) dX10_shut_17 rfl rfl rfl ?_
    refine J_bipush (pc' := 20) (v := ((-2) : Int32)) dX10_shut_18 rfl bp_m2 ?_
    obtain ⟨q4, e5, h⟩ := bi_inv h
    obtain ⟨c6, h⟩ := j_ck_inv h
    refine J_callV (pc' := 23) (as := [.int ((-2) : Int32)]) (rest := []) dX10_shut_20 rfl lk_X10_84 rfl 10 (by decide) rfl (m_o hs) (m_n hs (Nat.le_of_ble_eq_true rfl)) (c_X10_bad hs e5) ⟨Nat.le_of_ble_eq_true rfl, Nat.le_of_ble_eq_true rfl⟩ (Nat.le_of_ble_eq_true rfl) ⟨Nat.le_of_ble_eq_true rfl, Nat.le_of_ble_eq_true rfl⟩ (j_kq ?_)
    have g7 : sh_m q4.2.2.2 := j_shE c6 hs
    exact J_iret rfl dX10_shut_23 ⟨rfl, Nat.le_refl _⟩ (j_pW h)
  · replace h := j_iq c3 h
    refine J_iload_n (pc' := 8) (i := 2) (n := 2) dX10_shut_7 rfl rfl rfl ?_
    refine J_i2l (pc' := 9) dX10_shut_8 rfl ?_
    refine J_lconst (pc' := 10) (v := (0 : Int64)) dX10_shut_9 rfl rfl ?_
    refine J_lconst (pc' := 11) (v := (1 : Int64)) dX10_shut_10 rfl rfl ?_
    obtain ⟨v8, e9, h⟩ := tl_inv h
    refine J_callS (pc' := 14) (as := [.long (x2).toInt64, .long (0 : Int64), .long (1 : Int64)]) (rest := []) dX10_shut_11 rfl lk_X10_68 rfl (c_X10_in e9) ⟨Nat.le_of_ble_eq_true rfl, Nat.le_of_ble_eq_true rfl⟩ (Nat.le_of_ble_eq_true rfl) ⟨Nat.le_of_ble_eq_true rfl, Nat.le_of_ble_eq_true rfl⟩ (j_kq ?_)
    refine J_if_ne (pc' := 17) (tgt := 24) dX10_shut_14 rfl (by decide) (fun c10 => ?_) (fun c10 => ?_)
    · replace h := j_iq c10 h
      refine J_iload_n (pc' := 25) (i := 2) (n := 2) dX10_shut_24 rfl rfl rfl ?_
      refine J_iconst (pc' := 26) (v := (1 : Int32)) dX10_shut_25 rfl ic_1 ?_
      refine J_icmp_ne (pc' := 29) (tgt := 45) dX10_shut_26 rfl (by decide) (fun c11 => ?_) (fun c11 => ?_)
      · replace h := j_iq c11 h
        refine J_aload_n (pc' := 46) (i := 0) (n := 0) dX10_shut_45 rfl rfl rfl ?_
        refine J_getR (pc' := 49) (b := 36) dX10_shut_46 rfl fl_X10_7 rfl (m_o hs) (m_n hs (Nat.le_of_ble_eq_true rfl)) (m_r0 hs) ?_
        refine J_bipush (pc' := 51) (v := (8 : Int32)) dX10_shut_49 rfl bp_8 ?_
        obtain ⟨v12, e13, h⟩ := a_i_inv h
        refine J_ialde (pc' := 52) dX10_shut_51 rfl (m_s36 hs) (m_n hs (Nat.le_of_ble_eq_true rfl)) e13 ?_
        refine J_iload_n (pc' := 53) (i := 1) (n := 1) dX10_shut_52 rfl rfl rfl ?_
        refine J_ishr (pc' := 54) dX10_shut_53 rfl ?_
        refine J_iconst (pc' := 55) (v := (1 : Int32)) dX10_shut_54 rfl ic_1 ?_
        refine J_iand (pc' := 56) dX10_shut_55 rfl ?_
        refine J_istore_n (pc' := 57) (i := 3) (lv' := [(3, .int ((v12 >>> (x1 &&& 31)) &&& (1 : Int32))), (0, .ref 35), (1, .int x1), (2, .int x2)]) dX10_shut_56 rfl rfl (by decide) rfl ?_
        refine J_aload_n (pc' := 58) (i := 0) (n := 1) dX10_shut_57 rfl rfl rfl ?_
        refine J_getR (pc' := 61) (b := 36) dX10_shut_58 rfl fl_X10_7 rfl (m_o hs) (m_n hs (Nat.le_of_ble_eq_true rfl)) (m_r0 hs) ?_
        refine J_bipush (pc' := 63) (v := (8 : Int32)) dX10_shut_61 rfl bp_8 ?_
        refine J_iload_n (pc' := 64) (i := 2) (n := 3) dX10_shut_63 rfl rfl rfl ?_
        refine J_iconst (pc' := 65) (v := (1 : Int32)) dX10_shut_64 rfl ic_1 ?_
        refine J_join (C := fun (v15 : Int32) => JT_X10_shut l G r 95 [(0, .ref 35), (3, .int ((v12 >>> (x1 &&& 31)) &&& (1 : Int32)))] [.int v15, .int (8 : Int32), .ref 36] M) h (fun v15 h => ?_) (fun K16 h17 h => ?_)
        · obtain ⟨M18, e19, h⟩ := w_i_inv h
          have g20 : sh_m M18.2.2 := j_shI e19.2 hs
          refine J_iaste (pc' := 96) dX10_shut_95 rfl (m_s36 hs) (m_n hs (Nat.le_of_ble_eq_true rfl)) e19 ?_
          refine J_aload_n (pc' := 97) (i := 0) (n := 0) dX10_shut_96 rfl rfl rfl ?_
          refine J_getR (pc' := 100) (b := 36) dX10_shut_97 rfl fl_X10_7 rfl (m_o g20) (m_n g20 (Nat.le_of_ble_eq_true rfl)) (m_r0 g20) ?_
          refine J_iconst (pc' := 101) (v := (3 : Int32)) dX10_shut_100 rfl ic_3 ?_
          refine J_iconst (pc' := 102) (v := (0 : Int32)) dX10_shut_101 rfl ic_0 ?_
          obtain ⟨M21, e22, h⟩ := w_i_inv h
          have g23 : sh_m M21.2.2 := j_shI e22.2 g20
          refine J_iaste (pc' := 103) dX10_shut_102 rfl (m_s36 g20) (m_n g20 (Nat.le_of_ble_eq_true rfl)) e22 ?_
          refine J_iload_n (pc' := 104) (i := 3) (n := 1) dX10_shut_103 rfl rfl rfl ?_
          exact J_iret rfl dX10_shut_104 ⟨rfl, Nat.le_refl _⟩ (j_pW h)
        · refine J_icmp_ne (pc' := 68) (tgt := 82) dX10_shut_65 rfl (by decide) (fun c14 => ?_) (fun c14 => ?_)
          · replace h := j_iq c14 h
            refine J_aload_n (pc' := 83) (i := 0) (n := 1) dX10_shut_82 rfl rfl rfl ?_
            refine J_getR (pc' := 86) (b := 36) dX10_shut_83 rfl fl_X10_7 rfl (m_o hs) (m_n hs (Nat.le_of_ble_eq_true rfl)) (m_r0 hs) ?_
            refine J_bipush (pc' := 88) (v := (8 : Int32)) dX10_shut_86 rfl bp_8 ?_
            obtain ⟨v24, e25, h⟩ := a_i_inv h
            refine J_ialde (pc' := 89) dX10_shut_88 rfl (m_s36 hs) (m_n hs (Nat.le_of_ble_eq_true rfl)) e25 ?_
            refine J_iconst (pc' := 90) (v := (1 : Int32)) dX10_shut_89 rfl ic_1 ?_
            refine J_iload_n (pc' := 91) (i := 1) (n := 2) dX10_shut_90 rfl rfl rfl ?_
            refine J_ishl (pc' := 92) dX10_shut_91 rfl ?_
            refine J_iconst (pc' := 93) (v := ((-1) : Int32)) dX10_shut_92 rfl ic_m1 ?_
            refine J_ixor (pc' := 94) dX10_shut_93 rfl ?_
            refine J_iand (pc' := 95) dX10_shut_94 rfl ?_
            refine J_sub [1, 0] (lv' := [(0, .ref 35), (3, .int ((v12 >>> (x1 &&& 31)) &&& (1 : Int32)))]) rfl ?_
            exact h17 (v24 &&& (((1 : Int32) <<< (x1 &&& 31)) ^^^ ((-1) : Int32))) h
          · replace h := j_ip c14 h
            refine J_aload_n (pc' := 69) (i := 0) (n := 1) dX10_shut_68 rfl rfl rfl ?_
            refine J_getR (pc' := 72) (b := 36) dX10_shut_69 rfl fl_X10_7 rfl (m_o hs) (m_n hs (Nat.le_of_ble_eq_true rfl)) (m_r0 hs) ?_
            refine J_bipush (pc' := 74) (v := (8 : Int32)) dX10_shut_72 rfl bp_8 ?_
            obtain ⟨v26, e27, h⟩ := a_i_inv h
            refine J_ialde (pc' := 75) dX10_shut_74 rfl (m_s36 hs) (m_n hs (Nat.le_of_ble_eq_true rfl)) e27 ?_
            refine J_iconst (pc' := 76) (v := (1 : Int32)) dX10_shut_75 rfl ic_1 ?_
            refine J_iload_n (pc' := 77) (i := 1) (n := 2) dX10_shut_76 rfl rfl rfl ?_
            refine J_ishl (pc' := 78) dX10_shut_77 rfl ?_
            refine J_ior (pc' := 79) dX10_shut_78 rfl ?_
            refine J_goto (pc' := 95) dX10_shut_79 (by decide) ?_
            refine J_sub [1, 0] (lv' := [(0, .ref 35), (3, .int ((v12 >>> (x1 &&& 31)) &&& (1 : Int32)))]) rfl ?_
            exact h17 (v26 ||| ((1 : Int32) <<< (x1 &&& 31))) h
      · replace h := j_ip c11 h
        refine J_aload_n (pc' := 30) (i := 0) (n := 0) dX10_shut_29 rfl rfl rfl ?_
        refine J_getR (pc' := 33) (b := 36) dX10_shut_30 rfl fl_X10_7 rfl (m_o hs) (m_n hs (Nat.le_of_ble_eq_true rfl)) (m_r0 hs) ?_
        refine J_iload_n (pc' := 34) (i := 1) (n := 1) dX10_shut_33 rfl rfl rfl ?_
        obtain ⟨v28, e29, h⟩ := bi_inv h
        refine J_callS (pc' := 37) (as := [.ref 36, .int x1]) (rest := []) dX10_shut_34 rfl lk_X10_88 rfl (c_X10_whoIsIn ⟨(m_s36 hs), (m_n hs (Nat.le_of_ble_eq_true rfl))⟩ e29) ⟨Nat.le_of_ble_eq_true rfl, Nat.le_of_ble_eq_true rfl⟩ (Nat.le_of_ble_eq_true rfl) ⟨Nat.le_of_ble_eq_true rfl, Nat.le_of_ble_eq_true rfl⟩ (j_kq ?_)
        refine J_if_eq (pc' := 40) (tgt := 45) dX10_shut_37 rfl (by decide) (fun c30 => ?_) (fun c30 => ?_)
        · replace h := j_ip c30 h
          refine J_aload_n (pc' := 46) (i := 0) (n := 0) dX10_shut_45 rfl rfl rfl ?_
          refine J_getR (pc' := 49) (b := 36) dX10_shut_46 rfl fl_X10_7 rfl (m_o hs) (m_n hs (Nat.le_of_ble_eq_true rfl)) (m_r0 hs) ?_
          refine J_bipush (pc' := 51) (v := (8 : Int32)) dX10_shut_49 rfl bp_8 ?_
          obtain ⟨v31, e32, h⟩ := a_i_inv h
          refine J_ialde (pc' := 52) dX10_shut_51 rfl (m_s36 hs) (m_n hs (Nat.le_of_ble_eq_true rfl)) e32 ?_
          refine J_iload_n (pc' := 53) (i := 1) (n := 1) dX10_shut_52 rfl rfl rfl ?_
          refine J_ishr (pc' := 54) dX10_shut_53 rfl ?_
          refine J_iconst (pc' := 55) (v := (1 : Int32)) dX10_shut_54 rfl ic_1 ?_
          refine J_iand (pc' := 56) dX10_shut_55 rfl ?_
          refine J_istore_n (pc' := 57) (i := 3) (lv' := [(3, .int ((v31 >>> (x1 &&& 31)) &&& (1 : Int32))), (0, .ref 35), (1, .int x1), (2, .int x2)]) dX10_shut_56 rfl rfl (by decide) rfl ?_
          refine J_aload_n (pc' := 58) (i := 0) (n := 1) dX10_shut_57 rfl rfl rfl ?_
          refine J_getR (pc' := 61) (b := 36) dX10_shut_58 rfl fl_X10_7 rfl (m_o hs) (m_n hs (Nat.le_of_ble_eq_true rfl)) (m_r0 hs) ?_
          refine J_bipush (pc' := 63) (v := (8 : Int32)) dX10_shut_61 rfl bp_8 ?_
          refine J_iload_n (pc' := 64) (i := 2) (n := 3) dX10_shut_63 rfl rfl rfl ?_
          refine J_iconst (pc' := 65) (v := (1 : Int32)) dX10_shut_64 rfl ic_1 ?_
          refine J_join (C := fun (v34 : Int32) => JT_X10_shut l G r 95 [(0, .ref 35), (3, .int ((v31 >>> (x1 &&& 31)) &&& (1 : Int32)))] [.int v34, .int (8 : Int32), .ref 36] M) h (fun v34 h => ?_) (fun K35 h36 h => ?_)
          · obtain ⟨M37, e38, h⟩ := w_i_inv h
            have g39 : sh_m M37.2.2 := j_shI e38.2 hs
            refine J_iaste (pc' := 96) dX10_shut_95 rfl (m_s36 hs) (m_n hs (Nat.le_of_ble_eq_true rfl)) e38 ?_
            refine J_aload_n (pc' := 97) (i := 0) (n := 0) dX10_shut_96 rfl rfl rfl ?_
            refine J_getR (pc' := 100) (b := 36) dX10_shut_97 rfl fl_X10_7 rfl (m_o g39) (m_n g39 (Nat.le_of_ble_eq_true rfl)) (m_r0 g39) ?_
            refine J_iconst (pc' := 101) (v := (3 : Int32)) dX10_shut_100 rfl ic_3 ?_
            refine J_iconst (pc' := 102) (v := (0 : Int32)) dX10_shut_101 rfl ic_0 ?_
            obtain ⟨M40, e41, h⟩ := w_i_inv h
            have g42 : sh_m M40.2.2 := j_shI e41.2 g39
            refine J_iaste (pc' := 103) dX10_shut_102 rfl (m_s36 g39) (m_n g39 (Nat.le_of_ble_eq_true rfl)) e41 ?_
            refine J_iload_n (pc' := 104) (i := 3) (n := 1) dX10_shut_103 rfl rfl rfl ?_
            exact J_iret rfl dX10_shut_104 ⟨rfl, Nat.le_refl _⟩ (j_pW h)
          · refine J_icmp_ne (pc' := 68) (tgt := 82) dX10_shut_65 rfl (by decide) (fun c33 => ?_) (fun c33 => ?_)
            · replace h := j_iq c33 h
              refine J_aload_n (pc' := 83) (i := 0) (n := 1) dX10_shut_82 rfl rfl rfl ?_
              refine J_getR (pc' := 86) (b := 36) dX10_shut_83 rfl fl_X10_7 rfl (m_o hs) (m_n hs (Nat.le_of_ble_eq_true rfl)) (m_r0 hs) ?_
              refine J_bipush (pc' := 88) (v := (8 : Int32)) dX10_shut_86 rfl bp_8 ?_
              obtain ⟨v43, e44, h⟩ := a_i_inv h
              refine J_ialde (pc' := 89) dX10_shut_88 rfl (m_s36 hs) (m_n hs (Nat.le_of_ble_eq_true rfl)) e44 ?_
              refine J_iconst (pc' := 90) (v := (1 : Int32)) dX10_shut_89 rfl ic_1 ?_
              refine J_iload_n (pc' := 91) (i := 1) (n := 2) dX10_shut_90 rfl rfl rfl ?_
              refine J_ishl (pc' := 92) dX10_shut_91 rfl ?_
              refine J_iconst (pc' := 93) (v := ((-1) : Int32)) dX10_shut_92 rfl ic_m1 ?_
              refine J_ixor (pc' := 94) dX10_shut_93 rfl ?_
              refine J_iand (pc' := 95) dX10_shut_94 rfl ?_
              refine J_sub [1, 0] (lv' := [(0, .ref 35), (3, .int ((v31 >>> (x1 &&& 31)) &&& (1 : Int32)))]) rfl ?_
              exact h36 (v43 &&& (((1 : Int32) <<< (x1 &&& 31)) ^^^ ((-1) : Int32))) h
            · replace h := j_ip c33 h
              refine J_aload_n (pc' := 69) (i := 0) (n := 1) dX10_shut_68 rfl rfl rfl ?_
              refine J_getR (pc' := 72) (b := 36) dX10_shut_69 rfl fl_X10_7 rfl (m_o hs) (m_n hs (Nat.le_of_ble_eq_true rfl)) (m_r0 hs) ?_
              refine J_bipush (pc' := 74) (v := (8 : Int32)) dX10_shut_72 rfl bp_8 ?_
              obtain ⟨v45, e46, h⟩ := a_i_inv h
              refine J_ialde (pc' := 75) dX10_shut_74 rfl (m_s36 hs) (m_n hs (Nat.le_of_ble_eq_true rfl)) e46 ?_
              refine J_iconst (pc' := 76) (v := (1 : Int32)) dX10_shut_75 rfl ic_1 ?_
              refine J_iload_n (pc' := 77) (i := 1) (n := 2) dX10_shut_76 rfl rfl rfl ?_
              refine J_ishl (pc' := 78) dX10_shut_77 rfl ?_
              refine J_ior (pc' := 79) dX10_shut_78 rfl ?_
              refine J_goto (pc' := 95) dX10_shut_79 (by decide) ?_
              refine J_sub [1, 0] (lv' := [(0, .ref 35), (3, .int ((v31 >>> (x1 &&& 31)) &&& (1 : Int32)))]) rfl ?_
              exact h36 (v45 ||| ((1 : Int32) <<< (x1 &&& 31))) h
        · replace h := j_iq c30 h
          refine J_aload_n (pc' := 41) (i := 0) (n := 0) dX10_shut_40 rfl rfl rfl ?_
          obtain ⟨q47, e48, h⟩ := bi_inv h
          obtain ⟨c49, h⟩ := j_ck_inv h
          refine J_callV (pc' := 44) (as := []) (rest := []) dX10_shut_41 rfl lk_X10_92 rfl 10 (by decide) rfl (m_o hs) (m_n hs (Nat.le_of_ble_eq_true rfl)) (c_X10_no hs e48) ⟨Nat.le_of_ble_eq_true rfl, Nat.le_of_ble_eq_true rfl⟩ (Nat.le_of_ble_eq_true rfl) ⟨Nat.le_of_ble_eq_true rfl, Nat.le_of_ble_eq_true rfl⟩ (j_kq ?_)
          have g50 : sh_m q47.2.2.2 := j_shE c49 hs
          exact J_iret rfl dX10_shut_44 ⟨rfl, Nat.le_refl _⟩ (j_pW h)
    · replace h := j_ip c10 h
      refine J_aload_n (pc' := 18) (i := 0) (n := 0) dX10_shut_17 rfl rfl rfl ?_
      refine J_bipush (pc' := 20) (v := ((-2) : Int32)) dX10_shut_18 rfl bp_m2 ?_
      obtain ⟨q51, e52, h⟩ := bi_inv h
      obtain ⟨c53, h⟩ := j_ck_inv h
      refine J_callV (pc' := 23) (as := [.int ((-2) : Int32)]) (rest := []) dX10_shut_20 rfl lk_X10_84 rfl 10 (by decide) rfl (m_o hs) (m_n hs (Nat.le_of_ble_eq_true rfl)) (c_X10_bad hs e52) ⟨Nat.le_of_ble_eq_true rfl, Nat.le_of_ble_eq_true rfl⟩ (Nat.le_of_ble_eq_true rfl) ⟨Nat.le_of_ble_eq_true rfl, Nat.le_of_ble_eq_true rfl⟩ (j_kq ?_)
      have g54 : sh_m q51.2.2.2 := j_shE c53 hs
      exact J_iret rfl dX10_shut_23 ⟨rfl, Nat.le_refl _⟩ (j_pW h)
abbrev JT_X10_layOne (l : Launch) (G : j_G) (r : j_M) : Nat → List (Nat × Value) → List Value → j_M → Prop := JJ l G md_X10_layOne (j_rm 1 (0, 0)) (0, 0) (0, 0) (po none r)
noncomputable def f_X10_layOne (M : j_M) (a0 : Nat) (n0 : Nat) (x1 : Int32) (x2 : Int32) (x3 : Int32) : Option j_M :=
  a_i M a0 n0 (0 : Int32) fun v1 => (w_i M a0 n0 ((30 : Int32) + v1) x1 fun M3 => (w_i M3 a0 n0 ((37 : Int32) + v1) x2 fun M6 => (w_i M6 a0 n0 ((9 : Int32) + v1) x3 fun M9 => (w_i M9 a0 n0 ((16 : Int32) + v1) (0 : Int32) fun M12 => (w_i M12 a0 n0 ((23 : Int32) + v1) (0 : Int32) fun M15 => (a_i M15 a0 n0 (0 : Int32) fun v18 => (w_i M15 a0 n0 (0 : Int32) (v18 + (1 : Int32)) fun M20 => (some M20))))))))
set_option maxHeartbeats 4000000 in
theorem c_X10_layOne {l : Launch} {G : j_G} {M : j_M} {a0 : Nat} {n0 : Nat} {x1 : Int32} {x2 : Int32} {x3 : Int32} (ha0 : sh_a a0 n0 M.2.2) {r : j_M} (h : f_X10_layOne M a0 n0 x1 x2 x3 = some r) : j_Sp l G md_X10_layOne 1 (0, 0) [.ref a0, .int x1, .int x2, .int x3] M (po none r) := by
  refine j_Sp.of (by decide) (Nat.le_of_ble_eq_true rfl) ?_
  show JT_X10_layOne l G r 0 [(0, .ref a0), (1, .int x1), (2, .int x2), (3, .int x3)] [] M
  unfold f_X10_layOne at h
  refine J_aload_n (pc' := 1) (i := 0) (n := 0) dX10_layOne_0 rfl rfl rfl ?_
  refine J_iconst (pc' := 2) (v := (0 : Int32)) dX10_layOne_1 rfl ic_0 ?_
  obtain ⟨v1, e2, h⟩ := a_i_inv h
  refine J_ialde (pc' := 3) dX10_layOne_2 rfl (a_s ha0) (a_n ha0) e2 ?_
  refine J_istore (pc' := 5) (i := 4) (lv' := [(4, .int v1), (0, .ref a0), (1, .int x1), (2, .int x2), (3, .int x3)]) dX10_layOne_3 rfl (by decide) rfl ?_
  refine J_aload_n (pc' := 6) (i := 0) (n := 1) dX10_layOne_5 rfl rfl rfl ?_
  refine J_bipush (pc' := 8) (v := (30 : Int32)) dX10_layOne_6 rfl bp_30 ?_
  refine J_iload (pc' := 10) (i := 4) (n := 0) dX10_layOne_8 rfl rfl ?_
  refine J_iadd (pc' := 11) dX10_layOne_10 rfl ?_
  refine J_iload_n (pc' := 12) (i := 1) (n := 2) dX10_layOne_11 rfl rfl rfl ?_
  obtain ⟨M3, e4, h⟩ := w_i_inv h
  have g5 : sh_a a0 n0 M3.2.2 := j_shI e4.2 ha0
  refine J_iaste (pc' := 13) dX10_layOne_12 rfl (a_s ha0) (a_n ha0) e4 ?_
  refine J_aload_n (pc' := 14) (i := 0) (n := 1) dX10_layOne_13 rfl rfl rfl ?_
  refine J_bipush (pc' := 16) (v := (37 : Int32)) dX10_layOne_14 rfl bp_37 ?_
  refine J_iload (pc' := 18) (i := 4) (n := 0) dX10_layOne_16 rfl rfl ?_
  refine J_iadd (pc' := 19) dX10_layOne_18 rfl ?_
  refine J_iload_n (pc' := 20) (i := 2) (n := 3) dX10_layOne_19 rfl rfl rfl ?_
  obtain ⟨M6, e7, h⟩ := w_i_inv h
  have g8 : sh_a a0 n0 M6.2.2 := j_shI e7.2 g5
  refine J_iaste (pc' := 21) dX10_layOne_20 rfl (a_s g5) (a_n g5) e7 ?_
  refine J_aload_n (pc' := 22) (i := 0) (n := 1) dX10_layOne_21 rfl rfl rfl ?_
  refine J_bipush (pc' := 24) (v := (9 : Int32)) dX10_layOne_22 rfl bp_9 ?_
  refine J_iload (pc' := 26) (i := 4) (n := 0) dX10_layOne_24 rfl rfl ?_
  refine J_iadd (pc' := 27) dX10_layOne_26 rfl ?_
  refine J_iload_n (pc' := 28) (i := 3) (n := 4) dX10_layOne_27 rfl rfl rfl ?_
  obtain ⟨M9, e10, h⟩ := w_i_inv h
  have g11 : sh_a a0 n0 M9.2.2 := j_shI e10.2 g8
  refine J_iaste (pc' := 29) dX10_layOne_28 rfl (a_s g8) (a_n g8) e10 ?_
  refine J_aload_n (pc' := 30) (i := 0) (n := 1) dX10_layOne_29 rfl rfl rfl ?_
  refine J_bipush (pc' := 32) (v := (16 : Int32)) dX10_layOne_30 rfl bp_16 ?_
  refine J_iload (pc' := 34) (i := 4) (n := 0) dX10_layOne_32 rfl rfl ?_
  refine J_iadd (pc' := 35) dX10_layOne_34 rfl ?_
  refine J_iconst (pc' := 36) (v := (0 : Int32)) dX10_layOne_35 rfl ic_0 ?_
  obtain ⟨M12, e13, h⟩ := w_i_inv h
  have g14 : sh_a a0 n0 M12.2.2 := j_shI e13.2 g11
  refine J_iaste (pc' := 37) dX10_layOne_36 rfl (a_s g11) (a_n g11) e13 ?_
  refine J_aload_n (pc' := 38) (i := 0) (n := 1) dX10_layOne_37 rfl rfl rfl ?_
  refine J_bipush (pc' := 40) (v := (23 : Int32)) dX10_layOne_38 rfl bp_23 ?_
  refine J_iload (pc' := 42) (i := 4) (n := 0) dX10_layOne_40 rfl rfl ?_
  refine J_iadd (pc' := 43) dX10_layOne_42 rfl ?_
  refine J_iconst (pc' := 44) (v := (0 : Int32)) dX10_layOne_43 rfl ic_0 ?_
  obtain ⟨M15, e16, h⟩ := w_i_inv h
  have g17 : sh_a a0 n0 M15.2.2 := j_shI e16.2 g14
  refine J_iaste (pc' := 45) dX10_layOne_44 rfl (a_s g14) (a_n g14) e16 ?_
  refine J_aload_n (pc' := 46) (i := 0) (n := 1) dX10_layOne_45 rfl rfl rfl ?_
  refine J_iconst (pc' := 47) (v := (0 : Int32)) dX10_layOne_46 rfl ic_0 ?_
  refine J_dup2 (pc' := 48) dX10_layOne_47 rfl rfl rfl ?_
  obtain ⟨v18, e19, h⟩ := a_i_inv h
  refine J_ialde (pc' := 49) dX10_layOne_48 rfl (a_s g17) (a_n g17) e19 ?_
  refine J_iconst (pc' := 50) (v := (1 : Int32)) dX10_layOne_49 rfl ic_1 ?_
  refine J_iadd (pc' := 51) dX10_layOne_50 rfl ?_
  obtain ⟨M20, e21, h⟩ := w_i_inv h
  have g22 : sh_a a0 n0 M20.2.2 := j_shI e21.2 g17
  refine J_iaste (pc' := 52) dX10_layOne_51 rfl (a_s g17) (a_n g17) e21 ?_
  exact J_vret rfl dX10_layOne_52 ⟨rfl, Nat.le_refl _⟩ (j_pV h)
abbrev JT_X10_one (l : Launch) (G : j_G) (r : (Int32 × j_M)) : Nat → List (Nat × Value) → List Value → j_M → Prop := JJ l G md_X10_one (j_rm 3 (0, 0)) (0, 0) (0, 0) (po (some (.int r.1)) r.2)
noncomputable def f_X10_one (M : j_M) (x1 : Int32) (x2 : Int32) (x3 : Int32) : Option (Int32 × j_M) :=
  tl (f_X10_in (x1).toInt64 (0 : Int64) (5 : Int64)) fun v1 => (if v1 = 0 then ((f_X10_bad M ((-2) : Int32)).bind fun q4 => j_ck M q4.2 (some (q4.1, q4.2))) else (tl (f_X10_in (x2).toInt64 (20 : Int64) (90 : Int64)) fun v8 => (if v8 = 0 then ((f_X10_bad M ((-2) : Int32)).bind fun q11 => j_ck M q11.2 (some (q11.1, q11.2))) else (tl (f_X10_isLane x3) fun v15 => (if v15 = 0 then ((f_X10_bad M ((-2) : Int32)).bind fun q41 => j_ck M q41.2 (some (q41.1, q41.2))) else ((f_X10_isOpen M x3).bind fun v18 => (if v18 = 0 then ((f_X10_no M).bind fun q37 => j_ck M q37.2 (some (q37.1, q37.2))) else ((f_X10_many M).bind fun v21 => (if v21 = (7 : Int32) then ((f_X10_full M).bind fun q33 => j_ck M q33.2 (some (q33.1, q33.2))) else ((f_X10_layOne M 36 250 x1 x2 x3).bind fun q24 => j_ck M q24 (w_i q24 36 250 (3 : Int32) (0 : Int32) fun M28 => ((f_X10_many M28).bind fun v31 => (some ((v31 - (1 : Int32)), M28))))))))))))))
set_option maxHeartbeats 4000000 in
theorem c_X10_one {l : Launch} {G : j_G} {M : j_M} {x1 : Int32} {x2 : Int32} {x3 : Int32} (hs : sh_m M.2.2) {r : (Int32 × j_M)} (h : f_X10_one M x1 x2 x3 = some r) : j_Sp l G md_X10_one 3 (0, 0) [.ref 35, .int x1, .int x2, .int x3] M (po (some (.int r.1)) r.2) := by
  refine j_Sp.of (by decide) (Nat.le_of_ble_eq_true rfl) ?_
  show JT_X10_one l G r 0 [(0, .ref 35), (1, .int x1), (2, .int x2), (3, .int x3)] [] M
  unfold f_X10_one at h
  refine J_iload_n (pc' := 1) (i := 1) (n := 1) dX10_one_0 rfl rfl rfl ?_
  refine J_i2l (pc' := 2) dX10_one_1 rfl ?_
  refine J_lconst (pc' := 3) (v := (0 : Int64)) dX10_one_2 rfl rfl ?_
  refine J_ldc2 (pc' := 6) (v := (5 : Int64)) dX10_one_3 rfl wd_1017 ?_
  obtain ⟨v1, e2, h⟩ := tl_inv h
  refine J_callS (pc' := 9) (as := [.long (x1).toInt64, .long (0 : Int64), .long (5 : Int64)]) (rest := []) dX10_one_6 rfl lk_X10_68 rfl (c_X10_in e2) ⟨Nat.le_of_ble_eq_true rfl, Nat.le_of_ble_eq_true rfl⟩ (Nat.le_of_ble_eq_true rfl) ⟨Nat.le_of_ble_eq_true rfl, Nat.le_of_ble_eq_true rfl⟩ (j_kq ?_)
  refine J_if_eq (pc' := 12) (tgt := 33) dX10_one_9 rfl (by decide) (fun c3 => ?_) (fun c3 => ?_)
  · replace h := j_ip c3 h
    refine J_aload_n (pc' := 34) (i := 0) (n := 0) dX10_one_33 rfl rfl rfl ?_
    refine J_bipush (pc' := 36) (v := ((-2) : Int32)) dX10_one_34 rfl bp_m2 ?_
    obtain ⟨q4, e5, h⟩ := bi_inv h
    obtain ⟨c6, h⟩ := j_ck_inv h
    refine J_callV (pc' := 39) (as := [.int ((-2) : Int32)]) (rest := []) dX10_one_36 rfl lk_X10_84 rfl 10 (by decide) rfl (m_o hs) (m_n hs (Nat.le_of_ble_eq_true rfl)) (c_X10_bad hs e5) ⟨Nat.le_of_ble_eq_true rfl, Nat.le_of_ble_eq_true rfl⟩ (Nat.le_of_ble_eq_true rfl) ⟨Nat.le_of_ble_eq_true rfl, Nat.le_of_ble_eq_true rfl⟩ (j_kq ?_)
    have g7 : sh_m q4.2.2.2 := j_shE c6 hs
    exact J_iret rfl dX10_one_39 ⟨rfl, Nat.le_refl _⟩ (j_pW h)
  · replace h := j_iq c3 h
    refine J_iload_n (pc' := 13) (i := 2) (n := 2) dX10_one_12 rfl rfl rfl ?_
    refine J_i2l (pc' := 14) dX10_one_13 rfl ?_
    refine J_ldc2 (pc' := 17) (v := (20 : Int64)) dX10_one_14 rfl wd_1018 ?_
    refine J_ldc2 (pc' := 20) (v := (90 : Int64)) dX10_one_17 rfl wd_1019 ?_
    obtain ⟨v8, e9, h⟩ := tl_inv h
    refine J_callS (pc' := 23) (as := [.long (x2).toInt64, .long (20 : Int64), .long (90 : Int64)]) (rest := []) dX10_one_20 rfl lk_X10_68 rfl (c_X10_in e9) ⟨Nat.le_of_ble_eq_true rfl, Nat.le_of_ble_eq_true rfl⟩ (Nat.le_of_ble_eq_true rfl) ⟨Nat.le_of_ble_eq_true rfl, Nat.le_of_ble_eq_true rfl⟩ (j_kq ?_)
    refine J_if_eq (pc' := 26) (tgt := 33) dX10_one_23 rfl (by decide) (fun c10 => ?_) (fun c10 => ?_)
    · replace h := j_ip c10 h
      refine J_aload_n (pc' := 34) (i := 0) (n := 0) dX10_one_33 rfl rfl rfl ?_
      refine J_bipush (pc' := 36) (v := ((-2) : Int32)) dX10_one_34 rfl bp_m2 ?_
      obtain ⟨q11, e12, h⟩ := bi_inv h
      obtain ⟨c13, h⟩ := j_ck_inv h
      refine J_callV (pc' := 39) (as := [.int ((-2) : Int32)]) (rest := []) dX10_one_36 rfl lk_X10_84 rfl 10 (by decide) rfl (m_o hs) (m_n hs (Nat.le_of_ble_eq_true rfl)) (c_X10_bad hs e12) ⟨Nat.le_of_ble_eq_true rfl, Nat.le_of_ble_eq_true rfl⟩ (Nat.le_of_ble_eq_true rfl) ⟨Nat.le_of_ble_eq_true rfl, Nat.le_of_ble_eq_true rfl⟩ (j_kq ?_)
      have g14 : sh_m q11.2.2.2 := j_shE c13 hs
      exact J_iret rfl dX10_one_39 ⟨rfl, Nat.le_refl _⟩ (j_pW h)
    · replace h := j_iq c10 h
      refine J_iload_n (pc' := 27) (i := 3) (n := 3) dX10_one_26 rfl rfl rfl ?_
      obtain ⟨v15, e16, h⟩ := tl_inv h
      refine J_callS (pc' := 30) (as := [.int x3]) (rest := []) dX10_one_27 rfl lk_X10_78 rfl (c_X10_isLane e16) ⟨Nat.le_of_ble_eq_true rfl, Nat.le_of_ble_eq_true rfl⟩ (Nat.le_of_ble_eq_true rfl) ⟨Nat.le_of_ble_eq_true rfl, Nat.le_of_ble_eq_true rfl⟩ (j_kq ?_)
      refine J_if_ne (pc' := 33) (tgt := 40) dX10_one_30 rfl (by decide) (fun c17 => ?_) (fun c17 => ?_)
      · replace h := j_iq c17 h
        refine J_aload_n (pc' := 41) (i := 0) (n := 0) dX10_one_40 rfl rfl rfl ?_
        refine J_iload_n (pc' := 42) (i := 3) (n := 3) dX10_one_41 rfl rfl rfl ?_
        obtain ⟨v18, e19, h⟩ := bi_inv h
        refine J_callV (pc' := 45) (as := [.int x3]) (rest := []) dX10_one_42 rfl lk_X10_101 rfl 10 (by decide) rfl (m_o hs) (m_n hs (Nat.le_of_ble_eq_true rfl)) (c_X10_isOpen hs e19) ⟨Nat.le_of_ble_eq_true rfl, Nat.le_of_ble_eq_true rfl⟩ (Nat.le_of_ble_eq_true rfl) ⟨Nat.le_of_ble_eq_true rfl, Nat.le_of_ble_eq_true rfl⟩ (j_kq ?_)
        refine J_if_ne (pc' := 48) (tgt := 53) dX10_one_45 rfl (by decide) (fun c20 => ?_) (fun c20 => ?_)
        · replace h := j_iq c20 h
          refine J_aload_n (pc' := 54) (i := 0) (n := 0) dX10_one_53 rfl rfl rfl ?_
          obtain ⟨v21, e22, h⟩ := bi_inv h
          refine J_callV (pc' := 57) (as := []) (rest := []) dX10_one_54 rfl lk_X10_64 rfl 10 (by decide) rfl (m_o hs) (m_n hs (Nat.le_of_ble_eq_true rfl)) (c_X10_many hs e22) ⟨Nat.le_of_ble_eq_true rfl, Nat.le_of_ble_eq_true rfl⟩ (Nat.le_of_ble_eq_true rfl) ⟨Nat.le_of_ble_eq_true rfl, Nat.le_of_ble_eq_true rfl⟩ (j_kq ?_)
          refine J_bipush (pc' := 59) (v := (7 : Int32)) dX10_one_57 rfl bp_7 ?_
          refine J_icmp_ne (pc' := 62) (tgt := 67) dX10_one_59 rfl (by decide) (fun c23 => ?_) (fun c23 => ?_)
          · replace h := j_iq c23 h
            refine J_aload_n (pc' := 68) (i := 0) (n := 0) dX10_one_67 rfl rfl rfl ?_
            refine J_getR (pc' := 71) (b := 36) dX10_one_68 rfl fl_X10_7 rfl (m_o hs) (m_n hs (Nat.le_of_ble_eq_true rfl)) (m_r0 hs) ?_
            refine J_iload_n (pc' := 72) (i := 1) (n := 1) dX10_one_71 rfl rfl rfl ?_
            refine J_iload_n (pc' := 73) (i := 2) (n := 2) dX10_one_72 rfl rfl rfl ?_
            refine J_iload_n (pc' := 74) (i := 3) (n := 3) dX10_one_73 rfl rfl rfl ?_
            obtain ⟨q24, e25, h⟩ := bi_inv h
            obtain ⟨c26, h⟩ := j_ck_inv h
            refine J_callS (pc' := 77) (as := [.ref 36, .int x1, .int x2, .int x3]) (rest := []) dX10_one_74 rfl lk_X10_107 rfl (c_X10_layOne ⟨(m_s36 hs), (m_n hs (Nat.le_of_ble_eq_true rfl))⟩ e25) ⟨Nat.le_of_ble_eq_true rfl, Nat.le_of_ble_eq_true rfl⟩ (Nat.le_of_ble_eq_true rfl) ⟨Nat.le_of_ble_eq_true rfl, Nat.le_of_ble_eq_true rfl⟩ (j_kv ?_)
            have g27 : sh_m q24.2.2 := j_shE c26 hs
            refine J_aload_n (pc' := 78) (i := 0) (n := 0) dX10_one_77 rfl rfl rfl ?_
            refine J_getR (pc' := 81) (b := 36) dX10_one_78 rfl fl_X10_7 rfl (m_o g27) (m_n g27 (Nat.le_of_ble_eq_true rfl)) (m_r0 g27) ?_
            refine J_iconst (pc' := 82) (v := (3 : Int32)) dX10_one_81 rfl ic_3 ?_
            refine J_iconst (pc' := 83) (v := (0 : Int32)) dX10_one_82 rfl ic_0 ?_
            obtain ⟨M28, e29, h⟩ := w_i_inv h
            have g30 : sh_m M28.2.2 := j_shI e29.2 g27
            refine J_iaste (pc' := 84) dX10_one_83 rfl (m_s36 g27) (m_n g27 (Nat.le_of_ble_eq_true rfl)) e29 ?_
            refine J_aload_n (pc' := 85) (i := 0) (n := 0) dX10_one_84 rfl rfl rfl ?_
            obtain ⟨v31, e32, h⟩ := bi_inv h
            refine J_callV (pc' := 88) (as := []) (rest := []) dX10_one_85 rfl lk_X10_64 rfl 10 (by decide) rfl (m_o g30) (m_n g30 (Nat.le_of_ble_eq_true rfl)) (c_X10_many g30 e32) ⟨Nat.le_of_ble_eq_true rfl, Nat.le_of_ble_eq_true rfl⟩ (Nat.le_of_ble_eq_true rfl) ⟨Nat.le_of_ble_eq_true rfl, Nat.le_of_ble_eq_true rfl⟩ (j_kq ?_)
            refine J_iconst (pc' := 89) (v := (1 : Int32)) dX10_one_88 rfl ic_1 ?_
            refine J_isub (pc' := 90) dX10_one_89 rfl ?_
            exact J_iret rfl dX10_one_90 ⟨rfl, Nat.le_refl _⟩ (j_pW h)
          · replace h := j_ip c23 h
            refine J_aload_n (pc' := 63) (i := 0) (n := 0) dX10_one_62 rfl rfl rfl ?_
            obtain ⟨q33, e34, h⟩ := bi_inv h
            obtain ⟨c35, h⟩ := j_ck_inv h
            refine J_callV (pc' := 66) (as := []) (rest := []) dX10_one_63 rfl lk_X10_104 rfl 10 (by decide) rfl (m_o hs) (m_n hs (Nat.le_of_ble_eq_true rfl)) (c_X10_full hs e34) ⟨Nat.le_of_ble_eq_true rfl, Nat.le_of_ble_eq_true rfl⟩ (Nat.le_of_ble_eq_true rfl) ⟨Nat.le_of_ble_eq_true rfl, Nat.le_of_ble_eq_true rfl⟩ (j_kq ?_)
            have g36 : sh_m q33.2.2.2 := j_shE c35 hs
            exact J_iret rfl dX10_one_66 ⟨rfl, Nat.le_refl _⟩ (j_pW h)
        · replace h := j_ip c20 h
          refine J_aload_n (pc' := 49) (i := 0) (n := 0) dX10_one_48 rfl rfl rfl ?_
          obtain ⟨q37, e38, h⟩ := bi_inv h
          obtain ⟨c39, h⟩ := j_ck_inv h
          refine J_callV (pc' := 52) (as := []) (rest := []) dX10_one_49 rfl lk_X10_92 rfl 10 (by decide) rfl (m_o hs) (m_n hs (Nat.le_of_ble_eq_true rfl)) (c_X10_no hs e38) ⟨Nat.le_of_ble_eq_true rfl, Nat.le_of_ble_eq_true rfl⟩ (Nat.le_of_ble_eq_true rfl) ⟨Nat.le_of_ble_eq_true rfl, Nat.le_of_ble_eq_true rfl⟩ (j_kq ?_)
          have g40 : sh_m q37.2.2.2 := j_shE c39 hs
          exact J_iret rfl dX10_one_52 ⟨rfl, Nat.le_refl _⟩ (j_pW h)
      · replace h := j_ip c17 h
        refine J_aload_n (pc' := 34) (i := 0) (n := 0) dX10_one_33 rfl rfl rfl ?_
        refine J_bipush (pc' := 36) (v := ((-2) : Int32)) dX10_one_34 rfl bp_m2 ?_
        obtain ⟨q41, e42, h⟩ := bi_inv h
        obtain ⟨c43, h⟩ := j_ck_inv h
        refine J_callV (pc' := 39) (as := [.int ((-2) : Int32)]) (rest := []) dX10_one_36 rfl lk_X10_84 rfl 10 (by decide) rfl (m_o hs) (m_n hs (Nat.le_of_ble_eq_true rfl)) (c_X10_bad hs e42) ⟨Nat.le_of_ble_eq_true rfl, Nat.le_of_ble_eq_true rfl⟩ (Nat.le_of_ble_eq_true rfl) ⟨Nat.le_of_ble_eq_true rfl, Nat.le_of_ble_eq_true rfl⟩ (j_kq ?_)
        have g44 : sh_m q41.2.2.2 := j_shE c43 hs
        exact J_iret rfl dX10_one_39 ⟨rfl, Nat.le_refl _⟩ (j_pW h)
abbrev JT_X10_secondsAs (l : Launch) (G : j_G) (M : j_M) (r : Int32) : Nat → List (Nat × Value) → List Value → j_M → Prop := JJ l G md_X10_secondsAs (j_rm 1 (0, 0)) (0, 0) (0, 0) (po (some (.int r)) M)
def f_X10_secondsAs (x0 : Int32) (x1 : Int32) (x2 : Int32) (x3 : Int32) (x4 : Int32) : Int32 :=
  jn (fun (v2 : Int32) => (if x0 = (1 : Int32) then ((x1 + ((3 : Int32) * x3))) else (if x0 = (2 : Int32) then ((v2 + x4)) else (if x0 = (3 : Int32) then (x1) else (if x0 = (4 : Int32) then (if x4 ≤ 0 then ((v2 + x4)) else (((v2 + x4) + (5 : Int32)))) else (if x0 = (5 : Int32) then ((x1 + (((3 : Int32) * x3) / (2 : Int32)))) else ((v2 + x4)))))))) (fun K3 => (if x2 ≤ x1 then (K3 x1) else (K3 x2)))
set_option maxHeartbeats 4000000 in
theorem c_X10_secondsAs {l : Launch} {G : j_G} {M : j_M} {x0 : Int32} {x1 : Int32} {x2 : Int32} {x3 : Int32} {x4 : Int32}  {r : Int32} (h : f_X10_secondsAs x0 x1 x2 x3 x4 = r) : j_Sp l G md_X10_secondsAs 1 (0, 0) [.int x0, .int x1, .int x2, .int x3, .int x4] M (po (some (.int r)) M) := by
  refine j_Sp.of (by decide) (Nat.le_of_ble_eq_true rfl) ?_
  show JT_X10_secondsAs l G M r 0 [(0, .int x0), (1, .int x1), (2, .int x2), (3, .int x3), (4, .int x4)] [] M
  unfold f_X10_secondsAs at h
  refine J_iload_n (pc' := 1) (i := 2) (n := 2) dX10_secondsAs_0 rfl rfl rfl ?_
  refine J_iload_n (pc' := 2) (i := 1) (n := 1) dX10_secondsAs_1 rfl rfl rfl ?_
  refine J_join (C := fun (v2 : Int32) => JT_X10_secondsAs l G M r 10 [(0, .int x0), (1, .int x1), (3, .int x3), (4, .int x4)] [.int v2] M) h (fun v2 h => ?_) (fun K3 h4 h => ?_)
  · refine J_iload (pc' := 12) (i := 4) (n := 3) dX10_secondsAs_10 rfl rfl ?_
    refine J_iadd (pc' := 13) dX10_secondsAs_12 rfl ?_
    refine J_istore (pc' := 15) (i := 5) (lv' := [(5, .int (v2 + x4)), (0, .int x0), (1, .int x1), (3, .int x3), (4, .int x4)]) dX10_secondsAs_13 rfl (by decide) rfl ?_
    refine J_iload_n (pc' := 16) (i := 0) (n := 1) dX10_secondsAs_15 rfl rfl rfl ?_
    by_cases c5 : x0 = (1 : Int32)
    · replace h := j_ip c5 h
      refine J_tin (tgt := 52) dX10_secondsAs_16 (1 : Int32) c5 ⟨by decide, by decide, rfl, by decide⟩ ?_
      refine J_iload_n (pc' := 53) (i := 1) (n := 2) dX10_secondsAs_52 rfl rfl rfl ?_
      refine J_iconst (pc' := 54) (v := (3 : Int32)) dX10_secondsAs_53 rfl ic_3 ?_
      refine J_iload_n (pc' := 55) (i := 3) (n := 3) dX10_secondsAs_54 rfl rfl rfl ?_
      refine J_imul (pc' := 56) dX10_secondsAs_55 rfl ?_
      refine J_iadd (pc' := 57) dX10_secondsAs_56 rfl ?_
      exact J_iret rfl dX10_secondsAs_57 ⟨rfl, Nat.le_refl _⟩ (j_pI h)
    replace h := j_iq c5 h
    by_cases c6 : x0 = (2 : Int32)
    · replace h := j_ip c6 h
      refine J_tin (tgt := 83) dX10_secondsAs_16 (2 : Int32) c6 ⟨by decide, by decide, rfl, by decide⟩ ?_
      refine J_iload (pc' := 85) (i := 5) (n := 0) dX10_secondsAs_83 rfl rfl ?_
      exact J_iret rfl dX10_secondsAs_85 ⟨rfl, Nat.le_refl _⟩ (j_pI h)
    replace h := j_iq c6 h
    by_cases c7 : x0 = (3 : Int32)
    · replace h := j_ip c7 h
      refine J_tin (tgt := 58) dX10_secondsAs_16 (3 : Int32) c7 ⟨by decide, by decide, rfl, by decide⟩ ?_
      refine J_iload_n (pc' := 59) (i := 1) (n := 2) dX10_secondsAs_58 rfl rfl rfl ?_
      exact J_iret rfl dX10_secondsAs_59 ⟨rfl, Nat.le_refl _⟩ (j_pI h)
    replace h := j_iq c7 h
    by_cases c8 : x0 = (4 : Int32)
    · replace h := j_ip c8 h
      refine J_tin (tgt := 60) dX10_secondsAs_16 (4 : Int32) c8 ⟨by decide, by decide, rfl, by decide⟩ ?_
      refine J_iload (pc' := 62) (i := 4) (n := 4) dX10_secondsAs_60 rfl rfl ?_
      refine J_if_le (pc' := 65) (tgt := 72) dX10_secondsAs_62 rfl (by decide) (fun c9 => ?_) (fun c9 => ?_)
      · replace h := j_ip c9 h
        refine J_iload (pc' := 74) (i := 5) (n := 0) dX10_secondsAs_72 rfl rfl ?_
        exact J_iret rfl dX10_secondsAs_74 ⟨rfl, Nat.le_refl _⟩ (j_pI h)
      · replace h := j_iq c9 h
        refine J_iload (pc' := 67) (i := 5) (n := 0) dX10_secondsAs_65 rfl rfl ?_
        refine J_iconst (pc' := 68) (v := (5 : Int32)) dX10_secondsAs_67 rfl ic_5 ?_
        refine J_iadd (pc' := 69) dX10_secondsAs_68 rfl ?_
        refine J_goto (pc' := 74) dX10_secondsAs_69 (by decide) ?_
        exact J_iret rfl dX10_secondsAs_74 ⟨rfl, Nat.le_refl _⟩ (j_pI h)
    replace h := j_iq c8 h
    by_cases c10 : x0 = (5 : Int32)
    · replace h := j_ip c10 h
      refine J_tin (tgt := 75) dX10_secondsAs_16 (5 : Int32) c10 ⟨by decide, by decide, rfl, by decide⟩ ?_
      refine J_iload_n (pc' := 76) (i := 1) (n := 2) dX10_secondsAs_75 rfl rfl rfl ?_
      refine J_iconst (pc' := 77) (v := (3 : Int32)) dX10_secondsAs_76 rfl ic_3 ?_
      refine J_iload_n (pc' := 78) (i := 3) (n := 3) dX10_secondsAs_77 rfl rfl rfl ?_
      refine J_imul (pc' := 79) dX10_secondsAs_78 rfl ?_
      refine J_iconst (pc' := 80) (v := (2 : Int32)) dX10_secondsAs_79 rfl ic_2 ?_
      refine J_idiv (pc' := 81) dX10_secondsAs_80 rfl (by decide) ?_
      refine J_iadd (pc' := 82) dX10_secondsAs_81 rfl ?_
      exact J_iret rfl dX10_secondsAs_82 ⟨rfl, Nat.le_refl _⟩ (j_pI h)
    replace h := j_iq c10 h
    refine J_tout (tgt := 83) dX10_secondsAs_16 (j_out1_5 c5 c6 c7 c8 c10) (by decide) ?_
    refine J_iload (pc' := 85) (i := 5) (n := 0) dX10_secondsAs_83 rfl rfl ?_
    exact J_iret rfl dX10_secondsAs_85 ⟨rfl, Nat.le_refl _⟩ (j_pI h)
  · refine J_icmp_le (pc' := 5) (tgt := 9) dX10_secondsAs_2 rfl (by decide) (fun c1 => ?_) (fun c1 => ?_)
    · replace h := j_ip c1 h
      refine J_iload_n (pc' := 10) (i := 1) (n := 1) dX10_secondsAs_9 rfl rfl rfl ?_
      refine J_sub [0, 1, 3, 4] (lv' := [(0, .int x0), (1, .int x1), (3, .int x3), (4, .int x4)]) rfl ?_
      exact h4 x1 h
    · replace h := j_iq c1 h
      refine J_iload_n (pc' := 6) (i := 2) (n := 2) dX10_secondsAs_5 rfl rfl rfl ?_
      refine J_goto (pc' := 10) dX10_secondsAs_6 (by decide) ?_
      refine J_sub [0, 1, 3, 4] (lv' := [(0, .int x0), (1, .int x1), (3, .int x3), (4, .int x4)]) rfl ?_
      exact h4 x2 h
abbrev JT_X10_believesAs (l : Launch) (G : j_G) (M : j_M) (r : Int32) : Nat → List (Nat × Value) → List Value → j_M → Prop := JJ l G md_X10_believesAs (j_rm 1 (0, 0)) (0, 0) (0, 0) (po (some (.int r)) M)
def f_X10_believesAs (x0 : Int32) (x1 : Int32) : Int32 :=
  if x0 = (2 : Int32) then ((x1 - (15 : Int32))) else (if x0 = (4 : Int32) then ((x1 - (15 : Int32))) else (if x0 = (5 : Int32) then ((x1 - (5 : Int32))) else (x1)))
set_option maxHeartbeats 4000000 in
theorem c_X10_believesAs {l : Launch} {G : j_G} {M : j_M} {x0 : Int32} {x1 : Int32}  {r : Int32} (h : f_X10_believesAs x0 x1 = r) : j_Sp l G md_X10_believesAs 1 (0, 0) [.int x0, .int x1] M (po (some (.int r)) M) := by
  refine j_Sp.of (by decide) (Nat.le_of_ble_eq_true rfl) ?_
  show JT_X10_believesAs l G M r 0 [(0, .int x0), (1, .int x1)] [] M
  unfold f_X10_believesAs at h
  refine J_iload_n (pc' := 1) (i := 0) (n := 0) dX10_believesAs_0 rfl rfl rfl ?_
  refine J_iconst (pc' := 2) (v := (2 : Int32)) dX10_believesAs_1 rfl ic_2 ?_
  refine J_icmp_eq (pc' := 5) (tgt := 10) dX10_believesAs_2 rfl (by decide) (fun c1 => ?_) (fun c1 => ?_)
  · replace h := j_ip c1 h
    refine J_iload_n (pc' := 11) (i := 1) (n := 1) dX10_believesAs_10 rfl rfl rfl ?_
    refine J_bipush (pc' := 13) (v := (15 : Int32)) dX10_believesAs_11 rfl bp_15 ?_
    refine J_isub (pc' := 14) dX10_believesAs_13 rfl ?_
    refine J_goto (pc' := 29) dX10_believesAs_14 (by decide) ?_
    exact J_iret rfl dX10_believesAs_29 ⟨rfl, Nat.le_refl _⟩ (j_pI h)
  · replace h := j_iq c1 h
    refine J_iload_n (pc' := 6) (i := 0) (n := 0) dX10_believesAs_5 rfl rfl rfl ?_
    refine J_iconst (pc' := 7) (v := (4 : Int32)) dX10_believesAs_6 rfl ic_4 ?_
    refine J_icmp_ne (pc' := 10) (tgt := 17) dX10_believesAs_7 rfl (by decide) (fun c2 => ?_) (fun c2 => ?_)
    · replace h := j_iq c2 h
      refine J_iload_n (pc' := 18) (i := 0) (n := 0) dX10_believesAs_17 rfl rfl rfl ?_
      refine J_iconst (pc' := 19) (v := (5 : Int32)) dX10_believesAs_18 rfl ic_5 ?_
      refine J_icmp_ne (pc' := 22) (tgt := 28) dX10_believesAs_19 rfl (by decide) (fun c3 => ?_) (fun c3 => ?_)
      · replace h := j_iq c3 h
        refine J_iload_n (pc' := 29) (i := 1) (n := 1) dX10_believesAs_28 rfl rfl rfl ?_
        exact J_iret rfl dX10_believesAs_29 ⟨rfl, Nat.le_refl _⟩ (j_pI h)
      · replace h := j_ip c3 h
        refine J_iload_n (pc' := 23) (i := 1) (n := 1) dX10_believesAs_22 rfl rfl rfl ?_
        refine J_iconst (pc' := 24) (v := (5 : Int32)) dX10_believesAs_23 rfl ic_5 ?_
        refine J_isub (pc' := 25) dX10_believesAs_24 rfl ?_
        refine J_goto (pc' := 29) dX10_believesAs_25 (by decide) ?_
        exact J_iret rfl dX10_believesAs_29 ⟨rfl, Nat.le_refl _⟩ (j_pI h)
    · replace h := j_ip c2 h
      refine J_iload_n (pc' := 11) (i := 1) (n := 1) dX10_believesAs_10 rfl rfl rfl ?_
      refine J_bipush (pc' := 13) (v := (15 : Int32)) dX10_believesAs_11 rfl bp_15 ?_
      refine J_isub (pc' := 14) dX10_believesAs_13 rfl ?_
      refine J_goto (pc' := 29) dX10_believesAs_14 (by decide) ?_
      exact J_iret rfl dX10_believesAs_29 ⟨rfl, Nat.le_refl _⟩ (j_pI h)
abbrev JT_X10_signOf (l : Launch) (G : j_G) (M : j_M) (r : Int32) : Nat → List (Nat × Value) → List Value → j_M → Prop := JJ l G md_X10_signOf (j_rm 1 (0, 0)) (0, 0) (0, 0) (po (some (.int r)) M)
def f_X10_signOf (x0 : Int32) : Int32 :=
  if x0 < (60 : Int32) then (if (40 : Int32) ≤ x0 then ((1 : Int32)) else ((2 : Int32))) else ((0 : Int32))
set_option maxHeartbeats 4000000 in
theorem c_X10_signOf {l : Launch} {G : j_G} {M : j_M} {x0 : Int32}  {r : Int32} (h : f_X10_signOf x0 = r) : j_Sp l G md_X10_signOf 1 (0, 0) [.int x0] M (po (some (.int r)) M) := by
  refine j_Sp.of (by decide) (Nat.le_of_ble_eq_true rfl) ?_
  show JT_X10_signOf l G M r 0 [(0, .int x0)] [] M
  unfold f_X10_signOf at h
  refine J_iload_n (pc' := 1) (i := 0) (n := 0) dX10_signOf_0 rfl rfl rfl ?_
  refine J_bipush (pc' := 3) (v := (60 : Int32)) dX10_signOf_1 rfl bp_60 ?_
  refine J_icmp_lt (pc' := 6) (tgt := 10) dX10_signOf_3 rfl (by decide) (fun c1 => ?_) (fun c1 => ?_)
  · replace h := j_ip c1 h
    refine J_iload_n (pc' := 11) (i := 0) (n := 0) dX10_signOf_10 rfl rfl rfl ?_
    refine J_bipush (pc' := 13) (v := (40 : Int32)) dX10_signOf_11 rfl bp_40 ?_
    refine J_icmp_ge (pc' := 16) (tgt := 20) dX10_signOf_13 rfl (by decide) (fun c2 => ?_) (fun c2 => ?_)
    · replace h := j_ip c2 h
      refine J_iconst (pc' := 21) (v := (1 : Int32)) dX10_signOf_20 rfl ic_1 ?_
      exact J_iret rfl dX10_signOf_21 ⟨rfl, Nat.le_refl _⟩ (j_pI h)
    · replace h := j_iq c2 h
      refine J_iconst (pc' := 17) (v := (2 : Int32)) dX10_signOf_16 rfl ic_2 ?_
      refine J_goto (pc' := 21) dX10_signOf_17 (by decide) ?_
      exact J_iret rfl dX10_signOf_21 ⟨rfl, Nat.le_refl _⟩ (j_pI h)
  · replace h := j_iq c1 h
    refine J_iconst (pc' := 7) (v := (0 : Int32)) dX10_signOf_6 rfl ic_0 ?_
    refine J_goto (pc' := 21) dX10_signOf_7 (by decide) ?_
    exact J_iret rfl dX10_signOf_21 ⟨rfl, Nat.le_refl _⟩ (j_pI h)
abbrev JT_X10_paceOf (l : Launch) (G : j_G) (M : j_M) (r : Int32) : Nat → List (Nat × Value) → List Value → j_M → Prop := JJ l G md_X10_paceOf (j_rm 1 (0, 0)) (0, 0) (0, 0) (po (some (.int r)) M)
noncomputable def f_X10_paceOf (M : j_M) (x1 : Int32) : Option Int32 :=
  a_i M 36 250 ((37 : Int32) + x1) fun v1 => (some v1)
set_option maxHeartbeats 4000000 in
theorem c_X10_paceOf {l : Launch} {G : j_G} {M : j_M} {x1 : Int32} (hs : sh_m M.2.2) {r : Int32} (h : f_X10_paceOf M x1 = some r) : j_Sp l G md_X10_paceOf 1 (0, 0) [.ref 35, .int x1] M (po (some (.int r)) M) := by
  refine j_Sp.of (by decide) (Nat.le_of_ble_eq_true rfl) ?_
  show JT_X10_paceOf l G M r 0 [(0, .ref 35), (1, .int x1)] [] M
  unfold f_X10_paceOf at h
  refine J_aload_n (pc' := 1) (i := 0) (n := 0) dX10_paceOf_0 rfl rfl rfl ?_
  refine J_getR (pc' := 4) (b := 36) dX10_paceOf_1 rfl fl_X10_7 rfl (m_o hs) (m_n hs (Nat.le_of_ble_eq_true rfl)) (m_r0 hs) ?_
  refine J_bipush (pc' := 6) (v := (37 : Int32)) dX10_paceOf_4 rfl bp_37 ?_
  refine J_iload_n (pc' := 7) (i := 1) (n := 1) dX10_paceOf_6 rfl rfl rfl ?_
  refine J_iadd (pc' := 8) dX10_paceOf_7 rfl ?_
  obtain ⟨v1, e2, h⟩ := a_i_inv h
  refine J_ialde (pc' := 9) dX10_paceOf_8 rfl (m_s36 hs) (m_n hs (Nat.le_of_ble_eq_true rfl)) e2 ?_
  exact J_iret rfl dX10_paceOf_9 ⟨rfl, Nat.le_refl _⟩ (j_pIs h)
abbrev JT_X10_layHand (l : Launch) (G : j_G) (r : j_M) : Nat → List (Nat × Value) → List Value → j_M → Prop := JJ l G md_X10_layHand (j_rm 2 (0, 0)) (0, 0) (0, 0) (po none r)
noncomputable def f_X10_layHand_L2 : Nat → j_M → Int32 → (Int32 → j_M → Option j_M) → Option j_M
  | 0, _, _, _ => none
  | n + 1, M, x1, K =>
    (f_X10_many M).bind fun v1 => (if v1 ≤ x1 then (K x1 M) else (a_i M 36 250 ((9 : Int32) + x1) fun v4 => (w_i M 40 7 x1 v4 fun M6 => (f_X10_layHand_L2 n  M6 (x1 + (1 : Int32)) K))))
noncomputable def f_X10_layHand (M : j_M)  : Option j_M :=
  f_X10_layHand_L2 j_fu  M (0 : Int32) (fun (y9 : Int32) (M10 : j_M) => (some M10))
set_option maxHeartbeats 4000000 in
theorem L_X10_layHand_L2 {l : Launch} {G : j_G}  {r : j_M} : ∀ (n : Nat) {x1 : Int32} {M : j_M} (hs : sh_m M.2.2) {K : Int32 → j_M → Option j_M}, f_X10_layHand_L2 n  M x1 K = some r → (∀ (y1 : Int32) (M1 : j_M), sh_m M1.2.2 → K y1 M1 = some r → JT_X10_layHand l G r 31 [] [] M1) → JT_X10_layHand l G r 2 [(0, .ref 35), (1, .int x1)] [] M := by
  intro n
  induction n with
  | zero =>
    intro x1 M hs K h hK
    rw [f_X10_layHand_L2] at h; cases h
  | succ n ih =>
    intro x1 M hs K h hK
    rw [f_X10_layHand_L2] at h
    refine J_iload_n (pc' := 3) (i := 1) (n := 1) dX10_layHand_2 rfl rfl rfl ?_
    refine J_aload_n (pc' := 4) (i := 0) (n := 0) dX10_layHand_3 rfl rfl rfl ?_
    obtain ⟨v1, e2, h⟩ := bi_inv h
    refine J_callV (pc' := 7) (as := []) (rest := [.int x1]) dX10_layHand_4 rfl lk_X10_64 rfl 10 (by decide) rfl (m_o hs) (m_n hs (Nat.le_of_ble_eq_true rfl)) (c_X10_many hs e2) ⟨Nat.le_of_ble_eq_true rfl, Nat.le_of_ble_eq_true rfl⟩ (Nat.le_of_ble_eq_true rfl) ⟨Nat.le_of_ble_eq_true rfl, Nat.le_of_ble_eq_true rfl⟩ (j_kq ?_)
    refine J_icmp_ge (pc' := 10) (tgt := 31) dX10_layHand_7 rfl (by decide) (fun c3 => ?_) (fun c3 => ?_)
    · replace h := j_ip c3 h
      refine J_sub [] (lv' := []) rfl ?_
      exact hK x1 M hs h
    · replace h := j_iq c3 h
      refine J_aload_n (pc' := 11) (i := 0) (n := 0) dX10_layHand_10 rfl rfl rfl ?_
      refine J_getR (pc' := 14) (b := 40) dX10_layHand_11 rfl fl_X10_27 rfl (m_o hs) (m_n hs (Nat.le_of_ble_eq_true rfl)) (m_r6 hs) ?_
      refine J_iload_n (pc' := 15) (i := 1) (n := 1) dX10_layHand_14 rfl rfl rfl ?_
      refine J_aload_n (pc' := 16) (i := 0) (n := 0) dX10_layHand_15 rfl rfl rfl ?_
      refine J_getR (pc' := 19) (b := 36) dX10_layHand_16 rfl fl_X10_7 rfl (m_o hs) (m_n hs (Nat.le_of_ble_eq_true rfl)) (m_r0 hs) ?_
      refine J_bipush (pc' := 21) (v := (9 : Int32)) dX10_layHand_19 rfl bp_9 ?_
      refine J_iload_n (pc' := 22) (i := 1) (n := 1) dX10_layHand_21 rfl rfl rfl ?_
      refine J_iadd (pc' := 23) dX10_layHand_22 rfl ?_
      obtain ⟨v4, e5, h⟩ := a_i_inv h
      refine J_ialde (pc' := 24) dX10_layHand_23 rfl (m_s36 hs) (m_n hs (Nat.le_of_ble_eq_true rfl)) e5 ?_
      obtain ⟨M6, e7, h⟩ := w_i_inv h
      have g8 : sh_m M6.2.2 := j_shI e7.2 hs
      refine J_iaste (pc' := 25) dX10_layHand_24 rfl (m_s40 hs) (m_n hs (Nat.le_of_ble_eq_true rfl)) e7 ?_
      refine J_iinc (pc' := 28) (i := 1) (n := 1) (v := (x1 + (1 : Int32))) (lv' := [(1, .int (x1 + (1 : Int32))), (0, .ref 35)]) dX10_layHand_25 rfl rfl (j_inc _ _ rfl _) (by decide) rfl ?_
      refine J_goto (pc' := 2) dX10_layHand_28 (by decide) ?_
      refine J_sub [1, 0] (lv' := [(0, .ref 35), (1, .int (x1 + (1 : Int32)))]) rfl ?_
      exact ih g8 h hK
set_option maxHeartbeats 4000000 in
theorem c_X10_layHand {l : Launch} {G : j_G} {M : j_M}  (hs : sh_m M.2.2) {r : j_M} (h : f_X10_layHand M  = some r) : j_Sp l G md_X10_layHand 2 (0, 0) [.ref 35] M (po none r) := by
  refine j_Sp.of (by decide) (Nat.le_of_ble_eq_true rfl) ?_
  show JT_X10_layHand l G r 0 [(0, .ref 35)] [] M
  unfold f_X10_layHand at h
  refine J_iconst (pc' := 1) (v := (0 : Int32)) dX10_layHand_0 rfl ic_0 ?_
  refine J_istore_n (pc' := 2) (i := 1) (lv' := [(1, .int (0 : Int32)), (0, .ref 35)]) dX10_layHand_1 rfl rfl (by decide) rfl ?_
  refine J_sub [1, 0] (lv' := [(0, .ref 35), (1, .int (0 : Int32))]) rfl ?_
  refine L_X10_layHand_L2 j_fu hs h (fun y9 M10 g11 h => ?_)
  exact J_vret rfl dX10_layHand_31 ⟨rfl, Nat.le_refl _⟩ (j_pV h)
abbrev JT_X10_layOthers (l : Launch) (G : j_G) (r : j_M) : Nat → List (Nat × Value) → List Value → j_M → Prop := JJ l G md_X10_layOthers (j_rm 2 (0, 0)) (0, 0) (0, 0) (po none r)
noncomputable def f_X10_layOthers_L17 : Nat → j_M → Int32 → Int32 → Int32 → (Int32 → j_M → Option j_M) → Option j_M
  | 0, _, _, _, _, _ => none
  | n + 1, M, x1, x2, x3, K =>
    (f_X10_many M).bind fun v10 => (if v10 ≤ x3 then (K x3 M) else (if x3 = x1 then (f_X10_layOthers_L17 n  M x1 x2 (x3 + (1 : Int32)) K) else (a_i M 40 7 x3 fun v14 => (if v14 = x2 then ((f_X10_paceOf M x3).bind fun v17 => (jn (fun (v20 : Int32) => (tl (j_sI M 35 7 v20) fun M23 => ((f_X10_paceOf M23 x3).bind fun v26 => ((f_X10_paceOf M23 x1).bind fun v28 => (jn (fun (v31 : Int32) => (tl (j_sI M23 35 8 ((j_I M23 35 8) + v31)) fun M34 => (tl (j_sI M34 35 9 ((j_I M34 35 9) + (1 : Int32))) fun M37 => (f_X10_layOthers_L17 n  M37 x1 x2 (x3 + (1 : Int32)) K)))) (fun K32 => (if v26 ≤ v28 then (K32 (0 : Int32)) else (K32 (1 : Int32))))))))) (fun K21 => (if v17 ≤ (j_I M 35 7) then (K21 (j_I M 35 7)) else ((f_X10_paceOf M x3).bind fun v40 => (K21 v40)))))) else (f_X10_layOthers_L17 n  M x1 x2 (x3 + (1 : Int32)) K)))))
noncomputable def f_X10_layOthers (M : j_M) (x1 : Int32) (x2 : Int32) : Option j_M :=
  tl (j_sI M 35 7 (0 : Int32)) fun M1 => (tl (j_sI M1 35 8 (0 : Int32)) fun M4 => (tl (j_sI M4 35 9 (0 : Int32)) fun M7 => (f_X10_layOthers_L17 j_fu  M7 x1 x2 (0 : Int32) (fun (y42 : Int32) (M43 : j_M) => (some M43)))))
set_option maxHeartbeats 4000000 in
theorem L_X10_layOthers_L17 {l : Launch} {G : j_G}  {r : j_M} : ∀ (n : Nat) {x1 : Int32} {x2 : Int32} {x3 : Int32} {M : j_M} (hs : sh_m M.2.2) {K : Int32 → j_M → Option j_M}, f_X10_layOthers_L17 n  M x1 x2 x3 K = some r → (∀ (y3 : Int32) (M1 : j_M), sh_m M1.2.2 → K y3 M1 = some r → JT_X10_layOthers l G r 111 [] [] M1) → JT_X10_layOthers l G r 17 [(0, .ref 35), (1, .int x1), (2, .int x2), (3, .int x3)] [] M := by
  intro n
  induction n with
  | zero =>
    intro x1 x2 x3 M hs K h hK
    rw [f_X10_layOthers_L17] at h; cases h
  | succ n ih =>
    intro x1 x2 x3 M hs K h hK
    rw [f_X10_layOthers_L17] at h
    refine J_iload_n (pc' := 18) (i := 3) (n := 3) dX10_layOthers_17 rfl rfl rfl ?_
    refine J_aload_n (pc' := 19) (i := 0) (n := 0) dX10_layOthers_18 rfl rfl rfl ?_
    obtain ⟨v10, e11, h⟩ := bi_inv h
    refine J_callV (pc' := 22) (as := []) (rest := [.int x3]) dX10_layOthers_19 rfl lk_X10_64 rfl 10 (by decide) rfl (m_o hs) (m_n hs (Nat.le_of_ble_eq_true rfl)) (c_X10_many hs e11) ⟨Nat.le_of_ble_eq_true rfl, Nat.le_of_ble_eq_true rfl⟩ (Nat.le_of_ble_eq_true rfl) ⟨Nat.le_of_ble_eq_true rfl, Nat.le_of_ble_eq_true rfl⟩ (j_kq ?_)
    refine J_icmp_ge (pc' := 25) (tgt := 111) dX10_layOthers_22 rfl (by decide) (fun c12 => ?_) (fun c12 => ?_)
    · replace h := j_ip c12 h
      refine J_sub [] (lv' := []) rfl ?_
      exact hK x3 M hs h
    · replace h := j_iq c12 h
      refine J_iload_n (pc' := 26) (i := 3) (n := 3) dX10_layOthers_25 rfl rfl rfl ?_
      refine J_iload_n (pc' := 27) (i := 1) (n := 1) dX10_layOthers_26 rfl rfl rfl ?_
      refine J_icmp_eq (pc' := 30) (tgt := 105) dX10_layOthers_27 rfl (by decide) (fun c13 => ?_) (fun c13 => ?_)
      · replace h := j_ip c13 h
        refine J_iinc (pc' := 108) (i := 3) (n := 3) (v := (x3 + (1 : Int32))) (lv' := [(3, .int (x3 + (1 : Int32))), (0, .ref 35), (1, .int x1), (2, .int x2)]) dX10_layOthers_105 rfl rfl (j_inc _ _ rfl _) (by decide) rfl ?_
        refine J_goto (pc' := 17) dX10_layOthers_108 (by decide) ?_
        refine J_sub [1, 2, 3, 0] (lv' := [(0, .ref 35), (1, .int x1), (2, .int x2), (3, .int (x3 + (1 : Int32)))]) rfl ?_
        exact ih hs h hK
      · replace h := j_iq c13 h
        refine J_aload_n (pc' := 31) (i := 0) (n := 0) dX10_layOthers_30 rfl rfl rfl ?_
        refine J_getR (pc' := 34) (b := 40) dX10_layOthers_31 rfl fl_X10_27 rfl (m_o hs) (m_n hs (Nat.le_of_ble_eq_true rfl)) (m_r6 hs) ?_
        refine J_iload_n (pc' := 35) (i := 3) (n := 3) dX10_layOthers_34 rfl rfl rfl ?_
        obtain ⟨v14, e15, h⟩ := a_i_inv h
        refine J_ialde (pc' := 36) dX10_layOthers_35 rfl (m_s40 hs) (m_n hs (Nat.le_of_ble_eq_true rfl)) e15 ?_
        refine J_iload_n (pc' := 37) (i := 2) (n := 2) dX10_layOthers_36 rfl rfl rfl ?_
        refine J_icmp_ne (pc' := 40) (tgt := 105) dX10_layOthers_37 rfl (by decide) (fun c16 => ?_) (fun c16 => ?_)
        · replace h := j_iq c16 h
          refine J_iinc (pc' := 108) (i := 3) (n := 3) (v := (x3 + (1 : Int32))) (lv' := [(3, .int (x3 + (1 : Int32))), (0, .ref 35), (1, .int x1), (2, .int x2)]) dX10_layOthers_105 rfl rfl (j_inc _ _ rfl _) (by decide) rfl ?_
          refine J_goto (pc' := 17) dX10_layOthers_108 (by decide) ?_
          refine J_sub [1, 2, 3, 0] (lv' := [(0, .ref 35), (1, .int x1), (2, .int x2), (3, .int (x3 + (1 : Int32)))]) rfl ?_
          exact ih hs h hK
        · replace h := j_ip c16 h
          refine J_aload_n (pc' := 41) (i := 0) (n := 0) dX10_layOthers_40 rfl rfl rfl ?_
          refine J_aload_n (pc' := 42) (i := 0) (n := 0) dX10_layOthers_41 rfl rfl rfl ?_
          refine J_iload_n (pc' := 43) (i := 3) (n := 3) dX10_layOthers_42 rfl rfl rfl ?_
          obtain ⟨v17, e18, h⟩ := bi_inv h
          refine J_callV (pc' := 46) (as := [.int x3]) (rest := [.ref 35]) dX10_layOthers_43 rfl lk_X10_121 rfl 10 (by decide) rfl (m_o hs) (m_n hs (Nat.le_of_ble_eq_true rfl)) (c_X10_paceOf hs e18) ⟨Nat.le_of_ble_eq_true rfl, Nat.le_of_ble_eq_true rfl⟩ (Nat.le_of_ble_eq_true rfl) ⟨Nat.le_of_ble_eq_true rfl, Nat.le_of_ble_eq_true rfl⟩ (j_kq ?_)
          refine J_aload_n (pc' := 47) (i := 0) (n := 0) dX10_layOthers_46 rfl rfl rfl ?_
          refine J_getI (pc' := 50) dX10_layOthers_47 rfl fl_X10_111 rfl (m_o hs) (m_n hs (Nat.le_of_ble_eq_true rfl)) ?_
          refine J_join (C := fun (v20 : Int32) => JT_X10_layOthers l G r 65 [(0, .ref 35), (1, .int x1), (2, .int x2), (3, .int x3)] [.int v20, .ref 35] M) h (fun v20 h => ?_) (fun K21 h22 h => ?_)
          · obtain ⟨M23, e24, h⟩ := tl_inv h
            have g25 : sh_m M23.2.2 := j_shI e24 hs
            refine J_putIe (pc' := 68) dX10_layOthers_65 rfl fl_X10_111 ⟨rfl, rfl, rfl⟩ (m_o hs) (m_n hs (Nat.le_of_ble_eq_true rfl)) e24 ?_
            refine J_aload_n (pc' := 69) (i := 0) (n := 0) dX10_layOthers_68 rfl rfl rfl ?_
            refine J_dup (pc' := 70) dX10_layOthers_69 rfl rfl ?_
            refine J_getI (pc' := 73) dX10_layOthers_70 rfl fl_X10_115 rfl (m_o g25) (m_n g25 (Nat.le_of_ble_eq_true rfl)) ?_
            refine J_aload_n (pc' := 74) (i := 0) (n := 0) dX10_layOthers_73 rfl rfl rfl ?_
            refine J_iload_n (pc' := 75) (i := 3) (n := 3) dX10_layOthers_74 rfl rfl rfl ?_
            obtain ⟨v26, e27, h⟩ := bi_inv h
            refine J_callV (pc' := 78) (as := [.int x3]) (rest := [.int (j_I M23 35 8), .ref 35]) dX10_layOthers_75 rfl lk_X10_121 rfl 10 (by decide) rfl (m_o g25) (m_n g25 (Nat.le_of_ble_eq_true rfl)) (c_X10_paceOf g25 e27) ⟨Nat.le_of_ble_eq_true rfl, Nat.le_of_ble_eq_true rfl⟩ (Nat.le_of_ble_eq_true rfl) ⟨Nat.le_of_ble_eq_true rfl, Nat.le_of_ble_eq_true rfl⟩ (j_kq ?_)
            refine J_aload_n (pc' := 79) (i := 0) (n := 0) dX10_layOthers_78 rfl rfl rfl ?_
            refine J_iload_n (pc' := 80) (i := 1) (n := 1) dX10_layOthers_79 rfl rfl rfl ?_
            obtain ⟨v28, e29, h⟩ := bi_inv h
            refine J_callV (pc' := 83) (as := [.int x1]) (rest := [.int v26, .int (j_I M23 35 8), .ref 35]) dX10_layOthers_80 rfl lk_X10_121 rfl 10 (by decide) rfl (m_o g25) (m_n g25 (Nat.le_of_ble_eq_true rfl)) (c_X10_paceOf g25 e29) ⟨Nat.le_of_ble_eq_true rfl, Nat.le_of_ble_eq_true rfl⟩ (Nat.le_of_ble_eq_true rfl) ⟨Nat.le_of_ble_eq_true rfl, Nat.le_of_ble_eq_true rfl⟩ (j_kq ?_)
            refine J_join (C := fun (v31 : Int32) => JT_X10_layOthers l G r 91 [(0, .ref 35), (1, .int x1), (2, .int x2), (3, .int x3)] [.int v31, .int (j_I M23 35 8), .ref 35] M23) h (fun v31 h => ?_) (fun K32 h33 h => ?_)
            · refine J_iadd (pc' := 92) dX10_layOthers_91 rfl ?_
              obtain ⟨M34, e35, h⟩ := tl_inv h
              have g36 : sh_m M34.2.2 := j_shI e35 g25
              refine J_putIe (pc' := 95) dX10_layOthers_92 rfl fl_X10_115 ⟨rfl, rfl, rfl⟩ (m_o g25) (m_n g25 (Nat.le_of_ble_eq_true rfl)) e35 ?_
              refine J_aload_n (pc' := 96) (i := 0) (n := 0) dX10_layOthers_95 rfl rfl rfl ?_
              refine J_dup (pc' := 97) dX10_layOthers_96 rfl rfl ?_
              refine J_getI (pc' := 100) dX10_layOthers_97 rfl fl_X10_118 rfl (m_o g36) (m_n g36 (Nat.le_of_ble_eq_true rfl)) ?_
              refine J_iconst (pc' := 101) (v := (1 : Int32)) dX10_layOthers_100 rfl ic_1 ?_
              refine J_iadd (pc' := 102) dX10_layOthers_101 rfl ?_
              obtain ⟨M37, e38, h⟩ := tl_inv h
              have g39 : sh_m M37.2.2 := j_shI e38 g36
              refine J_putIe (pc' := 105) dX10_layOthers_102 rfl fl_X10_118 ⟨rfl, rfl, rfl⟩ (m_o g36) (m_n g36 (Nat.le_of_ble_eq_true rfl)) e38 ?_
              refine J_iinc (pc' := 108) (i := 3) (n := 3) (v := (x3 + (1 : Int32))) (lv' := [(3, .int (x3 + (1 : Int32))), (0, .ref 35), (1, .int x1), (2, .int x2)]) dX10_layOthers_105 rfl rfl (j_inc _ _ rfl _) (by decide) rfl ?_
              refine J_goto (pc' := 17) dX10_layOthers_108 (by decide) ?_
              refine J_sub [1, 2, 3, 0] (lv' := [(0, .ref 35), (1, .int x1), (2, .int x2), (3, .int (x3 + (1 : Int32)))]) rfl ?_
              exact ih g39 h hK
            · refine J_icmp_le (pc' := 86) (tgt := 90) dX10_layOthers_83 rfl (by decide) (fun c30 => ?_) (fun c30 => ?_)
              · replace h := j_ip c30 h
                refine J_iconst (pc' := 91) (v := (0 : Int32)) dX10_layOthers_90 rfl ic_0 ?_
                exact h33 (0 : Int32) h
              · replace h := j_iq c30 h
                refine J_iconst (pc' := 87) (v := (1 : Int32)) dX10_layOthers_86 rfl ic_1 ?_
                refine J_goto (pc' := 91) dX10_layOthers_87 (by decide) ?_
                exact h33 (1 : Int32) h
          · refine J_icmp_le (pc' := 53) (tgt := 61) dX10_layOthers_50 rfl (by decide) (fun c19 => ?_) (fun c19 => ?_)
            · replace h := j_ip c19 h
              refine J_aload_n (pc' := 62) (i := 0) (n := 0) dX10_layOthers_61 rfl rfl rfl ?_
              refine J_getI (pc' := 65) dX10_layOthers_62 rfl fl_X10_111 rfl (m_o hs) (m_n hs (Nat.le_of_ble_eq_true rfl)) ?_
              exact h22 (j_I M 35 7) h
            · replace h := j_iq c19 h
              refine J_aload_n (pc' := 54) (i := 0) (n := 0) dX10_layOthers_53 rfl rfl rfl ?_
              refine J_iload_n (pc' := 55) (i := 3) (n := 3) dX10_layOthers_54 rfl rfl rfl ?_
              obtain ⟨v40, e41, h⟩ := bi_inv h
              refine J_callV (pc' := 58) (as := [.int x3]) (rest := [.ref 35]) dX10_layOthers_55 rfl lk_X10_121 rfl 10 (by decide) rfl (m_o hs) (m_n hs (Nat.le_of_ble_eq_true rfl)) (c_X10_paceOf hs e41) ⟨Nat.le_of_ble_eq_true rfl, Nat.le_of_ble_eq_true rfl⟩ (Nat.le_of_ble_eq_true rfl) ⟨Nat.le_of_ble_eq_true rfl, Nat.le_of_ble_eq_true rfl⟩ (j_kq ?_)
              refine J_goto (pc' := 65) dX10_layOthers_58 (by decide) ?_
              exact h22 v40 h
set_option maxHeartbeats 4000000 in
theorem c_X10_layOthers {l : Launch} {G : j_G} {M : j_M} {x1 : Int32} {x2 : Int32} (hs : sh_m M.2.2) {r : j_M} (h : f_X10_layOthers M x1 x2 = some r) : j_Sp l G md_X10_layOthers 2 (0, 0) [.ref 35, .int x1, .int x2] M (po none r) := by
  refine j_Sp.of (by decide) (Nat.le_of_ble_eq_true rfl) ?_
  show JT_X10_layOthers l G r 0 [(0, .ref 35), (1, .int x1), (2, .int x2)] [] M
  unfold f_X10_layOthers at h
  refine J_aload_n (pc' := 1) (i := 0) (n := 0) dX10_layOthers_0 rfl rfl rfl ?_
  refine J_iconst (pc' := 2) (v := (0 : Int32)) dX10_layOthers_1 rfl ic_0 ?_
  obtain ⟨M1, e2, h⟩ := tl_inv h
  have g3 : sh_m M1.2.2 := j_shI e2 hs
  refine J_putIe (pc' := 5) dX10_layOthers_2 rfl fl_X10_111 ⟨rfl, rfl, rfl⟩ (m_o hs) (m_n hs (Nat.le_of_ble_eq_true rfl)) e2 ?_
  refine J_aload_n (pc' := 6) (i := 0) (n := 0) dX10_layOthers_5 rfl rfl rfl ?_
  refine J_iconst (pc' := 7) (v := (0 : Int32)) dX10_layOthers_6 rfl ic_0 ?_
  obtain ⟨M4, e5, h⟩ := tl_inv h
  have g6 : sh_m M4.2.2 := j_shI e5 g3
  refine J_putIe (pc' := 10) dX10_layOthers_7 rfl fl_X10_115 ⟨rfl, rfl, rfl⟩ (m_o g3) (m_n g3 (Nat.le_of_ble_eq_true rfl)) e5 ?_
  refine J_aload_n (pc' := 11) (i := 0) (n := 0) dX10_layOthers_10 rfl rfl rfl ?_
  refine J_iconst (pc' := 12) (v := (0 : Int32)) dX10_layOthers_11 rfl ic_0 ?_
  obtain ⟨M7, e8, h⟩ := tl_inv h
  have g9 : sh_m M7.2.2 := j_shI e8 g6
  refine J_putIe (pc' := 15) dX10_layOthers_12 rfl fl_X10_118 ⟨rfl, rfl, rfl⟩ (m_o g6) (m_n g6 (Nat.le_of_ble_eq_true rfl)) e8 ?_
  refine J_iconst (pc' := 16) (v := (0 : Int32)) dX10_layOthers_15 rfl ic_0 ?_
  refine J_istore_n (pc' := 17) (i := 3) (lv' := [(3, .int (0 : Int32)), (0, .ref 35), (1, .int x1), (2, .int x2)]) dX10_layOthers_16 rfl rfl (by decide) rfl ?_
  refine J_sub [1, 2, 3, 0] (lv' := [(0, .ref 35), (1, .int x1), (2, .int x2), (3, .int (0 : Int32))]) rfl ?_
  refine L_X10_layOthers_L17 j_fu g9 h (fun y42 M43 g44 h => ?_)
  exact J_vret rfl dX10_layOthers_111 ⟨rfl, Nat.le_refl _⟩ (j_pV h)
abbrev JT_X10_secondsIn (l : Launch) (G : j_G) (r : (Int32 × j_M)) : Nat → List (Nat × Value) → List Value → j_M → Prop := JJ l G md_X10_secondsIn (j_rm 3 (0, 0)) (0, 0) (0, 0) (po (some (.int r.1)) r.2)
noncomputable def f_X10_secondsIn (M : j_M) (x1 : Int32) (x2 : Int32) : Option (Int32 × j_M) :=
  (f_X10_layOthers M x1 x2).bind fun q1 => j_ck M q1 (a_i q1 36 250 ((30 : Int32) + x1) fun v5 => ((f_X10_paceOf q1 x1).bind fun v7 => (tl (f_X10_secondsAs v5 v7 (j_I q1 35 7) (j_I q1 35 8) (j_I q1 35 9)) fun v9 => (some (v9, q1)))))
set_option maxHeartbeats 4000000 in
theorem c_X10_secondsIn {l : Launch} {G : j_G} {M : j_M} {x1 : Int32} {x2 : Int32} (hs : sh_m M.2.2) {r : (Int32 × j_M)} (h : f_X10_secondsIn M x1 x2 = some r) : j_Sp l G md_X10_secondsIn 3 (0, 0) [.ref 35, .int x1, .int x2] M (po (some (.int r.1)) r.2) := by
  refine j_Sp.of (by decide) (Nat.le_of_ble_eq_true rfl) ?_
  show JT_X10_secondsIn l G r 0 [(0, .ref 35), (1, .int x1), (2, .int x2)] [] M
  unfold f_X10_secondsIn at h
  refine J_aload_n (pc' := 1) (i := 0) (n := 0) dX10_secondsIn_0 rfl rfl rfl ?_
  refine J_iload_n (pc' := 2) (i := 1) (n := 1) dX10_secondsIn_1 rfl rfl rfl ?_
  refine J_iload_n (pc' := 3) (i := 2) (n := 2) dX10_secondsIn_2 rfl rfl rfl ?_
  obtain ⟨q1, e2, h⟩ := bi_inv h
  obtain ⟨c3, h⟩ := j_ck_inv h
  refine J_callV (pc' := 6) (as := [.int x1, .int x2]) (rest := []) dX10_secondsIn_3 rfl lk_X10_124 rfl 10 (by decide) rfl (m_o hs) (m_n hs (Nat.le_of_ble_eq_true rfl)) (c_X10_layOthers hs e2) ⟨Nat.le_of_ble_eq_true rfl, Nat.le_of_ble_eq_true rfl⟩ (Nat.le_of_ble_eq_true rfl) ⟨Nat.le_of_ble_eq_true rfl, Nat.le_of_ble_eq_true rfl⟩ (j_kv ?_)
  have g4 : sh_m q1.2.2 := j_shE c3 hs
  refine J_aload_n (pc' := 7) (i := 0) (n := 0) dX10_secondsIn_6 rfl rfl rfl ?_
  refine J_getR (pc' := 10) (b := 36) dX10_secondsIn_7 rfl fl_X10_7 rfl (m_o g4) (m_n g4 (Nat.le_of_ble_eq_true rfl)) (m_r0 g4) ?_
  refine J_bipush (pc' := 12) (v := (30 : Int32)) dX10_secondsIn_10 rfl bp_30 ?_
  refine J_iload_n (pc' := 13) (i := 1) (n := 1) dX10_secondsIn_12 rfl rfl rfl ?_
  refine J_iadd (pc' := 14) dX10_secondsIn_13 rfl ?_
  obtain ⟨v5, e6, h⟩ := a_i_inv h
  refine J_ialde (pc' := 15) dX10_secondsIn_14 rfl (m_s36 g4) (m_n g4 (Nat.le_of_ble_eq_true rfl)) e6 ?_
  refine J_aload_n (pc' := 16) (i := 0) (n := 0) dX10_secondsIn_15 rfl rfl rfl ?_
  refine J_iload_n (pc' := 17) (i := 1) (n := 1) dX10_secondsIn_16 rfl rfl rfl ?_
  obtain ⟨v7, e8, h⟩ := bi_inv h
  refine J_callV (pc' := 20) (as := [.int x1]) (rest := [.int v5]) dX10_secondsIn_17 rfl lk_X10_121 rfl 10 (by decide) rfl (m_o g4) (m_n g4 (Nat.le_of_ble_eq_true rfl)) (c_X10_paceOf g4 e8) ⟨Nat.le_of_ble_eq_true rfl, Nat.le_of_ble_eq_true rfl⟩ (Nat.le_of_ble_eq_true rfl) ⟨Nat.le_of_ble_eq_true rfl, Nat.le_of_ble_eq_true rfl⟩ (j_kq ?_)
  refine J_aload_n (pc' := 21) (i := 0) (n := 0) dX10_secondsIn_20 rfl rfl rfl ?_
  refine J_getI (pc' := 24) dX10_secondsIn_21 rfl fl_X10_111 rfl (m_o g4) (m_n g4 (Nat.le_of_ble_eq_true rfl)) ?_
  refine J_aload_n (pc' := 25) (i := 0) (n := 0) dX10_secondsIn_24 rfl rfl rfl ?_
  refine J_getI (pc' := 28) dX10_secondsIn_25 rfl fl_X10_115 rfl (m_o g4) (m_n g4 (Nat.le_of_ble_eq_true rfl)) ?_
  refine J_aload_n (pc' := 29) (i := 0) (n := 0) dX10_secondsIn_28 rfl rfl rfl ?_
  refine J_getI (pc' := 32) dX10_secondsIn_29 rfl fl_X10_118 rfl (m_o g4) (m_n g4 (Nat.le_of_ble_eq_true rfl)) ?_
  obtain ⟨v9, e10, h⟩ := tl_inv h
  refine J_callS (pc' := 35) (as := [.int v5, .int v7, .int (j_I q1 35 7), .int (j_I q1 35 8), .int (j_I q1 35 9)]) (rest := []) dX10_secondsIn_32 rfl lk_X10_128 rfl (c_X10_secondsAs e10) ⟨Nat.le_of_ble_eq_true rfl, Nat.le_of_ble_eq_true rfl⟩ (Nat.le_of_ble_eq_true rfl) ⟨Nat.le_of_ble_eq_true rfl, Nat.le_of_ble_eq_true rfl⟩ (j_kq ?_)
  exact J_iret rfl dX10_secondsIn_35 ⟨rfl, Nat.le_refl _⟩ (j_pW h)
abbrev JT_X10_keep (l : Launch) (G : j_G) (r : j_M) : Nat → List (Nat × Value) → List Value → j_M → Prop := JJ l G md_X10_keep (j_rm 1 (0, 0)) (0, 0) (0, 0) (po none r)
noncomputable def f_X10_keep_L67 : Nat → j_M → Int32 → Int32 → (Int32 → j_M → Option j_M) → Option j_M
  | 0, _, _, _, _ => none
  | n + 1, M, x1, x2, K =>
    if (21 : Int32) ≤ x2 then (K x2 M) else (a_i M 36 250 ((9 : Int32) + x2) fun v11 => (w_i M 36 250 (x1 + x2) v11 fun M13 => (f_X10_keep_L67 n  M13 x1 (x2 + (1 : Int32)) K)))
noncomputable def f_X10_keep_L13 : Nat → j_M → Int32 → (Int32 → j_M → Option j_M) → Option j_M
  | 0, _, _, _ => none
  | n + 1, M, x1, K =>
    if (154 : Int32) ≤ x1 then (K x1 M) else (a_i M 36 250 ((96 : Int32) + x1) fun v30 => (w_i M 36 250 ((74 : Int32) + x1) v30 fun M32 => (f_X10_keep_L13 n  M32 (x1 + (1 : Int32)) K)))
noncomputable def f_X10_keep (M : j_M)  : Option j_M :=
  a_i M 36 250 (3 : Int32) fun v1 => (jn (fun (M4 : j_M) => (a_i M4 36 250 (3 : Int32) fun v8 => (f_X10_keep_L67 j_fu  M4 ((74 : Int32) + ((22 : Int32) * v8)) (0 : Int32) (fun (y16 : Int32) (M17 : j_M) => (a_i M17 36 250 (1 : Int32) fun v19 => (w_i M17 36 250 (((74 : Int32) + ((22 : Int32) * v8)) + (21 : Int32)) v19 fun M21 => (a_i M21 36 250 (3 : Int32) fun v24 => (w_i M21 36 250 (3 : Int32) (v24 + (1 : Int32)) fun M26 => (some M26))))))))) (fun K5 => (if v1 = (8 : Int32) then (f_X10_keep_L13 j_fu  M (0 : Int32) (fun (y35 : Int32) (M36 : j_M) => (w_i M36 36 250 (3 : Int32) (7 : Int32) fun M38 => (K5 M38)))) else (K5 M))))
set_option maxHeartbeats 4000000 in
theorem L_X10_keep_L67 {l : Launch} {G : j_G}  {r : j_M} : ∀ (n : Nat) {x1 : Int32} {x2 : Int32} {M : j_M} (hs : sh_m M.2.2) {K : Int32 → j_M → Option j_M}, f_X10_keep_L67 n  M x1 x2 K = some r → (∀ (y2 : Int32) (M1 : j_M), sh_m M1.2.2 → K y2 M1 = some r → JT_X10_keep l G r 96 [(0, .ref 35), (1, .int x1)] [] M1) → JT_X10_keep l G r 67 [(0, .ref 35), (1, .int x1), (2, .int x2)] [] M := by
  intro n
  induction n with
  | zero =>
    intro x1 x2 M hs K h hK
    rw [f_X10_keep_L67] at h; cases h
  | succ n ih =>
    intro x1 x2 M hs K h hK
    rw [f_X10_keep_L67] at h
    refine J_iload_n (pc' := 68) (i := 2) (n := 2) dX10_keep_67 rfl rfl rfl ?_
    refine J_bipush (pc' := 70) (v := (21 : Int32)) dX10_keep_68 rfl bp_21 ?_
    refine J_icmp_ge (pc' := 73) (tgt := 96) dX10_keep_70 rfl (by decide) (fun c10 => ?_) (fun c10 => ?_)
    · replace h := j_ip c10 h
      refine J_sub [0, 1] (lv' := [(0, .ref 35), (1, .int x1)]) rfl ?_
      exact hK x2 M hs h
    · replace h := j_iq c10 h
      refine J_aload_n (pc' := 74) (i := 0) (n := 0) dX10_keep_73 rfl rfl rfl ?_
      refine J_getR (pc' := 77) (b := 36) dX10_keep_74 rfl fl_X10_7 rfl (m_o hs) (m_n hs (Nat.le_of_ble_eq_true rfl)) (m_r0 hs) ?_
      refine J_iload_n (pc' := 78) (i := 1) (n := 1) dX10_keep_77 rfl rfl rfl ?_
      refine J_iload_n (pc' := 79) (i := 2) (n := 2) dX10_keep_78 rfl rfl rfl ?_
      refine J_iadd (pc' := 80) dX10_keep_79 rfl ?_
      refine J_aload_n (pc' := 81) (i := 0) (n := 0) dX10_keep_80 rfl rfl rfl ?_
      refine J_getR (pc' := 84) (b := 36) dX10_keep_81 rfl fl_X10_7 rfl (m_o hs) (m_n hs (Nat.le_of_ble_eq_true rfl)) (m_r0 hs) ?_
      refine J_bipush (pc' := 86) (v := (9 : Int32)) dX10_keep_84 rfl bp_9 ?_
      refine J_iload_n (pc' := 87) (i := 2) (n := 2) dX10_keep_86 rfl rfl rfl ?_
      refine J_iadd (pc' := 88) dX10_keep_87 rfl ?_
      obtain ⟨v11, e12, h⟩ := a_i_inv h
      refine J_ialde (pc' := 89) dX10_keep_88 rfl (m_s36 hs) (m_n hs (Nat.le_of_ble_eq_true rfl)) e12 ?_
      obtain ⟨M13, e14, h⟩ := w_i_inv h
      have g15 : sh_m M13.2.2 := j_shI e14.2 hs
      refine J_iaste (pc' := 90) dX10_keep_89 rfl (m_s36 hs) (m_n hs (Nat.le_of_ble_eq_true rfl)) e14 ?_
      refine J_iinc (pc' := 93) (i := 2) (n := 2) (v := (x2 + (1 : Int32))) (lv' := [(2, .int (x2 + (1 : Int32))), (0, .ref 35), (1, .int x1)]) dX10_keep_90 rfl rfl (j_inc _ _ rfl _) (by decide) rfl ?_
      refine J_goto (pc' := 67) dX10_keep_93 (by decide) ?_
      refine J_sub [1, 2, 0] (lv' := [(0, .ref 35), (1, .int x1), (2, .int (x2 + (1 : Int32)))]) rfl ?_
      exact ih g15 h hK
set_option maxHeartbeats 4000000 in
theorem L_X10_keep_L13 {l : Launch} {G : j_G}  {r : j_M} : ∀ (n : Nat) {x1 : Int32} {M : j_M} (hs : sh_m M.2.2) {K : Int32 → j_M → Option j_M}, f_X10_keep_L13 n  M x1 K = some r → (∀ (y1 : Int32) (M1 : j_M), sh_m M1.2.2 → K y1 M1 = some r → JT_X10_keep l G r 44 [(0, .ref 35)] [] M1) → JT_X10_keep l G r 13 [(0, .ref 35), (1, .int x1)] [] M := by
  intro n
  induction n with
  | zero =>
    intro x1 M hs K h hK
    rw [f_X10_keep_L13] at h; cases h
  | succ n ih =>
    intro x1 M hs K h hK
    rw [f_X10_keep_L13] at h
    refine J_iload_n (pc' := 14) (i := 1) (n := 1) dX10_keep_13 rfl rfl rfl ?_
    refine J_sipush (pc' := 17) (v := (154 : Int32)) dX10_keep_14 rfl sp_154 ?_
    refine J_icmp_ge (pc' := 20) (tgt := 44) dX10_keep_17 rfl (by decide) (fun c29 => ?_) (fun c29 => ?_)
    · replace h := j_ip c29 h
      refine J_sub [0] (lv' := [(0, .ref 35)]) rfl ?_
      exact hK x1 M hs h
    · replace h := j_iq c29 h
      refine J_aload_n (pc' := 21) (i := 0) (n := 0) dX10_keep_20 rfl rfl rfl ?_
      refine J_getR (pc' := 24) (b := 36) dX10_keep_21 rfl fl_X10_7 rfl (m_o hs) (m_n hs (Nat.le_of_ble_eq_true rfl)) (m_r0 hs) ?_
      refine J_bipush (pc' := 26) (v := (74 : Int32)) dX10_keep_24 rfl bp_74 ?_
      refine J_iload_n (pc' := 27) (i := 1) (n := 1) dX10_keep_26 rfl rfl rfl ?_
      refine J_iadd (pc' := 28) dX10_keep_27 rfl ?_
      refine J_aload_n (pc' := 29) (i := 0) (n := 0) dX10_keep_28 rfl rfl rfl ?_
      refine J_getR (pc' := 32) (b := 36) dX10_keep_29 rfl fl_X10_7 rfl (m_o hs) (m_n hs (Nat.le_of_ble_eq_true rfl)) (m_r0 hs) ?_
      refine J_bipush (pc' := 34) (v := (96 : Int32)) dX10_keep_32 rfl bp_96 ?_
      refine J_iload_n (pc' := 35) (i := 1) (n := 1) dX10_keep_34 rfl rfl rfl ?_
      refine J_iadd (pc' := 36) dX10_keep_35 rfl ?_
      obtain ⟨v30, e31, h⟩ := a_i_inv h
      refine J_ialde (pc' := 37) dX10_keep_36 rfl (m_s36 hs) (m_n hs (Nat.le_of_ble_eq_true rfl)) e31 ?_
      obtain ⟨M32, e33, h⟩ := w_i_inv h
      have g34 : sh_m M32.2.2 := j_shI e33.2 hs
      refine J_iaste (pc' := 38) dX10_keep_37 rfl (m_s36 hs) (m_n hs (Nat.le_of_ble_eq_true rfl)) e33 ?_
      refine J_iinc (pc' := 41) (i := 1) (n := 1) (v := (x1 + (1 : Int32))) (lv' := [(1, .int (x1 + (1 : Int32))), (0, .ref 35)]) dX10_keep_38 rfl rfl (j_inc _ _ rfl _) (by decide) rfl ?_
      refine J_goto (pc' := 13) dX10_keep_41 (by decide) ?_
      refine J_sub [1, 0] (lv' := [(0, .ref 35), (1, .int (x1 + (1 : Int32)))]) rfl ?_
      exact ih g34 h hK
set_option maxHeartbeats 4000000 in
theorem c_X10_keep {l : Launch} {G : j_G} {M : j_M}  (hs : sh_m M.2.2) {r : j_M} (h : f_X10_keep M  = some r) : j_Sp l G md_X10_keep 1 (0, 0) [.ref 35] M (po none r) := by
  refine j_Sp.of (by decide) (Nat.le_of_ble_eq_true rfl) ?_
  show JT_X10_keep l G r 0 [(0, .ref 35)] [] M
  unfold f_X10_keep at h
  refine J_aload_n (pc' := 1) (i := 0) (n := 0) dX10_keep_0 rfl rfl rfl ?_
  refine J_getR (pc' := 4) (b := 36) dX10_keep_1 rfl fl_X10_7 rfl (m_o hs) (m_n hs (Nat.le_of_ble_eq_true rfl)) (m_r0 hs) ?_
  refine J_iconst (pc' := 5) (v := (3 : Int32)) dX10_keep_4 rfl ic_3 ?_
  obtain ⟨v1, e2, h⟩ := a_i_inv h
  refine J_ialde (pc' := 6) dX10_keep_5 rfl (m_s36 hs) (m_n hs (Nat.le_of_ble_eq_true rfl)) e2 ?_
  refine J_bipush (pc' := 8) (v := (8 : Int32)) dX10_keep_6 rfl bp_8 ?_
  refine J_join (C := fun (M4 : j_M) => sh_m M4.2.2 → JT_X10_keep l G r 52 [(0, .ref 35)] [] M4) h (fun M4 h => ?_) (fun K5 h6 h => ?_)
  · intro g7
    refine J_bipush (pc' := 54) (v := (74 : Int32)) dX10_keep_52 rfl bp_74 ?_
    refine J_bipush (pc' := 56) (v := (22 : Int32)) dX10_keep_54 rfl bp_22 ?_
    refine J_aload_n (pc' := 57) (i := 0) (n := 0) dX10_keep_56 rfl rfl rfl ?_
    refine J_getR (pc' := 60) (b := 36) dX10_keep_57 rfl fl_X10_7 rfl (m_o g7) (m_n g7 (Nat.le_of_ble_eq_true rfl)) (m_r0 g7) ?_
    refine J_iconst (pc' := 61) (v := (3 : Int32)) dX10_keep_60 rfl ic_3 ?_
    obtain ⟨v8, e9, h⟩ := a_i_inv h
    refine J_ialde (pc' := 62) dX10_keep_61 rfl (m_s36 g7) (m_n g7 (Nat.le_of_ble_eq_true rfl)) e9 ?_
    refine J_imul (pc' := 63) dX10_keep_62 rfl ?_
    refine J_iadd (pc' := 64) dX10_keep_63 rfl ?_
    refine J_istore_n (pc' := 65) (i := 1) (lv' := [(1, .int ((74 : Int32) + ((22 : Int32) * v8))), (0, .ref 35)]) dX10_keep_64 rfl rfl (by decide) rfl ?_
    refine J_iconst (pc' := 66) (v := (0 : Int32)) dX10_keep_65 rfl ic_0 ?_
    refine J_istore_n (pc' := 67) (i := 2) (lv' := [(2, .int (0 : Int32)), (1, .int ((74 : Int32) + ((22 : Int32) * v8))), (0, .ref 35)]) dX10_keep_66 rfl rfl (by decide) rfl ?_
    refine J_sub [2, 1, 0] (lv' := [(0, .ref 35), (1, .int ((74 : Int32) + ((22 : Int32) * v8))), (2, .int (0 : Int32))]) rfl ?_
    refine L_X10_keep_L67 j_fu g7 h (fun y16 M17 g18 h => ?_)
    refine J_aload_n (pc' := 97) (i := 0) (n := 0) dX10_keep_96 rfl rfl rfl ?_
    refine J_getR (pc' := 100) (b := 36) dX10_keep_97 rfl fl_X10_7 rfl (m_o g18) (m_n g18 (Nat.le_of_ble_eq_true rfl)) (m_r0 g18) ?_
    refine J_iload_n (pc' := 101) (i := 1) (n := 1) dX10_keep_100 rfl rfl rfl ?_
    refine J_bipush (pc' := 103) (v := (21 : Int32)) dX10_keep_101 rfl bp_21 ?_
    refine J_iadd (pc' := 104) dX10_keep_103 rfl ?_
    refine J_aload_n (pc' := 105) (i := 0) (n := 0) dX10_keep_104 rfl rfl rfl ?_
    refine J_getR (pc' := 108) (b := 36) dX10_keep_105 rfl fl_X10_7 rfl (m_o g18) (m_n g18 (Nat.le_of_ble_eq_true rfl)) (m_r0 g18) ?_
    refine J_iconst (pc' := 109) (v := (1 : Int32)) dX10_keep_108 rfl ic_1 ?_
    obtain ⟨v19, e20, h⟩ := a_i_inv h
    refine J_ialde (pc' := 110) dX10_keep_109 rfl (m_s36 g18) (m_n g18 (Nat.le_of_ble_eq_true rfl)) e20 ?_
    obtain ⟨M21, e22, h⟩ := w_i_inv h
    have g23 : sh_m M21.2.2 := j_shI e22.2 g18
    refine J_iaste (pc' := 111) dX10_keep_110 rfl (m_s36 g18) (m_n g18 (Nat.le_of_ble_eq_true rfl)) e22 ?_
    refine J_aload_n (pc' := 112) (i := 0) (n := 0) dX10_keep_111 rfl rfl rfl ?_
    refine J_getR (pc' := 115) (b := 36) dX10_keep_112 rfl fl_X10_7 rfl (m_o g23) (m_n g23 (Nat.le_of_ble_eq_true rfl)) (m_r0 g23) ?_
    refine J_iconst (pc' := 116) (v := (3 : Int32)) dX10_keep_115 rfl ic_3 ?_
    refine J_dup2 (pc' := 117) dX10_keep_116 rfl rfl rfl ?_
    obtain ⟨v24, e25, h⟩ := a_i_inv h
    refine J_ialde (pc' := 118) dX10_keep_117 rfl (m_s36 g23) (m_n g23 (Nat.le_of_ble_eq_true rfl)) e25 ?_
    refine J_iconst (pc' := 119) (v := (1 : Int32)) dX10_keep_118 rfl ic_1 ?_
    refine J_iadd (pc' := 120) dX10_keep_119 rfl ?_
    obtain ⟨M26, e27, h⟩ := w_i_inv h
    have g28 : sh_m M26.2.2 := j_shI e27.2 g23
    refine J_iaste (pc' := 121) dX10_keep_120 rfl (m_s36 g23) (m_n g23 (Nat.le_of_ble_eq_true rfl)) e27 ?_
    exact J_vret rfl dX10_keep_121 ⟨rfl, Nat.le_refl _⟩ (j_pV h)
  · refine J_icmp_ne (pc' := 11) (tgt := 52) dX10_keep_8 rfl (by decide) (fun c3 => ?_) (fun c3 => ?_)
    · replace h := j_iq c3 h
      exact h6 M h hs
    · replace h := j_ip c3 h
      refine J_iconst (pc' := 12) (v := (0 : Int32)) dX10_keep_11 rfl ic_0 ?_
      refine J_istore_n (pc' := 13) (i := 1) (lv' := [(1, .int (0 : Int32)), (0, .ref 35)]) dX10_keep_12 rfl rfl (by decide) rfl ?_
      refine J_sub [1, 0] (lv' := [(0, .ref 35), (1, .int (0 : Int32))]) rfl ?_
      refine L_X10_keep_L13 j_fu hs h (fun y35 M36 g37 h => ?_)
      refine J_aload_n (pc' := 45) (i := 0) (n := 0) dX10_keep_44 rfl rfl rfl ?_
      refine J_getR (pc' := 48) (b := 36) dX10_keep_45 rfl fl_X10_7 rfl (m_o g37) (m_n g37 (Nat.le_of_ble_eq_true rfl)) (m_r0 g37) ?_
      refine J_iconst (pc' := 49) (v := (3 : Int32)) dX10_keep_48 rfl ic_3 ?_
      refine J_bipush (pc' := 51) (v := (7 : Int32)) dX10_keep_49 rfl bp_7 ?_
      obtain ⟨M38, e39, h⟩ := w_i_inv h
      have g40 : sh_m M38.2.2 := j_shI e39.2 g37
      refine J_iaste (pc' := 52) dX10_keep_51 rfl (m_s36 g37) (m_n g37 (Nat.le_of_ble_eq_true rfl)) e39 ?_
      exact h6 M38 h g40
abbrev JT_X10_goes (l : Launch) (G : j_G) (r : (Int32 × j_M)) : Nat → List (Nat × Value) → List Value → j_M → Prop := JJ l G md_X10_goes (j_rm 3 (0, 0)) (0, 0) (0, 0) (po (some (.int r.1)) r.2)
noncomputable def f_X10_goes (M : j_M) (x1 : Int32) (x2 : Int32) : Option (Int32 × j_M) :=
  (f_X10_isOne M x1).bind fun v1 => (if v1 = 0 then ((f_X10_bad M ((-2) : Int32)).bind fun q4 => j_ck M q4.2 (some (q4.1, q4.2))) else (tl (f_X10_isLane x2) fun v8 => (if v8 = 0 then ((f_X10_bad M ((-2) : Int32)).bind fun q27 => j_ck M q27.2 (some (q27.1, q27.2))) else ((f_X10_isOpen M x2).bind fun v11 => (if v11 = 0 then ((f_X10_no M).bind fun q23 => j_ck M q23.2 (some (q23.1, q23.2))) else (a_i M 36 250 ((9 : Int32) + x1) fun v14 => ((f_X10_keep M).bind fun q16 => j_ck M q16 (w_i q16 36 250 ((9 : Int32) + x1) x2 fun M20 => (some (v14, M20))))))))))
set_option maxHeartbeats 4000000 in
theorem c_X10_goes {l : Launch} {G : j_G} {M : j_M} {x1 : Int32} {x2 : Int32} (hs : sh_m M.2.2) {r : (Int32 × j_M)} (h : f_X10_goes M x1 x2 = some r) : j_Sp l G md_X10_goes 3 (0, 0) [.ref 35, .int x1, .int x2] M (po (some (.int r.1)) r.2) := by
  refine j_Sp.of (by decide) (Nat.le_of_ble_eq_true rfl) ?_
  show JT_X10_goes l G r 0 [(0, .ref 35), (1, .int x1), (2, .int x2)] [] M
  unfold f_X10_goes at h
  refine J_aload_n (pc' := 1) (i := 0) (n := 0) dX10_goes_0 rfl rfl rfl ?_
  refine J_iload_n (pc' := 2) (i := 1) (n := 1) dX10_goes_1 rfl rfl rfl ?_
  obtain ⟨v1, e2, h⟩ := bi_inv h
  refine J_callV (pc' := 5) (as := [.int x1]) (rest := []) dX10_goes_2 rfl lk_X10_132 rfl 10 (by decide) rfl (m_o hs) (m_n hs (Nat.le_of_ble_eq_true rfl)) (c_X10_isOne hs e2) ⟨Nat.le_of_ble_eq_true rfl, Nat.le_of_ble_eq_true rfl⟩ (Nat.le_of_ble_eq_true rfl) ⟨Nat.le_of_ble_eq_true rfl, Nat.le_of_ble_eq_true rfl⟩ (j_kq ?_)
  refine J_if_eq (pc' := 8) (tgt := 15) dX10_goes_5 rfl (by decide) (fun c3 => ?_) (fun c3 => ?_)
  · replace h := j_ip c3 h
    refine J_aload_n (pc' := 16) (i := 0) (n := 0) dX10_goes_15 rfl rfl rfl ?_
    refine J_bipush (pc' := 18) (v := ((-2) : Int32)) dX10_goes_16 rfl bp_m2 ?_
    obtain ⟨q4, e5, h⟩ := bi_inv h
    obtain ⟨c6, h⟩ := j_ck_inv h
    refine J_callV (pc' := 21) (as := [.int ((-2) : Int32)]) (rest := []) dX10_goes_18 rfl lk_X10_84 rfl 10 (by decide) rfl (m_o hs) (m_n hs (Nat.le_of_ble_eq_true rfl)) (c_X10_bad hs e5) ⟨Nat.le_of_ble_eq_true rfl, Nat.le_of_ble_eq_true rfl⟩ (Nat.le_of_ble_eq_true rfl) ⟨Nat.le_of_ble_eq_true rfl, Nat.le_of_ble_eq_true rfl⟩ (j_kq ?_)
    have g7 : sh_m q4.2.2.2 := j_shE c6 hs
    exact J_iret rfl dX10_goes_21 ⟨rfl, Nat.le_refl _⟩ (j_pW h)
  · replace h := j_iq c3 h
    refine J_iload_n (pc' := 9) (i := 2) (n := 2) dX10_goes_8 rfl rfl rfl ?_
    obtain ⟨v8, e9, h⟩ := tl_inv h
    refine J_callS (pc' := 12) (as := [.int x2]) (rest := []) dX10_goes_9 rfl lk_X10_78 rfl (c_X10_isLane e9) ⟨Nat.le_of_ble_eq_true rfl, Nat.le_of_ble_eq_true rfl⟩ (Nat.le_of_ble_eq_true rfl) ⟨Nat.le_of_ble_eq_true rfl, Nat.le_of_ble_eq_true rfl⟩ (j_kq ?_)
    refine J_if_ne (pc' := 15) (tgt := 22) dX10_goes_12 rfl (by decide) (fun c10 => ?_) (fun c10 => ?_)
    · replace h := j_iq c10 h
      refine J_aload_n (pc' := 23) (i := 0) (n := 0) dX10_goes_22 rfl rfl rfl ?_
      refine J_iload_n (pc' := 24) (i := 2) (n := 2) dX10_goes_23 rfl rfl rfl ?_
      obtain ⟨v11, e12, h⟩ := bi_inv h
      refine J_callV (pc' := 27) (as := [.int x2]) (rest := []) dX10_goes_24 rfl lk_X10_101 rfl 10 (by decide) rfl (m_o hs) (m_n hs (Nat.le_of_ble_eq_true rfl)) (c_X10_isOpen hs e12) ⟨Nat.le_of_ble_eq_true rfl, Nat.le_of_ble_eq_true rfl⟩ (Nat.le_of_ble_eq_true rfl) ⟨Nat.le_of_ble_eq_true rfl, Nat.le_of_ble_eq_true rfl⟩ (j_kq ?_)
      refine J_if_ne (pc' := 30) (tgt := 35) dX10_goes_27 rfl (by decide) (fun c13 => ?_) (fun c13 => ?_)
      · replace h := j_iq c13 h
        refine J_aload_n (pc' := 36) (i := 0) (n := 0) dX10_goes_35 rfl rfl rfl ?_
        refine J_getR (pc' := 39) (b := 36) dX10_goes_36 rfl fl_X10_7 rfl (m_o hs) (m_n hs (Nat.le_of_ble_eq_true rfl)) (m_r0 hs) ?_
        refine J_bipush (pc' := 41) (v := (9 : Int32)) dX10_goes_39 rfl bp_9 ?_
        refine J_iload_n (pc' := 42) (i := 1) (n := 1) dX10_goes_41 rfl rfl rfl ?_
        refine J_iadd (pc' := 43) dX10_goes_42 rfl ?_
        obtain ⟨v14, e15, h⟩ := a_i_inv h
        refine J_ialde (pc' := 44) dX10_goes_43 rfl (m_s36 hs) (m_n hs (Nat.le_of_ble_eq_true rfl)) e15 ?_
        refine J_istore_n (pc' := 45) (i := 3) (lv' := [(3, .int v14), (0, .ref 35), (1, .int x1), (2, .int x2)]) dX10_goes_44 rfl rfl (by decide) rfl ?_
        refine J_aload_n (pc' := 46) (i := 0) (n := 1) dX10_goes_45 rfl rfl rfl ?_
        obtain ⟨q16, e17, h⟩ := bi_inv h
        obtain ⟨c18, h⟩ := j_ck_inv h
        refine J_callV (pc' := 49) (as := []) (rest := []) dX10_goes_46 rfl lk_X10_135 rfl 10 (by decide) rfl (m_o hs) (m_n hs (Nat.le_of_ble_eq_true rfl)) (c_X10_keep hs e17) ⟨Nat.le_of_ble_eq_true rfl, Nat.le_of_ble_eq_true rfl⟩ (Nat.le_of_ble_eq_true rfl) ⟨Nat.le_of_ble_eq_true rfl, Nat.le_of_ble_eq_true rfl⟩ (j_kv ?_)
        have g19 : sh_m q16.2.2 := j_shE c18 hs
        refine J_aload_n (pc' := 50) (i := 0) (n := 1) dX10_goes_49 rfl rfl rfl ?_
        refine J_getR (pc' := 53) (b := 36) dX10_goes_50 rfl fl_X10_7 rfl (m_o g19) (m_n g19 (Nat.le_of_ble_eq_true rfl)) (m_r0 g19) ?_
        refine J_bipush (pc' := 55) (v := (9 : Int32)) dX10_goes_53 rfl bp_9 ?_
        refine J_iload_n (pc' := 56) (i := 1) (n := 2) dX10_goes_55 rfl rfl rfl ?_
        refine J_iadd (pc' := 57) dX10_goes_56 rfl ?_
        refine J_iload_n (pc' := 58) (i := 2) (n := 3) dX10_goes_57 rfl rfl rfl ?_
        obtain ⟨M20, e21, h⟩ := w_i_inv h
        have g22 : sh_m M20.2.2 := j_shI e21.2 g19
        refine J_iaste (pc' := 59) dX10_goes_58 rfl (m_s36 g19) (m_n g19 (Nat.le_of_ble_eq_true rfl)) e21 ?_
        refine J_iload_n (pc' := 60) (i := 3) (n := 0) dX10_goes_59 rfl rfl rfl ?_
        exact J_iret rfl dX10_goes_60 ⟨rfl, Nat.le_refl _⟩ (j_pW h)
      · replace h := j_ip c13 h
        refine J_aload_n (pc' := 31) (i := 0) (n := 0) dX10_goes_30 rfl rfl rfl ?_
        obtain ⟨q23, e24, h⟩ := bi_inv h
        obtain ⟨c25, h⟩ := j_ck_inv h
        refine J_callV (pc' := 34) (as := []) (rest := []) dX10_goes_31 rfl lk_X10_92 rfl 10 (by decide) rfl (m_o hs) (m_n hs (Nat.le_of_ble_eq_true rfl)) (c_X10_no hs e24) ⟨Nat.le_of_ble_eq_true rfl, Nat.le_of_ble_eq_true rfl⟩ (Nat.le_of_ble_eq_true rfl) ⟨Nat.le_of_ble_eq_true rfl, Nat.le_of_ble_eq_true rfl⟩ (j_kq ?_)
        have g26 : sh_m q23.2.2.2 := j_shE c25 hs
        exact J_iret rfl dX10_goes_34 ⟨rfl, Nat.le_refl _⟩ (j_pW h)
    · replace h := j_ip c10 h
      refine J_aload_n (pc' := 16) (i := 0) (n := 0) dX10_goes_15 rfl rfl rfl ?_
      refine J_bipush (pc' := 18) (v := ((-2) : Int32)) dX10_goes_16 rfl bp_m2 ?_
      obtain ⟨q27, e28, h⟩ := bi_inv h
      obtain ⟨c29, h⟩ := j_ck_inv h
      refine J_callV (pc' := 21) (as := [.int ((-2) : Int32)]) (rest := []) dX10_goes_18 rfl lk_X10_84 rfl 10 (by decide) rfl (m_o hs) (m_n hs (Nat.le_of_ble_eq_true rfl)) (c_X10_bad hs e28) ⟨Nat.le_of_ble_eq_true rfl, Nat.le_of_ble_eq_true rfl⟩ (Nat.le_of_ble_eq_true rfl) ⟨Nat.le_of_ble_eq_true rfl, Nat.le_of_ble_eq_true rfl⟩ (j_kq ?_)
      have g30 : sh_m q27.2.2.2 := j_shE c29 hs
      exact J_iret rfl dX10_goes_21 ⟨rfl, Nat.le_refl _⟩ (j_pW h)
abbrev JT_X10_minute (l : Launch) (G : j_G) (r : (Int32 × j_M)) : Nat → List (Nat × Value) → List Value → j_M → Prop := JJ l G md_X10_minute (j_rm 4 (0, 0)) (0, 0) (0, 0) (po (some (.int r.1)) r.2)
noncomputable def f_X10_minute_L61 : Nat → j_M → Int32 → Int32 → Int32 → (Int32 → Int32 → j_M → Option (Int32 × j_M)) → Option (Int32 × j_M)
  | 0, _, _, _, _, _ => none
  | n + 1, M, x2, x3, x4, K =>
    (f_X10_many M).bind fun v18 => (if v18 ≤ x4 then (K x3 x4 M) else (if x2 ≤ 0 then (K x3 x4 M) else (a_i M 40 7 x4 fun v22 => ((f_X10_secondsIn M x4 v22).bind fun q24 => j_ck M q24.2 (a_i q24.2 36 250 ((23 : Int32) + x4) fun v28 => (a_i q24.2 36 250 ((16 : Int32) + x4) fun v30 => (d_i (v28 + ((60 : Int32) * x2)) q24.1 fun v32 => (w_i q24.2 36 250 ((16 : Int32) + x4) (v30 + v32) fun M34 => (r_i (v28 + ((60 : Int32) * x2)) q24.1 fun v37 => (w_i M34 36 250 ((23 : Int32) + x4) v37 fun M39 => (d_i (v28 + ((60 : Int32) * x2)) q24.1 fun v42 => (f_X10_minute_L61 n  M39 x2 (x3 + v42) (x4 + (1 : Int32)) K))))))))))))
noncomputable def f_X10_minute (M : j_M) (x1 : Int32) : Option (Int32 × j_M) :=
  tl (f_X10_in (x1).toInt64 (1 : Int64) (60 : Int64)) fun v1 => (if v1 = 0 then ((f_X10_bad M ((-2) : Int32)).bind fun q55 => j_ck M q55.2 (some (q55.1, q55.2))) else (a_i M 36 250 (1 : Int32) fun v4 => (jn (fun (v7 : Int32) => ((f_X10_keep M).bind fun q10 => j_ck M q10 ((f_X10_layHand q10).bind fun q14 => j_ck q10 q14 (f_X10_minute_L61 j_fu  q14 v7 (0 : Int32) (0 : Int32) (fun (y44 : Int32) (y45 : Int32) (M46 : j_M) => (a_i M46 36 250 (1 : Int32) fun v48 => (w_i M46 36 250 (1 : Int32) (v48 + v7) fun M50 => (some (y44, M50))))))))) (fun K8 => (if (v4 + x1) ≤ (999 : Int32) then (K8 x1) else (a_i M 36 250 (1 : Int32) fun v53 => (K8 ((999 : Int32) - v53))))))))
set_option maxHeartbeats 4000000 in
theorem L_X10_minute_L61 {l : Launch} {G : j_G}  {r : (Int32 × j_M)} : ∀ (n : Nat) {x2 : Int32} {x3 : Int32} {x4 : Int32} {M : j_M} (hs : sh_m M.2.2) {K : Int32 → Int32 → j_M → Option (Int32 × j_M)}, f_X10_minute_L61 n  M x2 x3 x4 K = some r → (∀ (y3 : Int32) (y4 : Int32) (M1 : j_M), sh_m M1.2.2 → K y3 y4 M1 = some r → JT_X10_minute l G r 153 [(0, .ref 35), (2, .int x2), (3, .int y3)] [] M1) → JT_X10_minute l G r 61 [(0, .ref 35), (2, .int x2), (3, .int x3), (4, .int x4)] [] M := by
  intro n
  induction n with
  | zero =>
    intro x2 x3 x4 M hs K h hK
    rw [f_X10_minute_L61] at h; cases h
  | succ n ih =>
    intro x2 x3 x4 M hs K h hK
    rw [f_X10_minute_L61] at h
    refine J_iload (pc' := 63) (i := 4) (n := 3) dX10_minute_61 rfl rfl ?_
    refine J_aload_n (pc' := 64) (i := 0) (n := 0) dX10_minute_63 rfl rfl rfl ?_
    obtain ⟨v18, e19, h⟩ := bi_inv h
    refine J_callV (pc' := 67) (as := []) (rest := [.int x4]) dX10_minute_64 rfl lk_X10_64 rfl 10 (by decide) rfl (m_o hs) (m_n hs (Nat.le_of_ble_eq_true rfl)) (c_X10_many hs e19) ⟨Nat.le_of_ble_eq_true rfl, Nat.le_of_ble_eq_true rfl⟩ (Nat.le_of_ble_eq_true rfl) ⟨Nat.le_of_ble_eq_true rfl, Nat.le_of_ble_eq_true rfl⟩ (j_kq ?_)
    refine J_icmp_ge (pc' := 70) (tgt := 153) dX10_minute_67 rfl (by decide) (fun c20 => ?_) (fun c20 => ?_)
    · replace h := j_ip c20 h
      refine J_sub [0, 1, 2] (lv' := [(0, .ref 35), (2, .int x2), (3, .int x3)]) rfl ?_
      exact hK x3 x4 M hs h
    · replace h := j_iq c20 h
      refine J_iload_n (pc' := 71) (i := 2) (n := 1) dX10_minute_70 rfl rfl rfl ?_
      refine J_if_le (pc' := 74) (tgt := 153) dX10_minute_71 rfl (by decide) (fun c21 => ?_) (fun c21 => ?_)
      · replace h := j_ip c21 h
        refine J_sub [0, 1, 2] (lv' := [(0, .ref 35), (2, .int x2), (3, .int x3)]) rfl ?_
        exact hK x3 x4 M hs h
      · replace h := j_iq c21 h
        refine J_aload_n (pc' := 75) (i := 0) (n := 0) dX10_minute_74 rfl rfl rfl ?_
        refine J_iload (pc' := 77) (i := 4) (n := 3) dX10_minute_75 rfl rfl ?_
        refine J_aload_n (pc' := 78) (i := 0) (n := 0) dX10_minute_77 rfl rfl rfl ?_
        refine J_getR (pc' := 81) (b := 40) dX10_minute_78 rfl fl_X10_27 rfl (m_o hs) (m_n hs (Nat.le_of_ble_eq_true rfl)) (m_r6 hs) ?_
        refine J_iload (pc' := 83) (i := 4) (n := 3) dX10_minute_81 rfl rfl ?_
        obtain ⟨v22, e23, h⟩ := a_i_inv h
        refine J_ialde (pc' := 84) dX10_minute_83 rfl (m_s40 hs) (m_n hs (Nat.le_of_ble_eq_true rfl)) e23 ?_
        obtain ⟨q24, e25, h⟩ := bi_inv h
        obtain ⟨c26, h⟩ := j_ck_inv h
        refine J_callV (pc' := 87) (as := [.int x4, .int v22]) (rest := []) dX10_minute_84 rfl lk_X10_143 rfl 10 (by decide) rfl (m_o hs) (m_n hs (Nat.le_of_ble_eq_true rfl)) (c_X10_secondsIn hs e25) ⟨Nat.le_of_ble_eq_true rfl, Nat.le_of_ble_eq_true rfl⟩ (Nat.le_of_ble_eq_true rfl) ⟨Nat.le_of_ble_eq_true rfl, Nat.le_of_ble_eq_true rfl⟩ (j_kq ?_)
        have g27 : sh_m q24.2.2.2 := j_shE c26 hs
        refine J_istore (pc' := 89) (i := 5) (lv' := [(5, .int q24.1), (0, .ref 35), (2, .int x2), (3, .int x3), (4, .int x4)]) dX10_minute_87 rfl (by decide) rfl ?_
        refine J_aload_n (pc' := 90) (i := 0) (n := 1) dX10_minute_89 rfl rfl rfl ?_
        refine J_getR (pc' := 93) (b := 36) dX10_minute_90 rfl fl_X10_7 rfl (m_o g27) (m_n g27 (Nat.le_of_ble_eq_true rfl)) (m_r0 g27) ?_
        refine J_bipush (pc' := 95) (v := (23 : Int32)) dX10_minute_93 rfl bp_23 ?_
        refine J_iload (pc' := 97) (i := 4) (n := 4) dX10_minute_95 rfl rfl ?_
        refine J_iadd (pc' := 98) dX10_minute_97 rfl ?_
        obtain ⟨v28, e29, h⟩ := a_i_inv h
        refine J_ialde (pc' := 99) dX10_minute_98 rfl (m_s36 g27) (m_n g27 (Nat.le_of_ble_eq_true rfl)) e29 ?_
        refine J_bipush (pc' := 101) (v := (60 : Int32)) dX10_minute_99 rfl bp_60 ?_
        refine J_iload_n (pc' := 102) (i := 2) (n := 2) dX10_minute_101 rfl rfl rfl ?_
        refine J_imul (pc' := 103) dX10_minute_102 rfl ?_
        refine J_iadd (pc' := 104) dX10_minute_103 rfl ?_
        refine J_istore (pc' := 106) (i := 6) (lv' := [(6, .int (v28 + ((60 : Int32) * x2))), (5, .int q24.1), (0, .ref 35), (2, .int x2), (3, .int x3), (4, .int x4)]) dX10_minute_104 rfl (by decide) rfl ?_
        refine J_aload_n (pc' := 107) (i := 0) (n := 2) dX10_minute_106 rfl rfl rfl ?_
        refine J_getR (pc' := 110) (b := 36) dX10_minute_107 rfl fl_X10_7 rfl (m_o g27) (m_n g27 (Nat.le_of_ble_eq_true rfl)) (m_r0 g27) ?_
        refine J_bipush (pc' := 112) (v := (16 : Int32)) dX10_minute_110 rfl bp_16 ?_
        refine J_iload (pc' := 114) (i := 4) (n := 5) dX10_minute_112 rfl rfl ?_
        refine J_iadd (pc' := 115) dX10_minute_114 rfl ?_
        refine J_dup2 (pc' := 116) dX10_minute_115 rfl rfl rfl ?_
        obtain ⟨v30, e31, h⟩ := a_i_inv h
        refine J_ialde (pc' := 117) dX10_minute_116 rfl (m_s36 g27) (m_n g27 (Nat.le_of_ble_eq_true rfl)) e31 ?_
        refine J_iload (pc' := 119) (i := 6) (n := 0) dX10_minute_117 rfl rfl ?_
        refine J_iload (pc' := 121) (i := 5) (n := 1) dX10_minute_119 rfl rfl ?_
        obtain ⟨v32, e33, h⟩ := d_i_inv h
        refine J_dive (pc' := 122) dX10_minute_121 rfl e33 ?_
        refine J_iadd (pc' := 123) dX10_minute_122 rfl ?_
        obtain ⟨M34, e35, h⟩ := w_i_inv h
        have g36 : sh_m M34.2.2 := j_shI e35.2 g27
        refine J_iaste (pc' := 124) dX10_minute_123 rfl (m_s36 g27) (m_n g27 (Nat.le_of_ble_eq_true rfl)) e35 ?_
        refine J_aload_n (pc' := 125) (i := 0) (n := 2) dX10_minute_124 rfl rfl rfl ?_
        refine J_getR (pc' := 128) (b := 36) dX10_minute_125 rfl fl_X10_7 rfl (m_o g36) (m_n g36 (Nat.le_of_ble_eq_true rfl)) (m_r0 g36) ?_
        refine J_bipush (pc' := 130) (v := (23 : Int32)) dX10_minute_128 rfl bp_23 ?_
        refine J_iload (pc' := 132) (i := 4) (n := 5) dX10_minute_130 rfl rfl ?_
        refine J_iadd (pc' := 133) dX10_minute_132 rfl ?_
        refine J_iload (pc' := 135) (i := 6) (n := 0) dX10_minute_133 rfl rfl ?_
        refine J_iload (pc' := 137) (i := 5) (n := 1) dX10_minute_135 rfl rfl ?_
        obtain ⟨v37, e38, h⟩ := r_i_inv h
        refine J_reme (pc' := 138) dX10_minute_137 rfl e38 ?_
        obtain ⟨M39, e40, h⟩ := w_i_inv h
        have g41 : sh_m M39.2.2 := j_shI e40.2 g36
        refine J_iaste (pc' := 139) dX10_minute_138 rfl (m_s36 g36) (m_n g36 (Nat.le_of_ble_eq_true rfl)) e40 ?_
        refine J_iload_n (pc' := 140) (i := 3) (n := 4) dX10_minute_139 rfl rfl rfl ?_
        refine J_iload (pc' := 142) (i := 6) (n := 0) dX10_minute_140 rfl rfl ?_
        refine J_iload (pc' := 144) (i := 5) (n := 1) dX10_minute_142 rfl rfl ?_
        obtain ⟨v42, e43, h⟩ := d_i_inv h
        refine J_dive (pc' := 145) dX10_minute_144 rfl e43 ?_
        refine J_iadd (pc' := 146) dX10_minute_145 rfl ?_
        refine J_istore_n (pc' := 147) (i := 3) (lv' := [(3, .int (x3 + v42)), (6, .int (v28 + ((60 : Int32) * x2))), (5, .int q24.1), (0, .ref 35), (2, .int x2), (4, .int x4)]) dX10_minute_146 rfl rfl (by decide) rfl ?_
        refine J_iinc (pc' := 150) (i := 4) (n := 5) (v := (x4 + (1 : Int32))) (lv' := [(4, .int (x4 + (1 : Int32))), (3, .int (x3 + v42)), (6, .int (v28 + ((60 : Int32) * x2))), (5, .int q24.1), (0, .ref 35), (2, .int x2)]) dX10_minute_147 rfl rfl (j_inc _ _ rfl _) (by decide) rfl ?_
        refine J_goto (pc' := 61) dX10_minute_150 (by decide) ?_
        refine J_sub [4, 5, 1, 0] (lv' := [(0, .ref 35), (2, .int x2), (3, .int (x3 + v42)), (4, .int (x4 + (1 : Int32)))]) rfl ?_
        exact ih g41 h hK
set_option maxHeartbeats 4000000 in
theorem c_X10_minute {l : Launch} {G : j_G} {M : j_M} {x1 : Int32} (hs : sh_m M.2.2) {r : (Int32 × j_M)} (h : f_X10_minute M x1 = some r) : j_Sp l G md_X10_minute 4 (0, 0) [.ref 35, .int x1] M (po (some (.int r.1)) r.2) := by
  refine j_Sp.of (by decide) (Nat.le_of_ble_eq_true rfl) ?_
  show JT_X10_minute l G r 0 [(0, .ref 35), (1, .int x1)] [] M
  unfold f_X10_minute at h
  refine J_iload_n (pc' := 1) (i := 1) (n := 1) dX10_minute_0 rfl rfl rfl ?_
  refine J_i2l (pc' := 2) dX10_minute_1 rfl ?_
  refine J_lconst (pc' := 3) (v := (1 : Int64)) dX10_minute_2 rfl rfl ?_
  refine J_ldc2 (pc' := 6) (v := (60 : Int64)) dX10_minute_3 rfl wd_1050 ?_
  obtain ⟨v1, e2, h⟩ := tl_inv h
  refine J_callS (pc' := 9) (as := [.long (x1).toInt64, .long (1 : Int64), .long (60 : Int64)]) (rest := []) dX10_minute_6 rfl lk_X10_68 rfl (c_X10_in e2) ⟨Nat.le_of_ble_eq_true rfl, Nat.le_of_ble_eq_true rfl⟩ (Nat.le_of_ble_eq_true rfl) ⟨Nat.le_of_ble_eq_true rfl, Nat.le_of_ble_eq_true rfl⟩ (j_kq ?_)
  refine J_if_ne (pc' := 12) (tgt := 19) dX10_minute_9 rfl (by decide) (fun c3 => ?_) (fun c3 => ?_)
  · replace h := j_iq c3 h
    refine J_aload_n (pc' := 20) (i := 0) (n := 0) dX10_minute_19 rfl rfl rfl ?_
    refine J_getR (pc' := 23) (b := 36) dX10_minute_20 rfl fl_X10_7 rfl (m_o hs) (m_n hs (Nat.le_of_ble_eq_true rfl)) (m_r0 hs) ?_
    refine J_iconst (pc' := 24) (v := (1 : Int32)) dX10_minute_23 rfl ic_1 ?_
    obtain ⟨v4, e5, h⟩ := a_i_inv h
    refine J_ialde (pc' := 25) dX10_minute_24 rfl (m_s36 hs) (m_n hs (Nat.le_of_ble_eq_true rfl)) e5 ?_
    refine J_iload_n (pc' := 26) (i := 1) (n := 1) dX10_minute_25 rfl rfl rfl ?_
    refine J_iadd (pc' := 27) dX10_minute_26 rfl ?_
    refine J_sipush (pc' := 30) (v := (999 : Int32)) dX10_minute_27 rfl sp_999 ?_
    refine J_join (C := fun (v7 : Int32) => JT_X10_minute l G r 47 [(0, .ref 35)] [.int v7] M) h (fun v7 h => ?_) (fun K8 h9 h => ?_)
    · refine J_istore_n (pc' := 48) (i := 2) (lv' := [(2, .int v7), (0, .ref 35)]) dX10_minute_47 rfl rfl (by decide) rfl ?_
      refine J_iconst (pc' := 49) (v := (0 : Int32)) dX10_minute_48 rfl ic_0 ?_
      refine J_istore_n (pc' := 50) (i := 3) (lv' := [(3, .int (0 : Int32)), (2, .int v7), (0, .ref 35)]) dX10_minute_49 rfl rfl (by decide) rfl ?_
      refine J_aload_n (pc' := 51) (i := 0) (n := 2) dX10_minute_50 rfl rfl rfl ?_
      obtain ⟨q10, e11, h⟩ := bi_inv h
      obtain ⟨c12, h⟩ := j_ck_inv h
      refine J_callV (pc' := 54) (as := []) (rest := []) dX10_minute_51 rfl lk_X10_135 rfl 10 (by decide) rfl (m_o hs) (m_n hs (Nat.le_of_ble_eq_true rfl)) (c_X10_keep hs e11) ⟨Nat.le_of_ble_eq_true rfl, Nat.le_of_ble_eq_true rfl⟩ (Nat.le_of_ble_eq_true rfl) ⟨Nat.le_of_ble_eq_true rfl, Nat.le_of_ble_eq_true rfl⟩ (j_kv ?_)
      have g13 : sh_m q10.2.2 := j_shE c12 hs
      refine J_aload_n (pc' := 55) (i := 0) (n := 2) dX10_minute_54 rfl rfl rfl ?_
      obtain ⟨q14, e15, h⟩ := bi_inv h
      obtain ⟨c16, h⟩ := j_ck_inv h
      refine J_callV (pc' := 58) (as := []) (rest := []) dX10_minute_55 rfl lk_X10_140 rfl 10 (by decide) rfl (m_o g13) (m_n g13 (Nat.le_of_ble_eq_true rfl)) (c_X10_layHand g13 e15) ⟨Nat.le_of_ble_eq_true rfl, Nat.le_of_ble_eq_true rfl⟩ (Nat.le_of_ble_eq_true rfl) ⟨Nat.le_of_ble_eq_true rfl, Nat.le_of_ble_eq_true rfl⟩ (j_kv ?_)
      have g17 : sh_m q14.2.2 := j_shE c16 g13
      refine J_iconst (pc' := 59) (v := (0 : Int32)) dX10_minute_58 rfl ic_0 ?_
      refine J_istore (pc' := 61) (i := 4) (lv' := [(4, .int (0 : Int32)), (3, .int (0 : Int32)), (2, .int v7), (0, .ref 35)]) dX10_minute_59 rfl (by decide) rfl ?_
      refine J_sub [3, 2, 1, 0] (lv' := [(0, .ref 35), (2, .int v7), (3, .int (0 : Int32)), (4, .int (0 : Int32))]) rfl ?_
      refine L_X10_minute_L61 j_fu g17 h (fun y44 y45 M46 g47 h => ?_)
      refine J_aload_n (pc' := 154) (i := 0) (n := 0) dX10_minute_153 rfl rfl rfl ?_
      refine J_getR (pc' := 157) (b := 36) dX10_minute_154 rfl fl_X10_7 rfl (m_o g47) (m_n g47 (Nat.le_of_ble_eq_true rfl)) (m_r0 g47) ?_
      refine J_iconst (pc' := 158) (v := (1 : Int32)) dX10_minute_157 rfl ic_1 ?_
      refine J_dup2 (pc' := 159) dX10_minute_158 rfl rfl rfl ?_
      obtain ⟨v48, e49, h⟩ := a_i_inv h
      refine J_ialde (pc' := 160) dX10_minute_159 rfl (m_s36 g47) (m_n g47 (Nat.le_of_ble_eq_true rfl)) e49 ?_
      refine J_iload_n (pc' := 161) (i := 2) (n := 1) dX10_minute_160 rfl rfl rfl ?_
      refine J_iadd (pc' := 162) dX10_minute_161 rfl ?_
      obtain ⟨M50, e51, h⟩ := w_i_inv h
      have g52 : sh_m M50.2.2 := j_shI e51.2 g47
      refine J_iaste (pc' := 163) dX10_minute_162 rfl (m_s36 g47) (m_n g47 (Nat.le_of_ble_eq_true rfl)) e51 ?_
      refine J_iload_n (pc' := 164) (i := 3) (n := 2) dX10_minute_163 rfl rfl rfl ?_
      exact J_iret rfl dX10_minute_164 ⟨rfl, Nat.le_refl _⟩ (j_pW h)
    · refine J_icmp_le (pc' := 33) (tgt := 46) dX10_minute_30 rfl (by decide) (fun c6 => ?_) (fun c6 => ?_)
      · replace h := j_ip c6 h
        refine J_iload_n (pc' := 47) (i := 1) (n := 1) dX10_minute_46 rfl rfl rfl ?_
        refine J_sub [0] (lv' := [(0, .ref 35)]) rfl ?_
        exact h9 x1 h
      · replace h := j_iq c6 h
        refine J_sipush (pc' := 36) (v := (999 : Int32)) dX10_minute_33 rfl sp_999 ?_
        refine J_aload_n (pc' := 37) (i := 0) (n := 0) dX10_minute_36 rfl rfl rfl ?_
        refine J_getR (pc' := 40) (b := 36) dX10_minute_37 rfl fl_X10_7 rfl (m_o hs) (m_n hs (Nat.le_of_ble_eq_true rfl)) (m_r0 hs) ?_
        refine J_iconst (pc' := 41) (v := (1 : Int32)) dX10_minute_40 rfl ic_1 ?_
        obtain ⟨v53, e54, h⟩ := a_i_inv h
        refine J_ialde (pc' := 42) dX10_minute_41 rfl (m_s36 hs) (m_n hs (Nat.le_of_ble_eq_true rfl)) e54 ?_
        refine J_isub (pc' := 43) dX10_minute_42 rfl ?_
        refine J_goto (pc' := 47) dX10_minute_43 (by decide) ?_
        refine J_sub [0] (lv' := [(0, .ref 35)]) rfl ?_
        exact h9 ((999 : Int32) - v53) h
  · replace h := j_ip c3 h
    refine J_aload_n (pc' := 13) (i := 0) (n := 0) dX10_minute_12 rfl rfl rfl ?_
    refine J_bipush (pc' := 15) (v := ((-2) : Int32)) dX10_minute_13 rfl bp_m2 ?_
    obtain ⟨q55, e56, h⟩ := bi_inv h
    obtain ⟨c57, h⟩ := j_ck_inv h
    refine J_callV (pc' := 18) (as := [.int ((-2) : Int32)]) (rest := []) dX10_minute_15 rfl lk_X10_84 rfl 10 (by decide) rfl (m_o hs) (m_n hs (Nat.le_of_ble_eq_true rfl)) (c_X10_bad hs e56) ⟨Nat.le_of_ble_eq_true rfl, Nat.le_of_ble_eq_true rfl⟩ (Nat.le_of_ble_eq_true rfl) ⟨Nat.le_of_ble_eq_true rfl, Nat.le_of_ble_eq_true rfl⟩ (j_kq ?_)
    have g58 : sh_m q55.2.2.2 := j_shE c57 hs
    exact J_iret rfl dX10_minute_18 ⟨rfl, Nat.le_refl _⟩ (j_pW h)
abbrev JT_X10_undo (l : Launch) (G : j_G) (r : (Int32 × j_M)) : Nat → List (Nat × Value) → List Value → j_M → Prop := JJ l G md_X10_undo (j_rm 2 (0, 0)) (0, 0) (0, 0) (po (some (.int r.1)) r.2)
noncomputable def f_X10_undo_L39 : Nat → j_M → Int32 → Int32 → (Int32 → j_M → Option (Int32 × j_M)) → Option (Int32 × j_M)
  | 0, _, _, _, _ => none
  | n + 1, M, x1, x2, K =>
    if (21 : Int32) ≤ x2 then (K x2 M) else (a_i M 36 250 (x1 + x2) fun v12 => (w_i M 36 250 ((9 : Int32) + x2) v12 fun M14 => (f_X10_undo_L39 n  M14 x1 (x2 + (1 : Int32)) K)))
noncomputable def f_X10_undo (M : j_M)  : Option (Int32 × j_M) :=
  a_i M 36 250 (3 : Int32) fun v1 => (if v1 = 0 then ((f_X10_no M).bind fun q27 => j_ck M q27.2 (some (q27.1, q27.2))) else (a_i M 36 250 (3 : Int32) fun v4 => (w_i M 36 250 (3 : Int32) (v4 - (1 : Int32)) fun M6 => (a_i M6 36 250 (3 : Int32) fun v9 => (f_X10_undo_L39 j_fu  M6 ((74 : Int32) + ((22 : Int32) * v9)) (0 : Int32) (fun (y17 : Int32) (M18 : j_M) => (a_i M18 36 250 (((74 : Int32) + ((22 : Int32) * v9)) + (21 : Int32)) fun v20 => (w_i M18 36 250 (1 : Int32) v20 fun M22 => (a_i M22 36 250 (1 : Int32) fun v25 => (some (v25, M22)))))))))))
set_option maxHeartbeats 4000000 in
theorem L_X10_undo_L39 {l : Launch} {G : j_G}  {r : (Int32 × j_M)} : ∀ (n : Nat) {x1 : Int32} {x2 : Int32} {M : j_M} (hs : sh_m M.2.2) {K : Int32 → j_M → Option (Int32 × j_M)}, f_X10_undo_L39 n  M x1 x2 K = some r → (∀ (y2 : Int32) (M1 : j_M), sh_m M1.2.2 → K y2 M1 = some r → JT_X10_undo l G r 68 [(0, .ref 35), (1, .int x1)] [] M1) → JT_X10_undo l G r 39 [(0, .ref 35), (1, .int x1), (2, .int x2)] [] M := by
  intro n
  induction n with
  | zero =>
    intro x1 x2 M hs K h hK
    rw [f_X10_undo_L39] at h; cases h
  | succ n ih =>
    intro x1 x2 M hs K h hK
    rw [f_X10_undo_L39] at h
    refine J_iload_n (pc' := 40) (i := 2) (n := 2) dX10_undo_39 rfl rfl rfl ?_
    refine J_bipush (pc' := 42) (v := (21 : Int32)) dX10_undo_40 rfl bp_21 ?_
    refine J_icmp_ge (pc' := 45) (tgt := 68) dX10_undo_42 rfl (by decide) (fun c11 => ?_) (fun c11 => ?_)
    · replace h := j_ip c11 h
      refine J_sub [0, 1] (lv' := [(0, .ref 35), (1, .int x1)]) rfl ?_
      exact hK x2 M hs h
    · replace h := j_iq c11 h
      refine J_aload_n (pc' := 46) (i := 0) (n := 0) dX10_undo_45 rfl rfl rfl ?_
      refine J_getR (pc' := 49) (b := 36) dX10_undo_46 rfl fl_X10_7 rfl (m_o hs) (m_n hs (Nat.le_of_ble_eq_true rfl)) (m_r0 hs) ?_
      refine J_bipush (pc' := 51) (v := (9 : Int32)) dX10_undo_49 rfl bp_9 ?_
      refine J_iload_n (pc' := 52) (i := 2) (n := 2) dX10_undo_51 rfl rfl rfl ?_
      refine J_iadd (pc' := 53) dX10_undo_52 rfl ?_
      refine J_aload_n (pc' := 54) (i := 0) (n := 0) dX10_undo_53 rfl rfl rfl ?_
      refine J_getR (pc' := 57) (b := 36) dX10_undo_54 rfl fl_X10_7 rfl (m_o hs) (m_n hs (Nat.le_of_ble_eq_true rfl)) (m_r0 hs) ?_
      refine J_iload_n (pc' := 58) (i := 1) (n := 1) dX10_undo_57 rfl rfl rfl ?_
      refine J_iload_n (pc' := 59) (i := 2) (n := 2) dX10_undo_58 rfl rfl rfl ?_
      refine J_iadd (pc' := 60) dX10_undo_59 rfl ?_
      obtain ⟨v12, e13, h⟩ := a_i_inv h
      refine J_ialde (pc' := 61) dX10_undo_60 rfl (m_s36 hs) (m_n hs (Nat.le_of_ble_eq_true rfl)) e13 ?_
      obtain ⟨M14, e15, h⟩ := w_i_inv h
      have g16 : sh_m M14.2.2 := j_shI e15.2 hs
      refine J_iaste (pc' := 62) dX10_undo_61 rfl (m_s36 hs) (m_n hs (Nat.le_of_ble_eq_true rfl)) e15 ?_
      refine J_iinc (pc' := 65) (i := 2) (n := 2) (v := (x2 + (1 : Int32))) (lv' := [(2, .int (x2 + (1 : Int32))), (0, .ref 35), (1, .int x1)]) dX10_undo_62 rfl rfl (j_inc _ _ rfl _) (by decide) rfl ?_
      refine J_goto (pc' := 39) dX10_undo_65 (by decide) ?_
      refine J_sub [1, 2, 0] (lv' := [(0, .ref 35), (1, .int x1), (2, .int (x2 + (1 : Int32)))]) rfl ?_
      exact ih g16 h hK
set_option maxHeartbeats 4000000 in
theorem c_X10_undo {l : Launch} {G : j_G} {M : j_M}  (hs : sh_m M.2.2) {r : (Int32 × j_M)} (h : f_X10_undo M  = some r) : j_Sp l G md_X10_undo 2 (0, 0) [.ref 35] M (po (some (.int r.1)) r.2) := by
  refine j_Sp.of (by decide) (Nat.le_of_ble_eq_true rfl) ?_
  show JT_X10_undo l G r 0 [(0, .ref 35)] [] M
  unfold f_X10_undo at h
  refine J_aload_n (pc' := 1) (i := 0) (n := 0) dX10_undo_0 rfl rfl rfl ?_
  refine J_getR (pc' := 4) (b := 36) dX10_undo_1 rfl fl_X10_7 rfl (m_o hs) (m_n hs (Nat.le_of_ble_eq_true rfl)) (m_r0 hs) ?_
  refine J_iconst (pc' := 5) (v := (3 : Int32)) dX10_undo_4 rfl ic_3 ?_
  obtain ⟨v1, e2, h⟩ := a_i_inv h
  refine J_ialde (pc' := 6) dX10_undo_5 rfl (m_s36 hs) (m_n hs (Nat.le_of_ble_eq_true rfl)) e2 ?_
  refine J_if_ne (pc' := 9) (tgt := 14) dX10_undo_6 rfl (by decide) (fun c3 => ?_) (fun c3 => ?_)
  · replace h := j_iq c3 h
    refine J_aload_n (pc' := 15) (i := 0) (n := 0) dX10_undo_14 rfl rfl rfl ?_
    refine J_getR (pc' := 18) (b := 36) dX10_undo_15 rfl fl_X10_7 rfl (m_o hs) (m_n hs (Nat.le_of_ble_eq_true rfl)) (m_r0 hs) ?_
    refine J_iconst (pc' := 19) (v := (3 : Int32)) dX10_undo_18 rfl ic_3 ?_
    refine J_dup2 (pc' := 20) dX10_undo_19 rfl rfl rfl ?_
    obtain ⟨v4, e5, h⟩ := a_i_inv h
    refine J_ialde (pc' := 21) dX10_undo_20 rfl (m_s36 hs) (m_n hs (Nat.le_of_ble_eq_true rfl)) e5 ?_
    refine J_iconst (pc' := 22) (v := (1 : Int32)) dX10_undo_21 rfl ic_1 ?_
    refine J_isub (pc' := 23) dX10_undo_22 rfl ?_
    obtain ⟨M6, e7, h⟩ := w_i_inv h
    have g8 : sh_m M6.2.2 := j_shI e7.2 hs
    refine J_iaste (pc' := 24) dX10_undo_23 rfl (m_s36 hs) (m_n hs (Nat.le_of_ble_eq_true rfl)) e7 ?_
    refine J_bipush (pc' := 26) (v := (74 : Int32)) dX10_undo_24 rfl bp_74 ?_
    refine J_bipush (pc' := 28) (v := (22 : Int32)) dX10_undo_26 rfl bp_22 ?_
    refine J_aload_n (pc' := 29) (i := 0) (n := 0) dX10_undo_28 rfl rfl rfl ?_
    refine J_getR (pc' := 32) (b := 36) dX10_undo_29 rfl fl_X10_7 rfl (m_o g8) (m_n g8 (Nat.le_of_ble_eq_true rfl)) (m_r0 g8) ?_
    refine J_iconst (pc' := 33) (v := (3 : Int32)) dX10_undo_32 rfl ic_3 ?_
    obtain ⟨v9, e10, h⟩ := a_i_inv h
    refine J_ialde (pc' := 34) dX10_undo_33 rfl (m_s36 g8) (m_n g8 (Nat.le_of_ble_eq_true rfl)) e10 ?_
    refine J_imul (pc' := 35) dX10_undo_34 rfl ?_
    refine J_iadd (pc' := 36) dX10_undo_35 rfl ?_
    refine J_istore_n (pc' := 37) (i := 1) (lv' := [(1, .int ((74 : Int32) + ((22 : Int32) * v9))), (0, .ref 35)]) dX10_undo_36 rfl rfl (by decide) rfl ?_
    refine J_iconst (pc' := 38) (v := (0 : Int32)) dX10_undo_37 rfl ic_0 ?_
    refine J_istore_n (pc' := 39) (i := 2) (lv' := [(2, .int (0 : Int32)), (1, .int ((74 : Int32) + ((22 : Int32) * v9))), (0, .ref 35)]) dX10_undo_38 rfl rfl (by decide) rfl ?_
    refine J_sub [2, 1, 0] (lv' := [(0, .ref 35), (1, .int ((74 : Int32) + ((22 : Int32) * v9))), (2, .int (0 : Int32))]) rfl ?_
    refine L_X10_undo_L39 j_fu g8 h (fun y17 M18 g19 h => ?_)
    refine J_aload_n (pc' := 69) (i := 0) (n := 0) dX10_undo_68 rfl rfl rfl ?_
    refine J_getR (pc' := 72) (b := 36) dX10_undo_69 rfl fl_X10_7 rfl (m_o g19) (m_n g19 (Nat.le_of_ble_eq_true rfl)) (m_r0 g19) ?_
    refine J_iconst (pc' := 73) (v := (1 : Int32)) dX10_undo_72 rfl ic_1 ?_
    refine J_aload_n (pc' := 74) (i := 0) (n := 0) dX10_undo_73 rfl rfl rfl ?_
    refine J_getR (pc' := 77) (b := 36) dX10_undo_74 rfl fl_X10_7 rfl (m_o g19) (m_n g19 (Nat.le_of_ble_eq_true rfl)) (m_r0 g19) ?_
    refine J_iload_n (pc' := 78) (i := 1) (n := 1) dX10_undo_77 rfl rfl rfl ?_
    refine J_bipush (pc' := 80) (v := (21 : Int32)) dX10_undo_78 rfl bp_21 ?_
    refine J_iadd (pc' := 81) dX10_undo_80 rfl ?_
    obtain ⟨v20, e21, h⟩ := a_i_inv h
    refine J_ialde (pc' := 82) dX10_undo_81 rfl (m_s36 g19) (m_n g19 (Nat.le_of_ble_eq_true rfl)) e21 ?_
    obtain ⟨M22, e23, h⟩ := w_i_inv h
    have g24 : sh_m M22.2.2 := j_shI e23.2 g19
    refine J_iaste (pc' := 83) dX10_undo_82 rfl (m_s36 g19) (m_n g19 (Nat.le_of_ble_eq_true rfl)) e23 ?_
    refine J_aload_n (pc' := 84) (i := 0) (n := 0) dX10_undo_83 rfl rfl rfl ?_
    refine J_getR (pc' := 87) (b := 36) dX10_undo_84 rfl fl_X10_7 rfl (m_o g24) (m_n g24 (Nat.le_of_ble_eq_true rfl)) (m_r0 g24) ?_
    refine J_iconst (pc' := 88) (v := (1 : Int32)) dX10_undo_87 rfl ic_1 ?_
    obtain ⟨v25, e26, h⟩ := a_i_inv h
    refine J_ialde (pc' := 89) dX10_undo_88 rfl (m_s36 g24) (m_n g24 (Nat.le_of_ble_eq_true rfl)) e26 ?_
    exact J_iret rfl dX10_undo_89 ⟨rfl, Nat.le_refl _⟩ (j_pW h)
  · replace h := j_ip c3 h
    refine J_aload_n (pc' := 10) (i := 0) (n := 0) dX10_undo_9 rfl rfl rfl ?_
    obtain ⟨q27, e28, h⟩ := bi_inv h
    obtain ⟨c29, h⟩ := j_ck_inv h
    refine J_callV (pc' := 13) (as := []) (rest := []) dX10_undo_10 rfl lk_X10_92 rfl 10 (by decide) rfl (m_o hs) (m_n hs (Nat.le_of_ble_eq_true rfl)) (c_X10_no hs e28) ⟨Nat.le_of_ble_eq_true rfl, Nat.le_of_ble_eq_true rfl⟩ (Nat.le_of_ble_eq_true rfl) ⟨Nat.le_of_ble_eq_true rfl, Nat.le_of_ble_eq_true rfl⟩ (j_kq ?_)
    have g30 : sh_m q27.2.2.2 := j_shE c29 hs
    exact J_iret rfl dX10_undo_13 ⟨rfl, Nat.le_refl _⟩ (j_pW h)
abbrev JT_X10_of (l : Launch) (G : j_G) (r : (Int32 × j_M)) : Nat → List (Nat × Value) → List Value → j_M → Prop := JJ l G md_X10_of (j_rm 3 (0, 0)) (0, 0) (0, 0) (po (some (.int r.1)) r.2)
noncomputable def f_X10_of (M : j_M) (x1 : Int32) (x2 : Int32) : Option (Int32 × j_M) :=
  (f_X10_isOne M x1).bind fun v1 => (if v1 = 0 then ((f_X10_bad M ((-2) : Int32)).bind fun q4 => j_ck M q4.2 (some (q4.1, q4.2))) else (tl (f_X10_in (x2).toInt64 (0 : Int64) (5 : Int64)) fun v8 => (if v8 = 0 then ((f_X10_bad M ((-2) : Int32)).bind fun q32 => j_ck M q32.2 (some (q32.1, q32.2))) else (if x2 = (0 : Int32) then (a_i M 36 250 ((30 : Int32) + x1) fun v12 => (some (v12, M))) else (if x2 = (1 : Int32) then ((f_X10_paceOf M x1).bind fun v15 => (some (v15, M))) else (if x2 = (2 : Int32) then (a_i M 36 250 ((9 : Int32) + x1) fun v18 => (some (v18, M))) else (if x2 = (3 : Int32) then (a_i M 36 250 ((16 : Int32) + x1) fun v21 => (some (v21, M))) else (if x2 = (4 : Int32) then (a_i M 36 250 ((23 : Int32) + x1) fun v24 => (some (v24, M))) else (a_i M 36 250 ((30 : Int32) + x1) fun v26 => ((f_X10_paceOf M x1).bind fun v28 => (tl (f_X10_believesAs v26 v28) fun v30 => (some (v30, M)))))))))))))
set_option maxHeartbeats 4000000 in
theorem c_X10_of {l : Launch} {G : j_G} {M : j_M} {x1 : Int32} {x2 : Int32} (hs : sh_m M.2.2) {r : (Int32 × j_M)} (h : f_X10_of M x1 x2 = some r) : j_Sp l G md_X10_of 3 (0, 0) [.ref 35, .int x1, .int x2] M (po (some (.int r.1)) r.2) := by
  refine j_Sp.of (by decide) (Nat.le_of_ble_eq_true rfl) ?_
  show JT_X10_of l G r 0 [(0, .ref 35), (1, .int x1), (2, .int x2)] [] M
  unfold f_X10_of at h
  refine J_aload_n (pc' := 1) (i := 0) (n := 0) dX10_of_0 rfl rfl rfl ?_
  refine J_iload_n (pc' := 2) (i := 1) (n := 1) dX10_of_1 rfl rfl rfl ?_
  obtain ⟨v1, e2, h⟩ := bi_inv h
  refine J_callV (pc' := 5) (as := [.int x1]) (rest := []) dX10_of_2 rfl lk_X10_132 rfl 10 (by decide) rfl (m_o hs) (m_n hs (Nat.le_of_ble_eq_true rfl)) (c_X10_isOne hs e2) ⟨Nat.le_of_ble_eq_true rfl, Nat.le_of_ble_eq_true rfl⟩ (Nat.le_of_ble_eq_true rfl) ⟨Nat.le_of_ble_eq_true rfl, Nat.le_of_ble_eq_true rfl⟩ (j_kq ?_)
  refine J_if_eq (pc' := 8) (tgt := 20) dX10_of_5 rfl (by decide) (fun c3 => ?_) (fun c3 => ?_)
  · replace h := j_ip c3 h
    refine J_aload_n (pc' := 21) (i := 0) (n := 0) dX10_of_20 rfl rfl rfl ?_
    refine J_bipush (pc' := 23) (v := ((-2) : Int32)) dX10_of_21 rfl bp_m2 ?_
    obtain ⟨q4, e5, h⟩ := bi_inv h
    obtain ⟨c6, h⟩ := j_ck_inv h
    refine J_callV (pc' := 26) (as := [.int ((-2) : Int32)]) (rest := []) dX10_of_23 rfl lk_X10_84 rfl 10 (by decide) rfl (m_o hs) (m_n hs (Nat.le_of_ble_eq_true rfl)) (c_X10_bad hs e5) ⟨Nat.le_of_ble_eq_true rfl, Nat.le_of_ble_eq_true rfl⟩ (Nat.le_of_ble_eq_true rfl) ⟨Nat.le_of_ble_eq_true rfl, Nat.le_of_ble_eq_true rfl⟩ (j_kq ?_)
    have g7 : sh_m q4.2.2.2 := j_shE c6 hs
    exact J_iret rfl dX10_of_26 ⟨rfl, Nat.le_refl _⟩ (j_pW h)
  · replace h := j_iq c3 h
    refine J_iload_n (pc' := 9) (i := 2) (n := 2) dX10_of_8 rfl rfl rfl ?_
    refine J_i2l (pc' := 10) dX10_of_9 rfl ?_
    refine J_lconst (pc' := 11) (v := (0 : Int64)) dX10_of_10 rfl rfl ?_
    refine J_ldc2 (pc' := 14) (v := (5 : Int64)) dX10_of_11 rfl wd_1017 ?_
    obtain ⟨v8, e9, h⟩ := tl_inv h
    refine J_callS (pc' := 17) (as := [.long (x2).toInt64, .long (0 : Int64), .long (5 : Int64)]) (rest := []) dX10_of_14 rfl lk_X10_68 rfl (c_X10_in e9) ⟨Nat.le_of_ble_eq_true rfl, Nat.le_of_ble_eq_true rfl⟩ (Nat.le_of_ble_eq_true rfl) ⟨Nat.le_of_ble_eq_true rfl, Nat.le_of_ble_eq_true rfl⟩ (j_kq ?_)
    refine J_if_ne (pc' := 20) (tgt := 27) dX10_of_17 rfl (by decide) (fun c10 => ?_) (fun c10 => ?_)
    · replace h := j_iq c10 h
      refine J_iload_n (pc' := 28) (i := 2) (n := 2) dX10_of_27 rfl rfl rfl ?_
      by_cases c11 : x2 = (0 : Int32)
      · replace h := j_ip c11 h
        refine J_tin (tgt := 64) dX10_of_28 (0 : Int32) c11 ⟨by decide, by decide, rfl, by decide⟩ ?_
        refine J_aload_n (pc' := 65) (i := 0) (n := 0) dX10_of_64 rfl rfl rfl ?_
        refine J_getR (pc' := 68) (b := 36) dX10_of_65 rfl fl_X10_7 rfl (m_o hs) (m_n hs (Nat.le_of_ble_eq_true rfl)) (m_r0 hs) ?_
        refine J_bipush (pc' := 70) (v := (30 : Int32)) dX10_of_68 rfl bp_30 ?_
        refine J_iload_n (pc' := 71) (i := 1) (n := 1) dX10_of_70 rfl rfl rfl ?_
        refine J_iadd (pc' := 72) dX10_of_71 rfl ?_
        obtain ⟨v12, e13, h⟩ := a_i_inv h
        refine J_ialde (pc' := 73) dX10_of_72 rfl (m_s36 hs) (m_n hs (Nat.le_of_ble_eq_true rfl)) e13 ?_
        exact J_iret rfl dX10_of_73 ⟨rfl, Nat.le_refl _⟩ (j_pW h)
      replace h := j_iq c11 h
      by_cases c14 : x2 = (1 : Int32)
      · replace h := j_ip c14 h
        refine J_tin (tgt := 74) dX10_of_28 (1 : Int32) c14 ⟨by decide, by decide, rfl, by decide⟩ ?_
        refine J_aload_n (pc' := 75) (i := 0) (n := 0) dX10_of_74 rfl rfl rfl ?_
        refine J_iload_n (pc' := 76) (i := 1) (n := 1) dX10_of_75 rfl rfl rfl ?_
        obtain ⟨v15, e16, h⟩ := bi_inv h
        refine J_callV (pc' := 79) (as := [.int x1]) (rest := []) dX10_of_76 rfl lk_X10_121 rfl 10 (by decide) rfl (m_o hs) (m_n hs (Nat.le_of_ble_eq_true rfl)) (c_X10_paceOf hs e16) ⟨Nat.le_of_ble_eq_true rfl, Nat.le_of_ble_eq_true rfl⟩ (Nat.le_of_ble_eq_true rfl) ⟨Nat.le_of_ble_eq_true rfl, Nat.le_of_ble_eq_true rfl⟩ (j_kq ?_)
        exact J_iret rfl dX10_of_79 ⟨rfl, Nat.le_refl _⟩ (j_pW h)
      replace h := j_iq c14 h
      by_cases c17 : x2 = (2 : Int32)
      · replace h := j_ip c17 h
        refine J_tin (tgt := 80) dX10_of_28 (2 : Int32) c17 ⟨by decide, by decide, rfl, by decide⟩ ?_
        refine J_aload_n (pc' := 81) (i := 0) (n := 0) dX10_of_80 rfl rfl rfl ?_
        refine J_getR (pc' := 84) (b := 36) dX10_of_81 rfl fl_X10_7 rfl (m_o hs) (m_n hs (Nat.le_of_ble_eq_true rfl)) (m_r0 hs) ?_
        refine J_bipush (pc' := 86) (v := (9 : Int32)) dX10_of_84 rfl bp_9 ?_
        refine J_iload_n (pc' := 87) (i := 1) (n := 1) dX10_of_86 rfl rfl rfl ?_
        refine J_iadd (pc' := 88) dX10_of_87 rfl ?_
        obtain ⟨v18, e19, h⟩ := a_i_inv h
        refine J_ialde (pc' := 89) dX10_of_88 rfl (m_s36 hs) (m_n hs (Nat.le_of_ble_eq_true rfl)) e19 ?_
        exact J_iret rfl dX10_of_89 ⟨rfl, Nat.le_refl _⟩ (j_pW h)
      replace h := j_iq c17 h
      by_cases c20 : x2 = (3 : Int32)
      · replace h := j_ip c20 h
        refine J_tin (tgt := 90) dX10_of_28 (3 : Int32) c20 ⟨by decide, by decide, rfl, by decide⟩ ?_
        refine J_aload_n (pc' := 91) (i := 0) (n := 0) dX10_of_90 rfl rfl rfl ?_
        refine J_getR (pc' := 94) (b := 36) dX10_of_91 rfl fl_X10_7 rfl (m_o hs) (m_n hs (Nat.le_of_ble_eq_true rfl)) (m_r0 hs) ?_
        refine J_bipush (pc' := 96) (v := (16 : Int32)) dX10_of_94 rfl bp_16 ?_
        refine J_iload_n (pc' := 97) (i := 1) (n := 1) dX10_of_96 rfl rfl rfl ?_
        refine J_iadd (pc' := 98) dX10_of_97 rfl ?_
        obtain ⟨v21, e22, h⟩ := a_i_inv h
        refine J_ialde (pc' := 99) dX10_of_98 rfl (m_s36 hs) (m_n hs (Nat.le_of_ble_eq_true rfl)) e22 ?_
        exact J_iret rfl dX10_of_99 ⟨rfl, Nat.le_refl _⟩ (j_pW h)
      replace h := j_iq c20 h
      by_cases c23 : x2 = (4 : Int32)
      · replace h := j_ip c23 h
        refine J_tin (tgt := 100) dX10_of_28 (4 : Int32) c23 ⟨by decide, by decide, rfl, by decide⟩ ?_
        refine J_aload_n (pc' := 101) (i := 0) (n := 0) dX10_of_100 rfl rfl rfl ?_
        refine J_getR (pc' := 104) (b := 36) dX10_of_101 rfl fl_X10_7 rfl (m_o hs) (m_n hs (Nat.le_of_ble_eq_true rfl)) (m_r0 hs) ?_
        refine J_bipush (pc' := 106) (v := (23 : Int32)) dX10_of_104 rfl bp_23 ?_
        refine J_iload_n (pc' := 107) (i := 1) (n := 1) dX10_of_106 rfl rfl rfl ?_
        refine J_iadd (pc' := 108) dX10_of_107 rfl ?_
        obtain ⟨v24, e25, h⟩ := a_i_inv h
        refine J_ialde (pc' := 109) dX10_of_108 rfl (m_s36 hs) (m_n hs (Nat.le_of_ble_eq_true rfl)) e25 ?_
        exact J_iret rfl dX10_of_109 ⟨rfl, Nat.le_refl _⟩ (j_pW h)
      replace h := j_iq c23 h
      refine J_tout (tgt := 110) dX10_of_28 (j_out0_4 c11 c14 c17 c20 c23) (by decide) ?_
      refine J_aload_n (pc' := 111) (i := 0) (n := 0) dX10_of_110 rfl rfl rfl ?_
      refine J_getR (pc' := 114) (b := 36) dX10_of_111 rfl fl_X10_7 rfl (m_o hs) (m_n hs (Nat.le_of_ble_eq_true rfl)) (m_r0 hs) ?_
      refine J_bipush (pc' := 116) (v := (30 : Int32)) dX10_of_114 rfl bp_30 ?_
      refine J_iload_n (pc' := 117) (i := 1) (n := 1) dX10_of_116 rfl rfl rfl ?_
      refine J_iadd (pc' := 118) dX10_of_117 rfl ?_
      obtain ⟨v26, e27, h⟩ := a_i_inv h
      refine J_ialde (pc' := 119) dX10_of_118 rfl (m_s36 hs) (m_n hs (Nat.le_of_ble_eq_true rfl)) e27 ?_
      refine J_aload_n (pc' := 120) (i := 0) (n := 0) dX10_of_119 rfl rfl rfl ?_
      refine J_iload_n (pc' := 121) (i := 1) (n := 1) dX10_of_120 rfl rfl rfl ?_
      obtain ⟨v28, e29, h⟩ := bi_inv h
      refine J_callV (pc' := 124) (as := [.int x1]) (rest := [.int v26]) dX10_of_121 rfl lk_X10_121 rfl 10 (by decide) rfl (m_o hs) (m_n hs (Nat.le_of_ble_eq_true rfl)) (c_X10_paceOf hs e29) ⟨Nat.le_of_ble_eq_true rfl, Nat.le_of_ble_eq_true rfl⟩ (Nat.le_of_ble_eq_true rfl) ⟨Nat.le_of_ble_eq_true rfl, Nat.le_of_ble_eq_true rfl⟩ (j_kq ?_)
      obtain ⟨v30, e31, h⟩ := tl_inv h
      refine J_callS (pc' := 127) (as := [.int v26, .int v28]) (rest := []) dX10_of_124 rfl lk_X10_147 rfl (c_X10_believesAs e31) ⟨Nat.le_of_ble_eq_true rfl, Nat.le_of_ble_eq_true rfl⟩ (Nat.le_of_ble_eq_true rfl) ⟨Nat.le_of_ble_eq_true rfl, Nat.le_of_ble_eq_true rfl⟩ (j_kq ?_)
      exact J_iret rfl dX10_of_127 ⟨rfl, Nat.le_refl _⟩ (j_pW h)
    · replace h := j_ip c10 h
      refine J_aload_n (pc' := 21) (i := 0) (n := 0) dX10_of_20 rfl rfl rfl ?_
      refine J_bipush (pc' := 23) (v := ((-2) : Int32)) dX10_of_21 rfl bp_m2 ?_
      obtain ⟨q32, e33, h⟩ := bi_inv h
      obtain ⟨c34, h⟩ := j_ck_inv h
      refine J_callV (pc' := 26) (as := [.int ((-2) : Int32)]) (rest := []) dX10_of_23 rfl lk_X10_84 rfl 10 (by decide) rfl (m_o hs) (m_n hs (Nat.le_of_ble_eq_true rfl)) (c_X10_bad hs e33) ⟨Nat.le_of_ble_eq_true rfl, Nat.le_of_ble_eq_true rfl⟩ (Nat.le_of_ble_eq_true rfl) ⟨Nat.le_of_ble_eq_true rfl, Nat.le_of_ble_eq_true rfl⟩ (j_kq ?_)
      have g35 : sh_m q32.2.2.2 := j_shE c34 hs
      exact J_iret rfl dX10_of_26 ⟨rfl, Nat.le_refl _⟩ (j_pW h)
