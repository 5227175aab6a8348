/-! type, bath, undo, goes -/
theorem ch_k {c : Nat} (h : c ≤ 127) : vp_nar .char ((nI c).toUInt32 % 65536).toInt32 = nI c := by
  rw [pk_vc, pk_char, pk_tn (by omega), Nat.mod_eq_of_lt (by omega)]
theorem op_type (a1 : Int32) : lw_ok Inv (fun M => f_X9_type M a1) (fun M => f_X10_type M a1) := by
  refine okI (fun M h => ?_)
  obtain ⟨be, b1, b2, b3⟩ := h.2.2.2.2.1
  rcases rg (x := a1) (lo := 0) (hi := 127) (lo' := 0) (hi' := 127) 0 127 rfl rfl rfl rfl (by omega) (by omega) with ⟨p0, q0⟩ | ⟨c, m0, l0, rfl, p0, q0⟩
  · refine ok_ref h 0 (by omega) (v := ((-2) : Int32)) ?_ ?_
    · show f_X9_type M a1 = _
      unfold f_X9_type
      try simp only [tlE]
      rw [p0, if_pos rfl, bind_bad]
    · show f_X10_type _ a1 = _
      unfold f_X10_type
      try simp only [tlE]
      rw [q0, if_pos rfl, bind_bad10]
  · skip
    obtain ⟨z, ta, t1, t2, t3, t4⟩ := h.2.2.2.1
    by_cases c0 : z = 150
    · refine ok_ref h 2 (by omega) (v := (-4 : Int32)) ?_ ?_
      · show f_X9_type M _ = _
        unfold f_X9_type
        try simp only [tlE]
        rw [p0, if_neg (by decide)]
        rw [t2, i_150, if_neg (nI_nlt (by omega) (by omega)), bind_full]
      · show f_X10_type _ _ = _
        unfold f_X10_type
        try simp only [tlE]
        rw [q0, if_neg (by decide)]
        rw [I_sIn (by omega), t3, i_150, if_pos (by rw [c0]), bind_full10]
    · refine ok_gen (be' := be) (z := z + 1) (ta := up ta z c) h (v := nI (z + 1)) (M1 := j_sI (j_sI M 8 z (nI c)) 7 1 (nI (z + 1))) (M2 := j_sI (j_sI (j_sI (j_sI M 8 z (nI c)) 7 1 (nI (z + 1))) 48 z (nI c)) 35 19 (nI (z + 1))) ?_ rfl ?_ rfl ?_ h.2.2.1 ?_ ?_ ?_ b3
      · show f_X9_type M _ = _
        unfold f_X9_type
        try simp only [tlE]
        rw [p0, if_neg (by decide)]
        unfold f_X7_add
        have hc := ch_k l0
        simp (disch := omega) only [t2, hc, tlE, jnE, jn2E, jn3E, Option.bind_some, nI_add, pk_mul, pk_sub, nI_leI, nI_ltI, nI_eq, a_iN, w_iN, d_iN, r_iN, I_sIe, I_sIn, j_ckS, j_ckR, if_pos, if_neg, Nat.reduceAdd, Nat.reduceMul, Nat.zero_add, Nat.add_zero, i_0, i_1, i_2, i_3, i_4, i_5, i_6, i_7, i_8, i_9, i_10, i_15, i_16, i_20, i_21, i_22, i_23, i_30, i_32, i_37, i_40, i_44, i_47, i_48, i_57, i_59, i_60, i_74, i_90, i_96, i_97, i_122, i_127, i_150, i_154, i_200, i_250, i_427, i_500, i_600, i_999, i_1000000]
      · show f_X10_type _ _ = _
        unfold f_X10_type
        try simp only [tlE]
        rw [q0, if_neg (by decide)]
        simp (disch := omega) only [t3, tlE, jnE, jn2E, jn3E, Option.bind_some, nI_add, pk_mul, pk_sub, nI_leI, nI_ltI, nI_eq, a_iN, w_iN, d_iN, r_iN, I_sIe, I_sIn, j_ckS, j_ckR, if_pos, if_neg, Nat.reduceAdd, Nat.reduceMul, Nat.zero_add, Nat.add_zero, i_0, i_1, i_2, i_3, i_4, i_5, i_6, i_7, i_8, i_9, i_10, i_15, i_16, i_20, i_21, i_22, i_23, i_30, i_32, i_37, i_40, i_44, i_47, i_48, i_57, i_59, i_60, i_74, i_90, i_96, i_97, i_122, i_127, i_150, i_154, i_200, i_250, i_427, i_500, i_600, i_999, i_1000000]
      · intro a k h1
        simp (disch := omega) only [I_sIe, I_sIn, I_cpe, I_cpn, up_e, up_n, rowOf_up, pasOf_up, Nat.reduceAdd]
      · refine ⟨by omega, ?_, ?_, fun k hk => ?_⟩
        · simp (disch := omega) only [I_sIe, I_sIn, I_cpe, I_cpn, up_e, up_n, rowOf_up, pasOf_up, Nat.reduceAdd]
        · simp (disch := omega) only [I_sIe, I_sIn, I_cpe, I_cpn, up_e, up_n, rowOf_up, pasOf_up, Nat.reduceAdd]
        · by_cases e : k = z
          · subst e
            simp (disch := omega) only [I_sIe, I_sIn, I_cpe, I_cpn, up_e, up_n, rowOf_up, pasOf_up, Nat.reduceAdd]
            exact ⟨trivial, trivial, l0⟩
          · simp (disch := omega) only [I_sIe, I_sIn, I_cpe, I_cpn, up_e, up_n, rowOf_up, pasOf_up, Nat.reduceAdd]
            exact t4 k (by omega)
      · exact b1.to (fun a k _ _ => by simp (disch := omega) only [I_sIe, I_sIn, I_cpe, I_cpn, up_e, up_n, rowOf_up, pasOf_up, Nat.reduceAdd])
      · exact b2.to (fun k => by simp (disch := omega) only [I_sIe, I_sIn, I_cpe, I_cpn, up_e, up_n, rowOf_up, pasOf_up, Nat.reduceAdd])
/-- a bath begun anew -/
def bgn (be : Nat → Nat) : Nat → Nat := fun k => if k < 74 then (if k = 5 ∨ k = 6 then 1 else if k = 7 then 2 else 0) else be k
def bg9 (M : j_M) (b : Nat) : j_M := j_sI (j_sI (j_sI (j_fi (j_fi (j_cf M j_sig 0 (b + 1) 0 4) (b + 2) 4 0) (b + 5) 22 0) b 9 0) b 10 0) b 11 0
theorem e_begin9 {M : j_M} {b : Nat} : f_X0_begin M b = some (bg9 M b) := rfl
theorem I_bg9 {M : j_M} {b a k : Nat} (h : a < b ∨ b + 6 ≤ a) : j_I (bg9 M b) a k = j_I M a k := by
  unfold bg9
  rw [I_sIn (by omega), I_sIn (by omega), I_sIn (by omega), I_fi, if_neg (by omega), I_fi, if_neg (by omega)]
  show (if a = b + 1 ∧ 0 ≤ k ∧ k < 0 + 4 then _ else M.1 a k) = _
  rw [if_neg (by omega)]
  rfl
theorem bgn_0 {be : Nat → Nat} {k : Nat} (h : k < 5 ∨ (8 ≤ k ∧ k < 74)) : bgn be k = 0 := by
  unfold bgn
  rw [if_pos (by omega), if_neg (by omega), if_neg (by omega)]
theorem sig_k : ∀ l, l < 4 → j_sig (0 + (l - 0)) = nI (if 4 + l = 5 ∨ 4 + l = 6 then 1 else if 4 + l = 7 then 2 else 0) := by decide +kernel
theorem iB_begin {M : j_M} {b : Nat} {be : Nat → Nat} : iB (bg9 M b) b (bgn be) := by
  have f0 : j_I (bg9 M b) b 9 = nI 0 := by unfold bg9; rw [I_sIn (by omega), I_sIn (by omega), I_sIe (by omega)]; rfl
  have f1 : j_I (bg9 M b) b 10 = nI 0 := by unfold bg9; rw [I_sIn (by omega), I_sIe (by omega)]; rfl
  have f2 : j_I (bg9 M b) b 11 = nI 0 := by unfold bg9; rw [I_sIe (by omega)]; rfl
  refine ⟨by rw [bgn_0 (by omega)]; exact f0, by rw [bgn_0 (by omega)]; exact f1, by rw [bgn_0 (by omega)]; exact f2, fun l hl => ⟨?_, ?_⟩, fun p hp => ?_, fun k hk => ?_, fun u hu => ?_, fun i hi => ?_⟩
  · unfold bg9
    rw [I_sIn (by omega), I_sIn (by omega), I_sIn (by omega), I_fi, if_neg (by omega), I_fi, if_neg (by omega)]
    show (if b + 1 = b + 1 ∧ 0 ≤ l ∧ l < 0 + 4 then j_sig (0 + (l - 0)) else M.1 (b + 1) l) = _
    rw [if_pos (by omega), sig_k l hl]
    unfold bgn
    rw [if_pos (show 4 + l < 74 by omega)]
  · rw [bgn_0 (by omega), Nat.zero_div, Nat.zero_mod]
    unfold bg9
    rw [I_sIn (by omega), I_sIn (by omega), I_sIn (by omega), I_fi, if_neg (by omega), I_fi, if_pos (by omega)]
    rfl
  · rw [bgn_0 (by omega)] at hp
    omega
  · have : rowOf (bgn be) k = 0 := by
      unfold rowOf
      split
      · exact bgn_0 (by omega)
      · exact bgn_0 (by omega)
    rw [this]
    unfold bg9
    rw [I_sIn (by omega), I_sIn (by omega), I_sIn (by omega), I_fi, if_pos (by omega)]
    rfl
  · rw [bgn_0 (by omega)] at hu
    omega
  · rw [bgn_0 (by omega)] at hi
    omega
theorem wf_begin {be : Nat → Nat} : wf (bgn be) := by
  refine ⟨by rw [bgn_0 (by omega)]; omega, by rw [bgn_0 (by omega)]; omega, by rw [bgn_0 (by omega)]; omega, by rw [bgn_0 (by omega)]; omega, fun l hl => ?_, fun p hp => ?_, ?_, fun u hu => ?_, fun i hi => ?_⟩
  · unfold bgn
    rw [if_pos (by omega)]
    split
    · omega
    · split <;> omega
  · rw [bgn_0 (by omega)] at hp; omega
  · refine ⟨by rw [bgn_0 (by omega)]; omega, fun p hp => ?_, fun p hp => ?_, fun p _ hp => ?_⟩
    · show bgn be (9 + p) < 4 ∧ bgn be (9 + (7 + p)) ≤ _ ∧ bgn be (9 + (14 + p)) ≤ 107
      rw [bgn_0 (k := 9 + p) (by omega), bgn_0 (k := 9 + (7 + p)) (by omega), bgn_0 (k := 9 + (14 + p)) (by omega)]; omega
    · rw [bgn_0 (by omega)] at hp; omega
    · show bgn be (9 + (7 + p)) = 0 ∧ bgn be (9 + (14 + p)) = 0
      exact ⟨bgn_0 (by omega), bgn_0 (by omega)⟩
  · rw [bgn_0 (by omega)] at hu; omega
  · rw [bgn_0 (by omega)] at hi; omega
def zr (M : j_M) (a k : Nat) : j_M := (fun b j => if b = a ∧ j < k then 0 else M.1 b j, M.2)
theorem I_zr {M : j_M} {a k b j : Nat} : j_I (zr M a k) b j = if b = a ∧ j < k then 0 else j_I M b j := rfl
theorem zr_set {M : j_M} {a k : Nat} : j_sI (zr M a k) a k 0 = zr M a (k + 1) := by
  refine Prod.ext ?_ rfl
  funext b j
  show (if b = a ∧ j = k then 0 else if b = a ∧ j < k then 0 else M.1 b j) = if b = a ∧ j < k + 1 then 0 else M.1 b j
  by_cases h : b = a
  · by_cases e : j = k
    · rw [if_pos ⟨h, e⟩, if_pos ⟨h, by omega⟩]
    · rw [if_neg (fun q => e q.2)]
      by_cases c : j < k
      · rw [if_pos ⟨h, c⟩, if_pos ⟨h, by omega⟩]
      · rw [if_neg (fun q => c q.2), if_neg (by omega)]
  · rw [if_neg (fun q => h q.1), if_neg (fun q => h q.1), if_neg (fun q => h q.1)]
def bg10 (M : j_M) (a : Nat) : j_M := j_sI (j_sI (j_sI (zr M a 74) a 5 1) a 6 1) a 7 2
theorem e_begin10 {M : j_M} {a n0 : Nat} (h : 74 ≤ n0) (h1 : n0 < 2 ^ 31) : f_X10_begin M a n0 = some (bg10 M a) := by
  have key : ∀ d k fuel K, k + d = 74 → d < fuel → f_X10_begin_L2 fuel a n0 (zr M a k) (nI k) K = K (nI 74) (zr M a 74) := by
    intro d
    induction d with
    | zero =>
      intro k fuel K h1 h2
      obtain ⟨fuel, rfl⟩ : ∃ f, fuel = f + 1 := ⟨fuel - 1, by omega⟩
      rw [f_X10_begin_L2, i_74, if_pos (nI_le (by omega) (by omega)), show k = 74 by omega]
    | succ d ih =>
      intro k fuel K h1 h2
      obtain ⟨fuel, rfl⟩ : ∃ f, fuel = f + 1 := ⟨fuel - 1, by omega⟩
      rw [f_X10_begin_L2, i_74, if_neg (nI_ge (by omega) (by omega)), w_iN (by omega) (by omega), zr_set, nI_1]
      exact ih (k + 1) fuel K (by omega) (by omega)
  unfold f_X10_begin
  have hj : 100000 < j_fu := by unfold j_fu; omega
  revert hj
  generalize j_fu = fu
  intro hj
  have e0 : zr M a 0 = M := by
    refine Prod.ext ?_ rfl
    funext b j
    show (if b = a ∧ j < 0 then 0 else M.1 b j) = M.1 b j
    rw [if_neg (by omega)]
  have := key 74 0 fu (fun (y5 : Int32) (M6 : j_M) => (w_i M6 a n0 (5 : Int32) (1 : Int32) fun M8 => (w_i M8 a n0 (6 : Int32) (1 : Int32) fun M11 => (w_i M11 a n0 (7 : Int32) (2 : Int32) fun M14 => (some M14))))) (by omega) (by omega)
  rw [e0] at this
  rw [show (0 : Int32) = nI 0 from rfl, this, i_5, w_iN (by omega) (by omega), i_6, w_iN (by omega) (by omega), i_7, w_iN (by omega) (by omega)]
  rfl
theorem I_bg10 {M : j_M} {a b k : Nat} (h : b ≠ a ∨ 74 ≤ k) : j_I (bg10 M a) b k = j_I M b k := by
  unfold bg10
  rw [I_sIn (by omega), I_sIn (by omega), I_sIn (by omega), I_zr, if_neg (by omega)]
theorem I_bg10' {M : j_M} {a k : Nat} {be : Nat → Nat} (h : k < 74) : j_I (bg10 M a) a k = nI (bgn be k) := by
  unfold bg10 bgn
  rw [if_pos h]
  by_cases h7 : k = 7
  · rw [I_sIe (by omega), if_neg (by omega), if_pos h7]; rfl
  · rw [I_sIn (by omega)]
    by_cases h6 : k = 6
    · rw [I_sIe (by omega), if_pos (by omega)]; rfl
    · rw [I_sIn (by omega)]
      by_cases h5 : k = 5
      · rw [I_sIe (by omega), if_pos (by omega)]; rfl
      · rw [I_sIn (by omega), I_zr, if_pos (by omega), if_neg (by omega), if_neg (by omega)]; rfl
theorem op_bath : lw_ok Inv (fun M => f_X9_bath M) (fun M => f_X10_bath M) := by
  refine okI (fun M h => ?_)
  obtain ⟨z, ta, t⟩ := h.2.2.2.1
  obtain ⟨be, b1, b2, b3⟩ := h.2.2.2.2.1
  refine ok_gen (be' := bgn be) (z := z) (ta := ta) h (v := nI (be 0)) (M1 := bg9 M 17) (M2 := bg10 (bg9 M 17) 36) ?_ rfl ?_ rfl ?_ h.2.2.1 ?_ ?_ ?_ wf_begin
  · show f_X9_bath M = _
    unfold f_X9_bath
    rw [e_begin9, Option.bind_some, j_ckE (by rfl), b1.1]
  · show f_X10_bath _ = _
    unfold f_X10_bath
    rw [e_many (n := be 0) (by rw [I_bg9 (by omega)]; exact b2.at (by omega)), Option.bind_some, e_begin10 (by omega) (by omega), Option.bind_some, j_ckE (by rfl)]
  · intro a k h1
    rw [I_bg10 (by omega), I_bg9 (by omega)]
  · exact t.to (by rw [I_bg10 (by omega), I_bg9 (by omega)]) (by rw [I_bg10 (by omega), I_bg9 (by omega)]) (fun k => by rw [I_bg10 (by omega), I_bg9 (by omega)]) (fun k => by rw [I_bg10 (by omega), I_bg9 (by omega)])
  · exact iB_begin.to (fun a k _ _ => I_bg10 (by omega))
  · intro k hk
    rw [Nat.zero_add]
    by_cases c : k < 74
    · exact I_bg10' c
    · rw [I_bg10 (by omega), I_bg9 (by omega), b2.at hk]
      unfold bgn
      rw [if_neg c]
/-- undo -/
def ud (be : Nat → Nat) : Nat → Nat := fun k => if k = 3 then be 3 - 1 else if k = 1 then be (74 + 22 * (be 3 - 1) + 21) else if 9 ≤ k ∧ k < 30 then be (74 + 22 * (be 3 - 1) + (k - 9)) else be k
theorem e_undo_L {M : j_M} {s : Nat} (hs : 74 ≤ s) (h2 : s + 21 ≤ 250) (fuel : Nat) (hfu : 1000 < fuel) (K : Int32 → j_M → Option (Int32 × j_M)) : f_X10_undo_L39 fuel M (nI s) (0 : Int32) K = K (nI 21) (j_cp M 36 s 36 9 21) := by
  have key : ∀ d k fuel K, k + d = 21 → d < fuel → f_X10_undo_L39 fuel (j_cp M 36 s 36 9 k) (nI s) (nI k) K = K (nI 21) (j_cp M 36 s 36 9 21) := by
    intro d
    induction d with
    | zero =>
      intro k fuel K h1 h2
      obtain ⟨fuel, rfl⟩ : ∃ f, fuel = f + 1 := ⟨fuel - 1, by omega⟩
      rw [f_X10_undo_L39, i_21, if_pos (nI_le (by omega) (by omega)), show k = 21 by omega]
    | succ d ih =>
      intro k fuel K h1 h2
      obtain ⟨fuel, rfl⟩ : ∃ f, fuel = f + 1 := ⟨fuel - 1, by omega⟩
      rw [f_X10_undo_L39, i_21, if_neg (nI_ge (by omega) (by omega)), nI_add, a_iN (by omega) (by omega), show (9 : Int32) + nI k = nI (9 + k) from nI_add 9 k, w_iN (by omega) (by omega), I_cpn (by omega), cp_set, nI_1]
      exact ih (k + 1) fuel K (by omega) (by omega)
  have := key 21 0 fuel K (by omega) (by omega)
  rw [cp_0] at this
  exact this
theorem op_undo : lw_ok Inv (fun M => f_X9_undo M) (fun M => f_X10_undo M) := by
  refine okI (fun M h => ?_)
  obtain ⟨z, ta, t⟩ := h.2.2.2.1
  obtain ⟨be, b1, b2, b3⟩ := h.2.2.2.2.1
  have h8 := b3.2.2.1
  by_cases c0 : be 3 = 0
  · refine ok_ref h 1 (by omega) (v := (-3 : Int32)) ?_ ?_
    · show f_X9_undo M = _
      unfold f_X9_undo
      rw [b1.2.1, if_neg (by rw [c0]; decide), bind_no]
    · show f_X10_undo _ = _
      unfold f_X10_undo
      rw [i_3, a_iN (by omega) (by omega), I_sIn (by omega), b2.at (by omega), if_pos (by rw [c0]; rfl), bind_no10]
      rfl
  · obtain ⟨u, hu⟩ : ∃ u, be 3 = u + 1 := ⟨be 3 - 1, by omega⟩
    obtain ⟨c1, c2, c3, c4, c5, c6, c7, c8⟩ := b1
    have hud : ∀ k, k ≠ 3 → k ≠ 1 → (k < 9 ∨ 30 ≤ k) → ud be k = be k := fun k h1 h2 h3 => by unfold ud; rw [if_neg h1, if_neg h2, if_neg (by omega)]
    have hud3 : ud be 3 = u := by unfold ud; rw [if_pos rfl]; omega
    have hud1 : ud be 1 = be (74 + 22 * u + 21) := by unfold ud; rw [if_neg (by decide), if_pos rfl, hu]; rfl
    have hudr : ∀ k, k < 21 → ud be (9 + k) = be (74 + 22 * u + k) := fun k hk => by unfold ud; rw [if_neg (by omega), if_neg (by omega), if_pos (by omega), hu, show u + 1 - 1 = u by omega, show 9 + k - 9 = k by omega]
    have hro : ∀ k, k < 22 → rowOf (ud be) k = pasOf be u k := fun k hk => by
      unfold rowOf pasOf
      split
      · exact hud1
      · rename_i h0
        rw [show 8 + k = 9 + (k - 1) by omega, hudr _ (by omega), show 73 + 22 * u + k = 74 + 22 * u + (k - 1) by omega]
    refine ok_gen (be' := ud be) (z := z) (ta := ta) h (v := nI (be (74 + 22 * u + 21))) (M1 := j_cp (j_sI M 17 10 (nI u)) 23 (22 * u) 22 0 22) (M2 := j_sI (j_cp (j_sI (j_cp (j_sI M 17 10 (nI u)) 23 (22 * u) 22 0 22) 36 3 (nI u)) 36 (74 + 22 * u) 36 9 21) 36 1 (nI (be (74 + 22 * u + 21)))) ?_ rfl ?_ rfl ?_ h.2.2.1 ?_ ?_ ?_ ?_
    · show f_X9_undo M = _
      unfold f_X9_undo f_X0_takeBack
      have e1 : nI (u + 1) - (1 : Int32) = nI u := nI_pred u
      rw [c2, hu, if_pos (gt0 (by omega) (by omega)), if_neg (nI_nle (by omega) (by omega)), tlE, e1, I_sIe (by omega), i_22, pk_mul, i_0, Nat.mul_comm u 22, c_iN (by omega) (by omega) (by omega) (by omega), Option.bind_some, j_ckE (by rfl), a_iN (by omega) (by omega)]
      show some (j_I (j_cp (j_sI M 17 10 (nI u)) 23 (22 * u) 22 0 22) 22 0, _) = _
      rw [I_cpe (by omega), I_sIn (by omega), show 22 * u + (0 - 0) = 22 * u + 0 by omega, c7 u (by omega) 0 (by omega)]
      rfl
    · show f_X10_undo _ = _
      unfold f_X10_undo
      have e1 : nI (u + 1) - (1 : Int32) = nI u := nI_pred u
      rw [i_3, a_iN (by omega) (by omega), I_cpn (by omega), I_sIn (by omega), b2.at (by omega), hu, if_neg (nI_ne0 (by omega) (by omega)), a_iN (by omega) (by omega), I_cpn (by omega), I_sIn (by omega), b2.at (by omega), hu, e1, w_iN (by omega) (by omega), a_iN (by omega) (by omega), I_sIe (by omega), show (74 : Int32) + (22 : Int32) * nI u = nI (74 + 22 * u) by rw [i_22, pk_mul, i_74, nI_add], e_undo_L (by omega) (by omega) j_fu (by unfold j_fu; omega), i_21, nI_add, a_iN (by omega) (by omega), i_1, w_iN (by omega) (by omega), a_iN (by omega) (by omega), I_sIe (by omega)]
      rw [I_cpn (by omega), I_sIn (by omega), I_cpn (by omega), I_sIn (by omega), b2.at (by omega)]
    · intro a k h1
      simp (disch := omega) only [I_sIe, I_sIn, I_cpe, I_cpn, up_e, up_n, rowOf_up, pasOf_up, Nat.reduceAdd]
    · exact t.to (by simp (disch := omega) only [I_sIe, I_sIn, I_cpe, I_cpn, up_e, up_n, rowOf_up, pasOf_up, Nat.reduceAdd]) (by simp (disch := omega) only [I_sIe, I_sIn, I_cpe, I_cpn, up_e, up_n, rowOf_up, pasOf_up, Nat.reduceAdd]) (fun k => by simp (disch := omega) only [I_sIe, I_sIn, I_cpe, I_cpn, up_e, up_n, rowOf_up, pasOf_up, Nat.reduceAdd]) (fun k => by simp (disch := omega) only [I_sIe, I_sIn, I_cpe, I_cpn, up_e, up_n, rowOf_up, pasOf_up, Nat.reduceAdd])
    · refine ⟨by simp (disch := omega) only [hud, c1, I_sIe, I_sIn, I_cpe, I_cpn, up_e, up_n, rowOf_up, pasOf_up, Nat.reduceAdd], by simp (disch := omega) only [hud3, I_sIe, I_sIn, I_cpe, I_cpn, up_e, up_n, rowOf_up, pasOf_up, Nat.reduceAdd], by simp (disch := omega) only [hud, c3, I_sIe, I_sIn, I_cpe, I_cpn, up_e, up_n, rowOf_up, pasOf_up, Nat.reduceAdd], fun l hl => ⟨by simp (disch := omega) only [hud, (c4 l hl).1, I_sIe, I_sIn, I_cpe, I_cpn, up_e, up_n, rowOf_up, pasOf_up, Nat.reduceAdd], by simp (disch := omega) only [hud, (c4 l hl).2, I_sIe, I_sIn, I_cpe, I_cpn, up_e, up_n, rowOf_up, pasOf_up, Nat.reduceAdd]⟩, fun p hp => ?_, fun k hk => ?_, fun v hv k hk => ?_, fun i hi => ?_⟩
      · rw [hud 0 (by omega) (by omega) (by omega)] at hp
        have := b3.1
        exact ⟨by simp (disch := omega) only [hud, (c5 p hp).1, I_sIe, I_sIn, I_cpe, I_cpn, up_e, up_n, rowOf_up, pasOf_up, Nat.reduceAdd], by simp (disch := omega) only [hud, (c5 p hp).2, I_sIe, I_sIn, I_cpe, I_cpn, up_e, up_n, rowOf_up, pasOf_up, Nat.reduceAdd]⟩
      · rw [hro k hk]
        simp (disch := omega) only [c7 u (by omega) k hk, Nat.zero_add, Nat.sub_zero, I_sIe, I_sIn, I_cpe, I_cpn, up_e, up_n, rowOf_up, pasOf_up, Nat.reduceAdd]
      · rw [hud3] at hv
        have : pasOf (ud be) v k = pasOf be v k := by
          unfold pasOf
          split
          · exact hud _ (by omega) (by omega) (by omega)
          · exact hud _ (by omega) (by omega) (by omega)
        rw [this]
        simp (disch := omega) only [c7 v (by omega) k hk, I_sIe, I_sIn, I_cpe, I_cpn, up_e, up_n, rowOf_up, pasOf_up, Nat.reduceAdd]
      · rw [hud 2 (by omega) (by omega) (by omega)] at hi
        simp (disch := omega) only [hud, c8 i hi, I_sIe, I_sIn, I_cpe, I_cpn, up_e, up_n, rowOf_up, pasOf_up, Nat.reduceAdd]
    · intro k hk
      rw [Nat.zero_add]
      have hat : ∀ k, k < 250 → j_I M 36 k = nI (be k) := fun k hk => b2.at hk
      by_cases e1 : k = 1
      · subst e1
        simp (disch := omega) only [hud1, I_sIe, I_sIn, I_cpe, I_cpn, up_e, up_n, rowOf_up, pasOf_up, Nat.reduceAdd]
      · by_cases e3 : k = 3
        · subst e3
          simp (disch := omega) only [hud3, I_sIe, I_sIn, I_cpe, I_cpn, up_e, up_n, rowOf_up, pasOf_up, Nat.reduceAdd]
        · by_cases e9 : 9 ≤ k ∧ k < 30
          · have := hudr (k - 9) (by omega)
            rw [show 9 + (k - 9) = k by omega] at this
            simp (disch := omega) only [this, hat, I_sIe, I_sIn, I_cpe, I_cpn, up_e, up_n, rowOf_up, pasOf_up, Nat.reduceAdd]
          · simp (disch := omega) only [hud, hat, I_sIe, I_sIn, I_cpe, I_cpn, up_e, up_n, rowOf_up, pasOf_up, Nat.reduceAdd]
    · obtain ⟨w1, w2, w3, w4, w5, w6, w7, w8, w9⟩ := b3
      refine ⟨by rw [hud 0 (by omega) (by omega) (by omega)]; exact w1, by rw [hud 2 (by omega) (by omega) (by omega)]; exact w2, by rw [hud3]; omega, by rw [hud 8 (by omega) (by omega) (by omega)]; exact w4, fun l hl => by rw [hud _ (by omega) (by omega) (by omega)]; exact w5 l hl, fun p hp => ?_, ?_, fun v hv => ?_, fun i hi => ?_⟩
      · rw [hud 0 (by omega) (by omega) (by omega)] at hp
        rw [hud _ (by omega) (by omega) (by omega), hud _ (by omega) (by omega) (by omega)]
        exact w6 p hp
      · rw [hud 0 (by omega) (by omega) (by omega), hud 8 (by omega) (by omega) (by omega), hud1]
        exact wr_congr w1 (fun k hk => hudr k hk) (w8 u (by omega))
      · rw [hud3] at hv
        rw [hud 0 (by omega) (by omega) (by omega), hud 8 (by omega) (by omega) (by omega), hud _ (by omega) (by omega) (by omega)]
        exact wr_congr w1 (fun k hk => hud _ (by omega) (by omega) (by omega)) (w8 v (by omega))
      · rw [hud 2 (by omega) (by omega) (by omega)] at hi
        rw [hud _ (by omega) (by omega) (by omega), hud _ (by omega) (by omega) (by omega), hud _ (by omega) (by omega) (by omega), hud _ (by omega) (by omega) (by omega), hud _ (by omega) (by omega) (by omega)]
        exact w9 i hi
