/-! what is kept for undo; goes -/
def sh8 (be : Nat → Nat) : Nat → Nat := fun k => if k = 3 then 7 else if 74 ≤ k ∧ k < 228 then be (22 + k) else be k
def kr (be : Nat → Nat) : Nat → Nat := fun k => if k = 3 then be 3 + 1 else if 74 + 22 * be 3 ≤ k ∧ k < 74 + 22 * be 3 + 21 then be (9 + (k - (74 + 22 * be 3))) else if k = 74 + 22 * be 3 + 21 then be 1 else be k
section
variable {be : Nat → Nat}
theorem sh8_3 : sh8 be 3 = 7 := if_pos rfl
theorem sh8_p {k : Nat} (h : 74 ≤ k ∧ k < 228) : sh8 be k = be (22 + k) := by unfold sh8; rw [if_neg (by omega), if_pos h]
theorem sh8_n {k : Nat} (h3 : k ≠ 3) (h : k < 74 ∨ 228 ≤ k) : sh8 be k = be k := by unfold sh8; rw [if_neg h3, if_neg (by omega)]
theorem kr_3 : kr be 3 = be 3 + 1 := if_pos rfl
theorem kr_p {k : Nat} (h : k < 21) : kr be (74 + 22 * be 3 + k) = be (9 + k) := by unfold kr; rw [if_neg (by omega), if_pos (by omega), show 74 + 22 * be 3 + k - (74 + 22 * be 3) = k by omega]
theorem kr_m : kr be (74 + 22 * be 3 + 21) = be 1 := by unfold kr; rw [if_neg (by omega), if_neg (by omega), if_pos rfl]
theorem kr_n {k : Nat} (h3 : k ≠ 3) (h : k < 74 + 22 * be 3 ∨ 74 + 22 * be 3 + 22 ≤ k) : kr be k = be k := by unfold kr; rw [if_neg h3, if_neg (by omega), if_neg (by omega)]
theorem rowOf_low {f g : Nat → Nat} {k : Nat} (h : ∀ j, j ≠ 3 → j < 74 → f j = g j) (hk : k < 22) : rowOf f k = rowOf g k := by
  unfold rowOf
  split
  · exact h _ (by omega) (by omega)
  · exact h _ (by omega) (by omega)
/-- wf where only what is past has changed -/
theorem wf_low {f : Nat → Nat} (w : wf be) (h : ∀ j, j ≠ 3 → j < 74 → f j = be j) (h3 : f 3 ≤ 8) (hp : ∀ u, u < f 3 → wr (be 0) (be 8) (f (74 + 22 * u + 21)) (fun k => f (74 + 22 * u + k))) : wf f := by
  obtain ⟨w1, w2, w3, w4, w5, w6, w7, w8, w9⟩ := w
  refine ⟨by rw [h 0 (by omega) (by omega)]; exact w1, by rw [h 2 (by omega) (by omega)]; exact w2, h3, by rw [h 8 (by omega) (by omega)]; exact w4, fun l hl => by rw [h _ (by omega) (by omega)]; exact w5 l hl, fun p hp' => ?_, ?_, fun u hu => ?_, fun i hi => ?_⟩
  · rw [h 0 (by omega) (by omega)] at hp'
    rw [h _ (by omega) (by omega), h _ (by omega) (by omega)]; exact w6 p hp'
  · rw [h 0 (by omega) (by omega), h 8 (by omega) (by omega), h 1 (by omega) (by omega)]
    exact wr_congr w1 (fun k hk => h _ (by omega) (by omega)) w7
  · rw [h 0 (by omega) (by omega), h 8 (by omega) (by omega)]
    exact hp u hu
  · rw [h 2 (by omega) (by omega)] at hi
    rw [h _ (by omega) (by omega), h _ (by omega) (by omega), h _ (by omega) (by omega), h _ (by omega) (by omega), h _ (by omega) (by omega)]; exact w9 i hi
theorem wf_sh8 (w : wf be) (h8 : be 3 = 8) : wf (sh8 be) := by
  refine wf_low w (fun j h1 h2 => sh8_n h1 (by omega)) (by rw [sh8_3]; omega) (fun u hu => ?_)
  rw [sh8_3] at hu
  rw [sh8_p (by omega), show 22 + (74 + 22 * u + 21) = 74 + 22 * (u + 1) + 21 by omega]
  refine wr_congr w.1 (fun k hk => ?_) (w.2.2.2.2.2.2.2.1 (u + 1) (by omega))
  rw [sh8_p (by omega), show 22 + (74 + 22 * u + k) = 74 + 22 * (u + 1) + k by omega]
theorem wf_kr (w : wf be) (h8 : be 3 < 8) : wf (kr be) := by
  refine wf_low w (fun j h1 h2 => kr_n h1 (by omega)) (by rw [kr_3]; omega) (fun u hu => ?_)
  rw [kr_3] at hu
  by_cases e : u = be 3
  · subst e
    rw [kr_m]
    exact wr_congr w.1 (fun k hk => kr_p hk) w.2.2.2.2.2.2.1
  · rw [kr_n (by omega) (by omega)]
    exact wr_congr w.1 (fun k hk => kr_n (by omega) (by omega)) (w.2.2.2.2.2.2.2.1 u (by omega))
variable {M : j_M}
theorem iB_low {M' : j_M} {b : Nat} {f : Nat → Nat} (w : wf be) (h : iB M b be) (he : ∀ a k, b ≤ a → a < b + 8 → a ≠ b + 6 → ¬ (a = b ∧ k = 10) → j_I M' a k = j_I M a k) (hf : ∀ j, j ≠ 3 → j < 74 → f j = be j) (h10 : j_I M' b 10 = nI (f 3)) (hp : ∀ u, u < f 3 → ∀ k, k < 22 → j_I M' (b + 6) (22 * u + k) = nI (pasOf f u k)) : iB M' b f := by
  obtain ⟨c1, c2, c3, c4, c5, c6, c7, c8⟩ := h
  have h7 := w.1
  have h6 := w.2.1
  refine ⟨by rw [he _ _ (by omega) (by omega) (by omega) (by omega), hf 0 (by omega) (by omega)]; exact c1, h10, by rw [he _ _ (by omega) (by omega) (by omega) (by omega), hf 2 (by omega) (by omega)]; exact c3, fun l hl => ⟨?_, ?_⟩, fun p hp' => ?_, fun k hk => ?_, hp, fun i hi => ?_⟩
  · rw [he _ _ (by omega) (by omega) (by omega) (by omega), hf _ (by omega) (by omega)]; exact (c4 l hl).1
  · rw [he _ _ (by omega) (by omega) (by omega) (by omega), hf _ (by omega) (by omega)]; exact (c4 l hl).2
  · rw [hf 0 (by omega) (by omega)] at hp'
    rw [he _ _ (by omega) (by omega) (by omega) (by omega), he _ _ (by omega) (by omega) (by omega) (by omega), hf _ (by omega) (by omega), hf _ (by omega) (by omega)]; exact c5 p hp'
  · rw [he _ _ (by omega) (by omega) (by omega) (by omega), rowOf_low hf hk]; exact c6 k hk
  · rw [hf 2 (by omega) (by omega)] at hi
    rw [he _ _ (by omega) (by omega) (by omega) (by omega), hf _ (by omega) (by omega)]; exact c8 i hi
theorem iB_sh8 (w : wf be) (h : iB M 17 be) (h8 : be 3 = 8) : iB (j_sI (j_cp M 23 22 23 0 154) 17 10 (nI 7)) 17 (sh8 be) := by
  refine iB_low w h (fun a k h1 h2 h3 h4 => by simp (disch := omega) only [I_sIe, I_sIn, I_cpe, I_cpn, up_e, up_n, rowOf_up, pasOf_up, Nat.reduceAdd]) (fun j h1 h2 => sh8_n h1 (by omega)) (by rw [sh8_3]; simp (disch := omega) only [I_sIe, I_sIn, I_cpe, I_cpn, up_e, up_n, rowOf_up, pasOf_up, Nat.reduceAdd]) (fun u hu k hk => ?_)
  rw [sh8_3] at hu
  have e := h.2.2.2.2.2.2.1 (u + 1) (by omega) k hk
  rw [show 22 * (u + 1) + k = 22 + (22 * u + k - 0) by omega] at e
  have e2 : pasOf (sh8 be) u k = pasOf be (u + 1) k := by
    unfold pasOf
    split
    · rw [sh8_p (by omega), show 22 + (74 + 22 * u + 21) = 74 + 22 * (u + 1) + 21 by omega]
    · rw [sh8_p (by omega), show 22 + (73 + 22 * u + k) = 73 + 22 * (u + 1) + k by omega]
  rw [e2]
  show j_I (j_sI (j_cp M 23 22 23 0 154) 17 10 (nI 7)) 23 (22 * u + k) = _
  simp (disch := omega) only [e, I_sIe, I_sIn, I_cpe, I_cpn, up_e, up_n, rowOf_up, pasOf_up, Nat.reduceAdd]
theorem iB_kr (w : wf be) (h : iB M 17 be) (h8 : be 3 < 8) : iB (j_sI (j_cp M 22 0 23 (22 * be 3) 22) 17 10 (nI (be 3 + 1))) 17 (kr be) := by
  refine iB_low w h (fun a k h1 h2 h3 h4 => by simp (disch := omega) only [I_sIe, I_sIn, I_cpe, I_cpn, up_e, up_n, rowOf_up, pasOf_up, Nat.reduceAdd]) (fun j h1 h2 => kr_n h1 (by omega)) (by rw [kr_3]; simp (disch := omega) only [I_sIe, I_sIn, I_cpe, I_cpn, up_e, up_n, rowOf_up, pasOf_up, Nat.reduceAdd]) (fun u hu k hk => ?_)
  rw [kr_3] at hu
  show j_I (j_sI (j_cp M 22 0 23 (22 * be 3) 22) 17 10 (nI (be 3 + 1))) 23 (22 * u + k) = _
  by_cases e : u = be 3
  · subst e
    have e1 := h.2.2.2.2.2.1 k hk
    have e2 : pasOf (kr be) (be 3) k = rowOf be k := by
      unfold pasOf rowOf
      split
      · rw [kr_m]
      · rw [show 73 + 22 * be 3 + k = 74 + 22 * be 3 + (k - 1) by omega, kr_p (by omega), show 9 + (k - 1) = 8 + k by omega]
    rw [e2, I_sIn (by omega), I_cpe (by omega), show 0 + (22 * be 3 + k - 22 * be 3) = k by omega]
    exact e1
  · have e1 := h.2.2.2.2.2.2.1 u (by omega) k hk
    have e2 : pasOf (kr be) u k = pasOf be u k := by
      unfold pasOf
      split
      · exact kr_n (by omega) (by omega)
      · exact kr_n (by omega) (by omega)
    rw [e2]
    simp (disch := omega) only [e1, I_sIe, I_sIn, I_cpe, I_cpn, up_e, up_n, rowOf_up, pasOf_up, Nat.reduceAdd]
def kp (be : Nat → Nat) : Nat → Nat := if be 3 = 8 then kr (sh8 be) else kr be
theorem wf_kp (w : wf be) : wf (kp be) := by
  have h8 := w.2.2.1
  unfold kp
  split
  · exact wf_kr (wf_sh8 w (by omega)) (by rw [sh8_3]; omega)
  · exact wf_kr w (by omega)
theorem kp_n {k : Nat} (h3 : k ≠ 3) (h : k < 74) : kp be k = be k := by
  unfold kp
  split
  · rw [kr_n h3 (by omega), sh8_n h3 (by omega)]
  · rw [kr_n h3 (by omega)]
theorem e_keep9 (w : wf be) (h : iB M 17 be) : ∃ M', f_X0_keepForUndo M 17 = some M' ∧ M'.2 = M.2 ∧ (∀ a k, (a < 17 ∨ 25 ≤ a) → j_I M' a k = j_I M a k) ∧ iB M' 17 (kp be) := by
  have h8 := w.2.2.1
  unfold f_X0_keepForUndo
  by_cases c : be 3 = 8
  · have e1 := iB_sh8 w h c
    have e2 := iB_kr (wf_sh8 w c) e1 (by rw [sh8_3]; omega)
    rw [sh8_3] at e2
    refine ⟨j_sI (j_cp (j_sI (j_cp M 23 22 23 0 154) 17 10 (nI 7)) 22 0 23 (22 * 7) 22) 17 10 (nI (7 + 1)), ?_, rfl, ?_, by unfold kp; rw [if_pos c]; exact e2⟩
    · rw [h.2.1, jnE, i_8, if_neg (nI_nlt (by omega) (by omega)), i_22, i_0, i_154, c_iN (by omega) (by omega) (by omega) (by omega), tlE]
      dsimp only
      rw [I_sIe (by omega), i_7, pk_mul, c_iN (by omega) (by omega) (by omega) (by omega), tlE, I_cpn (by omega), I_sIe (by omega)]
      rfl
    · intro a k h1
      simp (disch := omega) only [I_sIe, I_sIn, I_cpe, I_cpn, up_e, up_n, rowOf_up, pasOf_up, Nat.reduceAdd]
  · have e2 := iB_kr w h (by omega)
    refine ⟨j_sI (j_cp M 22 0 23 (22 * be 3) 22) 17 10 (nI (be 3 + 1)), ?_, rfl, ?_, by unfold kp; rw [if_neg c]; exact e2⟩
    · rw [h.2.1, jnE, i_8, if_pos (nI_lt (by omega) (by omega)), i_22, i_0]
      dsimp only
      rw [h.2.1, pk_mul, c_iN (by omega) (by omega) (by omega) (by omega), tlE, I_cpn (by omega), h.2.1, nI_1, Nat.mul_comm (be 3) 22]
    · intro a k h1
      simp (disch := omega) only [I_sIe, I_sIn, I_cpe, I_cpn, up_e, up_n, rowOf_up, pasOf_up, Nat.reduceAdd]
theorem e_keep13 (fuel : Nat) (hfu : 1000 < fuel) (K : Int32 → j_M → Option j_M) : f_X10_keep_L13 fuel M (0 : Int32) K = K (nI 154) (j_cp M 36 96 36 74 154) := by
  have key : ∀ d k fuel K, k + d = 154 → d < fuel → f_X10_keep_L13 fuel (j_cp M 36 96 36 74 k) (nI k) K = K (nI 154) (j_cp M 36 96 36 74 154) := by
    intro d
    induction d with
    | zero =>
      intro k fuel K h1 h2
      obtain ⟨fuel, rfl⟩ : ∃ f, fuel = f + 1 := ⟨fuel - 1, by omega⟩
      rw [f_X10_keep_L13, i_154, if_pos (nI_le (by omega) (by omega)), show k = 154 by omega]
    | succ d ih =>
      intro k fuel K h1 h2
      obtain ⟨fuel, rfl⟩ : ∃ f, fuel = f + 1 := ⟨fuel - 1, by omega⟩
      rw [f_X10_keep_L13, i_154, if_neg (nI_ge (by omega) (by omega)), i_96, nI_add, a_iN (by omega) (by omega), i_74, nI_add, w_iN (by omega) (by omega), I_cpn (by omega), cp_set, nI_1]
      exact ih (k + 1) fuel K (by omega) (by omega)
  have := key 154 0 fuel K (by omega) (by omega)
  rw [cp_0] at this
  exact this
theorem e_keep67 {s : Nat} (hs : 74 ≤ s) (h2 : s + 21 ≤ 250) (fuel : Nat) (hfu : 1000 < fuel) (K : Int32 → j_M → Option j_M) : f_X10_keep_L67 fuel M (nI s) (0 : Int32) K = K (nI 21) (j_cp M 36 9 36 s 21) := by
  have key : ∀ d k fuel K, k + d = 21 → d < fuel → f_X10_keep_L67 fuel (j_cp M 36 9 36 s k) (nI s) (nI k) K = K (nI 21) (j_cp M 36 9 36 s 21) := by
    intro d
    induction d with
    | zero =>
      intro k fuel K h1 h2
      obtain ⟨fuel, rfl⟩ : ∃ f, fuel = f + 1 := ⟨fuel - 1, by omega⟩
      rw [f_X10_keep_L67, i_21, if_pos (nI_le (by omega) (by omega)), show k = 21 by omega]
    | succ d ih =>
      intro k fuel K h1 h2
      obtain ⟨fuel, rfl⟩ : ∃ f, fuel = f + 1 := ⟨fuel - 1, by omega⟩
      rw [f_X10_keep_L67, i_21, if_neg (nI_ge (by omega) (by omega)), i_9, nI_add, a_iN (by omega) (by omega), nI_add, w_iN (by omega) (by omega), I_cpn (by omega), cp_set, nI_1]
      exact ih (k + 1) fuel K (by omega) (by omega)
  have := key 21 0 fuel K (by omega) (by omega)
  rw [cp_0] at this
  exact this
theorem e_keep10k (w : wf be) (h : iM M 36 0 be) (h8 : be 3 < 8) : iM (j_sI (j_sI (j_cp M 36 9 36 (74 + 22 * be 3) 21) 36 (74 + 22 * be 3 + 21) (nI (be 1))) 36 3 (nI (be 3 + 1))) 36 0 (kr be) := by
  intro k hk
  rw [Nat.zero_add]
  have hat : ∀ k, k < 250 → j_I M 36 k = nI (be k) := fun k hk => h.at hk
  by_cases e3 : k = 3
  · subst e3
    simp (disch := omega) only [kr_3, I_sIe, I_sIn, I_cpe, I_cpn, up_e, up_n, rowOf_up, pasOf_up, Nat.reduceAdd]
  · by_cases em : k = 74 + 22 * be 3 + 21
    · subst em
      simp (disch := omega) only [kr_m, I_sIe, I_sIn, I_cpe, I_cpn, up_e, up_n, rowOf_up, pasOf_up, Nat.reduceAdd]
    · by_cases er : 74 + 22 * be 3 ≤ k ∧ k < 74 + 22 * be 3 + 21
      · have := kr_p (be := be) (k := k - (74 + 22 * be 3)) (by omega)
        rw [show 74 + 22 * be 3 + (k - (74 + 22 * be 3)) = k by omega] at this
        simp (disch := omega) only [this, hat, I_sIe, I_sIn, I_cpe, I_cpn, up_e, up_n, rowOf_up, pasOf_up, Nat.reduceAdd]
      · simp (disch := omega) only [kr_n, hat, I_sIe, I_sIn, I_cpe, I_cpn, up_e, up_n, rowOf_up, pasOf_up, Nat.reduceAdd]
theorem e_keep10 (w : wf be) (h : iM M 36 0 be) : ∃ M', f_X10_keep M = some M' ∧ M'.2 = M.2 ∧ (∀ a k, a ≠ 36 → j_I M' a k = j_I M a k) ∧ iM M' 36 0 (kp be) := by
  have h8 := w.2.2.1
  have hat : ∀ k, k < 250 → j_I M 36 k = nI (be k) := fun k hk => h.at hk
  unfold f_X10_keep
  by_cases c : be 3 = 8
  · have e1 : iM (j_sI (j_cp M 36 96 36 74 154) 36 3 (nI 7)) 36 0 (sh8 be) := by
      intro k hk
      rw [Nat.zero_add]
      by_cases e3 : k = 3
      · subst e3
        simp (disch := omega) only [sh8_3, I_sIe, I_sIn, I_cpe, I_cpn, up_e, up_n, rowOf_up, pasOf_up, Nat.reduceAdd]
      · by_cases er : 74 ≤ k ∧ k < 228
        · have e := hat (22 + k) (by omega)
          rw [show 22 + k = 96 + (k - 74) by omega] at e
          rw [sh8_p er, show 22 + k = 96 + (k - 74) by omega]
          simp (disch := omega) only [e, I_sIe, I_sIn, I_cpe, I_cpn, up_e, up_n, rowOf_up, pasOf_up, Nat.reduceAdd]
        · simp (disch := omega) only [sh8_n, hat, I_sIe, I_sIn, I_cpe, I_cpn, up_e, up_n, rowOf_up, pasOf_up, Nat.reduceAdd]
    have e2 := e_keep10k (wf_sh8 w c) e1 (by rw [sh8_3]; omega)
    rw [sh8_3, sh8_n (k := 1) (by omega) (by omega)] at e2
    refine ⟨j_sI (j_sI (j_cp (j_sI (j_cp M 36 96 36 74 154) 36 3 (nI 7)) 36 9 36 (74 + 22 * 7) 21) 36 (74 + 22 * 7 + 21) (nI (be 1))) 36 3 (nI (7 + 1)), ?_, rfl, ?_, by unfold kp; rw [if_pos c]; exact e2⟩
    · rw [i_3, a_iN (by omega) (by omega), hat 3 (by omega), jnE, c, if_pos (show nI 8 = 8 from rfl), e_keep13 j_fu (by unfold j_fu; omega), w_iN (by omega) (by omega)]
      dsimp only
      rw [a_iN (by omega) (by omega), I_sIe (by omega), show (74 : Int32) + (22 : Int32) * (7 : Int32) = nI (74 + 22 * 7) from rfl, e_keep67 (by omega) (by omega) j_fu (by unfold j_fu; omega), i_1, a_iN (by omega) (by omega), I_cpn (by omega), I_sIn (by omega), I_cpn (by omega), hat 1 (by omega), i_21, nI_add, w_iN (by omega) (by omega), a_iN (by omega) (by omega), I_sIn (by omega), I_cpn (by omega), I_sIe (by omega), w_iN (by omega) (by omega)]
      rfl
    · intro a k h1
      simp (disch := omega) only [I_sIe, I_sIn, I_cpe, I_cpn, up_e, up_n, rowOf_up, pasOf_up, Nat.reduceAdd]
  · have e2 := e_keep10k w h (by omega)
    refine ⟨j_sI (j_sI (j_cp M 36 9 36 (74 + 22 * be 3) 21) 36 (74 + 22 * be 3 + 21) (nI (be 1))) 36 3 (nI (be 3 + 1)), ?_, rfl, ?_, by unfold kp; rw [if_neg c]; exact e2⟩
    · rw [i_3, a_iN (by omega) (by omega), hat 3 (by omega), jnE, i_8, if_neg (by rw [nI_eq (by omega) (by omega)]; exact c)]
      dsimp only
      rw [a_iN (by omega) (by omega), hat 3 (by omega), show (74 : Int32) + (22 : Int32) * nI (be 3) = nI (74 + 22 * be 3) by rw [i_22, pk_mul, i_74, nI_add], e_keep67 (by omega) (by omega) j_fu (by unfold j_fu; omega), i_1, a_iN (by omega) (by omega), I_cpn (by omega), hat 1 (by omega), i_21, nI_add, w_iN (by omega) (by omega), a_iN (by omega) (by omega), I_sIn (by omega), I_cpn (by omega), hat 3 (by omega), nI_add, w_iN (by omega) (by omega)]
    · intro a k h1
      simp (disch := omega) only [I_sIe, I_sIn, I_cpe, I_cpn, up_e, up_n, rowOf_up, pasOf_up, Nat.reduceAdd]
end
theorem op_goes (a1 a2 : Int32) : lw_ok Inv (fun M => f_X9_goes M a1 a2) (fun M => f_X10_goes M a1 a2) := by
  refine okI (fun M h => ?_)
  obtain ⟨be, b1, b2, b3⟩ := h.2.2.2.2.1
  rcases rgOne (x := a1) b1.1 (b2.at (by omega)) b3.1 with ⟨p0, q0⟩ | ⟨p, l0, rfl, p0, q0⟩
  · refine ok_ref h 0 (by omega) (v := ((-2) : Int32)) ?_ ?_
    · show f_X9_goes M a1 a2 = _
      unfold f_X9_goes f_X9_isLane
      try simp only [tlE]
      rw [p0, if_pos rfl, bind_bad]
    · show f_X10_goes _ a1 a2 = _
      unfold f_X10_goes f_X10_isLane
      try simp only [tlE]
      rw [isOne_ref, q0, Option.bind_some, if_pos rfl, bind_bad10]
  · skip
    rcases rg (x := a2) (lo := 0) (hi := 3) (lo' := 0) (hi' := 3) 0 3 rfl rfl rfl rfl (by omega) (by omega) with ⟨p1, q1⟩ | ⟨l, m1, l1, rfl, p1, q1⟩
    · refine ok_ref h 0 (by omega) (v := ((-2) : Int32)) ?_ ?_
      · show f_X9_goes M (nI p) a2 = _
        unfold f_X9_goes f_X9_isLane
        try simp only [tlE]
        rw [p0, if_neg (by decide), p1, if_pos rfl, bind_bad]
      · show f_X10_goes _ (nI p) a2 = _
        unfold f_X10_goes f_X10_isLane
        try simp only [tlE]
        rw [isOne_ref, q0, Option.bind_some, if_neg (by decide), q1, if_pos rfl, bind_bad10]
    · skip
      obtain ⟨z, ta, t⟩ := h.2.2.2.1
      have h7 := b3.1
      by_cases c : op be l = true
      · obtain ⟨M', f1, f2, f3, f4⟩ := e_keep9 b3 b1
        have b2' : iM (j_sI M' 22 (1 + p) (nI l)) 36 0 be := b2.to (fun k => by rw [I_sIn (by omega), f3 _ _ (by omega)])
        obtain ⟨M'', g1, g2, g3, g4⟩ := e_keep10 b3 b2'
        have r1 : j_I M (17 + 5) (1 + p) = nI (be (9 + p)) := by rw [b1.2.2.2.2.2.1 _ (by omega), rowOf_1]
        have hrow : ∀ k, k < 22 → k ≠ 1 + p → rowOf (up (kp be) (9 + p) l) k = rowOf (kp be) k := fun k hk he => by
          unfold rowOf
          split
          · rw [up_n (by omega)]
          · rw [up_n (by omega)]
        refine ok_gen (be' := up (kp be) (9 + p) l) (z := z) (ta := ta) h (v := nI (be (9 + p))) (M1 := j_sI M' 22 (1 + p) (nI l)) (M2 := j_sI M'' 36 (9 + p) (nI l)) ?_ (by show M'.2.2 = _; rw [f2]) ?_ (by show M''.2.2 = M'.2.2; rw [g2]; rfl) ?_ ?_ ?_ ?_ ?_ ?_
        · show f_X9_goes M _ _ = _
          unfold f_X9_goes f_X9_isLane
          try simp only [tlE]
          rw [p0, if_neg (by decide), p1, if_neg (by decide)]
          unfold f_X0_laneOf
          rw [e_open9 b1 (by omega), Option.bind_some, if_pos c, if_neg (by decide), i_1, nI_add, a_iN (by omega) (by omega), r1, Option.bind_some, f1, Option.bind_some, j_ckE (by rw [f2]), w_iN (by omega) (by omega)]
        · show f_X10_goes _ _ _ = _
          unfold f_X10_goes f_X10_isLane
          try simp only [tlE]
          rw [isOne_eq (show j_I _ 36 0 = j_I M 36 0 by rw [I_sIn (by omega), f3 _ _ (by omega)]), q0, Option.bind_some, if_neg (by decide), q1, if_neg (by decide)]
          rw [e_open10 (b2'.at (by omega)) b3.2.2.2.1 (by omega), Option.bind_some, if_pos c, if_neg (by decide), i_9, nI_add, a_iN (by omega) (by omega), b2'.at (by omega), g1, Option.bind_some, j_ckE (by rw [g2]), w_iN (by omega) (by omega)]
        · intro a k h1
          rw [I_sIn (by omega), g3 _ _ (by omega), I_sIn (by omega), f3 _ _ (by omega)]
        · have hL : ∀ a k, j_L (j_sI M'' 36 (9 + p) (nI l)) a k = j_L M a k := fun a k => by
            show M''.2.1 a k = M.2.1 a k
            rw [g2]
            show M'.2.1 a k = _
            rw [f2]
          unfold iF
          rw [hL, hL, hL, hL]
          exact h.2.2.1
        · exact t.to (by rw [I_sIn (by omega), g3 _ _ (by omega), I_sIn (by omega), f3 _ _ (by omega)]) (by rw [I_sIn (by omega), g3 _ _ (by omega), I_sIn (by omega), f3 _ _ (by omega)]) (fun k => by rw [I_sIn (by omega), g3 _ _ (by omega), I_sIn (by omega), f3 _ _ (by omega)]) (fun k => by rw [I_sIn (by omega), g3 _ _ (by omega), I_sIn (by omega), f3 _ _ (by omega)])
        · refine iB.to (M := j_sI M' 22 (1 + p) (nI l)) ?_ (fun a k _ _ => by rw [I_sIn (by omega), g3 _ _ (by omega)])
          obtain ⟨c1, c2, c3, c4, c5, c6, c7, c8⟩ := f4
          have k7 := (wf_kp b3).1
          have k6 := (wf_kp b3).2.1
          refine ⟨by simp (disch := omega) only [c1, I_sIe, I_sIn, I_cpe, I_cpn, up_e, up_n, rowOf_up, pasOf_up, Nat.reduceAdd], by simp (disch := omega) only [c2, I_sIe, I_sIn, I_cpe, I_cpn, up_e, up_n, rowOf_up, pasOf_up, Nat.reduceAdd], by simp (disch := omega) only [c3, I_sIe, I_sIn, I_cpe, I_cpn, up_e, up_n, rowOf_up, pasOf_up, Nat.reduceAdd], fun m hm => ⟨by simp (disch := omega) only [(c4 m hm).1, I_sIe, I_sIn, I_cpe, I_cpn, up_e, up_n, rowOf_up, pasOf_up, Nat.reduceAdd], by simp (disch := omega) only [(c4 m hm).2, I_sIe, I_sIn, I_cpe, I_cpn, up_e, up_n, rowOf_up, pasOf_up, Nat.reduceAdd]⟩, fun q hq => ?_, fun k hk => ?_, fun u hu k hk => ?_, fun i hi => ?_⟩
          · rw [up_n (by omega)] at hq
            exact ⟨by simp (disch := omega) only [(c5 q hq).1, I_sIe, I_sIn, I_cpe, I_cpn, up_e, up_n, rowOf_up, pasOf_up, Nat.reduceAdd], by simp (disch := omega) only [(c5 q hq).2, I_sIe, I_sIn, I_cpe, I_cpn, up_e, up_n, rowOf_up, pasOf_up, Nat.reduceAdd]⟩
          · by_cases e : k = 1 + p
            · subst e
              rw [rowOf_1]
              simp (disch := omega) only [I_sIe, I_sIn, I_cpe, I_cpn, up_e, up_n, rowOf_up, pasOf_up, Nat.reduceAdd]
            · rw [hrow k hk e]
              simp (disch := omega) only [c6 k hk, I_sIe, I_sIn, I_cpe, I_cpn, up_e, up_n, rowOf_up, pasOf_up, Nat.reduceAdd]
          · rw [up_n (by omega)] at hu
            simp (disch := omega) only [c7 u hu k hk, I_sIe, I_sIn, I_cpe, I_cpn, up_e, up_n, rowOf_up, pasOf_up, Nat.reduceAdd]
          · rw [up_n (by omega)] at hi
            simp (disch := omega) only [c8 i hi, I_sIe, I_sIn, I_cpe, I_cpn, up_e, up_n, rowOf_up, pasOf_up, Nat.reduceAdd]
        · intro k hk
          have := g4 k hk
          rw [Nat.zero_add] at this ⊢
          by_cases e : k = 9 + p
          · simp (disch := omega) only [I_sIe, I_sIn, I_cpe, I_cpn, up_e, up_n, rowOf_up, pasOf_up, Nat.reduceAdd]
          · simp (disch := omega) only [this, I_sIe, I_sIn, I_cpe, I_cpn, up_e, up_n, rowOf_up, pasOf_up, Nat.reduceAdd]
        · have w' := wf_kp b3
          obtain ⟨w1, w2, w3, w4, w5, w6, w7, w8, w9⟩ := w'
          have e0 : kp be 0 = be 0 := kp_n (by omega) (by omega)
          have e8 : kp be 8 = be 8 := kp_n (by omega) (by omega)
          refine ⟨by simp (disch := omega) only [I_sIe, I_sIn, I_cpe, I_cpn, up_e, up_n, rowOf_up, pasOf_up, Nat.reduceAdd]; exact w1, by simp (disch := omega) only [I_sIe, I_sIn, I_cpe, I_cpn, up_e, up_n, rowOf_up, pasOf_up, Nat.reduceAdd]; exact w2, by simp (disch := omega) only [I_sIe, I_sIn, I_cpe, I_cpn, up_e, up_n, rowOf_up, pasOf_up, Nat.reduceAdd]; exact w3, by simp (disch := omega) only [I_sIe, I_sIn, I_cpe, I_cpn, up_e, up_n, rowOf_up, pasOf_up, Nat.reduceAdd]; exact w4, fun m hm => by simp (disch := omega) only [I_sIe, I_sIn, I_cpe, I_cpn, up_e, up_n, rowOf_up, pasOf_up, Nat.reduceAdd]; exact w5 m hm, fun q hq => ?_, ?_, fun u hu => ?_, fun i hi => ?_⟩
          · rw [up_n (by omega)] at hq
            simp (disch := omega) only [I_sIe, I_sIn, I_cpe, I_cpn, up_e, up_n, rowOf_up, pasOf_up, Nat.reduceAdd]; exact w6 q hq
          · rw [up_n (k := 9 + p) (j := 0) (by omega), up_n (k := 9 + p) (j := 8) (by omega), up_n (k := 9 + p) (j := 1) (by omega)]
            obtain ⟨v1, v2, v3, v4⟩ := w7
            refine ⟨v1, fun q hq => ?_, fun q hq => ?_, fun q h1 hq => ?_⟩
            · have h2 := v2 q hq
              simp only at h2 ⊢
              rw [up_n (j := 9 + (7 + q)) (by omega), up_n (j := 9 + (14 + q)) (by omega)]
              by_cases e : q = p
              · subst e; rw [up_e rfl]; omega
              · rw [up_n (by omega)]; exact h2
            · have h2 := v3 q hq
              simp only at h2 ⊢
              by_cases e : q = p
              · subst e; rw [up_e rfl, e8]; exact of_decide_eq_true c
              · rw [up_n (by omega)]; exact h2
            · have h2 := v4 q h1 hq
              simp only at h2 ⊢
              rw [up_n (j := 9 + (7 + q)) (by omega), up_n (j := 9 + (14 + q)) (by omega)]; exact h2
          · rw [up_n (by omega)] at hu
            rw [up_n (k := 9 + p) (j := 0) (by omega), up_n (k := 9 + p) (j := 8) (by omega), up_n (by omega)]
            exact wr_congr w1 (fun k hk => up_n (by omega)) (w8 u hu)
          · rw [up_n (by omega)] at hi
            simp (disch := omega) only [I_sIe, I_sIn, I_cpe, I_cpn, up_e, up_n, rowOf_up, pasOf_up, Nat.reduceAdd]; exact w9 i hi
      · refine ok_ref h 1 (by omega) (v := (-3 : Int32)) ?_ ?_
        · show f_X9_goes M _ _ = _
          unfold f_X9_goes f_X9_isLane
          try simp only [tlE]
          rw [p0, if_neg (by decide), p1, if_neg (by decide)]
          rw [e_open9 b1 (by omega), Option.bind_some, if_neg c, if_pos rfl, bind_no]
        · show f_X10_goes _ _ _ = _
          unfold f_X10_goes f_X10_isLane
          try simp only [tlE]
          rw [isOne_ref, q0, Option.bind_some, if_neg (by decide), q1, if_neg (by decide)]
          rw [e_open10 (be := be) (by rw [I_sIn (by omega)]; exact b2.at (by omega)) b3.2.2.2.1 (by omega), Option.bind_some, if_neg c, if_pos rfl, bind_no10]
