/-! shut, one, note, count, digest -/
def sbt (s l b : Nat) : Nat := if b = 1 then (if s / 2 ^ l % 2 = 1 then s else s + 2 ^ l) else (if s / 2 ^ l % 2 = 1 then s - 2 ^ l else s)
theorem or4_k : ∀ s, s < 16 → ∀ l, l < 4 → nI s ||| ((1 : Int32) <<< (nI l &&& 31)) = nI (sbt s l 1) := by decide +kernel
theorem and4_k : ∀ s, s < 16 → ∀ l, l < 4 → nI s &&& (((1 : Int32) <<< (nI l &&& 31)) ^^^ ((-1) : Int32)) = nI (sbt s l 0) := by decide +kernel
theorem sbt_lt : ∀ s, s < 16 → ∀ l, l < 4 → ∀ b, b < 2 → sbt s l b < 16 := by decide +kernel
theorem sbt_at : ∀ s, s < 16 → ∀ l, l < 4 → ∀ b, b < 2 → ∀ m, m < 4 → sbt s l b / 2 ^ m % 2 = if m = l then b else s / 2 ^ m % 2 := by decide +kernel
theorem ms_eq0 {n : Nat} {P : Nat → Bool} (h : ms n P = 0) : ∀ q, q < n → ¬ P q = true := fun q hq hP => by
  have := ms_tb (n := n) (P := P) q
  rw [h] at this
  simp [hq, hP] at this
theorem ms_ne0 {n : Nat} {P : Nat → Bool} (h : ¬ ms n P = 0) : ∃ q, q < n ∧ P q = true := by
  induction n with
  | zero => exact absurd rfl h
  | succ n ih =>
    rw [ms_s] at h
    by_cases c : P n = true
    · exact ⟨n, by omega, c⟩
    · rw [if_neg c] at h
      obtain ⟨q, h1, h2⟩ := ih h
      exact ⟨q, by omega, h2⟩
theorem row_mem {be : Nat → Nat} {l : Nat} : (fun q => decide (rowOf be (1 + q) = l)) = fun q => decide (be (9 + q) = l) := by
  funext q
  rw [rowOf_1]
theorem iB_shut {M : j_M} {be : Nat → Nat} {l b : Nat} (b1 : iB M 17 be) (b3 : wf be) (hl : l < 4) (hb : b < 2) (x : Int32) : iB (j_sI (j_sI (j_sI (j_sI M 19 l (nI b)) 17 10 (nI 0)) 36 8 x) 36 3 (nI 0)) 17 (up (up be 8 (sbt (be 8) l b)) 3 0) := by
  obtain ⟨c1, c2, c3, c4, c5, c6, c7, c8⟩ := b1
  have hs := sbt_at (be 8) b3.2.2.2.1 l hl b hb
  refine ⟨by simp (disch := omega) only [c1, I_sIe, I_sIn, I_cpe, I_cpn, up_e, up_n, rowOf_up, pasOf_up, Nat.reduceAdd], by simp (disch := omega) only [I_sIe, I_sIn, I_cpe, I_cpn, up_e, up_n, rowOf_up, pasOf_up, Nat.reduceAdd], by simp (disch := omega) only [c3, I_sIe, I_sIn, I_cpe, I_cpn, up_e, up_n, rowOf_up, pasOf_up, Nat.reduceAdd], fun m hm => ⟨by simp (disch := omega) only [(c4 m hm).1, I_sIe, I_sIn, I_cpe, I_cpn, up_e, up_n, rowOf_up, pasOf_up, Nat.reduceAdd], ?_⟩, fun p hp => ?_, fun k hk => by simp (disch := omega) only [c6 k hk, I_sIe, I_sIn, I_cpe, I_cpn, up_e, up_n, rowOf_up, pasOf_up, Nat.reduceAdd], fun u hu => ?_, fun i hi => ?_⟩
  · rw [up_n (by omega), up_e rfl, hs m hm]
    by_cases e : m = l
    · rw [if_pos e]; simp (disch := omega) only [I_sIe, I_sIn, I_cpe, I_cpn, up_e, up_n, rowOf_up, pasOf_up, Nat.reduceAdd]
    · rw [if_neg e]; simp (disch := omega) only [(c4 m hm).2, I_sIe, I_sIn, I_cpe, I_cpn, up_e, up_n, rowOf_up, pasOf_up, Nat.reduceAdd]
  · rw [up_n (by omega), up_n (by omega)] at hp
    exact ⟨by simp (disch := omega) only [(c5 p hp).1, I_sIe, I_sIn, I_cpe, I_cpn, up_e, up_n, rowOf_up, pasOf_up, Nat.reduceAdd], by simp (disch := omega) only [(c5 p hp).2, I_sIe, I_sIn, I_cpe, I_cpn, up_e, up_n, rowOf_up, pasOf_up, Nat.reduceAdd]⟩
  · rw [up_e rfl] at hu
    omega
  · rw [up_n (by omega), up_n (by omega)] at hi
    simp (disch := omega) only [c8 i hi, I_sIe, I_sIn, I_cpe, I_cpn, up_e, up_n, rowOf_up, pasOf_up, Nat.reduceAdd]
theorem wf_shut {be : Nat → Nat} {l b : Nat} (b3 : wf be) (hl : l < 4) (hb : b < 2) (hm : b = 1 → ∀ q, q < be 0 → ¬ be (9 + q) = l) : wf (up (up be 8 (sbt (be 8) l b)) 3 0) := by
  obtain ⟨w1, w2, w3, w4, w5, w6, w7, w8, w9⟩ := b3
  have e : ∀ j, j ≠ 8 → j ≠ 3 → up (up be 8 (sbt (be 8) l b)) 3 0 j = be j := fun j h1 h2 => by rw [up_n h2, up_n h1]
  refine ⟨by rw [e 0 (by omega) (by omega)]; exact w1, by rw [e 2 (by omega) (by omega)]; exact w2, by rw [up_e rfl]; omega, by rw [up_n (by omega), up_e rfl]; exact sbt_lt _ w4 l hl b hb, fun m hm => by rw [e _ (by omega) (by omega)]; exact w5 m hm, fun p hp => ?_, ?_, fun u hu => ?_, fun i hi => ?_⟩
  · rw [e 0 (by omega) (by omega)] at hp
    rw [e _ (by omega) (by omega), e _ (by omega) (by omega)]; exact w6 p hp
  · rw [e 0 (by omega) (by omega), e 1 (by omega) (by omega), show up (up be 8 (sbt (be 8) l b)) 3 0 8 = sbt (be 8) l b by rw [up_n (by omega), up_e rfl]]
    refine wr_congr w1 (fun k hk => e _ (by omega) (by omega)) ?_
    obtain ⟨v1, v2, v3, v4⟩ := w7
    refine ⟨v1, v2, fun p hp => ?_, v4⟩
    have h4 := (v2 p (by omega)).1
    have h5 := v3 p hp
    simp only at h4 h5 ⊢
    rw [sbt_at _ w4 l hl b hb _ h4]
    split
    · rename_i h6
      rcases (show b = 0 ∨ b = 1 by omega) with h | h
      · exact h
      · exact absurd h6 (hm h p hp)
    · exact h5
  · rw [up_e rfl] at hu; omega
  · rw [e 2 (by omega) (by omega)] at hi
    rw [e _ (by omega) (by omega), e _ (by omega) (by omega), e _ (by omega) (by omega), e _ (by omega) (by omega), e _ (by omega) (by omega)]; exact w9 i hi
theorem op_shut (a1 a2 : Int32) : lw_ok Inv (fun M => f_X9_shut M a1 a2) (fun M => f_X10_shut M a1 a2) := by
  refine okI (fun M h => ?_)
  obtain ⟨be, b1, b2, b3⟩ := h.2.2.2.2.1
  rcases rg (x := a1) (lo := 0) (hi := 3) (lo' := 0) (hi' := 3) 0 3 rfl rfl rfl rfl (by omega) (by omega) with ⟨p0, q0⟩ | ⟨l, m0, l0, rfl, p0, q0⟩
  · refine ok_ref h 0 (by omega) (v := ((-2) : Int32)) ?_ ?_
    · show f_X9_shut M a1 a2 = _
      unfold f_X9_shut f_X9_isLane
      try simp only [tlE]
      rw [p0, if_pos rfl, bind_bad]
    · show f_X10_shut _ a1 a2 = _
      unfold f_X10_shut f_X10_isLane
      try simp only [tlE]
      rw [q0, if_pos rfl, bind_bad10]
  · skip
    rcases rg (x := a2) (lo := 0) (hi := 1) (lo' := 0) (hi' := 1) 0 1 rfl rfl rfl rfl (by omega) (by omega) with ⟨p1, q1⟩ | ⟨b, m1, l1, rfl, p1, q1⟩
    · refine ok_ref h 0 (by omega) (v := ((-2) : Int32)) ?_ ?_
      · show f_X9_shut M (nI l) a2 = _
        unfold f_X9_shut f_X9_isLane
        try simp only [tlE]
        rw [p0, if_neg (by decide), p1, if_pos rfl, bind_bad]
      · show f_X10_shut _ (nI l) a2 = _
        unfold f_X10_shut f_X10_isLane
        try simp only [tlE]
        rw [q0, if_neg (by decide), q1, if_pos rfl, bind_bad10]
    · skip
      obtain ⟨z, ta, t⟩ := h.2.2.2.1
      have hm9 := e_members b1.1 b3.1 (b1.row b3) (lane := l) (by omega)
      rw [row_mem] at hm9
      have hm10 : ∀ M', (∀ k, j_I M' 36 k = j_I M 36 k) → f_X10_whoIsIn M' 36 250 (nI l) = some (nI (ms (be 0) (fun q => be (9 + q) = l))) := fun M' hM => e_whoIsIn (n0 := 250) (lane := l) (f := fun k => be (9 + k)) ((b2.to hM).at (by omega)) b3.1 (by omega) (by omega) (fun k hk => ⟨(b2.to hM).at (by omega), by have := b3.lane hk; omega⟩) (by omega)
      have hlt := ms_lt7 (P := fun q => decide (be (9 + q) = l)) b3.1
      have h16 := b3.2.2.2.1
      have hc4 := b1.2.2.2.1 l (by omega)
      by_cases c : b = 1 ∧ ¬ ms (be 0) (fun q => decide (be (9 + q) = l)) = 0
      · obtain ⟨rfl, c⟩ := c
        refine ok_ref h 1 (by omega) (v := (-3 : Int32)) ?_ ?_
        · show f_X9_shut M _ _ = _
          unfold f_X9_shut f_X9_isLane
          try simp only [tlE]
          rw [p0, if_neg (by decide), p1, if_neg (by decide)]
          rw [if_pos (show nI 1 = 1 from rfl), hm9, Option.bind_some, if_neg (nI_ne0 (by omega) (by omega)), bind_no]
        · show f_X10_shut _ _ _ = _
          unfold f_X10_shut f_X10_isLane
          try simp only [tlE]
          rw [q0, if_neg (by decide), q1, if_neg (by decide)]
          rw [if_pos (show nI 1 = 1 from rfl), hm10 _ (fun k => I_sIn (by omega)), Option.bind_some, if_neg (nI_ne0 (by omega) (by omega)), bind_no10]
      · refine ok_gen (be' := up (up be 8 (sbt (be 8) l b)) 3 0) (z := z) (ta := ta) h (v := nI (be 8 / 2 ^ l % 2)) (M1 := j_sI (j_sI M 19 l (nI b)) 17 10 (nI 0)) (M2 := j_sI (j_sI (j_sI (j_sI M 19 l (nI b)) 17 10 (nI 0)) 36 8 (nI (sbt (be 8) l b))) 36 3 (nI 0)) ?_ rfl ?_ rfl ?_ h.2.2.1 ?_ (iB_shut b1 b3 (by omega) (by omega) _) ?_ (wf_shut b3 (by omega) (by omega) (fun e q hq hx => ms_eq0 (Classical.not_not.mp (fun x => c ⟨e, x⟩)) q hq (by simp [hx])))
        · show f_X9_shut M _ _ = _
          unfold f_X9_shut f_X9_isLane
          try simp only [tlE]
          rw [p0, if_neg (by decide), p1, if_neg (by decide)]
          rcases (show b = 0 ∨ b = 1 by omega) with rfl | rfl
          · rw [if_neg (by decide), a_iN (by omega) (by omega), hc4.2, w_iN (by omega) (by omega)]; rfl
          · rw [if_pos (show nI 1 = 1 from rfl), hm9, Option.bind_some, if_pos (by rw [Classical.not_not.mp (fun x => c ⟨rfl, x⟩)]; rfl), a_iN (by omega) (by omega), hc4.2, w_iN (by omega) (by omega)]; rfl
        · show f_X10_shut _ _ _ = _
          unfold f_X10_shut f_X10_isLane
          try simp only [tlE]
          rw [q0, if_neg (by decide), q1, if_neg (by decide)]
          have e8 : j_I (j_sI (j_sI M 19 l (nI b)) 17 10 (nI 0)) 36 8 = nI (be 8) := by rw [I_sIn (by omega), I_sIn (by omega)]; exact b2.at (by omega)
          rcases (show b = 0 ∨ b = 1 by omega) with rfl | rfl
          · rw [if_neg (by decide), i_8, a_iN (by omega) (by omega), e8, jnE, if_neg (by decide), a_iN (by omega) (by omega), e8, and4_k _ h16 _ (by omega), shr_k _ h16 l (by omega)]
            dsimp only
            rw [w_iN (by omega) (by omega), i_3, w_iN (by omega) (by omega)]; rfl
          · rw [if_pos (show nI 1 = 1 from rfl), hm10 _ (fun k => by rw [I_sIn (by omega), I_sIn (by omega)]), Option.bind_some, if_pos (by rw [Classical.not_not.mp (fun x => c ⟨rfl, x⟩)]; rfl), i_8, a_iN (by omega) (by omega), e8, jnE, if_pos (show nI 1 = 1 from rfl), a_iN (by omega) (by omega), e8, or4_k _ h16 _ (by omega), shr_k _ h16 l (by omega)]
            dsimp only
            rw [w_iN (by omega) (by omega), i_3, w_iN (by omega) (by omega)]; rfl
        · intro a k h1
          simp (disch := omega) only [I_sIe, I_sIn, I_cpe, I_cpn, up_e, up_n, rowOf_up, pasOf_up, Nat.reduceAdd]
        · exact t.to (by simp (disch := omega) only [I_sIe, I_sIn, I_cpe, I_cpn, up_e, up_n, rowOf_up, pasOf_up, Nat.reduceAdd]) (by simp (disch := omega) only [I_sIe, I_sIn, I_cpe, I_cpn, up_e, up_n, rowOf_up, pasOf_up, Nat.reduceAdd]) (fun k => by simp (disch := omega) only [I_sIe, I_sIn, I_cpe, I_cpn, up_e, up_n, rowOf_up, pasOf_up, Nat.reduceAdd]) (fun k => by simp (disch := omega) only [I_sIe, I_sIn, I_cpe, I_cpn, up_e, up_n, rowOf_up, pasOf_up, Nat.reduceAdd])
        · intro k hk
          rw [Nat.zero_add]
          by_cases e3 : k = 3
          · simp (disch := omega) only [I_sIe, I_sIn, I_cpe, I_cpn, up_e, up_n, rowOf_up, pasOf_up, Nat.reduceAdd]
          · by_cases e8 : k = 8
            · simp (disch := omega) only [I_sIe, I_sIn, I_cpe, I_cpn, up_e, up_n, rowOf_up, pasOf_up, Nat.reduceAdd]
            · simp (disch := omega) only [b2.at hk, I_sIe, I_sIn, I_cpe, I_cpn, up_e, up_n, rowOf_up, pasOf_up, Nat.reduceAdd]
/-- one comes -/
def cm (be : Nat → Nat) (kd pc l : Nat) : Nat → Nat := fun k => if k = 0 then be 0 + 1 else if k = 3 then 0 else if k = 30 + be 0 then kd else if k = 37 + be 0 then pc else if k = 9 + be 0 then l else if k = 16 + be 0 ∨ k = 23 + be 0 then 0 else be k
section
variable {be : Nat → Nat} {kd pc l : Nat}
theorem cm_0 : cm be kd pc l 0 = be 0 + 1 := if_pos rfl
theorem cm_3 : cm be kd pc l 3 = 0 := by unfold cm; rw [if_neg (by omega), if_pos rfl]
theorem cm_n {k : Nat} (h : k ≠ 0) (h3 : k ≠ 3) (h30 : k ≠ 30 + be 0) (h37 : k ≠ 37 + be 0) (h9 : k ≠ 9 + be 0) (h16 : k ≠ 16 + be 0) (h23 : k ≠ 23 + be 0) : cm be kd pc l k = be k := by
  unfold cm
  rw [if_neg h, if_neg h3, if_neg h30, if_neg h37, if_neg h9, if_neg (by omega)]
theorem cm_30 : cm be kd pc l (30 + be 0) = kd := by unfold cm; rw [if_neg (by omega), if_neg (by omega), if_pos rfl]
theorem cm_37 (h : be 0 < 7) : cm be kd pc l (37 + be 0) = pc := by unfold cm; rw [if_neg (by omega), if_neg (by omega), if_neg (by omega), if_pos rfl]
theorem cm_9 (h : be 0 < 7) : cm be kd pc l (9 + be 0) = l := by unfold cm; rw [if_neg (by omega), if_neg (by omega), if_neg (by omega), if_neg (by omega), if_pos rfl]
theorem cm_16 (h : be 0 < 7) : cm be kd pc l (16 + be 0) = 0 := by unfold cm; rw [if_neg (by omega), if_neg (by omega), if_neg (by omega), if_neg (by omega), if_neg (by omega), if_pos (by omega)]
theorem cm_23 (h : be 0 < 7) : cm be kd pc l (23 + be 0) = 0 := by unfold cm; rw [if_neg (by omega), if_neg (by omega), if_neg (by omega), if_neg (by omega), if_neg (by omega), if_pos (by omega)]
def cm9 (M : j_M) (b n kd pc l : Nat) : j_M := j_sI (j_sI (j_sI (j_sI (j_sI M (b + 3) n (nI kd)) (b + 4) n (nI pc)) (b + 5) (1 + n) (nI l)) b 9 (nI (n + 1))) b 10 (nI 0)
theorem e_comes {M : j_M} {b : Nat} (h : iB M b be) (h7 : be 0 < 7) : f_X0_comes M b (nI kd) (nI pc) (nI l) = some (nI (be 0), cm9 M b (be 0) kd pc l) := by
  unfold f_X0_comes
  rw [h.1, i_7, if_pos (nI_lt h7 (by omega)), w_iN (by omega) (by omega), w_iN (by omega) (by omega), show (1 : Int32) + nI (be 0) = nI (1 + be 0) from nI_add 1 _, w_iN (by omega) (by omega), tlE, tlE, nI_1]
  rfl
theorem iB_comes {M : j_M} {b : Nat} (h : iB M b be) (w : wf be) (h7 : be 0 < 7) : iB (cm9 M b (be 0) kd pc l) b (cm be kd pc l) := by
  obtain ⟨c1, c2, c3, c4, c5, c6, c7, c8⟩ := h
  unfold cm9
  refine ⟨by simp (disch := omega) only [cm_0, I_sIe, I_sIn, I_cpe, I_cpn, up_e, up_n, rowOf_up, pasOf_up, Nat.reduceAdd], by simp (disch := omega) only [cm_3, I_sIe, I_sIn, I_cpe, I_cpn, up_e, up_n, rowOf_up, pasOf_up, Nat.reduceAdd], by simp (disch := omega) only [cm_n, c3, I_sIe, I_sIn, I_cpe, I_cpn, up_e, up_n, rowOf_up, pasOf_up, Nat.reduceAdd], fun m hm => ⟨by simp (disch := omega) only [cm_n, (c4 m hm).1, I_sIe, I_sIn, I_cpe, I_cpn, up_e, up_n, rowOf_up, pasOf_up, Nat.reduceAdd], by simp (disch := omega) only [cm_n, (c4 m hm).2, I_sIe, I_sIn, I_cpe, I_cpn, up_e, up_n, rowOf_up, pasOf_up, Nat.reduceAdd]⟩, fun p hp => ?_, fun k hk => ?_, fun u hu => ?_, fun i hi => ?_⟩
  · rw [cm_0] at hp
    by_cases e : p = be 0
    · subst e
      exact ⟨by simp (disch := omega) only [cm_30, I_sIe, I_sIn, I_cpe, I_cpn, up_e, up_n, rowOf_up, pasOf_up, Nat.reduceAdd], by simp (disch := omega) only [cm_37, I_sIe, I_sIn, I_cpe, I_cpn, up_e, up_n, rowOf_up, pasOf_up, Nat.reduceAdd]⟩
    · exact ⟨by simp (disch := omega) only [cm_n, (c5 p (by omega)).1, I_sIe, I_sIn, I_cpe, I_cpn, up_e, up_n, rowOf_up, pasOf_up, Nat.reduceAdd], by simp (disch := omega) only [cm_n, (c5 p (by omega)).2, I_sIe, I_sIn, I_cpe, I_cpn, up_e, up_n, rowOf_up, pasOf_up, Nat.reduceAdd]⟩
  · have h6 := c6 k hk
    unfold rowOf at h6 ⊢
    by_cases e0 : k = 0
    · rw [if_pos e0] at h6 ⊢
      simp (disch := omega) only [cm_n, h6, I_sIe, I_sIn, I_cpe, I_cpn, up_e, up_n, rowOf_up, pasOf_up, Nat.reduceAdd]
    · rw [if_neg e0] at h6 ⊢
      by_cases e1 : k = 1 + be 0
      · rw [show 8 + k = 9 + be 0 by omega]
        simp (disch := omega) only [cm_9, I_sIe, I_sIn, I_cpe, I_cpn, up_e, up_n, rowOf_up, pasOf_up, Nat.reduceAdd]
      · have hz := w.2.2.2.2.2.2.1.2.2.2 (be 0) (Nat.le_refl _) h7
        simp only at hz
        by_cases e8 : k = 8 + be 0
        · rw [show 8 + k = 16 + be 0 by omega] at h6 ⊢
          rw [show 9 + (7 + be 0) = 16 + be 0 by omega] at hz
          simp (disch := omega) only [cm_16, h6, hz.1, I_sIe, I_sIn, I_cpe, I_cpn, up_e, up_n, rowOf_up, pasOf_up, Nat.reduceAdd]
        · by_cases e15 : k = 15 + be 0
          · rw [show 8 + k = 23 + be 0 by omega] at h6 ⊢
            rw [show 9 + (14 + be 0) = 23 + be 0 by omega] at hz
            simp (disch := omega) only [cm_23, h6, hz.2, I_sIe, I_sIn, I_cpe, I_cpn, up_e, up_n, rowOf_up, pasOf_up, Nat.reduceAdd]
          · simp (disch := omega) only [cm_n, h6, I_sIe, I_sIn, I_cpe, I_cpn, up_e, up_n, rowOf_up, pasOf_up, Nat.reduceAdd]
  · rw [cm_3] at hu; omega
  · rw [cm_n (by omega) (by omega) (by omega) (by omega) (by omega) (by omega) (by omega)] at hi
    have := w.2.1
    simp (disch := omega) only [cm_n, c8 i hi, I_sIe, I_sIn, I_cpe, I_cpn, up_e, up_n, rowOf_up, pasOf_up, Nat.reduceAdd]
theorem wf_comes (w : wf be) (h7 : be 0 < 7) (hk : kd ≤ 5) (hp : 20 ≤ pc ∧ pc ≤ 90) (hl : l < 4) (ho : op be l = true) : wf (cm be kd pc l) := by
  obtain ⟨w1, w2, w3, w4, w5, w6, w7, w8, w9⟩ := w
  refine ⟨by rw [cm_0]; omega, by rw [cm_n (by omega) (by omega) (by omega) (by omega) (by omega) (by omega) (by omega)]; exact w2, by rw [cm_3]; omega, by rw [cm_n (by omega) (by omega) (by omega) (by omega) (by omega) (by omega) (by omega)]; exact w4, fun m hm => by rw [cm_n (by omega) (by omega) (by omega) (by omega) (by omega) (by omega) (by omega)]; exact w5 m hm, fun p hp' => ?_, ?_, fun u hu => ?_, fun i hi => ?_⟩
  · rw [cm_0] at hp'
    by_cases e : p = be 0
    · subst e
      rw [cm_30, cm_37 h7]
      exact ⟨hk, hp⟩
    · rw [cm_n (by omega) (by omega) (by omega) (by omega) (by omega) (by omega) (by omega), cm_n (by omega) (by omega) (by omega) (by omega) (by omega) (by omega) (by omega)]
      exact w6 p (by omega)
  · rw [cm_0, cm_n (k := 8) (by omega) (by omega) (by omega) (by omega) (by omega) (by omega) (by omega), cm_n (k := 1) (by omega) (by omega) (by omega) (by omega) (by omega) (by omega) (by omega)]
    obtain ⟨v1, v2, v3, v4⟩ := w7
    refine ⟨v1, fun p hp => ?_, fun p hp => ?_, fun p h1 hp => ?_⟩
    · have h2 := v2 p hp
      simp only at h2 ⊢
      by_cases e : p = be 0
      · subst e
        rw [cm_9 h7, show 9 + (7 + be 0) = 16 + be 0 by omega, cm_16 h7, show 9 + (14 + be 0) = 23 + be 0 by omega, cm_23 h7]
        omega
      · rw [cm_n (k := 9 + p) (by omega) (by omega) (by omega) (by omega) (by omega) (by omega) (by omega), cm_n (k := 9 + (7 + p)) (by omega) (by omega) (by omega) (by omega) (by omega) (by omega) (by omega), cm_n (k := 9 + (14 + p)) (by omega) (by omega) (by omega) (by omega) (by omega) (by omega) (by omega)]
        exact h2
    · by_cases e : p = be 0
      · subst e
        simp only
        rw [cm_9 h7]
        exact of_decide_eq_true ho
      · have h3 := v3 p (by omega)
        simp only at h3 ⊢
        rw [cm_n (k := 9 + p) (by omega) (by omega) (by omega) (by omega) (by omega) (by omega) (by omega)]
        exact h3
    · have h3 := v4 p (by omega) hp
      simp only at h3 ⊢
      rw [cm_n (k := 9 + (7 + p)) (by omega) (by omega) (by omega) (by omega) (by omega) (by omega) (by omega), cm_n (k := 9 + (14 + p)) (by omega) (by omega) (by omega) (by omega) (by omega) (by omega) (by omega)]
      exact h3
  · rw [cm_3] at hu; omega
  · rw [cm_n (by omega) (by omega) (by omega) (by omega) (by omega) (by omega) (by omega)] at hi
    rw [cm_n (by omega) (by omega) (by omega) (by omega) (by omega) (by omega) (by omega), cm_n (by omega) (by omega) (by omega) (by omega) (by omega) (by omega) (by omega), cm_n (by omega) (by omega) (by omega) (by omega) (by omega) (by omega) (by omega), cm_n (by omega) (by omega) (by omega) (by omega) (by omega) (by omega) (by omega), cm_n (by omega) (by omega) (by omega) (by omega) (by omega) (by omega) (by omega)]
    exact w9 i hi
end
def lo10 (M : j_M) (a n kd pc l : Nat) : j_M := j_sI (j_sI (j_sI (j_sI (j_sI (j_sI M a (30 + n) (nI kd)) a (37 + n) (nI pc)) a (9 + n) (nI l)) a (16 + n) (nI 0)) a (23 + n) (nI 0)) a 0 (nI (n + 1))
theorem e_layOne {M : j_M} {a n0 n kd pc l : Nat} (h : j_I M a 0 = nI n) (h7 : n < 7) (h0 : 74 ≤ n0) (h1 : n0 < 2 ^ 31) : f_X10_layOne M a n0 (nI kd) (nI pc) (nI l) = some (lo10 M a n kd pc l) := by
  unfold f_X10_layOne lo10
  simp (disch := omega) only [h, tlE, jnE, jn2E, jn3E, Option.bind_some, nI_add, pk_mul, pk_sub, nI_leI, nI_ltI, nI_eq, a_iN, w_iN, d_iN, r_iN, I_sIe, I_sIn, j_ckS, j_ckR, if_pos, if_neg, Nat.reduceAdd, Nat.reduceMul, Nat.zero_add, Nat.add_zero, i_0, i_1, i_2, i_3, i_4, i_5, i_6, i_7, i_8, i_9, i_10, i_15, i_16, i_20, i_21, i_22, i_23, i_30, i_32, i_37, i_40, i_44, i_47, i_48, i_57, i_59, i_60, i_74, i_90, i_96, i_97, i_122, i_127, i_150, i_154, i_200, i_250, i_427, i_500, i_600, i_999, i_1000000]
theorem I_lo10 {M : j_M} {a n kd pc l k : Nat} {be : Nat → Nat} (hn : n = be 0) (h7 : n < 7) (h : j_I M a k = nI (be k)) (h3 : k ≠ 3) : j_I (lo10 M a n kd pc l) a k = nI (cm be kd pc l k) := by
  unfold lo10
  subst hn
  by_cases e0 : k = 0
  · subst e0; simp (disch := omega) only [cm_0, I_sIe, I_sIn, I_cpe, I_cpn, up_e, up_n, rowOf_up, pasOf_up, Nat.reduceAdd]
  · by_cases e23 : k = 23 + be 0
    · subst e23; simp (disch := omega) only [cm_23, I_sIe, I_sIn, I_cpe, I_cpn, up_e, up_n, rowOf_up, pasOf_up, Nat.reduceAdd]
    · by_cases e16 : k = 16 + be 0
      · subst e16; simp (disch := omega) only [cm_16, I_sIe, I_sIn, I_cpe, I_cpn, up_e, up_n, rowOf_up, pasOf_up, Nat.reduceAdd]
      · by_cases e9 : k = 9 + be 0
        · subst e9; simp (disch := omega) only [cm_9, I_sIe, I_sIn, I_cpe, I_cpn, up_e, up_n, rowOf_up, pasOf_up, Nat.reduceAdd]
        · by_cases e37 : k = 37 + be 0
          · subst e37; simp (disch := omega) only [cm_37, I_sIe, I_sIn, I_cpe, I_cpn, up_e, up_n, rowOf_up, pasOf_up, Nat.reduceAdd]
          · by_cases e30 : k = 30 + be 0
            · subst e30; simp (disch := omega) only [cm_30, I_sIe, I_sIn, I_cpe, I_cpn, up_e, up_n, rowOf_up, pasOf_up, Nat.reduceAdd]
            · simp (disch := omega) only [cm_n, h, I_sIe, I_sIn, I_cpe, I_cpn, up_e, up_n, rowOf_up, pasOf_up, Nat.reduceAdd]
theorem I_lo10' {M : j_M} {a n kd pc l k b : Nat} (h : b ≠ a) : j_I (lo10 M a n kd pc l) b k = j_I M b k := by
  unfold lo10
  simp (disch := omega) only [I_sIe, I_sIn, I_cpe, I_cpn, up_e, up_n, rowOf_up, pasOf_up, Nat.reduceAdd]
theorem I_cm9 {M : j_M} {b n kd pc l a k : Nat} (h : a < b ∨ b + 6 ≤ a) : j_I (cm9 M b n kd pc l) a k = j_I M a k := by
  unfold cm9
  simp (disch := omega) only [I_sIe, I_sIn, I_cpe, I_cpn, up_e, up_n, rowOf_up, pasOf_up, Nat.reduceAdd]
theorem op_one (a1 a2 a3 : Int32) : lw_ok Inv (fun M => f_X9_one M a1 a2 a3) (fun M => f_X10_one M a1 a2 a3) := by
  refine okI (fun M h => ?_)
  obtain ⟨be, b1, b2, b3⟩ := h.2.2.2.2.1
  rcases rg (x := a1) (lo := 0) (hi := 5) (lo' := 0) (hi' := 5) 0 5 rfl rfl rfl rfl (by omega) (by omega) with ⟨p0, q0⟩ | ⟨kd, m0, l0, rfl, p0, q0⟩
  · refine ok_ref h 0 (by omega) (v := ((-2) : Int32)) ?_ ?_
    · show f_X9_one M a1 a2 a3 = _
      unfold f_X9_one f_X9_isKind f_X9_isPace f_X9_isLane
      try simp only [tlE]
      rw [p0, if_pos rfl, bind_bad]
    · show f_X10_one _ a1 a2 a3 = _
      unfold f_X10_one f_X10_isLane
      try simp only [tlE]
      rw [q0, if_pos rfl, bind_bad10]
  · skip
    rcases rg (x := a2) (lo := 20) (hi := 90) (lo' := 20) (hi' := 90) 20 90 rfl rfl rfl rfl (by omega) (by omega) with ⟨p1, q1⟩ | ⟨pc, m1, l1, rfl, p1, q1⟩
    · refine ok_ref h 0 (by omega) (v := ((-2) : Int32)) ?_ ?_
      · show f_X9_one M (nI kd) a2 a3 = _
        unfold f_X9_one f_X9_isKind f_X9_isPace f_X9_isLane
        try simp only [tlE]
        rw [p0, if_neg (by decide), p1, if_pos rfl, bind_bad]
      · show f_X10_one _ (nI kd) a2 a3 = _
        unfold f_X10_one f_X10_isLane
        try simp only [tlE]
        rw [q0, if_neg (by decide), q1, if_pos rfl, bind_bad10]
    · skip
      rcases rg (x := a3) (lo := 0) (hi := 3) (lo' := 0) (hi' := 3) 0 3 rfl rfl rfl rfl (by omega) (by omega) with ⟨p2, q2⟩ | ⟨l, m2, l2, rfl, p2, q2⟩
      · refine ok_ref h 0 (by omega) (v := ((-2) : Int32)) ?_ ?_
        · show f_X9_one M (nI kd) (nI pc) a3 = _
          unfold f_X9_one f_X9_isKind f_X9_isPace f_X9_isLane
          try simp only [tlE]
          rw [p0, if_neg (by decide), p1, if_neg (by decide), p2, if_pos rfl, bind_bad]
        · show f_X10_one _ (nI kd) (nI pc) a3 = _
          unfold f_X10_one f_X10_isLane
          try simp only [tlE]
          rw [q0, if_neg (by decide), q1, if_neg (by decide), q2, if_pos rfl, bind_bad10]
      · skip
        obtain ⟨z, ta, t⟩ := h.2.2.2.1
        have h7 := b3.1
        by_cases c : op be l = true
        · by_cases c7 : be 0 = 7
          · refine ok_ref h 2 (by omega) (v := (-4 : Int32)) ?_ ?_
            · show f_X9_one M _ _ _ = _
              unfold f_X9_one f_X9_isKind f_X9_isPace f_X9_isLane
              try simp only [tlE]
              rw [p0, if_neg (by decide), p1, if_neg (by decide), p2, if_neg (by decide)]
              rw [e_open9 b1 (by omega), Option.bind_some, if_pos c, if_neg (by decide), b1.1, i_7, if_neg (nI_nlt (by omega) (by omega)), bind_full]
            · show f_X10_one _ _ _ _ = _
              unfold f_X10_one f_X10_isLane
              try simp only [tlE]
              rw [q0, if_neg (by decide), q1, if_neg (by decide), q2, if_neg (by decide)]
              rw [e_open10 (be := be) (by rw [I_sIn (by omega)]; exact b2.at (by omega)) b3.2.2.2.1 (by omega), Option.bind_some, if_pos c, if_neg (by decide), e_many (n := be 0) (by rw [I_sIn (by omega)]; exact b2.at (by omega)), Option.bind_some, i_7, if_pos (by rw [c7]), bind_full10]
          · have hM : ∀ k, j_I (cm9 M 17 (be 0) kd pc l) 36 k = j_I M 36 k := fun k => I_cm9 (by omega)
            refine ok_gen (be' := cm be kd pc l) (z := z) (ta := ta) h (v := nI (be 0)) (M1 := cm9 M 17 (be 0) kd pc l) (M2 := j_sI (lo10 (cm9 M 17 (be 0) kd pc l) 36 (be 0) kd pc l) 36 3 (nI 0)) ?_ rfl ?_ rfl ?_ h.2.2.1 ?_ ?_ ?_ (wf_comes b3 (by omega) l0 ⟨m1, l1⟩ (by omega) c)
            · show f_X9_one M _ _ _ = _
              unfold f_X9_one f_X9_isKind f_X9_isPace f_X9_isLane
              try simp only [tlE]
              rw [p0, if_neg (by decide), p1, if_neg (by decide), p2, if_neg (by decide)]
              rw [e_open9 b1 (by omega), Option.bind_some, if_pos c, if_neg (by decide), b1.1, i_7, if_pos (nI_lt (by omega) (by omega)), e_comes b1 (by omega), Option.bind_some, j_ckE (by rfl)]
            · show f_X10_one _ _ _ _ = _
              unfold f_X10_one f_X10_isLane
              try simp only [tlE]
              rw [q0, if_neg (by decide), q1, if_neg (by decide), q2, if_neg (by decide)]
              rw [e_open10 (be := be) (by rw [hM]; exact b2.at (by omega)) b3.2.2.2.1 (by omega), Option.bind_some, if_pos c, if_neg (by decide), e_many (n := be 0) (by rw [hM]; exact b2.at (by omega)), Option.bind_some, i_7, if_neg (by rw [nI_eq (by omega) (by omega)]; exact c7), e_layOne (n := be 0) (by rw [hM]; exact b2.at (by omega)) (by omega) (by omega) (by omega), Option.bind_some, j_ckE (by rfl), i_3, w_iN (by omega) (by omega), e_many (n := be 0 + 1) (by rw [I_sIn (by omega)]; unfold lo10; rw [I_sIe (by omega)]), Option.bind_some, show nI (be 0 + 1) - (1 : Int32) = nI (be 0) from nI_pred _]
              rfl
            · intro a k h1
              rw [I_sIn (by omega), I_lo10' (by omega), I_cm9 (by omega)]
            · exact t.to (by rw [I_sIn (by omega), I_lo10' (by omega), I_cm9 (by omega)]) (by rw [I_sIn (by omega), I_lo10' (by omega), I_cm9 (by omega)]) (fun k => by rw [I_sIn (by omega), I_lo10' (by omega), I_cm9 (by omega)]) (fun k => by rw [I_sIn (by omega), I_lo10' (by omega), I_cm9 (by omega)])
            · exact (iB_comes b1 b3 (by omega)).to (fun a k _ _ => by rw [I_sIn (by omega), I_lo10' (by omega)])
            · intro k hk
              rw [Nat.zero_add]
              by_cases e : k = 3
              · subst e
                rw [I_sIe (by omega), cm_3]
              · rw [I_sIn (by omega), I_lo10 rfl (by omega) (by rw [hM]; exact b2.at hk) e]
        · refine ok_ref h 1 (by omega) (v := (-3 : Int32)) ?_ ?_
          · show f_X9_one M _ _ _ = _
            unfold f_X9_one f_X9_isKind f_X9_isPace f_X9_isLane
            try simp only [tlE]
            rw [p0, if_neg (by decide), p1, if_neg (by decide), p2, if_neg (by decide)]
            rw [e_open9 b1 (by omega), Option.bind_some, if_neg c, if_pos rfl, bind_no]
          · show f_X10_one _ _ _ _ = _
            unfold f_X10_one f_X10_isLane
            try simp only [tlE]
            rw [q0, if_neg (by decide), q1, if_neg (by decide), q2, if_neg (by decide)]
            rw [e_open10 (be := be) (by rw [I_sIn (by omega)]; exact b2.at (by omega)) b3.2.2.2.1 (by omega), Option.bind_some, if_neg c, if_pos rfl, bind_no10]
