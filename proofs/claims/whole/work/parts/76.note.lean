/-! note, count, digest -/
def nt (be : Nat → Nat) (p t s n m : Nat) : Nat → Nat := up (up (up (up (up (up be (44 + 5 * be 2) p) (44 + 5 * be 2 + 1) t) (44 + 5 * be 2 + 2) s) (44 + 5 * be 2 + 3) n) (44 + 5 * be 2 + 4) m) 2 (be 2 + 1)
theorem op_note (a1 a2 a3 a4 a5 : Int32) : lw_ok Inv (fun M => f_X9_note M a1 a2 a3 a4 a5) (fun M => f_X10_note M a1 a2 a3 a4 a5) := by
  refine okI (fun M h => ?_)
  obtain ⟨be, b1, b2, b3⟩ := h.2.2.2.2.1
  rcases rgOne (x := a1) b1.1 (b2.at (by omega)) b3.1 with ⟨p0, q0⟩ | ⟨p, l0, rfl, p0, q0⟩
  · refine ok_ref h 0 (by omega) (v := ((-2) : Int32)) ?_ ?_
    · show f_X9_note M a1 a2 a3 a4 a5 = _
      unfold f_X9_note
      try simp only [tlE]
      rw [p0, if_pos rfl, bind_bad]
    · show f_X10_note _ a1 a2 a3 a4 a5 = _
      unfold f_X10_note
      try simp only [tlE]
      rw [isOne_ref, q0, Option.bind_some, if_pos rfl, bind_bad10]
  · skip
    rcases rg (x := a2) (lo := 1) (hi := 200) (lo' := 1) (hi' := 200) 1 200 rfl rfl rfl rfl (by omega) (by omega) with ⟨p1, q1⟩ | ⟨t, m1, l1, rfl, p1, q1⟩
    · refine ok_ref h 0 (by omega) (v := ((-2) : Int32)) ?_ ?_
      · show f_X9_note M (nI p) a2 a3 a4 a5 = _
        unfold f_X9_note
        try simp only [tlE]
        rw [p0, if_neg (by decide), p1, if_pos rfl, bind_bad]
      · show f_X10_note _ (nI p) a2 a3 a4 a5 = _
        unfold f_X10_note
        try simp only [tlE]
        rw [isOne_ref, q0, Option.bind_some, if_neg (by decide), q1, if_pos rfl, bind_bad10]
    · skip
      rcases rg (x := a3) (lo := 0) (hi := 90) (lo' := 0) (hi' := 90) 0 90 rfl rfl rfl rfl (by omega) (by omega) with ⟨p2, q2⟩ | ⟨s, m2, l2, rfl, p2, q2⟩
      · refine ok_ref h 0 (by omega) (v := ((-2) : Int32)) ?_ ?_
        · show f_X9_note M (nI p) (nI t) a3 a4 a5 = _
          unfold f_X9_note
          try simp only [tlE]
          rw [p0, if_neg (by decide), p1, if_neg (by decide), p2, if_pos rfl, bind_bad]
        · show f_X10_note _ (nI p) (nI t) a3 a4 a5 = _
          unfold f_X10_note
          try simp only [tlE]
          rw [isOne_ref, q0, Option.bind_some, if_neg (by decide), q1, if_neg (by decide), q2, if_pos rfl, bind_bad10]
      · skip
        rcases rg (x := a4) (lo := 0) (hi := 6) (lo' := 0) (hi' := 6) 0 6 rfl rfl rfl rfl (by omega) (by omega) with ⟨p3, q3⟩ | ⟨n, m3, l3, rfl, p3, q3⟩
        · refine ok_ref h 0 (by omega) (v := ((-2) : Int32)) ?_ ?_
          · show f_X9_note M (nI p) (nI t) (nI s) a4 a5 = _
            unfold f_X9_note
            try simp only [tlE]
            rw [p0, if_neg (by decide), p1, if_neg (by decide), p2, if_neg (by decide), p3, if_pos rfl, bind_bad]
          · show f_X10_note _ (nI p) (nI t) (nI s) a4 a5 = _
            unfold f_X10_note
            try simp only [tlE]
            rw [isOne_ref, q0, Option.bind_some, if_neg (by decide), q1, if_neg (by decide), q2, if_neg (by decide), q3, if_pos rfl, bind_bad10]
        · skip
          rcases rg (x := a5) (lo := 0) (hi := 6) (lo' := 0) (hi' := 6) 0 6 rfl rfl rfl rfl (by omega) (by omega) with ⟨p4, q4⟩ | ⟨m, m4, l4, rfl, p4, q4⟩
          · refine ok_ref h 0 (by omega) (v := ((-2) : Int32)) ?_ ?_
            · show f_X9_note M (nI p) (nI t) (nI s) (nI n) a5 = _
              unfold f_X9_note
              try simp only [tlE]
              rw [p0, if_neg (by decide), p1, if_neg (by decide), p2, if_neg (by decide), p3, if_neg (by decide), p4, if_pos rfl, bind_bad]
            · show f_X10_note _ (nI p) (nI t) (nI s) (nI n) a5 = _
              unfold f_X10_note
              try simp only [tlE]
              rw [isOne_ref, q0, Option.bind_some, if_neg (by decide), q1, if_neg (by decide), q2, if_neg (by decide), q3, if_neg (by decide), q4, if_pos rfl, bind_bad10]
          · skip
            obtain ⟨z, ta, tt⟩ := h.2.2.2.1
            have h6 := b3.2.1
            have h7 := b3.1
            by_cases c6 : be 2 = 6
            · refine ok_ref h 2 (by omega) (v := (-4 : Int32)) ?_ ?_
              · show f_X9_note M _ _ _ _ _ = _
                unfold f_X9_note
                try simp only [tlE]
                rw [p0, if_neg (by decide), p1, if_neg (by decide), p2, if_neg (by decide), p3, if_neg (by decide), p4, if_neg (by decide)]
                rw [b1.2.2.1, i_6, if_neg (nI_nlt (by omega) (by omega)), bind_full]
              · show f_X10_note _ _ _ _ _ _ = _
                unfold f_X10_note
                try simp only [tlE]
                rw [isOne_ref, q0, Option.bind_some, if_neg (by decide), q1, if_neg (by decide), q2, if_neg (by decide), q3, if_neg (by decide), q4, if_neg (by decide)]
                rw [i_2, a_iN (by omega) (by omega), I_sIn (by omega), b2.at (by omega), i_6, if_pos (by rw [c6]), bind_full10]
            · obtain ⟨c1, c2, c3, c4, c5, cc6, c7, c8⟩ := b1
              have hat : ∀ k, k < 250 → j_I M 36 k = nI (be k) := fun k hk => b2.at hk
              refine ok_gen (be' := nt be p t s n m) (z := z) (ta := ta) h (v := nI (be 2 + 1)) (M1 := j_sI (j_sI (j_sI (j_sI (j_sI (j_sI M 24 (be 2 * 5) (nI p)) 24 (be 2 * 5 + 1) (nI t)) 24 (be 2 * 5 + 2) (nI s)) 24 (be 2 * 5 + 3) (nI n)) 24 (be 2 * 5 + 4) (nI m)) 17 11 (nI (be 2 + 1))) (M2 := j_sI (j_sI (j_sI (j_sI (j_sI (j_sI (j_sI (j_sI (j_sI (j_sI (j_sI (j_sI M 24 (be 2 * 5) (nI p)) 24 (be 2 * 5 + 1) (nI t)) 24 (be 2 * 5 + 2) (nI s)) 24 (be 2 * 5 + 3) (nI n)) 24 (be 2 * 5 + 4) (nI m)) 17 11 (nI (be 2 + 1))) 36 (44 + 5 * be 2) (nI p)) 36 (44 + 5 * be 2 + 1) (nI t)) 36 (44 + 5 * be 2 + 2) (nI s)) 36 (44 + 5 * be 2 + 3) (nI n)) 36 (44 + 5 * be 2 + 4) (nI m)) 36 2 (nI (be 2 + 1))) ?_ rfl ?_ rfl ?_ h.2.2.1 ?_ ?_ ?_ ?_
              · show f_X9_note M _ _ _ _ _ = _
                unfold f_X9_note
                try simp only [tlE]
                rw [p0, if_neg (by decide), p1, if_neg (by decide), p2, if_neg (by decide), p3, if_neg (by decide), p4, if_neg (by decide)]
                unfold f_X0_writeDown
                simp (disch := omega) only [c3, tlE, jnE, jn2E, jn3E, Option.bind_some, nI_add, pk_mul, pk_sub, nI_leI, nI_ltI, nI_eq, a_iN, w_iN, d_iN, r_iN, I_sIe, I_sIn, j_ckS, j_ckR, if_pos, if_neg, Nat.reduceAdd, Nat.reduceMul, Nat.zero_add, Nat.add_zero, i_2, i_3, i_4, i_5, i_6, i_7, i_8, i_9, i_10, i_15, i_16, i_20, i_21, i_22, i_23, i_30, i_32, i_37, i_40, i_44, i_47, i_48, i_57, i_59, i_60, i_74, i_90, i_96, i_97, i_122, i_127, i_150, i_154, i_200, i_250, i_427, i_500, i_600, i_999, i_1000000]
                simp (disch := omega) only [c3, tlE, jnE, jn2E, jn3E, Option.bind_some, nI_add, pk_mul, pk_sub, nI_leI, nI_ltI, nI_eq, a_iN, w_iN, d_iN, r_iN, I_sIe, I_sIn, j_ckS, j_ckR, if_pos, if_neg, Nat.reduceAdd, Nat.reduceMul, Nat.zero_add, Nat.add_zero, i_0, i_1, i_2, i_3, i_4, i_5, i_6, i_7, i_8, i_9, i_10, i_15, i_16, i_20, i_21, i_22, i_23, i_30, i_32, i_37, i_40, i_44, i_47, i_48, i_57, i_59, i_60, i_74, i_90, i_96, i_97, i_122, i_127, i_150, i_154, i_200, i_250, i_427, i_500, i_600, i_999, i_1000000]
              · show f_X10_note _ _ _ _ _ _ = _
                unfold f_X10_note
                try simp only [tlE]
                rw [isOne_eq (show j_I _ 36 0 = j_I M 36 0 by simp (disch := omega) only [I_sIe, I_sIn, I_cpe, I_cpn, up_e, up_n, rowOf_up, pasOf_up, Nat.reduceAdd]), q0, Option.bind_some, if_neg (by decide), q1, if_neg (by decide), q2, if_neg (by decide), q3, if_neg (by decide), q4, if_neg (by decide)]
                simp (disch := omega) only [hat, tlE, jnE, jn2E, jn3E, Option.bind_some, nI_add, pk_mul, pk_sub, nI_leI, nI_ltI, nI_eq, a_iN, w_iN, d_iN, r_iN, I_sIe, I_sIn, j_ckS, j_ckR, if_pos, if_neg, Nat.reduceAdd, Nat.reduceMul, Nat.zero_add, Nat.add_zero, i_0, i_1, i_2, i_3, i_4, i_5, i_6, i_7, i_8, i_9, i_10, i_15, i_16, i_20, i_21, i_22, i_23, i_30, i_32, i_37, i_40, i_44, i_47, i_48, i_57, i_59, i_60, i_74, i_90, i_96, i_97, i_122, i_127, i_150, i_154, i_200, i_250, i_427, i_500, i_600, i_999, i_1000000]
              · intro a k h1
                simp (disch := omega) only [I_sIe, I_sIn, I_cpe, I_cpn, up_e, up_n, rowOf_up, pasOf_up, Nat.reduceAdd]
              · exact tt.to (by simp (disch := omega) only [I_sIe, I_sIn, I_cpe, I_cpn, up_e, up_n, rowOf_up, pasOf_up, Nat.reduceAdd]) (by simp (disch := omega) only [I_sIe, I_sIn, I_cpe, I_cpn, up_e, up_n, rowOf_up, pasOf_up, Nat.reduceAdd]) (fun k => by simp (disch := omega) only [I_sIe, I_sIn, I_cpe, I_cpn, up_e, up_n, rowOf_up, pasOf_up, Nat.reduceAdd]) (fun k => by simp (disch := omega) only [I_sIe, I_sIn, I_cpe, I_cpn, up_e, up_n, rowOf_up, pasOf_up, Nat.reduceAdd])
              · unfold nt
                refine ⟨by simp (disch := omega) only [c1, I_sIe, I_sIn, I_cpe, I_cpn, up_e, up_n, rowOf_up, pasOf_up, Nat.reduceAdd], by simp (disch := omega) only [c2, I_sIe, I_sIn, I_cpe, I_cpn, up_e, up_n, rowOf_up, pasOf_up, Nat.reduceAdd], by simp (disch := omega) only [I_sIe, I_sIn, I_cpe, I_cpn, up_e, up_n, rowOf_up, pasOf_up, Nat.reduceAdd], fun l hl => ⟨by simp (disch := omega) only [(c4 l hl).1, I_sIe, I_sIn, I_cpe, I_cpn, up_e, up_n, rowOf_up, pasOf_up, Nat.reduceAdd], by simp (disch := omega) only [(c4 l hl).2, I_sIe, I_sIn, I_cpe, I_cpn, up_e, up_n, rowOf_up, pasOf_up, Nat.reduceAdd]⟩, fun q hq => ?_, fun k hk => by simp (disch := omega) only [cc6 k hk, I_sIe, I_sIn, I_cpe, I_cpn, up_e, up_n, rowOf_up, pasOf_up, Nat.reduceAdd], fun u hu k hk => ?_, fun i hi => ?_⟩
                · rw [up_n (by omega), up_n (by omega), up_n (by omega), up_n (by omega), up_n (by omega), up_n (by omega)] at hq
                  exact ⟨by simp (disch := omega) only [(c5 q hq).1, I_sIe, I_sIn, I_cpe, I_cpn, up_e, up_n, rowOf_up, pasOf_up, Nat.reduceAdd], by simp (disch := omega) only [(c5 q hq).2, I_sIe, I_sIn, I_cpe, I_cpn, up_e, up_n, rowOf_up, pasOf_up, Nat.reduceAdd]⟩
                · rw [up_n (by omega), up_n (by omega), up_n (by omega), up_n (by omega), up_n (by omega), up_n (by omega)] at hu
                  simp (disch := omega) only [c7 u hu k hk, I_sIe, I_sIn, I_cpe, I_cpn, up_e, up_n, rowOf_up, pasOf_up, Nat.reduceAdd]
                · rw [up_e rfl] at hi
                  by_cases e : i < 5 * be 2
                  · simp (disch := omega) only [c8 i e, I_sIe, I_sIn, I_cpe, I_cpn, up_e, up_n, rowOf_up, pasOf_up, Nat.reduceAdd]
                  · rcases (show i = 5 * be 2 ∨ i = 5 * be 2 + 1 ∨ i = 5 * be 2 + 2 ∨ i = 5 * be 2 + 3 ∨ i = 5 * be 2 + 4 by omega) with e | e | e | e | e <;> simp (disch := omega) only [I_sIe, I_sIn, I_cpe, I_cpn, up_e, up_n, rowOf_up, pasOf_up, Nat.reduceAdd]
              · intro k hk
                rw [Nat.zero_add]
                unfold nt
                by_cases e : k = 2 ∨ (44 + 5 * be 2 ≤ k ∧ k ≤ 44 + 5 * be 2 + 4)
                · rcases (show k = 2 ∨ k = 44 + 5 * be 2 ∨ k = 44 + 5 * be 2 + 1 ∨ k = 44 + 5 * be 2 + 2 ∨ k = 44 + 5 * be 2 + 3 ∨ k = 44 + 5 * be 2 + 4 by omega) with e | e | e | e | e | e <;> simp (disch := omega) only [I_sIe, I_sIn, I_cpe, I_cpn, up_e, up_n, rowOf_up, pasOf_up, Nat.reduceAdd]
                · simp (disch := omega) only [hat, I_sIe, I_sIn, I_cpe, I_cpn, up_e, up_n, rowOf_up, pasOf_up, Nat.reduceAdd]
              · have e : ∀ j, j ≠ 2 → (j < 44 + 5 * be 2 ∨ 74 ≤ j) → nt be p t s n m j = be j := fun j h1 h2 => by
                  unfold nt
                  rw [up_n (by omega), up_n (by omega), up_n (by omega), up_n (by omega), up_n (by omega), up_n (by omega)]
                obtain ⟨w1, w2, w3, w4, w5, w6, w7, w8, w9⟩ := b3
                have e2 : nt be p t s n m 2 = be 2 + 1 := by unfold nt; rw [up_e rfl]
                refine ⟨by rw [e 0 (by omega) (by omega)]; exact w1, by rw [e2]; omega, by rw [e 3 (by omega) (by omega)]; exact w3, by rw [e 8 (by omega) (by omega)]; exact w4, fun l hl => by rw [e _ (by omega) (by omega)]; exact w5 l hl, fun q hq => ?_, ?_, fun u hu => ?_, fun i hi => ?_⟩
                · rw [e 0 (by omega) (by omega)] at hq
                  rw [e _ (by omega) (by omega), e _ (by omega) (by omega)]; exact w6 q hq
                · rw [e 0 (by omega) (by omega), e 8 (by omega) (by omega), e 1 (by omega) (by omega)]
                  exact wr_congr w1 (fun k hk => e _ (by omega) (by omega)) w7
                · rw [e 3 (by omega) (by omega)] at hu
                  rw [e 0 (by omega) (by omega), e 8 (by omega) (by omega), e _ (by omega) (by omega)]
                  exact wr_congr w1 (fun k hk => e _ (by omega) (by omega)) (w8 u hu)
                · rw [e2] at hi
                  by_cases c : i < be 2
                  · rw [e _ (by omega) (by omega), e _ (by omega) (by omega), e _ (by omega) (by omega), e _ (by omega) (by omega), e _ (by omega) (by omega)]; exact w9 i c
                  · have hi' : i = be 2 := by omega
                    subst hi'
                    unfold nt
                    simp (disch := omega) only [I_sIe, I_sIn, I_cpe, I_cpn, up_e, up_n, rowOf_up, pasOf_up, Nat.reduceAdd]
                    omega
/-- how many there are of each -/
theorem e_openLanes {M : j_M} {be : Nat → Nat} (h : iB M 17 be) : f_X0_openLanes M 17 = some (nI (ct 4 (op be))) := by
  have key : ∀ d l fuel K, l + d = 4 → d < fuel → f_X0_openLanes_L4 fuel 17 M (nI (ct l (op be))) (nI l) K = K (nI (ct 4 (op be))) (nI 4) := by
    intro d
    induction d with
    | zero =>
      intro l fuel K h1 h2
      obtain ⟨fuel, rfl⟩ : ∃ f, fuel = f + 1 := ⟨fuel - 1, by omega⟩
      rw [f_X0_openLanes_L4, i_4, if_pos (nI_le (by omega) (by omega)), show l = 4 by omega]
    | succ d ih =>
      intro l fuel K h1 h2
      obtain ⟨fuel, rfl⟩ : ∃ f, fuel = f + 1 := ⟨fuel - 1, by omega⟩
      have ih' := ih (l + 1) fuel K (by omega) (by omega)
      rw [show ct (l + 1) (op be) = ct l (op be) + if op be l then 1 else 0 from rfl] at ih'
      rw [f_X0_openLanes_L4, i_4, if_neg (nI_ge (by omega) (by omega)), e_open9 h (by omega), Option.bind_some, nI_1]
      by_cases c : op be l = true
      · rw [if_pos c] at ih' ⊢
        rw [if_neg (by decide), nI_1]
        exact ih'
      · rw [if_neg c] at ih' ⊢
        rw [if_pos rfl]
        exact ih'
  unfold f_X0_openLanes
  have hj : 100000 < j_fu := by unfold j_fu; omega
  revert hj
  generalize j_fu = fu
  intro hj
  exact key 4 0 fu _ (by omega) (by omega)
def pcn : Nat → Nat → Nat
  | 0, _ => 0
  | f + 1, x => if x = 0 then 0 else x % 2 + pcn f (x / 2)
theorem e_bits {ρ : Type} (K : Int32 → Int32 → Option Int32) : ∀ f fuel a x, x < 2 ^ f → f ≤ 20 → f < fuel → f_X10_bits_L4 fuel (nI a) (nI x) K = K (nI (a + pcn f x)) (nI 0) := by
  intro f
  induction f with
  | zero =>
    intro fuel a x hx _ hf
    obtain ⟨fuel, rfl⟩ : ∃ f, fuel = f + 1 := ⟨fuel - 1, by omega⟩
    have : x = 0 := by omega
    subst this
    rw [f_X10_bits_L4, if_pos (show nI 0 ≤ 0 by decide)]
    rfl
  | succ f ih =>
    intro fuel a x hx hf20 hf
    obtain ⟨fuel, rfl⟩ : ∃ f, fuel = f + 1 := ⟨fuel - 1, by omega⟩
    have h20 : 2 ^ (f + 1) ≤ 2 ^ 20 := Nat.pow_le_pow_right (by decide) hf20
    by_cases c : x = 0
    · subst c
      rw [f_X10_bits_L4, if_pos (show nI 0 ≤ 0 by decide)]
      rfl
    · rw [f_X10_bits_L4, if_neg (nI_nle (by omega) (by omega)), pk_andN (by omega) 1 rfl, pk_shrN (by omega) _ 1 (by decide), nI_add, ih fuel _ (x / 2 ^ 1) (by rw [Nat.pow_succ] at hx; omega) (by omega) (by omega)]
      rw [show pcn (f + 1) x = if x = 0 then 0 else x % 2 + pcn f (x / 2) from rfl, if_neg c]
      rw [Nat.add_assoc]
theorem ct4_k : ∀ s, s < 16 → sm 4 (fun l => if decide (s / 2 ^ l % 2 = 0) then 1 else 0) = 4 - pcn 4 s ∧ pcn 4 s ≤ 4 := by decide +kernel
theorem e_lengths9 {M : j_M} {be : Nat → Nat} (h : iB M 17 be) (w : wf be) : f_X0_lengthsOfAll M 17 = some (nI (sm (be 0) (fun p => be (16 + p)))) := by
  have h7 := w.1
  have key : ∀ d p fuel K, p + d = be 0 → d < fuel → f_X0_lengthsOfAll_L4 fuel 17 M (nI (sm p (fun p => be (16 + p)))) (nI p) K = K (nI (sm (be 0) (fun p => be (16 + p)))) (nI (be 0)) := by
    intro d
    induction d with
    | zero =>
      intro p fuel K h1 h2
      obtain ⟨fuel, rfl⟩ : ∃ f, fuel = f + 1 := ⟨fuel - 1, by omega⟩
      rw [f_X0_lengthsOfAll_L4, h.1, if_pos (nI_le (by omega) (by omega)), show p = be 0 by omega]
    | succ d ih =>
      intro p fuel K h1 h2
      obtain ⟨fuel, rfl⟩ : ∃ f, fuel = f + 1 := ⟨fuel - 1, by omega⟩
      have r2 : j_I M (17 + 5) (8 + p) = nI (be (16 + p)) := by rw [h.2.2.2.2.2.1 _ (by omega)]; unfold rowOf; rw [if_neg (by omega), show 8 + (8 + p) = 16 + p by omega]
      rw [f_X0_lengthsOfAll_L4, h.1, if_neg (nI_ge (by omega) (by omega)), show (8 : Int32) + nI p = nI (8 + p) from nI_add 8 p, a_iN (by omega) (by omega), r2, nI_add, nI_1]
      exact ih (p + 1) fuel K (by omega) (by omega)
  unfold f_X0_lengthsOfAll
  have hj : 100000 < j_fu := by unfold j_fu; omega
  revert hj
  generalize j_fu = fu
  intro hj
  exact key (be 0) 0 fu _ (by omega) (by omega)
theorem e_lengths10 {M : j_M} {be : Nat → Nat} (h : iM M 36 0 be) (w : wf be) : f_X10_allLengths M = some (nI (sm (be 0) (fun p => be (16 + p)))) := by
  have h7 := w.1
  have key : ∀ d p fuel K, p + d = be 0 → d < fuel → f_X10_allLengths_L4 fuel M (nI (sm p (fun p => be (16 + p)))) (nI p) K = K (nI (sm (be 0) (fun p => be (16 + p)))) (nI (be 0)) := by
    intro d
    induction d with
    | zero =>
      intro p fuel K h1 h2
      obtain ⟨fuel, rfl⟩ : ∃ f, fuel = f + 1 := ⟨fuel - 1, by omega⟩
      rw [f_X10_allLengths_L4, e_many (h.at (by omega)), Option.bind_some, if_pos (nI_le (by omega) (by omega)), show p = be 0 by omega]
    | succ d ih =>
      intro p fuel K h1 h2
      obtain ⟨fuel, rfl⟩ : ∃ f, fuel = f + 1 := ⟨fuel - 1, by omega⟩
      rw [f_X10_allLengths_L4, e_many (h.at (by omega)), Option.bind_some, if_neg (nI_ge (by omega) (by omega)), show (16 : Int32) + nI p = nI (16 + p) from nI_add 16 p, a_iN (by omega) (by omega), h.at (by omega), nI_add, nI_1]
      exact ih (p + 1) fuel K (by omega) (by omega)
  unfold f_X10_allLengths
  have hj : 100000 < j_fu := by unfold j_fu; omega
  revert hj
  generalize j_fu = fu
  intro hj
  exact key (be 0) 0 fu _ (by omega) (by omega)
def cn (be : Nat → Nat) (z k : Nat) : Nat := if k = 0 then be 0 else if k = 1 then be 1 else if k = 2 then ct 4 (op be) else if k = 3 then sm (be 0) (fun p => be (16 + p)) else if k = 4 then be 2 else if k = 5 then be 3 else z
theorem e_howMany {M : j_M} {be ta : Nat → Nat} {z k : Nat} (h : iB M 17 be) (w : wf be) (t : iT M z ta) (hk : k < 7) : f_X9_howMany M (nI k) = some (nI (cn be z k)) := by
  unfold f_X9_howMany
  rcases (show k = 0 ∨ k = 1 ∨ k = 2 ∨ k = 3 ∨ k = 4 ∨ k = 5 ∨ k = 6 by omega) with rfl | rfl | rfl | rfl | rfl | rfl | rfl
  · rw [if_pos (show nI 0 = 0 from rfl), h.1]; rfl
  · rw [if_neg (by decide), if_pos (show nI 1 = 1 from rfl), i_0, a_iN (by omega) (by omega), h.2.2.2.2.2.1 0 (by omega)]; rfl
  · rw [if_neg (by decide), if_neg (by decide), if_pos (show nI 2 = 2 from rfl), e_openLanes h, Option.bind_some]; rfl
  · rw [if_neg (by decide), if_neg (by decide), if_neg (by decide), if_pos (show nI 3 = 3 from rfl), e_lengths9 h w, Option.bind_some]; rfl
  · rw [if_neg (by decide), if_neg (by decide), if_neg (by decide), if_neg (by decide), if_pos (show nI 4 = 4 from rfl), h.2.2.1]; rfl
  · rw [if_neg (by decide), if_neg (by decide), if_neg (by decide), if_neg (by decide), if_neg (by decide), if_pos (show nI 5 = 5 from rfl), h.2.1]; rfl
  · rw [if_neg (by decide), if_neg (by decide), if_neg (by decide), if_neg (by decide), if_neg (by decide), if_neg (by decide), t.2.1]; rfl
theorem e_counted {M : j_M} {be ta : Nat → Nat} {z k : Nat} (h : iM M 36 0 be) (w : wf be) (t : iT M z ta) (hk : k < 7) : f_X10_counted M (nI k) = some (nI (cn be z k)) := by
  unfold f_X10_counted
  rcases (show k = 0 ∨ k = 1 ∨ k = 2 ∨ k = 3 ∨ k = 4 ∨ k = 5 ∨ k = 6 by omega) with rfl | rfl | rfl | rfl | rfl | rfl | rfl
  · rw [if_pos (show nI 0 = 0 from rfl), e_many (h.at (by omega)), Option.bind_some]; rfl
  · rw [if_neg (by decide), if_pos (show nI 1 = 1 from rfl), i_1, a_iN (by omega) (by omega), h.at (by omega)]; rfl
  · rw [if_neg (by decide), if_neg (by decide), if_pos (show nI 2 = 2 from rfl), i_8, a_iN (by omega) (by omega), h.at (by omega)]
    have e4 := ct4_k (be 8) w.2.2.2.1
    have : f_X10_bits (nI (be 8)) = some (nI (pcn 4 (be 8))) := by
      unfold f_X10_bits
      have hj : 100000 < j_fu := by unfold j_fu; omega
      revert hj
      generalize j_fu = fu
      intro hj
      have := e_bits (ρ := Nat) (fun (y2 : Int32) (y3 : Int32) => (some y2)) 4 fu 0 (be 8) w.2.2.2.1 (by omega) (by omega)
      rw [Nat.zero_add] at this
      exact this
    rw [this, Option.bind_some, i_4, pk_sub e4.2, ← e4.1]
    rfl
  · rw [if_neg (by decide), if_neg (by decide), if_neg (by decide), if_pos (show nI 3 = 3 from rfl), e_lengths10 h w, Option.bind_some]; rfl
  · rw [if_neg (by decide), if_neg (by decide), if_neg (by decide), if_neg (by decide), if_pos (show nI 4 = 4 from rfl), i_2, a_iN (by omega) (by omega), h.at (by omega)]; rfl
  · rw [if_neg (by decide), if_neg (by decide), if_neg (by decide), if_neg (by decide), if_neg (by decide), if_pos (show nI 5 = 5 from rfl), i_3, a_iN (by omega) (by omega), h.at (by omega)]; rfl
  · rw [if_neg (by decide), if_neg (by decide), if_neg (by decide), if_neg (by decide), if_neg (by decide), if_neg (by decide), t.2.2.1]; rfl
theorem op_count (a1 : Int32) : lw_ok Inv (fun M => f_X9_count M a1) (fun M => f_X10_count M a1) := by
  refine okI (fun M h => ?_)
  obtain ⟨be, b1, b2, b3⟩ := h.2.2.2.2.1
  rcases rg (x := a1) (lo := 0) (hi := 6) (lo' := 0) (hi' := 6) 0 6 rfl rfl rfl rfl (by omega) (by omega) with ⟨p0, q0⟩ | ⟨k, m0, l0, rfl, p0, q0⟩
  · refine ok_ref h 0 (by omega) (v := ((-2) : Int32)) ?_ ?_
    · show f_X9_count M a1 = _
      unfold f_X9_count
      try simp only [tlE]
      rw [p0, if_pos rfl, bind_bad]
    · show f_X10_count _ a1 = _
      unfold f_X10_count
      try simp only [tlE]
      rw [q0, if_pos rfl, bind_bad10]
  · skip
    obtain ⟨z, ta, t⟩ := h.2.2.2.1
    refine ok_nb h (v := nI (cn be z k)) (M1 := M) (M2 := M) ?_ nb.rf ?_ nb.rf
    · show f_X9_count M _ = _
      unfold f_X9_count
      try simp only [tlE]
      rw [p0, if_neg (by decide)]
      rw [e_howMany b1 b3 t (by omega), Option.bind_some]
    · show f_X10_count M _ = _
      unfold f_X10_count
      try simp only [tlE]
      rw [q0, if_neg (by decide)]
      rw [e_counted b2 b3 t (by omega), Option.bind_some]
/-- digest -/
def fd (f : Int64 → Nat → Int64) : Nat → Int64 → Int64
  | 0, h => h
  | k + 1, h => f (fd f k h) k
def fA (be : Nat → Nat) (z : Nat) : Int64 → Nat → Int64 := fun h k => (31 : Int64) * h + (nI (cn be z k)).toInt64
def fB (be : Nat → Nat) : Int64 → Nat → Int64 := fun h l => (31 : Int64) * ((31 : Int64) * h + (nI (be (4 + l))).toInt64) + (nI (be 8 / 2 ^ l % 2)).toInt64
def fC (be : Nat → Nat) : Int64 → Nat → Int64 := fun h p => (31 : Int64) * ((31 : Int64) * ((31 : Int64) * ((31 : Int64) * ((31 : Int64) * h + (nI (be (30 + p))).toInt64) + (nI (be (37 + p))).toInt64) + (nI (be (9 + p))).toInt64) + (nI (be (16 + p))).toInt64) + (nI (be (23 + p))).toInt64
def fD (be : Nat → Nat) : Int64 → Nat → Int64 := fun h i => (31 : Int64) * h + (nI (be (44 + i))).toInt64
theorem op_digest : lw_dg Inv := by
  intro M h
  obtain ⟨z, ta, t⟩ := h.2.2.2.1
  obtain ⟨be, b1, b2, b3⟩ := h.2.2.2.2.1
  have h7 := b3.1
  have h6 := b3.2.1
  have hF := h.2.2.1
  have k1 : ∀ d x fuel h0 K, x + d = 7 → d < fuel → f_X9_digest_L6 fuel M (fd (fA be z) x h0) (nI x) K = K (fd (fA be z) 7 h0) (nI 7) := by
    intro d
    induction d with
    | zero =>
      intro x fuel h0 K h1 h2
      obtain ⟨fuel, rfl⟩ : ∃ f, fuel = f + 1 := ⟨fuel - 1, by omega⟩
      rw [f_X9_digest_L6, i_6, if_pos (nI_lt (by omega) (by omega)), show x = 7 by omega]
    | succ d ih =>
      intro x fuel h0 K h1 h2
      obtain ⟨fuel, rfl⟩ : ∃ f, fuel = f + 1 := ⟨fuel - 1, by omega⟩
      rw [f_X9_digest_L6, i_6, if_neg (nI_nlt (by omega) (by omega)), e_howMany b1 b3 t (by omega), Option.bind_some, nI_1]
      exact ih (x + 1) fuel h0 K (by omega) (by omega)
  have k2 : ∀ d x fuel h0 K, x + d = 4 → d < fuel → f_X0_digestFrom_L5 fuel 17 M (fd (fB be) x h0) (nI x) K = K (fd (fB be) 4 h0) (nI 4) := by
    intro d
    induction d with
    | zero =>
      intro x fuel h0 K h1 h2
      obtain ⟨fuel, rfl⟩ : ∃ f, fuel = f + 1 := ⟨fuel - 1, by omega⟩
      rw [f_X0_digestFrom_L5, i_4, if_pos (nI_le (by omega) (by omega)), show x = 4 by omega]
    | succ d ih =>
      intro x fuel h0 K h1 h2
      obtain ⟨fuel, rfl⟩ : ∃ f, fuel = f + 1 := ⟨fuel - 1, by omega⟩
      rw [f_X0_digestFrom_L5, i_4, if_neg (nI_ge (by omega) (by omega)), a_iN (by omega) (by omega), a_iN (by omega) (by omega), (b1.2.2.2.1 x (by omega)).1, (b1.2.2.2.1 x (by omega)).2, nI_1]
      exact ih (x + 1) fuel h0 K (by omega) (by omega)
  have k3 : ∀ d x fuel h0 K, x + d = be 0 → d < fuel → f_X0_digestFrom_L50 fuel 17 M (fd (fC be) x h0) (nI x) K = K (fd (fC be) (be 0) h0) (nI (be 0)) := by
    intro d
    induction d with
    | zero =>
      intro x fuel h0 K h1 h2
      obtain ⟨fuel, rfl⟩ : ∃ f, fuel = f + 1 := ⟨fuel - 1, by omega⟩
      rw [f_X0_digestFrom_L50, b1.1, if_pos (nI_le (by omega) (by omega)), show x = be 0 by omega]
    | succ d ih =>
      intro x fuel h0 K h1 h2
      obtain ⟨fuel, rfl⟩ : ∃ f, fuel = f + 1 := ⟨fuel - 1, by omega⟩
      have hro : ∀ k, 0 < k → k < 22 → j_I M (17 + 5) k = nI (be (8 + k)) := fun k h0 hk => by rw [b1.2.2.2.2.2.1 k hk]; unfold rowOf; rw [if_neg (by omega)]
      have hk := b1.2.2.2.2.1 x (by omega)
      rw [f_X0_digestFrom_L50, b1.1, if_neg (nI_ge (by omega) (by omega)), a_iN (by omega) (by omega), a_iN (by omega) (by omega), show (1 : Int32) + nI x = nI (1 + x) from nI_add 1 x, a_iN (by omega) (by omega), show (8 : Int32) + nI x = nI (8 + x) from nI_add 8 x, a_iN (by omega) (by omega), show (15 : Int32) + nI x = nI (15 + x) from nI_add 15 x, a_iN (by omega) (by omega), hk.1, hk.2, hro (1 + x) (by omega) (by omega), hro (8 + x) (by omega) (by omega), hro (15 + x) (by omega) (by omega), nI_1, show 8 + (1 + x) = 9 + x by omega, show 8 + (8 + x) = 16 + x by omega, show 8 + (15 + x) = 23 + x by omega]
      exact ih (x + 1) fuel h0 K (by omega) (by omega)
  have k4 : ∀ d x fuel h0 K, x + d = 5 * be 2 → d < fuel → f_X0_digestFrom_L151 fuel 17 M (fd (fD be) x h0) (nI x) K = K (fd (fD be) (5 * be 2) h0) (nI (5 * be 2)) := by
    intro d
    induction d with
    | zero =>
      intro x fuel h0 K h1 h2
      obtain ⟨fuel, rfl⟩ : ∃ f, fuel = f + 1 := ⟨fuel - 1, by omega⟩
      rw [f_X0_digestFrom_L151, b1.2.2.1, i_5, pk_mul, if_pos (nI_le (by omega) (by omega)), show x = 5 * be 2 by omega]
    | succ d ih =>
      intro x fuel h0 K h1 h2
      obtain ⟨fuel, rfl⟩ : ∃ f, fuel = f + 1 := ⟨fuel - 1, by omega⟩
      rw [f_X0_digestFrom_L151, b1.2.2.1, i_5, pk_mul, if_neg (nI_ge (by omega) (by omega)), a_iN (by omega) (by omega), b1.2.2.2.2.2.2.2 x (by omega), nI_1]
      exact ih (x + 1) fuel h0 K (by omega) (by omega)
  have m1 : ∀ d x fuel h0 K, x + d = 7 → d < fuel → f_X10_digest_L6 fuel M (fd (fA be z) x h0) (nI x) K = K (fd (fA be z) 7 h0) (nI 7) := by
    intro d
    induction d with
    | zero =>
      intro x fuel h0 K h1 h2
      obtain ⟨fuel, rfl⟩ : ∃ f, fuel = f + 1 := ⟨fuel - 1, by omega⟩
      rw [f_X10_digest_L6, i_7, if_pos (nI_le (by omega) (by omega)), show x = 7 by omega]
    | succ d ih =>
      intro x fuel h0 K h1 h2
      obtain ⟨fuel, rfl⟩ : ∃ f, fuel = f + 1 := ⟨fuel - 1, by omega⟩
      rw [f_X10_digest_L6, i_7, if_neg (nI_ge (by omega) (by omega)), e_counted b2 b3 t (by omega), Option.bind_some, nI_1]
      exact ih (x + 1) fuel h0 K (by omega) (by omega)
  have m2 : ∀ d x fuel h0 K, x + d = 4 → d < fuel → f_X10_digest_L33 fuel M (fd (fB be) x h0) (nI x) K = K (fd (fB be) 4 h0) (nI 4) := by
    intro d
    induction d with
    | zero =>
      intro x fuel h0 K h1 h2
      obtain ⟨fuel, rfl⟩ : ∃ f, fuel = f + 1 := ⟨fuel - 1, by omega⟩
      rw [f_X10_digest_L33, i_4, if_pos (nI_le (by omega) (by omega)), show x = 4 by omega]
    | succ d ih =>
      intro x fuel h0 K h1 h2
      obtain ⟨fuel, rfl⟩ : ∃ f, fuel = f + 1 := ⟨fuel - 1, by omega⟩
      rw [f_X10_digest_L33, i_4, if_neg (nI_ge (by omega) (by omega)), nI_add, a_iN (by omega) (by omega), i_8, a_iN (by omega) (by omega), b2.at (by omega), b2.at (by omega), shr_k _ b3.2.2.2.1 x (by omega), nI_1]
      exact ih (x + 1) fuel h0 K (by omega) (by omega)
  have m3 : ∀ d x fuel h0 K, x + d = be 0 → d < fuel → f_X10_digest_L79 fuel M (fd (fC be) x h0) (nI x) K = K (fd (fC be) (be 0) h0) (nI (be 0)) := by
    intro d
    induction d with
    | zero =>
      intro x fuel h0 K h1 h2
      obtain ⟨fuel, rfl⟩ : ∃ f, fuel = f + 1 := ⟨fuel - 1, by omega⟩
      rw [f_X10_digest_L79, e_many (b2.at (by omega)), Option.bind_some, if_pos (nI_le (by omega) (by omega)), show x = be 0 by omega]
    | succ d ih =>
      intro x fuel h0 K h1 h2
      obtain ⟨fuel, rfl⟩ : ∃ f, fuel = f + 1 := ⟨fuel - 1, by omega⟩
      rw [f_X10_digest_L79, e_many (b2.at (by omega)), Option.bind_some, if_neg (nI_ge (by omega) (by omega)), i_30, nI_add, a_iN (by omega) (by omega), i_37, nI_add, a_iN (by omega) (by omega), i_9, nI_add, a_iN (by omega) (by omega), i_16, nI_add, a_iN (by omega) (by omega), i_23, nI_add, a_iN (by omega) (by omega), b2.at (by omega), b2.at (by omega), b2.at (by omega), b2.at (by omega), b2.at (by omega), nI_1]
      exact ih (x + 1) fuel h0 K (by omega) (by omega)
  have m4 : ∀ d x fuel h0 K, x + d = 5 * be 2 → d < fuel → f_X10_sums_L6 fuel M (nI 44) (nI (5 * be 2)) (fd (fD be) x h0) (nI x) K = K (fd (fD be) (5 * be 2) h0) (nI (5 * be 2)) := by
    intro d
    induction d with
    | zero =>
      intro x fuel h0 K h1 h2
      obtain ⟨fuel, rfl⟩ : ∃ f, fuel = f + 1 := ⟨fuel - 1, by omega⟩
      rw [f_X10_sums_L6, if_pos (nI_le (by omega) (by omega)), show x = 5 * be 2 by omega]
    | succ d ih =>
      intro x fuel h0 K h1 h2
      obtain ⟨fuel, rfl⟩ : ∃ f, fuel = f + 1 := ⟨fuel - 1, by omega⟩
      rw [f_X10_sums_L6, if_neg (nI_ge (by omega) (by omega)), nI_add, a_iN (by omega) (by omega), b2.at (by omega), nI_1]
      exact ih (x + 1) fuel h0 K (by omega) (by omega)
  refine ⟨(31 : Int64) * ((31 : Int64) * fd (fD be) (5 * be 2) (fd (fC be) (be 0) (fd (fB be) 4 (fd (fA be z) 7 1279))) + j_L M 0 7) + j_L M 0 8, ?_, ?_⟩
  · unfold f_X9_digest f_X0_digestFrom
    have hj : 100000 < j_fu := by unfold j_fu; omega
    revert hj
    generalize j_fu = fu
    intro hj
    have e1 := fun K => k1 7 0 fu 1279 K (by omega) (by omega)
    have e2 := fun h0 K => k2 4 0 fu h0 K (by omega) (by omega)
    have e3 := fun h0 K => k3 (be 0) 0 fu h0 K (by omega) (by omega)
    have e4 := fun h0 K => k4 (5 * be 2) 0 fu h0 K (by omega) (by omega)
    simp only [fd] at e1 e2 e3 e4
    rw [i_0, e1, e2, e3, e4, Option.bind_some]
    rfl
  · unfold f_X10_digest f_X10_sums
    have hj : 100000 < j_fu := by unfold j_fu; omega
    revert hj
    generalize j_fu = fu
    intro hj
    have e1 := fun K => m1 7 0 fu 1279 K (by omega) (by omega)
    have e2 := fun h0 K => m2 4 0 fu h0 K (by omega) (by omega)
    have e3 := fun h0 K => m3 (be 0) 0 fu h0 K (by omega) (by omega)
    have e4 := fun h0 K => m4 (5 * be 2) 0 fu h0 K (by omega) (by omega)
    simp only [fd] at e1 e2 e3 e4
    rw [i_0, e1, e2, e3, i_2, a_iN (by omega) (by omega), b2.at (by omega), i_5, pk_mul, i_44, e4, Option.bind_some, hF.1, hF.2]
    rfl
