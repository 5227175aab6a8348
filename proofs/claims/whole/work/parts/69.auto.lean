/-! rules to reckon with -/
theorem i_96 : (96 : Int32) = nI 96 := rfl
theorem i_154 : (154 : Int32) = nI 154 := rfl
theorem I_sIe {M : j_M} {a k b j : Nat} {v : Int32} (h : b = a ∧ j = k) : j_I (j_sI M a k v) b j = v := by rw [I_sI, if_pos h]
theorem I_sIn {M : j_M} {a k b j : Nat} {v : Int32} (h : ¬ (b = a ∧ j = k)) : j_I (j_sI M a k v) b j = j_I M b j := by rw [I_sI, if_neg h]
section
variable {ρ : Type}
theorem j_ckS {M M' : j_M} {a k : Nat} {v : Int32} {K : Option ρ} : j_ck M (j_sI M' a k v) K = j_ck M M' K := rfl
theorem j_ckL {M M' : j_M} {a k : Nat} {v : Int64} {K : Option ρ} : j_ck M (j_sL M' a k v) K = j_ck M M' K := rfl
theorem j_ckC {M M' : j_M} {a k b j n : Nat} {K : Option ρ} : j_ck M (j_cp M' a k b j n) K = j_ck M M' K := rfl
theorem j_ckR {M : j_M} {K : Option ρ} : j_ck M M K = K := j_ckE rfl
end
theorem jnI {α β : Type} {k : α → β} {f : (α → β) → β} {v : α} (h : ∀ K, f K = K v) : jn k f = k v := h k
theorem jn2I {α β γ : Type} {k : α → γ → β} {f : (α → γ → β) → β} {v : α} {w : γ} (h : ∀ K, f K = K v w) : jn2 k f = k v w := h k
theorem I_cpe {M : j_M} {sa sp da dp n b j : Nat} (h : b = da ∧ dp ≤ j ∧ j < dp + n) : j_I (j_cp M sa sp da dp n) b j = j_I M sa (sp + (j - dp)) := by rw [I_cp, if_pos h]
theorem I_cpn {M : j_M} {sa sp da dp n b j : Nat} (h : ¬ (b = da ∧ dp ≤ j ∧ j < dp + n)) : j_I (j_cp M sa sp da dp n) b j = j_I M b j := by rw [I_cp, if_neg h]
theorem c_iN {ρ : Type} {M : j_M} {sa n0 sp da n1 dp n : Nat} {k : j_M → Option ρ} (h0 : sp + n ≤ n0) (h1 : dp + n ≤ n1) (h2 : n0 < 2 ^ 31) (h3 : n1 < 2 ^ 31) : c_i M sa n0 (nI sp) da n1 (nI dp) (nI n) k = k (j_cp M sa sp da dp n) := by
  unfold c_i
  rw [nI_clamp (by omega), nI_clamp (by omega), nI_clamp (by omega), if_neg]
  rintro ((h | h | h) | h | h)
  · exact nI_pos (by omega) h
  · exact nI_pos (by omega) h
  · exact nI_pos (by omega) h
  · omega
  · omega
theorem cp_0 {M : j_M} {sa sp da dp : Nat} : j_cp M sa sp da dp 0 = M := by
  refine Prod.ext ?_ rfl
  funext b j
  show (if b = da ∧ dp ≤ j ∧ j < dp + 0 then M.1 sa (sp + (j - dp)) else M.1 b j) = M.1 b j
  rw [if_neg (by omega)]
theorem cp_set {M : j_M} {sa sp da dp k : Nat} : j_sI (j_cp M sa sp da dp k) da (dp + k) (j_I M sa (sp + k)) = j_cp M sa sp da dp (k + 1) := by
  refine Prod.ext ?_ rfl
  funext b j
  show (if b = da ∧ j = dp + k then M.1 sa (sp + k) else if b = da ∧ dp ≤ j ∧ j < dp + k then M.1 sa (sp + (j - dp)) else M.1 b j) = if b = da ∧ dp ≤ j ∧ j < dp + (k + 1) then M.1 sa (sp + (j - dp)) else M.1 b j
  by_cases h : b = da
  · by_cases e : j = dp + k
    · rw [if_pos ⟨h, e⟩, if_pos ⟨h, by omega, by omega⟩, show sp + (j - dp) = sp + k by omega]
    · rw [if_neg (fun q => e q.2)]
      by_cases c : dp ≤ j ∧ j < dp + k
      · rw [if_pos ⟨h, c⟩, if_pos ⟨h, by omega, by omega⟩]
      · rw [if_neg (fun q => c q.2), if_neg (by omega)]
  · rw [if_neg (fun q => h q.1), if_neg (fun q => h q.1), if_neg (fun q => h q.1)]
theorem up_e {be : Nat → Nat} {k v j : Nat} (h : j = k) : up be k v j = v := if_pos h
theorem rowOf_up {be : Nat → Nat} {j v k : Nat} (h : j ≠ 1) (h2 : j < 9 ∨ 30 ≤ j) (hk : k < 22) : rowOf (up be j v) k = rowOf be k := by
  unfold rowOf
  split
  · rw [up_n (by omega)]
  · rw [up_n (by omega)]
theorem pasOf_up {be : Nat → Nat} {j v u k : Nat} (h : j < 74) : pasOf (up be j v) u k = pasOf be u k := by
  unfold pasOf
  split
  · rw [up_n (by omega)]
  · rename_i h0
    rw [up_n (by omega)]
theorem wr_congr {n sh mi : Nat} {f g : Nat → Nat} (hn : n ≤ 7) (h : ∀ k, k < 21 → g k = f k) (w : wr n sh mi f) : wr n sh mi g := by
  obtain ⟨w1, w2, w3, w4⟩ := w
  refine ⟨w1, fun p hp => ?_, fun p hp => ?_, fun p h1 hp => ?_⟩
  · rw [h p (by omega), h (7 + p) (by omega), h (14 + p) (by omega)]; exact w2 p hp
  · rw [h p (by omega)]; exact w3 p hp
  · rw [h (7 + p) (by omega), h (14 + p) (by omega)]; exact w4 p h1 hp
theorem iT.to {M M' : j_M} {z : Nat} {ta : Nat → Nat} (t : iT M z ta) (h1 : j_I M' 7 1 = j_I M 7 1) (h2 : j_I M' 35 19 = j_I M 35 19) (h3 : ∀ k, j_I M' 8 k = j_I M 8 k) (h4 : ∀ k, j_I M' 48 k = j_I M 48 k) : iT M' z ta := by
  obtain ⟨t1, t2, t3, t4⟩ := t
  refine ⟨t1, by rw [h1]; exact t2, by rw [h2]; exact t3, fun k hk => ?_⟩
  rw [h3, h4]
  exact t4 k hk
/-- whatever happened to the bath, the text and the scratch -/
theorem Inv.gen {M M2 : j_M} {be' : Nat → Nat} {z : Nat} {ta : Nat → Nat} (h : Inv M) (hs : M2.2.2 = M.2.2) (hI : ∀ a k, a = 0 ∨ (37 ≤ a ∧ a ≤ 39) ∨ 51 ≤ a → j_I M2 a k = j_I M a k) (hL : iF M2) (t : iT M2 z ta) (b1 : iB M2 17 be') (b2 : iM M2 36 0 be') (b3 : wf be') : Inv M2 := by
  obtain ⟨⟨a1, a2, a3, a4⟩, c, f, -, -, g0, g1⟩ := h
  have hR : ∀ a k, j_R M2 a k = j_R M a k := fun a k => by show M2.2.2.1 a k = _; rw [hs]; rfl
  have hN : j_N M2 = j_N M := by show M2.2.2.2.2 = _; rw [hs]; rfl
  have hG : ∀ i, iG M i → iG M2 i := fun i g => by
    rcases g with ⟨h1, h2⟩ | ⟨b, be, h0, hb, h1, h2, h3, h4, h5⟩
    · exact Or.inl ⟨by rw [hR]; exact h1, by rw [hI _ _ (by omega)]; exact h2⟩
    · exact Or.inr ⟨b, be, h0, by rw [hN]; exact hb, by rw [hR]; exact h1, by rw [hI _ _ (by omega)]; exact h2, h3.to (fun a k _ _ => hI a k (by omega)), fun k hk => by rw [hI _ _ (by omega)]; exact h4 k hk, h5⟩
  refine ⟨⟨by rw [hs]; exact a1, by rw [hs]; exact a2, by rw [hs]; exact a3, ?_⟩, ?_, hL, ⟨z, ta, t⟩, ⟨be', b1, b2, b3⟩, hG 0 g0, hG 1 g1⟩
  · unfold iN
    simp only [hR, hN]
    exact a4
  · unfold iC
    rw [hI 0 9 (by omega), hI 0 10 (by omega), hI 0 11 (by omega), hI 39 0 (by omega), hI 39 1 (by omega), hI 39 2 (by omega)]
    exact c
theorem ok_gen {α : Type} {f9 f10 : j_M → Option (α × j_M)} {M M1 M2 : j_M} {be' : Nat → Nat} {z : Nat} {ta : Nat → Nat} (h : Inv M) {v : α} (e9 : f9 M = some (v, M1)) (s1 : M1.2.2 = M.2.2) (e10 : f10 M1 = some (v, M2)) (s2 : M2.2.2 = M1.2.2) (hI : ∀ a k, a = 0 ∨ (37 ≤ a ∧ a ≤ 39) ∨ 51 ≤ a → j_I M2 a k = j_I M a k) (hL : iF M2) (t : iT M2 z ta) (b1 : iB M2 17 be') (b2 : iM M2 36 0 be') (b3 : wf be') : okA f9 f10 M :=
  ⟨v, M1, M2, e9, by rw [s1]; exact h.1.2.1, e10, h.gen (s2.trans s1) hI hL t b1 b2 b3, by show M2.2.2.2.2 = M.2.2.2.2; rw [s2, s1]⟩
theorem op_clear : lw_ok Inv (fun M => f_X9_clear M) (fun M => f_X10_clear M) := by
  refine okI (fun M h => ?_)
  obtain ⟨z, ta, t1, t2, t3, t4⟩ := h.2.2.2.1
  obtain ⟨be, b1, b2, b3⟩ := h.2.2.2.2.1
  refine ok_gen (be' := be) (z := 0) (ta := ta) h (v := nI z) (M1 := j_sI M 7 1 (nI 0)) (M2 := j_sI (j_sI M 7 1 (nI 0)) 35 19 (nI 0)) ?_ rfl ?_ rfl ?_ h.2.2.1 ?_ ?_ ?_ b3
  · show f_X9_clear M = _
    unfold f_X9_clear
    simp (disch := omega) only [t2, tlE, jnE, jn2E, jn3E, Option.bind_some, nI_add, pk_mul, pk_sub, nI_leI, nI_ltI, nI_eq, a_iN, w_iN, d_iN, r_iN, I_sIe, I_sIn, j_ckS, j_ckR, if_pos, if_neg, Nat.reduceAdd, Nat.reduceMul, Nat.zero_add, Nat.add_zero, i_0, i_1, i_2, i_3, i_4, i_5, i_6, i_7, i_8, i_9, i_10, i_15, i_16, i_20, i_21, i_22, i_23, i_30, i_32, i_37, i_40, i_44, i_47, i_48, i_57, i_59, i_60, i_74, i_90, i_96, i_97, i_122, i_127, i_150, i_154, i_200, i_250, i_427, i_500, i_600, i_999, i_1000000]
  · show f_X10_clear _ = _
    unfold f_X10_clear
    simp (disch := omega) only [t3, tlE, jnE, jn2E, jn3E, Option.bind_some, nI_add, pk_mul, pk_sub, nI_leI, nI_ltI, nI_eq, a_iN, w_iN, d_iN, r_iN, I_sIe, I_sIn, j_ckS, j_ckR, if_pos, if_neg, Nat.reduceAdd, Nat.reduceMul, Nat.zero_add, Nat.add_zero, i_0, i_1, i_2, i_3, i_4, i_5, i_6, i_7, i_8, i_9, i_10, i_15, i_16, i_20, i_21, i_22, i_23, i_30, i_32, i_37, i_40, i_44, i_47, i_48, i_57, i_59, i_60, i_74, i_90, i_96, i_97, i_122, i_127, i_150, i_154, i_200, i_250, i_427, i_500, i_600, i_999, i_1000000]
  · intro a k h1
    rw [I_sIn (by omega), I_sIn (by omega)]
  · refine ⟨by omega, ?_, ?_, fun k hk => by omega⟩
    · rw [I_sIn (by omega), I_sIe (by omega)]
    · rw [I_sIe (by omega)]
  · exact b1.to (fun a k _ _ => by rw [I_sIn (by omega), I_sIn (by omega)])
  · intro k hk
    rw [I_sIn (by omega), I_sIn (by omega)]
    exact b2 k hk
theorem op_forget : lw_ok Inv (fun M => f_X9_forget M) (fun M => f_X10_forget M) := by
  refine okI (fun M h => ?_)
  obtain ⟨z, ta, t⟩ := h.2.2.2.1
  obtain ⟨be, b1, b2, b3⟩ := h.2.2.2.2.1
  obtain ⟨c1, c2, c3, c4, c5, c6, c7, c8⟩ := b1
  refine ok_gen (be' := up be 2 0) (z := z) (ta := ta) h (v := nI (be 2)) (M1 := j_sI M 17 11 (nI 0)) (M2 := j_sI (j_sI M 17 11 (nI 0)) 36 2 (nI 0)) ?_ rfl ?_ rfl ?_ h.2.2.1 ?_ ?_ ?_ ?_
  · show f_X9_forget M = _
    unfold f_X9_forget
    simp (disch := omega) only [c3, tlE, jnE, jn2E, jn3E, Option.bind_some, nI_add, pk_mul, pk_sub, nI_leI, nI_ltI, nI_eq, a_iN, w_iN, d_iN, r_iN, I_sIe, I_sIn, j_ckS, j_ckR, if_pos, if_neg, Nat.reduceAdd, Nat.reduceMul, Nat.zero_add, Nat.add_zero, i_0, i_1, i_2, i_3, i_4, i_5, i_6, i_7, i_8, i_9, i_10, i_15, i_16, i_20, i_21, i_22, i_23, i_30, i_32, i_37, i_40, i_44, i_47, i_48, i_57, i_59, i_60, i_74, i_90, i_96, i_97, i_122, i_127, i_150, i_154, i_200, i_250, i_427, i_500, i_600, i_999, i_1000000]
  · show f_X10_forget _ = _
    unfold f_X10_forget
    have := b2.at (k := 2) (by omega)
    simp (disch := omega) only [this, tlE, jnE, jn2E, jn3E, Option.bind_some, nI_add, pk_mul, pk_sub, nI_leI, nI_ltI, nI_eq, a_iN, w_iN, d_iN, r_iN, I_sIe, I_sIn, j_ckS, j_ckR, if_pos, if_neg, Nat.reduceAdd, Nat.reduceMul, Nat.zero_add, Nat.add_zero, i_0, i_1, i_2, i_3, i_4, i_5, i_6, i_7, i_8, i_9, i_10, i_15, i_16, i_20, i_21, i_22, i_23, i_30, i_32, i_37, i_40, i_44, i_47, i_48, i_57, i_59, i_60, i_74, i_90, i_96, i_97, i_122, i_127, i_150, i_154, i_200, i_250, i_427, i_500, i_600, i_999, i_1000000]
  · intro a k h1
    rw [I_sIn (by omega), I_sIn (by omega)]
  · exact t.to (by rw [I_sIn (by omega), I_sIn (by omega)]) (by rw [I_sIn (by omega), I_sIn (by omega)]) (fun k => by rw [I_sIn (by omega), I_sIn (by omega)]) (fun k => by rw [I_sIn (by omega), I_sIn (by omega)])
  · refine ⟨by simp (disch := omega) only [c1, I_sIe, I_sIn, I_cpe, I_cpn, up_e, up_n, rowOf_up, pasOf_up, Nat.reduceAdd], by simp (disch := omega) only [c2, I_sIe, I_sIn, I_cpe, I_cpn, up_e, up_n, rowOf_up, pasOf_up, Nat.reduceAdd], by simp (disch := omega) only [c3, I_sIe, I_sIn, I_cpe, I_cpn, up_e, up_n, rowOf_up, pasOf_up, Nat.reduceAdd], fun l hl => ⟨by simp (disch := omega) only [(c4 l hl).1, I_sIe, I_sIn, I_cpe, I_cpn, up_e, up_n, rowOf_up, pasOf_up, Nat.reduceAdd], by simp (disch := omega) only [(c4 l hl).2, I_sIe, I_sIn, I_cpe, I_cpn, up_e, up_n, rowOf_up, pasOf_up, Nat.reduceAdd]⟩, fun p hp => ?_, fun k hk => by simp (disch := omega) only [c6 k hk, I_sIe, I_sIn, I_cpe, I_cpn, up_e, up_n, rowOf_up, pasOf_up, Nat.reduceAdd], fun u hu k hk => ?_, fun i hi => ?_⟩
    · rw [up_n (by omega)] at hp
      exact ⟨by simp (disch := omega) only [(c5 p hp).1, I_sIe, I_sIn, I_cpe, I_cpn, up_e, up_n, rowOf_up, pasOf_up, Nat.reduceAdd], by simp (disch := omega) only [(c5 p hp).2, I_sIe, I_sIn, I_cpe, I_cpn, up_e, up_n, rowOf_up, pasOf_up, Nat.reduceAdd]⟩
    · rw [up_n (by omega)] at hu
      simp (disch := omega) only [c7 u hu k hk, I_sIe, I_sIn, I_cpe, I_cpn, up_e, up_n, rowOf_up, pasOf_up, Nat.reduceAdd]
    · rw [up_e rfl] at hi
      omega
  · intro k hk
    rw [Nat.zero_add]
    by_cases e : k = 2
    · simp (disch := omega) only [I_sIe, I_sIn, I_cpe, I_cpn, up_e, up_n, rowOf_up, pasOf_up, Nat.reduceAdd]
    · simp (disch := omega) only [b2.at hk, I_sIe, I_sIn, I_cpe, I_cpn, up_e, up_n, rowOf_up, pasOf_up, Nat.reduceAdd]
  · obtain ⟨w1, w2, w3, w4, w5, w6, w7, w8, w9⟩ := b3
    refine ⟨by simp (disch := omega) only [I_sIe, I_sIn, I_cpe, I_cpn, up_e, up_n, rowOf_up, pasOf_up, Nat.reduceAdd]; exact w1, by simp (disch := omega) only [I_sIe, I_sIn, I_cpe, I_cpn, up_e, up_n, rowOf_up, pasOf_up, Nat.reduceAdd]; omega, by simp (disch := omega) only [I_sIe, I_sIn, I_cpe, I_cpn, up_e, up_n, rowOf_up, pasOf_up, Nat.reduceAdd]; exact w3, by simp (disch := omega) only [I_sIe, I_sIn, I_cpe, I_cpn, up_e, up_n, rowOf_up, pasOf_up, Nat.reduceAdd]; exact w4, fun l hl => by simp (disch := omega) only [I_sIe, I_sIn, I_cpe, I_cpn, up_e, up_n, rowOf_up, pasOf_up, Nat.reduceAdd]; exact w5 l hl, fun p hp => ?_, ?_, fun u hu => ?_, fun i hi => ?_⟩
    · rw [up_n (by omega)] at hp
      simp (disch := omega) only [I_sIe, I_sIn, I_cpe, I_cpn, up_e, up_n, rowOf_up, pasOf_up, Nat.reduceAdd]; exact w6 p hp
    · rw [up_n (by omega), up_n (by omega), up_n (by omega)]
      exact wr_congr w1 (fun k hk => up_n (by omega)) w7
    · rw [up_n (by omega)] at hu
      rw [up_n (by omega), up_n (by omega), up_n (by omega)]
      exact wr_congr w1 (fun k hk => up_n (by omega)) (w8 u hu)
    · rw [up_e rfl] at hi
      omega
