/-! the ops, the plain ones -/
def okA {α : Type} (f9 f10 : j_M → Option (α × j_M)) (M : j_M) : Prop := ∃ r M1 M2, f9 M = some (r, M1) ∧ sh_m M1.2.2 ∧ f10 M1 = some (r, M2) ∧ Inv M2 ∧ j_N M2 = j_N M
theorem okI {α : Type} {f9 f10 : j_M → Option (α × j_M)} (h : ∀ M, Inv M → okA f9 f10 M) : lw_ok Inv f9 f10 := h
theorem ok_ref {α : Type} {f9 f10 : j_M → Option (α × j_M)} {M : j_M} (h : Inv M) (k : Nat) (hk : k < 3) {v : α} (e9 : f9 M = some (v, j_sI M 0 (9 + k) (j_I M 0 (9 + k) + 1))) (e10 : f10 (j_sI M 0 (9 + k) (j_I M 0 (9 + k) + 1)) = some (v, j_sI (j_sI M 0 (9 + k) (j_I M 0 (9 + k) + 1)) 39 k (j_I (j_sI M 0 (9 + k) (j_I M 0 (9 + k) + 1)) 39 k + 1))) : okA f9 f10 M :=
  ⟨v, _, _, e9, h.1.2.1, e10, h.ref hk, rfl⟩
theorem ok_nb {α : Type} {f9 f10 : j_M → Option (α × j_M)} {M M1 M2 : j_M} (h : Inv M) {v : α} (e9 : f9 M = some (v, M1)) (n1 : nb M M1) (e10 : f10 M1 = some (v, M2)) (n2 : nb M1 M2) : okA f9 f10 M :=
  ⟨v, M1, M2, e9, by rw [n1.2.2]; exact h.1.2.1, e10, h.nb (n1.tr n2), by show M2.2.2.2.2 = M.2.2.2.2; rw [n2.2.2, n1.2.2]⟩
theorem bind_bad {M : j_M} : ((f_X9_bad M).bind fun q => j_ck M q.2 (some (q.1, q.2))) = some (-2, j_sI M 0 (9 + 0) (j_I M 0 (9 + 0) + 1)) := by
  rw [e_bad, Option.bind_some, j_ckE (by rfl)]
theorem bind_no {M : j_M} : ((f_X9_no M).bind fun q => j_ck M q.2 (some (q.1, q.2))) = some (-3, j_sI M 0 (9 + 1) (j_I M 0 (9 + 1) + 1)) := by
  rw [e_no9, Option.bind_some, j_ckE (by rfl)]
theorem bind_full {M : j_M} : ((f_X9_full M).bind fun q => j_ck M q.2 (some (q.1, q.2))) = some (-4, j_sI M 0 (9 + 2) (j_I M 0 (9 + 2) + 1)) := by
  rw [e_full, Option.bind_some, j_ckE (by rfl)]
theorem bind_bad10 {M : j_M} {v : Int32} : ((f_X10_bad M v).bind fun q => j_ck M q.2 (some (q.1, q.2))) = some (v, j_sI M 39 0 (j_I M 39 0 + 1)) := by
  rw [e_bad10, Option.bind_some, j_ckE (by rfl)]
theorem bind_no10 {M : j_M} : ((f_X10_no M).bind fun q => j_ck M q.2 (some (q.1, q.2))) = some (-3, j_sI M 39 1 (j_I M 39 1 + 1)) := by
  rw [e_no10, Option.bind_some, j_ckE (by rfl)]
theorem bind_full10 {M : j_M} : ((f_X10_full M).bind fun q => j_ck M q.2 (some (q.1, q.2))) = some (-4, j_sI M 39 2 (j_I M 39 2 + 1)) := by
  rw [e_full10, Option.bind_some, j_ckE (by rfl)]
theorem op_status (a1 : Int32) : lw_ok Inv (fun M => f_X9_status M a1) (fun M => f_X10_status M a1) := by
  refine okI (fun M h => ?_)
  rcases rg (x := a1) (lo := 0) (hi := 2) (lo' := 0) (hi' := 2) 0 2 rfl rfl rfl rfl (by omega) (by omega) with ⟨h9, h10⟩ | ⟨j, -, hj, rfl, h9, h10⟩
  · have n0 : ¬ a1 = 0 := fun e => by rw [e] at h9; exact absurd h9 (by decide)
    have n1 : ¬ a1 = 1 := fun e => by rw [e] at h9; exact absurd h9 (by decide)
    have n2 : ¬ a1 = 2 := fun e => by rw [e] at h9; exact absurd h9 (by decide)
    refine ok_ref h 0 (by omega) (v := (-1 : Int32)) ?_ ?_
    · show f_X9_status M a1 = _
      unfold f_X9_status
      rw [if_neg n0, if_neg n1, if_neg n2, e_bad, Option.bind_some, j_ckE (by rfl)]
    · show f_X10_status _ a1 = _
      unfold f_X10_status
      rw [tlE, h10, if_pos rfl, bind_bad10]
  · refine ok_nb h (v := j_I M 0 (9 + j)) (M1 := M) (M2 := M) ?_ nb.rf ?_ nb.rf
    · show f_X9_status M (nI j) = _
      unfold f_X9_status
      rcases (show j = 0 ∨ j = 1 ∨ j = 2 by omega) with rfl | rfl | rfl <;> rfl
    · show f_X10_status M (nI j) = _
      unfold f_X10_status
      rw [tlE, h10, if_neg (by decide), a_iN (by omega) (by omega)]
      obtain ⟨c1, c2, c3⟩ := h.2.1
      rcases (show j = 0 ∨ j = 1 ∨ j = 2 by omega) with rfl | rfl | rfl
      · rw [c1]
      · rw [c2]
      · rw [c3]
theorem op_part (a1 : Int32) : lw_ok Inv (fun M => f_X9_part M a1) (fun M => f_X10_part M a1) := by
  refine okI (fun M h => ?_)
  have hF := h.2.2.1
  by_cases c0 : a1 = 0
  · subst c0
    exact ok_nb h (v := j_L M 0 7) (M1 := M) (M2 := M) rfl nb.rf (by show some (j_L M 35 4, M) = _; rw [hF.1]) nb.rf
  · by_cases c1 : a1 = 1
    · subst c1
      exact ok_nb h (v := j_L M 0 8) (M1 := M) (M2 := M) rfl nb.rf (by show some (j_L M 35 5, M) = _; rw [hF.2]) nb.rf
    · refine ok_ref h 0 (by omega) (v := (-2 : Int32).toInt64) ?_ ?_
      · show f_X9_part M a1 = _
        unfold f_X9_part
        rw [if_neg c0, if_neg c1, e_bad, Option.bind_some, j_ckE (by rfl)]
      · show f_X10_part _ a1 = _
        unfold f_X10_part
        rw [if_neg c0, if_neg c1, e_bad10, Option.bind_some, j_ckE (by rfl)]
theorem Inv.bath {M M2 : j_M} {be' : Nat → Nat} (h : Inv M) (hs : M2.2.2 = M.2.2) (hI : ∀ a k, ¬ scr a k → ¬ (17 ≤ a ∧ a ≤ 24) → a ≠ 36 → j_I M2 a k = j_I M a k) (hL : ∀ a k, a ≠ 9 → j_L M2 a k = j_L M a k) (b1 : iB M2 17 be') (b2 : iM M2 36 0 be') (b3 : wf be') : Inv M2 := by
  obtain ⟨⟨a1, a2, a3, a4⟩, c, f, ⟨z, ta, t⟩, -, g0, g1⟩ := h
  have hR : ∀ a k, j_R M2 a k = j_R M a k := fun a k => by show M2.2.2.1 a k = _; rw [hs]; rfl
  have hN : j_N M2 = j_N M := by show M2.2.2.2.2 = _; rw [hs]; rfl
  have hG : ∀ i, iG M i → iG M2 i := fun i g => by
    rcases g with ⟨h1, h2⟩ | ⟨b, be, h0, hb, h1, h2, h3, h4, h5⟩
    · exact Or.inl ⟨by rw [hR]; exact h1, by rw [hI _ _ (by unfold scr; omega) (by omega) (by omega)]; exact h2⟩
    · exact Or.inr ⟨b, be, h0, by rw [hN]; exact hb, by rw [hR]; exact h1, by rw [hI _ _ (by unfold scr; omega) (by omega) (by omega)]; exact h2, h3.to (fun a k _ _ => hI a k (by unfold scr; omega) (by omega) (by omega)), fun k hk => by rw [hI _ _ (by unfold scr; omega) (by omega) (by omega)]; exact h4 k hk, h5⟩
  refine ⟨⟨by rw [hs]; exact a1, by rw [hs]; exact a2, by rw [hs]; exact a3, ?_⟩, ?_, ?_, ⟨z, ta, ?_⟩, ⟨be', b1, b2, b3⟩, hG 0 g0, hG 1 g1⟩
  · unfold iN
    simp only [hR, hN]
    exact a4
  · unfold iC
    rw [hI 0 9 (by unfold scr; omega) (by omega) (by omega), hI 0 10 (by unfold scr; omega) (by omega) (by omega), hI 0 11 (by unfold scr; omega) (by omega) (by omega), hI 39 0 (by unfold scr; omega) (by omega) (by omega), hI 39 1 (by unfold scr; omega) (by omega) (by omega), hI 39 2 (by unfold scr; omega) (by omega) (by omega)]
    exact c
  · unfold iF
    rw [hL _ _ (by decide), hL _ _ (by decide), hL _ _ (by decide), hL _ _ (by decide)]
    exact f
  · obtain ⟨t1, t2, t3, t4⟩ := t
    refine ⟨t1, by rw [hI _ _ (by unfold scr; omega) (by omega) (by omega)]; exact t2, by rw [hI _ _ (by unfold scr; omega) (by omega) (by omega)]; exact t3, fun k hk => ?_⟩
    rw [hI 8 _ (by unfold scr; omega) (by omega) (by omega), hI 48 _ (by unfold scr; omega) (by omega) (by omega)]
    exact t4 k hk
theorem ok_bath {α : Type} {f9 f10 : j_M → Option (α × j_M)} {M M1 M2 : j_M} {be' : Nat → Nat} (h : Inv M) {v : α} (e9 : f9 M = some (v, M1)) (s1 : M1.2.2 = M.2.2) (e10 : f10 M1 = some (v, M2)) (s2 : M2.2.2 = M1.2.2) (hI : ∀ a k, ¬ scr a k → ¬ (17 ≤ a ∧ a ≤ 24) → a ≠ 36 → j_I M2 a k = j_I M a k) (hL : ∀ a k, a ≠ 9 → j_L M2 a k = j_L M a k) (b1 : iB M2 17 be') (b2 : iM M2 36 0 be') (b3 : wf be') : okA f9 f10 M :=
  ⟨v, M1, M2, e9, by rw [s1]; exact h.1.2.1, e10, h.bath (s2.trans s1) hI hL b1 b2 b3, by show M2.2.2.2.2 = M.2.2.2.2; rw [s2, s1]⟩
def up (be : Nat → Nat) (k v : Nat) : Nat → Nat := fun j => if j = k then v else be j
theorem up_s {be : Nat → Nat} {k v : Nat} : up be k v k = v := if_pos rfl
theorem up_n {be : Nat → Nat} {k v j : Nat} (h : j ≠ k) : up be k v j = be j := if_neg h
theorem op_sign (a1 a2 : Int32) : lw_ok Inv (fun M => f_X9_sign M a1 a2) (fun M => f_X10_sign M a1 a2) := by
  refine okI (fun M h => ?_)
  rcases rg (x := a1) (lo := 0) (hi := 3) (lo' := 0) (hi' := 3) 0 3 rfl rfl rfl rfl (by omega) (by omega) with ⟨h9, h10⟩ | ⟨l, -, hl, rfl, h9, h10⟩
  · refine ok_ref h 0 (by omega) (v := (-2 : Int32)) ?_ ?_
    · show f_X9_sign M a1 a2 = _
      unfold f_X9_sign f_X9_isLane
      simp only [tlE]
      rw [h9, if_pos rfl, bind_bad]
    · show f_X10_sign _ a1 a2 = _
      unfold f_X10_sign f_X10_isLane
      simp only [tlE]
      rw [h10, if_pos rfl, bind_bad10]
  · rcases rg (x := a2) (lo := 0) (hi := 2) (lo' := 0) (hi' := 2) 0 2 rfl rfl rfl rfl (by omega) (by omega) with ⟨g9, g10⟩ | ⟨n, -, hn, rfl, g9, g10⟩
    · refine ok_ref h 0 (by omega) (v := (-2 : Int32)) ?_ ?_
      · show f_X9_sign M (nI l) a2 = _
        unfold f_X9_sign f_X9_isLane
        simp only [tlE]
        rw [h9, if_neg (by decide), g9, if_pos rfl, bind_bad]
      · show f_X10_sign _ (nI l) a2 = _
        unfold f_X10_sign f_X10_isLane
        simp only [tlE]
        rw [h10, if_neg (by decide), g10, if_pos rfl, bind_bad10]
    · obtain ⟨be, b1, b2, b3⟩ := h.2.2.2.2.1
      have b2' : ∀ k, k < 250 → j_I M 36 k = nI (be k) := fun k hk => by have := b2 k hk; rwa [Nat.zero_add] at this
      refine ok_bath (be' := up be (4 + l) n) h (v := nI (be (4 + l))) (M1 := j_sI M 18 l (nI n)) (M2 := j_sI (j_sI M 18 l (nI n)) 36 (4 + l) (nI n)) ?_ rfl ?_ rfl ?_ (fun _ _ _ => rfl) ?_ ?_ ?_
      · show f_X9_sign M (nI l) (nI n) = _
        unfold f_X9_sign f_X9_isLane
        simp only [tlE]
        rw [h9, if_neg (by decide), g9, if_neg (by decide), a_iN (by omega) (by omega), w_iN (by omega) (by omega), (b1.2.2.2.1 l (by omega)).1]
      · show f_X10_sign _ (nI l) (nI n) = _
        unfold f_X10_sign f_X10_isLane
        simp only [tlE]
        rw [h10, if_neg (by decide), g10, if_neg (by decide), show (4 : Int32) + nI l = nI (4 + l) from nI_add 4 l, a_iN (by omega) (by omega), w_iN (by omega) (by omega), I_sI, if_neg (by omega), b2' _ (by omega)]
      · intro a k h1 h2 h3
        rw [I_sI, if_neg (by omega), I_sI, if_neg (by omega)]
      · obtain ⟨c1, c2, c3, c4, c5, c6, c7, c8⟩ := b1
        have hI : ∀ a k, a ≠ 18 → a ≠ 36 → j_I (j_sI (j_sI M 18 l (nI n)) 36 (4 + l) (nI n)) a k = j_I M a k := fun a k h1 h2 => by rw [I_sI, if_neg (by omega), I_sI, if_neg (by omega)]
        refine ⟨?_, ?_, ?_, fun q hq => ⟨?_, ?_⟩, fun p hp => ?_, fun k hk => ?_, fun u hu k hk => ?_, fun i hi => ?_⟩
        · rw [hI _ _ (by omega) (by omega), up_n (by omega)]; exact c1
        · rw [hI _ _ (by omega) (by omega), up_n (by omega)]; exact c2
        · rw [hI _ _ (by omega) (by omega), up_n (by omega)]; exact c3
        · rw [I_sI, if_neg (by omega), I_sI]
          by_cases e : q = l
          · rw [if_pos ⟨rfl, e⟩, e, up_s]
          · rw [if_neg (by omega), up_n (by omega)]; exact (c4 q hq).1
        · rw [hI _ _ (by omega) (by omega), up_n (by omega)]; exact (c4 q hq).2
        · rw [up_n (by omega)] at hp
          rw [hI _ _ (by omega) (by omega), hI _ _ (by omega) (by omega), up_n (by omega), up_n (by omega)]; exact c5 p hp
        · rw [hI _ _ (by omega) (by omega), c6 k hk]
          unfold rowOf
          split
          · rw [up_n (by omega)]
          · rw [up_n (by omega)]
        · rw [up_n (by omega)] at hu
          rw [hI _ _ (by omega) (by omega), c7 u hu k hk]
          unfold pasOf
          split
          · rw [up_n (by omega)]
          · rw [up_n (by omega)]
        · rw [up_n (by omega)] at hi
          rw [hI _ _ (by omega) (by omega), c8 i hi, up_n (by omega)]
      · intro k hk
        rw [Nat.zero_add, I_sI]
        by_cases e : k = 4 + l
        · rw [if_pos ⟨rfl, e⟩, e, up_s]
        · rw [if_neg (by omega), I_sI, if_neg (by omega), up_n e, b2' k hk]
      · obtain ⟨w1, w2, w3, w4, w5, w6, w7, w8, w9⟩ := b3
        have e : ∀ j, j < 4 ∨ 8 ≤ j → up be (4 + l) n j = be j := fun j hj => up_n (by omega)
        refine ⟨by rw [e 0 (by omega)]; exact w1, by rw [e 2 (by omega)]; exact w2, by rw [e 3 (by omega)]; exact w3, by rw [e 8 (by omega)]; exact w4, fun q hq => ?_, fun p hp => ?_, ?_, fun u hu => ?_, fun i hi => ?_⟩
        · by_cases c : q = l
          · rw [c, up_s]; exact hn
          · rw [up_n (by omega)]; exact w5 q hq
        · rw [e 0 (by omega)] at hp
          rw [e _ (by omega), e _ (by omega)]; exact w6 p hp
        · rw [e 0 (by omega), e 8 (by omega), e 1 (by omega), show (fun k => up be (4 + l) n (9 + k)) = fun k => be (9 + k) from funext fun k => e _ (by omega)]; exact w7
        · rw [e 3 (by omega)] at hu
          rw [e 0 (by omega), e 8 (by omega), e _ (by omega), show (fun k => up be (4 + l) n (74 + 22 * u + k)) = fun k => be (74 + 22 * u + k) from funext fun k => e _ (by omega)]; exact w8 u hu
        · rw [e 2 (by omega)] at hi
          rw [e _ (by omega), e _ (by omega), e _ (by omega), e _ (by omega), e _ (by omega)]; exact w9 i hi
