/-! the ops, the plain ones -/
def okA {α : Type} (f9 f10 : j_M → Option (α × j_M)) (M : j_M) : Prop := ∃ r M1 M2, f9 M = some (r, M1) ∧ sh_m M1.2.2 ∧ f10 M1 = some (r, M2) ∧ Inv M2 ∧ j_N M2 = j_N M
theorem okI {α : Type} {f9 f10 : j_M → Option (α × j_M)} (h : ∀ M, Inv M → okA f9 f10 M) : lw_ok Inv f9 f10 := h
theorem ok_ref {α : Type} {f9 f10 : j_M → Option (α × j_M)} {M : j_M} (h : Inv M) (k : Nat) (hk : k < 3) {v : α} (e9 : f9 M = some (v, j_sI M 0 (9 + k) (j_I M 0 (9 + k) + 1))) (e10 : f10 (j_sI M 0 (9 + k) (j_I M 0 (9 + k) + 1)) = some (v, j_sI (j_sI M 0 (9 + k) (j_I M 0 (9 + k) + 1)) 39 k (j_I (j_sI M 0 (9 + k) (j_I M 0 (9 + k) + 1)) 39 k + 1))) : okA f9 f10 M :=
  ⟨v, _, _, e9, h.1.2.1, e10, h.ref hk, rfl⟩
theorem ok_nb {α : Type} {f9 f10 : j_M → Option (α × j_M)} {M M1 M2 : j_M} (h : Inv M) {v : α} (e9 : f9 M = some (v, M1)) (n1 : nb M M1) (e10 : f10 M1 = some (v, M2)) (n2 : nb M1 M2) : okA f9 f10 M :=
  ⟨v, M1, M2, e9, by rw [n1.2.2]; exact h.1.2.1, e10, h.nb (n1.tr n2), by show M2.2.2.2.2 = M.2.2.2.2; rw [n2.2.2, n1.2.2]⟩
theorem bind_bad {M : j_M} : ((f_X9_bad M).bind fun q => j_ck M q.2 (some (q.1, q.2))) = some (-2, j_sI M 0 (9 + 0) (j_I M 0 (9 + 0) + 1)) := by
  rw [e_bad, Option.bind_some, j_ckE (by rfl)]
theorem bind_no {M : j_M} : ((f_X9_no M).bind fun q => j_ck M q.2 (some (q.1, q.2))) = some (-3, j_sI M 0 (9 + 1) (j_I M 0 (9 + 1) + 1)) := by
  rw [e_no9, Option.bind_some, j_ckE (by rfl)]
theorem bind_full {M : j_M} : ((f_X9_full M).bind fun q => j_ck M q.2 (some (q.1, q.2))) = some (-4, j_sI M 0 (9 + 2) (j_I M 0 (9 + 2) + 1)) := by
  rw [e_full, Option.bind_some, j_ckE (by rfl)]
theorem bind_bad10 {M : j_M} {v : Int32} : ((f_X10_bad M v).bind fun q => j_ck M q.2 (some (q.1, q.2))) = some (v, j_sI M 39 0 (j_I M 39 0 + 1)) := by
  rw [e_bad10, Option.bind_some, j_ckE (by rfl)]
theorem bind_no10 {M : j_M} : ((f_X10_no M).bind fun q => j_ck M q.2 (some (q.1, q.2))) = some (-3, j_sI M 39 1 (j_I M 39 1 + 1)) := by
  rw [e_no10, Option.bind_some, j_ckE (by rfl)]
theorem bind_full10 {M : j_M} : ((f_X10_full M).bind fun q => j_ck M q.2 (some (q.1, q.2))) = some (-4, j_sI M 39 2 (j_I M 39 2 + 1)) := by
  rw [e_full10, Option.bind_some, j_ckE (by rfl)]
theorem op_status (a1 : Int32) : lw_ok Inv (fun M => f_X9_status M a1) (fun M => f_X10_status M a1) := by
  refine okI (fun M h => ?_)
  rcases rg (x := a1) (lo := 0) (hi := 2) (lo' := 0) (hi' := 2) 0 2 rfl rfl rfl rfl (by omega) (by omega) with ⟨h9, h10⟩ | ⟨j, -, hj, rfl, h9, h10⟩
  · have n0 : ¬ a1 = 0 := fun e => by rw [e] at h9; exact absurd h9 (by decide)
    have n1 : ¬ a1 = 1 := fun e => by rw [e] at h9; exact absurd h9 (by decide)
    have n2 : ¬ a1 = 2 := fun e => by rw [e] at h9; exact absurd h9 (by decide)
    refine ok_ref h 0 (by omega) (v := (-1 : Int32)) ?_ ?_
    · show f_X9_status M a1 = _
      unfold f_X9_status
      rw [if_neg n0, if_neg n1, if_neg n2, e_bad, Option.bind_some, j_ckE (by rfl)]
    · show f_X10_status _ a1 = _
      unfold f_X10_status
      rw [tlE, h10, if_pos rfl, bind_bad10]
  · refine ok_nb h (v := j_I M 0 (9 + j)) (M1 := M) (M2 := M) ?_ nb.rf ?_ nb.rf
    · show f_X9_status M (nI j) = _
      unfold f_X9_status
      rcases (show j = 0 ∨ j = 1 ∨ j = 2 by omega) with rfl | rfl | rfl <;> rfl
    · show f_X10_status M (nI j) = _
      unfold f_X10_status
      rw [tlE, h10, if_neg (by decide), a_iN (by omega) (by omega)]
      obtain ⟨c1, c2, c3⟩ := h.2.1
      rcases (show j = 0 ∨ j = 1 ∨ j = 2 by omega) with rfl | rfl | rfl
      · rw [c1]
      · rw [c2]
      · rw [c3]
theorem op_part (a1 : Int32) : lw_ok Inv (fun M => f_X9_part M a1) (fun M => f_X10_part M a1) := by
  refine okI (fun M h => ?_)
  have hF := h.2.2.1
  by_cases c0 : a1 = 0
  · subst c0
    exact ok_nb h (v := j_L M 0 7) (M1 := M) (M2 := M) rfl nb.rf (by show some (j_L M 35 4, M) = _; rw [hF.1]) nb.rf
  · by_cases c1 : a1 = 1
    · subst c1
      exact ok_nb h (v := j_L M 0 8) (M1 := M) (M2 := M) rfl nb.rf (by show some (j_L M 35 5, M) = _; rw [hF.2]) nb.rf
    · refine ok_ref h 0 (by omega) (v := (-2 : Int32).toInt64) ?_ ?_
      · show f_X9_part M a1 = _
        unfold f_X9_part
        rw [if_neg c0, if_neg c1, e_bad, Option.bind_some, j_ckE (by rfl)]
      · show f_X10_part _ a1 = _
        unfold f_X10_part
        rw [if_neg c0, if_neg c1, e_bad10, Option.bind_some, j_ckE (by rfl)]
