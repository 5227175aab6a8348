theorem sw_out {x : Int32} {m : Nat} (hm : m < 1000) (h9 : f_X9_within x 0 (nI m) = 0) {j : Nat} (hj : j ≤ m) : ¬ x = nI j := by
  intro e
  subst e
  unfold f_X9_within at h9
  rw [if_neg (nI_pos (by omega)), if_neg (nI_nlt hj (by omega))] at h9
  exact absurd h9 (by decide)
theorem isOne_eq {M M' : j_M} {x : Int32} (h : j_I M' 36 0 = j_I M 36 0) : f_X10_isOne M' x = f_X10_isOne M x := by
  unfold f_X10_isOne f_X10_many
  rw [i_0, a_iN (by omega) (by omega), a_iN (by omega) (by omega), h]
theorem isOne_ref {M : j_M} {k : Nat} {v x : Int32} : f_X10_isOne (j_sI M 0 k v) x = f_X10_isOne M x := isOne_eq (by rw [I_sI, if_neg (by omega)])
theorem n_k : ∀ k, k < 6 → ∀ p, p < 91 → kb k (nI p) = f_X10_believesAs (nI k) (nI p) := by decide +kernel
theorem op_of (a1 a2 : Int32) : lw_ok Inv (fun M => f_X9_of M a1 a2) (fun M => f_X10_of M a1 a2) := by
  refine okI (fun M h => ?_)
  obtain ⟨be, b1, b2, b3⟩ := h.2.2.2.2.1
  rcases rgOne (x := a1) b1.1 (b2.at (by omega)) b3.1 with ⟨p0, q0⟩ | ⟨p, l0, rfl, p0, q0⟩
  · refine ok_ref h 0 (by omega) (v := ((-2) : Int32)) ?_ ?_
    · show f_X9_of M a1 a2 = _
      unfold f_X9_of
      simp only [tlE]
      rw [p0, if_pos rfl, bind_bad]
    · show f_X10_of _ a1 a2 = _
      unfold f_X10_of
      simp only [tlE]
      rw [isOne_ref, q0, Option.bind_some, if_pos rfl, bind_bad10]
  · skip
    have hp7 := b3.1
    have hk := b1.2.2.2.2.1 p l0
    have hrow := b1.2.2.2.2.2.1
    have hw := b3.2.2.2.2.2.1 p l0
    rcases rg (x := a2) (lo := 0) (hi := 5) (lo' := 0) (hi' := 5) 0 5 rfl rfl rfl rfl (by omega) (by omega) with ⟨g9, g10⟩ | ⟨n, -, hn, rfl, g9, g10⟩
    · refine ok_ref h 0 (by omega) (v := (-2 : Int32)) ?_ ?_
      · show f_X9_of M _ _ = _
        unfold f_X9_of
        simp only [tlE]
        rw [p0, if_neg (by decide)]
        rw [if_neg (show ¬ a2 = 0 from sw_out (m := 5) (by omega) g9 (j := 0) (by omega)), if_neg (show ¬ a2 = 1 from sw_out (m := 5) (by omega) g9 (j := 1) (by omega)), if_neg (show ¬ a2 = 2 from sw_out (m := 5) (by omega) g9 (j := 2) (by omega)), if_neg (show ¬ a2 = 3 from sw_out (m := 5) (by omega) g9 (j := 3) (by omega)), if_neg (show ¬ a2 = 4 from sw_out (m := 5) (by omega) g9 (j := 4) (by omega)), if_neg (show ¬ a2 = 5 from sw_out (m := 5) (by omega) g9 (j := 5) (by omega)), bind_bad]
      · show f_X10_of _ _ _ = _
        unfold f_X10_of
        simp only [tlE]
        rw [isOne_ref, q0, Option.bind_some, if_neg (by decide)]
        rw [g10, if_pos rfl, bind_bad10]
    · refine ok_nb h (v := if n = 0 then nI (be (30 + p)) else if n = 1 then nI (be (37 + p)) else if n = 2 then nI (be (9 + p)) else if n = 3 then nI (be (16 + p)) else if n = 4 then nI (be (23 + p)) else f_X10_believesAs (nI (be (30 + p))) (nI (be (37 + p)))) (M1 := M) (M2 := M) ?_ nb.rf ?_ nb.rf
      · show f_X9_of M _ _ = _
        unfold f_X9_of
        simp only [tlE]
        rw [p0, if_neg (by decide)]
        have r1 : j_I M (17 + 5) (1 + p) = nI (be (9 + p)) := by rw [hrow _ (by omega)]; unfold rowOf; rw [if_neg (by omega), show 8 + (1 + p) = 9 + p by omega]
        have r2 : j_I M (17 + 5) (8 + p) = nI (be (16 + p)) := by rw [hrow _ (by omega)]; unfold rowOf; rw [if_neg (by omega), show 8 + (8 + p) = 16 + p by omega]
        have r3 : j_I M (17 + 5) (15 + p) = nI (be (23 + p)) := by rw [hrow _ (by omega)]; unfold rowOf; rw [if_neg (by omega), show 8 + (15 + p) = 23 + p by omega]
        rcases (show n = 0 ∨ n = 1 ∨ n = 2 ∨ n = 3 ∨ n = 4 ∨ n = 5 by omega) with rfl | rfl | rfl | rfl | rfl | rfl
        · rw [if_pos rfl, a_iN (by omega) (by omega), hk.1]; rfl
        · rw [if_neg (by decide), if_pos rfl, a_iN (by omega) (by omega), hk.2]; rfl
        · rw [if_neg (by decide), if_neg (by decide), if_pos (show nI 2 = 2 from rfl)]
          unfold f_X0_laneOf
          rw [show (1 : Int32) + nI p = nI (1 + p) from nI_add 1 p, a_iN (by omega) (by omega), r1]; rfl
        · rw [if_neg (by decide), if_neg (by decide), if_neg (by decide), if_pos (show nI 3 = 3 from rfl), show (8 : Int32) + nI p = nI (8 + p) from nI_add 8 p, a_iN (by omega) (by omega), r2]; rfl
        · rw [if_neg (by decide), if_neg (by decide), if_neg (by decide), if_neg (by decide), if_pos (show nI 4 = 4 from rfl), show (15 : Int32) + nI p = nI (15 + p) from nI_add 15 p, a_iN (by omega) (by omega), r3]; rfl
        · rw [if_neg (by decide), if_neg (by decide), if_neg (by decide), if_neg (by decide), if_neg (by decide), if_pos (show nI 5 = 5 from rfl)]
          unfold f_X0_believedBy
          rw [a_iN (by omega) (by omega), hk.1, kdN (by omega), a_iN (by omega) (by omega), hk.2, tlE, n_k _ (by omega) _ (by omega)]; rfl
      · show f_X10_of M _ _ = _
        unfold f_X10_of
        simp only [tlE]
        rw [q0, Option.bind_some, if_neg (by decide)]
        rw [g10, if_neg (by decide)]
        rcases (show n = 0 ∨ n = 1 ∨ n = 2 ∨ n = 3 ∨ n = 4 ∨ n = 5 by omega) with rfl | rfl | rfl | rfl | rfl | rfl
        · rw [if_pos rfl, show (30 : Int32) + nI p = nI (30 + p) from nI_add 30 p, a_iN (by omega) (by omega), b2.at (by omega)]; rfl
        · rw [if_neg (by decide), if_pos rfl, e_paceOf (Inv.mK b2 b3) l0]; rfl
        · rw [if_neg (by decide), if_neg (by decide), if_pos (show nI 2 = 2 from rfl), show (9 : Int32) + nI p = nI (9 + p) from nI_add 9 p, a_iN (by omega) (by omega), b2.at (by omega)]; rfl
        · rw [if_neg (by decide), if_neg (by decide), if_neg (by decide), if_pos (show nI 3 = 3 from rfl), show (16 : Int32) + nI p = nI (16 + p) from nI_add 16 p, a_iN (by omega) (by omega), b2.at (by omega)]; rfl
        · rw [if_neg (by decide), if_neg (by decide), if_neg (by decide), if_neg (by decide), if_pos (show nI 4 = 4 from rfl), show (23 : Int32) + nI p = nI (23 + p) from nI_add 23 p, a_iN (by omega) (by omega), b2.at (by omega)]; rfl
        · rw [if_neg (by decide), if_neg (by decide), if_neg (by decide), if_neg (by decide), if_neg (by decide), show (30 : Int32) + nI p = nI (30 + p) from nI_add 30 p, a_iN (by omega) (by omega), b2.at (by omega), e_paceOf (Inv.mK b2 b3) l0]; rfl
