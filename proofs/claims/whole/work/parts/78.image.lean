/-! images -/
def bcm (M : j_M) (b o : Nat) : j_M := j_sI (j_sI (j_sI (j_cp (j_cp (j_cp (j_cp (j_cp (j_cp (j_cp M (o + 1) 0 (b + 1) 0 4) (o + 2) 0 (b + 2) 0 4) (o + 3) 0 (b + 3) 0 7) (o + 4) 0 (b + 4) 0 7) (o + 5) 0 (b + 5) 0 22) (o + 6) 0 (b + 6) 0 176) (o + 7) 0 (b + 7) 0 30) b 9 (j_I M o 9)) b 10 (j_I M o 10)) b 11 (j_I M o 11)
section
variable {M : j_M} {b o : Nat}
theorem e_becomes (hd : o + 9 ≤ b ∨ b + 9 ≤ o) : f_X0_becomes M b o = some (bcm M b o) := by
  unfold f_X0_becomes bcm
  simp only [i_0, i_4, i_7, i_22, show (176 : Int32) = nI 176 from rfl, i_30]
  rw [c_iN (by omega) (by omega) (by omega) (by omega), c_iN (by omega) (by omega) (by omega) (by omega), c_iN (by omega) (by omega) (by omega) (by omega), c_iN (by omega) (by omega) (by omega) (by omega), c_iN (by omega) (by omega) (by omega) (by omega), c_iN (by omega) (by omega) (by omega) (by omega), c_iN (by omega) (by omega) (by omega) (by omega)]
  simp only [tlE]
  simp (disch := omega) only [I_sIe, I_sIn, I_cpe, I_cpn, up_e, up_n, rowOf_up, pasOf_up, Nat.reduceAdd]
theorem I_bcm {a k : Nat} (h : a < b ∨ b + 8 ≤ a) : j_I (bcm M b o) a k = j_I M a k := by
  unfold bcm
  simp (disch := omega) only [I_sIe, I_sIn, I_cpe, I_cpn, up_e, up_n, rowOf_up, pasOf_up, Nat.reduceAdd]
theorem S_bcm : (bcm M b o).2 = M.2 := rfl
theorem iB_bcm {be : Nat → Nat} (hd : o + 9 ≤ b ∨ b + 9 ≤ o) (h : iB M o be) (w : wf be) : iB (bcm M b o) b be := by
  obtain ⟨c1, c2, c3, c4, c5, c6, c7, c8⟩ := h
  have w1 := w.1
  have w2 := w.2.1
  have w3 := w.2.2.1
  unfold bcm
  refine ⟨?_, ?_, ?_, fun l hl => ⟨?_, ?_⟩, fun p hp => ⟨?_, ?_⟩, fun k hk => ?_, fun u hu k hk => ?_, fun i hi => ?_⟩
  · simp (disch := omega) only [c1, I_sIe, I_sIn, I_cpe, I_cpn, up_e, up_n, rowOf_up, pasOf_up, Nat.reduceAdd]
  · simp (disch := omega) only [c2, I_sIe, I_sIn, I_cpe, I_cpn, up_e, up_n, rowOf_up, pasOf_up, Nat.reduceAdd]
  · simp (disch := omega) only [c3, I_sIe, I_sIn, I_cpe, I_cpn, up_e, up_n, rowOf_up, pasOf_up, Nat.reduceAdd]
  · have := (c4 l hl).1
    simp (disch := omega) only [Nat.zero_add, Nat.sub_zero, this, I_sIe, I_sIn, I_cpe, I_cpn, up_e, up_n, rowOf_up, pasOf_up, Nat.reduceAdd]
  · have := (c4 l hl).2
    simp (disch := omega) only [Nat.zero_add, Nat.sub_zero, this, I_sIe, I_sIn, I_cpe, I_cpn, up_e, up_n, rowOf_up, pasOf_up, Nat.reduceAdd]
  · have := (c5 p hp).1
    simp (disch := omega) only [Nat.zero_add, Nat.sub_zero, this, I_sIe, I_sIn, I_cpe, I_cpn, up_e, up_n, rowOf_up, pasOf_up, Nat.reduceAdd]
  · have := (c5 p hp).2
    simp (disch := omega) only [Nat.zero_add, Nat.sub_zero, this, I_sIe, I_sIn, I_cpe, I_cpn, up_e, up_n, rowOf_up, pasOf_up, Nat.reduceAdd]
  · have := c6 k hk
    simp (disch := omega) only [Nat.zero_add, Nat.sub_zero, this, I_sIe, I_sIn, I_cpe, I_cpn, up_e, up_n, rowOf_up, pasOf_up, Nat.reduceAdd]
  · have := c7 u hu k hk
    simp (disch := omega) only [Nat.zero_add, Nat.sub_zero, this, I_sIe, I_sIn, I_cpe, I_cpn, up_e, up_n, rowOf_up, pasOf_up, Nat.reduceAdd]
  · have := c8 i hi
    simp (disch := omega) only [Nat.zero_add, Nat.sub_zero, this, I_sIe, I_sIn, I_cpe, I_cpn, up_e, up_n, rowOf_up, pasOf_up, Nat.reduceAdd]
end
theorem e_from_L {M : j_M} {i : Nat} (hi : i < 2) (fuel : Nat) (hfu : 1000 < fuel) (K : Int32 → j_M → Option (Int32 × j_M)) : f_X10_from_L33 fuel M (nI i) (0 : Int32) K = K (nI 250) (j_cp M 37 (250 * i) 36 0 250) := by
  have key : ∀ d k fuel K, k + d = 250 → d < fuel → f_X10_from_L33 fuel (j_cp M 37 (250 * i) 36 0 k) (nI i) (nI k) K = K (nI 250) (j_cp M 37 (250 * i) 36 0 250) := by
    intro d
    induction d with
    | zero =>
      intro k fuel K h1 h2
      obtain ⟨fuel, rfl⟩ : ∃ f, fuel = f + 1 := ⟨fuel - 1, by omega⟩
      rw [f_X10_from_L33, i_250, if_pos (nI_le (by omega) (by omega)), show k = 250 by omega]
    | succ d ih =>
      intro k fuel K h1 h2
      obtain ⟨fuel, rfl⟩ : ∃ f, fuel = f + 1 := ⟨fuel - 1, by omega⟩
      have := cp_set (M := M) (sa := 37) (sp := 250 * i) (da := 36) (dp := 0) (k := k)
      rw [Nat.zero_add] at this
      rw [f_X10_from_L33, i_250, if_neg (nI_ge (by omega) (by omega)), pk_mul, nI_add, a_iN (by omega) (by omega), w_iN (by omega) (by omega), I_cpn (by omega), this, nI_1]
      exact ih (k + 1) fuel K (by omega) (by omega)
  have := key 250 0 fuel K (by omega) (by omega)
  rw [cp_0] at this
  exact this
theorem e_image_L {M : j_M} {i : Nat} (hi : i < 2) (fuel : Nat) (hfu : 1000 < fuel) (K : Int32 → j_M → Option (Int32 × j_M)) : f_X10_image_L19 fuel M (nI i) (0 : Int32) K = K (nI 250) (j_cp M 36 0 37 (250 * i) 250) := by
  have key : ∀ d k fuel K, k + d = 250 → d < fuel → f_X10_image_L19 fuel (j_cp M 36 0 37 (250 * i) k) (nI i) (nI k) K = K (nI 250) (j_cp M 36 0 37 (250 * i) 250) := by
    intro d
    induction d with
    | zero =>
      intro k fuel K h1 h2
      obtain ⟨fuel, rfl⟩ : ∃ f, fuel = f + 1 := ⟨fuel - 1, by omega⟩
      rw [f_X10_image_L19, i_250, if_pos (nI_le (by omega) (by omega)), show k = 250 by omega]
    | succ d ih =>
      intro k fuel K h1 h2
      obtain ⟨fuel, rfl⟩ : ∃ f, fuel = f + 1 := ⟨fuel - 1, by omega⟩
      have := cp_set (M := M) (sa := 36) (sp := 0) (da := 37) (dp := 250 * i) (k := k)
      rw [Nat.zero_add] at this
      rw [f_X10_image_L19, i_250, if_neg (nI_ge (by omega) (by omega)), a_iN (by omega) (by omega), pk_mul, nI_add, w_iN (by omega) (by omega), I_cpn (by omega), this, nI_1]
      exact ih (k + 1) fuel K (by omega) (by omega)
  have := key 250 0 fuel K (by omega) (by omega)
  rw [cp_0] at this
  exact this
theorem Inv.im {M : j_M} (h : Inv M) {i : Nat} (hi : i < 2) : iG M i := by
  rcases (show i = 0 ∨ i = 1 by omega) with rfl | rfl
  · exact h.2.2.2.2.2.1
  · exact h.2.2.2.2.2.2
theorem op_from (a1 : Int32) : lw_ok Inv (fun M => f_X9_from M a1) (fun M => f_X10_from M a1) := by
  refine okI (fun M h => ?_)
  obtain ⟨z, ta, t⟩ := h.2.2.2.1
  obtain ⟨be, b1, b2, b3⟩ := h.2.2.2.2.1
  rcases rg (x := a1) (lo := 0) (hi := 1) (lo' := 0) (hi' := 1) 0 1 rfl rfl rfl rfl (by omega) (by omega) with ⟨p0, q0⟩ | ⟨i, m0, l0, rfl, p0, q0⟩
  · refine ok_ref h 0 (by omega) (v := ((-2) : Int32)) ?_ ?_
    · show f_X9_from M a1 = _
      unfold f_X9_from
      rw [if_pos p0, bind_bad]
    · show f_X10_from _ a1 = _
      unfold f_X10_from
      rw [tlE, q0, if_pos rfl, bind_bad10]
  · have hcl : (nI i).toNatClampNeg = i := nI_clamp (by omega)
    rcases h.im (i := i) (by omega) with ⟨g1, g2⟩ | ⟨b, be', g0, gb, g1, g2, g3, g4, g5⟩
    · refine ok_ref h 1 (by omega) (v := (-3 : Int32)) ?_ ?_
      · show f_X9_from M (nI i) = _
        unfold f_X9_from
        rw [if_neg (by rw [p0]; decide), hcl, g1]
        exact bind_no
      · show f_X10_from _ (nI i) = _
        unfold f_X10_from
        rw [tlE, q0, if_neg (by decide), a_iN (by omega) (by omega), I_sIn (by omega), g2, if_pos rfl, bind_no10]
    · have hd : b + 9 ≤ 17 ∨ 17 + 9 ≤ b := by omega
      have g4' : ∀ k, k < 250 → j_I (bcm M 17 b) 37 (250 * i + k) = nI (be' k) := fun k hk => by rw [I_bcm (by omega)]; exact g4 k hk
      refine ok_gen (be' := be') (z := z) (ta := ta) h (v := 1) (M1 := bcm M 17 b) (M2 := j_cp (bcm M 17 b) 37 (250 * i) 36 0 250) ?_ rfl ?_ rfl ?_ h.2.2.1 ?_ ?_ ?_ g5
      · show f_X9_from M (nI i) = _
        unfold f_X9_from
        rw [if_neg (by rw [p0]; decide), hcl, g1]
        show (f_X0_becomes M 17 b).bind _ = _
        rw [e_becomes hd, Option.bind_some, j_ckE (by rfl)]
      · show f_X10_from _ (nI i) = _
        unfold f_X10_from
        rw [tlE, q0, if_neg (by decide), a_iN (by omega) (by omega), I_bcm (by omega), g2, if_neg (by decide), e_from_L (by omega) j_fu (by unfold j_fu; omega)]
      · intro a k h1
        rw [I_cpn (by omega), I_bcm (by omega)]
      · exact t.to (by rw [I_cpn (by omega), I_bcm (by omega)]) (by rw [I_cpn (by omega), I_bcm (by omega)]) (fun k => by rw [I_cpn (by omega), I_bcm (by omega)]) (fun k => by rw [I_cpn (by omega), I_bcm (by omega)])
      · exact (iB_bcm hd g3 g5).to (fun a k _ _ => I_cpn (by omega))
      · intro k hk
        rw [Nat.zero_add, I_cpe (by omega), show 250 * i + (k - 0) = 250 * i + k by omega]
        exact g4' k hk
theorem I_sR {M : j_M} {a k b j : Nat} {v : Option Nat} : j_I (j_sR M a k v) b j = j_I M b j := rfl
theorem I_nw {M : j_M} {sh : Nat × Nat} {b j : Nat} (h : b < j_N M) : j_I (j_nw M sh) b j = j_I M b j := by
  show (if b = j_N M then 0 else M.1 b j) = M.1 b j
  rw [if_neg (by omega)]
theorem L_nw {M : j_M} {sh : Nat × Nat} {b j : Nat} (h : b < j_N M) : j_L (j_nw M sh) b j = j_L M b j := by
  show (if b = j_N M then 0 else M.2.1 b j) = M.2.1 b j
  rw [if_neg (by omega)]
theorem L_sR {M : j_M} {a k b j : Nat} {v : Option Nat} : j_L (j_sR M a k v) b j = j_L M b j := rfl
theorem I_imN {M : j_M} {x1 : Int32} {a k : Nat} (h : a < j_N M) : j_I (imN M x1) a k = j_I M a k := by
  show j_I (bg9 (bArr (j_nw M (10 + 0, 0)) (j_N M)) (j_N M)) a k = _
  rw [I_bg9 (by omega)]
  unfold bArr
  simp only [I_sR]
  rw [I_nw (by simp only [j_N_sR, j_N_nw]; omega), I_sR, I_nw (by simp only [j_N_sR, j_N_nw]; omega), I_sR, I_nw (by simp only [j_N_sR, j_N_nw]; omega), I_sR, I_nw (by simp only [j_N_sR, j_N_nw]; omega), I_sR, I_nw (by simp only [j_N_sR, j_N_nw]; omega), I_sR, I_nw (by simp only [j_N_sR, j_N_nw]; omega), I_sR, I_nw (by simp only [j_N_sR, j_N_nw]; omega), I_sR, I_nw (by simp only [j_N_sR, j_N_nw]; omega), I_nw (by omega)]
theorem L_imN {M : j_M} {x1 : Int32} {a k : Nat} (h : a < j_N M) : j_L (imN M x1) a k = j_L M a k := by
  show j_L (bArr (j_nw M (10 + 0, 0)) (j_N M)) a k = _
  unfold bArr
  simp only [L_sR]
  rw [L_nw (by simp only [j_N_sR, j_N_nw]; omega), L_sR, L_nw (by simp only [j_N_sR, j_N_nw]; omega), L_sR, L_nw (by simp only [j_N_sR, j_N_nw]; omega), L_sR, L_nw (by simp only [j_N_sR, j_N_nw]; omega), L_sR, L_nw (by simp only [j_N_sR, j_N_nw]; omega), L_sR, L_nw (by simp only [j_N_sR, j_N_nw]; omega), L_sR, L_nw (by simp only [j_N_sR, j_N_nw]; omega), L_sR, L_nw (by simp only [j_N_sR, j_N_nw]; omega), L_nw (by omega)]
/-- image: what holds then, from what each place holds -/
theorem inv_image {M M2 : j_M} {i b : Nat} (h : Inv M) (hi : i < 2) (hS : sh_x M2.2.2 ∧ sh_m M2.2.2 ∧ sh_i M2.2.2 ∧ iN M2) (hb : b = 51 ∨ b = 60) (hbN : b < j_N M2) (hNN : j_N M ≤ j_N M2) (hRi : j_R M2 1 i = some b) (hRj : ∀ j, j < 2 → j ≠ i → j_R M2 1 j = j_R M 1 j) (hne : ∀ j, j < 2 → j ≠ i → ¬ j_R M 1 j = some b) (hL : ∀ a k, a < 51 → j_L M2 a k = j_L M a k) (hI : ∀ a k, a < j_N M → (a < b ∨ b + 8 ≤ a) → a ≠ 37 → a ≠ 38 → j_I M2 a k = j_I M a k) (h37 : ∀ k, ¬ (250 * i ≤ k ∧ k < 250 * i + 250) → j_I M2 37 k = j_I M 37 k) (h38 : ∀ k, k ≠ i → j_I M2 38 k = j_I M 38 k) (h38i : j_I M2 38 i = 1) (hc : ∀ be, iB M 17 be → wf be → iM M 36 0 be → iB M2 b be ∧ iM M2 37 (250 * i) be) : Inv M2 := by
  have hG : ∀ j, j < 2 → iG M2 j := fun j hj => by
    obtain ⟨be, b1, b2, b3⟩ := h.2.2.2.2.1
    by_cases e : j = i
    · subst e
      exact Or.inr ⟨b, be, hb, hbN, hRi, h38i, (hc be b1 b3 b2).1, (hc be b1 b3 b2).2, b3⟩
    · rcases h.im hj with ⟨g1, g2⟩ | ⟨b', be', g0, gb, g1, g2, g3, g4, g5⟩
      · exact Or.inl ⟨by rw [hRj j hj e]; exact g1, by rw [h38 j e]; exact g2⟩
      · have hnb : b' ≠ b := fun x => hne j hj e (by rw [← x]; exact g1)
        refine Or.inr ⟨b', be', g0, by omega, by rw [hRj j hj e]; exact g1, by rw [h38 j e]; exact g2, ?_, fun k hk => ?_, g5⟩
        · have hsh := h.1.2.2.1 j hj b' g1
          have hs9 : b' + 9 ≤ j_N M := hsh.1.1
          exact g3.to (fun a k h1 h2 => hI a k (by omega) (by omega) (by omega) (by omega))
        · rw [h37 _ (by omega)]; exact g4 k hk
  obtain ⟨⟨a1, a2, a3, a4⟩, c, f, ⟨z, ta, t⟩, ⟨be, b1, b2, b3⟩, -⟩ := h
  have h51 : 51 ≤ j_N M := a2.1
  refine ⟨hS, ?_, ?_, ⟨z, ta, ?_⟩, ⟨be, ?_, ?_, b3⟩, hG 0 (by omega), hG 1 (by omega)⟩
  · unfold iC
    have h39 : ∀ k, j_I M2 39 k = j_I M 39 k := fun k => hI 39 k (by omega) (by omega) (by omega) (by omega)
    have h0 : ∀ k, j_I M2 0 k = j_I M 0 k := fun k => hI 0 k (by omega) (by omega) (by omega) (by omega)
    rw [h0, h0, h0, h39, h39, h39]
    exact c
  · unfold iF
    rw [hL _ _ (by omega), hL _ _ (by omega), hL _ _ (by omega), hL _ _ (by omega)]
    exact f
  · exact t.to (hI _ _ (by omega) (by omega) (by omega) (by omega)) (hI _ _ (by omega) (by omega) (by omega) (by omega)) (fun k => hI _ _ (by omega) (by omega) (by omega) (by omega)) (fun k => hI _ _ (by omega) (by omega) (by omega) (by omega))
  · exact b1.to (fun a k _ _ => hI a k (by omega) (by omega) (by omega) (by omega))
  · exact b2.to (fun k => hI _ _ (by omega) (by omega) (by omega) (by omega))
theorem nar1 : vp_nar .boolean (1 : Int32) = 1 := by decide +kernel
theorem op_image : lw_im Inv := by
  intro a1 M h
  rcases rg (x := a1) (lo := 0) (hi := 1) (lo' := 0) (hi' := 1) 0 1 rfl rfl rfl rfl (by omega) (by omega) with ⟨p0, q0⟩ | ⟨i, m0, l0, rfl, p0, q0⟩
  · obtain ⟨r, M1, M2, e1, e2, e3, e4, e5⟩ := ok_ref (f9 := fun M => f_X9_image M a1) (f10 := fun M => f_X10_image M a1) h 0 (by omega) (v := ((-2) : Int32)) (by
      show f_X9_image M a1 = _
      unfold f_X9_image
      rw [if_pos p0, bind_bad]) (by
      show f_X10_image _ a1 = _
      unfold f_X10_image
      rw [tlE, q0, if_pos rfl, bind_bad10])
    refine ⟨r, M1, M2, e1, e2, e3, e4, ?_⟩
    unfold im_n
    rw [if_pos p0]
    exact e5
  · have hcl : (nI i).toNatClampNeg = i := nI_clamp (by omega)
    have h1 : ¬ f_X9_within (nI i) 0 1 = 0 := by rw [p0]; decide
    have e10 : ∀ M1, f_X10_image M1 (nI i) = some (1, j_sI (j_cp M1 36 0 37 (250 * i) 250) 38 i 1) := fun M1 => by
      unfold f_X10_image
      rw [tlE, q0, if_neg (by decide), e_image_L (by omega) j_fu (by unfold j_fu; omega), w_iN (by omega) (by omega), nar1]
    obtain ⟨⟨s1, s2, s3, s4, s5⟩, -⟩ := id h
    have hb17 := x_b17 s1
    have h51 : 51 ≤ j_N M := s2.1
    rcases h.im (i := i) (by omega) with ⟨g1, g2⟩ | ⟨b, be', g0, gb, g1, g2, g3, g4, g5⟩
    · have hd : 17 + 9 ≤ j_N M ∨ j_N M + 9 ≤ 17 := by omega
      have hN2 : j_N (imN M (nI i)) = j_N M + 9 := imN_N
      have hR1 : ∀ k, j_R (imN M (nI i)) 1 k = if k = i then some (j_N M) else j_R M 1 k := fun k => by
        have := imN_R1 (M := M) (x1 := nI i) k (by omega)
        rw [hcl] at this
        exact this
      have hb : j_N M = 51 ∨ j_N M = 60 := by
        rcases (show i = 0 ∨ i = 1 by omega) with rfl | rfl
        · rw [s4, if_pos g1]; split <;> simp
        · rw [s4, if_pos g1]; split <;> simp
      have hlt : ∀ j, j < 2 → ∀ b', j_R M 1 j = some b' → b' + 9 ≤ j_N M := fun j hj b' e => (s3 j hj b' e).1.1
      refine ⟨1, bcm (imN M (nI i)) (j_N M) 17, j_sI (j_cp (bcm (imN M (nI i)) (j_N M) 17) 36 0 37 (250 * i) 250) 38 i 1, ?_, ?_, e10 _, ?_, ?_⟩
      · unfold f_X9_image
        rw [if_neg h1, hcl, g1]
        show (f_X0_becomes (imN M (nI i)) (j_N M) 17).bind _ = _
        rw [e_becomes hd, Option.bind_some, j_ckE (by rfl)]
      · show sh_m (imN M (nI i)).2.2
        exact sh_m_mono s2 imN_S imN_R (by show j_N M ≤ j_N (imN M (nI i)); omega)
      · refine inv_image (b := j_N M) h (show i < 2 by omega) ⟨imN_x s1, sh_m_mono s2 imN_S imN_R (by show j_N M ≤ j_N (imN M (nI i)); omega), ?_, ?_⟩ hb ?_ ?_ ?_ ?_ ?_ ?_ ?_ ?_ ?_ ?_ ?_
        · intro j hj b' e
          have e' : j_R (imN M (nI i)) 1 j = some b' := e
          rw [hR1] at e'
          by_cases c : j = i
          · rw [if_pos c] at e'
            cases e'
            exact imN_b (sh_b_kk hb17)
          · rw [if_neg c] at e'
            have := hlt j hj b' e'
            have h17 := (s3 j hj b' e')
            exact sh_b_mono (s3 j hj b' e') imN_S imN_R (by show j_N M ≤ j_N (imN M (nI i)); omega) (by
              rcases h.im hj with ⟨y1, -⟩ | ⟨b2, -, y0, -, y1, -⟩
              · rw [y1] at e'; cases e'
              · rw [y1] at e'; cases e'; omega)
        · refine ⟨?_, fun b' e1 e2 => ?_⟩
          · show j_N (imN M (nI i)) = 51 + (if j_R (imN M (nI i)) 1 0 = none then 0 else 9) + (if j_R (imN M (nI i)) 1 1 = none then 0 else 9)
            rw [hN2, hR1, hR1]
            rcases (show i = 0 ∨ i = 1 by omega) with rfl | rfl
            · rw [if_pos (show (0 : Nat) = 0 from rfl), if_neg (show ¬ (1 : Nat) = 0 by omega), if_neg (show ¬ some (j_N M) = none by simp), s4, if_pos g1]
              omega
            · rw [if_pos (show (1 : Nat) = 1 from rfl), if_neg (show ¬ (0 : Nat) = 1 by omega), if_neg (show ¬ some (j_N M) = none by simp), s4, if_pos g1]
          · have e1' : j_R (imN M (nI i)) 1 0 = some b' := e1
            have e2' : j_R (imN M (nI i)) 1 1 = some b' := e2
            rw [hR1] at e1' e2'
            rcases (show i = 0 ∨ i = 1 by omega) with rfl | rfl
            · rw [if_pos rfl] at e1'
              rw [if_neg (by omega)] at e2'
              have := hlt 1 (by omega) b' e2'
              cases e1'
              omega
            · rw [if_pos rfl] at e2'
              rw [if_neg (by omega)] at e1'
              have := hlt 0 (by omega) b' e1'
              cases e2'
              omega
        · show j_N M < j_N (imN M (nI i)); omega
        · show j_N M ≤ j_N (imN M (nI i)); omega
        · show j_R (imN M (nI i)) 1 i = _
          rw [hR1, if_pos rfl]
        · intro j hj hne
          show j_R (imN M (nI i)) 1 j = _
          rw [hR1, if_neg hne]
        · intro j hj _ e
          have := hlt j hj _ e
          omega
        · intro a k ha
          exact L_imN (x1 := nI i) (show a < j_N M by omega)
        · intro a k h1 h2 h3 h4
          rw [I_sIn (by omega), I_cpn (by omega), I_bcm h2, I_imN h1]
        · intro k hk
          rw [I_sIn (by omega), I_cpn (by omega), I_bcm (by omega), I_imN (by omega)]
        · intro k hk
          rw [I_sIn (by omega), I_cpn (by omega), I_bcm (by omega), I_imN (by omega)]
        · rw [I_sIe (by omega)]
        · intro be b1 b3 b2
          have b1' : iB (imN M (nI i)) 17 be := b1.to (fun a k _ _ => I_imN (by omega))
          refine ⟨(iB_bcm hd b1' b3).to (fun a k _ _ => by rw [I_sIn (by omega), I_cpn (by omega)]), fun k hk => ?_⟩
          rw [I_sIn (by omega), I_cpe (by omega), I_bcm (by omega), I_imN (by omega), show 0 + (250 * i + k - 250 * i) = k by omega]
          exact b2.at hk
      · show j_N (imN M (nI i)) = _
        unfold im_n
        rw [if_neg h1, hcl, if_pos g1, hN2]
    · have hd : 17 + 9 ≤ b ∨ b + 9 ≤ 17 := by omega
      refine ⟨1, bcm M b 17, j_sI (j_cp (bcm M b 17) 36 0 37 (250 * i) 250) 38 i 1, ?_, s2, e10 _, ?_, ?_⟩
      · unfold f_X9_image
        rw [if_neg h1, hcl, g1]
        show (f_X0_becomes M b 17).bind _ = _
        rw [e_becomes hd, Option.bind_some, j_ckE (by rfl)]
      · refine inv_image (b := b) h (show i < 2 by omega) ⟨s1, s2, s3, s4, s5⟩ g0 gb (Nat.le_refl _) g1 (fun _ _ _ => rfl) ?_ (fun _ _ _ => rfl) ?_ ?_ ?_ ?_ ?_
        · intro j hj hne e
          rcases (show (i = 0 ∧ j = 1) ∨ (i = 1 ∧ j = 0) by omega) with ⟨rfl, rfl⟩ | ⟨rfl, rfl⟩
          · exact s5 b g1 e
          · exact s5 b e g1
        · intro a k h1 h2 h3 h4
          rw [I_sIn (by omega), I_cpn (by omega), I_bcm h2]
        · intro k hk
          rw [I_sIn (by omega), I_cpn (by omega), I_bcm (by omega)]
        · intro k hk
          rw [I_sIn (by omega), I_cpn (by omega), I_bcm (by omega)]
        · rw [I_sIe (by omega)]
        · intro be b1 b3 b2
          refine ⟨(iB_bcm hd b1 b3).to (fun a k _ _ => by rw [I_sIn (by omega), I_cpn (by omega)]), fun k hk => ?_⟩
          rw [I_sIn (by omega), I_cpe (by omega), I_bcm (by omega), show 0 + (250 * i + k - 250 * i) = k by omega]
          exact b2.at hk
      · unfold im_n
        rw [if_neg h1, hcl, if_neg (by rw [g1]; simp)]
        rfl
