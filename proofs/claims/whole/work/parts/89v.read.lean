/-! the text: shut, one, an item -/
section
variable {z : Nat} {ta : Nat → Nat} {N : j_M} {de : Nat → Nat} {e : Nat}
theorem iB_shutB {M : j_M} {b l : Nat} (h : iB M b de) (w : wf de) (hl : l < 4) (h3 : de 3 = 0) (h2 : de 2 = 0) : iB (j_sI M (b + 2) l (nI 1)) b (up (up de 8 (sbt (de 8) l 1)) 3 0) := by
  obtain ⟨c1, c2, c3, c4, c5, c6, c7, c8⟩ := h
  refine ⟨by rw [I_sIn (by omega), up_n (by omega), up_n (by omega)]; exact c1, by rw [I_sIn (by omega), up_s, c2, h3], by rw [I_sIn (by omega), up_n (by omega), up_n (by omega)]; exact c3, fun m hm => ⟨?_, ?_⟩, fun p hp => ?_, fun k hk => ?_, fun u hu => ?_, fun i hi => ?_⟩
  · rw [I_sIn (by omega), up_n (by omega), up_n (by omega)]; exact (c4 m hm).1
  · rw [up_n (by omega), up_s, sbt_at _ w.2.2.2.1 _ hl _ (by omega) _ hm]
    by_cases c : m = l
    · rw [c, I_sIe (by omega), if_pos rfl]
    · rw [I_sIn (by omega), if_neg c]; exact (c4 m hm).2
  · rw [up_n (by omega), up_n (by omega)] at hp
    have := w.1
    rw [I_sIn (by omega), up_n (by omega), up_n (by omega), I_sIn (by omega), up_n (by omega), up_n (by omega)]; exact c5 p hp
  · rw [I_sIn (by omega), c6 k hk]
    unfold rowOf
    by_cases c : k = 0
    · rw [if_pos c, if_pos c, up_n (by omega), up_n (by omega)]
    · rw [if_neg c, if_neg c, up_n (by omega), up_n (by omega)]
  · rw [up_s] at hu; omega
  · rw [up_n (by omega), up_n (by omega)] at hi; omega
theorem vlT_b (t : z ≤ 150 ∧ ∀ k, k < z → ta k ≤ 127) (he : e ≤ z) (c : kdT z ta e = 2) : vlT z ta e ≤ 2000 := by
  have hb := tE_b (ta := ta) he
  have hz : tS z ta e < z := by
    by_cases h : tS z ta e < z
    · exact h
    · unfold kdT at c; rw [if_neg h] at c; omega
  have h2 : tE z ta e - tS z ta e ≤ 2 := by
    by_cases h : tE z ta e - tS z ta e ≤ 2
    · exact h
    · unfold kdT at c
      rw [if_pos hz, if_neg h] at c
      split at c
      · omega
      · split at c
        · omega
        · split at c <;> omega
  have h0 := t.2 _ hz
  have hlt := hb.2.2 hz
  unfold vlT
  by_cases h1 : tE z ta e - tS z ta e = 1
  · rw [if_pos h1]; omega
  · rw [if_neg h1]
    have := t.2 (tS z ta e + 1) (by omega)
    omega
theorem mem9 {M : j_M} {b l : Nat} (h : iB M b de) (w : wf de) (hl : l < 4) : f_X0_members M b (b + 5) (nI l) = some (nI (ms (de 0) (fun q => de (9 + q) = l))) := by
  have hm9 := e_members h.1 w.1 (h.row w) (lane := l) (by omega)
  rw [row_mem] at hm9
  exact hm9
theorem who49 {M : j_M} {l : Nat} (h : ∀ k, k < 74 → j_I M 49 k = nI (de k)) (w : wf de) (hl : l < 2 ^ 31) : f_X10_whoIsIn M 49 74 (nI l) = some (nI (ms (de 0) (fun q => de (9 + q) = l))) :=
  e_whoIsIn (n0 := 74) (lane := l) (f := fun k => de (9 + k)) (h 0 (by omega)) w.1 (by omega) (by omega) (fun k hk => ⟨h (9 + k) (by omega), by have hq : de (9 + k) < 4 := (w.2.2.2.2.2.2.1.2.1 k hk).1; show de (9 + k) < 2 ^ 31; omega⟩) hl
theorem s_shut (hd : tkD de) (he : e ≤ z) (hlt : tS z ta e < z) (h : tkC N z ta de (tE z ta e)) : tkS z ta de e f_X7_tellShut f_X10_takesShut N := by
  have hb := tE_b (ta := ta) he
  have hb0 := tS_b (ta := ta) he
  have hw := hd.1
  obtain ⟨N1, a1, a2, a3, a4⟩ := c_num h hb.2.1
  have hs1 := tS_b (ta := ta) hb.2.1
  have hb1 := tE_b (ta := ta) hb.2.1
  have hkb := kdT_b (z := z) (ta := ta) (e := tE z ta e)
  have hnt : z ≤ 150 ∧ ∀ k, k < z → ta k ≤ 127 := ⟨h.1.1, fun k hk => (h.1.2.2 k hk).2⟩
  rcases rdn (ta := ta) hb.2.1 0 3 0 3 rfl rfl rfl rfl (by omega) (by omega) with ⟨w0, m0⟩ | ⟨j, j1, j2, j3, j4, j5, w0, m0⟩
  · refine Or.inl ⟨_, N1, hs1.2, ?_, a2, a4, fun D hD => ?_⟩
    · unfold f_X7_tellShut
      rw [a1, Option.bind_some]
      dsimp only
      rw [j_ckE a2.2.2, isLane_e, tlE, w0, if_pos rfl]
    · obtain ⟨B, b1, b2, b3⟩ := e_go he hD.1
      refine ⟨B, ?_, b2.nb, b3.2.1⟩
      unfold f_X10_takesShut
      rw [b1, Option.bind_some, j_ckE (by rw [b2.2]), b3.2.2.2.1]
      by_cases c : kdT z ta (tE z ta e) = 2
      · have hv := vlT_b hnt hb.2.1 c
        rw [if_pos (by rw [c]; rfl), b3.2.2.2.2 c, who49 (fun k hk => by rw [b2.1 _ _ (by omega)]; exact hD.2 k hk) hw (by omega), Option.bind_some]
        by_cases c2 : nI (ms (de 0) (fun q => de (9 + q) = vlT z ta (tE z ta e))) = 0
        · rw [if_pos c2, m0 _ _ b3, Option.bind_some]
          dsimp only
          rw [j_ckE rfl, if_pos rfl]
        · rw [if_neg c2]
      · rw [i_2, if_neg (by rw [nI_eq (by omega) (by omega)]; exact c)]
  · have hmb := ms_lt7 (P := fun q => decide (de (9 + q) = j)) hw.1
    have hm9 := mem9 (l := j) a3.2.1 hw (by omega)
    have hm10 : ∀ D B, tkM D z ta de e → km2 D B → f_X10_whoIsIn B 49 74 (nI j) = some (nI (ms (de 0) (fun q => de (9 + q) = j))) := fun D B hD hB => who49 (fun k hk => by rw [hB.1 _ _ (by omega)]; exact hD.2 k hk) hw (by omega)
    by_cases c : ms (de 0) (fun q => decide (de (9 + q) = j)) = 0
    · have hn0 : nI (ms (de 0) (fun q => decide (de (9 + q) = j))) = 0 := by rw [c]; rfl
      have hds : tkD (up (up de 8 (sbt (de 8) j 1)) 3 0) := ⟨wf_shut hw (by omega) (by omega) (fun _ q hq x => ms_eq0 c q hq (decide_eq_true x)), by rw [up_s], by rw [up_n (by omega), up_n (by omega)]; exact hd.2.2⟩
      refine Or.inr ⟨tE z ta (tE z ta e), up (up de 8 (sbt (de 8) j 1)) 3 0, j_sI N1 (26 + 2) j (nI 1), by have := hb.2.2 hlt; omega, hb1.2.1, hds, ?_, a2.wr (by unfold scr; omega), ⟨a3.1.nb (nb.rf.wr (by unfold scr; omega)), iB_shutB a3.2.1 hw (by omega) hd.2.1 hd.2.2, by rw [I_sIn (by omega)]; exact a3.2.2⟩, fun D hD => ?_⟩
      · unfold f_X7_tellShut
        rw [a1, Option.bind_some]
        dsimp only
        rw [j_ckE a2.2.2, isLane_e, tlE, w0, if_neg (by decide), j5, hm9, Option.bind_some, if_pos hn0, w_iN (by omega) (by omega)]
        rfl
      · obtain ⟨B, b1, b2, b3⟩ := e_go he hD.1
        obtain ⟨B1, x1, x2, x3, x4, x5⟩ := m0 B 0 (by omega) b3
        refine ⟨j_sI B1 49 8 (nI (sbt (de 8) j 1)), ?_, (b2.nb.tr x2).wr (by unfold scr; omega), x3.to (fun a m ha => by rw [I_sIn (by omega)]), fun m hm => ?_⟩
        · unfold f_X10_takesShut
          rw [b1, Option.bind_some, j_ckE (by rw [b2.2]), b3.2.2.2.1, if_pos (by rw [j3]; rfl), b3.2.2.2.2 j3, j4, hm10 D B hD b2, Option.bind_some, if_pos hn0, show f_X10_takes B 0 0 3 = _ from x1, Option.bind_some]
          dsimp only
          rw [j_ckE x2.2.2, if_neg (by decide), i_8, a_iN (by omega) (by omega), i_0, a_iN (by omega) (by omega), x5, if_pos rfl, x4, b2.1 _ _ (by omega), hD.2 8 (by omega), w_iN (by omega) (by omega), or4_k _ hw.2.2.2.1 _ (by omega)]
        · by_cases c8 : m = 8
          · rw [c8, I_sIe (by omega), up_n (by omega), up_s]
          · rw [I_sIn (by omega), x4, b2.1 _ _ (by omega), hD.2 m hm]
            by_cases c3 : m = 3
            · rw [c3, up_s, hd.2.1]
            · rw [up_n c3, up_n c8]
    · have hn0 : ¬ nI (ms (de 0) (fun q => decide (de (9 + q) = j))) = 0 := nI_ne0 (by omega) (by omega)
      refine Or.inl ⟨_, N1, hs1.2, ?_, a2, a4, fun D hD => ?_⟩
      · unfold f_X7_tellShut
        rw [a1, Option.bind_some]
        dsimp only
        rw [j_ckE a2.2.2, isLane_e, tlE, w0, if_neg (by decide), j5, hm9, Option.bind_some, if_neg hn0]
      · obtain ⟨B, b1, b2, b3⟩ := e_go he hD.1
        refine ⟨B, ?_, b2.nb, b3.2.1⟩
        unfold f_X10_takesShut
        rw [b1, Option.bind_some, j_ckE (by rw [b2.2]), b3.2.2.2.1, if_pos (by rw [j3]; rfl), b3.2.2.2.2 j3, j4, hm10 D B hD b2, Option.bind_some, if_neg hn0]
theorem s_one (hd : tkD de) (h7 : de 0 < 7) (he : e ≤ z) (hlt : tS z ta e < z) (h : tkC N z ta de (tE z ta e)) : tkS z ta de e f_X7_tellOne f_X10_takesOne N := by
  have hb := tE_b (ta := ta) he
  have hb0 := tS_b (ta := ta) he
  have hw := hd.1
  obtain ⟨N1, a1, a2, a3, a4⟩ := c_num h hb.2.1
  have hs1 := tS_b (ta := ta) hb.2.1
  have hb1 := tE_b (ta := ta) hb.2.1
  have hkb := kdT_b (z := z) (ta := ta) (e := tE z ta (tE z ta (tE z ta e)))
  have hm0 : ∀ D, tkM D z ta de e → ∃ B, f_X10_goBehind D = some B ∧ km2 D B ∧ mP B z ta (tE z ta e) ∧ f_X10_takesOne D = ((f_X10_takes B (0 : Int32) (0 : Int32) (5 : Int32)).bind fun q8 => j_ck B q8.2 (if q8.1 = 0 then (some ((0 : Int32), q8.2)) else ((f_X10_takes q8.2 (1 : Int32) (20 : Int32) (90 : Int32)).bind fun q13 => j_ck q8.2 q13.2 (if q13.1 = 0 then (some ((0 : Int32), q13.2)) else (if (j_I q13.2 35 22) = (2 : Int32) then (a_i q13.2 49 74 (8 : Int32) fun v19 => (tl (f_X10_has v19 (j_I q13.2 35 23)) fun v21 => (if v21 = 0 then ((f_X10_takes q13.2 (2 : Int32) (0 : Int32) (3 : Int32)).bind fun q24 => j_ck q13.2 q24.2 (if q24.1 = 0 then (some ((0 : Int32), q24.2)) else (a_i q24.2 50 3 (0 : Int32) fun v29 => (a_i q24.2 50 3 (1 : Int32) fun v31 => (a_i q24.2 50 3 (2 : Int32) fun v33 => ((f_X10_layOne q24.2 49 74 v29 v31 v33).bind fun q35 => j_ck q24.2 q35 (some ((1 : Int32), q35)))))))) else (some ((0 : Int32), q13.2))))) else (some ((0 : Int32), q13.2))))))) := fun D hD => by
    obtain ⟨B, b1, b2, b3⟩ := e_go he hD.1
    refine ⟨B, b1, b2, b3, ?_⟩
    unfold f_X10_takesOne
    rw [i_0, a_iN (by omega) (by omega), hD.2 0 (by omega), i_7, if_neg (by rw [nI_eq (by omega) (by omega)]; omega), b1, Option.bind_some, j_ckE (by rw [b2.2])]
  rcases rdn (ta := ta) hb.2.1 0 5 0 5 rfl rfl rfl rfl (by omega) (by omega) with ⟨w0, m0⟩ | ⟨j, j1, j2, j3, j4, j5, w0, m0⟩
  · refine Or.inl ⟨_, N1, hs1.2, ?_, a2, a4, fun D hD => ?_⟩
    · unfold f_X7_tellOne
      rw [a1, Option.bind_some]
      dsimp only
      rw [j_ckE a2.2.2, isKind_e, tlE, w0, if_pos rfl]
    · obtain ⟨B, b1, b2, b3, b4⟩ := hm0 D hD
      refine ⟨B, ?_, b2.nb, b3.2.1⟩
      rw [b4, m0 _ _ b3, Option.bind_some]
      dsimp only
      rw [j_ckE rfl, if_pos rfl]
  · obtain ⟨N2, g1, g2, g3, g4⟩ := c_num a3 hb1.2.1
    have hs2 := tS_b (ta := ta) hb1.2.1
    have hb2 := tE_b (ta := ta) hb1.2.1
    rcases rdn (ta := ta) hb1.2.1 20 90 20 90 rfl rfl rfl rfl (by omega) (by omega) with ⟨w1, m1⟩ | ⟨i, i1, i2, i3, i4, i5, w1, m1⟩
    · refine Or.inl ⟨_, N2, hs2.2, ?_, a2.tr g2, g4, fun D hD => ?_⟩
      · unfold f_X7_tellOne
        rw [a1, Option.bind_some]
        dsimp only
        rw [j_ckE a2.2.2, isKind_e, tlE, w0, if_neg (by decide), g1, Option.bind_some]
        dsimp only
        rw [j_ckE g2.2.2, isPace_e, tlE, w1, if_pos rfl]
      · obtain ⟨B, b1, b2, b3, b4⟩ := hm0 D hD
        obtain ⟨B1, x1, x2, x3, x4, x5⟩ := m0 B 0 (by omega) b3
        refine ⟨B1, ?_, b2.nb.tr x2, x3.2.1⟩
        rw [b4, show f_X10_takes B 0 0 5 = _ from x1, Option.bind_some]
        dsimp only
        rw [j_ckE x2.2.2, if_neg (by decide), m1 _ _ x3, Option.bind_some]
        dsimp only
        rw [j_ckE rfl, if_pos rfl]
    · obtain ⟨N3, l1, l2, l3, l4⟩ := c_num g3 hb2.2.1
      have hs3 := tS_b (ta := ta) hb2.2.1
      have hb3 := tE_b (ta := ta) hb2.2.1
      have hm2 : ∀ D, tkM D z ta de e → ∃ B2, nb D B2 ∧ mP B2 z ta (tE z ta (tE z ta (tE z ta e))) ∧ (∀ k, k < 74 → j_I B2 49 k = nI (de k)) ∧ j_I B2 50 0 = nI j ∧ j_I B2 50 1 = nI i ∧ f_X10_takesOne D = (if (j_I B2 35 22) = (2 : Int32) then (a_i B2 49 74 (8 : Int32) fun v19 => (tl (f_X10_has v19 (j_I B2 35 23)) fun v21 => (if v21 = 0 then ((f_X10_takes B2 (2 : Int32) (0 : Int32) (3 : Int32)).bind fun q24 => j_ck B2 q24.2 (if q24.1 = 0 then (some ((0 : Int32), q24.2)) else (a_i q24.2 50 3 (0 : Int32) fun v29 => (a_i q24.2 50 3 (1 : Int32) fun v31 => (a_i q24.2 50 3 (2 : Int32) fun v33 => ((f_X10_layOne q24.2 49 74 v29 v31 v33).bind fun q35 => j_ck q24.2 q35 (some ((1 : Int32), q35)))))))) else (some ((0 : Int32), B2))))) else (some ((0 : Int32), B2))) := fun D hD => by
        obtain ⟨B, b1, b2, b3, b4⟩ := hm0 D hD
        obtain ⟨B1, x1, x2, x3, x4, x5⟩ := m0 B 0 (by omega) b3
        obtain ⟨B2, y1, y2, y3, y4, y5⟩ := m1 B1 1 (by omega) x3
        refine ⟨B2, (b2.nb.tr x2).tr y2, y3, fun k hk => by rw [y4, x4, b2.1 _ _ (by omega)]; exact hD.2 k hk, by rw [y5, if_neg (by omega), x5, if_pos rfl], by rw [y5, if_pos rfl], ?_⟩
        rw [b4, show f_X10_takes B 0 0 5 = _ from x1, Option.bind_some]
        dsimp only
        rw [j_ckE x2.2.2, if_neg (by decide), show f_X10_takes B1 1 20 90 = _ from y1, Option.bind_some]
        dsimp only
        rw [j_ckE y2.2.2, if_neg (by decide)]
      have hc2 : f_X7_tellOne N = (tl (f_X9_isLane (nbO z ta (tE z ta (tE z ta (tE z ta e))))) fun v19 => (if v19 = 0 then (some ((0 : Int32), N3)) else ((f_X0_isOpen N3 26 (nbO z ta (tE z ta (tE z ta (tE z ta e))))).bind fun v22 => (if v22 = 0 then (some ((0 : Int32), N3)) else ((f_X0_comes N3 26 (nI j) (nI i) (nbO z ta (tE z ta (tE z ta (tE z ta e))))).bind fun q25 => j_ck N3 q25.2 (if q25.1 = ((-1) : Int32) then (some ((0 : Int32), q25.2)) else (some ((1 : Int32), q25.2)))))))) := by
        unfold f_X7_tellOne
        rw [a1, Option.bind_some]
        dsimp only
        rw [j_ckE a2.2.2, isKind_e, tlE, w0, if_neg (by decide), g1, Option.bind_some]
        dsimp only
        rw [j_ckE g2.2.2, isPace_e, tlE, w1, if_neg (by decide), l1, Option.bind_some]
        dsimp only
        rw [j_ckE l2.2.2, j5, i5]
      rcases rdn (ta := ta) hb2.2.1 0 3 0 3 rfl rfl rfl rfl (by omega) (by omega) with ⟨w2, m2⟩ | ⟨l, n1, n2, n3, n4, n5, w2, m2⟩
      · refine Or.inl ⟨_, N3, hs3.2, ?_, (a2.tr g2).tr l2, l4, fun D hD => ?_⟩
        · rw [hc2, isLane_e, tlE, w2, if_pos rfl]
        · obtain ⟨B2, u1, u2, u3, u4, u5, u6⟩ := hm2 D hD
          refine ⟨B2, ?_, u1, u2.2.1⟩
          rw [u6]
          by_cases c : j_I B2 35 22 = 2
          · rw [if_pos c, i_8, a_iN (by omega) (by omega), tlE]
            by_cases c2 : f_X10_has (j_I B2 49 8) (j_I B2 35 23) = 0
            · rw [if_pos c2, m2 _ _ u2, Option.bind_some]
              dsimp only
              rw [j_ckE rfl, if_pos rfl]
            · rw [if_neg c2]
          · rw [if_neg c]
      · have ho := e_open9 (l := l) l3.2.1 (by omega)
        have h16 := hw.2.2.2.1
        by_cases c : op de l = true
        · rw [if_pos c] at ho
          have hc : de 8 / 2 ^ l % 2 = 0 := of_decide_eq_true c
          refine Or.inr ⟨tE z ta (tE z ta (tE z ta (tE z ta e))), cm de j i l, cm9 N3 26 (de 0) j i l, by have := hb.2.2 hlt; omega, hb3.2.1, ⟨wf_comes hw h7 j2 ⟨i1, i2⟩ (by omega) c, cm_3, by rw [cm_n (by omega) (by omega) (by omega) (by omega) (by omega) (by omega) (by omega)]; exact hd.2.2⟩, ?_, ?_, ⟨?_, iB_comes l3.2.1 hw h7, ?_⟩, fun D hD => ?_⟩
          · rw [hc2, isLane_e, tlE, w2, if_neg (by decide), n5, ho, Option.bind_some, if_neg (by decide), e_comes l3.2.1 h7, Option.bind_some]
            dsimp only
            rw [j_ckE (show (cm9 N3 26 (de 0) j i l).2.2 = N3.2.2 from rfl), if_neg (nI_m1 (by omega))]
          · unfold cm9
            exact ((((((a2.tr g2).tr l2).wr (by unfold scr; omega)).wr (by unfold scr; omega)).wr (by unfold scr; omega)).wr (by unfold scr; omega)).wr (by unfold scr; omega)
          · unfold cm9
            exact l3.1.nb (((((nb.rf.wr (by unfold scr; omega)).wr (by unfold scr; omega)).wr (by unfold scr; omega)).wr (by unfold scr; omega)).wr (by unfold scr; omega))
          · unfold cm9
            rw [I_sIn (by omega), I_sIn (by omega), I_sIn (by omega), I_sIn (by omega), I_sIn (by omega)]
            exact l3.2.2
          · obtain ⟨B2, u1, u2, u3, u4, u5, u6⟩ := hm2 D hD
            obtain ⟨B3, v1, v2, v3, v4, v5⟩ := m2 B2 2 (by omega) u2
            have q0 : j_I B3 49 0 = nI (de 0) := by rw [v4]; exact u3 0 (by omega)
            refine ⟨lo10 B3 49 (de 0) j i l, ?_, ?_, v3.to (fun a m ha => I_lo10' (by omega)), fun m hm => ?_⟩
            · rw [u6, u2.2.2.2.1, if_pos (by rw [n3]; rfl), i_8, a_iN (by omega) (by omega), u3 8 (by omega), u2.2.2.2.2 n3, n4, tlE, has4_k _ h16 _ (by omega), hc, if_pos (show nI 0 = 0 from rfl), show f_X10_takes B2 2 0 3 = _ from v1, Option.bind_some]
              dsimp only
              rw [j_ckE v2.2.2, if_neg (by decide), i_0, a_iN (by omega) (by omega), i_1, a_iN (by omega) (by omega), i_2, a_iN (by omega) (by omega), v5, v5, v5, if_neg (by omega), if_neg (by omega), if_pos rfl, u4, u5, e_layOne q0 h7 (by omega) (by omega), Option.bind_some, j_ckE (show (lo10 B3 49 (de 0) j i l).2.2 = B3.2.2 from rfl)]
            · unfold lo10
              exact ((((((u1.tr v2).wr (by unfold scr; omega)).wr (by unfold scr; omega)).wr (by unfold scr; omega)).wr (by unfold scr; omega)).wr (by unfold scr; omega)).wr (by unfold scr; omega)
            · by_cases c3 : m = 3
              · rw [c3, cm_3]
                unfold lo10
                rw [I_sIn (by omega), I_sIn (by omega), I_sIn (by omega), I_sIn (by omega), I_sIn (by omega), I_sIn (by omega), v4, u3 3 (by omega), hd.2.1]
              · exact I_lo10 rfl h7 (by rw [v4]; exact u3 m hm) c3
        · rw [if_neg c] at ho
          have hc : ¬ de 8 / 2 ^ l % 2 = 0 := fun x => c (decide_eq_true x)
          refine Or.inl ⟨_, N3, hs3.2, ?_, (a2.tr g2).tr l2, l4, fun D hD => ?_⟩
          · rw [hc2, isLane_e, tlE, w2, if_neg (by decide), n5, ho, Option.bind_some, if_pos rfl]
          · obtain ⟨B2, u1, u2, u3, u4, u5, u6⟩ := hm2 D hD
            refine ⟨B2, ?_, u1, u2.2.1⟩
            rw [u6, u2.2.2.2.1, if_pos (by rw [n3]; rfl), i_8, a_iN (by omega) (by omega), u3 8 (by omega), u2.2.2.2.2 n3, n4, tlE, has4_k _ h16 _ (by omega), if_neg (nI_ne0 (Nat.pos_of_ne_zero hc) (by omega))]
theorem zb01 {ρ : Type} {v : Int32} {k : Option ρ} (h : v = 0 ∨ v = 1) : z_b v k = k := by
  rcases h with rfl | rfl
  · exact if_pos (by decide)
  · exact if_pos (by decide)
theorem sp_1 {D : j_M} (he : e ≤ z) (h : mP D z ta e) : f_X10_spells D 4 115 105 103 110 = some (fl (Wd z ta e 1)) := e_spells (w := 1) (by omega) he h
theorem sp_2 {D : j_M} (he : e ≤ z) (h : mP D z ta e) : f_X10_spells D 4 115 104 117 116 = some (fl (Wd z ta e 2)) := e_spells (w := 2) (by omega) he h
theorem sp_3 {D : j_M} (he : e ≤ z) (h : mP D z ta e) : f_X10_spells D 3 111 110 101 0 = some (fl (Wd z ta e 3)) := e_spells (w := 3) (by omega) he h
theorem sp_0 {D : j_M} (he : e ≤ z) (h : mP D z ta e) : f_X10_spells D 4 98 97 116 104 = some (fl (Wd z ta e 0)) := e_spells (w := 0) (by omega) he h
theorem s_item (hd : tkD de) (he : e ≤ z) (hlt : tS z ta e < z) (h : tkC N z ta de (tE z ta e)) (h2 : j_I N 7 2 = nI (tS z ta e)) : tkS z ta de e f_X7_tellItem f_X10_takesItem N := by
  have hb0 := tS_b (ta := ta) he
  have hw0 := hd.1.1
  have w1 := e_isWord (w := 1) (by omega) h.1 he h2 h.2.2
  have w2 := e_isWord (w := 2) (by omega) h.1 he h2 h.2.2
  have w3 := e_isWord (w := 3) (by omega) h.1 he h2 h.2.2
  have s1 : ∀ D, tkM D z ta de e → f_X10_spells D 4 115 105 103 110 = some (fl (Wd z ta e 1)) := fun D hD => sp_1 he hD.1
  have s2 : ∀ D, tkM D z ta de e → f_X10_spells D 4 115 104 117 116 = some (fl (Wd z ta e 2)) := fun D hD => sp_2 he hD.1
  have s3 : ∀ D, tkM D z ta de e → f_X10_spells D 3 111 110 101 0 = some (fl (Wd z ta e 3)) := fun D hD => sp_3 he hD.1
  cases c1 : Wd z ta e 1
  · rw [c1, fl_f] at w1
    rw [c1, fl_f] at s1
    cases c2 : Wd z ta e 2
    · rw [c2, fl_f] at w2
      rw [c2, fl_f] at s2
      cases c3 : Wd z ta e 3
      · rw [c3, fl_f] at w3
        rw [c3, fl_f] at s3
        refine Or.inl ⟨_, N, hb0.2, ?_, nb.rf, h2, fun D hD => ⟨D, ?_, nb.rf, hD.1.2.1⟩⟩
        · unfold f_X7_tellItem
          rw [w1, Option.bind_some, if_pos rfl, w2, Option.bind_some, if_pos rfl, w3, Option.bind_some, if_pos rfl]
        · unfold f_X10_takesItem
          rw [s1 D hD, Option.bind_some, if_pos rfl, s2 D hD, Option.bind_some, if_pos rfl, s3 D hD, Option.bind_some, if_pos rfl]
      · rw [c3, fl_t] at w3
        rw [c3, fl_t] at s3
        by_cases c7 : de 0 < 7
        · refine (s_one hd c7 he hlt h).of (fun r A hr e1 e2 => ?_) (fun D r B hr hD e1 e2 => ?_)
          · unfold f_X7_tellItem
            rw [w1, Option.bind_some, if_pos rfl, w2, Option.bind_some, if_pos rfl, w3, Option.bind_some, if_neg (by decide), h.2.1.1, i_7, if_neg (nI_ge (by omega) (by omega)), e1, Option.bind_some]
            dsimp only
            rw [j_ckE e2.2.2]
            rcases hr with rfl | rfl
            · rw [if_pos rfl]
            · rw [if_neg (by decide)]
          · unfold f_X10_takesItem
            rw [s1 D hD, Option.bind_some, if_pos rfl, s2 D hD, Option.bind_some, if_pos rfl, s3 D hD, Option.bind_some, if_neg (by decide), e1, Option.bind_some]
            dsimp only
            rw [j_ckE e2.2.2]
            rcases hr with rfl | rfl
            · rw [if_pos rfl]
            · rw [if_neg (by decide)]
        · refine Or.inl ⟨_, N, hb0.2, ?_, nb.rf, h2, fun D hD => ⟨D, ?_, nb.rf, hD.1.2.1⟩⟩
          · unfold f_X7_tellItem
            rw [w1, Option.bind_some, if_pos rfl, w2, Option.bind_some, if_pos rfl, w3, Option.bind_some, if_neg (by decide), h.2.1.1, i_7, if_pos (nI_le (by omega) (by omega))]
          · unfold f_X10_takesItem
            have e1 : f_X10_takesOne D = some (0, D) := by
              unfold f_X10_takesOne
              rw [i_0, a_iN (by omega) (by omega), hD.2 0 (by omega), show de 0 = 7 by omega, if_pos (show nI 7 = 7 from rfl)]
            rw [s1 D hD, Option.bind_some, if_pos rfl, s2 D hD, Option.bind_some, if_pos rfl, s3 D hD, Option.bind_some, if_neg (by decide), e1, Option.bind_some]
            dsimp only
            rw [j_ckE rfl, if_pos rfl]
    · rw [c2, fl_t] at w2
      rw [c2, fl_t] at s2
      refine (s_shut hd he hlt h).of (fun r A hr e1 e2 => ?_) (fun D r B hr hD e1 e2 => ?_)
      · unfold f_X7_tellItem
        rw [w1, Option.bind_some, if_pos rfl, w2, Option.bind_some, if_neg (by decide), e1, Option.bind_some]
        dsimp only
        rw [j_ckE e2.2.2, zb01 hr]
      · unfold f_X10_takesItem
        rw [s1 D hD, Option.bind_some, if_pos rfl, s2 D hD, Option.bind_some, if_neg (by decide), e1, Option.bind_some]
        dsimp only
        rw [j_ckE e2.2.2, zb01 hr]
  · rw [c1, fl_t] at w1
    rw [c1, fl_t] at s1
    refine (s_sign hd he hlt h).of (fun r A hr e1 e2 => ?_) (fun D r B hr hD e1 e2 => ?_)
    · unfold f_X7_tellItem
      rw [w1, Option.bind_some, if_neg (by decide), e1, Option.bind_some]
      dsimp only
      rw [j_ckE e2.2.2, zb01 hr]
    · unfold f_X10_takesItem
      rw [s1 D hD, Option.bind_some, if_neg (by decide), e1, Option.bind_some]
      dsimp only
      rw [j_ckE e2.2.2, zb01 hr]
end
