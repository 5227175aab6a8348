/-! the text: read -/
section
variable {z : Nat} {ta : Nat → Nat}
theorem kdT_pos {e : Nat} (c : tS z ta e < z) : 0 < kdT z ta e := by
  unfold kdT
  rw [if_pos c]
  repeat' split
  all_goals omega
def tkL (z : Nat) (ta : Nat → Nat) (K : Int32 → j_M → Option (Int32 × j_M)) (d : Nat) (N : j_M) (de : Nat → Nat) (e it fuel : Nat) : Prop :=
  (∃ st A, st ≤ z ∧ f_X7_tellTo_L33 fuel N (nI it) K = some (-1, A) ∧ nb N A ∧ j_I A 7 2 = nI st ∧ ∀ D fuel' K', tkM D z ta de e → d < fuel' → ∃ B, f_X10_read_L62 fuel' D (nI it) K' = some (-10 - nI st, B) ∧ nb D B) ∨
  (∃ c de1 A, c ≤ 150 ∧ f_X7_tellTo_L33 fuel N (nI it) K = some (nI c, A) ∧ nb N A ∧ iB A 26 de1 ∧ tkD de1 ∧ ∀ D fuel' K', tkM D z ta de e → d < fuel' → ∃ B, f_X10_read_L62 fuel' D (nI it) K' = K' (nI c) B ∧ nb D B ∧ ∀ k, k < 74 → j_I B 49 k = nI (de1 k))
theorem s_loop (K : Int32 → j_M → Option (Int32 × j_M)) : ∀ d N de e it fuel, e + d = z → d < fuel → tkD de → tkC N z ta de e → it ≤ e → tkL z ta K d N de e it fuel := by
  intro d
  induction d using Nat.strongRecOn with
  | _ d ih =>
    intro N de e it fuel h1 h2 hd h hit
    have hz := h.1.1
    have he : e ≤ z := by omega
    have hsb0 := tS_b (ta := ta) he
    obtain ⟨fuel, rfl⟩ : ∃ f, fuel = f + 1 := ⟨fuel - 1, by omega⟩
    obtain ⟨N1, e1, e2, e3, e4⟩ := e_next h.1 he h.2.2
    have C1 : tkC N1 z ta de (tE z ta e) := h.kt e2 e4
    have hhead : f_X7_tellTo_L33 (fuel + 1) N (nI it) K = (if nI (tS z ta e) < nI z then ((f_X7_tellItem N1).bind fun q26 => j_ck N1 q26.2 (if q26.1 = 0 then (some (((-1) : Int32), q26.2)) else ((f_X7_nextEndsItem q26.2).bind fun q31 => j_ck q26.2 q31.2 (if q31.1 = 0 then (some (((-1) : Int32), q31.2)) else (f_X7_tellTo_L33 fuel q31.2 (nI it + (1 : Int32)) K))))) else (some (nI it, N1))) := by
      rw [f_X7_tellTo_L33, i_150, if_neg (nI_nlt (by omega) (by omega)), e1, Option.bind_some, j_ckE (by rw [e2.2]), e3, C1.1.2.1]
    by_cases c : tS z ta e < z
    · have hkp := kdT_pos c
      have hkb := kdT_b (z := z) (ta := ta) (e := e)
      rw [if_pos (nI_lt c (by omega))] at hhead
      rcases s_item hd he c C1 e3 with ⟨st, A, g1, g2, g3, g4, g5⟩ | ⟨p, de1, A, g0, g1, g2, g3, g4, g5, g6⟩
      · refine Or.inl ⟨st, A, g1, ?_, e2.nb.tr g3, g4, fun D fuel' K' hD hf => ?_⟩
        · rw [hhead, g2, Option.bind_some]
          dsimp only
          rw [j_ckE g3.2.2, if_pos rfl]
        · obtain ⟨B, b1, b2, b3⟩ := g5 D hD
          refine ⟨B, ?_, b2⟩
          obtain ⟨f, rfl⟩ : ∃ f, fuel' = f + 1 := ⟨fuel' - 1, by omega⟩
          rw [f_X10_read_L62, hD.1.2.2.2.1, if_neg (nI_ne0 hkp (by omega)), b1, Option.bind_some]
          dsimp only
          rw [j_ckE b2.2.2, if_pos rfl, b3]
      · obtain ⟨A1, a1, a2, a3, a4⟩ := e_endsItem g5.1 g1 g5.2.2
        have hkb1 := kdT_b (z := z) (ta := ta) (e := p)
        have hsb := tS_b (ta := ta) g1
        have heb := tE_b (ta := ta) g1
        by_cases c3 : kdT z ta p = 3
        · have hstep : f_X7_tellTo_L33 (fuel + 1) N (nI it) K = f_X7_tellTo_L33 fuel A1 (nI (it + 1)) K := by
            rw [hhead, g3, Option.bind_some]
            dsimp only
            rw [j_ckE g4.2.2, if_neg (by decide), a1, Option.bind_some]
            dsimp only
            rw [j_ckE (by rw [a2.2]), decide_eq_true c3, fl_t, if_neg (by decide), nI_1]
          have hm : ∀ D f K', tkM D z ta de e → ∃ B, nb D B ∧ tkM B z ta de1 (tE z ta p) ∧ f_X10_read_L62 (f + 1) D (nI it) K' = f_X10_read_L62 f B (nI (it + 1)) K' := fun D f K' hD => by
            obtain ⟨B, b1, b2, b3⟩ := g6 D hD
            obtain ⟨B1, x1, x2, x3⟩ := e_go g1 b3.1
            refine ⟨B1, b2.tr x2.nb, ⟨x3, fun k hk => by rw [x2.1 _ _ (by omega)]; exact b3.2 k hk⟩, ?_⟩
            rw [f_X10_read_L62, hD.1.2.2.2.1, if_neg (nI_ne0 hkp (by omega)), b1, Option.bind_some]
            dsimp only
            rw [j_ckE b2.2.2, if_neg (by decide), b3.1.2.2.2.1, if_pos (by rw [c3]; rfl), x1, Option.bind_some, j_ckE (by rw [x2.2]), nI_1]
          rcases ih (z - tE z ta p) (by omega) A1 de1 (tE z ta p) (it + 1) fuel (by omega) (by omega) g2 (g5.kt a2 a4) (by omega) with ⟨st, A2, r1, r2, r3, r4, r5⟩ | ⟨cc, de2, A2, r1, r2, r3, r4, r5, r6⟩
          · refine Or.inl ⟨st, A2, r1, by rw [hstep, r2], ((e2.nb.tr g4).tr a2.nb).tr r3, r4, fun D fuel' K' hD hf => ?_⟩
            obtain ⟨f, rfl⟩ : ∃ f, fuel' = f + 1 := ⟨fuel' - 1, by omega⟩
            obtain ⟨B, b1, b2, b3⟩ := hm D f K' hD
            obtain ⟨B1, x1, x2⟩ := r5 B f K' b2 (by omega)
            exact ⟨B1, by rw [b3, x1], b1.tr x2⟩
          · refine Or.inr ⟨cc, de2, A2, r1, by rw [hstep, r2], ((e2.nb.tr g4).tr a2.nb).tr r3, r4, r5, fun D fuel' K' hD hf => ?_⟩
            obtain ⟨f, rfl⟩ : ∃ f, fuel' = f + 1 := ⟨fuel' - 1, by omega⟩
            obtain ⟨B, b1, b2, b3⟩ := hm D f K' hD
            obtain ⟨B1, x1, x2, x3⟩ := r6 B f K' b2 (by omega)
            exact ⟨B1, by rw [b3, x1], b1.tr x2, x3⟩
        · refine Or.inl ⟨tS z ta p, A1, hsb.2, ?_, (e2.nb.tr g4).tr a2.nb, a3, fun D fuel' K' hD hf => ?_⟩
          · rw [hhead, g3, Option.bind_some]
            dsimp only
            rw [j_ckE g4.2.2, if_neg (by decide), a1, Option.bind_some]
            dsimp only
            rw [j_ckE (by rw [a2.2]), decide_eq_false c3, fl_f, if_pos rfl]
          · obtain ⟨B, b1, b2, b3⟩ := g6 D hD
            refine ⟨B, ?_, b2⟩
            obtain ⟨f, rfl⟩ : ∃ f, fuel' = f + 1 := ⟨fuel' - 1, by omega⟩
            rw [f_X10_read_L62, hD.1.2.2.2.1, if_neg (nI_ne0 hkp (by omega)), b1, Option.bind_some]
            dsimp only
            rw [j_ckE b2.2.2, if_neg (by decide), b3.1.2.2.2.1, i_3, if_neg (by rw [nI_eq (by omega) (by omega)]; exact c3), b3.1.2.1]
    · have hk : kdT z ta e = 0 := by unfold kdT; rw [if_neg c]
      refine Or.inr ⟨it, de, N1, by omega, ?_, e2.nb, C1.2.1, hd, fun D fuel' K' hD hf => ⟨D, ?_, nb.rf, hD.2⟩⟩
      · rw [hhead, if_neg (nI_nlt (by omega) (by omega))]
      · obtain ⟨f, rfl⟩ : ∃ f, fuel' = f + 1 := ⟨fuel' - 1, by omega⟩
        rw [f_X10_read_L62, hD.1.2.2.2.1, hk, if_pos (show nI 0 = 0 from rfl)]
theorem e_cp104 {B : j_M} {y : Int32} (K : Int32 → j_M → Option (Int32 × j_M)) : ∀ d k fuel, k + d = 74 → d < fuel → f_X10_read_L104 fuel (j_cp B 49 0 36 0 k) y (nI k) K = K (nI 74) (j_cp B 49 0 36 0 74) := by
  intro d
  induction d with
  | zero =>
    intro k fuel h1 h2
    obtain ⟨fuel, rfl⟩ : ∃ f, fuel = f + 1 := ⟨fuel - 1, by omega⟩
    rw [f_X10_read_L104, i_74, if_pos (nI_le (by omega) (by omega)), show k = 74 by omega]
  | succ d ih =>
    intro k fuel h1 h2
    obtain ⟨fuel, rfl⟩ : ∃ f, fuel = f + 1 := ⟨fuel - 1, by omega⟩
    have hc := cp_set (M := B) (sa := 49) (sp := 0) (da := 36) (dp := 0) (k := k)
    rw [Nat.zero_add] at hc
    rw [f_X10_read_L104, i_74, if_neg (nI_ge (by omega) (by omega)), a_iN (by omega) (by omega), I_cpn (by omega), w_iN (by omega) (by omega), hc, nI_1, ih (k + 1) fuel (by omega) (by omega)]
def tkR (M : j_M) (z : Nat) (ta : Nat → Nat) : Prop :=
  (∃ st A, f_X7_tellTo M = some (-1, A) ∧ nb M A ∧ j_I A 7 2 = nI st ∧ ∀ D, ty D z ta → ∃ B, f_X10_read D = some (-10 - nI st, B) ∧ nb D B) ∨
  (∃ c de1 A, c ≤ 150 ∧ f_X7_tellTo M = some (nI c, A) ∧ nb M A ∧ iB A 26 de1 ∧ tkD de1 ∧ ∀ D, ty D z ta → ∃ B, f_X10_read D = some (nI c, j_cp B 49 0 36 0 74) ∧ nb D B ∧ ∀ k, k < 74 → j_I B 49 k = nI (de1 k))
theorem s_read {M : j_M} (t : tx M z ta) : tkR M z ta := by
  have hz := t.1
  obtain ⟨N0, hN0⟩ : ∃ N0, N0 = j_sI (bg9 M 26) 7 3 (nI 0) := ⟨_, rfl⟩
  have hb9 : nb M (bg9 M 26) := ⟨fun a k c => I_bg9 (by unfold scr at c; omega), fun _ _ _ => rfl, rfl⟩
  have n0 : nb M N0 := by rw [hN0]; exact hb9.wr (by unfold scr; omega)
  have C0 : tkC N0 z ta (bgn (fun _ => 0)) 0 := ⟨t.nb n0, by rw [hN0]; exact (iB_begin (M := M) (b := 26)).to (fun a k h1 h2 => I_sIn (by omega)), by rw [hN0, I_sIe (by omega)]⟩
  have D0 : tkD (bgn (fun _ => 0)) := ⟨wf_begin, bgn_0 (by omega), bgn_0 (by omega)⟩
  obtain ⟨N1, e1, e2, e3, e4⟩ := e_next C0.1 (Nat.zero_le z) C0.2.2
  have C1 := C0.kt e2 e4
  have w0 := e_isWord (w := 0) (by omega) C1.1 (Nat.zero_le z) e3 C1.2.2
  have hs0 := tS_b (ta := ta) (Nat.zero_le z)
  have hb0 := tE_b (ta := ta) (Nat.zero_le z)
  have hs1 := tS_b (ta := ta) hb0.2.1
  have hb1 := tE_b (ta := ta) hb0.2.1
  have hkb := kdT_b (z := z) (ta := ta) (e := tE z ta 0)
  have h9 : f_X7_tellTo M = ((f_X7_isWord N1 0).bind fun v12 => (if v12 = 0 then (some (((-1) : Int32), N1)) else ((f_X7_nextEndsItem N1).bind fun q15 => j_ck N1 q15.2 (if q15.1 = 0 then (some (((-1) : Int32), q15.2)) else (f_X7_tellTo_L33 j_fu q15.2 (1 : Int32) (fun (y36 : Int32) (M37 : j_M) => (some (((-1) : Int32), M37)))))))) := by
    unfold f_X7_tellTo
    rw [e_begin9, Option.bind_some, j_ckE hb9.2.2, tlE, i_0, ← hN0, e1, Option.bind_some, j_ckE (by rw [e2.2])]
  have h10 : ∀ D, ty D z ta → ∃ B, km2 D B ∧ mP B z ta 0 ∧ f_X10_read D = ((f_X10_spells B (4 : Int32) (98 : Int32) (97 : Int32) (116 : Int32) (104 : Int32)).bind fun v5 => (if v5 = 0 then (some ((((-10) : Int32) - (j_I B 35 20)), B)) else ((f_X10_goBehind B).bind fun q8 => j_ck B q8 (if (j_I q8 35 22) = (3 : Int32) then ((f_X10_goBehind q8).bind fun q13 => j_ck q8 q13 ((f_X10_begin q13 49 74).bind fun q17 => j_ck q13 q17 (f_X10_read_L62 j_fu  q17 (1 : Int32) (fun (y32 : Int32) (M33 : j_M) => (f_X10_read_L104 j_fu  M33 y32 (0 : Int32) (fun (y41 : Int32) (M42 : j_M) => (some (y32, M42)))))))) else (some ((((-10) : Int32) - (j_I q8 35 20)), q8)))))) := fun D hD => by
    obtain ⟨B, b1, b2, b3, b4, b5, b6⟩ := e_lookAt (i := 0) hD (Nat.zero_le z)
    refine ⟨B, b2, ⟨hD.km b2, b3, b4, b5, b6⟩, ?_⟩
    unfold f_X10_read
    rw [show f_X10_lookAt D 0 = some B from b1, Option.bind_some, j_ckE (by rw [b2.2])]
  cases c0 : Wd z ta 0 0
  · rw [c0, fl_f] at w0
    refine Or.inl ⟨tS z ta 0, N1, ?_, n0.tr e2.nb, e3, fun D hD => ?_⟩
    · rw [h9, w0, Option.bind_some, if_pos rfl]
    · obtain ⟨B, b1, b2, b3⟩ := h10 D hD
      refine ⟨B, ?_, b1.nb⟩
      rw [b3, sp_0 (Nat.zero_le z) b2, c0, fl_f, Option.bind_some, if_pos rfl, b2.2.1]
  · rw [c0, fl_t] at w0
    obtain ⟨A1, a1, a2, a3, a4⟩ := e_endsItem C1.1 hb0.2.1 C1.2.2
    have hlen : 3 ≤ tE z ta 0 := by
      unfold Wd at c0
      rw [Bool.and_eq_true] at c0
      have := of_decide_eq_true c0.1
      have := (wc_k 0 (by omega)).1
      omega
    have h10b : ∀ D, ty D z ta → ∃ B, km2 D B ∧ mP B z ta (tE z ta 0) ∧ f_X10_read D = (if (j_I B 35 22) = (3 : Int32) then ((f_X10_goBehind B).bind fun q13 => j_ck B q13 ((f_X10_begin q13 49 74).bind fun q17 => j_ck q13 q17 (f_X10_read_L62 j_fu  q17 (1 : Int32) (fun (y32 : Int32) (M33 : j_M) => (f_X10_read_L104 j_fu  M33 y32 (0 : Int32) (fun (y41 : Int32) (M42 : j_M) => (some (y32, M42)))))))) else (some ((((-10) : Int32) - (j_I B 35 20)), B))) := fun D hD => by
      obtain ⟨B, b1, b2, b3⟩ := h10 D hD
      obtain ⟨B1, x1, x2, x3⟩ := e_go (Nat.zero_le z) b2
      refine ⟨B1, b1.tr x2, x3, ?_⟩
      rw [b3, sp_0 (Nat.zero_le z) b2, c0, fl_t, Option.bind_some, if_neg (by decide), x1, Option.bind_some, j_ckE (by rw [x2.2])]
    by_cases c3 : kdT z ta (tE z ta 0) = 3
    · have h9b : f_X7_tellTo M = f_X7_tellTo_L33 j_fu A1 (nI 1) (fun (y36 : Int32) (M37 : j_M) => (some (((-1) : Int32), M37))) := by
        rw [h9, w0, Option.bind_some, if_neg (by decide), a1, Option.bind_some]
        dsimp only
        rw [j_ckE (by rw [a2.2]), decide_eq_true c3, fl_t, if_neg (by decide), i_1]
      have h10c : ∀ D, ty D z ta → ∃ B, nb D B ∧ tkM B z ta (bgn (fun _ => 0)) (tE z ta (tE z ta 0)) ∧ f_X10_read D = (f_X10_read_L62 j_fu B (nI 1) (fun (y32 : Int32) (M33 : j_M) => (f_X10_read_L104 j_fu  M33 y32 (0 : Int32) (fun (y41 : Int32) (M42 : j_M) => (some (y32, M42)))))) := fun D hD => by
        obtain ⟨B, b1, b2, b3⟩ := h10b D hD
        obtain ⟨B1, x1, x2, x3⟩ := e_go hb0.2.1 b2
        have hnb : nb B1 (bg10 B1 49) := ⟨fun a k c => I_bg10 (Or.inl (by unfold scr at c; omega)), fun _ _ _ => rfl, rfl⟩
        refine ⟨bg10 B1 49, (b1.nb.tr x2.nb).tr hnb, ⟨x3.to (fun a k ha => I_bg10 (Or.inl (by omega))), fun k hk => I_bg10' hk⟩, ?_⟩
        rw [b3, b2.2.2.2.1, if_pos (by rw [c3]; rfl), x1, Option.bind_some, j_ckE (by rw [x2.2]), e_begin10 (by omega) (by omega), Option.bind_some, j_ckE hnb.2.2, i_1]
      have hfu : 100000 < j_fu := by unfold j_fu; omega
      rcases s_loop (ta := ta) (fun (y36 : Int32) (M37 : j_M) => (some (((-1) : Int32), M37))) (z - tE z ta (tE z ta 0)) A1 (bgn (fun _ => 0)) (tE z ta (tE z ta 0)) 1 j_fu (by omega) (by omega) D0 (C1.kt a2 a4) (by omega) with ⟨st, A2, r1, r2, r3, r4, r5⟩ | ⟨cc, de2, A2, r1, r2, r3, r4, r5, r6⟩
      · refine Or.inl ⟨st, A2, by rw [h9b, r2], ((n0.tr e2.nb).tr a2.nb).tr r3, r4, fun D hD => ?_⟩
        obtain ⟨B, b1, b2, b3⟩ := h10c D hD
        obtain ⟨B1, x1, x2⟩ := r5 B j_fu (fun (y32 : Int32) (M33 : j_M) => (f_X10_read_L104 j_fu  M33 y32 (0 : Int32) (fun (y41 : Int32) (M42 : j_M) => (some (y32, M42))))) b2 (by omega)
        exact ⟨B1, by rw [b3, x1], b1.tr x2⟩
      · refine Or.inr ⟨cc, de2, A2, r1, by rw [h9b, r2], ((n0.tr e2.nb).tr a2.nb).tr r3, r4, r5, fun D hD => ?_⟩
        obtain ⟨B, b1, b2, b3⟩ := h10c D hD
        obtain ⟨B1, x1, x2, x3⟩ := r6 B j_fu (fun (y32 : Int32) (M33 : j_M) => (f_X10_read_L104 j_fu  M33 y32 (0 : Int32) (fun (y41 : Int32) (M42 : j_M) => (some (y32, M42))))) b2 (by omega)
        have hcp := e_cp104 (B := B1) (y := nI cc) (fun (y41 : Int32) (M42 : j_M) => (some (nI cc, M42))) 74 0 j_fu (by omega) (by omega)
        rw [cp_0] at hcp
        exact ⟨B1, b3.trans (x1.trans hcp), b1.tr x2, x3⟩
    · refine Or.inl ⟨tS z ta (tE z ta 0), A1, ?_, (n0.tr e2.nb).tr a2.nb, a3, fun D hD => ?_⟩
      · rw [h9, w0, Option.bind_some, if_neg (by decide), a1, Option.bind_some]
        dsimp only
        rw [j_ckE (by rw [a2.2]), decide_eq_false c3, fl_f, if_pos rfl]
      · obtain ⟨B, b1, b2, b3⟩ := h10b D hD
        refine ⟨B, ?_, b1.nb⟩
        rw [b3, b2.2.2.2.1, i_3, if_neg (by rw [nI_eq (by omega) (by omega)]; exact c3), b2.2.1]
def mrg (de be : Nat → Nat) : Nat → Nat := fun k => if k < 74 then de k else be k
theorem mrg_l {de be : Nat → Nat} {k : Nat} (h : k < 74) : mrg de be k = de k := if_pos h
theorem mrg_h {de be : Nat → Nat} {k : Nat} (h : ¬ k < 74) : mrg de be k = be k := if_neg h
theorem op_read : lw_ok Inv (fun M => f_X9_read M) (fun M => f_X10_read M) := by
  refine okI (fun M h => ?_)
  obtain ⟨be, b1, b2, b3⟩ := h.2.2.2.2.1
  obtain ⟨z, ta, t⟩ := h.2.2.2.1
  have tX : tx M z ta := ⟨t.1, t.2.1, fun k hk => ⟨(t.2.2.2 k hk).1, (t.2.2.2 k hk).2.2⟩⟩
  have tY : ty M z ta := ⟨t.1, t.2.2.1, fun k hk => ⟨(t.2.2.2 k hk).2.1, (t.2.2.2 k hk).2.2⟩⟩
  rcases s_read tX with ⟨st, A, g1, g2, g3, g4⟩ | ⟨c, de, A, g0, g1, g2, g3, g4, g5⟩
  · obtain ⟨B, x1, x2⟩ := g4 A (tY.nb g2)
    refine ok_nb h (v := -10 - nI st) (M1 := A) (M2 := B) ?_ g2 x1 x2
    show f_X9_read M = _
    unfold f_X9_read
    rw [g1, Option.bind_some]
    dsimp only
    rw [j_ckE g2.2.2, if_pos rfl, g3]
  · have tYA := tY.nb g2
    have tYb : ty (bcm A 17 26) z ta := ⟨tYA.1, by rw [I_bcm (by omega)]; exact tYA.2.1, fun k hk => by rw [I_bcm (by omega)]; exact tYA.2.2 k hk⟩
    obtain ⟨B, x1, x2, x3⟩ := g5 (bcm A 17 26) tYb
    have hI2 : ∀ a k, ¬ scr a k → (a < 17 ∨ 25 ≤ a) → a ≠ 36 → j_I (j_cp B 49 0 36 0 74) a k = j_I M a k := fun a k q1 q2 q3 => by rw [I_cpn (by omega), x2.1 a k q1, I_bcm (by omega), g2.1 a k q1]
    have hf : ∀ j, j ≠ 3 → j < 74 → mrg de be j = de j := fun j _ hj => mrg_l hj
    have hf3 : mrg de be 3 = 0 := by rw [mrg_l (by omega)]; exact g4.2.1
    have hiB : iB (j_cp B 49 0 36 0 74) 17 de := (iB_bcm (b := 17) (o := 26) (by omega) g3 g4.1).to (fun a k q1 q2 => by
      by_cases c25 : a < 25
      · rw [I_cpn (by omega), x2.1 a k (by unfold scr; omega)]
      · omega)
    refine ok_gen (be' := mrg de be) (z := z) (ta := ta) h (v := nI c) (M1 := bcm A 17 26) (M2 := j_cp B 49 0 36 0 74) ?_ g2.2.2 x1 x2.2.2 ?_ ?_ ?_ ?_ ?_ ?_
    · show f_X9_read M = _
      unfold f_X9_read
      rw [g1, Option.bind_some]
      dsimp only
      rw [j_ckE g2.2.2, if_neg (nI_m1 (by omega)), e_becomes (by omega), Option.bind_some, j_ckE (show (bcm A 17 26).2.2 = A.2.2 from rfl)]
    · intro a k q
      exact hI2 a k (by unfold scr; omega) (by omega) (by omega)
    · have hL : ∀ a k, a ≠ 9 → j_L (j_cp B 49 0 36 0 74) a k = j_L M a k := fun a k q => (x2.2.1 a k q).trans (g2.2.1 a k q)
      have := h.2.2.1
      unfold iF at this ⊢
      rw [hL _ _ (by omega), hL _ _ (by omega), hL _ _ (by omega), hL _ _ (by omega)]
      exact this
    · exact t.to (hI2 _ _ (by unfold scr; omega) (by omega) (by omega)) (hI2 _ _ (by unfold scr; omega) (by omega) (by omega)) (fun k => hI2 _ _ (by unfold scr; omega) (by omega) (by omega)) (fun k => hI2 _ _ (by unfold scr; omega) (by omega) (by omega))
    · exact iB_low g4.1 hiB (fun _ _ _ _ _ _ => rfl) hf (by rw [hf3, hiB.2.1, g4.2.1]) (fun u hu => by rw [hf3] at hu; omega)
    · intro k hk
      rw [Nat.zero_add]
      by_cases c74 : k < 74
      · rw [I_cpe (by omega), show 0 + (k - 0) = k by omega, x3 k c74, mrg_l c74]
      · rw [I_cpn (by omega), x2.1 _ _ (by unfold scr; omega), I_bcm (by omega), g2.1 _ _ (by unfold scr; omega), mrg_h c74]
        have := b2 k hk
        rw [Nat.zero_add] at this
        exact this
    · exact wf_low g4.1 hf (by rw [hf3]; omega) (fun u hu => by rw [hf3] at hu; omega)
end
