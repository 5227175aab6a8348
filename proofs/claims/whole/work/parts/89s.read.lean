/-! the text: the model's tokens -/
section
variable {z : Nat} {ta : Nat → Nat} {N : j_M}
def km2 (N N' : j_M) : Prop := (∀ a k, ¬ (a = 35 ∧ 20 ≤ k ∧ k ≤ 23) → j_I N' a k = j_I N a k) ∧ N'.2 = N.2
theorem km2.rf : km2 N N := ⟨fun _ _ _ => rfl, rfl⟩
theorem km2.tr {N1 N2 N3 : j_M} (h : km2 N1 N2) (g : km2 N2 N3) : km2 N1 N3 := ⟨fun a k c => (g.1 a k c).trans (h.1 a k c), g.2.trans h.2⟩
theorem km2.sI {N1 N2 : j_M} {k : Nat} {v : Int32} (h : km2 N1 N2) (hk : 20 ≤ k ∧ k ≤ 23) : km2 N1 (j_sI N2 35 k v) := ⟨fun a j c => by rw [I_sIn (by omega)]; exact h.1 a j c, h.2⟩
theorem ty.km {N' : j_M} (h : ty N z ta) (g : km2 N N') : ty N' z ta := ⟨h.1, by rw [g.1 _ _ (by omega)]; exact h.2.1, fun k hk => by rw [g.1 _ _ (by omega)]; exact h.2.2 k hk⟩
theorem small_k : ∀ c, c < 128 → f_X10_isSmall (nI c) = if srt c = 1 then 1 else 0 := by decide +kernel
theorem fig_k : ∀ c, c < 128 → f_X10_isFigure (nI c) = if srt c = 2 then 1 else 0 := by decide +kernel
theorem e_look5 (K : j_M → Option j_M) : ∀ d i N fuel, i + d = z → d < fuel → ty N z ta → j_I N 35 20 = nI i → ∃ N', f_X10_lookAt_L5 fuel N K = K N' ∧ km2 N N' ∧ j_I N' 35 20 = nI (skp ta d i) := by
  intro d
  induction d with
  | zero =>
    intro i N fuel h1 h2 h3 h4
    obtain ⟨fuel, rfl⟩ : ∃ f, fuel = f + 1 := ⟨fuel - 1, by omega⟩
    refine ⟨N, ?_, km2.rf, h4⟩
    rw [f_X10_lookAt_L5, h3.2.1, h4, if_pos (nI_le (by omega) (by have := h3.1; omega))]
  | succ d ih =>
    intro i N fuel h1 h2 h3 h4
    have hz := h3.1
    obtain ⟨fuel, rfl⟩ : ∃ f, fuel = f + 1 := ⟨fuel - 1, by omega⟩
    have hb := h3.2.2 i (by omega)
    rw [f_X10_lookAt_L5, h3.2.1, h4, if_neg (nI_ge (by omega) (by omega)), a_iN (by omega) (by omega), hb.1, i_32]
    unfold skp
    by_cases c : ta i = 32
    · rw [if_pos (by rw [c]), if_pos c, tlE, nI_1]
      obtain ⟨N', e1, e2, e3⟩ := ih (i + 1) (j_sI N 35 20 (nI (i + 1))) fuel (by omega) (by omega) (h3.km (km2.rf.sI (by omega))) (by rw [I_sIe (by omega)])
      exact ⟨N', e1, (km2.rf.sI (by omega)).tr e2, e3⟩
    · rw [if_neg (by rw [nI_eq (by omega) (by omega)]; exact c), if_neg c]
      exact ⟨N, rfl, km2.rf, h4⟩
theorem e_look136 {s S : Nat} (hs : s = 1 ∨ s = 2) (K : Int32 → j_M → Option j_M) : ∀ d i N fuel, S + i + d = z → d + 1 < fuel → ty N z ta → j_I N 35 20 = nI S → j_I N 35 21 = nI i → j_I N 35 22 = nI s → ∃ N' y, f_X10_lookAt_L136 fuel N (1 : Int32) K = K y N' ∧ (∀ a k, ¬ (a = 35 ∧ k = 21) → j_I N' a k = j_I N a k) ∧ N'.2 = N.2 ∧ j_I N' 35 21 = nI (rnn ta s d (S + i) - S) := by
  intro d
  induction d with
  | zero =>
    intro i N fuel h1 h2 h3 h4 h5 h6
    obtain ⟨fuel, rfl⟩ : ∃ f, fuel = f + 1 := ⟨fuel - 1, by omega⟩
    refine ⟨N, 1, ?_, fun _ _ _ => rfl, rfl, by rw [h5, show rnn ta s 0 (S + i) - S = i from by show S + i - S = i; omega]⟩
    rw [f_X10_lookAt_L136, if_neg (by decide), h3.2.1, h4, h5, nI_add, if_pos (nI_le (by omega) (by have := h3.1; omega))]
  | succ d ih =>
    intro i N fuel h1 h2 h3 h4 h5 h6
    have hz := h3.1
    obtain ⟨fuel, rfl⟩ : ∃ f, fuel = f + 1 + 1 := ⟨fuel - 2, by omega⟩
    have hb := h3.2.2 (S + i) (by omega)
    have hjn : ∀ (F : Int32 → Option j_M), (if nI s = (1 : Int32) then (tl (f_X10_isSmall (nI (ta (S + i)))) fun v58 => (F v58)) else (tl (f_X10_isFigure (nI (ta (S + i)))) fun v56 => (F v56))) = F (if srt (ta (S + i)) = s then 1 else 0) := fun F => by
      rw [tlE, tlE, small_k _ (by omega), fig_k _ (by omega)]
      rcases hs with rfl | rfl
      · rw [if_pos (show nI 1 = 1 from rfl)]
      · rw [if_neg (by decide)]
    rw [f_X10_lookAt_L136, if_neg (by decide), h3.2.1, h4, h5, h6, nI_add, if_neg (nI_ge (by omega) (by omega)), a_iN (by omega) (by omega), hb.1, jnI hjn]
    unfold rnn
    by_cases c : srt (ta (S + i)) = s
    · rw [if_pos c, if_pos c, jnE, if_neg (by decide)]
      obtain ⟨N', y, e1, e2, e3, e4⟩ := ih (i + 1) (j_sI N 35 21 (nI (i + 1))) (fuel + 1) (by omega) (by omega) (h3.km (km2.rf.sI (by omega))) (by rw [I_sIn (by omega)]; exact h4) (by rw [I_sIe (by omega)]) (by rw [I_sIn (by omega)]; exact h6)
      refine ⟨N', y, ?_, fun a k hk => by rw [e2 a k hk, I_sIn (by omega)], e3, by rw [e4]; rfl⟩
      dsimp only
      rw [tlE, nI_1]
      exact e1
    · rw [if_neg c, if_neg c, jnE, if_pos rfl]
      refine ⟨j_sI N 35 21 (nI i), 0, ?_, fun a k hk => by rw [I_sIn (by omega)], rfl, by rw [I_sIe (by omega), show S + i - S = i by omega]⟩
      dsimp only
      rw [tlE, add0, f_X10_lookAt_L136, if_pos rfl]
theorem i0_1 : (0 : Int32) + 1 = nI 1 := by decide
theorem i1_1 : nI 1 + (1 : Int32) = nI 2 := by decide
theorem i1_0 : ¬ nI 1 = (0 : Int32) := by decide
def t0T (c : Nat) : Nat := if srt c = 1 then 1 else if srt c = 2 then 2 else if c = 59 then 3 else 4
theorem t0T_b (c : Nat) : t0T c ≤ 4 := by
  unfold t0T
  repeat' split
  all_goals omega
theorem look_j1 {c : Nat} (hc : c ≤ 127) (F : Int32 → Option j_M) : (if (if srt c = 1 then (1 : Int32) else 0) = 0 then (tl (f_X10_isFigure (nI c)) fun v82 => (if v82 = 0 then (if nI c = (59 : Int32) then (F (3 : Int32)) else (F (4 : Int32))) else (F (2 : Int32)))) else (F (1 : Int32))) = F (nI (t0T c)) := by
  rw [tlE, fig_k _ (by omega)]
  unfold t0T
  by_cases c1 : srt c = 1
  · rw [if_pos c1, if_neg (by decide), if_pos c1, i_1]
  · rw [if_neg c1, if_pos rfl, if_neg c1]
    by_cases c2 : srt c = 2
    · rw [if_pos c2, if_neg (by decide), if_pos c2, i_2]
    · rw [if_neg c2, if_pos rfl, if_neg c2, i_59]
      by_cases c3 : c = 59
      · rw [if_pos (by rw [c3]), if_pos c3, i_3]
      · rw [if_neg (by rw [nI_eq (by omega) (by omega)]; exact c3), if_neg c3, i_4]
theorem tE_in {i : Nat} (c : tS z ta i < z) : tE z ta i = if srt (ta (tS z ta i)) = 3 then tS z ta i + 1 else rnn ta (srt (ta (tS z ta i))) (z - (tS z ta i + 1)) (tS z ta i + 1) := by unfold tE; rw [if_pos c]
theorem look_mid {i fu : Nat} {N3 : j_M} (t3 : ty N3 z ta) (hj : 100000 < fu) (hi : i ≤ z) (c : tS z ta i < z) (g20 : j_I N3 35 20 = nI (tS z ta i)) (g21 : j_I N3 35 21 = nI 1) (g22 : j_I N3 35 22 = nI (t0T (ta (tS z ta i)))) (Kx : Int32 → j_M → Option j_M) : ∃ N4 y, jn (fun (v38 : Int32) => (f_X10_lookAt_L136 fu N3 v38 Kx)) (fun K39 => (if (3 : Int32) ≤ nI (t0T (ta (tS z ta i))) then (K39 (0 : Int32)) else (K39 (1 : Int32)))) = Kx y N4 ∧ km2 N3 N4 ∧ j_I N4 35 20 = nI (tS z ta i) ∧ j_I N4 35 21 = nI (tE z ta i - tS z ta i) ∧ j_I N4 35 22 = nI (t0T (ta (tS z ta i))) ∧ j_I N4 35 23 = j_I N3 35 23 := by
  have hz := t3.1
  have hs3 := srt_3 (ta (tS z ta i))
  have ht0b := t0T_b (ta (tS z ta i))
  have hEt := tE_in c
  by_cases c3 : srt (ta (tS z ta i)) = 3
  · have h34 : 3 ≤ t0T (ta (tS z ta i)) := by unfold t0T; rw [if_neg (by omega), if_neg (by omega)]; split <;> omega
    refine ⟨N3, 0, ?_, km2.rf, g20, by rw [g21, hEt, if_pos c3, show tS z ta i + 1 - tS z ta i = 1 by omega], g22, rfl⟩
    rw [jnE, i_3, if_pos (nI_le h34 (by omega))]
    obtain ⟨f, rfl⟩ : ∃ f, fu = f + 1 := ⟨fu - 1, by omega⟩
    show f_X10_lookAt_L136 (f + 1) N3 0 Kx = _
    rw [f_X10_lookAt_L136, if_pos rfl]
  · have h12 : t0T (ta (tS z ta i)) = srt (ta (tS z ta i)) := by
      unfold t0T
      rcases hs3 with e | e | e
      · rw [if_pos e, e]
      · rw [if_neg (by omega), if_pos e, e]
      · exact absurd e c3
    obtain ⟨N4, y, r1, r2, r3, r4⟩ := e_look136 (ta := ta) (s := srt (ta (tS z ta i))) (S := tS z ta i) (by omega) Kx (z - (tS z ta i + 1)) 1 N3 fu (by omega) (by omega) t3 g20 g21 (by rw [g22, h12])
    refine ⟨N4, y, ?_, ⟨fun a k hk => r2 a k (by omega), r3⟩, by rw [r2 _ _ (by omega)]; exact g20, by rw [r4, hEt, if_neg c3], by rw [r2 _ _ (by omega)]; exact g22, by rw [r2 _ _ (by omega)]⟩
    rw [jnE, i_3, if_neg (nI_ge (by omega) (by omega))]
    exact r1
theorem look_218 {i fu : Nat} {N4 : j_M} (t4 : ty N4 z ta) (hj : 100000 < fu) (hi : i ≤ z) (c : tS z ta i < z) (m3 : j_I N4 35 20 = nI (tS z ta i)) (m4 : j_I N4 35 21 = nI (tE z ta i - tS z ta i)) (m5 : j_I N4 35 22 = nI (t0T (ta (tS z ta i)))) (m6 : j_I N4 35 23 = 0) (Kx : Int32 → j_M → Option j_M) : ∃ N5 y, f_X10_lookAt_L218 fu N4 (0 : Int32) Kx = Kx y N5 ∧ km2 N4 N5 ∧ j_I N5 35 20 = nI (tS z ta i) ∧ j_I N5 35 21 = nI (tE z ta i - tS z ta i) ∧ j_I N5 35 22 = nI (t0T (ta (tS z ta i))) ∧ (t0T (ta (tS z ta i)) = 2 → j_I N5 35 23 = nI (vlT z ta i)) := by
  have hz := t4.1
  have hs3 := srt_3 (ta (tS z ta i))
  have ht0b := t0T_b (ta (tS z ta i))
  have hb2 := tE_b (ta := ta) hi
  have hlt := hb2.2.2 c
  obtain ⟨f, rfl⟩ : ∃ f, fu = f + 1 + 1 + 1 := ⟨fu - 3, by omega⟩
  rw [f_X10_lookAt_L218, m4, if_neg (show ¬ nI (tE z ta i - tS z ta i) ≤ (0 : Int32) from nI_nle (by omega) (by omega)), if_neg (by decide), m5]
  by_cases c2 : t0T (ta (tS z ta i)) = 2
  · have hsr : srt (ta (tS z ta i)) = 2 := by
      unfold t0T at c2
      rcases hs3 with e | e | e
      · rw [if_pos e] at c2; omega
      · exact e
      · rw [if_neg (by omega), if_neg (by omega)] at c2; split at c2 <;> omega
    have hfig : ∀ k, tS z ta i ≤ k → k < tE z ta i → 48 ≤ ta k ∧ ta k ≤ 57 := fun k h1 h2 => by
      have := tok_srt (ta := ta) hi (by omega) c h1 h2
      rw [hsr] at this
      unfold srt at this
      split at this
      · omega
      · split at this
        · omega
        · omega
    have q0 := hfig (tS z ta i) (Nat.le_refl _) hlt
    have ev0 : (((10 : Int32) * (0 : Int32)) + nI (ta (tS z ta i))) - (48 : Int32) = nI (ta (tS z ta i) - 48) := by
      rw [i_10, i_0, pk_mul, nI_add, i_48, pk_sub (by omega), show 10 * 0 + ta (tS z ta i) - 48 = ta (tS z ta i) - 48 by omega]
    rw [c2, i_2, if_pos rfl, m3, add0, a_iN (by omega) (by omega), (t4.2.2 _ c).1, m6, ev0, tlE, f_X10_lookAt_L218, I_sIn (by omega), m4, i0_1]
    by_cases c4 : tE z ta i - tS z ta i = 1
    · refine ⟨j_sI N4 35 23 (nI (ta (tS z ta i) - 48)), nI 1, ?_, km2.rf.sI (by omega), by rw [I_sIn (by omega)]; exact m3, by rw [I_sIn (by omega)]; exact m4, by rw [I_sIn (by omega)]; rw [m5, c2], fun _ => ?_⟩
      · rw [if_pos (nI_le (by omega) (by omega))]
      · rw [I_sIe (by omega)]; unfold vlT; rw [if_pos c4]
    · have q1 := hfig (tS z ta i + 1) (by omega) (by omega)
      have ev1 : (((10 : Int32) * nI (ta (tS z ta i) - 48)) + nI (ta (tS z ta i + 1))) - (48 : Int32) = nI (10 * (ta (tS z ta i) - 48) + (ta (tS z ta i + 1) - 48)) := by
        rw [i_10, pk_mul, nI_add, i_48, pk_sub (by omega), show 10 * (ta (tS z ta i) - 48) + ta (tS z ta i + 1) - 48 = 10 * (ta (tS z ta i) - 48) + (ta (tS z ta i + 1) - 48) by omega]
      refine ⟨j_sI (j_sI N4 35 23 (nI (ta (tS z ta i) - 48))) 35 23 (nI (10 * (ta (tS z ta i) - 48) + (ta (tS z ta i + 1) - 48))), nI 2, ?_, (km2.rf.sI (by omega)).sI (by omega), by rw [I_sIn (by omega), I_sIn (by omega)]; exact m3, by rw [I_sIn (by omega), I_sIn (by omega)]; exact m4, by rw [I_sIn (by omega), I_sIn (by omega)]; rw [m5, c2], fun _ => ?_⟩
      · rw [if_neg (nI_ge (by omega) (by omega)), if_neg (by decide), I_sIn (by omega), m5, c2, i_2, if_pos rfl, I_sIn (by omega), m3, nI_add, a_iN (by omega) (by omega), I_sIe (by omega), I_sIn (by omega), (t4.2.2 _ (by omega)).1, ev1, tlE, f_X10_lookAt_L218, I_sIn (by omega), I_sIn (by omega), m4, i1_1]
        by_cases c5 : nI (tE z ta i - tS z ta i) ≤ nI 2
        · rw [if_pos c5]
        · rw [if_neg c5, if_pos (by decide)]
      · rw [I_sIe (by omega)]; unfold vlT; rw [if_neg c4]
  · refine ⟨N4, 0, ?_, km2.rf, m3, m4, m5, fun x => absurd x c2⟩
    rw [if_neg (by rw [i_2, nI_eq (by omega) (by omega)]; exact c2)]
theorem kdT_in {i : Nat} (c : tS z ta i < z) : kdT z ta i = if t0T (ta (tS z ta i)) = 2 then (if tE z ta i - tS z ta i ≤ 2 then 2 else 4) else t0T (ta (tS z ta i)) := by
  unfold kdT t0T
  rw [if_pos c]
  by_cases c1 : srt (ta (tS z ta i)) = 1
  · rw [if_pos c1, if_pos c1, if_neg (by omega)]
  · rw [if_neg c1, if_neg c1]
    by_cases c2 : srt (ta (tS z ta i)) = 2
    · rw [if_pos c2, if_pos c2, if_pos rfl]
    · rw [if_neg c2, if_neg c2]
      by_cases c3 : ta (tS z ta i) = 59
      · rw [if_pos c3, if_neg (by omega)]
      · rw [if_neg c3, if_neg (by omega)]
theorem look_j2 {i : Nat} {N5 : j_M} (hz : z ≤ 150) (hi : i ≤ z) (c : tS z ta i < z) (n4 : j_I N5 35 21 = nI (tE z ta i - tS z ta i)) (n5 : j_I N5 35 22 = nI (t0T (ta (tS z ta i)))) (F : Int32 → Option j_M) : (if (j_I N5 35 22) = (2 : Int32) then (if (j_I N5 35 21) ≤ (2 : Int32) then (F (j_I N5 35 22)) else (F (4 : Int32))) else (F (j_I N5 35 22))) = F (nI (kdT z ta i)) := by
  have ht0b := t0T_b (ta (tS z ta i))
  have hb2 := tE_b (ta := ta) hi
  rw [n5, n4, kdT_in c, i_2]
  by_cases c2 : t0T (ta (tS z ta i)) = 2
  · rw [if_pos (by rw [c2]), if_pos c2]
    by_cases c3 : tE z ta i - tS z ta i ≤ 2
    · rw [if_pos (nI_le c3 (by omega)), if_pos c3, c2]
    · rw [if_neg (nI_ge (by omega) (by omega)), if_neg c3, i_4]
  · rw [if_neg (by rw [nI_eq (by omega) (by omega)]; exact c2), if_neg c2]
theorem e_lookAt {i : Nat} (h : ty N z ta) (hi : i ≤ z) : ∃ N', f_X10_lookAt N (nI i) = some N' ∧ km2 N N' ∧ j_I N' 35 20 = nI (tS z ta i) ∧ j_I N' 35 21 = nI (tE z ta i - tS z ta i) ∧ j_I N' 35 22 = nI (kdT z ta i) ∧ (kdT z ta i = 2 → j_I N' 35 23 = nI (vlT z ta i)) := by
  have hz := h.1
  have hb := tS_b (ta := ta) hi
  have hb2 := tE_b (ta := ta) hi
  unfold f_X10_lookAt
  have hj : 100000 < j_fu := by unfold j_fu; omega
  revert hj
  generalize j_fu = fu
  intro hj
  rw [tlE]
  obtain ⟨N1, e1, e2, e3⟩ := e_look5 (ta := ta) (fun (M11 : j_M) => (tl (j_sI M11 35 21 (0 : Int32)) fun M13 => (tl (j_sI M13 35 22 (0 : Int32)) fun M16 => (tl (j_sI M16 35 23 (0 : Int32)) fun M19 => (if (j_I M19 35 20) = (j_I M19 35 19) then (some M19) else (a_i M19 48 150 (j_I M19 35 20) fun v23 => (tl (f_X10_isSmall v23) fun v25 => (jn (fun (v28 : Int32) => (tl (j_sI M19 35 22 v28) fun M31 => (tl (j_sI M31 35 21 (1 : Int32)) fun M34 => (jn (fun (v38 : Int32) => (f_X10_lookAt_L136 fu  M34 v38 (fun (y60 : Int32) (M61 : j_M) => (f_X10_lookAt_L218 fu  M61 (0 : Int32) (fun (y71 : Int32) (M72 : j_M) => (jn (fun (v75 : Int32) => (tl (j_sI M72 35 22 v75) fun M78 => (some M78))) (fun K76 => (if (j_I M72 35 22) = (2 : Int32) then (if (j_I M72 35 21) ≤ (2 : Int32) then (K76 (j_I M72 35 22)) else (K76 (4 : Int32))) else (K76 (j_I M72 35 22)))))))))) (fun K39 => (if (3 : Int32) ≤ (j_I M34 35 22) then (K39 (0 : Int32)) else (K39 (1 : Int32)))))))) (fun K29 => (if v25 = 0 then (tl (f_X10_isFigure v23) fun v82 => (if v82 = 0 then (if v23 = (59 : Int32) then (K29 (3 : Int32)) else (K29 (4 : Int32))) else (K29 (2 : Int32)))) else (K29 (1 : Int32)))))))))))) (z - i) i (j_sI N 35 20 (nI i)) fu (by omega) (by omega) (h.km (km2.rf.sI (by omega))) (by rw [I_sIe (by omega)])
  have hS : skp ta (z - i) i = tS z ta i := rfl
  rw [hS] at e3
  have k1 : km2 N N1 := (km2.rf.sI (by omega)).tr e2
  obtain ⟨N2, hN2⟩ : ∃ N2, N2 = j_sI (j_sI (j_sI N1 35 21 (0 : Int32)) 35 22 (0 : Int32)) 35 23 (0 : Int32) := ⟨_, rfl⟩
  have k2 : km2 N N2 := by rw [hN2]; exact ((k1.sI (by omega)).sI (by omega)).sI (by omega)
  have t2 := h.km k2
  have f20 : j_I N2 35 20 = nI (tS z ta i) := by rw [hN2, I_sIn (by omega), I_sIn (by omega), I_sIn (by omega)]; exact e3
  have f21 : j_I N2 35 21 = 0 := by rw [hN2, I_sIn (by omega), I_sIn (by omega), I_sIe (by omega)]
  have f22 : j_I N2 35 22 = 0 := by rw [hN2, I_sIn (by omega), I_sIe (by omega)]
  have f23 : j_I N2 35 23 = 0 := by rw [hN2, I_sIe (by omega)]
  rw [e1, tlE, tlE, tlE, ← hN2, f20, t2.2.1]
  by_cases c : tS z ta i < z
  · have hbt := t2.2.2 _ c
    have ht0b := t0T_b (ta (tS z ta i))
    rw [if_neg (by rw [nI_eq (by omega) (by omega)]; omega), a_iN (by omega) (by omega), hbt.1, small_k _ (by omega), tlE, jnI (look_j1 hbt.2), tlE, tlE]
    obtain ⟨N3, hN3⟩ : ∃ N3, N3 = j_sI (j_sI N2 35 22 (nI (t0T (ta (tS z ta i))))) 35 21 (nI 1) := ⟨_, rfl⟩
    have k3 : km2 N N3 := by rw [hN3]; exact (k2.sI (by omega)).sI (by omega)
    have t3 := h.km k3
    have g20 : j_I N3 35 20 = nI (tS z ta i) := by rw [hN3, I_sIn (by omega), I_sIn (by omega)]; exact f20
    have g21 : j_I N3 35 21 = nI 1 := by rw [hN3, I_sIe (by omega)]
    have g22 : j_I N3 35 22 = nI (t0T (ta (tS z ta i))) := by rw [hN3, I_sIn (by omega), I_sIe (by omega)]
    have g23 : j_I N3 35 23 = 0 := by rw [hN3, I_sIn (by omega), I_sIn (by omega)]; exact f23
    rw [show (j_sI (j_sI N2 35 22 (nI (t0T (ta (tS z ta i))))) 35 21 (1 : Int32)) = N3 from by rw [hN3, i_1], g22]
    obtain ⟨N4, y, m1, m2, m3, m4, m5, m6⟩ := look_mid t3 hj hi c g20 g21 g22 (fun (y60 : Int32) (M61 : j_M) => (f_X10_lookAt_L218 fu  M61 (0 : Int32) (fun (y71 : Int32) (M72 : j_M) => (jn (fun (v75 : Int32) => (tl (j_sI M72 35 22 v75) fun M78 => (some M78))) (fun K76 => (if (j_I M72 35 22) = (2 : Int32) then (if (j_I M72 35 21) ≤ (2 : Int32) then (K76 (j_I M72 35 22)) else (K76 (4 : Int32))) else (K76 (j_I M72 35 22))))))))
    have k4 := k3.tr m2
    have t4 := h.km k4
    obtain ⟨N5, y5, n1, n2, n3, n4, n5, n6⟩ := look_218 t4 hj hi c m3 m4 m5 (m6.trans g23) (fun (y71 : Int32) (M72 : j_M) => (jn (fun (v75 : Int32) => (tl (j_sI M72 35 22 v75) fun M78 => (some M78))) (fun K76 => (if (j_I M72 35 22) = (2 : Int32) then (if (j_I M72 35 21) ≤ (2 : Int32) then (K76 (j_I M72 35 22)) else (K76 (4 : Int32))) else (K76 (j_I M72 35 22))))))
    refine ⟨j_sI N5 35 22 (nI (kdT z ta i)), ?_, (k4.tr n2).sI (by omega), by rw [I_sIn (by omega)]; exact n3, by rw [I_sIn (by omega)]; exact n4, by rw [I_sIe (by omega)], fun hk => ?_⟩
    · refine m1.trans ?_
      refine n1.trans ?_
      rw [jnI (look_j2 hz hi c n4 n5), tlE]
    · rw [I_sIn (by omega)]
      refine n6 ?_
      rw [kdT_in c] at hk
      by_cases c2 : t0T (ta (tS z ta i)) = 2
      · exact c2
      · rw [if_neg c2] at hk; exact hk
  · have hE : tE z ta i = tS z ta i := by unfold tE; rw [if_neg c]
    have hk : kdT z ta i = 0 := by unfold kdT; rw [if_neg c]
    refine ⟨N2, ?_, k2, f20, by rw [hE, Nat.sub_self]; exact f21, by rw [hk]; exact f22, fun x => by omega⟩
    rw [if_pos (by rw [show tS z ta i = z by omega])]
end
