/-! the text: numbers and items -/
section
variable {z : Nat} {ta : Nat → Nat} {N : j_M} {de : Nat → Nat} {e : Nat}
theorem kt2.nb {N' : j_M} (h : kt2 N N') : nb N N' := ⟨fun a k c => h.1 a k (fun x => c (by unfold scr; omega)), fun a k _ => by show N'.2.1 a k = N.2.1 a k; rw [h.2], by rw [h.2]⟩
theorem km2.nb {N' : j_M} (h : km2 N N') : nb N N' := ⟨fun a k c => h.1 a k (fun x => c (by unfold scr; omega)), fun a k _ => by show N'.2.1 a k = N.2.1 a k; rw [h.2], by rw [h.2]⟩
theorem tx.nb {N' : j_M} (h : tx N z ta) (g : nb N N') : tx N' z ta := ⟨h.1, by rw [g.1 _ _ (by unfold scr; omega)]; exact h.2.1, fun k hk => by rw [g.1 _ _ (by unfold scr; omega)]; exact h.2.2 k hk⟩
theorem ty.nb {N' : j_M} (h : ty N z ta) (g : nb N N') : ty N' z ta := ⟨h.1, by rw [g.1 _ _ (by unfold scr; omega)]; exact h.2.1, fun k hk => by rw [g.1 _ _ (by unfold scr; omega)]; exact h.2.2 k hk⟩
theorem mP.to {N' : j_M} (h : mP N z ta e) (g : ∀ a k, a = 35 ∨ a = 48 → j_I N' a k = j_I N a k) : mP N' z ta e := by
  obtain ⟨⟨t1, t2, t3⟩, h2, h3, h4, h5⟩ := h
  refine ⟨⟨t1, by rw [g _ _ (by omega)]; exact t2, fun k hk => by rw [g _ _ (by omega)]; exact t3 k hk⟩, by rw [g _ _ (by omega)]; exact h2, by rw [g _ _ (by omega)]; exact h3, by rw [g _ _ (by omega)]; exact h4, fun x => by rw [g _ _ (by omega)]; exact h5 x⟩
theorem e_go {D : j_M} (he : e ≤ z) (h : mP D z ta e) : ∃ B, f_X10_goBehind D = some B ∧ km2 D B ∧ mP B z ta (tE z ta e) := by
  obtain ⟨h1, h2, h3, -⟩ := h
  have hb2 := tE_b (ta := ta) he
  obtain ⟨B, e1, e2, e3, e4, e5, e6⟩ := e_lookAt (i := tE z ta e) h1 hb2.2.1
  refine ⟨B, ?_, e2, h1.km e2, e3, e4, e5, e6⟩
  unfold f_X10_goBehind
  rw [h2, h3, nI_add, show tS z ta e + (tE z ta e - tS z ta e) = tE z ta e by omega, e1, Option.bind_some, j_ckE (by rw [e2.2])]
theorem rdn (he : e ≤ z) (lo hi : Int32) (a b : Nat) (h1 : lo = nI a) (h2 : hi = nI b) (h3 : lo.toInt64 = lN a) (h4 : hi.toInt64 = lN b) (hab : a ≤ b) (hb : b < 1000000) :
    (f_X9_within (nbO z ta e) lo hi = 0 ∧ ∀ D k, mP D z ta e → f_X10_takes D k lo hi = some (0, D)) ∨
    (∃ j, a ≤ j ∧ j ≤ b ∧ kdT z ta e = 2 ∧ nI (vlT z ta e) = nI j ∧ nbO z ta e = nI j ∧ f_X9_within (nbO z ta e) lo hi = 1 ∧ ∀ D k, k < 3 → mP D z ta e → ∃ B, f_X10_takes D (nI k) lo hi = some (1, B) ∧ nb D B ∧ mP B z ta (tE z ta e) ∧ (∀ m, j_I B 49 m = j_I D 49 m) ∧ (∀ m, j_I B 50 m = if m = k then nI j else j_I D 50 m)) := by
  have hk := kdT_b (z := z) (ta := ta) (e := e)
  by_cases c : kdT z ta e = 2
  · have hn : nbO z ta e = nI (vlT z ta e) := by unfold nbO; rw [if_pos c]
    rw [hn]
    rcases rg (x := nI (vlT z ta e)) (lo := lo) (hi := hi) a b h1 h2 h3 h4 hab hb with ⟨p0, q0⟩ | ⟨j, m0, l0, ej, p0, q0⟩
    · refine Or.inl ⟨p0, fun D k h => ?_⟩
      unfold f_X10_takes
      rw [h.2.2.2.1, c, if_pos (show nI 2 = 2 from rfl), h.2.2.2.2 c, tlE, q0, if_pos rfl]
    · refine Or.inr ⟨j, m0, l0, c, ej, ej, p0, fun D k hk h => ?_⟩
      have h' : mP (j_sI D 50 k (nI j)) z ta e := h.to (fun a m ha => by rw [I_sIn (by omega)])
      obtain ⟨B, e1, e2, e3⟩ := e_go he h'
      refine ⟨B, ?_, (nb.rf.wr (by unfold scr; omega)).tr e2.nb, e3, fun m => by rw [e2.1 _ _ (by omega), I_sIn (by omega)], fun m => ?_⟩
      · unfold f_X10_takes
        rw [h.2.2.2.1, c, if_pos (show nI 2 = 2 from rfl), h.2.2.2.2 c, tlE, q0, if_neg (by decide), ej, w_iN (by omega) (by omega), e1, Option.bind_some, j_ckE (by rw [e2.2])]
      · rw [e2.1 _ _ (by omega)]
        by_cases cm : m = k
        · rw [if_pos cm, cm, I_sIe (by omega)]
        · rw [if_neg cm, I_sIn (by omega)]
  · have hn : nbO z ta e = -1 := by unfold nbO; rw [if_neg c]
    rw [hn]
    rcases rg (x := (-1 : Int32)) (lo := lo) (hi := hi) a b h1 h2 h3 h4 hab hb with ⟨p0, q0⟩ | ⟨j, m0, l0, ej, p0, q0⟩
    · refine Or.inl ⟨p0, fun D k h => ?_⟩
      unfold f_X10_takes
      rw [h.2.2.2.1, i_2, if_neg (by rw [nI_eq (by omega) (by omega)]; exact c)]
    · exact absurd ej.symm (nI_m1 (by omega))
def tkC (N : j_M) (z : Nat) (ta : Nat → Nat) (de : Nat → Nat) (e : Nat) : Prop := tx N z ta ∧ iB N 26 de ∧ j_I N 7 3 = nI e
def tkM (N : j_M) (z : Nat) (ta : Nat → Nat) (de : Nat → Nat) (e : Nat) : Prop := mP N z ta e ∧ ∀ k, k < 74 → j_I N 49 k = nI (de k)
def tkD (de : Nat → Nat) : Prop := wf de ∧ de 3 = 0 ∧ de 2 = 0
theorem tkC.kt {N' : j_M} {e' : Nat} (h : tkC N z ta de e) (g : kt2 N N') (h3 : j_I N' 7 3 = nI e') : tkC N' z ta de e' := ⟨h.1.kt g, h.2.1.to (fun a k h1 h2 => g.1 a k (by omega)), h3⟩
theorem c_num (h : tkC N z ta de e) (he : e ≤ z) : ∃ N', f_X7_nextNumber N = some (nbO z ta e, N') ∧ nb N N' ∧ tkC N' z ta de (tE z ta e) ∧ j_I N' 7 2 = nI (tS z ta e) := by
  obtain ⟨N', e1, e2, e3, e4⟩ := e_nextNumber h.1 he h.2.2
  exact ⟨N', e1, e2.nb, h.kt e2 e4, e3⟩
def tkS (z : Nat) (ta : Nat → Nat) (de : Nat → Nat) (e : Nat) (f9 f10 : j_M → Option (Int32 × j_M)) (N : j_M) : Prop :=
  (∃ st A, st ≤ z ∧ f9 N = some (0, A) ∧ nb N A ∧ j_I A 7 2 = nI st ∧ ∀ D, tkM D z ta de e → ∃ B, f10 D = some (0, B) ∧ nb D B ∧ j_I B 35 20 = nI st) ∨
  (∃ e1 de1 A, e < e1 ∧ e1 ≤ z ∧ tkD de1 ∧ f9 N = some (1, A) ∧ nb N A ∧ tkC A z ta de1 e1 ∧ ∀ D, tkM D z ta de e → ∃ B, f10 D = some (1, B) ∧ nb D B ∧ tkM B z ta de1 e1)
theorem tkS.of {f9 f10 g9 g10 : j_M → Option (Int32 × j_M)} (h : tkS z ta de e f9 f10 N) (k9 : ∀ r A, r = 0 ∨ r = 1 → f9 N = some (r, A) → nb N A → g9 N = some (r, A)) (k10 : ∀ D r B, r = 0 ∨ r = 1 → tkM D z ta de e → f10 D = some (r, B) → nb D B → g10 D = some (r, B)) : tkS z ta de e g9 g10 N := by
  rcases h with ⟨st, A, h1, h2, h3, h4, h5⟩ | ⟨e1, de1, A, h1, h2, h3, h4, h5, h6, h7⟩
  · refine Or.inl ⟨st, A, h1, k9 _ _ (Or.inl rfl) h2 h3, h3, h4, fun D hD => ?_⟩
    obtain ⟨B, b1, b2, b3⟩ := h5 D hD
    exact ⟨B, k10 _ _ _ (Or.inl rfl) hD b1 b2, b2, b3⟩
  · refine Or.inr ⟨e1, de1, A, h1, h2, h3, k9 _ _ (Or.inr rfl) h4 h5, h5, h6, fun D hD => ?_⟩
    obtain ⟨B, b1, b2, b3⟩ := h7 D hD
    exact ⟨B, k10 _ _ _ (Or.inr rfl) hD b1 b2, b2, b3⟩
theorem iB_sign {M : j_M} {b l v : Nat} (h : iB M b de) (hl : l < 4) (h3 : de 3 = 0) (h2 : de 2 = 0) : iB (j_sI M (b + 1) l (nI v)) b (up de (4 + l) v) := by
  obtain ⟨c1, c2, c3, c4, c5, c6, c7, c8⟩ := h
  refine ⟨by rw [I_sIn (by omega), up_n (by omega)]; exact c1, by rw [I_sIn (by omega), up_n (by omega)]; exact c2, by rw [I_sIn (by omega), up_n (by omega)]; exact c3, fun m hm => ⟨?_, ?_⟩, fun p hp => ?_, fun k hk => ?_, fun u hu => ?_, fun i hi => ?_⟩
  · by_cases c : m = l
    · rw [c, I_sIe (by omega), up_s]
    · rw [I_sIn (by omega), up_n (by omega)]; exact (c4 m hm).1
  · rw [I_sIn (by omega), up_n (by omega)]; exact (c4 m hm).2
  · rw [up_n (by omega)] at hp
    rw [I_sIn (by omega), up_n (by omega), I_sIn (by omega), up_n (by omega)]; exact c5 p hp
  · rw [I_sIn (by omega), c6 k hk]
    unfold rowOf
    by_cases c : k = 0
    · rw [if_pos c, if_pos c, up_n (by omega)]
    · rw [if_neg c, if_neg c, up_n (by omega)]
  · rw [up_n (by omega)] at hu; omega
  · rw [up_n (by omega)] at hi; omega
theorem tkD_sign {l v : Nat} (h : tkD de) (hl : l < 4) (hv : v ≤ 2) : tkD (up de (4 + l) v) := by
  obtain ⟨⟨w1, w2, w3, w4, w5, w6, w7, w8, w9⟩, h3, h2⟩ := h
  have hf : (fun k => up de (4 + l) v (9 + k)) = fun k => de (9 + k) := funext fun k => up_n (by omega)
  refine ⟨⟨by rw [up_n (by omega)]; exact w1, by rw [up_n (by omega)]; exact w2, by rw [up_n (by omega)]; exact w3, by rw [up_n (by omega)]; exact w4, fun m hm => ?_, fun p hp => ?_, ?_, fun u hu => ?_, fun i hi => ?_⟩, by rw [up_n (by omega)]; exact h3, by rw [up_n (by omega)]; exact h2⟩
  · by_cases c : m = l
    · rw [c, up_s]; exact hv
    · rw [up_n (by omega)]; exact w5 m hm
  · rw [up_n (by omega)] at hp
    rw [up_n (by omega), up_n (by omega)]; exact w6 p hp
  · rw [hf, up_n (by omega), up_n (by omega), up_n (by omega)]; exact w7
  · rw [up_n (by omega)] at hu; omega
  · rw [up_n (by omega)] at hi; omega
theorem isLane_e {x : Int32} : f_X9_isLane x = f_X9_within x 0 3 := rfl
theorem isKind_e {x : Int32} : f_X9_isKind x = f_X9_within x 0 5 := rfl
theorem isPace_e {x : Int32} : f_X9_isPace x = f_X9_within x 20 90 := rfl
theorem s_sign (hd : tkD de) (he : e ≤ z) (hlt : tS z ta e < z) (h : tkC N z ta de (tE z ta e)) : tkS z ta de e f_X7_tellSign f_X10_takesSign N := by
  have hb := tE_b (ta := ta) he
  have hb0 := tS_b (ta := ta) he
  obtain ⟨N1, a1, a2, a3, a4⟩ := c_num h hb.2.1
  have hs1 := tS_b (ta := ta) hb.2.1
  have hb1 := tE_b (ta := ta) hb.2.1
  rcases rdn (ta := ta) hb.2.1 0 3 0 3 rfl rfl rfl rfl (by omega) (by omega) with ⟨w0, m0⟩ | ⟨j, j1, j2, j3, j4, j5, w0, m0⟩
  · refine Or.inl ⟨_, N1, hs1.2, ?_, a2, a4, fun D hD => ?_⟩
    · unfold f_X7_tellSign
      rw [a1, Option.bind_some]
      dsimp only
      rw [j_ckE a2.2.2, isLane_e, tlE, w0, if_pos rfl]
    · obtain ⟨B, b1, b2, b3⟩ := e_go he hD.1
      refine ⟨B, ?_, b2.nb, b3.2.1⟩
      unfold f_X10_takesSign
      rw [b1, Option.bind_some, j_ckE (by rw [b2.2]), m0 _ _ b3, Option.bind_some]
      dsimp only
      rw [j_ckE rfl, if_pos rfl]
  · obtain ⟨N2, g1, g2, g3, g4⟩ := c_num a3 hb1.2.1
    have hs2 := tS_b (ta := ta) hb1.2.1
    have hb2 := tE_b (ta := ta) hb1.2.1
    rcases rdn (ta := ta) hb1.2.1 0 2 0 2 rfl rfl rfl rfl (by omega) (by omega) with ⟨w1, m1⟩ | ⟨i, i1, i2, i3, i4, i5, w1, m1⟩
    · refine Or.inl ⟨_, N2, hs2.2, ?_, a2.tr g2, g4, fun D hD => ?_⟩
      · unfold f_X7_tellSign
        rw [a1, Option.bind_some]
        dsimp only
        rw [j_ckE a2.2.2, isLane_e, tlE, w0, if_neg (by decide), g1, Option.bind_some]
        dsimp only
        rw [j_ckE g2.2.2, tlE, w1, if_pos rfl]
      · obtain ⟨B, b1, b2, b3⟩ := e_go he hD.1
        obtain ⟨B1, x1, x2, x3, x4, x5⟩ := m0 B 0 (by omega) b3
        refine ⟨B1, ?_, b2.nb.tr x2, x3.2.1⟩
        unfold f_X10_takesSign
        rw [b1, Option.bind_some, j_ckE (by rw [b2.2]), show f_X10_takes B 0 0 3 = _ from x1, Option.bind_some]
        dsimp only
        rw [j_ckE x2.2.2, if_neg (by decide), m1 _ _ x3, Option.bind_some]
        dsimp only
        rw [j_ckE rfl, if_pos rfl]
    · refine Or.inr ⟨tE z ta (tE z ta (tE z ta e)), up de (4 + j) i, j_sI N2 (26 + 1) j (nI i), by have := hb.2.2 hlt; omega, hb2.2.1, tkD_sign hd (by omega) i2, ?_, (a2.tr g2).wr (by unfold scr; omega), ⟨g3.1.nb (nb.rf.wr (by unfold scr; omega)), iB_sign g3.2.1 (by omega) hd.2.1 hd.2.2, by rw [I_sIn (by omega)]; exact g3.2.2⟩, fun D hD => ?_⟩
      · unfold f_X7_tellSign
        rw [a1, Option.bind_some]
        dsimp only
        rw [j_ckE a2.2.2, isLane_e, tlE, w0, if_neg (by decide), g1, Option.bind_some]
        dsimp only
        rw [j_ckE g2.2.2, tlE, w1, if_neg (by decide), j5, i5, w_iN (by omega) (by omega)]
      · obtain ⟨B, b1, b2, b3⟩ := e_go he hD.1
        obtain ⟨B1, x1, x2, x3, x4, x5⟩ := m0 B 0 (by omega) b3
        obtain ⟨B2, y1, y2, y3, y4, y5⟩ := m1 B1 1 (by omega) x3
        refine ⟨j_sI B2 49 (4 + j) (nI i), ?_, ((b2.nb.tr x2).tr y2).wr (by unfold scr; omega), y3.to (fun a m ha => by rw [I_sIn (by omega)]), fun m hm => ?_⟩
        · unfold f_X10_takesSign
          rw [b1, Option.bind_some, j_ckE (by rw [b2.2]), show f_X10_takes B 0 0 3 = _ from x1, Option.bind_some]
          dsimp only
          rw [j_ckE x2.2.2, if_neg (by decide), show f_X10_takes B1 1 0 2 = _ from y1, Option.bind_some]
          dsimp only
          rw [j_ckE y2.2.2, if_neg (by decide), i_0, a_iN (by omega) (by omega), i_1, a_iN (by omega) (by omega), y5, y5, if_neg (by omega), if_pos rfl, x5, if_pos rfl, i_4, nI_add, w_iN (by omega) (by omega)]
        · by_cases c : m = 4 + j
          · rw [c, I_sIe (by omega), up_s]
          · rw [I_sIn (by omega), up_n c, y4, x4, b2.1 _ _ (by omega)]; exact hD.2 m hm
end
