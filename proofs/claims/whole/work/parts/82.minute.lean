/-! minute: the model, and the op -/
def fp (B : Nat → Nat) (T p : Nat) : Nat → Nat := fun k => if 16 ≤ k ∧ k < 16 + p then B k + (B (7 + k) + 60 * T) / ee B (rowOf B) (k - 16) else if 23 ≤ k ∧ k < 23 + p then (B k + 60 * T) % ee B (rowOf B) (k - 23) else B k
theorem fp_n {B : Nat → Nat} {T p k : Nat} (h : k < 16 ∨ (16 + p ≤ k ∧ k < 23) ∨ 23 + p ≤ k) : fp B T p k = B k := by
  unfold fp
  by_cases c : 16 ≤ k ∧ k < 16 + p
  · rw [if_pos c]
    exfalso
    omega
  · rw [if_neg c, if_neg (by omega)]
theorem row_15 {B : Nat → Nat} {q : Nat} : rowOf B (15 + q) = B (23 + q) := by unfold rowOf; rw [if_neg (by omega), show 8 + (15 + q) = 23 + q by omega]
theorem row_8 {B : Nat → Nat} {q : Nat} : rowOf B (8 + q) = B (16 + q) := by unfold rowOf; rw [if_neg (by omega), show 8 + (8 + q) = 16 + q by omega]
theorem e_minute10 {M : j_M} {B : Nat → Nat} {la : Nat → Int32} {g s o : Int32} {T : Nat} (w : wf B) (hla : ∀ q, q < B 0 → la q = nI (rowOf B (1 + q)) ∧ rowOf B (1 + q) < 2 ^ 31) (hT : 0 < T) (hT6 : T ≤ 60) (fuel : Nat) (hfu : 1000 < fuel) (K : Int32 → Int32 → j_M → Option (Int32 × j_M)) : ∃ g' s' o', f_X10_minute_L61 fuel (st (BM M B) la g s o) (nI T) (0 : Int32) (0 : Int32) K = K (nI (sm (B 0) (cS B (rowOf B) T))) (nI (B 0)) (st (BM M (fp B T (B 0))) la g' s' o') := by
  have h7 := w.1
  have hmK : ∀ p, p ≤ B 0 → mK (BM M (fp B T p)) (B 0) (fun p => B (30 + p)) (fun p => B (37 + p)) := fun p hp => (Inv.mK (M := BM M B) iM_BM w).to (fun k h1 h2 => by
    rw [I_BMe (by omega), I_BMe (by omega), fp_n (by omega)])
  have key : ∀ d p fuel g s o K, p + d = B 0 → d < fuel → ∃ g' s' o', f_X10_minute_L61 fuel (st (BM M (fp B T p)) la g s o) (nI T) (nI (sm p (cS B (rowOf B) T))) (nI p) K = K (nI (sm (B 0) (cS B (rowOf B) T))) (nI (B 0)) (st (BM M (fp B T (B 0))) la g' s' o') := by
    intro d
    induction d with
    | zero =>
      intro p fuel g s o K h1 h2
      obtain ⟨fuel, rfl⟩ : ∃ f, fuel = f + 1 := ⟨fuel - 1, by omega⟩
      refine ⟨g, s, o, ?_⟩
      rw [f_X10_minute_L61, st_many (hmK p (by omega)).1, Option.bind_some, if_pos (nI_le (by omega) (by omega)), show p = B 0 by omega]
    | succ d ih =>
      intro p fuel g s o K h1 h2
      obtain ⟨fuel, rfl⟩ : ∃ f, fuel = f + 1 := ⟨fuel - 1, by omega⟩
      have hp : p < B 0 := by omega
      have he := ee_b (r := rowOf B) w hp
      have hrb := (rB_row w).2 p (by omega)
      rw [row_15, row_8] at hrb
      have hb1 := (rB_row w).1
      have hb1' : B 1 ≤ 999 := hb1
      have htk : tk (B 0) (B (30 + p)) (fun p => B (37 + p)) p (oL la p (la p)) = ee B (rowOf B) p := by
        rw [(hla p hp).1]
        exact tk_congr (oL_oth hla (hla p hp).2)
      have hcs : cS B (rowOf B) T p = (B (23 + p) + 60 * T) / ee B (rowOf B) p := by
        unfold cS
        rw [if_neg (by omega), row_15]
      have hq : (B (23 + p) + 60 * T) / ee B (rowOf B) p ≤ (107 + 3600) / 20 := Nat.div_le_div (by omega) he.1 (by omega)
      obtain ⟨g', s', o', e⟩ := ih (p + 1) fuel (nI (gp (B 0) (fun p => B (37 + p)) (oL la p (la p)))) (nI (sl (B 0) (fun p => B (37 + p)) p (oL la p (la p)))) (nI (ct (B 0) (oL la p (la p)))) K (by omega) (by omega)
      refine ⟨g', s', o', ?_⟩
      have e23 : j_I (BM M (fp B T p)) 36 (23 + p) = nI (B (23 + p)) := by rw [I_BMe (by omega), fp_n (by omega)]
      have e16 : j_I (BM M (fp B T p)) 36 (16 + p) = nI (B (16 + p)) := by rw [I_BMe (by omega), fp_n (by omega)]
      have hx : e_sec (M := BM M (fp B T p)) (la := la) (g := g) (s := s) (o := o) (hmK p (by omega)) hp (la p) = e_sec (hmK p (by omega)) hp (la p) := rfl
      have hsec := e_sec (M := BM M (fp B T p)) (la := la) (g := g) (s := s) (o := o) (hmK p (by omega)) hp (la p)
      rw [show tk (B 0) ((fun p => B (30 + p)) p) (fun p => B (37 + p)) p (oL la p (la p)) = ee B (rowOf B) p from htk] at hsec
      rw [f_X10_minute_L61, st_many (hmK p (by omega)).1, Option.bind_some, if_neg (nI_ge (by omega) (by omega)), if_neg (nI_nle (by omega) (by omega)), a_iN (by omega) (by omega), I_st40 (by omega), hsec, Option.bind_some, j_ckE (by rfl), i_23, nI_add, a_iN (by omega) (by omega), I_st (by omega) (by omega), e23, i_16, nI_add, a_iN (by omega) (by omega), I_st (by omega) (by omega), e16, i_60, pk_mul, nI_add, d_iN (by omega) (by omega) (by omega), nI_add, w_iN (by omega) (by omega), st_BM (by omega), r_iN (by omega) (by omega) (by omega), w_iN (by omega) (by omega), st_BM (by omega), d_iN (by omega) (by omega) (by omega), nI_add, nI_1]
      rw [show sm (p + 1) (cS B (rowOf B) T) = sm p (cS B (rowOf B) T) + (B (23 + p) + 60 * T) / ee B (rowOf B) p by rw [← hcs]; rfl] at e
      have hf : BM M (up (up (fp B T p) (16 + p) (B (16 + p) + (B (23 + p) + 60 * T) / ee B (rowOf B) p)) (23 + p) ((B (23 + p) + 60 * T) % ee B (rowOf B) p)) = BM M (fp B T (p + 1)) := BM_congr (fun k hk => by
        by_cases e23 : k = 23 + p
        · subst e23
          rw [up_e rfl]
          unfold fp
          rw [if_neg (by omega), if_pos (by omega), show 23 + p - 23 = p by omega]
        · rw [up_n e23]
          by_cases e16 : k = 16 + p
          · subst e16
            rw [up_e rfl]
            unfold fp
            rw [if_pos (by omega), show 16 + p - 16 = p by omega, show 7 + (16 + p) = 23 + p by omega]
          · rw [up_n e16]
            unfold fp
            by_cases c16 : 16 ≤ k ∧ k < 16 + p
            · rw [if_pos c16, if_pos (by omega)]
            · rw [if_neg c16, if_neg (show ¬ (16 ≤ k ∧ k < 16 + (p + 1)) by omega)]
              by_cases c23 : 23 ≤ k ∧ k < 23 + p
              · rw [if_pos c23, if_pos (by omega)]
              · rw [if_neg c23, if_neg (by omega)])
      rw [hf]
      exact e
  have e0 : BM M B = BM M (fp B T 0) := BM_congr (fun k hk => (fp_n (by omega)).symm)
  rw [e0]
  exact key (B 0) 0 fuel g s o K (by omega) (by omega)
theorem cfB_fp {B : Nat → Nat} {T k : Nat} (h7 : B 0 ≤ 7) (hT : 0 < T) : up (fp B T (B 0)) 1 (B 1 + T) k = cfB B T k := by
  unfold cfB
  by_cases e1 : k = 1
  · rw [up_e e1, if_pos e1]
  · rw [up_n e1, if_neg e1]
    by_cases c : 16 ≤ k ∧ k < 30
    · rw [if_pos c]
      unfold fp cf
      rw [if_neg (show ¬ k - 8 = 0 by omega)]
      have hr : rowOf B (k - 8) = B k := by unfold rowOf; rw [if_neg (by omega), show 8 + (k - 8) = k by omega]
      have hr7 : rowOf B (7 + (k - 8)) = B (7 + k) := by unfold rowOf; rw [if_neg (by omega), show 8 + (7 + (k - 8)) = 7 + k by omega]
      rw [hr, hr7]
      by_cases c16 : 16 ≤ k ∧ k < 16 + B 0
      · rw [if_pos c16, if_pos (show 8 ≤ k - 8 ∧ k - 8 < 8 + B 0 by omega), if_neg (by omega), show k - 8 - 8 = k - 16 by omega]
      · rw [if_neg c16, if_neg (show ¬ (8 ≤ k - 8 ∧ k - 8 < 8 + B 0) by omega)]
        by_cases c23 : 23 ≤ k ∧ k < 23 + B 0
        · rw [if_pos c23, if_pos (show 15 ≤ k - 8 ∧ k - 8 < 15 + B 0 by omega), if_neg (by omega), show k - 8 - 15 = k - 23 by omega]
        · rw [if_neg c23, if_neg (by omega)]
    · rw [if_neg c, fp_n (by omega)]
theorem cfB_0 {B : Nat → Nat} {k : Nat} : up B 1 (B 1 + 0) k = cfB B 0 k := by
  unfold cfB
  by_cases e1 : k = 1
  · rw [up_e e1, if_pos e1]
  · rw [up_n e1, if_neg e1]
    by_cases c : 16 ≤ k ∧ k < 30
    · rw [if_pos c]
      unfold cf
      have hr : rowOf B (k - 8) = B k := by unfold rowOf; rw [if_neg (by omega), show 8 + (k - 8) = k by omega]
      rw [if_neg (by omega), hr]
      split
      · rfl
      · split <;> rfl
    · rw [if_neg c]
theorem cS_0 {be r : Nat → Nat} (m : Nat) : sm m (cS be r 0) = 0 := by
  induction m with
  | zero => rfl
  | succ m ih => show sm m (cS be r 0) + cS be r 0 m = 0; rw [ih]; rfl
theorem op_minute (a1 : Int32) : lw_ok Inv (fun M => f_X9_minute M a1) (fun M => f_X10_minute M a1) := by
  refine okI (fun M h => ?_)
  obtain ⟨be, b1, b2, b3⟩ := h.2.2.2.2.1
  rcases rg (x := a1) (lo := 1) (hi := 60) (lo' := 1) (hi' := 60) 1 60 rfl rfl rfl rfl (by omega) (by omega) with ⟨p0, q0⟩ | ⟨n, m0, l0, rfl, p0, q0⟩
  · refine ok_ref h 0 (by omega) (v := ((-2) : Int32)) ?_ ?_
    · show f_X9_minute M a1 = _
      unfold f_X9_minute
      try simp only [tlE]
      rw [p0, if_pos rfl, bind_bad]
    · show f_X10_minute _ a1 = _
      unfold f_X10_minute
      try simp only [tlE]
      rw [q0, if_pos rfl, bind_bad10]
  · skip
    obtain ⟨z, ta, t⟩ := h.2.2.2.1
    have h7 := b3.1
    obtain ⟨M', f1, f2, f3, f4⟩ := e_keep9 b3 b1
    have w' := wf_kp b3
    have e1k : kp be 1 = be 1 := kp_n (by omega) (by omega)
    have hro : rowOf (kp be) 0 = be 1 := e1k
    have hb1 : be 1 ≤ 999 := b3.2.2.2.2.2.2.1.1
    have hrB : rB 8000 (rowOf (kp be)) := by
      obtain ⟨q1, q2⟩ := rB_row w'
      exact ⟨q1, fun q hq => by have := q2 q hq; rw [e1k] at this; omega⟩
    have hself : RW M' 22 (rowOf (kp be)) = M' := RW_self (fun k hk => f4.2.2.2.2.2.1 k hk)
    have hk9 := Inv.iK f4 w'
    have e9 := e_minute9 (r := rowOf (kp be)) (n := n) hk9 w' hrB (by omega) j_fu (by unfold j_fu; omega) (fun (y13 : Int32) (y14 : Int32) (M15 : j_M) => (some (y13, M15)))
    rw [hself, hro] at e9
    obtain ⟨T, hT⟩ : ∃ T, T = min n (999 - be 1) := ⟨_, rfl⟩
    rw [← hT] at e9
    have b2' : iM (RW M' 22 (cf (kp be) (rowOf (kp be)) T)) 36 0 be := b2.to (fun k => by rw [I_RWn (by omega), f3 _ _ (by omega)])
    obtain ⟨M'', g1, g2, g3, g4⟩ := e_keep10 b3 b2'
    obtain ⟨la, gg, s, o, d1, d2⟩ := E_hand g4 w'
    have hM'' : BM M'' (kp be) = M'' := BM_self g4
    have hloop : ∃ g' s' o' F y, (∀ k, k < 250 → up F 1 (kp be 1 + T) k = cfB (kp be) T k) ∧ F 1 = kp be 1 ∧ f_X10_minute_L61 j_fu (st M'' la gg s o) (nI T) (0 : Int32) (0 : Int32) (fun (y44 : Int32) (y45 : Int32) (M46 : j_M) => (a_i M46 36 250 (1 : Int32) fun v48 => (w_i M46 36 250 (1 : Int32) (v48 + nI T) fun M50 => (some (y44, M50))))) = (fun (y44 : Int32) (y45 : Int32) (M46 : j_M) => (a_i M46 36 250 (1 : Int32) fun v48 => (w_i M46 36 250 (1 : Int32) (v48 + nI T) fun M50 => (some (y44, M50))))) (nI (sm (kp be 0) (cS (kp be) (rowOf (kp be)) T))) y (st (BM M'' F) la g' s' o') := by
      by_cases c : T = 0
      · refine ⟨gg, s, o, kp be, 0, fun k hk => by rw [c]; exact cfB_0, rfl, ?_⟩
        rw [hM'', c, cS_0]
        have hj : 100000 < j_fu := by unfold j_fu; omega
        revert hj
        generalize j_fu = fu
        intro hj
        obtain ⟨f, rfl⟩ : ∃ f, fu = f + 1 := ⟨fu - 1, by omega⟩
        rw [f_X10_minute_L61, E_many g4, Option.bind_some]
        by_cases c0 : nI (kp be 0) ≤ 0
        · rw [if_pos c0]; rfl
        · rw [if_neg c0, if_pos (by decide)]; rfl
      · obtain ⟨g', s', o', e⟩ := e_minute10 (M := M'') (B := kp be) (la := la) (g := gg) (s := s) (o := o) (T := T) w' d2 (by omega) (by omega) j_fu (by unfold j_fu; omega) (fun (y44 : Int32) (y45 : Int32) (M46 : j_M) => (a_i M46 36 250 (1 : Int32) fun v48 => (w_i M46 36 250 (1 : Int32) (v48 + nI T) fun M50 => (some (y44, M50)))))
        rw [hM''] at e
        exact ⟨g', s', o', fp (kp be) T (kp be 0), nI (kp be 0), fun k hk => cfB_fp w'.1 (by omega), fp_n (by omega), e⟩
    obtain ⟨g', s', o', F, y, hF, hF1, hl⟩ := hloop
    have hfin : BM M'' (up F 1 (kp be 1 + T)) = BM M'' (cfB (kp be) T) := BM_congr hF
    refine ok_gen (be' := cfB (kp be) T) (z := z) (ta := ta) h (v := nI (sm (kp be 0) (cS (kp be) (rowOf (kp be)) T))) (M1 := RW M' 22 (cf (kp be) (rowOf (kp be)) T)) (M2 := st (BM M'' (cfB (kp be) T)) la g' s' o') ?_ (by show M'.2.2 = _; rw [f2]) ?_ (by show M''.2.2 = M'.2.2; rw [g2]; rfl) ?_ ?_ ?_ ?_ ?_ (wf_cfB w' (by rw [e1k]; omega))
    · show f_X9_minute M _ = _
      unfold f_X9_minute
      try simp only [tlE]
      rw [p0, if_neg (by decide)]
      rw [f1, Option.bind_some, j_ckE (by rw [f2]), e9]
    · show f_X10_minute _ _ = _
      unfold f_X10_minute
      try simp only [tlE]
      rw [q0, if_neg (by decide)]
      have hgo : ∀ (F : Int32 → Option (Int32 × j_M)), (if nI (be 1) + nI n ≤ (999 : Int32) then F (nI n) else (a_i (RW M' 22 (cf (kp be) (rowOf (kp be)) T)) 36 250 (1 : Int32) fun v53 => (F ((999 : Int32) - v53)))) = F (nI T) := fun F => by
        rw [nI_add, i_999]
        by_cases c : be 1 + n ≤ 999
        · rw [if_pos (nI_le c (by omega)), show T = n by omega]
        · rw [if_neg (nI_ge (by omega) (by omega)), i_1, a_iN (by omega) (by omega), b2'.at (by omega), pk_sub (by omega), show T = 999 - be 1 by omega]
      rw [i_1, a_iN (by omega) (by omega), b2'.at (by omega)]
      rw [show (nI 1 : Int32) = 1 from rfl, jnI hgo, g1, Option.bind_some, j_ckE (by rw [g2]), d1, Option.bind_some, j_ckE (by rfl), hl]
      dsimp only
      rw [i_1, a_iN (by omega) (by omega), I_st (by omega) (by omega), I_BMe (by omega), hF1, nI_add, w_iN (by omega) (by omega), st_BM (by omega), hfin]
    · intro a k h1
      rw [I_st (by omega) (by omega), I_BMn (by omega), g3 _ _ (by omega), I_RWn (by omega), f3 _ _ (by omega)]
    · have hL : ∀ a k, j_L (st (BM M'' (cfB (kp be) T)) la g' s' o') a k = j_L M a k := fun a k => by
        show M''.2.1 a k = M.2.1 a k
        rw [g2]
        show M'.2.1 a k = _
        rw [f2]
      unfold iF
      rw [hL, hL, hL, hL]
      exact h.2.2.1
    · have hx : ∀ a k, (a < 17 ∨ 40 < a) → j_I (st (BM M'' (cfB (kp be) T)) la g' s' o') a k = j_I M a k := fun a k ha => by
        rw [I_st (by omega) (by omega), I_BMn (by omega), g3 _ _ (by omega), I_RWn (by omega), f3 _ _ (by omega)]
      exact t.to (hx _ _ (by omega)) (by rw [I_st35 (by omega), I_BMn (by omega), g3 _ _ (by omega), I_RWn (by omega), f3 _ _ (by omega)]) (fun k => hx _ _ (by omega)) (fun k => hx _ _ (by omega))
    · exact (iB_cfB f4 w').to (fun a k _ _ => by rw [I_st (by omega) (by omega), I_BMn (by omega), g3 _ _ (by omega)])
    · exact (iM_BM (M := M'')).to (fun k => I_st (by omega) (by omega))
