/-! all together: the op -/
section
variable {M : j_M} {be : Nat → Nat} {x1 : Int32}
theorem al_congr {n : Nat} {f g : Nat → Bool} (h : ∀ q, q < n → f q = g q) : al n f = al n g := by
  induction n with
  | zero => rfl
  | succ n ih => simp only [al]; rw [ih (fun q hq => h q (by omega)), h n (by omega)]
theorem e_adv (hi : iM M 36 0 be) (w : wf be) : ∀ d p f F B h la g s o fuel K, p + d = be 0 → (∀ q, q < p → f q < 4) → F ≤ 1000000 → (∀ q, q < be 0 → h q = nI (B q)) → ∃ h' la' g' s' o', f_X10_all_L30 (fuel + 4 ^ d) (st (bl M h) la g s o) x1 (nI F) (nI (ec f p * 4 ^ d)) K = f_X10_all_L30 fuel (st (bl M h') la' g' s' o') x1 (nI (if al p (fun q => op be (f q)) then uF F (mm be d p f) else F)) (nI (ec f p * 4 ^ d + 4 ^ d)) K ∧ (∀ q, q < be 0 → h' q = nI (if al p (fun q => op be (f q)) then uB F (mm be d p f) B (am be d p f) q else B q)) := by
  have h7 := w.1
  have h47 : 4 ^ be 0 ≤ 4 ^ 7 := Nat.pow_le_pow_right (by decide) h7
  intro d
  induction d with
  | zero =>
    intro p f F B h la g s o fuel K h1 hf hF hh
    have hpn : p = be 0 := by omega
    subst hpn
    have hlt := ec_lt hf
    rw [Nat.pow_zero, Nat.mul_one]
    have hT := tT2_le (f := f) w (Nat.le_refl (be 0))
    obtain ⟨la1, e1, e2⟩ := e_layLies (M := bl M h) (la := la) (g := g) (s := s) (o := o) hi.bl w hf
    rw [f_X10_all_L30, E_many hi.bl, Option.bind_some, i_2, pk_mul, shl4_k _ (by omega), if_neg (nI_ge (by omega) (by omega)), e1, Option.bind_some, j_ckE (by rfl), jn2E]
    cases ha : al (be 0) (fun q => op be (f q)) with
    | false =>
      obtain ⟨h', y, j1, j2⟩ := e_all64 (M := M) (h := h) (la := la1) (g := g) (s := s) (o := o) (x1 := x1) (x3 := nI (ec f (be 0))) (F := F) (v := 1000000) hi w hF (by omega) j_fu (by unfold j_fu; omega) (fun (y28 : Int32) (M29 : j_M) => (if nI F ≤ nI 1000000 then (f_X10_all_L30 fuel  M29 x1 (nI F) (nI (ec f (be 0)) + (1 : Int32)) K) else (f_X10_all_L30 fuel  M29 x1 (nI 1000000) (nI (ec f (be 0)) + (1 : Int32)) K)))
      refine ⟨h', la1, g, s, o, ?_, fun q hq => by rw [j2 q hq, if_neg (by omega)]; exact hh q hq⟩
      rw [if_pos (show fl false = 0 from rfl), i_1000000]
      refine j1.trans ?_
      rw [if_pos (nI_le hF (by omega)), nI_1]
      rfl
    | true =>
      obtain ⟨g1, s1, o1, k1⟩ := e_sumAll (M := bl M h) (la := la1) (g := g) (s := s) (o := o) hi.bl w hf e2
      obtain ⟨h', y, j1, j2⟩ := e_all64 (M := M) (h := h) (la := la1) (g := g1) (s := s1) (o := o1) (x1 := x1) (x3 := nI (ec f (be 0))) (F := F) (v := tT2 be (be 0) f) hi w hF (by omega) j_fu (by unfold j_fu; omega) (fun (y28 : Int32) (M29 : j_M) => (if nI F ≤ nI (tT2 be (be 0) f) then (f_X10_all_L30 fuel  M29 x1 (nI F) (nI (ec f (be 0)) + (1 : Int32)) K) else (f_X10_all_L30 fuel  M29 x1 (nI (tT2 be (be 0) f)) (nI (ec f (be 0)) + (1 : Int32)) K)))
      refine ⟨h', la1, g1, s1, o1, ?_, fun q hq => ?_⟩
      · rw [if_neg (show ¬ fl true = 0 by decide), k1, Option.bind_some, j_ckE (by rfl)]
        refine j1.trans ?_
        rw [nI_1, if_pos rfl]
        unfold uF
        show (if nI F ≤ nI (tT2 be (be 0) f) then _ else _) = f_X10_all_L30 fuel _ x1 (nI (if tT2 be (be 0) f < F then tT2 be (be 0) f else F)) _ K
        by_cases c : tT2 be (be 0) f < F
        · rw [if_neg (nI_ge c (by omega)), if_pos c]
        · rw [if_pos (nI_le (by omega) (by omega)), if_neg c]
      · rw [j2 q hq, if_pos rfl]
        unfold uB
        show _ = nI (if tT2 be (be 0) f < F then f q else B q)
        by_cases c : tT2 be (be 0) f < F
        · rw [if_pos c, if_pos c]; exact e2 q hq
        · rw [if_neg c, if_neg c]; exact hh q hq
  | succ d ih =>
    intro p f F B h la g s o fuel K h1 hf hF hh
    have hp : p < be 0 := by omega
    have hpow : 4 ^ (d + 1) = 4 * 4 ^ d := by rw [Nat.pow_succ]; omega
    have lane : ∀ e l h la g s o, l + e = 4 → (∀ q, q < be 0 → h q = nI (if al p (fun q => op be (f q)) then uB F (fw (tl4 be d p f) (bst (op be) (tl4 be d p f) l)) B (amo be d p f (bst (op be) (tl4 be d p f) l)) q else B q)) → ∃ h' la' g' s' o', f_X10_all_L30 (fuel + e * 4 ^ d) (st (bl M h) la g s o) x1 (nI (if al p (fun q => op be (f q)) then uF F (fw (tl4 be d p f) (bst (op be) (tl4 be d p f) l)) else F)) (nI (ec f p * 4 ^ (d + 1) + l * 4 ^ d)) K = f_X10_all_L30 fuel (st (bl M h') la' g' s' o') x1 (nI (if al p (fun q => op be (f q)) then uF F (fw (tl4 be d p f) (bst (op be) (tl4 be d p f) 4)) else F)) (nI (ec f p * 4 ^ (d + 1) + 4 * 4 ^ d)) K ∧ (∀ q, q < be 0 → h' q = nI (if al p (fun q => op be (f q)) then uB F (fw (tl4 be d p f) (bst (op be) (tl4 be d p f) 4)) B (amo be d p f (bst (op be) (tl4 be d p f) 4)) q else B q)) := by
      intro e
      induction e with
      | zero =>
        intro l h la g s o g1 g2
        refine ⟨h, la, g, s, o, ?_, ?_⟩
        · rw [show l = 4 by omega, Nat.zero_mul, Nat.add_zero]
        · rw [show l = 4 by omega] at g2; exact g2
      | succ e ihe =>
        intro l h la g s o g1 g2
        have hFl : (if al p (fun q => op be (f q)) then uF F (fw (tl4 be d p f) (bst (op be) (tl4 be d p f) l)) else F) ≤ 1000000 := by
          split
          · unfold uF; split <;> omega
          · exact hF
        obtain ⟨h2, la2, g3, s3, o3, r1, r2⟩ := ih (p + 1) (up f p l) _ (fun q => if al p (fun q => op be (f q)) then uB F (fw (tl4 be d p f) (bst (op be) (tl4 be d p f) l)) B (amo be d p f (bst (op be) (tl4 be d p f) l)) q else B q) h la g s o (fuel + e * 4 ^ d) K (by omega) (fun q hq => by
          by_cases c : q = p
          · rw [up_e c]; omega
          · rw [up_n c]; exact hf q (by omega)) hFl g2
        have hec : ec (up f p l) (p + 1) = 4 * ec f p + l := by
          show 4 * ec (up f p l) p + up f p l p = _
          rw [up_e rfl, ec_congr (fun q hq => up_n (by omega))]
        have hal : al (p + 1) (fun q => op be (up f p l q)) = (al p (fun q => op be (f q)) && op be l) := by
          show (al p (fun q => op be (up f p l q)) && op be (up f p l p)) = _
          rw [up_e rfl, al_congr (fun q hq => by rw [up_n (by omega)])]
        have hcode : ec (up f p l) (p + 1) * 4 ^ d = ec f p * 4 ^ (d + 1) + l * 4 ^ d := by
          rw [hec, hpow, Nat.add_mul, Nat.mul_comm 4 (ec f p), Nat.mul_assoc]
        have hmul : (e + 1) * 4 ^ d = e * 4 ^ d + 4 ^ d := Nat.succ_mul _ _
        have hmul2 : (l + 1) * 4 ^ d = l * 4 ^ d + 4 ^ d := Nat.succ_mul _ _
        rw [hcode, hal] at r1
        rw [hal] at r2
        have hgoalF : (if (al p (fun q => op be (f q)) && op be l) = true then uF (if al p (fun q => op be (f q)) then uF F (fw (tl4 be d p f) (bst (op be) (tl4 be d p f) l)) else F) (mm be d (p + 1) (up f p l)) else (if al p (fun q => op be (f q)) then uF F (fw (tl4 be d p f) (bst (op be) (tl4 be d p f) l)) else F)) = (if al p (fun q => op be (f q)) then uF F (fw (tl4 be d p f) (bst (op be) (tl4 be d p f) (l + 1))) else F) ∧ ∀ q, (if (al p (fun q => op be (f q)) && op be l) = true then uB (if al p (fun q => op be (f q)) then uF F (fw (tl4 be d p f) (bst (op be) (tl4 be d p f) l)) else F) (mm be d (p + 1) (up f p l)) (fun q => if al p (fun q => op be (f q)) then uB F (fw (tl4 be d p f) (bst (op be) (tl4 be d p f) l)) B (amo be d p f (bst (op be) (tl4 be d p f) l)) q else B q) (am be d (p + 1) (up f p l)) q else (fun q => if al p (fun q => op be (f q)) then uB F (fw (tl4 be d p f) (bst (op be) (tl4 be d p f) l)) B (amo be d p f (bst (op be) (tl4 be d p f) l)) q else B q) q) = (if al p (fun q => op be (f q)) then uB F (fw (tl4 be d p f) (bst (op be) (tl4 be d p f) (l + 1))) B (amo be d p f (bst (op be) (tl4 be d p f) (l + 1))) q else B q) := by
          cases ha : al p (fun q => op be (f q)) with
          | false => exact ⟨rfl, fun q => rfl⟩
          | true =>
            cases ho : op be l with
            | false =>
              have := bst_shut (ok := op be) (t := tl4 be d p f) (l := l) (by rw [ho]; decide)
              rw [this]
              exact ⟨rfl, fun q => rfl⟩
            | true =>
              have ht1 : tl4 be d p f l < 1000000 := by
                have := mm_840 (d := d) (p := p + 1) (f := up f p l) w (show l < 4 by omega) ho (by omega)
                show mm be d (p + 1) (up f p l) < 1000000
                omega
              obtain ⟨u1, u2⟩ := u_open (B := B) ho ht1 hF
              exact ⟨u1, u2⟩
        obtain ⟨h', la', g', s', o', t1, t2⟩ := ihe (l + 1) h2 la2 g3 s3 o3 (by omega) (fun q hq => by rw [r2 q hq]; exact congrArg nI (hgoalF.2 q))
        refine ⟨h', la', g', s', o', ?_, t2⟩
        rw [hmul, ← Nat.add_assoc, r1, hgoalF.1, Nat.add_assoc (ec f p * 4 ^ (d + 1)), ← hmul2]
        exact t1
    have hP0 : ∀ q, q < be 0 → h q = nI (if al p (fun q => op be (f q)) then uB F (fw (tl4 be d p f) (bst (op be) (tl4 be d p f) 0)) B (amo be d p f (bst (op be) (tl4 be d p f) 0)) q else B q) := fun q hq => by
      have e0 : fw (tl4 be d p f) (bst (op be) (tl4 be d p f) 0) = 1000000 := rfl
      rw [e0]
      unfold uB
      rw [if_neg (show ¬ 1000000 < F by omega)]
      rw [hh q hq]
      split <;> rfl
    obtain ⟨h', la', g', s', o', t1, t2⟩ := lane 4 0 h la g s o (by omega) hP0
    refine ⟨h', la', g', s', o', ?_, ?_⟩
    · have e0 : (if al p (fun q => op be (f q)) then uF F (fw (tl4 be d p f) (bst (op be) (tl4 be d p f) 0)) else F) = F := by
        have e1 : fw (tl4 be d p f) (bst (op be) (tl4 be d p f) 0) = 1000000 := rfl
        rw [e1]
        unfold uF
        rw [if_neg (show ¬ 1000000 < F by omega)]
        split <;> rfl
      rw [e0, Nat.zero_mul, Nat.add_zero, ← hpow] at t1
      rw [mm_s]
      exact t1
    · rw [mm_s, am_s]; exact t2
end
theorem e_all9 {M : j_M} {be : Nat → Nat} (hb : iB M 17 be) (w : wf be) : ∃ M' B, ((f_X4_begin M).bind fun q2 => j_ck M q2 ((f_X4_place q2 (0 : Int32) (0 : Int32)).bind fun q6 => j_ck q2 q6 (some q6))) = some M' ∧ pkM M M' ∧ j_I M' 3 3 = nI (uF 1000000 (mm be (be 0) 0 (fun _ => 0))) ∧ ∀ q, q < be 0 → j_I M' 6 q = nI (uB 1000000 (mm be (be 0) 0 (fun _ => 0)) B (am be (be 0) 0 (fun _ => 0)) q) := by
  have h7 := w.1
  obtain ⟨M0, hM0⟩ : ∃ M0, M0 = j_sI (j_fi M 4 4 (0 : Int32)) 3 3 (1000000 : Int32) := ⟨_, rfl⟩
  have hp : pkM M M0 := by
    rw [hM0]
    exact ⟨fun a k ha => by rw [I_sIn (by omega), I_fi, if_neg (by omega)], rfl⟩
  have hPs : Ps be M0 0 (fun _ => 0) 1000000 (fun q => (j_I M0 6 q).toBitVec.toNat) := by
    refine ⟨by rw [hM0, I_sIe (by omega)]; rfl, fun l hl => ?_, fun q hq => by omega, fun q hq => (nI_any _).symm⟩
    rw [hM0, I_sIn (by omega), I_fi, if_pos (by omega)]
    have : ms (be 0) (gr 0 (fun _ => 0) l) = 0 := (gr_ms0 (by omega)).mpr (fun q hq => by omega)
    rw [this]
    rfl
  obtain ⟨M', e1, e2, e3⟩ := e_place w (be 0) 0 (fun _ => 0) 1000000 _ M0 9 (by omega) (by omega) (hb.pk hp) hPs (fun l l' _ _ _ _ h => by obtain ⟨q, h1, -⟩ := h; omega) (by omega)
  refine ⟨M', _, ?_, hp.tr e2, e3.1, e3.2.2.2⟩
  have hbg : f_X4_begin M = some M0 := by rw [hM0]; rfl
  rw [hbg, Option.bind_some, j_ckE (by rw [hp.2])]
  unfold f_X4_place
  have : tT2 be 0 (fun _ => 0) = 0 := rfl
  rw [this] at e1
  rw [show (0 : Int32) = nI 0 from rfl, e1, Option.bind_some, j_ckE (by rw [e2.2])]
theorem e_all10 {M : j_M} {be : Nat → Nat} {x1 : Int32} (hi : iM M 36 0 be) (w : wf be) (K : Int32 → Int32 → j_M → Option (Int32 × j_M)) : ∃ h' la' g' s' o' y B, f_X10_all_L30 j_fu M x1 (1000000 : Int32) (0 : Int32) K = K (nI (uF 1000000 (mm be (be 0) 0 (fun _ => 0)))) y (st (bl M h') la' g' s' o') ∧ ∀ q, q < be 0 → h' q = nI (uB 1000000 (mm be (be 0) 0 (fun _ => 0)) B (am be (be 0) 0 (fun _ => 0)) q) := by
  have h7 := w.1
  have h47 : 4 ^ be 0 ≤ 4 ^ 7 := Nat.pow_le_pow_right (by decide) h7
  have hj : 100000 < j_fu := by unfold j_fu; omega
  obtain ⟨fu, hfu⟩ : ∃ fu, j_fu = fu + 1 + 4 ^ be 0 := ⟨j_fu - 4 ^ be 0 - 1, by omega⟩
  rw [hfu]
  obtain ⟨h', la', g', s', o', e1, e2⟩ := e_adv (x1 := x1) hi w (be 0) 0 (fun _ => 0) 1000000 (fun q => (j_I M 41 q).toBitVec.toNat) (j_I M 41) (j_I M 40) (j_I M 35 7) (j_I M 35 8) (j_I M 35 9) (fu + 1) K (by omega) (fun q hq => by omega) (by omega) (fun q hq => (nI_any _).symm)
  rw [bl_self, st_self] at e1
  refine ⟨h', la', g', s', o', nI (4 ^ be 0), fun q => (j_I M 41 q).toBitVec.toNat, ?_, e2⟩
  rw [show ec (fun _ => 0) 0 * 4 ^ be 0 = 0 by show 0 * _ = 0; omega, Nat.zero_add] at e1
  refine e1.trans ?_
  rw [f_X10_all_L30, E_many hi.bl, Option.bind_some, i_2, pk_mul, shl4_k _ (by omega), if_pos (nI_le (Nat.le_refl _) (by omega))]
  rfl
theorem op_all (a1 : Int32) : lw_ok Inv (fun M => f_X9_all M a1) (fun M => f_X10_all M a1) := by
  refine okI (fun M h => ?_)
  obtain ⟨be, b1, b2, b3⟩ := h.2.2.2.2.1
  have h7 := b3.1
  obtain ⟨M', B9, e9, p9, l9, f9⟩ := e_all9 b1 b3
  have b2' : iM M' 36 0 be := b2.to (fun k => p9.1 _ _ (by omega))
  have nb1 : nb M M' := ⟨fun a k hs => p9.1 a k (by unfold scr at hs; omega), fun a k _ => by show M'.2.1 a k = M.2.1 a k; rw [p9.2], by rw [p9.2]⟩
  have hmany : f_X10_many M' = some (nI (be 0)) := e_many (b2'.at (by omega))
  have hsplit : ∀ (F : j_M → Option (Int32 × j_M)), ((f_X4_begin M).bind fun q2 => j_ck M q2 ((f_X4_place q2 (0 : Int32) (0 : Int32)).bind fun q6 => j_ck q2 q6 (F q6))) = F M' := fun F => by
    cases hb : f_X4_begin M with
    | none => rw [hb] at e9; cases e9
    | some q2 =>
      rw [hb, Option.bind_some] at e9
      rw [Option.bind_some]
      have hck : q2.2.2 = M.2.2 := by
        apply Classical.byContradiction
        intro c
        unfold j_ck at e9
        rw [if_neg c] at e9
        cases e9
      rw [j_ckE hck] at e9 ⊢
      cases hp : f_X4_place q2 (0 : Int32) (0 : Int32) with
      | none => rw [hp] at e9; cases e9
      | some q6 =>
        rw [hp, Option.bind_some] at e9
        rw [Option.bind_some]
        have hck2 : q6.2.2 = q2.2.2 := by
          apply Classical.byContradiction
          intro c
          unfold j_ck at e9
          rw [if_neg c] at e9
          cases e9
        rw [j_ckE hck2] at e9 ⊢
        cases e9
        rfl
  have hbnb : ∀ h' la' g' s' o', nb M' (st (bl M' h') la' g' s' o') := fun h' la' g' s' o' => by
    have h1 : nb (bl M' h') (st (bl M' h') la' g' s' o') := st_nb
    refine ⟨fun a k hs => ?_, fun _ _ _ => rfl, rfl⟩
    rw [h1.1 a k hs, I_bln (by unfold scr at hs; omega)]
  rcases rgM (x := a1) b1.1 h7 with ⟨x0, x1⟩ | ⟨p, hp, x0, x1, x2⟩ | ⟨x0, x1, x2⟩
  · obtain ⟨h', la', g', s', o', y, B, e10, f10⟩ := e_all10 (x1 := a1) b2' b3 (fun (y36 : Int32) (y37 : Int32) (M38 : j_M) => (if a1 = ((-1) : Int32) then (some (y36, M38)) else (a_i M38 41 7 a1 fun v41 => (some (v41, M38)))))
    refine ok_nb h (v := nI (uF 1000000 (mm be (be 0) 0 (fun _ => 0)))) (M1 := M') (M2 := st (bl M' h') la' g' s' o') ?_ nb1 ?_ (hbnb _ _ _ _ _)
    · show f_X9_all M a1 = _
      unfold f_X9_all
      rw [if_pos x0, hsplit (fun q6 => (if a1 = ((-1) : Int32) then (some ((j_I q6 3 3), q6)) else (a_i q6 6 7 a1 fun v11 => (some (v11, q6)))))]
      rw [if_pos x0, l9]
    · show f_X10_all _ a1 = _
      unfold f_X10_all
      rw [hmany, Option.bind_some, tlE, x1, if_neg (by decide), e10]
      rw [if_pos x0]
  · subst x0
    obtain ⟨h', la', g', s', o', y, B, e10, f10⟩ := e_all10 (x1 := nI p) b2' b3 (fun (y36 : Int32) (y37 : Int32) (M38 : j_M) => (if nI p = ((-1) : Int32) then (some (y36, M38)) else (a_i M38 41 7 (nI p) fun v41 => (some (v41, M38)))))
    have hm1 : ¬ nI p = (-1 : Int32) := nI_m1 (by omega)
    have hopen : op be (be (9 + p)) = true := decide_eq_true (b3.2.2.2.2.2.2.1.2.2.1 p hp)
    have hmm : mm be (be 0) 0 (fun _ => 0) < 1000000 := by
      have := mm_840 (d := be 0) (p := 0) (f := fun _ => 0) b3 (b3.lane (p := p) (by omega)) hopen (by omega)
      omega
    refine ok_nb h (v := nI (am be (be 0) 0 (fun _ => 0) p)) (M1 := M') (M2 := st (bl M' h') la' g' s' o') ?_ nb1 ?_ (hbnb _ _ _ _ _)
    · show f_X9_all M (nI p) = _
      unfold f_X9_all
      rw [if_neg hm1, tlE, x1, if_neg (by decide), hsplit (fun q20 => (if nI p = ((-1) : Int32) then (some ((j_I q20 3 3), q20)) else (a_i q20 6 7 (nI p) fun v25 => (some (v25, q20)))))]
      rw [if_neg hm1, a_iN (by omega) (by omega), f9 p hp]
      unfold uB
      rw [if_pos hmm]
    · show f_X10_all _ (nI p) = _
      unfold f_X10_all
      rw [hmany, Option.bind_some, tlE, x2, if_neg (by decide), e10]
      rw [if_neg hm1, a_iN (by omega) (by omega), I_st (by omega) (by omega), I_ble (by omega), f10 p hp]
      unfold uB
      rw [if_pos hmm]
  · refine ok_ref h 0 (by omega) (v := (-10 : Int32)) ?_ ?_
    · show f_X9_all M a1 = _
      unfold f_X9_all
      rw [if_neg x0, tlE, x1, if_pos rfl, bind_ten]
    · show f_X10_all _ a1 = _
      unfold f_X10_all
      rw [e_many (n := be 0) (by rw [I_sIn (by omega)]; exact b2.at (by omega)), Option.bind_some, tlE, x2, if_pos rfl, bind_bad10]
