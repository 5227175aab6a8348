/-! what one costs the others -/
theorem sm_sub {n : Nat} {f g : Nat → Nat} (h : ∀ p, p < n → g p ≤ f p) : sm n f - sm n g = sm n (fun p => f p - g p) := by
  induction n with
  | zero => rfl
  | succ n ih =>
    have h1 := ih (fun p hp => h p (by omega))
    have h2 := h n (by omega)
    have h3 := sm_mono (n := n) (f := g) (g := f) (fun p hp => h p (by omega))
    simp only [sm]
    omega
def cst (be : Nat → Nat) (P : Nat → Bool) (p : Nat) : Nat → Nat := fun q => if P q then TK be q (fun r => (P r && !(r == q)) || (r == p)) - TK be q (fun r => P r && !(r == q)) else 0
theorem cst_le {be : Nat → Nat} (w : wf be) (P : Nat → Bool) (p : Nat) : sm (be 0) (cst be P p) ≤ 840 := by
  have h7 := w.1
  have := sm_le (n := be 0) (f := cst be P p) (c := 120) (fun q hq => by
    unfold cst
    split
    · have := TK_le (P := fun r => (P r && !(r == q)) || (r == p)) w hq
      omega
    · omega)
  have h2 : be 0 * 120 ≤ 7 * 120 := Nat.mul_le_mul_right _ h7
  omega
theorem e_costTo {M : j_M} {be : Nat → Nat} {p : Nat} (h : iB M 17 be) (w : wf be) (hp : p < be 0) (P : Nat → Bool) : f_X0_costTo M 17 (nI (ms (be 0) P)) (nI p) = some (nI (sm (be 0) (cst be P p))) := by
  have h7 := w.1
  have key : ∀ d q fuel K, q + d = be 0 → d < fuel → f_X0_costTo_L5 fuel 17 M (nI (ms (be 0) P)) (nI p) (nI (sm q (cst be P p))) (nI q) K = K (nI (sm (be 0) (cst be P p))) (nI (be 0)) := by
    intro d
    induction d with
    | zero =>
      intro q fuel K h1 h2
      obtain ⟨fuel, rfl⟩ : ∃ f, fuel = f + 1 := ⟨fuel - 1, by omega⟩
      rw [f_X0_costTo_L5, h.1, if_pos (nI_le (by omega) (by omega)), show q = be 0 by omega]
    | succ d ih =>
      intro q fuel K h1 h2
      obtain ⟨fuel, rfl⟩ : ∃ f, fuel = f + 1 := ⟨fuel - 1, by omega⟩
      have hq : q < be 0 := by omega
      have ih' := ih (q + 1) fuel K (by omega) (by omega)
      rw [show sm (q + 1) (cst be P p) = sm q (cst be P p) + cst be P p q from rfl] at ih'
      rw [f_X0_costTo_L5, h.1, if_neg (nI_ge (by omega) (by omega)), tlE, e_has h7 hq, nI_1]
      by_cases hc : P q = true
      · rw [show cst be P p q = TK be q (fun r => (P r && !(r == q)) || (r == p)) - TK be q (fun r => P r && !(r == q)) from if_pos hc] at ih'
        rw [if_pos hc, if_neg (by decide), e_no h7 (by omega), e_or h7 hp, E_takes h w hq, Option.bind_some, E_takes h w hq, Option.bind_some, pk_sub (TK_mono (fun r _ hr => by simp [hr])), nI_add]
        exact ih'
      · rw [show cst be P p q = 0 from if_neg hc] at ih'
        rw [if_neg hc, if_pos rfl]
        exact ih'
  unfold f_X0_costTo
  have hj : 100000 < j_fu := by unfold j_fu; omega
  revert hj
  generalize j_fu = fu
  intro hj
  exact key (be 0) 0 fu _ (by omega) (by omega)
def so (be : Nat → Nat) (la : Nat → Int32) (p : Nat) (lane : Int32) : Nat → Nat := fun q => if ¬ q = p ∧ la q = lane then TK be q (oL la q lane) else 0
section
variable {M : j_M} {be : Nat → Nat} {la : Nat → Int32} {g s o : Int32} {p : Nat}
theorem e_sumOthers (h : iM M 36 0 be) (w : wf be) (hp : p < be 0) (lane : Int32) : ∃ g' s' o', f_X10_sumOthers (st M la g s o) (nI p) lane = some (nI (sm (be 0) (so be la p lane)), st M la g' s' o') := by
  have h7 := w.1
  have key : ∀ d q fuel g s o K, q + d = be 0 → d < fuel → ∃ g' s' o', f_X10_sumOthers_L5 fuel (st M la g s o) (nI p) lane (nI (sm q (so be la p lane))) (nI q) K = K (nI (sm (be 0) (so be la p lane))) (nI (be 0)) (st M la g' s' o') := by
    intro d
    induction d with
    | zero =>
      intro q fuel g s o K h1 h2
      obtain ⟨fuel, rfl⟩ : ∃ f, fuel = f + 1 := ⟨fuel - 1, by omega⟩
      refine ⟨g, s, o, ?_⟩
      rw [f_X10_sumOthers_L5, E_many h, Option.bind_some, if_pos (nI_le (by omega) (by omega)), show q = be 0 by omega]
    | succ d ih =>
      intro q fuel g s o K h1 h2
      obtain ⟨fuel, rfl⟩ : ∃ f, fuel = f + 1 := ⟨fuel - 1, by omega⟩
      have hq : q < be 0 := by omega
      have ih' := fun g s o => ih (q + 1) fuel g s o K (by omega) (by omega)
      rw [show sm (q + 1) (so be la p lane) = sm q (so be la p lane) + so be la p lane q from rfl] at ih'
      rw [f_X10_sumOthers_L5, E_many h, Option.bind_some, if_neg (nI_ge (by omega) (by omega)), nI_1]
      by_cases e1 : q = p
      · rw [show so be la p lane q = 0 from if_neg (fun c => c.1 e1)] at ih'
        rw [if_pos (by rw [e1]), add0]
        exact ih' g s o
      · rw [if_neg (by rw [nI_eq (by omega) (by omega)]; exact e1), a_iN (by omega) (by omega), I_st40 (by omega)]
        by_cases e2 : la q = lane
        · rw [show so be la p lane q = TK be q (oL la q lane) from if_pos ⟨e1, e2⟩] at ih'
          rw [if_pos e2, E_sec h w hq, Option.bind_some, j_ckE (by rfl), nI_add]
          exact ih' _ _ _
        · rw [show so be la p lane q = 0 from if_neg (fun c => e2 c.2)] at ih'
          rw [if_neg e2, add0]
          exact ih' g s o
  unfold f_X10_sumOthers
  have hj : 100000 < j_fu := by unfold j_fu; omega
  revert hj
  generalize j_fu = fu
  intro hj
  exact key (be 0) 0 fu g s o _ (by omega) (by omega)
theorem e_costOf (h : iM M 36 0 be) (w : wf be) (hp : p < be 0) {l : Nat} (hl : l < 4) : ∃ la' g' s' o', f_X10_costOf (st M la g s o) (nI p) (nI l) = some (nI (sm (be 0) (cst be (oth (rowOf be) p l) p)), st M la' g' s' o') := by
  have h7 := w.1
  have hr := hn_row (la := la) h w
  obtain ⟨g1, s1, o1, e1⟩ := e_sumOthers (la := fun q => if q = p then nI l else hn M la (be 0) q) (g := g) (s := s) (o := o) h w hp (nI l)
  obtain ⟨g2, s2, o2, e2⟩ := e_sumOthers (la := fun q => if q = p then -1 else (fun q => if q = p then nI l else hn M la (be 0) q) q) (g := g1) (s := s1) (o := o1) h w hp (nI l)
  refine ⟨(fun q => if q = p then -1 else (fun q => if q = p then nI l else hn M la (be 0) q) q), g2, s2, o2, ?_⟩
  have hd : ∀ q, q < be 0 → (hn M la (be 0) q = nI l ↔ rowOf be (1 + q) = l) := fun q hq => by
    rw [(hr q hq).1, nI_eq (hr q hq).2 (by omega)]
  have hP : ∀ q, q < be 0 → (oth (rowOf be) p l q = true ↔ ¬ q = p ∧ rowOf be (1 + q) = l) := fun q hq => by
    unfold oth inl
    simp
    exact And.comm
  have x1 : ∀ q, q < be 0 → so be (fun q => if q = p then nI l else hn M la (be 0) q) p (nI l) q = if oth (rowOf be) p l q then TK be q (fun r => (oth (rowOf be) p l r && !(r == q)) || (r == p)) else 0 := fun q hq => by
    unfold so
    by_cases c : ¬ q = p ∧ rowOf be (1 + q) = l
    · rw [if_pos ((hP q hq).mpr c), if_pos ⟨c.1, by simp only [c.1, if_false]; exact (hd q hq).mpr c.2⟩]
      refine TK_congr (fun r hr' => ?_)
      unfold oL oth inl
      by_cases e : r = p
      · subst e
        have : ¬ r = q := fun x => c.1 x.symm
        simp [this]
      · have hd' := hd r hr'
        have e' : (r == p) = false := beq_eq_false_iff_ne.mpr e
        simp [e, hd', e']
    · rw [if_neg (fun x => c ((hP q hq).mp x)), if_neg (fun x => c ⟨x.1, by have := x.2; simp only [x.1, if_false] at this; exact (hd q hq).mp this⟩)]
  have x2 : ∀ q, q < be 0 → so be (fun q => if q = p then -1 else (fun q => if q = p then nI l else hn M la (be 0) q) q) p (nI l) q = if oth (rowOf be) p l q then TK be q (fun r => oth (rowOf be) p l r && !(r == q)) else 0 := fun q hq => by
    unfold so
    by_cases c : ¬ q = p ∧ rowOf be (1 + q) = l
    · rw [if_pos ((hP q hq).mpr c), if_pos ⟨c.1, by simp only [c.1, if_false]; exact (hd q hq).mpr c.2⟩]
      refine TK_congr (fun r hr' => ?_)
      unfold oL oth inl
      by_cases e : r = p
      · subst e
        have : ¬ (-1 : Int32) = nI l := fun x => nI_m1 (b := l) (by omega) x.symm
        simp [this]
      · have hd' := hd r hr'
        have e' : (r == p) = false := beq_eq_false_iff_ne.mpr e
        simp [e, hd', e']
    · rw [if_neg (fun x => c ((hP q hq).mp x)), if_neg (fun x => c ⟨x.1, by have := x.2; simp only [x.1, if_false] at this; exact (hd q hq).mp this⟩)]
  unfold f_X10_costOf
  rw [E_layHand h w, Option.bind_some, j_ckE (by rfl), w_iN (by omega) (by omega), st_set (by omega), e1, Option.bind_some, j_ckE (by rfl), w_iN (by omega) (by omega), st_set (by omega), e2, Option.bind_some, j_ckE (by rfl), sm_congr x1, sm_congr x2]
  have hm : ∀ q, q < be 0 → (if oth (rowOf be) p l q then TK be q (fun r => oth (rowOf be) p l r && !(r == q)) else 0) ≤ (if oth (rowOf be) p l q then TK be q (fun r => (oth (rowOf be) p l r && !(r == q)) || (r == p)) else 0) := fun q hq => by
    split
    · exact TK_mono (fun r _ hr => by simp [hr])
    · exact Nat.le_refl _
  rw [pk_sub (sm_mono hm), sm_sub hm]
  congr 4
  funext q
  unfold cst
  split <;> simp
end
theorem op_cost (a1 a2 : Int32) : lw_ok Inv (fun M => f_X9_cost M a1 a2) (fun M => f_X10_cost M a1 a2) := by
  refine okI (fun M h => ?_)
  obtain ⟨be, b1, b2, b3⟩ := h.2.2.2.2.1
  rcases rgOne (x := a1) b1.1 (b2.at (by omega)) b3.1 with ⟨p0, q0⟩ | ⟨p, l0, rfl, p0, q0⟩
  · refine ok_ref h 0 (by omega) (v := ((-2) : Int32)) ?_ ?_
    · show f_X9_cost M a1 a2 = _
      unfold f_X9_cost f_X9_isLane
      try simp only [tlE]
      rw [p0, if_pos rfl, bind_bad]
    · show f_X10_cost _ a1 a2 = _
      unfold f_X10_cost f_X10_isLane
      try simp only [tlE]
      rw [isOne_ref, q0, Option.bind_some, if_pos rfl, bind_bad10]
  · skip
    rcases rg (x := a2) (lo := 0) (hi := 3) (lo' := 0) (hi' := 3) 0 3 rfl rfl rfl rfl (by omega) (by omega) with ⟨p1, q1⟩ | ⟨l, m1, l1, rfl, p1, q1⟩
    · refine ok_ref h 0 (by omega) (v := ((-2) : Int32)) ?_ ?_
      · show f_X9_cost M (nI p) a2 = _
        unfold f_X9_cost f_X9_isLane
        try simp only [tlE]
        rw [p0, if_neg (by decide), p1, if_pos rfl, bind_bad]
      · show f_X10_cost _ (nI p) a2 = _
        unfold f_X10_cost f_X10_isLane
        try simp only [tlE]
        rw [isOne_ref, q0, Option.bind_some, if_neg (by decide), q1, if_pos rfl, bind_bad10]
    · skip
      have hp7 := b3.1
      obtain ⟨la', g', s', o', e⟩ := e_costOf (la := j_I M 40) (g := j_I M 35 7) (s := j_I M 35 8) (o := j_I M 35 9) b2 b3 l0 (show l < 4 by omega)
      rw [st_self] at e
      by_cases c : op be l = true
      · refine ok_nb h (v := nI (sm (be 0) (cst be (oth (rowOf be) p l) p))) (M1 := M) (M2 := st M la' g' s' o') ?_ nb.rf ?_ st_nb
        · show f_X9_cost M _ _ = _
          unfold f_X9_cost f_X9_isLane
          try simp only [tlE]
          rw [p0, if_neg (by decide), p1, if_neg (by decide)]
          rw [e_open9 b1 (by omega), Option.bind_some, if_pos c, if_neg (by decide), e_others b1.1 b3.1 (b1.row b3) (by omega) (by omega), Option.bind_some, e_costTo b1 b3 l0, Option.bind_some]
        · show f_X10_cost M _ _ = _
          unfold f_X10_cost f_X10_isLane
          try simp only [tlE]
          rw [q0, Option.bind_some, if_neg (by decide), q1, if_neg (by decide)]
          rw [e_open10 (b2.at (by omega)) b3.2.2.2.1 (by omega), Option.bind_some, if_pos c, if_neg (by decide), e, Option.bind_some, j_ckE (by rfl)]
      · refine ok_ref h 1 (by omega) (v := (-3 : Int32)) ?_ ?_
        · show f_X9_cost M _ _ = _
          unfold f_X9_cost f_X9_isLane
          try simp only [tlE]
          rw [p0, if_neg (by decide), p1, if_neg (by decide)]
          rw [e_open9 b1 (by omega), Option.bind_some, if_neg c, if_pos rfl, bind_no]
        · show f_X10_cost _ _ _ = _
          unfold f_X10_cost f_X10_isLane
          try simp only [tlE]
          rw [isOne_ref, q0, Option.bind_some, if_neg (by decide), q1, if_neg (by decide)]
          rw [e_open10 (be := be) (by rw [I_sIn (by omega)]; exact b2.at (by omega)) b3.2.2.2.1 (by omega), Option.bind_some, if_neg c, if_pos rfl, bind_no10]
theorem e_cheapest {M : j_M} {be : Nat → Nat} {p : Nat} (h : iB M 17 be) (w : wf be) (hp : p < be 0) : f_X9_cheapestLane M (nI p) = some (eN (bst (op be) (fun l => sm (be 0) (cst be (oth (rowOf be) p l) p)) 4), pm M (fun l => sm (be 0) (cst be (oth (rowOf be) p l) p)) 4) := by
  have h7 := w.1
  have key : ∀ d l fuel K, l + d = 4 → d < fuel → f_X9_cheapestLane_L2 fuel (pm M (fun l => sm (be 0) (cst be (oth (rowOf be) p l) p)) l) (nI p) (nI l) K = K (nI 4) (pm M (fun l => sm (be 0) (cst be (oth (rowOf be) p l) p)) 4) := by
    intro d
    induction d with
    | zero =>
      intro l fuel K h1 h2
      obtain ⟨fuel, rfl⟩ : ∃ f, fuel = f + 1 := ⟨fuel - 1, by omega⟩
      rw [f_X9_cheapestLane_L2, i_4, if_pos (nI_le (by omega) (by omega)), show l = 4 by omega]
    | succ d ih =>
      intro l fuel K h1 h2
      obtain ⟨fuel, rfl⟩ : ∃ f, fuel = f + 1 := ⟨fuel - 1, by omega⟩
      rw [f_X9_cheapestLane_L2, i_4, if_neg (nI_ge (by omega) (by omega)), e_others h.pm.1 w.1 (h.pm.row w) (by omega) (by omega), Option.bind_some, e_costTo h.pm w hp, Option.bind_some, w_iN (by omega) (by omega), nI_1]
      show f_X9_cheapestLane_L2 fuel (j_sI (pm M (fun l => sm (be 0) (cst be (oth (rowOf be) p l) p)) l) 25 l (nI ((fun l => sm (be 0) (cst be (oth (rowOf be) p l) p)) l))) (nI p) (nI (l + 1)) K = _
      rw [pm_set]
      exact ih (l + 1) fuel K (by omega) (by omega)
  unfold f_X9_cheapestLane
  have hj : 100000 < j_fu := by unfold j_fu; omega
  revert hj
  generalize j_fu = fu
  intro hj
  have := key 4 0 fu (fun (y9 : Int32) (M10 : j_M) => ((f_X0_leastOpenLane M10 17).bind fun v12 => (some (v12, M10)))) (by omega) (by omega)
  rw [pm_0] at this
  rw [show (0 : Int32) = nI 0 from rfl, this]
  show (f_X0_leastOpenLane (pm M (fun l => sm (be 0) (cst be (oth (rowOf be) p l) p)) 4) 17).bind _ = _
  rw [e_leastOpen (t := fun l => sm (be 0) (cst be (oth (rowOf be) p l) p)) h.pm (fun l hl => ⟨by rw [I_pm, if_pos ⟨rfl, hl⟩], by have := cst_le w (oth (rowOf be) p l) p; show sm (be 0) (cst be (oth (rowOf be) p l) p) < 2 ^ 31; omega⟩)]
  rfl
theorem e_where {M : j_M} {be : Nat → Nat} {p : Nat} (h : iM M 36 0 be) (w : wf be) (hp : p < be 0) (fuel : Nat) (hfu : 100 < fuel) (la : Nat → Int32) (g s o : Int32) (K : Int32 → Int32 → Int32 → j_M → Option (Int32 × j_M)) : ∃ la' g' s' o' z, f_X10_where_L23 fuel (st M la g s o) (nI p) ((-1) : Int32) (1000000 : Int32) (0 : Int32) K = K (eN (bst (op be) (fun l => sm (be 0) (cst be (oth (rowOf be) p l) p)) 4)) z (nI 4) (st M la' g' s' o') := by
  have key : ∀ d l fuel la g s o K, l + d = 4 → d < fuel → ∃ la' g' s' o' z, f_X10_where_L23 fuel (st M la g s o) (nI p) (eN (bst (op be) (fun l => sm (be 0) (cst be (oth (rowOf be) p l) p)) l)) (nI (fw (fun l => sm (be 0) (cst be (oth (rowOf be) p l) p)) (bst (op be) (fun l => sm (be 0) (cst be (oth (rowOf be) p l) p)) l))) (nI l) K = K (eN (bst (op be) (fun l => sm (be 0) (cst be (oth (rowOf be) p l) p)) 4)) z (nI 4) (st M la' g' s' o') := by
    have ht : ∀ l, (fun l => sm (be 0) (cst be (oth (rowOf be) p l) p)) l < 1000000 := fun l => by have := cst_le w (oth (rowOf be) p l) p; show sm (be 0) _ < _; omega
    intro d
    induction d with
    | zero =>
      intro l fuel la g s o K h1 h2
      obtain ⟨fuel, rfl⟩ : ∃ f, fuel = f + 1 := ⟨fuel - 1, by omega⟩
      refine ⟨la, g, s, o, nI (fw (fun l => sm (be 0) (cst be (oth (rowOf be) p l) p)) (bst (op be) (fun l => sm (be 0) (cst be (oth (rowOf be) p l) p)) l)), ?_⟩
      rw [f_X10_where_L23, i_4, if_pos (nI_le (by omega) (by omega)), show l = 4 by omega]
    | succ d ih =>
      intro l fuel la g s o K h1 h2
      obtain ⟨fuel, rfl⟩ : ∃ f, fuel = f + 1 := ⟨fuel - 1, by omega⟩
      have hf := fw_le (ok := op be) ht l
      have htl := ht l
      rw [f_X10_where_L23, i_4, if_neg (nI_ge (by omega) (by omega)), st_open h w (by omega), Option.bind_some, jn2E, nI_1]
      simp only [jnE]
      by_cases c : op be l = true
      · obtain ⟨la1, g1, s1, o1, e1⟩ := e_costOf (la := la) (g := g) (s := s) (o := o) h w hp (show l < 4 by omega)
        obtain ⟨la', g', s', o', z, e⟩ := ih (l + 1) fuel la1 g1 s1 o1 K (by omega) (by omega)
        refine ⟨la', g', s', o', z, ?_⟩
        rw [if_pos c, if_neg (by decide), e1, Option.bind_some, j_ckE (by rfl)]
        rw [bst_open c htl] at e
        by_cases c2 : fw (fun l => sm (be 0) (cst be (oth (rowOf be) p l) p)) (bst (op be) (fun l => sm (be 0) (cst be (oth (rowOf be) p l) p)) l) ≤ (fun l => sm (be 0) (cst be (oth (rowOf be) p l) p)) l
        · rw [if_pos c2] at e
          have c3 := nI_le c2 (by omega)
          simp only [c3, if_true]
          exact e
        · rw [if_neg c2] at e
          have c3 := nI_ge (Nat.lt_of_not_le c2) (by omega)
          simp only [c3, if_false]
          exact e
      · obtain ⟨la', g', s', o', z, e⟩ := ih (l + 1) fuel la g s o K (by omega) (by omega)
        refine ⟨la', g', s', o', z, ?_⟩
        rw [bst_shut c] at e
        have c3 := nI_le hf (by omega)
        rw [if_neg c, if_pos rfl, i_1000000]
        simp only [c3, if_true]
        exact e
  exact key 4 0 fuel la g s o K (by omega) (by omega)
theorem op_where (a1 : Int32) : lw_ok Inv (fun M => f_X9_where M a1) (fun M => f_X10_where M a1) := by
  refine okI (fun M h => ?_)
  obtain ⟨be, b1, b2, b3⟩ := h.2.2.2.2.1
  rcases rgOne (x := a1) b1.1 (b2.at (by omega)) b3.1 with ⟨p0, q0⟩ | ⟨p, l0, rfl, p0, q0⟩
  · refine ok_ref h 0 (by omega) (v := ((-2) : Int32)) ?_ ?_
    · show f_X9_where M a1 = _
      unfold f_X9_where
      try simp only [tlE]
      rw [p0, if_pos rfl, bind_bad]
    · show f_X10_where _ a1 = _
      unfold f_X10_where
      try simp only [tlE]
      rw [isOne_ref, q0, Option.bind_some, if_pos rfl, bind_bad10]
  · skip
    have b2' : iM (pm M (fun l => sm (be 0) (cst be (oth (rowOf be) p l) p)) 4) 36 0 be := b2.to (fun k => I_pm' (by omega))
    obtain ⟨la', g', s', o', z, e⟩ := e_where b2' b3 l0 j_fu (by unfold j_fu; omega) (j_I (pm M (fun l => sm (be 0) (cst be (oth (rowOf be) p l) p)) 4) 40) (j_I (pm M (fun l => sm (be 0) (cst be (oth (rowOf be) p l) p)) 4) 35 7) (j_I (pm M (fun l => sm (be 0) (cst be (oth (rowOf be) p l) p)) 4) 35 8) (j_I (pm M (fun l => sm (be 0) (cst be (oth (rowOf be) p l) p)) 4) 35 9) (fun (y22 : Int32) (y23 : Int32) (y24 : Int32) (M25 : j_M) => (some (y22, M25)))
    rw [st_self] at e
    refine ok_nb h (v := eN (bst (op be) (fun l => sm (be 0) (cst be (oth (rowOf be) p l) p)) 4)) (M1 := pm M (fun l => sm (be 0) (cst be (oth (rowOf be) p l) p)) 4) (M2 := st (pm M (fun l => sm (be 0) (cst be (oth (rowOf be) p l) p)) 4) la' g' s' o') ?_ pm_nb ?_ st_nb
    · show f_X9_where M _ = _
      unfold f_X9_where
      try simp only [tlE]
      rw [p0, if_neg (by decide)]
      rw [e_cheapest b1 b3 l0, Option.bind_some, j_ckE (by rfl)]
    · show f_X10_where _ _ = _
      unfold f_X10_where
      try simp only [tlE]
      rw [isOne_eq (I_pm' (by omega)), q0, Option.bind_some, if_neg (by decide)]
      rw [e]
