/-! the lanes of one: class and model -/
theorem add0 (x : Int32) : x + (0 : Int32) = x := Int32.add_zero x
theorem gt0 {n : Nat} (h : 0 < n) (hn : n < 2 ^ 31) : 0 < nI n := nI_lt (a := 0) h hn
def fw (t : Nat → Nat) (o : Option Nat) : Nat := match o with
  | none => 1000000
  | some b => t b
theorem bst_open {ok : Nat → Bool} {t : Nat → Nat} {l : Nat} (c : ok l = true) (ht : t l < 1000000) : bst ok t (l + 1) = if fw t (bst ok t l) ≤ t l then bst ok t l else some l := by
  rw [show bst ok t (l + 1) = if ok l then (match bst ok t l with
        | none => some l
        | some b => if t l < t b then some l else some b) else bst ok t l from rfl, if_pos c]
  cases e : bst ok t l with
  | none => rw [if_neg (by show ¬ 1000000 ≤ t l; omega)]
  | some b =>
    show (if t l < t b then some l else some b) = if t b ≤ t l then some b else some l
    by_cases c2 : t l < t b
    · rw [if_pos c2, if_neg (by omega)]
    · rw [if_neg c2, if_pos (by omega)]
theorem bst_shut {ok : Nat → Bool} {t : Nat → Nat} {l : Nat} (c : ¬ ok l = true) : bst ok t (l + 1) = bst ok t l := by
  rw [show bst ok t (l + 1) = if ok l then (match bst ok t l with
        | none => some l
        | some b => if t l < t b then some l else some b) else bst ok t l from rfl, if_neg c]
theorem fw_le {ok : Nat → Bool} {t : Nat → Nat} (ht : ∀ l, t l < 1000000) (l : Nat) : fw t (bst ok t l) ≤ 1000000 := by
  cases bst ok t l with
  | none => exact Nat.le_refl _
  | some b => exact Nat.le_of_lt (ht b)
def pm (M : j_M) (t : Nat → Nat) (l : Nat) : j_M := (fun b j => if b = 25 ∧ j < l then nI (t j) else M.1 b j, M.2)
theorem I_pm {M : j_M} {t : Nat → Nat} {l b j : Nat} : j_I (pm M t l) b j = if b = 25 ∧ j < l then nI (t j) else j_I M b j := rfl
theorem I_pm' {M : j_M} {t : Nat → Nat} {l b j : Nat} (h : b ≠ 25) : j_I (pm M t l) b j = j_I M b j := by rw [I_pm, if_neg (fun q => h q.1)]
theorem pm_0 {M : j_M} {t : Nat → Nat} : pm M t 0 = M := by
  refine Prod.ext ?_ rfl
  funext b j
  show (if b = 25 ∧ j < 0 then nI (t j) else M.1 b j) = M.1 b j
  rw [if_neg (by omega)]
theorem pm_set {M : j_M} {t : Nat → Nat} {l : Nat} : j_sI (pm M t l) 25 l (nI (t l)) = pm M t (l + 1) := by
  refine Prod.ext ?_ rfl
  funext b j
  show (if b = 25 ∧ j = l then nI (t l) else if b = 25 ∧ j < l then nI (t j) else M.1 b j) = if b = 25 ∧ j < l + 1 then nI (t j) else M.1 b j
  by_cases h : b = 25
  · by_cases e : j = l
    · subst e; rw [if_pos ⟨h, rfl⟩, if_pos ⟨h, by omega⟩]
    · rw [if_neg (fun q => e q.2)]
      by_cases c : j < l
      · rw [if_pos ⟨h, c⟩, if_pos ⟨h, by omega⟩]
      · rw [if_neg (fun q => c q.2), if_neg (by omega)]
  · rw [if_neg (fun q => h q.1), if_neg (fun q => h q.1), if_neg (fun q => h q.1)]
theorem pm_nb {M : j_M} {t : Nat → Nat} {l : Nat} : nb M (pm M t l) := ⟨fun a k hs => I_pm' (by unfold scr at hs; omega), fun _ _ _ => rfl, rfl⟩
theorem iB.pm {M : j_M} {be t : Nat → Nat} {l : Nat} (h : iB M 17 be) : iB (pm M t l) 17 be := h.to (fun a k _ _ => I_pm' (by omega))
theorem iR.pm {M : j_M} {r t : Nat → Nat} {l a : Nat} (h : iR M a r) (ha : a ≠ 25) : iR (pm M t l) a r := fun k hk => by rw [I_pm' ha]; exact h k hk
/-- seconds of one of a bath -/
def TK (be : Nat → Nat) (p : Nat) (P : Nat → Bool) : Nat := tk (be 0) (be (30 + p)) (fun p => be (37 + p)) p P
theorem TK_congr {be : Nat → Nat} {p : Nat} {P Q : Nat → Bool} (h : ∀ q, q < be 0 → P q = Q q) : TK be p P = TK be p Q := tk_congr h
theorem TK_mono {be : Nat → Nat} {p : Nat} {P Q : Nat → Bool} (h : ∀ q, q < be 0 → P q = true → Q q = true) : TK be p P ≤ TK be p Q := tk_mono h
theorem TK_ge {be : Nat → Nat} {p : Nat} {P : Nat → Bool} (w : wf be) (hp : p < be 0) : 20 ≤ TK be p P := Nat.le_trans (w.2.2.2.2.2.1 p hp).2.1 (tk_ge (pi := fun p => be (37 + p)))
theorem TK_le {be : Nat → Nat} {p : Nat} {P : Nat → Bool} (w : wf be) (hp : p < be 0) : TK be p P ≤ 120 := by
  have h7 := w.1
  have h1 : gp (be 0) (fun p => be (37 + p)) P ≤ 90 := mx_le (fun q hq => by
    have := (w.2.2.2.2.2.1 q hq).2.2
    show (if P q then be (37 + q) else 0) ≤ 90
    split <;> omega)
  have h2 := ct_le (n := be 0) P
  have h3 := sl_le (n := be 0) (p := p) (pi := fun p => be (37 + p)) P
  have h5 := (w.2.2.2.2.2.1 p hp).2.2
  have h5' : (fun p => be (37 + p)) p ≤ 90 := h5
  unfold TK tk sec
  repeat' split
  all_goals omega
theorem E_takesIn {M : j_M} {b a1 p : Nat} {be r : Nat → Nat} (h : iB M b be) (w : wf be) (hp : p < be 0) (hr : iR M a1 r) {lane : Nat} (hl : lane < 2 ^ 31) : f_X0_takesIn M b a1 (nI p) (nI lane) = some (nI (TK be p (oth r p lane))) := e_takesIn (Inv.iK h w) hp hr hl
theorem E_takes {M : j_M} {b p : Nat} {be : Nat → Nat} (h : iB M b be) (w : wf be) (hp : p < be 0) (P : Nat → Bool) : f_X0_takes M b (nI p) (nI (ms (be 0) P)) = some (nI (TK be p P)) := e_takes (Inv.iK h w) hp P
theorem E_sec {M : j_M} {be : Nat → Nat} {la : Nat → Int32} {g s o : Int32} {p : Nat} (h : iM M 36 0 be) (w : wf be) (hp : p < be 0) (lane : Int32) : f_X10_secondsIn (st M la g s o) (nI p) lane = some (nI (TK be p (oL la p lane)), st M la (nI (gp (be 0) (fun p => be (37 + p)) (oL la p lane))) (nI (sl (be 0) (fun p => be (37 + p)) p (oL la p lane))) (nI (ct (be 0) (oL la p lane)))) := e_sec (Inv.mK h w) hp lane
theorem e_quickest {M : j_M} {a1 p : Nat} {be r : Nat → Nat} (h : iB M 17 be) (w : wf be) (hp : p < be 0) (hr : iR M a1 r) (ha : a1 ≠ 25) : f_X0_quickestLane M 17 a1 (nI p) = some (eN (bst (op be) (fun l => TK be p (oth r p l)) 4), pm M (fun l => TK be p (oth r p l)) 4) := by
  have key : ∀ d l fuel K, l + d = 4 → d < fuel → f_X0_quickestLane_L2 fuel 17 a1 (pm M (fun l => TK be p (oth r p l)) l) (nI p) (nI l) K = K (nI 4) (pm M (fun l => TK be p (oth r p l)) 4) := by
    intro d
    induction d with
    | zero =>
      intro l fuel K h1 h2
      obtain ⟨fuel, rfl⟩ : ∃ f, fuel = f + 1 := ⟨fuel - 1, by omega⟩
      rw [f_X0_quickestLane_L2, i_4, if_pos (nI_le (by omega) (by omega)), show l = 4 by omega]
    | succ d ih =>
      intro l fuel K h1 h2
      obtain ⟨fuel, rfl⟩ : ∃ f, fuel = f + 1 := ⟨fuel - 1, by omega⟩
      rw [f_X0_quickestLane_L2, i_4, if_neg (nI_ge (by omega) (by omega)), E_takesIn h.pm w hp (hr.pm ha) (by omega), Option.bind_some, w_iN (by omega) (by omega), nI_1]
      show f_X0_quickestLane_L2 fuel 17 a1 (j_sI (pm M (fun l => TK be p (oth r p l)) l) 25 l (nI ((fun l => TK be p (oth r p l)) l))) (nI p) (nI (l + 1)) K = _
      rw [pm_set]
      exact ih (l + 1) fuel K (by omega) (by omega)
  unfold f_X0_quickestLane
  have hj : 100000 < j_fu := by unfold j_fu; omega
  revert hj
  generalize j_fu = fu
  intro hj
  have := key 4 0 fu (fun (y8 : Int32) (M9 : j_M) => ((f_X0_leastOpenLane M9 17).bind fun v12 => (some (v12, M9)))) (by omega) (by omega)
  rw [pm_0] at this
  rw [show (0 : Int32) = nI 0 from rfl, this]
  show (f_X0_leastOpenLane (pm M (fun l => TK be p (oth r p l)) 4) 17).bind _ = _
  rw [e_leastOpen (t := fun l => TK be p (oth r p l)) h.pm (fun l hl => ⟨by rw [I_pm, if_pos ⟨rfl, hl⟩], by have := TK_le (P := oth r p l) w hp; show TK be p (oth r p l) < 2 ^ 31; omega⟩)]
  rfl
section
variable {M : j_M} {be : Nat → Nat} {la : Nat → Int32} {g s o : Int32} {p : Nat}
theorem st_open {l : Nat} (h : iM M 36 0 be) (w : wf be) (hl : l < 4) : f_X10_isOpen (st M la g s o) (nI l) = some (if op be l then 1 else 0) := e_open10 (by rw [I_st (by decide) (by decide)]; exact h.at (by omega)) w.2.2.2.1 hl
theorem E_many (h : iM M 36 0 be) : f_X10_many (st M la g s o) = some (nI (be 0)) := st_many (h.at (by omega))
theorem e_bestOf (h : iM M 36 0 be) (w : wf be) (hp : p < be 0) : ∃ g' s' o', f_X10_bestOf (st M la g s o) (nI p) = some (eN (bst (op be) (fun l => TK be p (oL la p (nI l))) 4), st M la g' s' o') := by
  have key : ∀ d l fuel g s o K, l + d = 4 → d < fuel → ∃ g' s' o' z, f_X10_bestOf_L8 fuel (st M la g s o) (nI p) (eN (bst (op be) (fun l => TK be p (oL la p (nI l))) l)) (nI (fw (fun l => TK be p (oL la p (nI l))) (bst (op be) (fun l => TK be p (oL la p (nI l))) l))) (nI l) K = K (eN (bst (op be) (fun l => TK be p (oL la p (nI l))) 4)) z (nI 4) (st M la g' s' o') := by
    have ht : ∀ l, (fun l => TK be p (oL la p (nI l))) l < 1000000 := fun l => by have := TK_le (P := oL la p (nI l)) w hp; show TK be p _ < _; omega
    intro d
    induction d with
    | zero =>
      intro l fuel g s o K h1 h2
      obtain ⟨fuel, rfl⟩ : ∃ f, fuel = f + 1 := ⟨fuel - 1, by omega⟩
      refine ⟨g, s, o, nI (fw (fun l => TK be p (oL la p (nI l))) (bst (op be) (fun l => TK be p (oL la p (nI l))) l)), ?_⟩
      rw [f_X10_bestOf_L8, i_4, if_pos (nI_le (by omega) (by omega)), show l = 4 by omega]
    | succ d ih =>
      intro l fuel g s o K h1 h2
      obtain ⟨fuel, rfl⟩ : ∃ f, fuel = f + 1 := ⟨fuel - 1, by omega⟩
      have hf := fw_le (ok := op be) ht l
      have htl := ht l
      rw [f_X10_bestOf_L8, i_4, if_neg (nI_ge (by omega) (by omega)), st_open h w (by omega), Option.bind_some, jn2E, nI_1]
      simp only [jnE]
      by_cases c : op be l = true
      · obtain ⟨g', s', o', z, e⟩ := ih (l + 1) fuel (nI (gp (be 0) (fun p => be (37 + p)) (oL la p (nI l)))) (nI (sl (be 0) (fun p => be (37 + p)) p (oL la p (nI l)))) (nI (ct (be 0) (oL la p (nI l)))) K (by omega) (by omega)
        refine ⟨g', s', o', z, ?_⟩
        rw [if_pos c, if_neg (by decide), E_sec h w hp, Option.bind_some, j_ckE (by rfl)]
        rw [bst_open c htl] at e
        by_cases c2 : fw (fun l => TK be p (oL la p (nI l))) (bst (op be) (fun l => TK be p (oL la p (nI l))) l) ≤ (fun l => TK be p (oL la p (nI l))) l
        · rw [if_pos c2] at e
          have c3 := nI_le c2 (by omega)
          simp only [c3, if_true]
          exact e
        · rw [if_neg c2] at e
          have c3 := nI_ge (Nat.lt_of_not_le c2) (by omega)
          simp only [c3, if_false]
          exact e
      · obtain ⟨g', s', o', z, e⟩ := ih (l + 1) fuel g s o K (by omega) (by omega)
        refine ⟨g', s', o', z, ?_⟩
        rw [bst_shut c] at e
        have c3 := nI_le hf (by omega)
        rw [if_neg c, if_pos rfl, i_1000000]
        simp only [c3, if_true]
        exact e
  unfold f_X10_bestOf
  have hj : 100000 < j_fu := by unfold j_fu; omega
  revert hj
  generalize j_fu = fu
  intro hj
  obtain ⟨g', s', o', z, e⟩ := key 4 0 fu g s o (fun (y19 : Int32) (y20 : Int32) (y21 : Int32) (M22 : j_M) => (some (y19, M22))) (by omega) (by omega)
  exact ⟨g', s', o', e⟩
end
theorem rowOf_1 {be : Nat → Nat} {q : Nat} : rowOf be (1 + q) = be (9 + q) := by
  unfold rowOf
  rw [if_neg (by omega), show 8 + (1 + q) = 9 + q by omega]
/-- the hand, laid, is the row -/
theorem hn_row {M : j_M} {be : Nat → Nat} {la : Nat → Int32} (h : iM M 36 0 be) (w : wf be) : ∀ q, q < be 0 → hn M la (be 0) q = nI (rowOf be (1 + q)) ∧ rowOf be (1 + q) < 2 ^ 31 := fun q hq => by
  have h7 := w.1
  have := w.lane (p := q) (by omega)
  rw [rowOf_1]
  unfold hn
  rw [if_pos hq, h.at (by omega)]
  exact ⟨rfl, by omega⟩
theorem E_layHand {M : j_M} {be : Nat → Nat} {la : Nat → Int32} {g s o : Int32} (h : iM M 36 0 be) (w : wf be) : f_X10_layHand (st M la g s o) = some (st M (hn M la (be 0)) g s o) := e_layHand (h.at (by omega)) w.1
theorem iM.to {M M' : j_M} {be : Nat → Nat} (h : iM M 36 0 be) (he : ∀ k, j_I M' 36 k = j_I M 36 k) : iM M' 36 0 be := fun k hk => by rw [he]; exact h k hk
theorem E_hand {M : j_M} {be : Nat → Nat} (h : iM M 36 0 be) (w : wf be) : ∃ la g s o, f_X10_layHand M = some (st M la g s o) ∧ ∀ q, q < be 0 → la q = nI (rowOf be (1 + q)) ∧ rowOf be (1 + q) < 2 ^ 31 := by
  have := E_layHand (la := j_I M 40) (g := j_I M 35 7) (s := j_I M 35 8) (o := j_I M 35 9) h w
  rw [st_self] at this
  exact ⟨_, _, _, _, this, hn_row h w⟩
theorem TK_oL {be : Nat → Nat} {la : Nat → Int32} {r : Nat → Nat} {p lane : Nat} (h : ∀ q, q < be 0 → la q = nI (r (1 + q)) ∧ r (1 + q) < 2 ^ 31) (hl : lane < 2 ^ 31) : TK be p (oL la p (nI lane)) = TK be p (oth r p lane) := TK_congr (oL_oth h hl)
theorem op_best (a1 : Int32) : lw_ok Inv (fun M => f_X9_best M a1) (fun M => f_X10_best M a1) := by
  refine okI (fun M h => ?_)
  obtain ⟨be, b1, b2, b3⟩ := h.2.2.2.2.1
  rcases rgOne (x := a1) b1.1 (b2.at (by omega)) b3.1 with ⟨p0, q0⟩ | ⟨p, l0, rfl, p0, q0⟩
  · refine ok_ref h 0 (by omega) (v := ((-2) : Int32)) ?_ ?_
    · show f_X9_best M a1 = _
      unfold f_X9_best
      try simp only [tlE]
      rw [p0, if_pos rfl, bind_bad]
    · show f_X10_best _ a1 = _
      unfold f_X10_best
      try simp only [tlE]
      rw [isOne_ref, q0, Option.bind_some, if_pos rfl, bind_bad10]
  · skip
    have b2' : iM (pm M (fun l => TK be p (oth (rowOf be) p l)) 4) 36 0 be := b2.to (fun k => I_pm' (by omega))
    obtain ⟨la, g, s, o, e1, e2⟩ := E_hand b2' b3
    obtain ⟨g', s', o', e⟩ := e_bestOf (la := la) (g := g) (s := s) (o := o) b2' b3 l0
    refine ok_nb h (v := eN (bst (op be) (fun l => TK be p (oth (rowOf be) p l)) 4)) (M1 := pm M (fun l => TK be p (oth (rowOf be) p l)) 4) (M2 := st (pm M (fun l => TK be p (oth (rowOf be) p l)) 4) la g' s' o') ?_ pm_nb ?_ st_nb
    · show f_X9_best M _ = _
      unfold f_X9_best
      try simp only [tlE]
      rw [p0, if_neg (by decide)]
      rw [e_quickest b1 b3 l0 (b1.row b3) (by omega), Option.bind_some, j_ckE (by rfl)]
    · show f_X10_best _ _ = _
      unfold f_X10_best
      try simp only [tlE]
      rw [isOne_eq (I_pm' (by omega)), q0, Option.bind_some, if_neg (by decide)]
      rw [e1, Option.bind_some, j_ckE (by rfl), e, Option.bind_some, j_ckE (by rfl), bst_congr (fun l hl => TK_oL e2 (by omega))]
theorem op_seconds (a1 a2 a3 : Int32) : lw_ok Inv (fun M => f_X9_seconds M a1 a2 a3) (fun M => f_X10_seconds M a1 a2 a3) := by
  refine okI (fun M h => ?_)
  obtain ⟨be, b1, b2, b3⟩ := h.2.2.2.2.1
  rcases rgOne (x := a1) b1.1 (b2.at (by omega)) b3.1 with ⟨p0, q0⟩ | ⟨p, l0, rfl, p0, q0⟩
  · refine ok_ref h 0 (by omega) (v := ((-2) : Int32)) ?_ ?_
    · show f_X9_seconds M a1 a2 a3 = _
      unfold f_X9_seconds f_X9_isLane
      try simp only [tlE]
      rw [p0, if_pos rfl, bind_bad]
    · show f_X10_seconds _ a1 a2 a3 = _
      unfold f_X10_seconds f_X10_isLane
      try simp only [tlE]
      rw [isOne_ref, q0, Option.bind_some, if_pos rfl, bind_bad10]
  · skip
    rcases rg (x := a2) (lo := 0) (hi := 3) (lo' := 0) (hi' := 3) 0 3 rfl rfl rfl rfl (by omega) (by omega) with ⟨p1, q1⟩ | ⟨l, m1, l1, rfl, p1, q1⟩
    · refine ok_ref h 0 (by omega) (v := ((-2) : Int32)) ?_ ?_
      · show f_X9_seconds M (nI p) a2 a3 = _
        unfold f_X9_seconds f_X9_isLane
        try simp only [tlE]
        rw [p0, if_neg (by decide), p1, if_pos rfl, bind_bad]
      · show f_X10_seconds _ (nI p) a2 a3 = _
        unfold f_X10_seconds f_X10_isLane
        try simp only [tlE]
        rw [isOne_ref, q0, Option.bind_some, if_neg (by decide), q1, if_pos rfl, bind_bad10]
    · skip
      have b2' := b2
      obtain ⟨la, g, s, o, e1, e2⟩ := E_hand b2 b3
      have hp7 := b3.1
      rcases rg (x := a3) (lo := 0) (hi := 2) (lo' := 0) (hi' := 2) 0 2 rfl rfl rfl rfl (by omega) (by omega) with ⟨g9, g10⟩ | ⟨n, -, hn, rfl, g9, g10⟩
      · refine ok_ref h 0 (by omega) (v := (-2 : Int32)) ?_ ?_
        · show f_X9_seconds M _ _ _ = _
          unfold f_X9_seconds f_X9_isLane
          try simp only [tlE]
          rw [p0, if_neg (by decide), p1, if_neg (by decide)]
          rw [e_others b1.1 b3.1 (b1.row b3) (by omega) (by omega), Option.bind_some, if_neg (show ¬ a3 = 0 from sw_out (m := 2) (by omega) g9 (j := 0) (by omega)), if_neg (show ¬ a3 = 1 from sw_out (m := 2) (by omega) g9 (j := 1) (by omega)), if_neg (show ¬ a3 = 2 from sw_out (m := 2) (by omega) g9 (j := 2) (by omega)), bind_bad]
        · show f_X10_seconds _ _ _ _ = _
          unfold f_X10_seconds f_X10_isLane
          try simp only [tlE]
          rw [isOne_ref, q0, Option.bind_some, if_neg (by decide), q1, if_neg (by decide)]
          rw [g10, if_pos rfl, bind_bad10]
      · have ho := oL_oth (p := p) e2 (show l < 2 ^ 31 by omega)
        refine ok_nb h (v := if n = 0 then nI (TK be p (oth (rowOf be) p l)) else if n = 1 then nI (sl (be 0) (fun p => be (37 + p)) p (oth (rowOf be) p l)) else nI (ct (be 0) (oth (rowOf be) p l))) (M1 := M) (M2 := st M la (nI (gp (be 0) (fun p => be (37 + p)) (oL la p (nI l)))) (nI (sl (be 0) (fun p => be (37 + p)) p (oL la p (nI l)))) (nI (ct (be 0) (oL la p (nI l))))) ?_ nb.rf ?_ st_nb
        · show f_X9_seconds M _ _ _ = _
          unfold f_X9_seconds f_X9_isLane
          try simp only [tlE]
          rw [p0, if_neg (by decide), p1, if_neg (by decide)]
          rw [e_others b1.1 b3.1 (b1.row b3) (by omega) (by omega), Option.bind_some]
          rcases (show n = 0 ∨ n = 1 ∨ n = 2 by omega) with rfl | rfl | rfl
          · rw [if_pos rfl, E_takes b1 b3 l0, Option.bind_some]; rfl
          · rw [if_neg (by decide), if_pos rfl, e_slower (Inv.iK b1 b3) l0, Option.bind_some]; rfl
          · rw [if_neg (by decide), if_neg (by decide), if_pos (show nI 2 = 2 from rfl), e_bc b3.1]; rfl
        · show f_X10_seconds M _ _ _ = _
          unfold f_X10_seconds f_X10_isLane
          try simp only [tlE]
          rw [q0, Option.bind_some, if_neg (by decide), q1, if_neg (by decide)]
          rw [g10, if_neg (by decide), e1, Option.bind_some, j_ckE (by rfl), E_sec b2 b3 l0, Option.bind_some, j_ckE (by rfl)]
          rcases (show n = 0 ∨ n = 1 ∨ n = 2 by omega) with rfl | rfl | rfl
          · rw [if_pos rfl, TK_congr ho]; rfl
          · rw [if_neg (by decide), if_pos rfl, st8, sl_congr ho]; rfl
          · rw [if_neg (by decide), if_neg (by decide), st9, ct_congr ho]; rfl
theorem op_lengths (a1 a2 : Int32) : lw_ok Inv (fun M => f_X9_lengths M a1 a2) (fun M => f_X10_lengths M a1 a2) := by
  refine okI (fun M h => ?_)
  obtain ⟨be, b1, b2, b3⟩ := h.2.2.2.2.1
  rcases rgOne (x := a1) b1.1 (b2.at (by omega)) b3.1 with ⟨p0, q0⟩ | ⟨p, l0, rfl, p0, q0⟩
  · refine ok_ref h 0 (by omega) (v := ((-2) : Int32)) ?_ ?_
    · show f_X9_lengths M a1 a2 = _
      unfold f_X9_lengths
      try simp only [tlE]
      rw [p0, if_pos rfl, bind_bad]
    · show f_X10_lengths _ a1 a2 = _
      unfold f_X10_lengths
      try simp only [tlE]
      rw [isOne_ref, q0, Option.bind_some, if_pos rfl, bind_bad10]
  · skip
    rcases rg (x := a2) (lo := 0) (hi := 60) (lo' := 0) (hi' := 60) 0 60 rfl rfl rfl rfl (by omega) (by omega) with ⟨p1, q1⟩ | ⟨m, m1, l1, rfl, p1, q1⟩
    · refine ok_ref h 0 (by omega) (v := ((-2) : Int32)) ?_ ?_
      · show f_X9_lengths M (nI p) a2 = _
        unfold f_X9_lengths
        try simp only [tlE]
        rw [p0, if_neg (by decide), p1, if_pos rfl, bind_bad]
      · show f_X10_lengths _ (nI p) a2 = _
        unfold f_X10_lengths
        try simp only [tlE]
        rw [isOne_ref, q0, Option.bind_some, if_neg (by decide), q1, if_pos rfl, bind_bad10]
    · skip
      obtain ⟨la, g, s, o, e1, e2⟩ := E_hand b2 b3
      have hp7 := b3.1
      obtain ⟨w1, w2, w3, w4⟩ := b3.2.2.2.2.2.2.1
      have hw := w2 p (by omega)
      have hrow := b1.2.2.2.2.2.1
      have r1 : j_I M (17 + 5) (1 + p) = nI (be (9 + p)) := by rw [hrow _ (by omega)]; unfold rowOf; rw [if_neg (by omega), show 8 + (1 + p) = 9 + p by omega]
      have r2 : j_I M (17 + 5) (8 + p) = nI (be (16 + p)) := by rw [hrow _ (by omega)]; unfold rowOf; rw [if_neg (by omega), show 8 + (8 + p) = 16 + p by omega]
      have r3 : j_I M (17 + 5) (15 + p) = nI (be (23 + p)) := by rw [hrow _ (by omega)]; unfold rowOf; rw [if_neg (by omega), show 8 + (15 + p) = 23 + p by omega]
      simp only [show 9 + (7 + p) = 16 + p by omega, show 9 + (14 + p) = 23 + p by omega] at hw
      have hg := TK_ge (P := oth (rowOf be) p (be (9 + p))) b3 l0
      have hle := TK_le (P := oth (rowOf be) p (be (9 + p))) b3 l0
      have hla := e2 p l0
      rw [rowOf_1] at hla
      refine ok_nb h (v := nI (be (16 + p) + (if m = 0 then 0 else (be (23 + p) + 60 * m) / TK be p (oth (rowOf be) p (be (9 + p)))))) (M1 := M) (M2 := st M la (nI (gp (be 0) (fun p => be (37 + p)) (oL la p (nI (be (9 + p)))))) (nI (sl (be 0) (fun p => be (37 + p)) p (oL la p (nI (be (9 + p)))))) (nI (ct (be 0) (oL la p (nI (be (9 + p))))))) ?_ nb.rf ?_ st_nb
      · show f_X9_lengths M _ _ = _
        unfold f_X9_lengths
        try simp only [tlE]
        rw [p0, if_neg (by decide), p1, if_neg (by decide)]
        unfold f_X9_lengthsToCome f_X0_laneOf
        rw [show (8 : Int32) + nI p = nI (8 + p) from nI_add 8 p, a_iN (by omega) (by omega), r2, show (1 : Int32) + nI p = nI (1 + p) from nI_add 1 p, a_iN (by omega) (by omega), r1, Option.bind_some, E_takesIn b1 b3 l0 (b1.row b3) (by omega), Option.bind_some]
        by_cases c : m = 0
        · subst c
          rw [if_pos (show nI 0 = 0 from rfl), Option.bind_some, if_pos rfl, add0, Nat.add_zero]
        · rw [if_neg (nI_ne0 (by omega) (by omega)), if_pos (gt0 (by omega) (by omega)), show (15 : Int32) + nI p = nI (15 + p) from nI_add 15 p, a_iN (by omega) (by omega), r3, show (60 : Int32) * nI m = nI (60 * m) from pk_mul 60 m, nI_add, d_iN (by omega) (by omega) (by omega), Option.bind_some, if_neg c, nI_add]
      · show f_X10_lengths M _ _ = _
        unfold f_X10_lengths
        try simp only [tlE]
        rw [q0, Option.bind_some, if_neg (by decide), q1, if_neg (by decide)]
        rw [e1, Option.bind_some, j_ckE (by rfl), show (23 : Int32) + nI p = nI (23 + p) from nI_add 23 p, a_iN (by omega) (by omega), I_st (by omega) (by omega), b2.at (by omega), a_iN (by omega) (by omega), I_st40 (by omega), hla.1, E_sec b2 b3 l0, Option.bind_some, j_ckE (by rfl), TK_oL e2 (by omega), show (60 : Int32) * nI m = nI (60 * m) from pk_mul 60 m, nI_add, d_iN (by omega) (by omega) (by omega), show (16 : Int32) + nI p = nI (16 + p) from nI_add 16 p, a_iN (by omega) (by omega), I_st (by omega) (by omega), b2.at (by omega)]
        by_cases c : m = 0
        · subst c
          rw [if_pos (show nI 0 = 0 from rfl), if_pos rfl, add0, Nat.add_zero]
        · rw [if_neg (nI_ne0 (by omega) (by omega)), if_neg c, nI_add]
