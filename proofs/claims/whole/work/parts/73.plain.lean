/-! obey, touch, count, digest, type, bath -/
def oX (be : Nat → Nat) (w q : Nat) : Int32 := if w = 0 then nI (be (37 + q)) else f_X10_believesAs (nI (be (30 + q))) (nI (be (37 + q)))
def oP (be : Nat → Nat) (w : Nat) : Nat → Bool := fun q => decide (nI (be (4 + be (9 + q))) = f_X10_signOf (oX be w q))
theorem signOf_eq (x : Int32) : f_X9_signOf x = f_X10_signOf x := rfl
theorem ms_step {P : Nat → Bool} {p : Nat} (h : p < 7) (c : P p = true) : nI (ms p P) ||| ((1 : Int32) <<< (nI p &&& 31)) = nI (ms (p + 1) P) := by
  have hlt := ms_lt p P
  have h128 := pow7 (n := p) (by omega)
  rw [or_bit p h _ (by omega) hlt, ms_s, if_pos c]
theorem ms_skip {P : Nat → Bool} {p : Nat} (c : ¬ P p = true) : ms (p + 1) P = ms p P := by
  rw [ms_s, if_neg c, Nat.add_zero]
theorem e_obey9 {M : j_M} {be : Nat → Nat} {w : Nat} (h : iB M 17 be) (wf' : wf be) (hw : w ≤ 1) (fuel : Nat) (hfu : 100 < fuel) (K : Int32 → Int32 → Option (Int32 × j_M)) : f_X9_obey_L18 fuel M (nI w) (0 : Int32) (0 : Int32) K = K (nI (ms (be 0) (oP be w))) (nI (be 0)) := by
  have h7 := wf'.1
  have key : ∀ d q fuel K, q + d = be 0 → d < fuel → f_X9_obey_L18 fuel M (nI w) (nI (ms q (oP be w))) (nI q) K = K (nI (ms (be 0) (oP be w))) (nI (be 0)) := by
    intro d
    induction d with
    | zero =>
      intro q fuel K h1 h2
      obtain ⟨fuel, rfl⟩ : ∃ f, fuel = f + 1 := ⟨fuel - 1, by omega⟩
      rw [f_X9_obey_L18, h.1, if_pos (nI_le (by omega) (by omega)), show q = be 0 by omega]
    | succ d ih =>
      intro q fuel K h1 h2
      obtain ⟨fuel, rfl⟩ : ∃ f, fuel = f + 1 := ⟨fuel - 1, by omega⟩
      have hq : q < be 0 := by omega
      have ih' := ih (q + 1) fuel K (by omega) (by omega)
      have hk := h.2.2.2.2.1 q hq
      have hwk := wf'.2.2.2.2.2.1 q hq
      have hl := wf'.lane (p := q) (by omega)
      have r1 : j_I M (17 + 5) (1 + q) = nI (be (9 + q)) := by rw [h.2.2.2.2.2.1 _ (by omega), rowOf_1]
      have hb : f_X0_believedBy M 17 (nI q) = some (f_X10_believesAs (nI (be (30 + q))) (nI (be (37 + q)))) := by
        unfold f_X0_believedBy
        rw [a_iN (by omega) (by omega), hk.1, kdN (by omega), a_iN (by omega) (by omega), hk.2, tlE, n_k _ (by omega) _ (by omega)]
      have hx : ∀ (F : Int32 → Option (Int32 × j_M)), (if nI w = 0 then (a_i M (17 + 4) 7 (nI q) fun v18 => (F v18)) else ((f_X0_believedBy M 17 (nI q)).bind fun v16 => (F v16))) = F (oX be w q) := fun F => by
        unfold oX
        by_cases c : w = 0
        · subst c
          rw [if_pos (show nI 0 = 0 from rfl), if_pos rfl, a_iN (by omega) (by omega), hk.2]
        · rw [if_neg (nI_ne0 (by omega) (by omega)), if_neg c, hb, Option.bind_some]
      rw [f_X9_obey_L18, h.1, if_neg (nI_ge (by omega) (by omega)), jnI hx]
      unfold f_X0_laneOf
      try dsimp only
      rw [show (1 : Int32) + nI q = nI (1 + q) from nI_add 1 q, a_iN (by omega) (by omega), r1, Option.bind_some, a_iN (by omega) (by omega), (h.2.2.2.1 _ hl).1, tlE, signOf_eq, nI_1]
      by_cases c : oP be w q = true
      · rw [if_pos (of_decide_eq_true c), ms_step (by omega) c]
        exact ih'
      · rw [if_neg (fun x => c (decide_eq_true x)), ← ms_skip c]
        exact ih'
  exact key (be 0) 0 fuel K (by omega) (by omega)
theorem e_obey10 {M : j_M} {be : Nat → Nat} {w : Nat} (h : iM M 36 0 be) (wf' : wf be) (hw : w ≤ 1) (fuel : Nat) (hfu : 100 < fuel) (K : Int32 → Int32 → Option (Int32 × j_M)) : f_X10_obey_L21 fuel M (nI w) (0 : Int32) (0 : Int32) K = K (nI (ms (be 0) (oP be w))) (nI (be 0)) := by
  have h7 := wf'.1
  have key : ∀ d q fuel K, q + d = be 0 → d < fuel → f_X10_obey_L21 fuel M (nI w) (nI (ms q (oP be w))) (nI q) K = K (nI (ms (be 0) (oP be w))) (nI (be 0)) := by
    intro d
    induction d with
    | zero =>
      intro q fuel K h1 h2
      obtain ⟨fuel, rfl⟩ : ∃ f, fuel = f + 1 := ⟨fuel - 1, by omega⟩
      rw [f_X10_obey_L21, e_many (h.at (by omega)), Option.bind_some, if_pos (nI_le (by omega) (by omega)), show q = be 0 by omega]
    | succ d ih =>
      intro q fuel K h1 h2
      obtain ⟨fuel, rfl⟩ : ∃ f, fuel = f + 1 := ⟨fuel - 1, by omega⟩
      have hq : q < be 0 := by omega
      have ih' := ih (q + 1) fuel K (by omega) (by omega)
      have hl := wf'.lane (p := q) (by omega)
      have hp := e_paceOf (Inv.mK h wf') hq
      have hx : ∀ (F : Int32 → Option (Int32 × j_M)), (if nI w = 0 then ((f_X10_paceOf M (nI q)).bind fun v24 => (F v24)) else (a_i M 36 250 ((30 : Int32) + nI q) fun v18 => ((f_X10_paceOf M (nI q)).bind fun v20 => (tl (f_X10_believesAs v18 v20) fun v22 => (F v22))))) = F (oX be w q) := fun F => by
        unfold oX
        by_cases c : w = 0
        · subst c
          rw [if_pos (show nI 0 = 0 from rfl), if_pos rfl, hp, Option.bind_some]
        · rw [if_neg (nI_ne0 (by omega) (by omega)), if_neg c, show (30 : Int32) + nI q = nI (30 + q) from nI_add 30 q, a_iN (by omega) (by omega), hp, Option.bind_some, tlE, h.at (by omega)]
      rw [f_X10_obey_L21, e_many (h.at (by omega)), Option.bind_some, if_neg (nI_ge (by omega) (by omega)), jnI hx]
      try dsimp only
      rw [show (9 : Int32) + nI q = nI (9 + q) from nI_add 9 q, a_iN (by omega) (by omega), h.at (by omega), show (4 : Int32) + nI (be (9 + q)) = nI (4 + be (9 + q)) from nI_add 4 _, a_iN (by omega) (by omega), h.at (by omega), tlE, nI_1]
      by_cases c : oP be w q = true
      · rw [if_pos (of_decide_eq_true c), ms_step (by omega) c]
        exact ih'
      · rw [if_neg (fun x => c (decide_eq_true x)), or_0, ← ms_skip c]
        exact ih'
  exact key (be 0) 0 fuel K (by omega) (by omega)
theorem op_obey (a1 : Int32) : lw_ok Inv (fun M => f_X9_obey M a1) (fun M => f_X10_obey M a1) := by
  refine okI (fun M h => ?_)
  obtain ⟨be, b1, b2, b3⟩ := h.2.2.2.2.1
  rcases rg (x := a1) (lo := 0) (hi := 1) (lo' := 0) (hi' := 1) 0 1 rfl rfl rfl rfl (by omega) (by omega) with ⟨p0, q0⟩ | ⟨w, m0, l0, rfl, p0, q0⟩
  · refine ok_ref h 0 (by omega) (v := ((-2) : Int32)) ?_ ?_
    · show f_X9_obey M a1 = _
      unfold f_X9_obey
      try simp only [tlE]
      rw [p0, if_pos rfl, bind_bad]
    · show f_X10_obey _ a1 = _
      unfold f_X10_obey
      try simp only [tlE]
      rw [q0, if_pos rfl, bind_bad10]
  · skip
    refine ok_nb h (v := nI (ms (be 0) (oP be w))) (M1 := M) (M2 := M) ?_ nb.rf ?_ nb.rf
    · show f_X9_obey M _ = _
      unfold f_X9_obey
      try simp only [tlE]
      rw [p0, if_neg (by decide)]
      rw [e_obey9 b1 b3 l0 j_fu (by unfold j_fu; omega)]
    · show f_X10_obey M _ = _
      unfold f_X10_obey
      try simp only [tlE]
      rw [q0, if_neg (by decide)]
      rw [e_obey10 b2 b3 l0 j_fu (by unfold j_fu; omega)]
/-- feet -/
def tT (qk x : Nat) : Bool := decide (f_X9_rests (nI (x % 2)) (nI (x / 2)) (nI qk) = 1)
def hF (x : Nat) : Int32 := if x / 2 = 0 then (if x % 2 = 0 then 0 else -1) else (if x % 2 = 0 then 2 else 1)
def tF (qk x : Nat) : Int32 := if x / 2 = 0 then (if x % 2 = 0 then 1 else if qk = 0 then -1 else 1) else 0
theorem rests_k : ∀ qk, qk < 2 → ∀ x, x < 4 → f_X9_rests (nI (x % 2)) (nI (x / 2)) (nI qk) = if tT qk x then 1 else 0 := by decide +kernel
theorem and1_k : ∀ x, x < 4 → nI x &&& (1 : Int32) = nI (x % 2) := by decide +kernel
theorem and2_k : ∀ x, x < 4 → (nI x &&& (2 : Int32) = 0 ↔ x / 2 = 0) := by decide +kernel
theorem xor1_k : ∀ x, x < 4 → nI x ^^^ (1 : Int32) = nI (x ^^^ 1) := by decide +kernel
theorem xor2_k : ∀ x, x < 4 → nI x ^^^ (2 : Int32) = nI (x ^^^ 2) := by decide +kernel
theorem xlt_k : ∀ x, x < 4 → x ^^^ 1 < 4 ∧ x ^^^ 2 < 4 := by decide +kernel
theorem tT_k : ∀ qk, qk < 2 → ∀ x, x < 4 → (tT qk x = true ↔ ¬ hF x < hF (x ^^^ 1) ∧ ¬ tF qk x < tF qk (x ^^^ 2)) := by decide +kernel
theorem e_touch9 {M : j_M} {qk : Nat} (hq : qk < 2) (fuel : Nat) (hfu : 100 < fuel) (K : Int32 → Int32 → Option (Int32 × j_M)) : f_X9_touch_L83 fuel M (nI qk) (0 : Int32) (0 : Int32) K = K (nI (ms 4 (tT qk))) (nI 4) := by
  have key : ∀ d x fuel K, x + d = 4 → d < fuel → f_X9_touch_L83 fuel M (nI qk) (nI (ms x (tT qk))) (nI x) K = K (nI (ms 4 (tT qk))) (nI 4) := by
    intro d
    induction d with
    | zero =>
      intro x fuel K h1 h2
      obtain ⟨fuel, rfl⟩ : ∃ f, fuel = f + 1 := ⟨fuel - 1, by omega⟩
      rw [f_X9_touch_L83, i_4, if_pos (nI_le (by omega) (by omega)), show x = 4 by omega]
    | succ d ih =>
      intro x fuel K h1 h2
      obtain ⟨fuel, rfl⟩ : ∃ f, fuel = f + 1 := ⟨fuel - 1, by omega⟩
      have ih' := ih (x + 1) fuel K (by omega) (by omega)
      have hx1 : ∀ (F : Int32 → Option (Int32 × j_M)), (if nI x &&& (1 : Int32) = 0 then F (0 : Int32) else F (1 : Int32)) = F (nI (x % 2)) := fun F => by
        rw [and1_k x (by omega)]
        rcases Nat.mod_two_eq_zero_or_one x with e | e <;> rw [e] <;> rfl
      have hx2 : ∀ (F : Int32 → Option (Int32 × j_M)), (if nI x &&& (2 : Int32) = 0 then F (0 : Int32) else F (1 : Int32)) = F (nI (x / 2)) := fun F => by
        by_cases c : x / 2 = 0
        · rw [if_pos ((and2_k x (by omega)).mpr c), c]; rfl
        · rw [if_neg (fun q => c ((and2_k x (by omega)).mp q)), show x / 2 = 1 by omega]; rfl
      rw [f_X9_touch_L83, i_4, if_neg (nI_ge (by omega) (by omega)), jnI hx1]
      try dsimp only
      rw [jnI hx2]
      try dsimp only
      rw [tlE, rests_k qk hq x (by omega), nI_1]
      by_cases c : tT qk x = true
      · rw [if_pos c, if_neg (by decide), ms_step (by omega) c]
        exact ih'
      · rw [if_neg c, if_pos rfl, ← ms_skip c]
        exact ih'
  exact key 4 0 fuel K (by omega) (by omega)
def tm (M : j_M) (qk x : Nat) : j_M := (fun b j => if b = 45 ∧ j < x then hF j else if b = 46 ∧ j < x then tF qk j else M.1 b j, M.2)
theorem I_tm {M : j_M} {qk x b j : Nat} : j_I (tm M qk x) b j = if b = 45 ∧ j < x then hF j else if b = 46 ∧ j < x then tF qk j else j_I M b j := rfl
theorem I_tm' {M : j_M} {qk x b j : Nat} (h : b ≠ 45) (h2 : b ≠ 46) : j_I (tm M qk x) b j = j_I M b j := by rw [I_tm, if_neg (fun q => h q.1), if_neg (fun q => h2 q.1)]
theorem tm_nb {M : j_M} {qk x : Nat} : nb M (tm M qk x) := ⟨fun a k hs => I_tm' (by unfold scr at hs; omega) (by unfold scr at hs; omega), fun _ _ _ => rfl, rfl⟩
theorem tm_0 {M : j_M} {qk : Nat} : tm M qk 0 = M := by
  refine Prod.ext ?_ rfl
  funext b j
  show (if b = 45 ∧ j < 0 then hF j else if b = 46 ∧ j < 0 then tF qk j else M.1 b j) = M.1 b j
  rw [if_neg (by omega), if_neg (by omega)]
theorem tm_set {M : j_M} {qk x : Nat} : j_sI (j_sI (tm M qk x) 45 x (hF x)) 46 x (tF qk x) = tm M qk (x + 1) := by
  refine Prod.ext ?_ rfl
  funext b j
  show (if b = 46 ∧ j = x then tF qk x else if b = 45 ∧ j = x then hF x else if b = 45 ∧ j < x then hF j else if b = 46 ∧ j < x then tF qk j else M.1 b j) = if b = 45 ∧ j < x + 1 then hF j else if b = 46 ∧ j < x + 1 then tF qk j else M.1 b j
  by_cases h5 : b = 45
  · rw [if_neg (by omega)]
    by_cases e : j = x
    · subst e; rw [if_pos ⟨h5, rfl⟩, if_pos ⟨h5, by omega⟩]
    · rw [if_neg (fun q => e q.2)]
      by_cases c : j < x
      · rw [if_pos ⟨h5, c⟩, if_pos ⟨h5, by omega⟩]
      · rw [if_neg (fun q => c q.2), if_neg (by omega), if_neg (by omega), if_neg (by omega)]
  · by_cases h6 : b = 46
    · by_cases e : j = x
      · subst e; rw [if_pos ⟨h6, rfl⟩, if_neg (by omega), if_pos ⟨h6, by omega⟩]
      · rw [if_neg (fun q => e q.2), if_neg (by omega), if_neg (by omega)]
        by_cases c : j < x
        · rw [if_pos ⟨h6, c⟩, if_neg (by omega), if_pos ⟨h6, by omega⟩]
        · rw [if_neg (fun q => c q.2), if_neg (by omega), if_neg (by omega)]
    · rw [if_neg (by omega), if_neg (by omega), if_neg (by omega), if_neg (by omega), if_neg (by omega), if_neg (by omega)]
theorem e_touch10a {M : j_M} {be : Nat → Nat} {a b : Nat} (h : iM M 36 0 be) (w : wf be) (ha : a < be 0) (hb : b < be 0) (fuel : Nat) (hfu : 100 < fuel) (K : Int32 → j_M → Option (Int32 × j_M)) : f_X10_touch_L56 fuel M (nI a) (nI b) (0 : Int32) K = K (nI 4) (tm M (if be (37 + b) < be (37 + a) then 1 else 0) 4) := by
  have ea := w.2.2.2.2.2.1 a ha
  have eb := w.2.2.2.2.2.1 b hb
  have key : ∀ d x fuel K, x + d = 4 → d < fuel → f_X10_touch_L56 fuel (tm M (if be (37 + b) < be (37 + a) then 1 else 0) x) (nI a) (nI b) (nI x) K = K (nI 4) (tm M (if be (37 + b) < be (37 + a) then 1 else 0) 4) := by
    intro d
    induction d with
    | zero =>
      intro x fuel K h1 h2
      obtain ⟨fuel, rfl⟩ : ∃ f, fuel = f + 1 := ⟨fuel - 1, by omega⟩
      rw [f_X10_touch_L56, i_4, if_pos (nI_le (by omega) (by omega)), show x = 4 by omega]
    | succ d ih =>
      intro x fuel K h1 h2
      obtain ⟨fuel, rfl⟩ : ∃ f, fuel = f + 1 := ⟨fuel - 1, by omega⟩
      have ih' := ih (x + 1) fuel K (by omega) (by omega)
      rw [← tm_set] at ih'
      generalize hqk : (if be (37 + b) < be (37 + a) then 1 else 0) = qk at *
      have hx1 : ∀ (F : Int32 → Option (Int32 × j_M)), (if nI x &&& (1 : Int32) = (1 : Int32) then F (1 : Int32) else F (0 : Int32)) = F (nI (x % 2)) := fun F => by
        rw [and1_k x (by omega)]
        rcases Nat.mod_two_eq_zero_or_one x with e | e <;> rw [e] <;> rfl
      have hx2 : ∀ (F : Int32 → Option (Int32 × j_M)), (if nI x ≤ (1 : Int32) then F (0 : Int32) else F (1 : Int32)) = F (nI (x / 2)) := fun F => by
        by_cases c : x / 2 = 0
        · rw [if_pos (show nI x ≤ (1 : Int32) from nI_le (b := 1) (by omega) (by omega)), c]; rfl
        · rw [if_neg (show ¬ nI x ≤ (1 : Int32) from nI_ge (a := 1) (by omega) (by omega)), show x / 2 = 1 by omega]; rfl
      have hx3 : ∀ (F : Int32 → Option (Int32 × j_M)), (if nI (x / 2) = 0 then (if nI (x % 2) = 0 then F (0 : Int32) else F ((-1) : Int32)) else (if nI (x % 2) = 0 then F (2 : Int32) else F (1 : Int32))) = F (hF x) := fun F => by
        unfold hF
        rcases Nat.mod_two_eq_zero_or_one x with e | e <;> rcases (show x / 2 = 0 ∨ x / 2 = 1 by omega) with e2 | e2 <;> rw [e, e2] <;> rfl
      have hpa : ∀ M', (∀ k, j_I M' 36 k = j_I M 36 k) → f_X10_paceOf M' (nI a) = some (nI (be (37 + a))) := fun M' hM => e_paceOf (Inv.mK (h.to hM) w) ha
      have hpb : ∀ M', (∀ k, j_I M' 36 k = j_I M 36 k) → f_X10_paceOf M' (nI b) = some (nI (be (37 + b))) := fun M' hM => e_paceOf (Inv.mK (h.to hM) w) hb
      have hM : ∀ k, j_I (j_sI (tm M qk x) 45 x (hF x)) 36 k = j_I M 36 k := fun k => by rw [I_sIn (by omega), I_tm' (by omega) (by omega)]
      have hx4 : ∀ (F : Int32 → Option (Int32 × j_M)), (if nI (x / 2) = 0 then (if nI (x % 2) = 0 then F (1 : Int32) else ((f_X10_paceOf (j_sI (tm M qk x) 45 x (hF x)) (nI b)).bind fun v45 => ((f_X10_paceOf (j_sI (tm M qk x) 45 x (hF x)) (nI a)).bind fun v47 => (if v47 ≤ v45 then F ((-1) : Int32) else F (1 : Int32))))) else F (0 : Int32)) = F (tF qk x) := fun F => by
        unfold tF
        rw [hpa _ hM, hpb _ hM, Option.bind_some, Option.bind_some]
        rcases Nat.mod_two_eq_zero_or_one x with e | e <;> rcases (show x / 2 = 0 ∨ x / 2 = 1 by omega) with e2 | e2 <;> rw [e, e2]
        · rfl
        · rfl
        · rw [if_pos (show nI 0 = 0 from rfl), if_neg (show ¬ nI 1 = 0 by decide), if_pos (show (0 : Nat) = 0 from rfl), if_neg (show ¬ (1 : Nat) = 0 by decide)]
          by_cases c : be (37 + b) < be (37 + a)
          · rw [if_pos c] at hqk
            subst hqk
            rw [if_neg (nI_ge c (by omega))]; rfl
          · rw [if_neg c] at hqk
            subst hqk
            rw [if_pos (nI_le (by omega) (by omega))]; rfl
        · rfl
      rw [f_X10_touch_L56, i_4, if_neg (nI_ge (by omega) (by omega)), jnI hx1]
      try dsimp only
      rw [jnI hx2]
      try dsimp only
      rw [jnI hx3]
      try dsimp only
      rw [w_iN (by omega) (by omega), jnI hx4]
      try dsimp only
      rw [w_iN (by omega) (by omega), nI_1]
      exact ih'
  have := key 4 0 fuel K (by omega) (by omega)
  rw [tm_0] at this
  exact this
theorem e_touch10b {M : j_M} {qk : Nat} (hq : qk < 2) (fuel : Nat) (hfu : 100 < fuel) (K : Int32 → Int32 → Option (Int32 × j_M)) : f_X10_touch_L170 fuel (tm M qk 4) (0 : Int32) (0 : Int32) K = K (nI (ms 4 (tT qk))) (nI 4) := by
  have key : ∀ d x fuel K, x + d = 4 → d < fuel → f_X10_touch_L170 fuel (tm M qk 4) (nI (ms x (tT qk))) (nI x) K = K (nI (ms 4 (tT qk))) (nI 4) := by
    intro d
    induction d with
    | zero =>
      intro x fuel K h1 h2
      obtain ⟨fuel, rfl⟩ : ∃ f, fuel = f + 1 := ⟨fuel - 1, by omega⟩
      rw [f_X10_touch_L170, i_4, if_pos (nI_le (by omega) (by omega)), show x = 4 by omega]
    | succ d ih =>
      intro x fuel K h1 h2
      obtain ⟨fuel, rfl⟩ : ∃ f, fuel = f + 1 := ⟨fuel - 1, by omega⟩
      have ih' := ih (x + 1) fuel K (by omega) (by omega)
      have hk := tT_k qk hq x (by omega)
      have hxl := xlt_k x (by omega)
      have h5 : ∀ j, j < 4 → j_I (tm M qk 4) 45 j = hF j := fun j hj => by rw [I_tm, if_pos ⟨rfl, hj⟩]
      have h6 : ∀ j, j < 4 → j_I (tm M qk 4) 46 j = tF qk j := fun j hj => by rw [I_tm, if_neg (by omega), if_pos ⟨rfl, hj⟩]
      rw [f_X10_touch_L170, i_4, if_neg (nI_ge (by omega) (by omega)), a_iN (by omega) (by omega), xor1_k x (by omega), a_iN hxl.1 (by omega), jnE, a_iN (by omega) (by omega), xor2_k x (by omega), a_iN hxl.2 (by omega), h5 x (by omega), h5 _ hxl.1, h6 x (by omega), h6 _ hxl.2, nI_1]
      by_cases c : tT qk x = true
      · have := hk.mp c
        rw [if_neg this.1, if_neg this.2]
        show (if (1 : Int32) = 0 then _ else _) = _
        rw [if_neg (by decide), ms_step (by omega) c]
        exact ih'
      · rw [ms_skip c] at ih'
        by_cases c1 : hF x < hF (x ^^^ 1)
        · rw [if_pos c1]
          show (if (0 : Int32) = 0 then _ else _) = _
          rw [if_pos rfl, or_0]
          exact ih'
        · rw [if_neg c1]
          by_cases c2 : tF qk x < tF qk (x ^^^ 2)
          · rw [if_pos c2]
            show (if (0 : Int32) = 0 then _ else _) = _
            rw [if_pos rfl, or_0]
            exact ih'
          · exact absurd (hk.mpr ⟨c1, c2⟩) c
  exact key 4 0 fuel K (by omega) (by omega)
theorem op_touch (a1 a2 : Int32) : lw_ok Inv (fun M => f_X9_touch M a1 a2) (fun M => f_X10_touch M a1 a2) := by
  refine okI (fun M h => ?_)
  obtain ⟨be, b1, b2, b3⟩ := h.2.2.2.2.1
  rcases rgOne (x := a1) b1.1 (b2.at (by omega)) b3.1 with ⟨p0, q0⟩ | ⟨a, l0, rfl, p0, q0⟩
  · refine ok_ref h 0 (by omega) (v := ((-2) : Int32)) ?_ ?_
    · show f_X9_touch M a1 a2 = _
      unfold f_X9_touch
      try simp only [tlE]
      rw [p0, if_pos rfl, bind_bad]
    · show f_X10_touch _ a1 a2 = _
      unfold f_X10_touch
      try simp only [tlE]
      rw [isOne_ref, q0, Option.bind_some, if_pos rfl, bind_bad10]
  · skip
    rcases rgOne (x := a2) b1.1 (b2.at (by omega)) b3.1 with ⟨p1, q1⟩ | ⟨b, l1, rfl, p1, q1⟩
    · refine ok_ref h 0 (by omega) (v := ((-2) : Int32)) ?_ ?_
      · show f_X9_touch M (nI a) a2 = _
        unfold f_X9_touch
        try simp only [tlE]
        rw [p0, if_neg (by decide), p1, if_pos rfl, bind_bad]
      · show f_X10_touch _ (nI a) a2 = _
        unfold f_X10_touch
        try simp only [tlE]
        rw [isOne_ref, q0, Option.bind_some, if_neg (by decide), isOne_ref, q1, Option.bind_some, if_pos rfl, bind_bad10]
    · skip
      have hp7 := b3.1
      have ea := b3.2.2.2.2.2.1 a l0
      have eb := b3.2.2.2.2.2.1 b l1
      have la := b3.lane (p := a) (by omega)
      have lb := b3.lane (p := b) (by omega)
      have ka := b1.2.2.2.2.1 a l0
      have kb := b1.2.2.2.2.1 b l1
      by_cases c0 : a = b
      · refine ok_ref h 0 (by omega) (v := (-2 : Int32)) ?_ ?_
        · show f_X9_touch M _ _ = _
          unfold f_X9_touch
          try simp only [tlE]
          rw [p0, if_neg (by decide), p1, if_neg (by decide)]
          rw [if_pos (by rw [c0]), bind_bad]
        · show f_X10_touch _ _ _ = _
          unfold f_X10_touch
          try simp only [tlE]
          rw [isOne_ref, q0, Option.bind_some, if_neg (by decide), isOne_ref, q1, Option.bind_some, if_neg (by decide)]
          rw [if_pos (by rw [c0]), bind_bad10]
      · have n0 : ¬ nI a = nI b := by rw [nI_eq (by omega) (by omega)]; exact c0
        have r1 : ∀ q, q < 7 → j_I M (17 + 5) (1 + q) = nI (be (9 + q)) := fun q hq => by rw [b1.2.2.2.2.2.1 _ (by omega), rowOf_1]
        by_cases c1 : be (9 + a) = be (9 + b)
        · have hqk : (if be (37 + b) < be (37 + a) then 1 else 0) < 2 := by split <;> omega
          refine ok_nb h (v := nI (ms 4 (tT (if be (37 + b) < be (37 + a) then 1 else 0)))) (M1 := M) (M2 := tm M (if be (37 + b) < be (37 + a) then 1 else 0) 4) ?_ nb.rf ?_ tm_nb
          · show f_X9_touch M _ _ = _
            unfold f_X9_touch
            try simp only [tlE]
            rw [p0, if_neg (by decide), p1, if_neg (by decide)]
            unfold f_X0_laneOf
            rw [if_neg n0, show (1 : Int32) + nI a = nI (1 + a) from nI_add 1 a, a_iN (by omega) (by omega), r1 a (by omega), Option.bind_some, show (1 : Int32) + nI b = nI (1 + b) from nI_add 1 b, a_iN (by omega) (by omega), r1 b (by omega), Option.bind_some, if_pos (by rw [c1]), a_iN (by omega) (by omega), kb.2, a_iN (by omega) (by omega), ka.2]
            have hx : ∀ (F : Int32 → Option (Int32 × j_M)), (if nI (be (37 + a)) ≤ nI (be (37 + b)) then F (0 : Int32) else F (1 : Int32)) = F (nI (if be (37 + b) < be (37 + a) then 1 else 0)) := fun F => by
              by_cases c : be (37 + b) < be (37 + a)
              · rw [if_pos c, if_neg (nI_ge c (by omega))]; rfl
              · rw [if_neg c, if_pos (nI_le (by omega) (by omega))]; rfl
            rw [jnI hx]
            try dsimp only
            rw [e_touch9 hqk j_fu (by unfold j_fu; omega)]
          · show f_X10_touch M _ _ = _
            unfold f_X10_touch
            try simp only [tlE]
            rw [q0, Option.bind_some, if_neg (by decide), q1, Option.bind_some, if_neg (by decide)]
            rw [if_neg n0, show (9 : Int32) + nI a = nI (9 + a) from nI_add 9 a, a_iN (by omega) (by omega), b2.at (by omega), show (9 : Int32) + nI b = nI (9 + b) from nI_add 9 b, a_iN (by omega) (by omega), b2.at (by omega), if_pos (by rw [c1]), e_touch10a b2 b3 l0 l1 j_fu (by unfold j_fu; omega), e_touch10b hqk j_fu (by unfold j_fu; omega)]
        · have n1 : ¬ nI (be (9 + a)) = nI (be (9 + b)) := by rw [nI_eq (by omega) (by omega)]; exact c1
          refine ok_ref h 1 (by omega) (v := (-3 : Int32)) ?_ ?_
          · show f_X9_touch M _ _ = _
            unfold f_X9_touch
            try simp only [tlE]
            rw [p0, if_neg (by decide), p1, if_neg (by decide)]
            unfold f_X0_laneOf
            rw [if_neg n0, show (1 : Int32) + nI a = nI (1 + a) from nI_add 1 a, a_iN (by omega) (by omega), r1 a (by omega), Option.bind_some, show (1 : Int32) + nI b = nI (1 + b) from nI_add 1 b, a_iN (by omega) (by omega), r1 b (by omega), Option.bind_some, if_neg n1, bind_no]
          · show f_X10_touch _ _ _ = _
            unfold f_X10_touch
            try simp only [tlE]
            rw [isOne_ref, q0, Option.bind_some, if_neg (by decide), isOne_ref, q1, Option.bind_some, if_neg (by decide)]
            rw [if_neg n0, show (9 : Int32) + nI a = nI (9 + a) from nI_add 9 a, a_iN (by omega) (by omega), I_sIn (by omega), b2.at (by omega), show (9 : Int32) + nI b = nI (9 + b) from nI_add 9 b, a_iN (by omega) (by omega), I_sIn (by omega), b2.at (by omega), if_neg n1, bind_no10]
