/-! minute: both sides -/
theorem cf_B {be r : Nat → Nat} {T B : Nat} (w : wf be) (hr : rB B r) (hT : r 0 + T ≤ 999) : rB (B + 8 * T) (cf be r T) := by
  have h7 := w.1
  refine ⟨by show cf be r T 0 ≤ 999; unfold cf; rw [if_pos rfl]; exact hT, fun q hq => ?_⟩
  have h2 := hr.2 q hq
  rw [cf_lane hq]
  refine ⟨h2.1, ?_, ?_⟩
  · unfold cf
    rw [if_neg (by omega)]
    by_cases c : 8 ≤ 8 + q ∧ 8 + q < 8 + be 0
    · rw [if_pos c, show 7 + (8 + q) = 15 + q by omega, show 8 + q - 8 = q by omega]
      by_cases cT : T = 0
      · rw [if_pos cT]; omega
      · rw [if_neg cT]
        have he := ee_b (r := r) w (show q < be 0 by omega)
        have : (r (15 + q) + 60 * T) / ee be r q ≤ (r (15 + q) + 60 * T) / 20 := Nat.div_le_div (Nat.le_refl _) he.1 (by omega)
        omega
    · rw [if_neg c, if_neg (by omega)]; omega
  · unfold cf
    rw [if_neg (by omega), if_neg (by omega)]
    by_cases c : 15 ≤ 15 + q ∧ 15 + q < 15 + be 0
    · rw [if_pos c, show 15 + q - 15 = q by omega]
      by_cases cT : T = 0
      · rw [if_pos cT]; exact h2.2.2
      · rw [if_neg cT]
        have he := ee_b (r := r) w (show q < be 0 by omega)
        have := Nat.mod_lt (r (15 + q) + 60 * T) (show 0 < ee be r q by omega)
        omega
    · rw [if_neg c]; exact h2.2.2
theorem e_minute9 {M : j_M} {be r : Nat → Nat} {n : Nat} (hk : iK M 17 (be 0) (fun p => be (30 + p)) (fun p => be (37 + p))) (w : wf be) (hr : rB 8000 r) (hn : n ≤ 60) (fuel : Nat) (hfu : 1000 < fuel) (K : Int32 → Int32 → j_M → Option (Int32 × j_M)) : f_X9_minute_L26 fuel (RW M 22 r) (nI n) (0 : Int32) (0 : Int32) K = K (nI (sm (be 0) (cS be r (min n (999 - r 0))))) (nI n) (RW M 22 (cf be r (min n (999 - r 0)))) := by
  have h0 := hr.1
  have key : ∀ d i fuel K, i + d = n → d < fuel → f_X9_minute_L26 fuel (RW M 22 (cf be r (min i (999 - r 0)))) (nI n) (nI (sm (be 0) (cS be r (min i (999 - r 0))))) (nI i) K = K (nI (sm (be 0) (cS be r (min n (999 - r 0))))) (nI n) (RW M 22 (cf be r (min n (999 - r 0)))) := by
    intro d
    induction d with
    | zero =>
      intro i fuel K g1 g2
      obtain ⟨fuel, rfl⟩ : ∃ f, fuel = f + 1 := ⟨fuel - 1, by omega⟩
      rw [f_X9_minute_L26, if_pos (nI_le (by omega) (by omega)), show i = n by omega]
    | succ d ih =>
      intro i fuel K g1 g2
      obtain ⟨fuel, rfl⟩ : ∃ f, fuel = f + 1 := ⟨fuel - 1, by omega⟩
      have ih' := ih (i + 1) fuel K (by omega) (by omega)
      have hB := cf_B (T := min i (999 - r 0)) w hr (by omega)
      have hc0 : cf be r (min i (999 - r 0)) 0 = r 0 + min i (999 - r 0) := if_pos rfl
      rw [f_X9_minute_L26, if_neg (nI_ge (by omega) (by omega)), e_minuteBy hk w (by omega) (by omega) (by omega) (show 8000 + 8 * min i (999 - r 0) < 1000000 by omega) hB, Option.bind_some, j_ckE (by rfl), nI_add, nI_1]
      by_cases c : r 0 + i < 999
      · have hs := cf_step (r := r) (T := min i (999 - r 0)) w (by omega)
        rw [show min (i + 1) (999 - r 0) = min i (999 - r 0) + 1 by omega, ← hs.2, Nat.add_comm (mgS be _)] at ih'
        rw [RW_congr (fun k _ => hs.1 k)]
        exact ih'
      · have e1 : mg be (cf be r (min i (999 - r 0))) = cf be r (min i (999 - r 0)) := by unfold mg; rw [if_neg (by rw [hc0]; omega)]
        have e2 : mgS be (cf be r (min i (999 - r 0))) = 0 := by unfold mgS; rw [if_neg (by rw [hc0]; omega)]
        rw [show min (i + 1) (999 - r 0) = min i (999 - r 0) by omega] at ih'
        rw [e1, e2, Nat.add_zero]
        exact ih'
  have e := key n 0 fuel K (by omega) (by omega)
  rw [Nat.zero_min] at e
  have e1 : RW M 22 (cf be r 0) = RW M 22 r := RW_congr (fun k _ => by
    unfold cf
    by_cases e0 : k = 0
    · rw [if_pos e0, e0]; rfl
    · rw [if_neg e0]
      by_cases c8 : 8 ≤ k ∧ k < 8 + be 0
      · rw [if_pos c8, if_pos rfl]; rfl
      · rw [if_neg c8]
        by_cases c15 : 15 ≤ k ∧ k < 15 + be 0
        · rw [if_pos c15, if_pos rfl]
        · rw [if_neg c15])
  have e2 : ∀ m, sm m (cS be r 0) = 0 := fun m => by
    induction m with
    | zero => rfl
    | succ m ih => show sm m (cS be r 0) + cS be r 0 m = 0; rw [ih]; rfl
  rw [e1, e2] at e
  exact e
/-- the bath after so many minutes -/
def cfB (be : Nat → Nat) (T : Nat) : Nat → Nat := fun k => if k = 1 then be 1 + T else if 16 ≤ k ∧ k < 30 then cf be (rowOf be) T (k - 8) else be k
theorem cfB_n {be : Nat → Nat} {T k : Nat} (h1 : k ≠ 1) (h : k < 16 ∨ 30 ≤ k) : cfB be T k = be k := by unfold cfB; rw [if_neg h1, if_neg (by omega)]
theorem cfB_row {be : Nat → Nat} {T k : Nat} (hk : k < 22) : rowOf (cfB be T) k = cf be (rowOf be) T k := by
  by_cases e0 : k = 0
  · subst e0
    show cfB be T 1 = rowOf be 0 + T
    unfold cfB
    rw [if_pos rfl]
    rfl
  · unfold rowOf
    rw [if_neg e0]
    by_cases c : k < 8
    · rw [cfB_n (by omega) (by omega)]
      have := cf_lane (be := be) (r := rowOf be) (T := T) (q := k - 1) (by omega)
      rw [show 1 + (k - 1) = k by omega] at this
      show _ = cf be (rowOf be) T k
      rw [this]
      unfold rowOf
      rw [if_neg e0]
    · show cfB be T (8 + k) = cf be (rowOf be) T k
      unfold cfB
      rw [if_neg (by omega), if_pos (by omega), show 8 + k - 8 = k by omega]
theorem rB_row {be : Nat → Nat} (w : wf be) : rB (8 * be 1) (rowOf be) := by
  obtain ⟨w1, w2, -, -⟩ := w.2.2.2.2.2.2.1
  refine ⟨w1, fun q hq => ?_⟩
  have h2 := w2 q hq
  simp only at h2
  rw [rowOf_1]
  have e8 : rowOf be (8 + q) = be (9 + (7 + q)) := by unfold rowOf; rw [if_neg (by omega), show 8 + (8 + q) = 9 + (7 + q) by omega]
  have e15 : rowOf be (15 + q) = be (9 + (14 + q)) := by unfold rowOf; rw [if_neg (by omega), show 8 + (15 + q) = 9 + (14 + q) by omega]
  rw [e8, e15]
  exact h2
theorem wf_cfB {be : Nat → Nat} {T : Nat} (w : wf be) (hT : be 1 + T ≤ 999) : wf (cfB be T) := by
  have hB := cf_B (T := T) w (rB_row w) hT
  obtain ⟨w1, w2, w3, w4, w5, w6, w7, w8, w9⟩ := w
  have e1 : cfB be T 1 = be 1 + T := if_pos rfl
  refine ⟨by rw [cfB_n (by omega) (by omega)]; exact w1, by rw [cfB_n (by omega) (by omega)]; exact w2, by rw [cfB_n (by omega) (by omega)]; exact w3, by rw [cfB_n (by omega) (by omega)]; exact w4, fun l hl => by rw [cfB_n (by omega) (by omega)]; exact w5 l hl, fun p hp => ?_, ?_, fun u hu => ?_, fun i hi => ?_⟩
  · rw [cfB_n (by omega) (by omega)] at hp
    rw [cfB_n (by omega) (by omega), cfB_n (by omega) (by omega)]; exact w6 p hp
  · rw [cfB_n (k := 0) (by omega) (by omega), cfB_n (k := 8) (by omega) (by omega), e1]
    obtain ⟨v1, v2, v3, v4⟩ := w7
    have hx : ∀ q, q < 7 → cfB be T (9 + (7 + q)) = cf be (rowOf be) T (8 + q) ∧ cfB be T (9 + (14 + q)) = cf be (rowOf be) T (15 + q) := fun q hq => by
      unfold cfB
      rw [if_neg (by omega), if_pos (by omega), show 9 + (7 + q) - 8 = 8 + q by omega, if_neg (by omega), if_pos (by omega), show 9 + (14 + q) - 8 = 15 + q by omega]
      exact ⟨rfl, rfl⟩
    refine ⟨hT, fun q hq => ?_, fun q hq => ?_, fun q h1 hq => ?_⟩
    · have h2 := v2 q hq
      have h3 := hB.2 q hq
      simp only at h2 ⊢
      rw [(hx q hq).1, (hx q hq).2, cfB_n (by omega) (by omega)]
      omega
    · have h2 := v3 q hq
      simp only at h2 ⊢
      rw [cfB_n (by omega) (by omega)]; exact h2
    · have h2 := v4 q h1 hq
      simp only at h2 ⊢
      rw [(hx q hq).1, (hx q hq).2]
      have e8 : rowOf be (8 + q) = be (9 + (7 + q)) := by unfold rowOf; rw [if_neg (by omega), show 8 + (8 + q) = 9 + (7 + q) by omega]
      have e15 : rowOf be (15 + q) = be (9 + (14 + q)) := by unfold rowOf; rw [if_neg (by omega), show 8 + (15 + q) = 9 + (14 + q) by omega]
      unfold cf
      rw [if_neg (by omega), if_neg (by omega), if_neg (by omega), if_neg (by omega), if_neg (by omega), if_neg (by omega), e8, e15]
      exact h2
  · rw [cfB_n (by omega) (by omega)] at hu
    rw [cfB_n (k := 0) (by omega) (by omega), cfB_n (k := 8) (by omega) (by omega), cfB_n (by omega) (by omega)]
    exact wr_congr w1 (fun k hk => cfB_n (by omega) (by omega)) (w8 u hu)
  · rw [cfB_n (by omega) (by omega)] at hi
    rw [cfB_n (by omega) (by omega), cfB_n (by omega) (by omega), cfB_n (by omega) (by omega), cfB_n (by omega) (by omega), cfB_n (by omega) (by omega)]; exact w9 i hi
theorem iB_cfB {M : j_M} {be : Nat → Nat} {T : Nat} (h : iB M 17 be) (w : wf be) : iB (RW M 22 (cf be (rowOf be) T)) 17 (cfB be T) := by
  obtain ⟨c1, c2, c3, c4, c5, c6, c7, c8⟩ := h
  have h7 := w.1
  have h6 := w.2.1
  refine ⟨?_, ?_, ?_, fun l hl => ⟨?_, ?_⟩, fun p hp => ?_, fun k hk => ?_, fun u hu k hk => ?_, fun i hi => ?_⟩
  · rw [I_RWn (by omega), cfB_n (by omega) (by omega)]; exact c1
  · rw [I_RWn (by omega), cfB_n (by omega) (by omega)]; exact c2
  · rw [I_RWn (by omega), cfB_n (by omega) (by omega)]; exact c3
  · rw [I_RWn (by omega), cfB_n (by omega) (by omega)]; exact (c4 l hl).1
  · rw [I_RWn (by omega), cfB_n (by omega) (by omega)]; exact (c4 l hl).2
  · rw [cfB_n (by omega) (by omega)] at hp
    rw [I_RWn (by omega), I_RWn (by omega), cfB_n (by omega) (by omega), cfB_n (by omega) (by omega)]; exact c5 p hp
  · rw [cfB_row hk]
    exact I_RWe hk
  · rw [cfB_n (by omega) (by omega)] at hu
    have : pasOf (cfB be T) u k = pasOf be u k := by
      unfold pasOf
      split
      · exact cfB_n (by omega) (by omega)
      · exact cfB_n (by omega) (by omega)
    rw [I_RWn (by omega), this]; exact c7 u hu k hk
  · rw [cfB_n (by omega) (by omega)] at hi
    rw [I_RWn (by omega), cfB_n (by omega) (by omega)]; exact c8 i hi
/-- the model's numbers as a whole -/
def BM (M : j_M) (f : Nat → Nat) : j_M := (fun b j => if b = 36 ∧ j < 250 then nI (f j) else M.1 b j, M.2)
section
variable {M : j_M} {f : Nat → Nat} {la : Nat → Int32} {g s o : Int32}
theorem I_BMe {j : Nat} (h : j < 250) : j_I (BM M f) 36 j = nI (f j) := if_pos ⟨rfl, h⟩
theorem I_BMn {b j : Nat} (h : b ≠ 36) : j_I (BM M f) b j = j_I M b j := if_neg (fun q => h q.1)
theorem BM_self (h : iM M 36 0 f) : BM M f = M := by
  refine Prod.ext ?_ rfl
  funext b j
  show (if b = 36 ∧ j < 250 then nI (f j) else j_I M b j) = j_I M b j
  by_cases hb : b = 36 ∧ j < 250
  · rw [if_pos hb, hb.1, h.at hb.2]
  · rw [if_neg hb]
theorem BM_congr {f' : Nat → Nat} (h : ∀ k, k < 250 → f k = f' k) : BM M f = BM M f' := by
  refine Prod.ext ?_ rfl
  funext b j
  show (if b = 36 ∧ j < 250 then nI (f j) else M.1 b j) = if b = 36 ∧ j < 250 then nI (f' j) else M.1 b j
  by_cases hb : b = 36 ∧ j < 250
  · rw [if_pos hb, if_pos hb, h j hb.2]
  · rw [if_neg hb, if_neg hb]
theorem iM_BM : iM (BM M f) 36 0 f := fun k hk => by rw [Nat.zero_add]; exact I_BMe hk
theorem st_BM {k v : Nat} (h : k < 250) : j_sI (st (BM M f) la g s o) 36 k (nI v) = st (BM M (up f k v)) la g s o := by
  refine Prod.ext ?_ rfl
  funext b j
  show j_I (j_sI (st (BM M f) la g s o) 36 k (nI v)) b j = j_I (st (BM M (up f k v)) la g s o) b j
  by_cases h36 : b = 36
  · subst h36
    rw [I_st (by omega) (by omega)]
    by_cases hj : j < 250
    · rw [I_BMe hj]
      by_cases e : j = k
      · subst e; rw [I_sIe (by omega), up_e rfl]
      · rw [I_sIn (by omega), up_n e, I_st (by omega) (by omega), I_BMe hj]
    · rw [I_sIn (by omega), I_st (by omega) (by omega)]
      show (if 36 = 36 ∧ j < 250 then _ else _) = (if 36 = 36 ∧ j < 250 then _ else _)
      rw [if_neg (by omega), if_neg (by omega)]
  · rw [I_sIn (by omega)]
    by_cases h35 : b = 35
    · subst h35
      by_cases h1 : j < 7 ∨ 9 < j
      · rw [I_st35 h1, I_st35 h1, I_BMn (by omega), I_BMn (by omega)]
      · rcases (show j = 7 ∨ j = 8 ∨ j = 9 by omega) with rfl | rfl | rfl <;> rfl
    · by_cases h40 : b = 40
      · subst h40
        unfold st
        rw [I_lo (by omega), I_ly, I_lo (by omega), I_ly]
        split
        · rfl
        · rw [I_BMn (by omega), I_BMn (by omega)]
      · rw [I_st h35 h40, I_st h35 h40, I_BMn h36, I_BMn h36]
end
