/-! seconds, the model's -/
theorem sI_same {M : j_M} {a k : Nat} {v w : Int32} : j_sI (j_sI M a k v) a k w = j_sI M a k w := by
  unfold j_sI
  refine Prod.ext ?_ rfl
  funext b j
  by_cases h : b = a ∧ j = k <;> simp [h]
theorem sI_comm {M : j_M} {a k a' k' : Nat} {v w : Int32} (h : ¬ (a = a' ∧ k = k')) : j_sI (j_sI M a k v) a' k' w = j_sI (j_sI M a' k' w) a k v := by
  unfold j_sI
  refine Prod.ext ?_ rfl
  funext b j
  by_cases h1 : b = a ∧ j = k
  · by_cases h2 : b = a' ∧ j = k'
    · exact absurd ⟨h1.1.symm.trans h2.1, h1.2.symm.trans h2.2⟩ h
    · simp [h1]
      intro h3 h4
      exact absurd ⟨h3, h4⟩ h
  · by_cases h2 : b = a' ∧ j = k'
    · simp [h2]
      intro h3 h4
      exact absurd ⟨h3.symm, h4.symm⟩ h
    · simp [h1, h2]
def lo (M : j_M) (g s o : Int32) : j_M := j_sI (j_sI (j_sI M 35 7 g) 35 8 s) 35 9 o
theorem lo7 {M : j_M} {g s o w : Int32} : j_sI (lo M g s o) 35 7 w = lo M w s o := by
  unfold lo
  rw [sI_comm (a := 35) (k := 9) (by decide), sI_comm (a := 35) (k := 8) (by decide), sI_same]
theorem lo8 {M : j_M} {g s o w : Int32} : j_sI (lo M g s o) 35 8 w = lo M g w o := by
  unfold lo
  rw [sI_comm (a := 35) (k := 9) (by decide), sI_same]
theorem lo9 {M : j_M} {g s o w : Int32} : j_sI (lo M g s o) 35 9 w = lo M g s w := by
  unfold lo
  rw [sI_same]
theorem lo_lo {M : j_M} {g s o g' s' o' : Int32} : lo (lo M g s o) g' s' o' = lo M g' s' o' := by
  show j_sI (j_sI (j_sI (lo M g s o) 35 7 g') 35 8 s') 35 9 o' = _
  rw [lo7, lo8, lo9]
theorem I_lo7 {M : j_M} {g s o : Int32} : j_I (lo M g s o) 35 7 = g := rfl
theorem I_lo8 {M : j_M} {g s o : Int32} : j_I (lo M g s o) 35 8 = s := rfl
theorem I_lo9 {M : j_M} {g s o : Int32} : j_I (lo M g s o) 35 9 = o := rfl
theorem I_lo {M : j_M} {g s o : Int32} {a k : Nat} (h : a ≠ 35) : j_I (lo M g s o) a k = j_I M a k := by
  unfold lo
  rw [I_sI, if_neg (fun q => h q.1), I_sI, if_neg (fun q => h q.1), I_sI, if_neg (fun q => h q.1)]
theorem S_lo {M : j_M} {g s o : Int32} : (lo M g s o).2.2 = M.2.2 := rfl
/-- the model as far as seconds look -/
def mK (M : j_M) (n : Nat) (ki pi : Nat → Nat) : Prop := j_I M 36 0 = nI n ∧ n ≤ 7 ∧ ∀ p, p < n → j_I M 36 (30 + p) = nI (ki p) ∧ j_I M 36 (37 + p) = nI (pi p) ∧ ki p ≤ 5 ∧ 20 ≤ pi p ∧ pi p ≤ 90
theorem mK.to {M M' : j_M} {n : Nat} {ki pi : Nat → Nat} (h : mK M n ki pi) (he : ∀ k, k < 44 → (k = 0 ∨ 30 ≤ k) → j_I M' 36 k = j_I M 36 k) : mK M' n ki pi := by
  obtain ⟨h1, h2, h3⟩ := h
  refine ⟨by rw [he 0 (by omega) (by omega)]; exact h1, h2, fun p hp => ?_⟩
  rw [he (30 + p) (by omega) (by omega), he (37 + p) (by omega) (by omega)]
  exact h3 p hp
theorem mK.lo {M : j_M} {n : Nat} {ki pi : Nat → Nat} {g s o : Int32} (h : mK M n ki pi) : mK (lo M g s o) n ki pi := h.to (fun k _ _ => I_lo (by decide))
theorem e_many {M : j_M} {n : Nat} (h : j_I M 36 0 = nI n) : f_X10_many M = some (nI n) := by
  unfold f_X10_many
  rw [show (0 : Int32) = nI 0 from rfl, a_iN (by omega) (by omega), h]
theorem e_paceOf {M : j_M} {n p : Nat} {ki pi : Nat → Nat} (h : mK M n ki pi) (hp : p < n) : f_X10_paceOf M (nI p) = some (nI (pi p)) := by
  have := h.2.1
  unfold f_X10_paceOf
  rw [show (37 : Int32) + nI p = nI (37 + p) from nI_add 37 p, a_iN (by omega) (by omega), (h.2.2 p hp).2.1]
def oL (la : Nat → Int32) (p : Nat) (lane : Int32) : Nat → Bool := fun q => decide (la q = lane) && !(q == p)
theorem e_layOthers {M : j_M} {n p0 : Nat} {ki pi : Nat → Nat} (h : mK M n ki pi) (h0 : p0 < n) {la : Nat → Int32} (hl : ∀ p, p < n → j_I M 40 p = la p) (lane : Int32) : f_X10_layOthers M (nI p0) lane = some (lo M (nI (gp n pi (oL la p0 lane))) (nI (sl n pi p0 (oL la p0 lane))) (nI (ct n (oL la p0 lane)))) := by
  have key : ∀ d p fuel K, p + d = n → d < fuel → f_X10_layOthers_L17 fuel (lo M (nI (gp p pi (oL la p0 lane))) (nI (sl p pi p0 (oL la p0 lane))) (nI (ct p (oL la p0 lane)))) (nI p0) lane (nI p) K = K (nI n) (lo M (nI (gp n pi (oL la p0 lane))) (nI (sl n pi p0 (oL la p0 lane))) (nI (ct n (oL la p0 lane)))) := by
    have h7 := h.2.1
    intro d
    induction d with
    | zero =>
      intro p fuel K h1 h2
      obtain ⟨fuel, rfl⟩ : ∃ f, fuel = f + 1 := ⟨fuel - 1, by omega⟩
      rw [f_X10_layOthers_L17, e_many (n := n) (by rw [I_lo (by decide)]; exact h.1), Option.bind_some, if_pos (nI_le (by omega) (by omega)), show p = n by omega]
    | succ d ih =>
      intro p fuel K h1 h2
      obtain ⟨fuel, rfl⟩ : ∃ f, fuel = f + 1 := ⟨fuel - 1, by omega⟩
      have hlt : p < n := by omega
      have e5 := (h.2.2 p hlt).2.2.2.2
      have e05 := (h.2.2 p0 h0).2.2.2.2
      have hg : gp p pi (oL la p0 lane) ≤ 90 := mx_le (fun q hq => by
        have := (h.2.2 q (by omega)).2.2.2.2
        show (if oL la p0 lane q then pi q else 0) ≤ 90
        split <;> omega)
      have s1 : gp (p + 1) pi (oL la p0 lane) = max (gp p pi (oL la p0 lane)) (if oL la p0 lane p then pi p else 0) := rfl
      have s2 : sl (p + 1) pi p0 (oL la p0 lane) = sl p pi p0 (oL la p0 lane) + (if oL la p0 lane p && decide (pi p0 < pi p) then 1 else 0) := rfl
      have s3 : ct (p + 1) (oL la p0 lane) = ct p (oL la p0 lane) + (if oL la p0 lane p then 1 else 0) := rfl
      have ih' := ih (p + 1) fuel K (by omega) (by omega)
      rw [f_X10_layOthers_L17, e_many (n := n) (by rw [I_lo (by decide)]; exact h.1), Option.bind_some, if_neg (nI_ge (by omega) (by omega)), nI_1]
      by_cases hc : oL la p0 lane p = true
      · have hc' : la p = lane ∧ ¬ p = p0 := by simpa [oL] using hc
        rw [if_pos hc] at s1 s3
        rw [s1, s2, s3] at ih'
        rw [if_neg (by rw [nI_eq (by omega) (by omega)]; exact hc'.2), a_iN (by omega) (by omega), I_lo (by decide), hl p hlt, if_pos hc'.1]
        have hp1 : ∀ g s o, f_X10_paceOf (lo M g s o) (nI p) = some (nI (pi p)) := fun g s o => e_paceOf h.lo hlt
        have hp0 : ∀ g s o, f_X10_paceOf (lo M g s o) (nI p0) = some (nI (pi p0)) := fun g s o => e_paceOf h.lo h0
        simp only [tlE, jnE, lo7, lo8, lo9, I_lo7, I_lo8, I_lo9, hp1, hp0, Option.bind_some]
        have hx : ∀ (F : Int32 → Option j_M), (if nI (pi p) ≤ nI (gp p pi (oL la p0 lane)) then F (nI (gp p pi (oL la p0 lane))) else F (nI (pi p))) = F (nI (max (gp p pi (oL la p0 lane)) (pi p))) := fun F => by
          by_cases hq : pi p ≤ gp p pi (oL la p0 lane)
          · rw [if_pos (nI_le hq (by omega)), Nat.max_eq_left hq]
          · rw [if_neg (nI_ge (by omega) (by omega)), Nat.max_eq_right (by omega)]
        refine (hx (fun v => if nI (pi p) ≤ nI (pi p0) then f_X10_layOthers_L17 fuel (lo M v (nI (sl p pi p0 (oL la p0 lane)) + 0) (nI (ct p (oL la p0 lane)) + 1)) (nI p0) lane (nI (p + 1)) K else f_X10_layOthers_L17 fuel (lo M v (nI (sl p pi p0 (oL la p0 lane)) + 1) (nI (ct p (oL la p0 lane)) + 1)) (nI p0) lane (nI (p + 1)) K)).trans ?_
        show (if nI (pi p) ≤ nI (pi p0) then _ else _) = _
        by_cases hq : pi p ≤ pi p0
        · rw [if_neg (by simp; omega)] at ih'
          rw [if_pos (nI_le hq (by omega)), nI_1, show nI (sl p pi p0 (oL la p0 lane)) + 0 = nI (sl p pi p0 (oL la p0 lane) + 0) from nI_add _ 0]
          exact ih'
        · rw [if_pos (by simp [hc]; omega)] at ih'
          rw [if_neg (nI_ge (by omega) (by omega)), nI_1, nI_1]
          exact ih'
      · rw [if_neg hc] at s1 s3
        rw [if_neg (by simp [hc])] at s2
        rw [s1, s2, s3, Nat.max_eq_left (by omega), Nat.add_zero, Nat.add_zero] at ih'
        by_cases hq : p = p0
        · rw [if_pos (by rw [hq])]
          exact ih'
        · rw [if_neg (by rw [nI_eq (by omega) (by omega)]; exact hq), a_iN (by omega) (by omega), I_lo (by decide), hl p hlt, if_neg (fun e => hc (by simp [oL, e, hq]))]
          exact ih'
  unfold f_X10_layOthers
  have h7 := h.2.1
  have hj : 1000 < j_fu := by unfold j_fu; omega
  revert hj
  generalize j_fu = fu
  intro hj
  rw [tlE, tlE, tlE]
  exact key n 0 fu _ (by omega) (by omega)
theorem e_secondsIn {M : j_M} {n p : Nat} {ki pi : Nat → Nat} (h : mK M n ki pi) (hp : p < n) {la : Nat → Int32} (hl : ∀ p, p < n → j_I M 40 p = la p) (lane : Int32) : f_X10_secondsIn M (nI p) lane = some (nI (tk n (ki p) pi p (oL la p lane)), lo M (nI (gp n pi (oL la p lane))) (nI (sl n pi p (oL la p lane))) (nI (ct n (oL la p lane)))) := by
  have h7 := h.2.1
  obtain ⟨e1, e2, e3, e4, e5⟩ := h.2.2 p hp
  have h1 : gp n pi (oL la p lane) ≤ 90 := mx_le (fun q hq => by
    have := (h.2.2 q hq).2.2.2.2
    show (if oL la p lane q then pi q else 0) ≤ 90
    split <;> omega)
  have h2 := ct_le (n := n) (oL la p lane)
  have h3 := sl_le (n := n) (p := p) (pi := pi) (oL la p lane)
  unfold f_X10_secondsIn
  rw [e_layOthers h hp hl, Option.bind_some, j_ckE S_lo, show (30 : Int32) + nI p = nI (30 + p) from nI_add 30 p, a_iN (by omega) (by omega), I_lo (by decide), e1, e_paceOf h.lo hp, Option.bind_some, tlE, I_lo7, I_lo8, I_lo9, e_secondsAs (by omega) (by omega) (by omega) (by omega) (by omega)]
  rfl
