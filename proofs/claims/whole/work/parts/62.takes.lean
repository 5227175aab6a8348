/-! seconds -/
def sec (k p s n m : Nat) : Nat := if k = 1 then p + 3 * n else if k = 3 then p else if k = 4 then (max p s + m) + (if 0 < m then 5 else 0) else if k = 5 then p + 3 * n / 2 else max p s + m
theorem sec_le {k p s n m : Nat} (hp : p ≤ 90) (hs : s ≤ 90) (hn : n ≤ 6) (hm : m ≤ 6) : sec k p s n m ≤ 108 := by
  unfold sec
  repeat' split
  all_goals omega
theorem sec_ge {k p s n m : Nat} : p ≤ sec k p s n m := by
  unfold sec
  repeat' split
  all_goals omega
theorem n_max {p s : Nat} (hp : p ≤ 1000) (hs : s ≤ 1000) : (if nI p < nI s then nI s else nI p) = nI (max p s) := by
  by_cases h : p < s
  · rw [if_pos (nI_lt h (by omega)), Nat.max_eq_right (by omega)]
  · rw [if_neg (nI_nlt (by omega) (by omega)), Nat.max_eq_left (by omega)]
theorem e_kt {k p s n m : Nat} (hk : k < 6) (hp : p ≤ 1000) (hs : s ≤ 1000) (hn : n ≤ 1000) (hm : m ≤ 1000) : kt k (nI p) (nI s) (nI n) (nI m) = nI (sec k p s n m) := by
  have h3 : (3 : Int32) * nI n = nI (3 * n) := pk_mul 3 n
  have hpl : f_X3_takes (nI p) (nI s) (nI n) (nI m) = nI (max p s + m) := by
    unfold f_X3_takes
    simp only [tlE]
    rw [n_max hp hs, nI_add]
  have hov : f_X2_takes (nI p) (nI s) (nI n) (nI m) = nI (p + 3 * n) := by
    unfold f_X2_takes
    rw [h3, nI_add]
  rcases (show k = 0 ∨ k = 1 ∨ k = 2 ∨ k = 3 ∨ k = 4 ∨ k = 5 by omega) with rfl | rfl | rfl | rfl | rfl | rfl
  · show f_X3_takes _ _ _ _ = _
    rw [hpl]; rfl
  · show f_X2_takes _ _ _ _ = _
    rw [hov]; rfl
  · show f_X3_takes _ _ _ _ = _
    rw [hpl]; rfl
  · rfl
  · show f_X1_takes _ _ _ _ = _
    unfold f_X1_takes
    simp only [tlE, jnE, hpl]
    show _ = nI ((max p s + m) + (if 0 < m then 5 else 0))
    by_cases h : 0 < m
    · rw [if_pos h]
      have h1 : ¬ nI m < 1 := nI_nlt (b := 1) (by omega) (by omega)
      simp only [h1, if_false]
      exact nI_add _ 5
    · rw [if_neg h]
      have h1 : nI m < 1 := nI_lt (b := 1) (by omega) (by omega)
      simp only [h1, if_true]
      exact nI_add _ 0
  · show f_X6_takes _ _ _ _ = _
    unfold f_X6_takes
    simp only [tlE, hov]
    show _ = nI (p + 3 * n / 2)
    rw [pk_sub (by omega), show (2 : Int32) = nI 2 from rfl, pk_div (by omega) (by omega) (by omega), nI_add, Nat.add_sub_cancel_left]
theorem e_secondsAs {k p s n m : Nat} (hk : k < 6) (hp : p ≤ 1000) (hs : s ≤ 1000) (hn : n ≤ 1000) (hm : m ≤ 1000) : f_X10_secondsAs (nI k) (nI p) (nI s) (nI n) (nI m) = nI (sec k p s n m) := by
  have h3 : (3 : Int32) * nI n = nI (3 * n) := pk_mul 3 n
  have h5 : nI (3 * n) / (2 : Int32) = nI (3 * n / 2) := pk_div (d := 2) (by omega) (by omega) (by omega)
  have hx : ∀ (K : Int32 → Int32), (if nI s ≤ nI p then K (nI p) else K (nI s)) = K (nI (max p s)) := fun K => by
    by_cases h : s ≤ p
    · rw [if_pos (nI_le h (by omega)), Nat.max_eq_left h]
    · rw [if_neg (nI_ge (by omega) (by omega)), Nat.max_eq_right (by omega)]
  unfold f_X10_secondsAs
  simp only [jnE]
  rw [hx]
  rcases (show k = 0 ∨ k = 1 ∨ k = 2 ∨ k = 3 ∨ k = 4 ∨ k = 5 by omega) with rfl | rfl | rfl | rfl | rfl | rfl
  · exact nI_add _ _
  · show nI p + (3 : Int32) * nI n = _
    rw [h3, nI_add]; rfl
  · exact nI_add _ _
  · rfl
  · show (if nI m ≤ 0 then nI (max p s) + nI m else nI (max p s) + nI m + (5 : Int32)) = nI ((max p s + m) + (if 0 < m then 5 else 0))
    by_cases h : 0 < m
    · rw [if_pos h, if_neg (nI_nle h (by omega)), nI_add]
      exact nI_add _ 5
    · rw [if_neg h, show m = 0 by omega]
      exact nI_add _ 0
  · show nI p + (3 : Int32) * nI n / (2 : Int32) = _
    rw [h3, h5, nI_add]; rfl
/-- the class's bath as far as takes looks: how many, kinds, paces -/
def iK (M : j_M) (b n : Nat) (ki pi : Nat → Nat) : Prop := j_I M b 9 = nI n ∧ n ≤ 7 ∧ ∀ p, p < n → j_I M (b + 3) p = nI (ki p) ∧ j_I M (b + 4) p = nI (pi p) ∧ ki p ≤ 5 ∧ 20 ≤ pi p ∧ pi p ≤ 90
def tk (n : Nat) (k : Nat) (pi : Nat → Nat) (p : Nat) (P : Nat → Bool) : Nat := sec k (pi p) (gp n pi P) (sl n pi p P) (ct n P)
theorem gp_le {M : j_M} {b n : Nat} {ki pi : Nat → Nat} (h : iK M b n ki pi) (P : Nat → Bool) : gp n pi P ≤ 90 := mx_le (fun p hp => by
  have := (h.2.2 p hp).2.2.2.2
  show (if P p then pi p else 0) ≤ 90
  split <;> omega)
theorem ct_le {n : Nat} (P : Nat → Bool) : ct n P ≤ n := by
  have := sm_le (n := n) (f := fun q => if P q then 1 else 0) (c := 1) (fun p _ => by show (if P p then 1 else 0) ≤ 1; split <;> omega)
  unfold ct; omega
theorem sl_le {n p : Nat} {pi : Nat → Nat} (P : Nat → Bool) : sl n pi p P ≤ n := by
  have := sm_le (n := n) (f := fun q => if P q && decide (pi p < pi q) then 1 else 0) (c := 1) (fun q _ => by show (if P q && decide (pi p < pi q) then 1 else 0) ≤ 1; split <;> omega)
  unfold sl; omega
theorem e_greatest {M : j_M} {b n : Nat} {ki pi : Nat → Nat} (h : iK M b n ki pi) (P : Nat → Bool) : f_X0_greatestPace M b (nI (ms n P)) = some (nI (gp n pi P)) := by
  have key : ∀ d p fuel K, p + d = n → d < fuel → f_X0_greatestPace_L4 fuel b M (nI (ms n P)) (nI (gp p pi P)) (nI p) K = K (nI (gp n pi P)) (nI n) := by
    obtain ⟨hn, h7, hp⟩ := h
    intro d
    induction d with
    | zero =>
      intro p fuel K h1 h2
      obtain ⟨fuel, rfl⟩ : ∃ f, fuel = f + 1 := ⟨fuel - 1, by omega⟩
      rw [f_X0_greatestPace_L4, hn, if_pos (nI_le (by omega) (by omega)), show p = n by omega]
    | succ d ih =>
      intro p fuel K h1 h2
      obtain ⟨fuel, rfl⟩ : ∃ f, fuel = f + 1 := ⟨fuel - 1, by omega⟩
      have hlt : p < n := by omega
      obtain ⟨-, e2, -, -, e5⟩ := hp p hlt
      have hg : gp p pi P ≤ 90 := mx_le (fun q hq => by
        have := (hp q (by omega)).2.2.2.2
        show (if P q then pi q else 0) ≤ 90
        split <;> omega)
      rw [f_X0_greatestPace_L4, hn, if_neg (nI_ge (by omega) (by omega)), tlE, e_has h7 hlt, nI_1]
      have hs : gp (p + 1) pi P = max (gp p pi P) (if P p then pi p else 0) := rfl
      by_cases hc : P p = true
      · rw [if_pos hc] at hs
        rw [if_pos hc, if_neg (by decide), a_iN (by omega) (by omega), e2, tlE, n_max (by omega) (by omega), ← hs]
        exact ih (p + 1) fuel K (by omega) (by omega)
      · rw [if_neg hc, Nat.max_eq_left (by omega)] at hs
        rw [if_neg hc, if_pos rfl, ← hs]
        exact ih (p + 1) fuel K (by omega) (by omega)
  unfold f_X0_greatestPace
  exact key n 0 j_fu _ (by omega) (by have := h.2.1; unfold j_fu; omega)
