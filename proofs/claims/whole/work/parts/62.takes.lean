/-! seconds -/
def sec (k p s n m : Nat) : Nat := if k = 1 then p + 3 * n else if k = 3 then p else if k = 4 then (max p s + m) + (if 0 < m then 5 else 0) else if k = 5 then p + 3 * n / 2 else max p s + m
theorem sec_le {k p s n m : Nat} (hp : p ≤ 90) (hs : s ≤ 90) (hn : n ≤ 6) (hm : m ≤ 6) : sec k p s n m ≤ 108 := by
  unfold sec
  repeat' split
  all_goals omega
theorem sec_ge {k p s n m : Nat} : p ≤ sec k p s n m := by
  unfold sec
  repeat' split
  all_goals omega
theorem n_max {p s : Nat} (hp : p ≤ 1000) (hs : s ≤ 1000) : (if nI p < nI s then nI s else nI p) = nI (max p s) := by
  by_cases h : p < s
  · rw [if_pos (nI_lt h (by omega)), Nat.max_eq_right (by omega)]
  · rw [if_neg (nI_nlt (by omega) (by omega)), Nat.max_eq_left (by omega)]
theorem e_kt {k p s n m : Nat} (hk : k < 6) (hp : p ≤ 1000) (hs : s ≤ 1000) (hn : n ≤ 1000) (hm : m ≤ 1000) : kt k (nI p) (nI s) (nI n) (nI m) = nI (sec k p s n m) := by
  have h3 : (3 : Int32) * nI n = nI (3 * n) := pk_mul 3 n
  have hpl : f_X3_takes (nI p) (nI s) (nI n) (nI m) = nI (max p s + m) := by
    unfold f_X3_takes
    simp only [tlE]
    rw [n_max hp hs, nI_add]
  have hov : f_X2_takes (nI p) (nI s) (nI n) (nI m) = nI (p + 3 * n) := by
    unfold f_X2_takes
    rw [h3, nI_add]
  rcases (show k = 0 ∨ k = 1 ∨ k = 2 ∨ k = 3 ∨ k = 4 ∨ k = 5 by omega) with rfl | rfl | rfl | rfl | rfl | rfl
  · show f_X3_takes (nI p) (nI s) (nI n) (nI m) = _
    rw [hpl]; rfl
  · show f_X2_takes (nI p) (nI s) (nI n) (nI m) = _
    rw [hov]; rfl
  · show f_X3_takes (nI p) (nI s) (nI n) (nI m) = _
    rw [hpl]; rfl
  · rfl
  · show f_X1_takes (nI p) (nI s) (nI n) (nI m) = _
    unfold f_X1_takes
    simp only [tlE, jnE, hpl]
    show _ = nI ((max p s + m) + (if 0 < m then 5 else 0))
    by_cases h : 0 < m
    · rw [if_pos h]
      have h1 : ¬ nI m < 1 := nI_nlt (b := 1) (by omega) (by omega)
      simp only [h1, if_false]
      exact nI_add _ 5
    · rw [if_neg h]
      have h1 : nI m < 1 := nI_lt (b := 1) (by omega) (by omega)
      simp only [h1, if_true]
      exact nI_add _ 0
  · show f_X6_takes (nI p) (nI s) (nI n) (nI m) = _
    unfold f_X6_takes
    simp only [tlE, hov]
    show _ = nI (p + 3 * n / 2)
    rw [pk_sub (by omega), show (2 : Int32) = nI 2 from rfl, pk_div (by omega) (by omega) (by omega), nI_add, Nat.add_sub_cancel_left]
theorem e_secondsAs {k p s n m : Nat} (hk : k < 6) (hp : p ≤ 1000) (hs : s ≤ 1000) (hn : n ≤ 1000) (hm : m ≤ 1000) : f_X10_secondsAs (nI k) (nI p) (nI s) (nI n) (nI m) = nI (sec k p s n m) := by
  have h3 : (3 : Int32) * nI n = nI (3 * n) := pk_mul 3 n
  have h5 : nI (3 * n) / (2 : Int32) = nI (3 * n / 2) := pk_div (d := 2) (by omega) (by omega) (by omega)
  have hx : ∃ w, w = max p s ∧ f_X10_secondsAs (nI k) (nI p) (nI s) (nI n) (nI m) = (if nI k = 1 then nI p + (3 : Int32) * nI n else if nI k = 2 then nI w + nI m else if nI k = 3 then nI p else if nI k = 4 then (if nI m ≤ 0 then nI w + nI m else nI w + nI m + 5) else if nI k = 5 then nI p + (3 : Int32) * nI n / 2 else nI w + nI m) := by
    refine ⟨_, rfl, ?_⟩
    unfold f_X10_secondsAs
    simp only [jnE]
    by_cases h : s ≤ p
    · rw [if_pos (nI_le h (by omega)), Nat.max_eq_left h]
    · rw [if_neg (nI_ge (by omega) (by omega)), Nat.max_eq_right (by omega)]
  obtain ⟨w, hw, hx⟩ := hx
  rw [hx, h3, h5]
  rcases (show k = 0 ∨ k = 1 ∨ k = 2 ∨ k = 3 ∨ k = 4 ∨ k = 5 by omega) with rfl | rfl | rfl | rfl | rfl | rfl
  · show nI w + nI m = nI (max p s + m)
    rw [nI_add, hw]
  · show nI p + nI (3 * n) = nI (p + 3 * n)
    rw [nI_add]
  · show nI w + nI m = nI (max p s + m)
    rw [nI_add, hw]
  · rfl
  · show (if nI m ≤ 0 then nI w + nI m else nI w + nI m + (5 : Int32)) = nI ((max p s + m) + (if 0 < m then 5 else 0))
    by_cases h : 0 < m
    · rw [if_pos h, if_neg (nI_nle h (by omega)), nI_add, hw]
      exact nI_add _ 5
    · rw [if_neg h, show m = 0 by omega, hw]
      exact nI_add _ 0
  · show nI p + nI (3 * n / 2) = nI (p + 3 * n / 2)
    rw [nI_add]
/-- the class's bath as far as takes looks: how many, kinds, paces -/
def iK (M : j_M) (b n : Nat) (ki pi : Nat → Nat) : Prop := j_I M b 9 = nI n ∧ n ≤ 7 ∧ ∀ p, p < n → j_I M (b + 3) p = nI (ki p) ∧ j_I M (b + 4) p = nI (pi p) ∧ ki p ≤ 5 ∧ 20 ≤ pi p ∧ pi p ≤ 90
def tk (n : Nat) (k : Nat) (pi : Nat → Nat) (p : Nat) (P : Nat → Bool) : Nat := sec k (pi p) (gp n pi P) (sl n pi p P) (ct n P)
theorem gp_le {M : j_M} {b n : Nat} {ki pi : Nat → Nat} (h : iK M b n ki pi) (P : Nat → Bool) : gp n pi P ≤ 90 := mx_le (fun p hp => by
  have := (h.2.2 p hp).2.2.2.2
  show (if P p then pi p else 0) ≤ 90
  split <;> omega)
theorem ct_le {n : Nat} (P : Nat → Bool) : ct n P ≤ n := by
  have := sm_le (n := n) (f := fun q => if P q then 1 else 0) (c := 1) (fun p _ => by show (if P p then 1 else 0) ≤ 1; split <;> omega)
  unfold ct; omega
theorem sl_le {n p : Nat} {pi : Nat → Nat} (P : Nat → Bool) : sl n pi p P ≤ n := by
  have := sm_le (n := n) (f := fun q => if P q && decide (pi p < pi q) then 1 else 0) (c := 1) (fun q _ => by show (if P q && decide (pi p < pi q) then 1 else 0) ≤ 1; split <;> omega)
  unfold sl; omega
theorem e_greatest {M : j_M} {b n : Nat} {ki pi : Nat → Nat} (h : iK M b n ki pi) (P : Nat → Bool) : f_X0_greatestPace M b (nI (ms n P)) = some (nI (gp n pi P)) := by
  have key : ∀ d p fuel K, p + d = n → d < fuel → f_X0_greatestPace_L4 fuel b M (nI (ms n P)) (nI (gp p pi P)) (nI p) K = K (nI (gp n pi P)) (nI n) := by
    obtain ⟨hn, h7, hp⟩ := h
    intro d
    induction d with
    | zero =>
      intro p fuel K h1 h2
      obtain ⟨fuel, rfl⟩ : ∃ f, fuel = f + 1 := ⟨fuel - 1, by omega⟩
      rw [f_X0_greatestPace_L4, hn, if_pos (nI_le (by omega) (by omega)), show p = n by omega]
    | succ d ih =>
      intro p fuel K h1 h2
      obtain ⟨fuel, rfl⟩ : ∃ f, fuel = f + 1 := ⟨fuel - 1, by omega⟩
      have hlt : p < n := by omega
      obtain ⟨-, e2, -, -, e5⟩ := hp p hlt
      have hg : gp p pi P ≤ 90 := mx_le (fun q hq => by
        have := (hp q (by omega)).2.2.2.2
        show (if P q then pi q else 0) ≤ 90
        split <;> omega)
      rw [f_X0_greatestPace_L4, hn, if_neg (nI_ge (by omega) (by omega)), tlE, e_has h7 hlt, nI_1]
      have hs : gp (p + 1) pi P = max (gp p pi P) (if P p then pi p else 0) := rfl
      by_cases hc : P p = true
      · rw [if_pos hc] at hs
        rw [if_pos hc, if_neg (by decide), a_iN (by omega) (by omega), e2, tlE, n_max (by omega) (by omega), ← hs]
        exact ih (p + 1) fuel K (by omega) (by omega)
      · rw [if_neg hc, Nat.max_eq_left (by omega)] at hs
        rw [if_neg hc, if_pos rfl, ← hs]
        exact ih (p + 1) fuel K (by omega) (by omega)
  unfold f_X0_greatestPace
  exact key n 0 j_fu _ (by omega) (by have := h.2.1; unfold j_fu; omega)
theorem e_slower {M : j_M} {b n p0 : Nat} {ki pi : Nat → Nat} (h : iK M b n ki pi) (h0 : p0 < n) (P : Nat → Bool) : f_X0_slowerThan M b (nI p0) (nI (ms n P)) = some (nI (sl n pi p0 P)) := by
  have key : ∀ d p fuel K, p + d = n → d < fuel → f_X0_slowerThan_L5 fuel b M (nI p0) (nI (ms n P)) (nI (sl p pi p0 P)) (nI p) K = K (nI (sl n pi p0 P)) (nI n) := by
    obtain ⟨hn, h7, hp⟩ := h
    obtain ⟨-, e0, -, -, e05⟩ := hp p0 h0
    intro d
    induction d with
    | zero =>
      intro p fuel K h1 h2
      obtain ⟨fuel, rfl⟩ : ∃ f, fuel = f + 1 := ⟨fuel - 1, by omega⟩
      rw [f_X0_slowerThan_L5, hn, if_pos (nI_le (by omega) (by omega)), show p = n by omega]
    | succ d ih =>
      intro p fuel K h1 h2
      obtain ⟨fuel, rfl⟩ : ∃ f, fuel = f + 1 := ⟨fuel - 1, by omega⟩
      have hlt : p < n := by omega
      obtain ⟨-, e2, -, -, e5⟩ := hp p hlt
      rw [f_X0_slowerThan_L5, hn, if_neg (nI_ge (by omega) (by omega)), tlE, e_has h7 hlt, nI_1]
      have hs : sl (p + 1) pi p0 P = sl p pi p0 P + (if P p && decide (pi p0 < pi p) then 1 else 0) := rfl
      by_cases hc : P p = true
      · rw [if_pos hc, if_neg (by decide), a_iN (by omega) (by omega), a_iN (by omega) (by omega), e2, e0]
        by_cases hq : pi p ≤ pi p0
        · rw [if_pos (nI_le hq (by omega))]
          rw [if_neg (by simp; omega), Nat.add_zero] at hs
          have := ih (p + 1) fuel K (by omega) (by omega)
          rw [hs] at this
          exact this
        · rw [if_neg (nI_ge (by omega) (by omega)), nI_1]
          rw [if_pos (by simp [hc]; omega)] at hs
          have := ih (p + 1) fuel K (by omega) (by omega)
          rw [hs] at this
          exact this
      · rw [if_neg hc, if_pos rfl]
        rw [if_neg (by simp [hc]), Nat.add_zero] at hs
        have := ih (p + 1) fuel K (by omega) (by omega)
        rw [hs] at this
        exact this
  unfold f_X0_slowerThan
  exact key n 0 j_fu _ (by omega) (by have := h.2.1; unfold j_fu; omega)
theorem kdN {ρ : Type} {k : Nat} {K : Nat → Option ρ} (h : k < 6) : kd (nI k) K = K k := by
  rcases (show k = 0 ∨ k = 1 ∨ k = 2 ∨ k = 3 ∨ k = 4 ∨ k = 5 by omega) with rfl | rfl | rfl | rfl | rfl | rfl <;> rfl
theorem e_takesAs {M : j_M} {b n p k : Nat} {ki pi : Nat → Nat} (h : iK M b n ki pi) (hp : p < n) (hk : k < 6) (P : Nat → Bool) : f_X0_takesAs M b (nI k) (nI p) (nI (ms n P)) = some (nI (tk n k pi p P)) := by
  have h7 := h.2.1
  obtain ⟨-, e2, -, -, e5⟩ := h.2.2 p hp
  have h1 := gp_le h P
  have h2 := ct_le (n := n) P
  have h3 := sl_le (n := n) (p := p) (pi := pi) P
  unfold f_X0_takesAs
  rw [kdN hk, a_iN (by omega) (by omega), e2, e_greatest h P, Option.bind_some, e_slower h hp P, Option.bind_some, tlE, e_bc h7, tlE, e_kt hk (by omega) (by omega) (by omega) (by omega)]
  rfl
theorem e_takes {M : j_M} {b n p : Nat} {ki pi : Nat → Nat} (h : iK M b n ki pi) (hp : p < n) (P : Nat → Bool) : f_X0_takes M b (nI p) (nI (ms n P)) = some (nI (tk n (ki p) pi p P)) := by
  have h7 := h.2.1
  obtain ⟨e1, -, e3, -, -⟩ := h.2.2 p hp
  unfold f_X0_takes
  rw [a_iN (by omega) (by omega), e1, e_takesAs h hp (by omega) P]
  rfl
/-- a row -/
def iR (M : j_M) (a : Nat) (r : Nat → Nat) : Prop := ∀ k, k < 22 → j_I M a k = nI (r k) ∧ r k < 2 ^ 31
def inl (r : Nat → Nat) (lane : Nat) : Nat → Bool := fun q => decide (r (1 + q) = lane)
def oth (r : Nat → Nat) (p lane : Nat) : Nat → Bool := fun q => inl r lane q && !(q == p)
theorem e_others {M : j_M} {b a1 n p : Nat} {r : Nat → Nat} (hn : j_I M b 9 = nI n) (h7 : n ≤ 7) (hr : iR M a1 r) (hp : p < 7) {lane : Nat} (hl : lane < 2 ^ 31) : f_X0_others M b a1 (nI p) (nI lane) = some (nI (ms n (oth r p lane))) := by
  unfold f_X0_others
  rw [e_members hn h7 hr hl, Option.bind_some, e_no h7 hp]
  rfl
theorem e_takesIn {M : j_M} {b a1 n p : Nat} {ki pi r : Nat → Nat} (h : iK M b n ki pi) (hp : p < n) (hr : iR M a1 r) {lane : Nat} (hl : lane < 2 ^ 31) : f_X0_takesIn M b a1 (nI p) (nI lane) = some (nI (tk n (ki p) pi p (oth r p lane))) := by
  have h7 := h.2.1
  obtain ⟨e1, -, e3, -, -⟩ := h.2.2 p hp
  unfold f_X0_takesIn
  rw [a_iN (by omega) (by omega), e1, e_others h.1 h7 hr (by omega) hl, Option.bind_some, e_takesAs h hp (by omega)]
  rfl
