/-! where all lie, who are the others, which lanes are open -/
def ly (M : j_M) (la : Nat → Int32) : j_M := (fun b j => if b = 40 ∧ j < 7 then la j else M.1 b j, M.2)
theorem I_ly {M : j_M} {la : Nat → Int32} {b j : Nat} : j_I (ly M la) b j = if b = 40 ∧ j < 7 then la j else j_I M b j := rfl
def st (M : j_M) (la : Nat → Int32) (g s o : Int32) : j_M := lo (ly M la) g s o
section
variable {M : j_M} {la : Nat → Int32} {g s o : Int32}
theorem I_st {b j : Nat} (h : b ≠ 35) (h4 : b ≠ 40) : j_I (st M la g s o) b j = j_I M b j := by
  unfold st
  rw [I_lo h, I_ly, if_neg (fun q => h4 q.1)]
theorem I_st40 {j : Nat} (h : j < 7) : j_I (st M la g s o) 40 j = la j := by
  unfold st
  rw [I_lo (by decide), I_ly, if_pos ⟨rfl, h⟩]
theorem I_st35 {j : Nat} (h : j < 7 ∨ 9 < j) : j_I (st M la g s o) 35 j = j_I M 35 j := by
  unfold st lo
  rw [I_sIn (by omega), I_sIn (by omega), I_sIn (by omega), I_ly, if_neg (by omega)]
theorem st7 : j_I (st M la g s o) 35 7 = g := rfl
theorem st8 : j_I (st M la g s o) 35 8 = s := rfl
theorem st9 : j_I (st M la g s o) 35 9 = o := rfl
theorem S_st : (st M la g s o).2 = M.2 := rfl
theorem j_ckT {ρ : Type} {M0 : j_M} {K : Option ρ} : j_ck M0 (st M la g s o) K = j_ck M0 M K := rfl
theorem j_ckT' {ρ : Type} {M0 : j_M} {K : Option ρ} : j_ck (st M la g s o) M0 K = j_ck M M0 K := rfl
theorem st_self (M : j_M) : st M (j_I M 40) (j_I M 35 7) (j_I M 35 8) (j_I M 35 9) = M := by
  refine Prod.ext ?_ rfl
  funext b j
  show j_I (st M (j_I M 40) (j_I M 35 7) (j_I M 35 8) (j_I M 35 9)) b j = j_I M b j
  by_cases h : b = 35
  · subst h
    by_cases h1 : j < 7 ∨ 9 < j
    · exact I_st35 h1
    · rcases (show j = 7 ∨ j = 8 ∨ j = 9 by omega) with rfl | rfl | rfl <;> rfl
  · by_cases h4 : b = 40
    · subst h4
      unfold st
      rw [I_lo (by decide), I_ly]
      split <;> rfl
    · exact I_st h h4
theorem st_set {p : Nat} {v : Int32} (h : p < 7) : j_sI (st M la g s o) 40 p v = st M (fun q => if q = p then v else la q) g s o := by
  refine Prod.ext ?_ rfl
  funext b j
  show j_I (j_sI (st M la g s o) 40 p v) b j = j_I (st M (fun q => if q = p then v else la q) g s o) b j
  by_cases h4 : b = 40
  · subst h4
    by_cases h7 : j < 7
    · rw [I_st40 h7, I_sI, I_st40 h7]
      by_cases e : j = p <;> simp [e]
    · rw [I_sIn (by omega)]
      unfold st
      rw [I_lo (by decide), I_ly, I_lo (by decide), I_ly, if_neg (by omega), if_neg (by omega)]
  · rw [I_sIn (by omega)]
    by_cases h : b = 35
    · subst h
      by_cases h1 : j < 7 ∨ 9 < j
      · rw [I_st35 h1, I_st35 h1]
      · rcases (show j = 7 ∨ j = 8 ∨ j = 9 by omega) with rfl | rfl | rfl <;> rfl
    · rw [I_st h h4, I_st h h4]
theorem lo_st {g' s' o' : Int32} : lo (st M la g s o) g' s' o' = st M la g' s' o' := lo_lo
theorem mK.st {n : Nat} {ki pi : Nat → Nat} (h : mK M n ki pi) : mK (st M la g s o) n ki pi := h.to (fun k _ _ => I_st (by decide) (by decide))
theorem st_nb : nb M (st M la g s o) := by
  refine ⟨fun a k hs => ?_, fun _ _ _ => rfl, rfl⟩
  by_cases h : a = 35
  · subst h
    exact I_st35 (by unfold scr at hs; omega)
  · exact I_st h (by unfold scr at hs; omega)
theorem st_many {n : Nat} (h : j_I M 36 0 = nI n) : f_X10_many (st M la g s o) = some (nI n) := e_many (by rw [I_st (by decide) (by decide)]; exact h)
def hn (M : j_M) (la : Nat → Int32) (p : Nat) : Nat → Int32 := fun q => if q < p then j_I M 36 (9 + q) else la q
theorem e_layHand {n : Nat} (h : j_I M 36 0 = nI n) (h7 : n ≤ 7) : f_X10_layHand (st M la g s o) = some (st M (hn M la n) g s o) := by
  have key : ∀ d p fuel K, p + d = n → d < fuel → f_X10_layHand_L2 fuel (st M (hn M la p) g s o) (nI p) K = K (nI n) (st M (hn M la n) g s o) := by
    intro d
    induction d with
    | zero =>
      intro p fuel K h1 h2
      obtain ⟨fuel, rfl⟩ : ∃ f, fuel = f + 1 := ⟨fuel - 1, by omega⟩
      rw [f_X10_layHand_L2, st_many h, Option.bind_some, if_pos (nI_le (by omega) (by omega)), show p = n by omega]
    | succ d ih =>
      intro p fuel K h1 h2
      obtain ⟨fuel, rfl⟩ : ∃ f, fuel = f + 1 := ⟨fuel - 1, by omega⟩
      rw [f_X10_layHand_L2, st_many h, Option.bind_some, if_neg (nI_ge (by omega) (by omega)), show (9 : Int32) + nI p = nI (9 + p) from nI_add 9 p, a_iN (by omega) (by omega), I_st (by decide) (by decide), w_iN (by omega) (by omega), st_set (by omega), nI_1]
      have e : (fun q => if q = p then j_I M 36 (9 + p) else hn M la p q) = hn M la (p + 1) := by
        funext q
        unfold hn
        by_cases e : q = p
        · subst e; rw [if_pos rfl, if_pos (by omega)]
        · rw [if_neg e]
          by_cases c : q < p
          · rw [if_pos c, if_pos (by omega)]
          · rw [if_neg c, if_neg (by omega)]
      rw [e]
      exact ih (p + 1) fuel K (by omega) (by omega)
  unfold f_X10_layHand
  have e : st M la g s o = st M (hn M la 0) g s o := by
    congr 1
  rw [e]
  exact key n 0 j_fu _ (by omega) (by unfold j_fu; omega)
theorem e_sec {n p : Nat} {ki pi : Nat → Nat} (h : mK M n ki pi) (hp : p < n) (lane : Int32) : f_X10_secondsIn (st M la g s o) (nI p) lane = some (nI (tk n (ki p) pi p (oL la p lane)), st M la (nI (gp n pi (oL la p lane))) (nI (sl n pi p (oL la p lane))) (nI (ct n (oL la p lane)))) := by
  have h7 := h.2.1
  rw [e_secondsIn h.st hp (la := la) (fun q hq => I_st40 (by omega)), lo_st]
end
theorem gp_congr {n : Nat} {pi : Nat → Nat} {P Q : Nat → Bool} (h : ∀ q, q < n → P q = Q q) : gp n pi P = gp n pi Q := mx_congr (fun q hq => by rw [h q hq])
theorem sl_congr {n p : Nat} {pi : Nat → Nat} {P Q : Nat → Bool} (h : ∀ q, q < n → P q = Q q) : sl n pi p P = sl n pi p Q := sm_congr (fun q hq => by rw [h q hq])
theorem ct_congr {n : Nat} {P Q : Nat → Bool} (h : ∀ q, q < n → P q = Q q) : ct n P = ct n Q := sm_congr (fun q hq => by rw [h q hq])
theorem tk_congr {n k p : Nat} {pi : Nat → Nat} {P Q : Nat → Bool} (h : ∀ q, q < n → P q = Q q) : tk n k pi p P = tk n k pi p Q := by
  unfold tk
  rw [gp_congr h, sl_congr h, ct_congr h]
theorem sm_mono {n : Nat} {f g : Nat → Nat} (h : ∀ p, p < n → f p ≤ g p) : sm n f ≤ sm n g := by
  induction n with
  | zero => exact Nat.le_refl _
  | succ n ih =>
    have h1 := ih (fun p hp => h p (by omega))
    have h2 := h n (by omega)
    simp only [sm]; omega
theorem mx_mono {n : Nat} {f g : Nat → Nat} (h : ∀ p, p < n → f p ≤ g p) : mx n f ≤ mx n g := by
  induction n with
  | zero => exact Nat.le_refl _
  | succ n ih =>
    have h1 := ih (fun p hp => h p (by omega))
    have h2 := h n (by omega)
    simp only [mx]; omega
theorem sec_mono {k p s n m s' n' m' : Nat} (hs : s ≤ s') (hn : n ≤ n') (hm : m ≤ m') : sec k p s n m ≤ sec k p s' n' m' := by
  unfold sec
  repeat' split
  all_goals omega
theorem tk_mono {n k p : Nat} {pi : Nat → Nat} {P Q : Nat → Bool} (h : ∀ q, q < n → P q = true → Q q = true) : tk n k pi p P ≤ tk n k pi p Q := by
  unfold tk
  refine sec_mono (mx_mono (fun q hq => ?_)) (sm_mono (fun q hq => ?_)) (sm_mono (fun q hq => ?_))
  · have := h q hq
    cases hP : P q
    · simp
    · simp [this hP]
  · have := h q hq
    cases hP : P q
    · simp
    · simp [this hP]
  · have := h q hq
    cases hP : P q
    · simp
    · simp [this hP]
theorem tk_ge {n k p : Nat} {pi : Nat → Nat} {P : Nat → Bool} : pi p ≤ tk n k pi p P := sec_ge
theorem tk_le {M : j_M} {n k p : Nat} {ki pi : Nat → Nat} {P : Nat → Bool} (h : mK M n ki pi) (hp : p < n) : tk n k pi p P ≤ 120 := by
  have h7 := h.2.1
  have h1 : gp n pi P ≤ 90 := mx_le (fun q hq => by
    have := (h.2.2 q hq).2.2.2.2
    show (if P q then pi q else 0) ≤ 90
    split <;> omega)
  have h2 := ct_le (n := n) P
  have h3 := sl_le (n := n) (p := p) (pi := pi) P
  have h5 := (h.2.2 p hp).2.2.2.2
  unfold tk sec
  repeat' split
  all_goals omega
theorem oL_oth {n p lane : Nat} {la : Nat → Int32} {r : Nat → Nat} (h : ∀ q, q < n → la q = nI (r (1 + q)) ∧ r (1 + q) < 2 ^ 31) (hl : lane < 2 ^ 31) : ∀ q, q < n → oL la p (nI lane) q = oth r p lane q := by
  intro q hq
  unfold oL oth inl
  rw [(h q hq).1]
  congr 1
  by_cases e : r (1 + q) = lane
  · simp [e]
  · have : ¬ nI (r (1 + q)) = nI lane := by rw [nI_eq (h q hq).2 hl]; exact e
    simp [e, this]
/-- open lanes -/
def op (be : Nat → Nat) (l : Nat) : Bool := decide (be 8 / 2 ^ l % 2 = 0)
theorem e_open9 {M : j_M} {b l : Nat} {be : Nat → Nat} (h : iB M b be) (hl : l < 4) : f_X0_isOpen M b (nI l) = some (if op be l then 1 else 0) := by
  unfold f_X0_isOpen
  rw [a_iN (by omega) (by omega), (h.2.2.2.1 l hl).2]
  unfold op
  rcases Nat.mod_two_eq_zero_or_one (be 8 / 2 ^ l) with e | e <;> rw [e] <;> rfl
theorem has4_k : ∀ s, s < 16 → ∀ l, l < 4 → f_X10_has (nI s) (nI l) = nI (s / 2 ^ l % 2) := by decide +kernel
theorem e_open10 {M : j_M} {l : Nat} {be : Nat → Nat} (h : j_I M 36 8 = nI (be 8)) (h16 : be 8 < 16) (hl : l < 4) : f_X10_isOpen M (nI l) = some (if op be l then 1 else 0) := by
  unfold f_X10_isOpen
  rw [i_8, a_iN (by omega) (by omega), h, has4_k _ h16 l hl, tlE]
  unfold op
  rcases Nat.mod_two_eq_zero_or_one (be 8 / 2 ^ l) with e | e <;> rw [e] <;> rfl
/-- the first of the open lanes with the least -/
def bst (ok : Nat → Bool) (t : Nat → Nat) : Nat → Option Nat
  | 0 => none
  | l + 1 => if ok l then (match bst ok t l with
    | none => some l
    | some b => if t l < t b then some l else some b) else bst ok t l
def eN (o : Option Nat) : Int32 := match o with
  | none => -1
  | some b => nI b
theorem bst_lt {ok : Nat → Bool} {t : Nat → Nat} {l b : Nat} (h : bst ok t l = some b) : b < l ∧ ok b = true := by
  induction l with
  | zero => exact absurd h (by simp [bst])
  | succ l ih =>
    unfold bst at h
    by_cases c : ok l = true
    · rw [if_pos c] at h
      cases e : bst ok t l with
      | none => rw [e] at h; simp at h; subst h; exact ⟨by omega, c⟩
      | some b' =>
        rw [e] at h
        simp only at h
        split at h
        · simp at h; subst h; exact ⟨by omega, c⟩
        · simp at h; subst h; have := ih e; exact ⟨by omega, this.2⟩
    · rw [if_neg c] at h
      have := ih h
      exact ⟨by omega, this.2⟩
theorem bst_congr {ok : Nat → Bool} {t t' : Nat → Nat} {l : Nat} (h : ∀ k, k < l → t k = t' k) : bst ok t l = bst ok t' l := by
  induction l with
  | zero => rfl
  | succ l ih =>
    unfold bst
    rw [ih (fun k hk => h k (by omega)), h l (by omega)]
    cases e : bst ok t' l with
    | none => rfl
    | some b => have := (bst_lt e).1; simp only; rw [h b (by omega)]
theorem bst_some {ok : Nat → Bool} {t : Nat → Nat} {l k : Nat} (hk : k < l) (h : ok k = true) : ∃ b, bst ok t l = some b := by
  induction l with
  | zero => omega
  | succ l ih =>
    unfold bst
    by_cases c : ok l = true
    · rw [if_pos c]
      cases bst ok t l with
      | none => exact ⟨_, rfl⟩
      | some b => simp only; split <;> exact ⟨_, rfl⟩
    · rw [if_neg c]
      exact ih (by by_cases e : k = l; · subst e; exact absurd h c
                   · omega)
theorem nI_m1 {b : Nat} (h : b < 2 ^ 31) : ¬ nI b = -1 := by
  intro e
  have := congrArg Int32.toInt e
  rw [nI_toInt h] at this
  have h1 : (-1 : Int32).toInt = -1 := rfl
  omega
theorem e_leastOpen {M : j_M} {be : Nat → Nat} {t : Nat → Nat} (h : iB M 17 be) (ht : ∀ l, l < 4 → j_I M 25 l = nI (t l) ∧ t l < 2 ^ 31) : f_X0_leastOpenLane M 17 = some (eN (bst (op be) t 4)) := by
  have key : ∀ d l fuel K, l + d = 4 → d < fuel → f_X0_leastOpenLane_L4 fuel 17 M (eN (bst (op be) t l)) (nI l) K = K (eN (bst (op be) t 4)) (nI 4) := by
    intro d
    induction d with
    | zero =>
      intro l fuel K h1 h2
      obtain ⟨fuel, rfl⟩ : ∃ f, fuel = f + 1 := ⟨fuel - 1, by omega⟩
      rw [f_X0_leastOpenLane_L4, i_4, if_pos (nI_le (by omega) (by omega)), show l = 4 by omega]
    | succ d ih =>
      intro l fuel K h1 h2
      obtain ⟨fuel, rfl⟩ : ∃ f, fuel = f + 1 := ⟨fuel - 1, by omega⟩
      have ih' := ih (l + 1) fuel K (by omega) (by omega)
      rw [f_X0_leastOpenLane_L4, i_4, if_neg (nI_ge (by omega) (by omega)), e_open9 h (by omega), Option.bind_some, nI_1]
      rw [show bst (op be) t (l + 1) = if op be l then (match bst (op be) t l with
        | none => some l
        | some b => if t l < t b then some l else some b) else bst (op be) t l from rfl] at ih'
      by_cases c : op be l = true
      · rw [if_pos c] at ih' ⊢
        rw [if_neg (by decide)]
        cases e : bst (op be) t l with
        | none =>
          rw [e] at ih'
          rw [if_pos (show eN none = -1 from rfl)]
          exact ih'
        | some b =>
          rw [e] at ih'
          have hb := (bst_lt e).1
          simp only at ih'
          show (if nI b = -1 then _ else _) = _
          rw [if_neg (nI_m1 (by omega)), a_iN (by omega) (by omega)]
          show a_i M (17 + 8) 4 (nI b) _ = _
          rw [a_iN (by omega) (by omega), (ht l (by omega)).1, (ht b (by omega)).1]
          by_cases c2 : t l < t b
          · rw [if_pos c2] at ih'
            rw [if_neg (nI_ge c2 (ht b (by omega)).2)]
            exact ih'
          · rw [if_neg c2] at ih'
            rw [if_pos (nI_le (by omega) (ht l (by omega)).2)]
            exact ih'
      · rw [if_neg c] at ih' ⊢
        rw [if_pos rfl]
        exact ih'
  unfold f_X0_leastOpenLane
  exact key 4 0 j_fu _ (by omega) (by unfold j_fu; omega)
