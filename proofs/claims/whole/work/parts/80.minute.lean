/-! minutes -/
def RW (M : j_M) (a : Nat) (r : Nat → Nat) : j_M := (fun b j => if b = a ∧ j < 22 then nI (r j) else M.1 b j, M.2)
section
variable {M : j_M} {a : Nat} {r : Nat → Nat}
theorem I_RW {b j : Nat} : j_I (RW M a r) b j = if b = a ∧ j < 22 then nI (r j) else j_I M b j := rfl
theorem I_RWe {j : Nat} (h : j < 22) : j_I (RW M a r) a j = nI (r j) := by rw [I_RW, if_pos ⟨rfl, h⟩]
theorem I_RWn {b j : Nat} (h : b ≠ a) : j_I (RW M a r) b j = j_I M b j := by rw [I_RW, if_neg (fun q => h q.1)]
theorem RW_set {k v : Nat} (h : k < 22) : j_sI (RW M a r) a k (nI v) = RW M a (up r k v) := by
  refine Prod.ext ?_ rfl
  funext b j
  show (if b = a ∧ j = k then nI v else if b = a ∧ j < 22 then nI (r j) else M.1 b j) = if b = a ∧ j < 22 then nI (up r k v j) else M.1 b j
  by_cases hb : b = a
  · by_cases e : j = k
    · subst e; rw [if_pos ⟨hb, rfl⟩, if_pos ⟨hb, h⟩, up_e rfl]
    · rw [if_neg (fun q => e q.2), up_n e]
  · rw [if_neg (fun q => hb q.1), if_neg (fun q => hb q.1), if_neg (fun q => hb q.1)]
theorem RW_congr {r' : Nat → Nat} (h : ∀ k, k < 22 → r k = r' k) : RW M a r = RW M a r' := by
  refine Prod.ext ?_ rfl
  funext b j
  show (if b = a ∧ j < 22 then nI (r j) else M.1 b j) = if b = a ∧ j < 22 then nI (r' j) else M.1 b j
  by_cases hb : b = a ∧ j < 22
  · rw [if_pos hb, if_pos hb, h j hb.2]
  · rw [if_neg hb, if_neg hb]
theorem RW_self (h : ∀ k, k < 22 → j_I M a k = nI (r k)) : RW M a r = M := by
  refine Prod.ext ?_ rfl
  funext b j
  show (if b = a ∧ j < 22 then nI (r j) else j_I M b j) = j_I M b j
  by_cases hb : b = a ∧ j < 22
  · rw [if_pos hb, hb.1, h j hb.2]
  · rw [if_neg hb]
theorem iR_RW (h : ∀ k, k < 22 → r k < 2 ^ 31) : iR (RW M a r) a r := fun k hk => ⟨I_RWe hk, h k hk⟩
theorem iK.rw {b n : Nat} {ki pi : Nat → Nat} (h : iK M b n ki pi) (h1 : a ≠ b) (h2 : a ≠ b + 3) (h3 : a ≠ b + 4) : iK (RW M a r) b n ki pi := by
  obtain ⟨e1, e2, e3⟩ := h
  refine ⟨by rw [I_RWn (fun x => h1 x.symm)]; exact e1, e2, fun p hp => ?_⟩
  rw [I_RWn (fun x => h2 x.symm), I_RWn (fun x => h3 x.symm)]
  exact e3 p hp
end
/-- a row's numbers stay small -/
def rB (B : Nat) (r : Nat → Nat) : Prop := r 0 ≤ 999 ∧ ∀ q, q < 7 → r (1 + q) < 4 ∧ r (8 + q) ≤ B ∧ r (15 + q) ≤ 107
theorem rB.lt {B : Nat} {r : Nat → Nat} (h : rB B r) (hB : B < 2 ^ 31) : ∀ k, k < 22 → r k < 2 ^ 31 := fun k hk => by
  obtain ⟨h0, h1⟩ := h
  by_cases e : k = 0
  · subst e; omega
  · have h2 := h1 ((k - 1) % 7) (by omega)
    rcases (show k = 1 + (k - 1) % 7 ∨ k = 8 + (k - 1) % 7 ∨ k = 15 + (k - 1) % 7 by omega) with h3 | h3 | h3 <;> rw [h3] <;> omega
theorem ct_lt {n p : Nat} {P : Nat → Bool} (hp : p < n) (h : P p = false) : ct n P + 1 ≤ n := by
  have h1 : sm n (fun q => if P q then 1 else 0) + sm n (fun q => if q = p then 1 else 0) ≤ n := by
    have : ∀ n, sm n (fun q => if P q then 1 else 0) + sm n (fun q => if q = p then 1 else 0) = sm n (fun q => (if P q then 1 else 0) + if q = p then 1 else 0) := fun n => by
      induction n with
      | zero => rfl
      | succ n ih => simp only [sm]; omega
    rw [this]
    have := sm_le (n := n) (f := fun q => (if P q then 1 else 0) + if q = p then 1 else 0) (c := 1) (fun q _ => by
      show (if P q then 1 else 0) + (if q = p then 1 else 0) ≤ 1
      by_cases e : q = p
      · subst e; rw [h]; simp
      · simp only [e, if_false]; split <;> omega)
    omega
  have h2 : ∀ m, m ≤ p → sm m (fun q => if q = p then 1 else 0) = 0 := fun m => by
    induction m with
    | zero => intro _; rfl
    | succ m ih => intro hm; simp only [sm]; rw [ih (by omega), if_neg (by omega)]
  have h3 : 1 ≤ sm n (fun q => if q = p then 1 else 0) := by
    have : ∀ d, sm (p + 1 + d) (fun q => if q = p then 1 else 0) ≥ 1 := fun d => by
      induction d with
      | zero => show sm p _ + (if p = p then 1 else 0) ≥ 1; rw [if_pos rfl]; omega
      | succ d ih => show sm (p + 1 + d) _ + _ ≥ 1; omega
    have := this (n - (p + 1))
    rwa [show p + 1 + (n - (p + 1)) = n by omega] at this
  unfold ct
  omega
theorem TK_108 {be : Nat → Nat} {p : Nat} {P : Nat → Bool} (w : wf be) (hp : p < be 0) (h : P p = false) : TK be p P ≤ 108 := by
  have h7 := w.1
  have h1 : gp (be 0) (fun p => be (37 + p)) P ≤ 90 := mx_le (fun q hq => by
    have := (w.2.2.2.2.2.1 q hq).2.2
    show (if P q then be (37 + q) else 0) ≤ 90
    split <;> omega)
  have h2 := ct_lt hp h
  have h3 : sl (be 0) (fun p => be (37 + p)) p P ≤ ct (be 0) P := sm_mono (fun q _ => by cases P q <;> simp <;> split <;> omega)
  have h5 := (w.2.2.2.2.2.1 p hp).2.2
  exact sec_le h5 h1 (by omega) (by omega)
theorem oth_p {r : Nat → Nat} {p l : Nat} : oth r p l p = false := by simp [oth]
/-- a length there, one minute -/
def ee (be r : Nat → Nat) (p : Nat) : Nat := TK be p (oth r p (r (1 + p)))
theorem ee_b {be r : Nat → Nat} {p : Nat} (w : wf be) (hp : p < be 0) : 20 ≤ ee be r p ∧ ee be r p ≤ 108 := ⟨TK_ge w hp, TK_108 w hp oth_p⟩
theorem ee_congr {be r r' : Nat → Nat} {p : Nat} (w : wf be) (hp : p < be 0) (h : ∀ q, q < 7 → r (1 + q) = r' (1 + q)) : ee be r p = ee be r' p := by
  have h7 := w.1
  unfold ee
  rw [h p (by omega)]
  refine TK_congr (fun q hq => ?_)
  unfold oth inl
  rw [h q (by omega)]
def rp (be r : Nat → Nat) (p : Nat) : Nat → Nat := fun k => if k = 0 then r 0 + 1 else if 8 ≤ k ∧ k < 8 + p then r k + (r (7 + k) + 60) / ee be r (k - 8) else if 15 ≤ k ∧ k < 15 + p then (r k + 60) % ee be r (k - 15) else r k
theorem rp_lane {be r : Nat → Nat} {p q : Nat} (hq : q < 7) : rp be r p (1 + q) = r (1 + q) := by
  unfold rp
  rw [if_neg (by omega), if_neg (by omega), if_neg (by omega)]
theorem e_swims {M : j_M} {b a1 p : Nat} {be r : Nat → Nat} (hk : iK M b (be 0) (fun p => be (30 + p)) (fun p => be (37 + p))) (w : wf be) (h1 : a1 ≠ b) (h2 : a1 ≠ b + 3) (h3 : a1 ≠ b + 4) (hp : p < be 0) {B : Nat} (hB : B < 1000000) (hr : rB B r) : f_X0_swimsAMinute (RW M a1 (rp be r p)) b a1 (nI p) = some (nI ((r (15 + p) + 60) / ee be r p), RW M a1 (rp be r (p + 1))) := by
  have h7 := w.1
  have hq := hr.2 p (by omega)
  have he := ee_b (r := r) w hp
  have l1 : rp be r p (1 + p) = r (1 + p) := rp_lane (by omega)
  have l8 : rp be r p (8 + p) = r (8 + p) := by unfold rp; rw [if_neg (by omega), if_neg (by omega), if_neg (by omega)]
  have l15 : rp be r p (15 + p) = r (15 + p) := by unfold rp; rw [if_neg (by omega), if_neg (by omega), if_neg (by omega)]
  have hdiv : (r (15 + p) + 60) / ee be r p ≤ 8 := by
    have : (r (15 + p) + 60) / ee be r p ≤ 167 / 20 := Nat.div_le_div (by omega) he.1 (by omega)
    omega
  have hrB : ∀ k, k < 22 → rp be r p k < 2 ^ 31 := fun k hk => by
    have h4 := hr.lt (by omega) k hk
    unfold rp
    by_cases e0 : k = 0
    · rw [if_pos e0]; have := hr.1; omega
    · rw [if_neg e0]
      by_cases e8 : 8 ≤ k ∧ k < 8 + p
      · rw [if_pos e8]
        have h5 := hr.2 (k - 8) (by omega)
        rw [show 8 + (k - 8) = k by omega, show 15 + (k - 8) = 7 + k by omega] at h5
        have he' := ee_b (r := r) w (show k - 8 < be 0 by omega)
        have : (r (7 + k) + 60) / ee be r (k - 8) ≤ 167 / 20 := Nat.div_le_div (by omega) he'.1 (by omega)
        omega
      · rw [if_neg e8]
        by_cases e15 : 15 ≤ k ∧ k < 15 + p
        · rw [if_pos e15]
          have he' := ee_b (r := r) w (show k - 15 < be 0 by omega)
          have := Nat.mod_lt (r k + 60) (show 0 < ee be r (k - 15) by omega)
          omega
        · rw [if_neg e15]; exact h4
  have ht : f_X0_takesIn (RW M a1 (rp be r p)) b a1 (nI p) (nI (r (1 + p))) = some (nI (ee be r p)) := by
    rw [e_takesIn (hk.rw h1 h2 h3) hp (iR_RW hrB) (by omega)]
    have : tk (be 0) (be (30 + p)) (fun p => be (37 + p)) p (oth (rp be r p) p (r (1 + p))) = ee be r p := tk_congr (fun q hq => by
      unfold oth inl
      rw [rp_lane (by omega)])
    exact congrArg (fun x => some (nI x)) this
  have hmod : nI (r (15 + p) + 60) - nI ((r (15 + p) + 60) / ee be r p) * nI (ee be r p) = nI ((r (15 + p) + 60) % ee be r p) := by
    have := Nat.div_mul_le_self (r (15 + p) + 60) (ee be r p)
    rw [pk_mul, pk_sub this]
    congr 1
    have h5 := Nat.div_add_mod (r (15 + p) + 60) (ee be r p)
    rw [Nat.mul_comm] at h5
    omega
  unfold f_X0_swimsAMinute
  rw [i_1, nI_add, a_iN (by omega) (by omega), I_RWe (by omega), l1, ht, Option.bind_some, i_15, nI_add, a_iN (by omega) (by omega), I_RWe (by omega), l15, jnE, if_neg (nI_nle (by omega) (by omega)), i_60, nI_add, d_iN (by omega) (by omega) (by omega)]
  dsimp only
  rw [i_8, nI_add, a_iN (by omega) (by omega), I_RWe (by omega), l8, nI_add, w_iN (by omega) (by omega), RW_set (by omega), hmod, w_iN (by omega) (by omega), RW_set (by omega)]
  refine congrArg (fun x => some (nI ((r (15 + p) + 60) / ee be r p), x)) (RW_congr (fun k hk => ?_))
  by_cases e15 : k = 15 + p
  · subst e15
    rw [up_e rfl]
    unfold rp
    rw [if_neg (by omega), if_neg (by omega), if_pos (by omega), show 15 + p - 15 = p by omega]
  · rw [up_n e15]
    by_cases e8 : k = 8 + p
    · subst e8
      rw [up_e rfl]
      unfold rp
      rw [if_neg (by omega), if_pos (by omega), show 8 + p - 8 = p by omega, show 7 + (8 + p) = 15 + p by omega]
    · rw [up_n e8]
      unfold rp
      by_cases e0 : k = 0
      · rw [if_pos e0, if_pos e0]
      · rw [if_neg e0, if_neg e0]
        by_cases c8 : 8 ≤ k ∧ k < 8 + p
        · rw [if_pos c8, if_pos (by omega)]
        · rw [if_neg c8, if_neg (show ¬ (8 ≤ k ∧ k < 8 + (p + 1)) by omega)]
          by_cases c15 : 15 ≤ k ∧ k < 15 + p
          · rw [if_pos c15, if_pos (by omega)]
          · rw [if_neg c15, if_neg (by omega)]
/-- one minute of a row, and what is swum -/
def mg (be r : Nat → Nat) : Nat → Nat := if r 0 < 999 then rp be r (be 0) else r
def mgS (be r : Nat → Nat) : Nat := if r 0 < 999 then sm (be 0) (fun q => (r (15 + q) + 60) / ee be r q) else 0
theorem mgS_le {be r : Nat → Nat} {B : Nat} (w : wf be) (hr : rB B r) : mgS be r ≤ 56 := by
  have h7 := w.1
  unfold mgS
  split
  · have := sm_le (n := be 0) (f := fun q => (r (15 + q) + 60) / ee be r q) (c := 8) (fun q hq => by
      have he := ee_b (r := r) w hq
      have h2 := hr.2 q (by omega)
      have : (r (15 + q) + 60) / ee be r q ≤ 167 / 20 := Nat.div_le_div (by omega) he.1 (by omega)
      show (r (15 + q) + 60) / ee be r q ≤ 8
      omega)
    omega
  · omega
theorem mg_B {be r : Nat → Nat} {B : Nat} (w : wf be) (hr : rB B r) : rB (B + 8) (mg be r) := by
  have h7 := w.1
  unfold mg
  split
  · rename_i h9
    refine ⟨by show rp be r (be 0) 0 ≤ 999; unfold rp; rw [if_pos rfl]; omega, fun q hq => ?_⟩
    have h2 := hr.2 q hq
    rw [rp_lane hq]
    refine ⟨h2.1, ?_, ?_⟩
    · unfold rp
      rw [if_neg (by omega)]
      by_cases c : 8 ≤ 8 + q ∧ 8 + q < 8 + be 0
      · rw [if_pos c, show 7 + (8 + q) = 15 + q by omega, show 8 + q - 8 = q by omega]
        have he := ee_b (r := r) w (show q < be 0 by omega)
        have : (r (15 + q) + 60) / ee be r q ≤ 167 / 20 := Nat.div_le_div (by omega) he.1 (by omega)
        omega
      · rw [if_neg c, if_neg (by omega)]; omega
    · unfold rp
      rw [if_neg (by omega), if_neg (by omega)]
      by_cases c : 15 ≤ 15 + q ∧ 15 + q < 15 + be 0
      · rw [if_pos c, show 15 + q - 15 = q by omega]
        have he := ee_b (r := r) w (show q < be 0 by omega)
        have := Nat.mod_lt (r (15 + q) + 60) (show 0 < ee be r q by omega)
        omega
      · rw [if_neg c]; omega
  · refine ⟨hr.1, fun q hq => ?_⟩
    have := hr.2 q hq
    omega
theorem e_minuteBy {M : j_M} {b a1 : Nat} {be r : Nat → Nat} (hk : iK M b (be 0) (fun p => be (30 + p)) (fun p => be (37 + p))) (w : wf be) (h1 : a1 ≠ b) (h2 : a1 ≠ b + 3) (h3 : a1 ≠ b + 4) {B : Nat} (hB : B < 1000000) (hr : rB B r) : f_X0_minuteGoesBy (RW M a1 r) b a1 = some (nI (mgS be r), RW M a1 (mg be r)) := by
  have h7 := w.1
  have key : ∀ d p fuel K, p + d = be 0 → d < fuel → f_X0_minuteGoesBy_L22 fuel b a1 (RW M a1 (rp be r p)) (nI (sm p (fun q => (r (15 + q) + 60) / ee be r q))) (nI p) K = K (nI (sm (be 0) (fun q => (r (15 + q) + 60) / ee be r q))) (nI (be 0)) (RW M a1 (rp be r (be 0))) := by
    intro d
    induction d with
    | zero =>
      intro p fuel K g1 g2
      obtain ⟨fuel, rfl⟩ : ∃ f, fuel = f + 1 := ⟨fuel - 1, by omega⟩
      rw [f_X0_minuteGoesBy_L22, I_RWn (fun x => h1 x.symm), hk.1, if_pos (nI_le (by omega) (by omega)), show p = be 0 by omega]
    | succ d ih =>
      intro p fuel K g1 g2
      obtain ⟨fuel, rfl⟩ : ∃ f, fuel = f + 1 := ⟨fuel - 1, by omega⟩
      rw [f_X0_minuteGoesBy_L22, I_RWn (fun x => h1 x.symm), hk.1, if_neg (nI_ge (by omega) (by omega)), e_swims hk w h1 h2 h3 (by omega) hB hr, Option.bind_some, j_ckE (by rfl), nI_add, nI_1]
      exact ih (p + 1) fuel K (by omega) (by omega)
  have h0 := hr.1
  unfold f_X0_minuteGoesBy mg mgS
  rw [i_0, a_iN (by omega) (by omega), I_RWe (by omega), i_999]
  by_cases c : r 0 < 999
  · rw [if_pos (nI_lt c (by omega)), a_iN (by omega) (by omega), I_RWe (by omega), nI_1, w_iN (by omega) (by omega), RW_set (by omega), if_pos c, if_pos c]
    have e0 : RW M a1 (up r 0 (r 0 + 1)) = RW M a1 (rp be r 0) := RW_congr (fun k hk => by
      unfold rp
      by_cases e : k = 0
      · rw [if_pos e, up_e e]
      · rw [if_neg e, up_n e, if_neg (by omega), if_neg (by omega)])
    rw [e0]
    have hj : 100000 < j_fu := by unfold j_fu; omega
    revert hj
    generalize j_fu = fu
    intro hj
    exact key (be 0) 0 fu _ (by omega) (by omega)
  · rw [if_neg (nI_nlt (by omega) (by omega)), if_neg c, if_neg c]
/-- so many minutes, no lane changed -/
def cf (be r : Nat → Nat) (T : Nat) : Nat → Nat := fun k => if k = 0 then r 0 + T else if 8 ≤ k ∧ k < 8 + be 0 then r k + (if T = 0 then 0 else (r (7 + k) + 60 * T) / ee be r (k - 8)) else if 15 ≤ k ∧ k < 15 + be 0 then (if T = 0 then r k else (r k + 60 * T) % ee be r (k - 15)) else r k
def cS (be r : Nat → Nat) (T : Nat) : Nat → Nat := fun q => if T = 0 then 0 else (r (15 + q) + 60 * T) / ee be r q
theorem cf_lane {be r : Nat → Nat} {T q : Nat} (hq : q < 7) : cf be r T (1 + q) = r (1 + q) := by
  unfold cf
  rw [if_neg (by omega), if_neg (by omega), if_neg (by omega)]
theorem div_step {x e : Nat} (he : 0 < e) : (x + 60) / e = x / e + (x % e + 60) / e := by
  have h := Nat.div_add_mod x e
  have : x + 60 = (x % e + 60) + e * (x / e) := by omega
  rw [this, Nat.add_mul_div_left _ _ he, Nat.add_comm]
theorem mod_step {x e : Nat} : (x + 60) % e = (x % e + 60) % e := by rw [Nat.mod_add_mod]
theorem cf_15 {be r : Nat → Nat} {T q : Nat} (hq : q < be 0) (h7 : be 0 ≤ 7) : cf be r T (15 + q) = if T = 0 then r (15 + q) else (r (15 + q) + 60 * T) % ee be r q := by
  unfold cf
  rw [if_neg (by omega), if_neg (by omega), if_pos (by omega), show 15 + q - 15 = q by omega]
theorem cf_step {be r : Nat → Nat} {T : Nat} (w : wf be) (h : r 0 + T < 999) : (∀ k, mg be (cf be r T) k = cf be r (T + 1) k) ∧ mgS be (cf be r T) + sm (be 0) (cS be r T) = sm (be 0) (cS be r (T + 1)) := by
  have h7 := w.1
  have hee : ∀ q, q < be 0 → ee be (cf be r T) q = ee be r q := fun q hq => ee_congr w hq (fun j hj => cf_lane hj)
  have h0 : cf be r T 0 = r 0 + T := if_pos rfl
  constructor
  · intro k
    unfold mg
    rw [if_pos (by rw [h0]; exact h)]
    unfold rp
    by_cases e0 : k = 0
    · rw [if_pos e0, e0, h0]; show r 0 + T + 1 = r 0 + (T + 1); omega
    · rw [if_neg e0]
      by_cases c8 : 8 ≤ k ∧ k < 8 + be 0
      · have h15 := cf_15 (r := r) (T := T) (show k - 8 < be 0 by omega) h7
        rw [show 15 + (k - 8) = 7 + k by omega] at h15
        rw [if_pos c8, hee _ (by omega), h15]
        unfold cf
        rw [if_neg e0, if_pos c8, if_neg e0, if_pos c8, if_neg (show ¬ T + 1 = 0 by omega)]
        by_cases c : T = 0
        · subst c; simp
        · rw [if_neg c, if_neg c, show r (7 + k) + 60 * (T + 1) = r (7 + k) + 60 * T + 60 by omega, div_step (x := r (7 + k) + 60 * T) (e := ee be r (k - 8)) (by have := ee_b (r := r) w (show k - 8 < be 0 by omega); omega)]
          omega
      · rw [if_neg c8]
        by_cases c15 : 15 ≤ k ∧ k < 15 + be 0
        · have h15 := cf_15 (r := r) (T := T) (show k - 15 < be 0 by omega) h7
          rw [show 15 + (k - 15) = k by omega] at h15
          rw [if_pos c15, hee _ (by omega), h15]
          unfold cf
          rw [if_neg e0, if_neg c8, if_pos c15, if_neg (show ¬ T + 1 = 0 by omega)]
          by_cases c : T = 0
          · subst c; simp
          · rw [if_neg c, show r k + 60 * (T + 1) = r k + 60 * T + 60 by omega, mod_step (x := r k + 60 * T)]
        · rw [if_neg c15]
          unfold cf
          rw [if_neg e0, if_neg c8, if_neg c15, if_neg e0, if_neg c8, if_neg c15]
  · unfold mgS
    rw [if_pos (by rw [h0]; exact h)]
    have hs : ∀ m, m ≤ be 0 → sm m (fun q => (cf be r T (15 + q) + 60) / ee be (cf be r T) q) + sm m (cS be r T) = sm m (cS be r (T + 1)) := fun m => by
      induction m with
      | zero => intro _; rfl
      | succ m ih =>
        intro hm
        have := ih (by omega)
        simp only [sm]
        have hx : (cf be r T (15 + m) + 60) / ee be (cf be r T) m + cS be r T m = cS be r (T + 1) m := by
          rw [hee m (by omega), cf_15 (by omega) h7]
          unfold cS
          rw [if_neg (show ¬ T + 1 = 0 by omega)]
          by_cases c : T = 0
          · subst c; simp
          · rw [if_neg c, if_neg c, show r (15 + m) + 60 * (T + 1) = r (15 + m) + 60 * T + 60 by omega, div_step (x := r (15 + m) + 60 * T) (e := ee be r m) (by have := ee_b (r := r) w (show m < be 0 by omega); omega)]
            omega
        omega
    exact hs (be 0) (Nat.le_refl _)
