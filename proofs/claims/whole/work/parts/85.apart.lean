/-! who starts, rows that are well, apart -/
def nth : Nat → (Nat → Bool) → Nat → Nat
  | 0, _, _ => 0
  | n + 1, P, j => if P n ∧ ct n P = j then n else nth n P j
theorem ct_s {n : Nat} {P : Nat → Bool} : ct (n + 1) P = ct n P + if P n then 1 else 0 := rfl
theorem ct_mono {P : Nat → Bool} {a b : Nat} (h : a ≤ b) : ct a P ≤ ct b P := by
  induction b with
  | zero => rw [show a = 0 by omega]; exact Nat.le_refl _
  | succ b ih =>
    by_cases e : a = b + 1
    · rw [e]; exact Nat.le_refl _
    · have := ih (by omega)
      rw [ct_s]
      omega
theorem nth_ct {n p : Nat} {P : Nat → Bool} (hp : p < n) (h : P p = true) : nth n P (ct p P) = p := by
  induction n with
  | zero => omega
  | succ n ih =>
    unfold nth
    by_cases e : p = n
    · subst e; rw [if_pos ⟨h, rfl⟩]
    · have h1 := ct_mono (P := P) (show p + 1 ≤ n by omega)
      rw [ct_s, if_pos h] at h1
      rw [if_neg (by omega)]
      exact ih (by omega)
theorem nth_spec {n j : Nat} {P : Nat → Bool} (h : j < ct n P) : nth n P j < n ∧ P (nth n P j) = true ∧ ct (nth n P j) P = j := by
  induction n with
  | zero => exact absurd h (by simp [ct, sm])
  | succ n ih =>
    unfold nth
    by_cases c : P n = true ∧ ct n P = j
    · rw [if_pos c]; exact ⟨by omega, c.1, c.2⟩
    · rw [if_neg c]
      rw [ct_s] at h
      have : j < ct n P := by
        by_cases hp : P n = true
        · rw [if_pos hp] at h
          have : ¬ ct n P = j := fun e => c ⟨hp, e⟩
          omega
        · rw [if_neg hp] at h; omega
      have := ih this
      exact ⟨by omega, this.2⟩
theorem nth_lt {n i j : Nat} {P : Nat → Bool} (hij : i < j) (h : j < ct n P) : nth n P i < nth n P j := by
  have h1 := nth_spec (show i < ct n P by omega)
  have h2 := nth_spec h
  apply Classical.byContradiction
  intro c
  have := ct_mono (P := P) (show nth n P j ≤ nth n P i by omega)
  omega
/-- the model's list of those who start -/
def sM (M : j_M) (R : Nat → Nat) (m : Nat) : j_M := (fun b j => if b = 42 ∧ j < m then nI (R j) else if b = 35 ∧ j = 14 then nI m else M.1 b j, M.2)
section
variable {M : j_M} {R : Nat → Nat} {m : Nat}
theorem I_sMe {j : Nat} (h : j < m) : j_I (sM M R m) 42 j = nI (R j) := if_pos ⟨rfl, h⟩
theorem I_sM14 : j_I (sM M R m) 35 14 = nI m := by
  show (if 35 = 42 ∧ 14 < m then nI (R 14) else if 35 = 35 ∧ 14 = 14 then nI m else M.1 35 14) = _
  rw [if_neg (by omega), if_pos (by omega)]
theorem I_sMn {b j : Nat} (h : b ≠ 42) (h2 : b ≠ 35) : j_I (sM M R m) b j = j_I M b j := by
  show (if b = 42 ∧ j < m then _ else if b = 35 ∧ j = 14 then _ else _) = _
  rw [if_neg (fun q => h q.1), if_neg (fun q => h2 q.1)]
  rfl
theorem sM_nb : nb M (sM M R m) := by
  refine ⟨fun a k hs => ?_, fun _ _ _ => rfl, rfl⟩
  show (if a = 42 ∧ k < m then _ else if a = 35 ∧ k = 14 then _ else _) = _
  rw [if_neg (by unfold scr at hs; omega), if_neg (by unfold scr at hs; omega)]
  rfl
theorem sM_set : j_sI (j_sI (sM M R m) 42 m (nI (R m))) 35 14 (nI (m + 1)) = sM M R (m + 1) := by
  refine Prod.ext ?_ rfl
  funext b j
  show (if b = 35 ∧ j = 14 then nI (m + 1) else if b = 42 ∧ j = m then nI (R m) else if b = 42 ∧ j < m then nI (R j) else if b = 35 ∧ j = 14 then nI m else M.1 b j) = if b = 42 ∧ j < m + 1 then nI (R j) else if b = 35 ∧ j = 14 then nI (m + 1) else M.1 b j
  by_cases h42 : b = 42
  · rw [if_neg (by omega)]
    by_cases e : j = m
    · subst e; rw [if_pos ⟨h42, rfl⟩, if_pos ⟨h42, by omega⟩]
    · rw [if_neg (fun q => e q.2)]
      by_cases c : j < m
      · rw [if_pos ⟨h42, c⟩, if_pos ⟨h42, by omega⟩]
      · rw [if_neg (fun q => c q.2), if_neg (by omega), if_neg (by omega), if_neg (by omega)]
  · by_cases h35 : b = 35 ∧ j = 14
    · rw [if_pos h35, if_neg (by omega), if_pos h35]
    · rw [if_neg h35, if_neg (by omega), if_neg (by omega), if_neg h35, if_neg (by omega), if_neg h35]
end
theorem e_layStart {M : j_M} {be : Nat → Nat} {l : Nat} (h : iM M 36 0 be) (w : wf be) (hl : l < 4) : f_X10_layStart M (nI l) = some (sM M (nth (be 0) (fun q => decide (be (9 + q) = l))) (ct (be 0) (fun q => decide (be (9 + q) = l)))) := by
  have h7 := w.1
  have key : ∀ d p fuel K, p + d = be 0 → d < fuel → f_X10_layStart_L7 fuel (sM M (nth (be 0) (fun q => decide (be (9 + q) = l))) (ct p (fun q => decide (be (9 + q) = l)))) (nI l) (nI p) K = K (nI (be 0)) (sM M (nth (be 0) (fun q => decide (be (9 + q) = l))) (ct (be 0) (fun q => decide (be (9 + q) = l)))) := by
    intro d
    induction d with
    | zero =>
      intro p fuel K h1 h2
      obtain ⟨fuel, rfl⟩ : ∃ f, fuel = f + 1 := ⟨fuel - 1, by omega⟩
      rw [f_X10_layStart_L7, e_many (n := be 0) (by rw [I_sMn (by omega) (by omega)]; exact h.at (by omega)), Option.bind_some, if_pos (nI_le (by omega) (by omega)), show p = be 0 by omega]
    | succ d ih =>
      intro p fuel K h1 h2
      obtain ⟨fuel, rfl⟩ : ∃ f, fuel = f + 1 := ⟨fuel - 1, by omega⟩
      have hp : p < be 0 := by omega
      have hl' := w.lane (p := p) (by omega)
      have hct := ct_le (n := p) (fun q => decide (be (9 + q) = l))
      have ih' := ih (p + 1) fuel K (by omega) (by omega)
      rw [ct_s] at ih'
      rw [f_X10_layStart_L7, e_many (n := be 0) (by rw [I_sMn (by omega) (by omega)]; exact h.at (by omega)), Option.bind_some, if_neg (nI_ge (by omega) (by omega)), i_9, nI_add, a_iN (by omega) (by omega), I_sMn (by omega) (by omega), h.at (by omega)]
      by_cases c : be (9 + p) = l
      · rw [if_pos (by simp [c])] at ih'
        rw [if_pos (by rw [c]), I_sM14, w_iN (by omega) (by omega), tlE, I_sIn (by omega), I_sM14, nI_1, nI_1]
        have hn : nth (be 0) (fun q => decide (be (9 + q) = l)) (ct p (fun q => decide (be (9 + q) = l))) = p := nth_ct (P := fun q => decide (be (9 + q) = l)) hp (by simp [c])
        have := sM_set (M := M) (R := nth (be 0) (fun q => decide (be (9 + q) = l))) (m := ct p (fun q => decide (be (9 + q) = l)))
        rw [hn] at this
        rw [this]
        exact ih'
      · rw [if_neg (by simp [c])] at ih'
        rw [if_neg (by rw [nI_eq (by omega) (by omega)]; exact c), nI_1]
        exact ih'
  have e0 : j_sI M 35 14 (0 : Int32) = sM M (nth (be 0) (fun q => decide (be (9 + q) = l))) 0 := by
    refine Prod.ext ?_ rfl
    funext b j
    show (if b = 35 ∧ j = 14 then 0 else M.1 b j) = if b = 42 ∧ j < 0 then _ else if b = 35 ∧ j = 14 then nI 0 else M.1 b j
    rw [if_neg (show ¬ (b = 42 ∧ j < 0) by omega)]
    rfl
  unfold f_X10_layStart
  rw [tlE, e0]
  have hj : 100000 < j_fu := by unfold j_fu; omega
  revert hj
  generalize j_fu = fu
  intro hj
  exact key (be 0) 0 fu _ (by omega) (by omega)
/-- may stand behind one another -/
theorem mf {g n a b : Nat} (hg : g < 2 ^ 20) (hn : n ≤ 9) (ha : a ≤ 90) (hb : b ≤ 90) : nI g < nI n * (nI a - nI b) ↔ g + n * b < n * a := by
  have h1 : n * a ≤ 9 * 90 := Nat.mul_le_mul hn ha
  have h2 : n * b ≤ 9 * 90 := Nat.mul_le_mul hn hb
  rw [Int32.mul_sub, pk_mul, pk_mul]
  by_cases c : n * b ≤ n * a
  · rw [pk_sub c, nI_ltI (by omega) (by omega)]
    omega
  · have := pk_sneg (a := n * a) (b := n * b) (by omega) (by omega)
    constructor
    · intro x
      have h3 : nI g < 0 := Int32.lt_trans x this
      exact absurd h3 (nI_pos (by omega))
    · intro x; omega
def wlR (pi : Nat → Nat) (g n : Nat) (R : Nat → Nat) : Nat → Bool := fun j => decide (n * pi (R j) ≤ g + n * pi (R (j + 1)))
theorem e_isRowWell {M : j_M} {n0 m g n : Nat} {ki pi R : Nat → Nat} (h : mK M n0 ki pi) (hm : m ≤ 7) (h14 : j_I M 35 14 = nI m) (hR : ∀ k, k < m → j_I M 43 k = nI (R k) ∧ R k < n0) (hg : g < 2 ^ 20) (hn : n ≤ 9) : f_X10_isRowWell M (nI g) (nI n) = some (fl (al (m - 1) (wlR pi g n R))) := by
  have h7 := h.2.1
  have key : ∀ d k fuel K, k + 1 + d = m → d < fuel → f_X10_isRowWell_L5 fuel M (nI g) (nI n) (fl (al k (wlR pi g n R))) (nI (k + 1)) K = K (fl (al (m - 1) (wlR pi g n R))) (nI m) := by
    intro d
    induction d with
    | zero =>
      intro k fuel K h1 h2
      obtain ⟨fuel, rfl⟩ : ∃ f, fuel = f + 1 := ⟨fuel - 1, by omega⟩
      rw [f_X10_isRowWell_L5, h14, if_pos (nI_le (by omega) (by omega)), show m - 1 = k by omega, show k + 1 = m by omega]
    | succ d ih =>
      intro k fuel K h1 h2
      obtain ⟨fuel, rfl⟩ : ∃ f, fuel = f + 1 := ⟨fuel - 1, by omega⟩
      have ih' := ih (k + 1) fuel K (by omega) (by omega)
      rw [show al (k + 1) (wlR pi g n R) = (al k (wlR pi g n R) && wlR pi g n R k) from rfl] at ih'
      rw [f_X10_isRowWell_L5, h14, if_neg (nI_ge (by omega) (by omega)), nI_1]
      cases ha : al k (wlR pi g n R) with
      | false =>
        rw [ha] at ih'
        rw [if_pos (show fl false = 0 from rfl)]
        exact ih'
      | true =>
        rw [ha, Bool.true_and] at ih'
        have r1 := hR (k + 1) (by omega)
        have r0 := hR k (by omega)
        have p1 := (h.2.2 _ r1.2).2.2.2.2
        have p0 := (h.2.2 _ r0.2).2.2.2.2
        have m1 : n * pi (R (k + 1)) ≤ 9 * 90 := Nat.mul_le_mul hn p1
        have m0 : n * pi (R k) ≤ 9 * 90 := Nat.mul_le_mul hn p0
        rw [if_neg (by decide), a_iN (by omega) (by omega), r1.1, e_paceOf h r1.2, Option.bind_some, nI_pred, a_iN (by omega) (by omega), r0.1, e_paceOf h r0.2, Option.bind_some, pk_mul, nI_add, pk_mul]
        by_cases c : n * pi (R k) ≤ g + n * pi (R (k + 1))
        · rw [show wlR pi g n R k = true from decide_eq_true c] at ih'
          rw [if_neg (nI_nlt c (by omega))]
          exact ih'
        · rw [show wlR pi g n R k = false from decide_eq_false c] at ih'
          rw [if_pos (nI_lt (by omega) (by omega))]
          exact ih'
  unfold f_X10_isRowWell
  have hj : 100000 < j_fu := by unfold j_fu; omega
  revert hj
  generalize j_fu = fu
  intro hj
  by_cases c : m = 0
  · obtain ⟨f, rfl⟩ : ∃ f, fu = f + 1 := ⟨fu - 1, by omega⟩
    rw [f_X10_isRowWell_L5, h14, c, if_pos (by decide)]
    rfl
  · have := key (m - 1) 0 fu (fun (y12 : Int32) (y13 : Int32) => (z_b y12 (some y12))) (by omega) (by omega)
    rw [zb_fl] at this
    exact this
def dR (pi : Nat → Nat) (n : Nat) (R : Nat → Nat) : Nat → Nat := fun j => n * pi (R j) - n * pi (R (j + 1))
theorem al_dR {pi R : Nat → Nat} {g n m : Nat} : al m (wlR pi g n R) = true ↔ mx m (dR pi n R) ≤ g := by
  induction m with
  | zero => exact ⟨fun _ => Nat.zero_le _, fun _ => rfl⟩
  | succ m ih =>
    simp only [al, Bool.and_eq_true, ih, mx, wlR, decide_eq_true_eq, dR]
    omega
/-- the model's row -/
def rM (M : j_M) (R : Nat → Nat) (m : Nat) : j_M := (fun b j => if b = 43 ∧ j < m then nI (R j) else M.1 b j, M.2)
section
variable {M : j_M} {R : Nat → Nat} {m : Nat}
theorem I_rMe {j : Nat} (h : j < m) : j_I (rM M R m) 43 j = nI (R j) := if_pos ⟨rfl, h⟩
theorem I_rMn {b j : Nat} (h : b ≠ 43) : j_I (rM M R m) b j = j_I M b j := if_neg (fun q => h q.1)
theorem rM_0 : rM M R 0 = M := by
  refine Prod.ext ?_ rfl
  funext b j
  show (if b = 43 ∧ j < 0 then nI (R j) else M.1 b j) = M.1 b j
  rw [if_neg (by omega)]
theorem rM_set : j_sI (rM M R m) 43 m (nI (R m)) = rM M R (m + 1) := by
  refine Prod.ext ?_ rfl
  funext b j
  show (if b = 43 ∧ j = m then nI (R m) else if b = 43 ∧ j < m then nI (R j) else M.1 b j) = if b = 43 ∧ j < m + 1 then nI (R j) else M.1 b j
  by_cases h : b = 43
  · by_cases e : j = m
    · subst e; rw [if_pos ⟨h, rfl⟩, if_pos ⟨h, by omega⟩]
    · rw [if_neg (fun q => e q.2)]
      by_cases c : j < m
      · rw [if_pos ⟨h, c⟩, if_pos ⟨h, by omega⟩]
      · rw [if_neg (fun q => c q.2), if_neg (by omega)]
  · rw [if_neg (fun q => h q.1), if_neg (fun q => h q.1), if_neg (fun q => h q.1)]
theorem rM_nb : nb M (rM M R m) := ⟨fun a k hs => I_rMn (by unfold scr at hs; omega), fun _ _ _ => rfl, rfl⟩
theorem iM.rM {be : Nat → Nat} (h : iM M 36 0 be) : iM (rM M R m) 36 0 be := h.to (fun k => I_rMn (by omega))
theorem iM.sM {be : Nat → Nat} (h : iM M 36 0 be) : iM (sM M R m) 36 0 be := h.to (fun k => I_sMn (by omega) (by omega))
theorem e_apart33 {x2 : Int32} (hm : m ≤ 7) (fuel : Nat) (hfu : 100 < fuel) (K : Int32 → j_M → Option (Int32 × j_M)) : f_X10_apart_L33 fuel (sM M R m) x2 (0 : Int32) K = K (nI m) (rM (sM M R m) R m) := by
  have key : ∀ d k fuel K, k + d = m → d < fuel → f_X10_apart_L33 fuel (rM (sM M R m) R k) x2 (nI k) K = K (nI m) (rM (sM M R m) R m) := by
    intro d
    induction d with
    | zero =>
      intro k fuel K h1 h2
      obtain ⟨fuel, rfl⟩ : ∃ f, fuel = f + 1 := ⟨fuel - 1, by omega⟩
      rw [f_X10_apart_L33, I_rMn (by omega), I_sM14, if_pos (nI_le (by omega) (by omega)), show k = m by omega]
    | succ d ih =>
      intro k fuel K h1 h2
      obtain ⟨fuel, rfl⟩ : ∃ f, fuel = f + 1 := ⟨fuel - 1, by omega⟩
      rw [f_X10_apart_L33, I_rMn (by omega), I_sM14, if_neg (nI_ge (by omega) (by omega)), a_iN (by omega) (by omega), I_rMn (by omega), I_sMe (by omega), w_iN (by omega) (by omega), rM_set, nI_1]
      exact ih (k + 1) fuel K (by omega) (by omega)
  have e := key m 0 fuel K (by omega) (by omega)
  rw [rM_0] at e
  exact e
theorem e_apart61 {n0 n : Nat} {ki pi : Nat → Nat} (h : mK M n0 ki pi) (hm : m ≤ 7) (h14 : j_I M 35 14 = nI m) (hR : ∀ k, k < m → j_I M 43 k = nI (R k) ∧ R k < n0) (hn : n ≤ 9) (fuel : Nat) (hfu : 1000 < fuel) : f_X10_apart_L61 fuel M (nI n) (0 : Int32) (fun (y28 : Int32) => (some (((-1) : Int32), M))) = (if mx (m - 1) (dR pi n R) ≤ 600 then some (nI (mx (m - 1) (dR pi n R)), M) else some (-1, M)) := by
  have key : ∀ d g fuel, g + d = 601 → d < fuel → g ≤ mx (m - 1) (dR pi n R) → f_X10_apart_L61 fuel M (nI n) (nI g) (fun (y28 : Int32) => (some (((-1) : Int32), M))) = (if mx (m - 1) (dR pi n R) ≤ 600 then some (nI (mx (m - 1) (dR pi n R)), M) else some (-1, M)) := by
    intro d
    induction d with
    | zero =>
      intro g fuel h1 h2 h3
      obtain ⟨fuel, rfl⟩ : ∃ f, fuel = f + 1 := ⟨fuel - 1, by omega⟩
      rw [f_X10_apart_L61, i_600, if_pos (nI_lt (by omega) (by omega)), if_neg (by omega)]
    | succ d ih =>
      intro g fuel h1 h2 h3
      obtain ⟨fuel, rfl⟩ : ∃ f, fuel = f + 1 := ⟨fuel - 1, by omega⟩
      rw [f_X10_apart_L61, i_600, if_neg (nI_nlt (by omega) (by omega)), e_isRowWell h hm h14 hR (by omega) hn, Option.bind_some]
      by_cases c : mx (m - 1) (dR pi n R) ≤ g
      · rw [show al (m - 1) (wlR pi g n R) = true from al_dR.mpr c, fl_t, if_neg (by decide), if_pos (by omega), show mx (m - 1) (dR pi n R) = g by omega]
      · rw [show al (m - 1) (wlR pi g n R) = false from Bool.eq_false_iff.mpr (fun x => c (al_dR.mp x)), fl_f, if_pos rfl, nI_1]
        exact ih (g + 1) fuel (by omega) (by omega) (by omega)
  exact key 601 0 fuel (by omega) (by omega) (by omega)
end
theorem dR_le {pi R : Nat → Nat} {n m n0 : Nat} (hn : n ≤ 9) (hp : ∀ k, k < m → R k < n0) (hpi : ∀ q, q < n0 → pi q ≤ 90) : mx (m - 1) (dR pi n R) ≤ 810 := mx_le (fun k hk => by
  have h1 := hpi _ (hp k (by omega))
  have : n * pi (R k) ≤ 9 * 90 := Nat.mul_le_mul hn h1
  unfold dR
  omega)
theorem e_leastApart {M : j_M} {be : Nat → Nat} {n : Nat} {P : Nat → Bool} (h : iB M 17 be) (w : wf be) (hn : n ≤ 9) : f_X9_leastApart M (nI (ms (be 0) P)) (nI n) = some (nI (mx (ct (be 0) P - 1) (dR (fun p => be (37 + p)) n (nth (be 0) P)))) := by
  have h7 := w.1
  have hpi : ∀ q, q < be 0 → j_I M (17 + 4) q = nI (be (37 + q)) ∧ be (37 + q) ≤ 90 := fun q hq => ⟨(h.2.2.2.2.1 q hq).2, (w.2.2.2.2.2.1 q hq).2.2⟩
  have key : ∀ d p fuel K, p + d = be 0 → d < fuel → ∃ y z, f_X9_leastApart_L8 fuel M (nI (ms (be 0) P)) (nI n) (nI (mx (ct p P - 1) (dR (fun p => be (37 + p)) n (nth (be 0) P)))) (if ct p P = 0 then -1 else nI (nth (be 0) P (ct p P - 1))) (nI p) K = K (nI (mx (ct (be 0) P - 1) (dR (fun p => be (37 + p)) n (nth (be 0) P)))) y z := by
    intro d
    induction d with
    | zero =>
      intro p fuel K h1 h2
      obtain ⟨fuel, rfl⟩ : ∃ f, fuel = f + 1 := ⟨fuel - 1, by omega⟩
      refine ⟨(if ct (be 0) P = 0 then -1 else nI (nth (be 0) P (ct (be 0) P - 1))), nI (be 0), ?_⟩
      rw [f_X9_leastApart_L8, h.1, if_pos (nI_le (by omega) (by omega)), show p = be 0 by omega]
    | succ d ih =>
      intro p fuel K h1 h2
      obtain ⟨fuel, rfl⟩ : ∃ f, fuel = f + 1 := ⟨fuel - 1, by omega⟩
      have hp : p < be 0 := by omega
      obtain ⟨y, z, ih'⟩ := ih (p + 1) fuel K (by omega) (by omega)
      refine ⟨y, z, ?_⟩
      rw [ct_s] at ih'
      rw [f_X9_leastApart_L8, h.1, if_neg (nI_ge (by omega) (by omega)), tlE, e_has h7 hp, nI_1]
      by_cases c : P p = true
      · have hnp := nth_ct hp c
        rw [if_pos c, if_neg (show ¬ ct p P + 1 = 0 by omega), show ct p P + 1 - 1 = ct p P by omega, hnp] at ih'
        rw [if_pos c, if_neg (by decide)]
        by_cases c0 : ct p P = 0
        · rw [if_pos c0, if_pos rfl]
          rw [c0] at ih' ⊢
          exact ih'
        · have hlt : ct p P - 1 < ct (be 0) P := by have := ct_mono (P := P) (show p ≤ be 0 by omega); omega
          have ha := nth_spec hlt
          have pa := hpi _ ha.1
          have pp := hpi p hp
          obtain ⟨k, hk⟩ : ∃ k, ct p P = k + 1 := ⟨ct p P - 1, by omega⟩
          have hd : mx (k + 1) (dR (fun p => be (37 + p)) n (nth (be 0) P)) = max (mx k (dR (fun p => be (37 + p)) n (nth (be 0) P))) (n * be (37 + nth (be 0) P k) - n * be (37 + p)) := by
            show max _ (dR (fun p => be (37 + p)) n (nth (be 0) P) k) = _
            unfold dR
            rw [← hk, hnp]
          have hle : mx k (dR (fun p => be (37 + p)) n (nth (be 0) P)) ≤ 810 := by
            have := dR_le (R := nth (be 0) P) (pi := fun p => be (37 + p)) (n := n) (m := k + 1) (n0 := be 0) hn (fun j hj => (nth_spec (by have := ct_mono (P := P) (show p ≤ be 0 by omega); omega)).1) (fun q hq => (hpi q hq).2)
            exact this
          rw [hk] at ih' ⊢
          rw [show k + 1 - 1 = k by omega]
          rw [hk, show k + 1 - 1 = k by omega] at pa ha
          have m1 : n * be (37 + nth (be 0) P k) ≤ 9 * 90 := Nat.mul_le_mul hn pa.2
          have m2 : n * be (37 + p) ≤ 9 * 90 := Nat.mul_le_mul hn pp.2
          rw [if_neg (show ¬ k + 1 = 0 by omega), if_neg (nI_m1 (by omega)), a_iN (by omega) (by omega), pa.1, a_iN (by omega) (by omega), pp.1, tlE]
          have hx : (if nI (mx k (dR (fun p => be (37 + p)) n (nth (be 0) P))) < nI n * (nI (be (37 + nth (be 0) P k)) - nI (be (37 + p))) then nI n * (nI (be (37 + nth (be 0) P k)) - nI (be (37 + p))) else nI (mx k (dR (fun p => be (37 + p)) n (nth (be 0) P)))) = nI (mx (k + 1) (dR (fun p => be (37 + p)) n (nth (be 0) P))) := by
            rw [hd]
            by_cases c2 : mx k (dR (fun p => be (37 + p)) n (nth (be 0) P)) + n * be (37 + p) < n * be (37 + nth (be 0) P k)
            · rw [if_pos ((mf (by omega) hn pa.2 pp.2).mpr c2), Int32.mul_sub, pk_mul, pk_mul, pk_sub (by omega), Nat.max_eq_right (by omega)]
            · rw [if_neg (fun x => c2 ((mf (by omega) hn pa.2 pp.2).mp x)), Nat.max_eq_left (by omega)]
          rw [hx]
          exact ih'
      · rw [if_neg c, Nat.add_zero] at ih'
        rw [if_neg c, if_pos rfl]
        exact ih'
  unfold f_X9_leastApart
  have hj : 100000 < j_fu := by unfold j_fu; omega
  revert hj
  generalize j_fu = fu
  intro hj
  obtain ⟨y, z, e⟩ := key (be 0) 0 fu (fun (y12 : Int32) (y13 : Int32) (y14 : Int32) => (some y12)) (by omega) (by omega)
  exact e
theorem op_apart (a1 a2 : Int32) : lw_ok Inv (fun M => f_X9_apart M a1 a2) (fun M => f_X10_apart M a1 a2) := by
  refine okI (fun M h => ?_)
  obtain ⟨be, b1, b2, b3⟩ := h.2.2.2.2.1
  rcases rg (x := a1) (lo := 0) (hi := 3) (lo' := 0) (hi' := 3) 0 3 rfl rfl rfl rfl (by omega) (by omega) with ⟨p0, q0⟩ | ⟨l, m0, l0, rfl, p0, q0⟩
  · refine ok_ref h 0 (by omega) (v := ((-2) : Int32)) ?_ ?_
    · show f_X9_apart M a1 a2 = _
      unfold f_X9_apart f_X9_isLane
      try simp only [tlE]
      rw [p0, if_pos rfl, bind_bad]
    · show f_X10_apart _ a1 a2 = _
      unfold f_X10_apart f_X10_isLane
      try simp only [tlE]
      rw [q0, if_pos rfl, bind_bad10]
  · skip
    rcases rg (x := a2) (lo := 1) (hi := 9) (lo' := 1) (hi' := 9) 1 9 rfl rfl rfl rfl (by omega) (by omega) with ⟨p1, q1⟩ | ⟨n, m1, l1, rfl, p1, q1⟩
    · refine ok_ref h 0 (by omega) (v := ((-2) : Int32)) ?_ ?_
      · show f_X9_apart M (nI l) a2 = _
        unfold f_X9_apart f_X9_isLane
        try simp only [tlE]
        rw [p0, if_neg (by decide), p1, if_pos rfl, bind_bad]
      · show f_X10_apart _ (nI l) a2 = _
        unfold f_X10_apart f_X10_isLane
        try simp only [tlE]
        rw [q0, if_neg (by decide), q1, if_pos rfl, bind_bad10]
    · skip
      have h7 := b3.1
      have hct := ct_le (n := be 0) (fun q => decide (be (9 + q) = l))
      have hm9 := e_members b1.1 b3.1 (b1.row b3) (lane := l) (by omega)
      rw [row_mem] at hm9
      have hpi : ∀ q, q < be 0 → be (37 + q) ≤ 90 := fun q hq => (b3.2.2.2.2.2.1 q hq).2.2
      have hD := dR_le (R := nth (be 0) (fun q => decide (be (9 + q) = l))) (pi := fun p => be (37 + p)) (n := n) (m := ct (be 0) (fun q => decide (be (9 + q) = l))) (n0 := be 0) l1 (fun j hj => (nth_spec hj).1) hpi
      refine ok_nb h (v := if mx (ct (be 0) (fun q => decide (be (9 + q) = l)) - 1) (dR (fun p => be (37 + p)) n (nth (be 0) (fun q => decide (be (9 + q) = l)))) ≤ 600 then nI (mx (ct (be 0) (fun q => decide (be (9 + q) = l)) - 1) (dR (fun p => be (37 + p)) n (nth (be 0) (fun q => decide (be (9 + q) = l))))) else -1) (M1 := M) (M2 := rM (sM M (nth (be 0) (fun q => decide (be (9 + q) = l))) (ct (be 0) (fun q => decide (be (9 + q) = l)))) (nth (be 0) (fun q => decide (be (9 + q) = l))) (ct (be 0) (fun q => decide (be (9 + q) = l)))) ?_ nb.rf ?_ (sM_nb.tr rM_nb)
      · show f_X9_apart M _ _ = _
        unfold f_X9_apart f_X9_isLane
        try simp only [tlE]
        rw [p0, if_neg (by decide), p1, if_neg (by decide)]
        rw [hm9, Option.bind_some, e_leastApart b1 b3 l1, Option.bind_some, i_600]
        by_cases c : mx (ct (be 0) (fun q => decide (be (9 + q) = l)) - 1) (dR (fun p => be (37 + p)) n (nth (be 0) (fun q => decide (be (9 + q) = l)))) ≤ 600
        · rw [if_pos (nI_le c (by omega)), if_pos c]
        · rw [if_neg (nI_ge (by omega) (by omega)), if_neg c]
      · show f_X10_apart M _ _ = _
        unfold f_X10_apart f_X10_isLane
        try simp only [tlE]
        rw [q0, if_neg (by decide), q1, if_neg (by decide)]
        rw [e_layStart b2 b3 (by omega), Option.bind_some, j_ckE (by rfl), e_apart33 (by omega) j_fu (by unfold j_fu; omega), e_apart61 (Inv.mK b2.sM.rM b3) (by omega) (by rw [I_rMn (by omega), I_sM14]) (fun k hk => ⟨I_rMe hk, (nth_spec hk).1⟩) l1 j_fu (by unfold j_fu; omega)]
        split <;> rfl
