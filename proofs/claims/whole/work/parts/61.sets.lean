/-! sets of swimmers -/
theorem ms_s (n : Nat) (P : Nat → Bool) : ms (n + 1) P = ms n P + if P n then 2 ^ n else 0 := rfl
theorem ms_tb {n : Nat} {P : Nat → Bool} (p : Nat) : (ms n P).testBit p = (decide (p < n) && P p) := by
  induction n with
  | zero => simp [ms, sm]
  | succ n ih =>
    rw [ms_s]
    have hl := ms_lt n P
    by_cases hp : P n = true
    · rw [if_pos hp, Nat.add_comm]
      rcases Nat.lt_trichotomy p n with h | h | h
      · rw [Nat.testBit_two_pow_add_gt h, ih]
        simp [h, Nat.lt_succ_of_lt h]
      · subst h
        rw [Nat.testBit_two_pow_add_eq, Nat.testBit_lt_two_pow hl]
        simp [hp]
      · rw [Nat.testBit_lt_two_pow]
        · simp; omega
        · have : 2 ^ (n + 1) ≤ 2 ^ p := Nat.pow_le_pow_right (by decide) h
          omega
    · rw [if_neg hp, Nat.add_zero, ih]
      by_cases h : p = n
      · subst h; simp [hp]
      · have : (p < n + 1) ↔ p < n := by omega
        simp [this]
theorem sm_congr {n : Nat} {f g : Nat → Nat} (h : ∀ p, p < n → f p = g p) : sm n f = sm n g := by
  induction n with
  | zero => rfl
  | succ n ih => simp only [sm]; rw [ih (fun p hp => h p (by omega)), h n (by omega)]
theorem mx_congr {n : Nat} {f g : Nat → Nat} (h : ∀ p, p < n → f p = g p) : mx n f = mx n g := by
  induction n with
  | zero => rfl
  | succ n ih => simp only [mx]; rw [ih (fun p hp => h p (by omega)), h n (by omega)]
theorem sm_le {n : Nat} {f : Nat → Nat} {c : Nat} (h : ∀ p, p < n → f p ≤ c) : sm n f ≤ n * c := by
  induction n with
  | zero => simp [sm]
  | succ n ih =>
    have h1 := ih (fun p hp => h p (by omega))
    have h2 := h n (by omega)
    simp only [sm]; rw [Nat.succ_mul]; omega
theorem mx_le {n : Nat} {f : Nat → Nat} {c : Nat} (h : ∀ p, p < n → f p ≤ c) : mx n f ≤ c := by
  induction n with
  | zero => simp [mx]
  | succ n ih =>
    have h1 := ih (fun p hp => h p (by omega))
    have h2 := h n (by omega)
    simp only [mx]; omega
theorem ms_congr {n : Nat} {P Q : Nat → Bool} (h : ∀ p, p < n → P p = Q p) : ms n P = ms n Q := sm_congr (fun p hp => by rw [h p hp])
theorem ms_lt7 {n : Nat} {P : Nat → Bool} (h : n ≤ 7) : ms n P < 128 := Nat.lt_of_lt_of_le (ms_lt n P) (pow7 h)
theorem has_k : ∀ k, k < 128 → ∀ p, p < 7 → f_X9_has (nI k) (nI p) = if k.testBit p then 1 else 0 := by decide +kernel
theorem has10_k : ∀ k, k < 128 → ∀ p, p < 7 → f_X10_has (nI k) (nI p) = if k.testBit p then 1 else 0 := by decide +kernel
theorem e_has {n p : Nat} {P : Nat → Bool} (h7 : n ≤ 7) (hp : p < n) : f_X9_has (nI (ms n P)) (nI p) = if P p then 1 else 0 := by
  rw [has_k _ (ms_lt7 h7) p (by omega), ms_tb]
  simp [hp]
theorem e_has10 {n p : Nat} {P : Nat → Bool} (h7 : n ≤ 7) (hp : p < n) : f_X10_has (nI (ms n P)) (nI p) = if P p then 1 else 0 := by
  rw [has10_k _ (ms_lt7 h7) p (by omega), ms_tb]
  simp [hp]
theorem no_k : ∀ k, k < 128 → ∀ p, p < 7 → nI k &&& (((1 : Int32) <<< (nI p &&& 31)) ^^^ ((-1) : Int32)) = nI (if k.testBit p then k - 2 ^ p else k) := by decide +kernel
theorem or_k : ∀ k, k < 128 → ∀ p, p < 7 → nI k ||| ((1 : Int32) <<< (nI p &&& 31)) = nI (if k.testBit p then k else k + 2 ^ p) := by decide +kernel
theorem ms_no {n : Nat} {P : Nat → Bool} (p : Nat) : ms n (fun q => P q && !(q == p)) + (if p < n ∧ P p = true then 2 ^ p else 0) = ms n P := by
  induction n with
  | zero => simp [ms, sm]
  | succ n ih =>
    rw [ms_s, ms_s]
    by_cases h : p = n
    · subst h
      have h0 : ms p (fun q => P q && !(q == p)) = ms p P := ms_congr (fun q hq => by simp; omega)
      rw [h0]
      by_cases hp : P p = true <;> simp [hp]
    · have e1 : (p < n + 1) ↔ (p < n) := by omega
      have e2 : (P n && !(n == p)) = P n := by simp; intro _; omega
      rw [e2]
      simp only [e1]
      omega
theorem e_no {n p : Nat} {P : Nat → Bool} (h7 : n ≤ 7) (hp : p < 7) : nI (ms n P) &&& (((1 : Int32) <<< (nI p &&& 31)) ^^^ ((-1) : Int32)) = nI (ms n (fun q => P q && !(q == p))) := by
  rw [no_k _ (ms_lt7 h7) p hp, ms_tb]
  have h := ms_no (n := n) (P := P) p
  congr 1
  by_cases c : p < n ∧ P p = true
  · rw [if_pos c] at h
    rw [if_pos (by simp [c])]
    omega
  · rw [if_neg c] at h
    rw [if_neg (by simpa using c)]
    omega
theorem e_or {n p : Nat} {P : Nat → Bool} (h7 : n ≤ 7) (hp : p < n) : nI (ms n P) ||| ((1 : Int32) <<< (nI p &&& 31)) = nI (ms n (fun q => P q || (q == p))) := by
  rw [or_k _ (ms_lt7 h7) p (by omega), ms_tb]
  have h := ms_no (n := n) (P := fun q => P q || (q == p)) p
  have h2 := ms_no (n := n) (P := P) p
  have e1 : ms n (fun q => (P q || (q == p)) && !(q == p)) = ms n (fun q => P q && !(q == p)) := ms_congr (fun q _ => by cases P q <;> cases (q == p) <;> rfl)
  rw [e1, if_pos (by simp [hp])] at h
  congr 1
  by_cases c : P p = true
  · rw [if_pos ⟨hp, c⟩] at h2
    rw [if_pos (by simp [hp, c])]
    omega
  · rw [if_neg (by simp [c])] at h2
    rw [if_neg (by simp [c])]
    omega
/-- how many, the greatest, how many slower -/
def ct (n : Nat) (P : Nat → Bool) : Nat := sm n (fun q => if P q then 1 else 0)
def sl (n : Nat) (pi : Nat → Nat) (p : Nat) (P : Nat → Bool) : Nat := sm n (fun q => if P q && decide (pi p < pi q) then 1 else 0)
def gp (n : Nat) (pi : Nat → Nat) (P : Nat → Bool) : Nat := mx n (fun q => if P q then pi q else 0)
theorem bc_k : ∀ k, k < 128 → bc (nI k) = nI (sm 7 (fun p => if k.testBit p then 1 else 0)) := by decide +kernel
theorem sm_cut {n m : Nat} {f : Nat → Nat} (h : n ≤ m) (h0 : ∀ p, n ≤ p → f p = 0) : sm m f = sm n f := by
  induction m with
  | zero => rw [show n = 0 by omega]
  | succ m ih =>
    by_cases c : n = m + 1
    · rw [c]
    · simp only [sm]
      rw [h0 m (by omega), ih (by omega), Nat.add_zero]
theorem e_bc {n : Nat} {P : Nat → Bool} (h7 : n ≤ 7) : bc (nI (ms n P)) = nI (ct n P) := by
  rw [bc_k _ (ms_lt7 h7)]
  congr 1
  rw [sm_cut h7 (fun p hp => by rw [ms_tb]; simp; omega)]
  exact sm_congr (fun p hp => by rw [ms_tb]; simp [hp])
