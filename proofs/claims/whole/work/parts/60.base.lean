/-! the mathematics: numbers, reading and writing, folds -/
section
variable {ρ : Type}
theorem a_iN {M : j_M} {a n c : Nat} {k : Int32 → Option ρ} (h : c < n) (hn : n < 2 ^ 31) : a_i M a n (nI c) k = k (j_I M a c) := by
  unfold a_i
  rw [if_neg (nI_in h hn), nI_clamp (by omega)]
theorem a_lN {M : j_M} {a n c : Nat} {k : Int64 → Option ρ} (h : c < n) (hn : n < 2 ^ 31) : a_l M a n (nI c) k = k (j_L M a c) := by
  unfold a_l
  rw [if_neg (nI_in h hn), nI_clamp (by omega)]
theorem w_iN {M : j_M} {a n c : Nat} {x : Int32} {k : j_M → Option ρ} (h : c < n) (hn : n < 2 ^ 31) : w_i M a n (nI c) x k = k (j_sI M a c x) := by
  unfold w_i
  rw [if_neg (nI_in h hn), nI_clamp (by omega)]
theorem w_lN {M : j_M} {a n c : Nat} {x : Int64} {k : j_M → Option ρ} (h : c < n) (hn : n < 2 ^ 31) : w_l M a n (nI c) x k = k (j_sL M a c x) := by
  unfold w_l
  rw [if_neg (nI_in h hn), nI_clamp (by omega)]
theorem d_iN {a b : Nat} {k : Int32 → Option ρ} (h0 : 0 < b) (ha : a < 2 ^ 31) (hb : b < 2 ^ 31) : d_i (nI a) (nI b) k = k (nI (a / b)) := by
  unfold d_i
  rw [if_neg (nI_ne0 h0 hb), pk_div ha h0 hb]
theorem r_iN {a b : Nat} {k : Int32 → Option ρ} (h0 : 0 < b) (ha : a < 2 ^ 31) (hb : b < 2 ^ 31) : r_i (nI a) (nI b) k = k (nI (a % b)) := by
  unfold r_i
  rw [if_neg (nI_ne0 h0 hb), pk_rem ha h0 hb]
theorem j_ckE {M M' : j_M} {k : Option ρ} (h : M'.2.2 = M.2.2) : j_ck M M' k = k := by
  unfold j_ck
  exact if_pos h
theorem tlE {α β : Type} (x : α) (k : α → β) : tl x k = k x := rfl
theorem jnE {α β : Type} (k : α → β) (f : (α → β) → β) : jn k f = f k := rfl
theorem jn2E {α β γ : Type} (k : α → γ → β) (f : (α → γ → β) → β) : jn2 k f = f k := rfl
theorem jn3E {α β γ δ : Type} (k : α → γ → δ → β) (f : (α → γ → δ → β) → β) : jn3 k f = f k := rfl
end
theorem I_sI {M : j_M} {a k b j : Nat} {v : Int32} : j_I (j_sI M a k v) b j = if b = a ∧ j = k then v else j_I M b j := rfl
theorem I_sL {M : j_M} {a k b j : Nat} {v : Int64} : j_I (j_sL M a k v) b j = j_I M b j := rfl
theorem L_sI {M : j_M} {a k b j : Nat} {v : Int32} : j_L (j_sI M a k v) b j = j_L M b j := rfl
theorem L_sL {M : j_M} {a k b j : Nat} {v : Int64} : j_L (j_sL M a k v) b j = if b = a ∧ j = k then v else j_L M b j := rfl
theorem R_sI {M : j_M} {a k b j : Nat} {v : Int32} : j_R (j_sI M a k v) b j = j_R M b j := rfl
theorem R_sL {M : j_M} {a k b j : Nat} {v : Int64} : j_R (j_sL M a k v) b j = j_R M b j := rfl
theorem I_cp {M : j_M} {sa sp da dp n b j : Nat} : j_I (j_cp M sa sp da dp n) b j = if b = da ∧ dp ≤ j ∧ j < dp + n then j_I M sa (sp + (j - dp)) else j_I M b j := rfl
theorem I_fi {M : j_M} {a n b j : Nat} {v : Int32} : j_I (j_fi M a n v) b j = if b = a ∧ j < n then v else j_I M b j := rfl
theorem S_sI {M : j_M} {a k : Nat} {v : Int32} : (j_sI M a k v).2.2 = M.2.2 := rfl
theorem S_sL {M : j_M} {a k : Nat} {v : Int64} : (j_sL M a k v).2.2 = M.2.2 := rfl
/-- sums and greatest ones over the first n -/
def sm : Nat → (Nat → Nat) → Nat
  | 0, _ => 0
  | n + 1, f => sm n f + f n
def mx : Nat → (Nat → Nat) → Nat
  | 0, _ => 0
  | n + 1, f => max (mx n f) (f n)
/-- a set of the first n as a number -/
def ms (n : Nat) (P : Nat → Bool) : Nat := sm n (fun p => if P p then 2 ^ p else 0)
theorem ms_lt (n : Nat) (P : Nat → Bool) : ms n P < 2 ^ n := by
  induction n with
  | zero => exact Nat.one_pos
  | succ n ih =>
    show ms n P + (if P n then 2 ^ n else 0) < 2 ^ (n + 1)
    split <;> omega
theorem or_bit : ∀ p, p < 7 → ∀ k, k < 128 → k < 2 ^ p → nI k ||| ((1 : Int32) <<< (nI p &&& 31)) = nI (k + 2 ^ p) := by decide +kernel
theorem or_0 (x : Int32) : x ||| (0 : Int32) = x := by simp
theorem pow7 {n : Nat} (h : n ≤ 7) : 2 ^ n ≤ 128 := Nat.pow_le_pow_right (by decide) h
/-- who is in a lane, of a row -/
theorem e_members_L {M : j_M} {b a1 n : Nat} {r : Nat → Nat} (hn : j_I M b 9 = nI n) (h7 : n ≤ 7) (hr : ∀ k, k < 22 → j_I M a1 k = nI (r k) ∧ r k < 2 ^ 31) {lane : Nat} (hl : lane < 2 ^ 31) : ∀ d p fuel K, p + d = n → d < fuel → f_X0_members_L5 fuel b a1 M (nI lane) (nI (ms p (fun q => r (1 + q) = lane))) (nI p) K = K (nI (ms n (fun q => r (1 + q) = lane))) (nI n) := by
  intro d
  induction d with
  | zero =>
    intro p fuel K h1 h2
    obtain ⟨fuel, rfl⟩ : ∃ f, fuel = f + 1 := ⟨fuel - 1, by omega⟩
    rw [f_X0_members_L5, hn, if_pos (nI_le (by omega) (by omega)), show p = n by omega]
  | succ d ih =>
    intro p fuel K h1 h2
    obtain ⟨fuel, rfl⟩ : ∃ f, fuel = f + 1 := ⟨fuel - 1, by omega⟩
    rw [f_X0_members_L5, hn, if_neg (nI_ge (by omega) (by omega)), show (1 : Int32) + nI p = nI (1 + p) from nI_add 1 p, a_iN (by omega) (by omega), (hr (1 + p) (by omega)).1, nI_1]
    have hlt := ms_lt p (fun q => r (1 + q) = lane)
    have h128 := pow7 (n := p) (by omega)
    have hs : ms (p + 1) (fun q => r (1 + q) = lane) = ms p (fun q => r (1 + q) = lane) + (if r (1 + p) = lane then 2 ^ p else 0) := by simp [ms, sm]
    by_cases hc : r (1 + p) = lane
    · rw [if_pos (by rw [hc]), or_bit p (by omega) _ (by omega) hlt]
      rw [if_pos hc] at hs
      rw [← hs]
      exact ih (p + 1) fuel K (by omega) (by omega)
    · rw [if_neg (by rw [nI_eq (hr _ (by omega)).2 hl]; exact hc)]
      have hs : ms (p + 1) (fun q => r (1 + q) = lane) = ms p (fun q => r (1 + q) = lane) := by simpa [hc] using hs
      rw [← hs]
      exact ih (p + 1) fuel K (by omega) (by omega)
theorem e_members {M : j_M} {b a1 n : Nat} {r : Nat → Nat} (hn : j_I M b 9 = nI n) (h7 : n ≤ 7) (hr : ∀ k, k < 22 → j_I M a1 k = nI (r k) ∧ r k < 2 ^ 31) {lane : Nat} (hl : lane < 2 ^ 31) : f_X0_members M b a1 (nI lane) = some (nI (ms n (fun q => r (1 + q) = lane))) := by
  unfold f_X0_members
  exact e_members_L hn h7 hr hl n 0 j_fu _ (by omega) (by unfold j_fu; omega)
