/-! arguments in and out of their bounds, refusals -/
theorem cmp_neg {x y : Int64} : lg_cmp x y < 0 ↔ x.toInt < y.toInt := by
  unfold lg_cmp
  by_cases h : y.toInt < x.toInt
  · rw [if_pos (Int64.lt_iff_toInt_lt.mpr h)]
    exact ⟨fun q => absurd q (by decide), fun q => by omega⟩
  · rw [if_neg (fun q => h (Int64.lt_iff_toInt_lt.mp q))]
    by_cases g : x = y
    · rw [if_pos g, g]
      exact ⟨fun q => absurd q (by decide), fun q => by omega⟩
    · rw [if_neg g]
      have : x.toInt ≠ y.toInt := fun q => g (Int64.toInt_inj.mp q)
      exact ⟨fun q => by omega, fun q => by decide⟩
theorem cmp_pos {x y : Int64} : 0 < lg_cmp x y ↔ y.toInt < x.toInt := by
  unfold lg_cmp
  by_cases h : y.toInt < x.toInt
  · rw [if_pos (Int64.lt_iff_toInt_lt.mpr h)]
    exact ⟨fun q => h, fun q => by decide⟩
  · rw [if_neg (fun q => h (Int64.lt_iff_toInt_lt.mp q))]
    by_cases g : x = y
    · rw [if_pos g]
      exact ⟨fun q => absurd q (by decide), fun q => absurd q h⟩
    · rw [if_neg g]
      exact ⟨fun q => absurd q (by decide), fun q => absurd q h⟩
theorem rg {x lo hi : Int32} {lo' hi' : Int64} (a b : Nat) (h1 : lo = nI a) (h2 : hi = nI b) (h3 : lo' = lN a) (h4 : hi' = lN b) (hab : a ≤ b) (hb : b < 1000000) : (f_X9_within x lo hi = 0 ∧ f_X10_in x.toInt64 lo' hi' = 0) ∨ ∃ j, a ≤ j ∧ j ≤ b ∧ x = nI j ∧ f_X9_within x lo hi = 1 ∧ f_X10_in x.toInt64 lo' hi' = 1 := by
  subst h1 h2 h3 h4
  have ea : (nI a).toInt = a := nI_toInt (by omega)
  have eb : (nI b).toInt = b := nI_toInt (by omega)
  have ea' : (lN a).toInt = a := pk_lT (by omega)
  have eb' : (lN b).toInt = b := pk_lT (by omega)
  unfold f_X9_within f_X10_in
  simp only [cmp_neg, cmp_pos]
  simp only [Int32.lt_iff_toInt_lt, Int32.toInt_toInt64, ea, eb, ea', eb']
  by_cases c1 : x.toInt < a
  · left; simp [c1]
  · by_cases c2 : (b : Int) < x.toInt
    · left; simp [c1, c2]
    · right
      refine ⟨x.toInt.toNat, by omega, by omega, ?_, by simp [c1, c2], by simp [c1, c2]⟩
      apply Int32.toInt_inj.mp
      rw [nI_toInt (by omega)]
      omega
theorem one_m {n : Nat} (h : n ≤ 7) : (nI n - (1 : Int32)).toInt64.toInt = (n : Int) - 1 := by
  rw [Int32.toInt_toInt64]
  exact pk_sub_toInt (b := 1) (by omega) (by omega)
theorem rgOne {M : j_M} {x : Int32} {n : Nat} (h1 : j_I M 17 9 = nI n) (h2 : j_I M 36 0 = nI n) (h7 : n ≤ 7) : (f_X9_isOne M x = 0 ∧ f_X10_isOne M x = some 0) ∨ ∃ j, j < n ∧ x = nI j ∧ f_X9_isOne M x = 1 ∧ f_X10_isOne M x = some 1 := by
  unfold f_X9_isOne f_X10_isOne f_X10_in
  rw [e_many h2, Option.bind_some, h1]
  simp only [tlE, cmp_neg, cmp_pos]
  simp only [Int32.lt_iff_toInt_lt, Int32.le_iff_toInt_le, Int32.toInt_toInt64, nI_toInt (show n < 2 ^ 31 by omega)]
  have e1 : (nI n - (1 : Int32)).toInt = (n : Int) - 1 := pk_sub_toInt (b := 1) (by omega) (by omega)
  have e0 : (0 : Int32).toInt = 0 := rfl
  have e0' : (0 : Int64).toInt = 0 := rfl
  rw [e1, e0, e0']
  by_cases c1 : x.toInt < 0
  · left; simp [c1]
  · by_cases c2 : (n : Int) ≤ x.toInt
    · left
      have : (n : Int) - 1 < x.toInt := by omega
      simp [c1, c2, this]
    · right
      have : ¬ (n : Int) - 1 < x.toInt := by omega
      refine ⟨x.toInt.toNat, by omega, ?_, by simp [c1, c2], by simp [c1, this]⟩
      apply Int32.toInt_inj.mp
      rw [nI_toInt (by omega)]
      omega
theorem e_bad {M : j_M} : f_X9_bad M = some (-2, j_sI M 0 9 (j_I M 0 9 + 1)) := rfl
theorem e_no9 {M : j_M} : f_X9_no M = some (-3, j_sI M 0 10 (j_I M 0 10 + 1)) := rfl
theorem e_full {M : j_M} : f_X9_full M = some (-4, j_sI M 0 11 (j_I M 0 11 + 1)) := rfl
theorem e_bad10 {M : j_M} {v : Int32} : f_X10_bad M v = some (v, j_sI M 39 0 (j_I M 39 0 + 1)) := by
  unfold f_X10_bad
  rw [show (0 : Int32) = nI 0 from rfl, a_iN (by omega) (by omega), w_iN (by omega) (by omega)]
theorem e_no10 {M : j_M} : f_X10_no M = some (-3, j_sI M 39 1 (j_I M 39 1 + 1)) := by
  unfold f_X10_no
  rw [show (1 : Int32) = nI 1 from rfl, a_iN (by omega) (by omega), w_iN (by omega) (by omega)]
theorem e_full10 {M : j_M} : f_X10_full M = some (-4, j_sI M 39 2 (j_I M 39 2 + 1)) := by
  unfold f_X10_full
  rw [show (2 : Int32) = nI 2 from rfl, a_iN (by omega) (by omega), w_iN (by omega) (by omega)]
/-- both count a refusal -/
theorem Inv.ref {M : j_M} (h : Inv M) {k : Nat} (hk : k < 3) : Inv (j_sI (j_sI M 0 (9 + k) (j_I M 0 (9 + k) + 1)) 39 k (j_I (j_sI M 0 (9 + k) (j_I M 0 (9 + k) + 1)) 39 k + 1)) := by
  obtain ⟨a, c, f, ⟨z, ta, t⟩, ⟨be, b1, b2, b3⟩, g0, g1⟩ := h
  have hI : ∀ a j, a ≠ 0 → a ≠ 39 → j_I (j_sI (j_sI M 0 (9 + k) (j_I M 0 (9 + k) + 1)) 39 k (j_I (j_sI M 0 (9 + k) (j_I M 0 (9 + k) + 1)) 39 k + 1)) a j = j_I M a j := fun a j h1 h2 => by
    rw [I_sI, if_neg (fun q => h2 q.1), I_sI, if_neg (fun q => h1 q.1)]
  have hG : ∀ i, iG M i → iG (j_sI (j_sI M 0 (9 + k) (j_I M 0 (9 + k) + 1)) 39 k (j_I (j_sI M 0 (9 + k) (j_I M 0 (9 + k) + 1)) 39 k + 1)) i := fun i g => by
    rcases g with ⟨h1, h2⟩ | ⟨b, be, h0, hb, h1, h2, h3, h4, h5⟩
    · exact Or.inl ⟨h1, by rw [hI _ _ (by omega) (by omega)]; exact h2⟩
    · exact Or.inr ⟨b, be, h0, hb, h1, by rw [hI _ _ (by omega) (by omega)]; exact h2, h3.to (fun a k _ _ => hI a k (by omega) (by omega)), fun k hk => by rw [hI _ _ (by omega) (by omega)]; exact h4 k hk, h5⟩
  refine ⟨a, ?_, f, ⟨z, ta, t.1, by rw [hI _ _ (by omega) (by omega)]; exact t.2.1, by rw [hI _ _ (by omega) (by omega)]; exact t.2.2.1, fun k hk => by rw [hI _ _ (by omega) (by omega), hI _ _ (by omega) (by omega)]; exact t.2.2.2 k hk⟩, ⟨be, b1.to (fun a k _ _ => hI a k (by omega) (by omega)), fun k hk => by rw [hI _ _ (by omega) (by omega)]; exact b2 k hk, b3⟩, hG 0 g0, hG 1 g1⟩
  obtain ⟨c1, c2, c3⟩ := c
  rcases (show k = 0 ∨ k = 1 ∨ k = 2 by omega) with rfl | rfl | rfl <;> simp [iC, I_sI, c1, c2, c3]
