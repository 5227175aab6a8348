/-! what holds between two calls: the class's memory and the model's tell the same bath -/
def rowOf (be : Nat → Nat) : Nat → Nat := fun k => if k = 0 then be 1 else be (8 + k)
def pasOf (be : Nat → Nat) (u : Nat) : Nat → Nat := fun k => if k = 0 then be (74 + 22 * u + 21) else be (73 + 22 * u + k)
def iB (M : j_M) (b : Nat) (be : Nat → Nat) : Prop :=
  j_I M b 9 = nI (be 0) ∧ j_I M b 10 = nI (be 3) ∧ j_I M b 11 = nI (be 2) ∧
  (∀ l, l < 4 → j_I M (b + 1) l = nI (be (4 + l)) ∧ j_I M (b + 2) l = nI (be 8 / 2 ^ l % 2)) ∧
  (∀ p, p < be 0 → j_I M (b + 3) p = nI (be (30 + p)) ∧ j_I M (b + 4) p = nI (be (37 + p))) ∧
  (∀ k, k < 22 → j_I M (b + 5) k = nI (rowOf be k)) ∧
  (∀ u, u < be 3 → ∀ k, k < 22 → j_I M (b + 6) (22 * u + k) = nI (pasOf be u k)) ∧
  (∀ i, i < 5 * be 2 → j_I M (b + 7) i = nI (be (44 + i)))
def iM (M : j_M) (a off : Nat) (be : Nat → Nat) : Prop := ∀ k, k < 250 → j_I M a (off + k) = nI (be k)
/-- a row: n swimmers, the shut lanes, the minute, 21 numbers -/
def wr (n sh mi : Nat) (f : Nat → Nat) : Prop :=
  mi ≤ 999 ∧ (∀ p, p < 7 → f p < 4 ∧ f (7 + p) ≤ 8 * mi ∧ f (14 + p) ≤ 107) ∧ (∀ p, p < n → sh / 2 ^ f p % 2 = 0) ∧ (∀ p, n ≤ p → p < 7 → f (7 + p) = 0 ∧ f (14 + p) = 0)
def wf (be : Nat → Nat) : Prop :=
  be 0 ≤ 7 ∧ be 2 ≤ 6 ∧ be 3 ≤ 8 ∧ be 8 < 16 ∧ (∀ l, l < 4 → be (4 + l) ≤ 2) ∧
  (∀ p, p < be 0 → be (30 + p) ≤ 5 ∧ 20 ≤ be (37 + p) ∧ be (37 + p) ≤ 90) ∧
  wr (be 0) (be 8) (be 1) (fun k => be (9 + k)) ∧
  (∀ u, u < be 3 → wr (be 0) (be 8) (be (74 + 22 * u + 21)) (fun k => be (74 + 22 * u + k))) ∧
  (∀ i, i < be 2 → be (44 + 5 * i) ≤ 7 ∧ be (44 + 5 * i + 1) ≤ 200 ∧ be (44 + 5 * i + 2) ≤ 90 ∧ be (44 + 5 * i + 3) ≤ 6 ∧ be (44 + 5 * i + 4) ≤ 6)
def iT (M : j_M) (z : Nat) (ta : Nat → Nat) : Prop := z ≤ 150 ∧ j_I M 7 1 = nI z ∧ j_I M 35 19 = nI z ∧ ∀ k, k < z → j_I M 8 k = nI (ta k) ∧ j_I M 48 k = nI (ta k) ∧ ta k ≤ 127
def iC (M : j_M) : Prop := j_I M 0 9 = j_I M 39 0 ∧ j_I M 0 10 = j_I M 39 1 ∧ j_I M 0 11 = j_I M 39 2
def iF (M : j_M) : Prop := j_L M 0 7 = j_L M 35 4 ∧ j_L M 0 8 = j_L M 35 5
def iG (M : j_M) (i : Nat) : Prop := (j_R M 1 i = none ∧ j_I M 38 i = 0) ∨ ∃ (b : Nat) (be : Nat → Nat), (b = 51 ∨ b = 60) ∧ b < j_N M ∧ j_R M 1 i = some b ∧ j_I M 38 i = 1 ∧ iB M b be ∧ iM M 37 (250 * i) be ∧ wf be
def iN (M : j_M) : Prop := j_N M = 51 + (if j_R M 1 0 = none then 0 else 9) + (if j_R M 1 1 = none then 0 else 9) ∧ ∀ b, j_R M 1 0 = some b → ¬ j_R M 1 1 = some b
def Inv (M : j_M) : Prop := (sh_x M.2.2 ∧ sh_m M.2.2 ∧ sh_i M.2.2 ∧ iN M) ∧ iC M ∧ iF M ∧ (∃ z ta, iT M z ta) ∧ (∃ be, iB M 17 be ∧ iM M 36 0 be ∧ wf be) ∧ iG M 0 ∧ iG M 1
/-- places that no answer reads before it writes them -/
def scr (a k : Nat) : Prop := (2 ≤ a ∧ a ≤ 6) ∨ (a = 7 ∧ k ≠ 1) ∨ (25 ≤ a ∧ a ≤ 34) ∨ (a = 35 ∧ k ≠ 19) ∨ (40 ≤ a ∧ a ≤ 47) ∨ a = 49 ∨ a = 50
def nb (M M' : j_M) : Prop := (∀ a k, ¬ scr a k → j_I M' a k = j_I M a k) ∧ (∀ a k, a ≠ 9 → j_L M' a k = j_L M a k) ∧ M'.2.2 = M.2.2
theorem nb.rf {M : j_M} : nb M M := ⟨fun _ _ _ => rfl, fun _ _ _ => rfl, rfl⟩
theorem nb.tr {M M' M2 : j_M} (h : nb M M') (g : nb M' M2) : nb M M2 := ⟨fun a k c => (g.1 a k c).trans (h.1 a k c), fun a k c => (g.2.1 a k c).trans (h.2.1 a k c), g.2.2.trans h.2.2⟩
theorem nb.wr {M M' : j_M} {a k : Nat} {v : Int32} (h : nb M M') (hs : scr a k) : nb M (j_sI M' a k v) := h.tr ⟨fun b j c => by rw [I_sI, if_neg (fun q => c (by rw [q.1, q.2]; exact hs))], fun _ _ _ => rfl, rfl⟩
theorem iB.to {M M' : j_M} {b : Nat} {be : Nat → Nat} (h : iB M b be) (he : ∀ a k, b ≤ a → a < b + 8 → j_I M' a k = j_I M a k) : iB M' b be := by
  obtain ⟨h1, h2, h3, h4, h5, h6, h7, h8⟩ := h
  refine ⟨?_, ?_, ?_, fun l hl => ?_, fun p hp => ?_, fun k hk => ?_, fun u hu k hk => ?_, fun i hi => ?_⟩
  · rw [he b 9 (by omega) (by omega)]; exact h1
  · rw [he b 10 (by omega) (by omega)]; exact h2
  · rw [he b 11 (by omega) (by omega)]; exact h3
  · rw [he _ _ (by omega) (by omega), he _ _ (by omega) (by omega)]; exact h4 l hl
  · rw [he _ _ (by omega) (by omega), he _ _ (by omega) (by omega)]; exact h5 p hp
  · rw [he _ _ (by omega) (by omega)]; exact h6 k hk
  · rw [he _ _ (by omega) (by omega)]; exact h7 u hu k hk
  · rw [he _ _ (by omega) (by omega)]; exact h8 i hi
theorem nb.I {M M' : j_M} (h : nb M M') {a : Nat} (ha : a = 0 ∨ a = 8 ∨ (17 ≤ a ∧ a < 25) ∨ (36 ≤ a ∧ a ≤ 39) ∨ a = 48 ∨ 51 ≤ a) (k : Nat) : j_I M' a k = j_I M a k := h.1 a k (by unfold scr; omega)
theorem iG.nb {M M' : j_M} {i : Nat} (hn : nb M M') (h : iG M i) : iG M' i := by
  have hR : ∀ a k, j_R M' a k = j_R M a k := fun a k => by show M'.2.2.1 a k = _; rw [hn.2.2]; rfl
  have hN : j_N M' = j_N M := by show M'.2.2.2.2 = _; rw [hn.2.2]; rfl
  rcases h with ⟨h1, h2⟩ | ⟨b, be, h0, hb, h1, h2, h3, h4, h5⟩
  · exact Or.inl ⟨by rw [hR]; exact h1, by rw [hn.I (by omega)]; exact h2⟩
  · exact Or.inr ⟨b, be, h0, by rw [hN]; exact hb, by rw [hR]; exact h1, by rw [hn.I (by omega)]; exact h2, h3.to (fun a k _ _ => hn.I (by omega) k), fun k hk => by rw [hn.I (by omega)]; exact h4 k hk, h5⟩
/-- what only wrote such places keeps all -/
theorem Inv.nb {M M' : j_M} (hn : nb M M') (h : Inv M) : Inv M' := by
  obtain ⟨⟨a1, a2, a3, a4⟩, c, f, ⟨z, ta, t⟩, ⟨be, b1, b2, b3⟩, g0, g1⟩ := h
  have hR : ∀ a k, j_R M' a k = j_R M a k := fun a k => by show M'.2.2.1 a k = _; rw [hn.2.2]; rfl
  have hN : j_N M' = j_N M := by show M'.2.2.2.2 = _; rw [hn.2.2]; rfl
  refine ⟨⟨by rw [hn.2.2]; exact a1, by rw [hn.2.2]; exact a2, by rw [hn.2.2]; exact a3, ?_⟩, ?_, ?_, ⟨z, ta, ?_⟩, ⟨be, b1.to (fun a k _ _ => hn.I (by omega) k), fun k hk => by rw [hn.I (by omega)]; exact b2 k hk, b3⟩, g0.nb hn, g1.nb hn⟩
  · unfold iN
    simp only [hR, hN]
    exact a4
  · unfold iC
    simp only [hn.I (a := 0) (by omega), hn.I (a := 39) (by omega)]
    exact c
  · unfold iF
    rw [hn.2.1 _ _ (by decide), hn.2.1 _ _ (by decide), hn.2.1 _ _ (by decide), hn.2.1 _ _ (by decide)]
    exact f
  · obtain ⟨t1, t2, t3, t4⟩ := t
    refine ⟨t1, by rw [hn.1 _ _ (by unfold scr; omega)]; exact t2, by rw [hn.1 _ _ (by unfold scr; omega)]; exact t3, fun k hk => ?_⟩
    rw [hn.I (a := 8) (by omega), hn.I (a := 48) (by omega)]
    exact t4 k hk
theorem Inv.iK {M : j_M} {be : Nat → Nat} {b : Nat} (h : iB M b be) (w : wf be) : iK M b (be 0) (fun p => be (30 + p)) (fun p => be (37 + p)) :=
  ⟨h.1, w.1, fun p hp => ⟨(h.2.2.2.2.1 p hp).1, (h.2.2.2.2.1 p hp).2, (w.2.2.2.2.2.1 p hp).1, (w.2.2.2.2.2.1 p hp).2.1, (w.2.2.2.2.2.1 p hp).2.2⟩⟩
theorem Inv.mK {M : j_M} {be : Nat → Nat} (h : iM M 36 0 be) (w : wf be) : mK M (be 0) (fun p => be (30 + p)) (fun p => be (37 + p)) := by
  have h' : ∀ k, k < 250 → j_I M 36 k = nI (be k) := fun k hk => by have := h k hk; rwa [Nat.zero_add] at this
  have := w.1
  exact ⟨h' 0 (by omega), w.1, fun p hp => ⟨h' _ (by omega), h' _ (by omega), (w.2.2.2.2.2.1 p hp).1, (w.2.2.2.2.2.1 p hp).2.1, (w.2.2.2.2.2.1 p hp).2.2⟩⟩
theorem inv_bs : lw_bs Inv := by
  intro M h
  obtain ⟨⟨a1, a2, a3, a4, -⟩, -⟩ := h
  refine ⟨a1, a2, a3, ?_⟩
  rw [a4]
  split <;> split <;> omega
