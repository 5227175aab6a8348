/-! all together: the pure part -/
section
variable (be : Nat → Nat)
def gr (p : Nat) (f : Nat → Nat) (l : Nat) : Nat → Bool := fun r => decide (r < p) && decide (f r = l)
def tT2 (p : Nat) (f : Nat → Nat) : Nat := sm p (fun q => TK be q (fun r => gr p f (f q) r && !(r == q)))
def mm : Nat → Nat → (Nat → Nat) → Nat
  | 0, p, f => tT2 be p f
  | d + 1, p, f => fw (fun l => mm d (p + 1) (up f p l)) (bst (op be) (fun l => mm d (p + 1) (up f p l)) 4)
def am : Nat → Nat → (Nat → Nat) → Nat → Nat
  | 0, _, f => f
  | d + 1, p, f => match bst (op be) (fun l => mm be d (p + 1) (up f p l)) 4 with
    | none => f
    | some l => am d (p + 1) (up f p l)
def tl4 (d p : Nat) (f : Nat → Nat) : Nat → Nat := fun l => mm be d (p + 1) (up f p l)
def amo (d p : Nat) (f : Nat → Nat) (o : Option Nat) : Nat → Nat := match o with
  | none => f
  | some l => am be d (p + 1) (up f p l)
end
section
variable {be : Nat → Nat}
theorem mm_s {d p : Nat} {f : Nat → Nat} : mm be (d + 1) p f = fw (tl4 be d p f) (bst (op be) (tl4 be d p f) 4) := rfl
theorem am_s {d p : Nat} {f : Nat → Nat} : am be (d + 1) p f = amo be d p f (bst (op be) (tl4 be d p f) 4) := by
  show (match bst (op be) (fun l => mm be d (p + 1) (up f p l)) 4 with
    | none => f
    | some l => am be d (p + 1) (up f p l)) = _
  unfold amo tl4
  rfl
theorem gr_congr {p l q : Nat} {f g : Nat → Nat} (h : ∀ r, r < p → f r = g r) : gr p f l q = gr p g l q := by
  unfold gr
  by_cases c : q < p
  · rw [h q c]
  · simp [c]
theorem tT2_congr {p : Nat} {f g : Nat → Nat} (h : ∀ r, r < p → f r = g r) : tT2 be p f = tT2 be p g := sm_congr (fun q hq => TK_congr (fun r _ => by rw [gr_congr h, h q hq]))
theorem bst_congr2 {ok : Nat → Bool} {t t' : Nat → Nat} {l : Nat} (h : ∀ k, k < l → t k = t' k) : fw t (bst ok t l) = fw t' (bst ok t' l) := by
  rw [bst_congr h]
  cases e : bst ok t' l with
  | none => rfl
  | some b => exact h b (bst_lt e).1
theorem mm_congr {d p : Nat} {f g : Nat → Nat} (h : ∀ r, r < p → f r = g r) : mm be d p f = mm be d p g := by
  induction d generalizing p f g with
  | zero => exact tT2_congr h
  | succ d ih =>
    refine bst_congr2 (fun l _ => ih (fun r hr => ?_))
    by_cases e : r = p
    · rw [up_e e, up_e e]
    · rw [up_n e, up_n e]; exact h r (by omega)
/-- the least of the open lanes -/
theorem bst_min {ok : Nat → Bool} {t : Nat → Nat} {l k : Nat} (hk : k < l) (ho : ok k = true) (ht : ∀ j, t j ≤ 1000000) : fw t (bst ok t l) ≤ t k := by
  induction l with
  | zero => omega
  | succ l ih =>
    by_cases c : ok l = true
    · by_cases c1 : t l < 1000000
      · rw [bst_open c c1]
        by_cases e : k = l
        · subst e
          by_cases c2 : fw t (bst ok t k) ≤ t k
          · rw [if_pos c2]; exact c2
          · rw [if_neg c2]; exact Nat.le_refl _
        · have := ih (by omega)
          by_cases c2 : fw t (bst ok t l) ≤ t l
          · rw [if_pos c2]; exact this
          · rw [if_neg c2]; show t l ≤ t k; omega
      · have h1 := ht l
        rw [show bst ok t (l + 1) = if ok l then (match bst ok t l with
          | none => some l
          | some b => if t l < t b then some l else some b) else bst ok t l from rfl, if_pos c]
        cases e : bst ok t l with
        | none =>
          show t l ≤ t k
          by_cases e2 : k = l
          · rw [e2]; exact Nat.le_refl _
          · obtain ⟨b, hb⟩ := bst_some (t := t) (show k < l by omega) ho
            rw [hb] at e; cases e
        | some b =>
          have hb := ht b
          show fw t (if t l < t b then some l else some b) ≤ t k
          rw [if_neg (by omega)]
          by_cases e2 : k = l
          · subst e2; show t b ≤ t k; omega
          · have := ih (by omega)
            rw [e] at this
            exact this
    · rw [bst_shut c]
      exact ih (by by_cases e : k = l; · subst e; exact absurd ho c
                   · omega)
theorem bst_at {ok : Nat → Bool} {t : Nat → Nat} {l : Nat} : fw t (bst ok t l) = 1000000 ∨ ∃ b, b < l ∧ ok b = true ∧ fw t (bst ok t l) = t b := by
  cases e : bst ok t l with
  | none => exact Or.inl rfl
  | some b => exact Or.inr ⟨b, (bst_lt e).1, (bst_lt e).2, rfl⟩
theorem TK120 {q : Nat} {P : Nat → Bool} (w : wf be) (hq : q < be 0) : TK be q P ≤ 120 := TK_le w hq
theorem tT2_le {p : Nat} {f : Nat → Nat} (w : wf be) (hp : p ≤ be 0) : tT2 be p f ≤ 840 := by
  have h7 := w.1
  have := sm_le (n := p) (f := fun q => TK be q (fun r => gr p f (f q) r && !(r == q))) (c := 120) (fun q hq => TK_le w (by omega))
  have h2 : p * 120 ≤ 7 * 120 := Nat.mul_le_mul_right _ (by omega)
  unfold tT2
  omega
theorem mm_le {d p : Nat} {f : Nat → Nat} (w : wf be) (hp : p + d ≤ be 0) : mm be d p f ≤ 1000000 := by
  induction d generalizing p f with
  | zero => have := tT2_le (f := f) w (show p ≤ be 0 by omega); show tT2 be p f ≤ _; omega
  | succ d ih =>
    rw [mm_s]
    rcases bst_at (ok := op be) (t := tl4 be d p f) (l := 4) with h | ⟨b, -, -, h⟩
    · omega
    · rw [h]; exact ih (by omega)
theorem mm_840 {d p k : Nat} {f : Nat → Nat} (w : wf be) (hk : k < 4) (ho : op be k = true) (hp : p + d ≤ be 0) : mm be d p f ≤ 840 := by
  induction d generalizing p f with
  | zero => exact tT2_le w (by omega)
  | succ d ih =>
    rw [mm_s]
    obtain ⟨b, hb⟩ := bst_some (t := tl4 be d p f) hk ho
    rw [hb]
    exact ih (by omega)
/-- one more -/
theorem tT2_s {p l : Nat} {f : Nat → Nat} (w : wf be) (hp : p < be 0) : tT2 be (p + 1) (up f p l) = tT2 be p f + TK be p (gr p f l) + sm (be 0) (cst be (gr p f l) p) := by
  have h7 := w.1
  have hcut : sm (be 0) (cst be (gr p f l) p) = sm p (cst be (gr p f l) p) := sm_cut (by omega) (fun q hq => by unfold cst gr; simp; omega)
  rw [hcut]
  unfold tT2
  show sm p _ + _ = _
  have h1 : TK be p (fun r => gr (p + 1) (up f p l) (up f p l p) r && !(r == p)) = TK be p (gr p f l) := TK_congr (fun r _ => by
    rw [up_e rfl]
    unfold gr
    by_cases e : r = p
    · subst e; simp
    · rw [up_n e]
      have e' : (r == p) = false := beq_eq_false_iff_ne.mpr e
      have e2 : (r < p + 1) ↔ r < p := by omega
      simp [e', e2])
  have h2 : sm p (fun q => TK be q (fun r => gr (p + 1) (up f p l) (up f p l q) r && !(r == q))) = sm p (fun q => TK be q (fun r => gr p f (f q) r && !(r == q))) + sm p (cst be (gr p f l) p) := by
    have hs : ∀ m, m ≤ p → sm m (fun q => TK be q (fun r => gr (p + 1) (up f p l) (up f p l q) r && !(r == q))) = sm m (fun q => TK be q (fun r => gr p f (f q) r && !(r == q))) + sm m (cst be (gr p f l) p) := fun m => by
      induction m with
      | zero => intro _; rfl
      | succ m ih =>
        intro hm
        have ihm := ih (by omega)
        simp only [sm]
        have hx : TK be m (fun r => gr (p + 1) (up f p l) (up f p l m) r && !(r == m)) = TK be m (fun r => gr p f (f m) r && !(r == m)) + cst be (gr p f l) p m := by
          rw [up_n (show m ≠ p by omega)]
          by_cases c : f m = l
          · have hg : gr p f l m = true := by unfold gr; simp [c]; omega
            rw [show cst be (gr p f l) p m = TK be m (fun r => (gr p f l r && !(r == m)) || (r == p)) - TK be m (fun r => gr p f l r && !(r == m)) from if_pos hg]
            have hmono : TK be m (fun r => gr p f l r && !(r == m)) ≤ TK be m (fun r => (gr p f l r && !(r == m)) || (r == p)) := TK_mono (fun r _ hr => by simp [hr])
            have e1 : TK be m (fun r => gr (p + 1) (up f p l) (f m) r && !(r == m)) = TK be m (fun r => (gr p f l r && !(r == m)) || (r == p)) := TK_congr (fun r _ => by
              rw [c]
              unfold gr
              by_cases e : r = p
              · subst e
                have : (r == m) = false := beq_eq_false_iff_ne.mpr (by omega)
                rw [up_e rfl]
                simp [this]
              · rw [up_n e]
                have e' : (r == p) = false := beq_eq_false_iff_ne.mpr e
                have e2 : (r < p + 1) ↔ r < p := by omega
                simp [e', e2])
            rw [e1, c]
            omega
          · have hg : ¬ gr p f l m = true := by unfold gr; simp [c]
            rw [show cst be (gr p f l) p m = 0 from if_neg hg, Nat.add_zero]
            refine TK_congr (fun r _ => ?_)
            unfold gr
            by_cases e : r = p
            · subst e
              rw [up_e rfl]
              have : ¬ l = f m := fun x => c x.symm
              simp [this]
            · rw [up_n e]
              have e2 : (r < p + 1) ↔ r < p := by omega
              simp [e2]
        omega
    exact hs p (Nat.le_refl _)
  dsimp only
  rw [h1, h2]
  omega
theorem tT2_le_mm {d p : Nat} {f : Nat → Nat} (w : wf be) (hp : p + d = be 0) : tT2 be p f ≤ mm be d p f := by
  induction d generalizing p f with
  | zero => exact Nat.le_refl _
  | succ d ih =>
    have h1 := tT2_le (f := f) w (show p ≤ be 0 by omega)
    rw [mm_s]
    rcases bst_at (ok := op be) (t := tl4 be d p f) (l := 4) with h | ⟨b, -, -, h⟩
    · omega
    · rw [h]
      have h2 := ih (p := p + 1) (f := up f p b) (by omega)
      have h3 := tT2_s (l := b) (f := f) w (show p < be 0 by omega)
      show tT2 be p f ≤ mm be d (p + 1) (up f p b)
      omega
/-- lanes are alike -/
def sw (a b : Nat) (x : Nat) : Nat := if x = a then b else if x = b then a else x
theorem sw_sw {a b x : Nat} : sw a b (sw a b x) = x := by
  unfold sw
  by_cases h1 : x = a
  · rw [if_pos h1]
    by_cases h2 : b = a
    · rw [if_pos h2, h2]; exact h1.symm
    · rw [if_neg h2, if_pos rfl]; exact h1.symm
  · rw [if_neg h1]
    by_cases h2 : x = b
    · rw [if_pos h2, if_pos rfl, h2]
    · rw [if_neg h2, if_neg h1, if_neg h2]
theorem sw_inj {a b x y : Nat} (h : sw a b x = sw a b y) : x = y := by
  have := congrArg (sw a b) h
  rwa [sw_sw, sw_sw] at this
theorem sw_lt {a b x : Nat} (ha : a < 4) (hb : b < 4) (hx : x < 4) : sw a b x < 4 := by unfold sw; split; · exact hb
                                                                                        · split; · exact ha
                                                                                          · exact hx
theorem sw_op {a b x : Nat} (ha : op be a = true) (hb : op be b = true) : op be (sw a b x) = op be x := by
  unfold sw
  by_cases h1 : x = a
  · rw [if_pos h1, h1, ha, hb]
  · rw [if_neg h1]
    by_cases h2 : x = b
    · rw [if_pos h2, h2, ha, hb]
    · rw [if_neg h2]
theorem mm_sw {d p a b : Nat} {f : Nat → Nat} (w : wf be) (ha : a < 4) (hb : b < 4) (oa : op be a = true) (ob : op be b = true) (hp : p + d ≤ be 0) : mm be d p (fun q => sw a b (f q)) = mm be d p f := by
  induction d generalizing p f with
  | zero =>
    refine sm_congr (fun q hq => TK_congr (fun r _ => ?_))
    unfold gr
    congr 2
    by_cases c : f r = f q
    · simp [c]
    · have : ¬ sw a b (f r) = sw a b (f q) := fun x => c (sw_inj x)
      simp [c, this]
  | succ d ih =>
    have e : ∀ l, tl4 be d p (fun q => sw a b (f q)) (sw a b l) = tl4 be d p f l := fun l => by
      unfold tl4
      rw [← ih (p := p + 1) (f := up f p l) (by omega)]
      refine mm_congr (fun r hr => ?_)
      by_cases c : r = p
      · rw [up_e c, up_e c]
      · rw [up_n c, up_n c]
    have hle1 : ∀ j, tl4 be d p f j ≤ 1000000 := fun j => mm_le w (by omega)
    have hle2 : ∀ j, tl4 be d p (fun q => sw a b (f q)) j ≤ 1000000 := fun j => mm_le w (by omega)
    rw [mm_s, mm_s]
    apply Nat.le_antisymm
    · rcases bst_at (ok := op be) (t := tl4 be d p f) (l := 4) with h | ⟨k, h1, h2, h⟩
      · rw [h]
        rcases bst_at (ok := op be) (t := tl4 be d p (fun q => sw a b (f q))) (l := 4) with h' | ⟨k', -, -, h'⟩
        · omega
        · rw [h']; exact hle2 k'
      · rw [h, ← e k]
        exact bst_min (sw_lt ha hb h1) (by rw [sw_op oa ob]; exact h2) hle2
    · rcases bst_at (ok := op be) (t := tl4 be d p (fun q => sw a b (f q))) (l := 4) with h | ⟨k, h1, h2, h⟩
      · rw [h]
        rcases bst_at (ok := op be) (t := tl4 be d p f) (l := 4) with h' | ⟨k', -, -, h'⟩
        · omega
        · rw [h']; exact hle1 k'
      · have e2 := e (sw a b k)
        rw [sw_sw] at e2
        rw [h, e2]
        exact bst_min (sw_lt ha hb h1) (by rw [sw_op oa ob]; exact h2) hle1
/-- two empty lanes give the same -/
theorem tl4_sym {d p a b : Nat} {f : Nat → Nat} (w : wf be) (ha : a < 4) (hb : b < 4) (oa : op be a = true) (ob : op be b = true) (hp : p + 1 + d ≤ be 0) (ea : ∀ q, q < p → f q ≠ a) (eb : ∀ q, q < p → f q ≠ b) : tl4 be d p f b = tl4 be d p f a := by
  unfold tl4
  rw [← mm_sw (f := up f p a) w ha hb oa ob hp]
  refine mm_congr (fun r hr => ?_)
  by_cases c : r = p
  · rw [up_e c, up_e c]; unfold sw; rw [if_pos rfl]
  · rw [up_n c, up_n c]
    unfold sw
    rw [if_neg (ea r (by omega)), if_neg (eb r (by omega))]
/-- what a visit leaves -/
def uF (F v : Nat) : Nat := if v < F then v else F
def uB (F v : Nat) (B A : Nat → Nat) : Nat → Nat := fun q => if v < F then A q else B q
theorem u_open {d p l F : Nat} {f B : Nat → Nat} (c : op be l = true) (ht : tl4 be d p f l < 1000000) (hF : F ≤ 1000000) :
    uF (uF F (fw (tl4 be d p f) (bst (op be) (tl4 be d p f) l))) (tl4 be d p f l) = uF F (fw (tl4 be d p f) (bst (op be) (tl4 be d p f) (l + 1))) ∧
    ∀ q, uB (uF F (fw (tl4 be d p f) (bst (op be) (tl4 be d p f) l))) (tl4 be d p f l) (uB F (fw (tl4 be d p f) (bst (op be) (tl4 be d p f) l)) B (amo be d p f (bst (op be) (tl4 be d p f) l))) (am be d (p + 1) (up f p l)) q = uB F (fw (tl4 be d p f) (bst (op be) (tl4 be d p f) (l + 1))) B (amo be d p f (bst (op be) (tl4 be d p f) (l + 1))) q := by
  rw [bst_open c ht]
  unfold uF uB
  by_cases c2 : fw (tl4 be d p f) (bst (op be) (tl4 be d p f) l) ≤ tl4 be d p f l
  · rw [if_pos c2]
    by_cases c3 : fw (tl4 be d p f) (bst (op be) (tl4 be d p f) l) < F
    · rw [if_pos c3, if_neg (by omega)]
      refine ⟨rfl, fun q => ?_⟩
      rw [if_neg (by omega), if_pos c3]
    · rw [if_neg c3, if_neg (by omega)]
      refine ⟨rfl, fun q => ?_⟩
      rw [if_neg (by omega), if_neg c3]
  · rw [if_neg c2]
    have e : fw (tl4 be d p f) (some l) = tl4 be d p f l := rfl
    rw [e]
    by_cases c3 : tl4 be d p f l < F
    · have c4 : tl4 be d p f l < (if fw (tl4 be d p f) (bst (op be) (tl4 be d p f) l) < F then fw (tl4 be d p f) (bst (op be) (tl4 be d p f) l) else F) := by split <;> omega
      rw [if_pos c4, if_pos c3]
      refine ⟨rfl, fun q => ?_⟩
      rw [if_pos c4, if_pos c3]
      rfl
    · have c4 : ¬ fw (tl4 be d p f) (bst (op be) (tl4 be d p f) l) < F := by omega
      rw [if_neg c4, if_neg c3]
      refine ⟨rfl, fun q => ?_⟩
      rw [if_neg c3, if_neg c4, if_neg c3]
end
