/-! the memory: ints, longs and references by cell and place; the shape of each cell; how many cells -/
abbrev j_M : Type := (Nat → Nat → Int32) × (Nat → Nat → Int64) × (Nat → Nat → Option Nat) × (Nat → Nat × Nat) × Nat
def j_I (M : j_M) (a k : Nat) : Int32 := M.1 a k
def j_L (M : j_M) (a k : Nat) : Int64 := M.2.1 a k
def j_R (M : j_M) (a k : Nat) : Option Nat := M.2.2.1 a k
def j_S (M : j_M) (a : Nat) : Nat × Nat := M.2.2.2.1 a
def j_N (M : j_M) : Nat := M.2.2.2.2
def j_sI (M : j_M) (a k : Nat) (v : Int32) : j_M := (fun b j => if b = a ∧ j = k then v else M.1 b j, M.2)
def j_sL (M : j_M) (a k : Nat) (v : Int64) : j_M := (M.1, fun b j => if b = a ∧ j = k then v else M.2.1 b j, M.2.2)
def j_sR (M : j_M) (a k : Nat) (v : Option Nat) : j_M := (M.1, M.2.1, fun b j => if b = a ∧ j = k then v else M.2.2.1 b j, M.2.2.2)
def j_cp (M : j_M) (sa sp da dp n : Nat) : j_M := (fun b j => if b = da ∧ dp ≤ j ∧ j < dp + n then M.1 sa (sp + (j - dp)) else M.1 b j, M.2)
/-- ints out of a table of constants -/
def j_cf (M : j_M) (f : Nat → Int32) (sp da dp n : Nat) : j_M := (fun b j => if b = da ∧ dp ≤ j ∧ j < dp + n then f (sp + (j - dp)) else M.1 b j, M.2)
def j_fi (M : j_M) (a n : Nat) (v : Int32) : j_M := (fun b j => if b = a ∧ j < n then v else M.1 b j, M.2)
def j_fl (M : j_M) (a n : Nat) (v : Int64) : j_M := (M.1, fun b j => if b = a ∧ j < n then v else M.2.1 b j, M.2.2)
def j_nw (M : j_M) (sh : Nat × Nat) : j_M := (fun b j => if b = M.2.2.2.2 then 0 else M.1 b j, fun b j => if b = M.2.2.2.2 then 0 else M.2.1 b j, fun b j => if b = M.2.2.2.2 then none else M.2.2.1 b j, fun b => if b = M.2.2.2.2 then sh else M.2.2.2.1 b, M.2.2.2.2 + 1)
/-! the encoding -/
abbrev j_G : Type := va_G × Nat × (Nat → ClassId) × (Nat → Nat)
def j_rho (G : j_G) (k : Nat) : Nat := if k < 1000000 then G.2.1 + k else G.2.2.2 (k - 1000000)
def j_tv (G : j_G) (v : Value) : Value := match v with
  | .ref k => .ref (j_rho G k)
  | w => w
def j_A (G : j_G) : Nat → Prop := fun q => G.2.1 ≤ q
def j_nf (ci : Nat) : Nat := ([12, 0, 0, 0, 4, 0, 0, 4, 0, 12, 26] : List Nat).getD ci 0
/-- a field's sort: 0 int, 1 long, 2 a reference -/
def j_fk (ci k : Nat) : Nat := (([[2, 2, 2, 2, 2, 2, 2, 2, 2, 0, 0, 0], [], [], [], [2, 2, 2, 0], [], [], [2, 0, 0, 0], [], [2, 2, 2, 2, 2, 2, 2, 1, 1, 0, 0, 0], [2, 2, 2, 2, 1, 1, 2, 0, 0, 0, 2, 2, 2, 2, 0, 2, 2, 2, 2, 0, 0, 0, 0, 0, 2, 2]] : List (List Nat)).getD ci []).getD k 0
def j_fv (G : j_G) (M : j_M) (ci a k : Nat) : Value := if j_fk ci k = 0 then .int (j_I M a k) else if j_fk ci k = 1 then .long (j_L M a k) else va_rf ((j_R M a k).map (j_rho G))
def j_rq (G : j_G) (M : j_M) (a : Nat) : Nat → Option Nat := fun j => (j_R M a j).map (j_rho G)
def j_cel (G : j_G) (M : j_M) (a : Nat) (t n : Nat) : va_E :=
  if t = 1 then .inl (G.2.2.1 1, n, .inl (j_I M a))
  else if t = 2 then .inl (G.2.2.1 2, n, .inr (.inl (j_L M a)))
  else if t = 3 then .inl (G.2.2.1 3, n, .inl (j_I M a))
  else if t = 4 then .inl (G.2.2.1 4, n, .inl (j_I M a))
  else if t = 5 then .inl (G.2.2.1 5, n, .inr (.inr (.inr (.inr (j_rq G M a)))))
  else if t = 6 then .inl (G.2.2.1 6, n, .inr (.inr (.inr (.inr (j_rq G M a)))))
  else .inr (t - 10, (List.range (j_nf (t - 10))).map (j_fv G M (t - 10) a))
def j_c (G : j_G) (M : j_M) (a : Nat) : va_E := j_cel G M a (j_S M a).1 (j_S M a).2
def j_tys (G : j_G) : List (ClassId × FieldType) := [(G.2.2.1 1, .int), (G.2.2.1 2, .long), (G.2.2.1 3, .boolean), (G.2.2.1 4, .char), (G.2.2.1 5, .object "SwimLanes$Bath"), (G.2.2.1 6, .object "SwimLanes$Plain")]
def j_ws (G : j_G) (M : j_M) : va_W := (List.range (j_N M)).map (fun a => (G.2.1 + a, j_c G M a))
def j_H (G : j_G) (M : j_M) (H : Heap) : Prop := va_P G.1 vwCl (j_ws G M) H ∧ H.size = G.2.1 + j_N M ∧ j_N M ≤ 1000000
theorem j_ws_at {G : j_G} {M : j_M} {a : Nat} (h : a < j_N M) : (j_ws G M)[a]? = some (G.2.1 + a, j_c G M a) := by
  simp [j_ws, h]
theorem j_ws_inv {G : j_G} {M : j_M} {k : Nat} {q : Nat × va_E} (h : (j_ws G M)[k]? = some q) : k < j_N M ∧ q = (G.2.1 + k, j_c G M k) := by
  have hk : k < (j_ws G M).length := (List.getElem?_eq_some_iff.mp h).1
  have hk' : k < j_N M := by simpa [j_ws] using hk
  rw [j_ws_at hk'] at h
  exact ⟨hk', (Option.some.inj h).symm⟩
theorem j_ws_D {G : j_G} {M : j_M} : va_D (j_A G) (j_ws G M) := by
  refine ⟨fun i j p q hi hj hpq => ?_, fun k q hk => ?_⟩
  · obtain ⟨_, rfl⟩ := j_ws_inv hi
    obtain ⟨_, rfl⟩ := j_ws_inv hj
    exact Nat.add_left_cancel hpq
  · obtain ⟨_, rfl⟩ := j_ws_inv hk
    exact Nat.le_add_right _ _
theorem j_ws_set {G : j_G} {M M' : j_M} {a : Nat} {e : va_E} (hN : j_N M' = j_N M) (hc : ∀ b, b ≠ a → j_c G M' b = j_c G M b) (he : j_c G M' a = e) : (j_ws G M).set a (G.2.1 + a, e) = j_ws G M' := by
  apply List.ext_getElem?
  intro k
  rw [List.getElem?_set]
  by_cases hk : k < j_N M
  · rw [j_ws_at (M := M') (by rw [hN]; exact hk)]
    by_cases hka : a = k
    · subst hka
      have : a < (j_ws G M).length := by simpa [j_ws] using hk
      simp [this, he]
    · simp [hka, j_ws_at hk, hc k (fun h => hka h.symm)]
  · have h1 : (j_ws G M)[k]? = none := by simp [j_ws]; omega
    have h2 : (j_ws G M')[k]? = none := by simp [j_ws]; omega
    rw [h1, h2]
    have h3 : ¬ a < (j_ws G M).length ∨ a ≠ k := by
      simp [j_ws]; omega
    by_cases hka : a = k
    · subst hka
      simp [j_ws]; omega
    · simp [hka]
theorem j_c_sI_ne {G : j_G} {M : j_M} {a k b : Nat} {v : Int32} (h : b ≠ a) : j_c G (j_sI M a k v) b = j_c G M b := by
  have e : j_I (j_sI M a k v) b = j_I M b := by funext j; simp [j_I, j_sI, h]
  have e2 : j_fv G (j_sI M a k v) ((j_S M b).1 - 10) b = j_fv G M ((j_S M b).1 - 10) b := by funext j; simp only [j_fv, e]; rfl
  show j_cel G (j_sI M a k v) b (j_S M b).1 (j_S M b).2 = _
  unfold j_c j_cel
  rw [e, e2]; rfl
theorem j_c_sL_ne {G : j_G} {M : j_M} {a k b : Nat} {v : Int64} (h : b ≠ a) : j_c G (j_sL M a k v) b = j_c G M b := by
  have e : j_L (j_sL M a k v) b = j_L M b := by funext j; simp [j_L, j_sL, h]
  have e2 : j_fv G (j_sL M a k v) ((j_S M b).1 - 10) b = j_fv G M ((j_S M b).1 - 10) b := by funext j; simp only [j_fv, e]; rfl
  show j_cel G (j_sL M a k v) b (j_S M b).1 (j_S M b).2 = _
  unfold j_c j_cel
  rw [e, e2]; rfl
theorem j_c_sR_ne {G : j_G} {M : j_M} {a k b : Nat} {v : Option Nat} (h : b ≠ a) : j_c G (j_sR M a k v) b = j_c G M b := by
  have e : ∀ j, j_R (j_sR M a k v) b j = j_R M b j := by intro j; simp [j_R, j_sR, h]
  have e2 : j_fv G (j_sR M a k v) ((j_S M b).1 - 10) b = j_fv G M ((j_S M b).1 - 10) b := by funext j; simp only [j_fv, e]; rfl
  have e3 : j_rq G (j_sR M a k v) b = j_rq G M b := by funext j; simp only [j_rq, e]
  show j_cel G (j_sR M a k v) b (j_S M b).1 (j_S M b).2 = _
  unfold j_c j_cel
  rw [e2, e3]; rfl
/-- an object's fields, one of them set -/
theorem j_fset {f g : Nat → Value} {n k : Nat} {v : Value} (hg : g k = v) (h : ∀ j, j ≠ k → g j = f j) : ((List.range n).map f).set k v = (List.range n).map g := by
  apply List.ext_getElem?
  intro j
  rw [List.getElem?_set]
  by_cases hj : j < n
  · by_cases hkj : k = j
    · subst hkj
      simp [hj, hg]
    · simp [hj, hkj, h j (fun e => hkj e.symm)]
  · by_cases hkj : k = j
    · subst hkj
      simp [hj]
    · simp [hj, hkj]
