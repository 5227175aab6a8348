/-! combinators of the functions that are read off the code, and what their answers tell -/
section
variable {α β γ δ ρ : Type}
def tl (x : α) (k : α → β) : β := k x
def jn (k : α → β) (f : (α → β) → β) : β := f k
def jn2 (k : α → γ → β) (f : (α → γ → β) → β) : β := f k
def jn3 (k : α → γ → δ → β) (f : (α → γ → δ → β) → β) : β := f k
def a_i (M : j_M) (a n : Nat) (i : Int32) (k : Int32 → Option ρ) : Option ρ := if i < 0 ∨ n ≤ i.toNatClampNeg then none else k (j_I M a i.toNatClampNeg)
def a_l (M : j_M) (a n : Nat) (i : Int32) (k : Int64 → Option ρ) : Option ρ := if i < 0 ∨ n ≤ i.toNatClampNeg then none else k (j_L M a i.toNatClampNeg)
def w_i (M : j_M) (a n : Nat) (i x : Int32) (k : j_M → Option ρ) : Option ρ := if i < 0 ∨ n ≤ i.toNatClampNeg then none else k (j_sI M a i.toNatClampNeg x)
def w_l (M : j_M) (a n : Nat) (i : Int32) (x : Int64) (k : j_M → Option ρ) : Option ρ := if i < 0 ∨ n ≤ i.toNatClampNeg then none else k (j_sL M a i.toNatClampNeg x)
def d_i (x y : Int32) (k : Int32 → Option ρ) : Option ρ := if y = 0 then none else k (x / y)
def r_i (x y : Int32) (k : Int32 → Option ρ) : Option ρ := if y = 0 then none else k (x - x / y * y)
def d_l (x y : Int64) (k : Int64 → Option ρ) : Option ρ := if y = 0 then none else k (x / y)
def r_l (x y : Int64) (k : Int64 → Option ρ) : Option ρ := if y = 0 then none else k (x - x / y * y)
/-- an arraycopy of ints -/
def c_i (M : j_M) (sa n0 : Nat) (sp : Int32) (da n1 : Nat) (dp n : Int32) (k : j_M → Option ρ) : Option ρ := if (sp < 0 ∨ dp < 0 ∨ n < 0) ∨ n0 < sp.toNatClampNeg + n.toNatClampNeg ∨ n1 < dp.toNatClampNeg + n.toNatClampNeg then none else k (j_cp M sa sp.toNatClampNeg da dp.toNatClampNeg n.toNatClampNeg)
/-- the shape is kept -/
noncomputable def j_ck (M M' : j_M) (k : Option ρ) : Option ρ := @ite _ (M'.2.2 = M.2.2) (Classical.propDecidable _) k none
/-- a boolean -/
def z_b (x : Int32) (k : Option ρ) : Option ρ := if x &&& 1 = x then k else none
def j_fu : Nat := 1000000
theorem tl_inv {x : α} {k : α → β} {r : β} (h : tl x k = r) : ∃ v, x = v ∧ k v = r := ⟨x, rfl, h⟩
theorem bi_inv {o : Option α} {k : α → Option ρ} {r : ρ} (h : o.bind k = some r) : ∃ v, o = some v ∧ k v = some r := Option.bind_eq_some_iff.mp h
theorem a_i_inv {M : j_M} {a n : Nat} {i : Int32} {k : Int32 → Option ρ} {r : ρ} (h : a_i M a n i k = some r) : ∃ v, (vp_in i n ∧ j_I M a i.toNatClampNeg = v) ∧ k v = some r := by
  unfold a_i at h
  split at h
  · cases h
  · next hc => exact ⟨_, ⟨hc, rfl⟩, h⟩
theorem a_l_inv {M : j_M} {a n : Nat} {i : Int32} {k : Int64 → Option ρ} {r : ρ} (h : a_l M a n i k = some r) : ∃ v, (vp_in i n ∧ j_L M a i.toNatClampNeg = v) ∧ k v = some r := by
  unfold a_l at h
  split at h
  · cases h
  · next hc => exact ⟨_, ⟨hc, rfl⟩, h⟩
theorem w_i_inv {M : j_M} {a n : Nat} {i x : Int32} {k : j_M → Option ρ} {r : ρ} (h : w_i M a n i x k = some r) : ∃ v, (vp_in i n ∧ j_sI M a i.toNatClampNeg x = v) ∧ k v = some r := by
  unfold w_i at h
  split at h
  · cases h
  · next hc => exact ⟨_, ⟨hc, rfl⟩, h⟩
theorem w_l_inv {M : j_M} {a n : Nat} {i : Int32} {x : Int64} {k : j_M → Option ρ} {r : ρ} (h : w_l M a n i x k = some r) : ∃ v, (vp_in i n ∧ j_sL M a i.toNatClampNeg x = v) ∧ k v = some r := by
  unfold w_l at h
  split at h
  · cases h
  · next hc => exact ⟨_, ⟨hc, rfl⟩, h⟩
theorem d_i_inv {x y : Int32} {k : Int32 → Option ρ} {r : ρ} (h : d_i x y k = some r) : ∃ v, (¬ y = 0 ∧ x / y = v) ∧ k v = some r := by
  unfold d_i at h
  split at h
  · cases h
  · next hc => exact ⟨_, ⟨hc, rfl⟩, h⟩
theorem r_i_inv {x y : Int32} {k : Int32 → Option ρ} {r : ρ} (h : r_i x y k = some r) : ∃ v, (¬ y = 0 ∧ x - x / y * y = v) ∧ k v = some r := by
  unfold r_i at h
  split at h
  · cases h
  · next hc => exact ⟨_, ⟨hc, rfl⟩, h⟩
theorem d_l_inv {x y : Int64} {k : Int64 → Option ρ} {r : ρ} (h : d_l x y k = some r) : ∃ v, (¬ y = 0 ∧ x / y = v) ∧ k v = some r := by
  unfold d_l at h
  split at h
  · cases h
  · next hc => exact ⟨_, ⟨hc, rfl⟩, h⟩
theorem r_l_inv {x y : Int64} {k : Int64 → Option ρ} {r : ρ} (h : r_l x y k = some r) : ∃ v, (¬ y = 0 ∧ x - x / y * y = v) ∧ k v = some r := by
  unfold r_l at h
  split at h
  · cases h
  · next hc => exact ⟨_, ⟨hc, rfl⟩, h⟩
theorem c_i_inv {M : j_M} {sa n0 : Nat} {sp : Int32} {da n1 : Nat} {dp n : Int32} {k : j_M → Option ρ} {r : ρ} (h : c_i M sa n0 sp da n1 dp n k = some r) : ∃ v, (((¬ sp < 0 ∧ ¬ dp < 0 ∧ ¬ n < 0) ∧ sp.toNatClampNeg + n.toNatClampNeg ≤ n0 ∧ dp.toNatClampNeg + n.toNatClampNeg ≤ n1) ∧ j_cp M sa sp.toNatClampNeg da dp.toNatClampNeg n.toNatClampNeg = v) ∧ k v = some r := by
  unfold c_i at h
  split at h
  · cases h
  · next hc =>
    have hc1 := not_or.mp hc
    have hc2 := not_or.mp hc1.1
    have hc3 := not_or.mp hc2.2
    have hc4 := not_or.mp hc1.2
    exact ⟨_, ⟨⟨⟨hc2.1, hc3.1, hc3.2⟩, Nat.not_lt.mp hc4.1, Nat.not_lt.mp hc4.2⟩, rfl⟩, h⟩
theorem j_ck_inv {M M' : j_M} {k : Option ρ} {r : ρ} (h : j_ck M M' k = some r) : M'.2.2 = M.2.2 ∧ k = some r := by
  unfold j_ck at h
  split at h
  · next hc => exact ⟨hc, h⟩
  · cases h
theorem z_b_inv {x : Int32} {k : Option ρ} {r : ρ} (h : z_b x k = some r) : x &&& 1 = x ∧ k = some r := by
  unfold z_b at h
  split at h
  · next hc => exact ⟨hc, h⟩
  · cases h
theorem j_ip {c : Prop} {hd : Decidable c} {A B r : β} (hc : c) (h : @ite β c hd A B = r) : A = r := (if_pos hc).symm.trans h
theorem j_iq {c : Prop} {hd : Decidable c} {A B r : β} (hc : ¬ c) (h : @ite β c hd A B = r) : B = r := (if_neg hc).symm.trans h
theorem J_join {C : α → Prop} {D : Prop} {rest : α → β} {f : (α → β) → β} {r : β} (h : jn rest f = r) (hj : ∀ v, rest v = r → C v) (hb : ∀ K : α → β, (∀ v, K v = r → C v) → f K = r → D) : D := hb rest hj h
theorem J_join2 {C : α → γ → Prop} {D : Prop} {rest : α → γ → β} {f : (α → γ → β) → β} {r : β} (h : jn2 rest f = r) (hj : ∀ v w, rest v w = r → C v w) (hb : ∀ K : α → γ → β, (∀ v w, K v w = r → C v w) → f K = r → D) : D := hb rest hj h
theorem J_join3 {C : α → γ → δ → Prop} {D : Prop} {rest : α → γ → δ → β} {f : (α → γ → δ → β) → β} {r : β} (h : jn3 rest f = r) (hj : ∀ v w x, rest v w x = r → C v w x) (hb : ∀ K : α → γ → δ → β, (∀ v w x, K v w x = r → C v w x) → f K = r → D) : D := hb rest hj h
end
theorem j_z01 {x : Int32} (h : x = 0 ∨ x = 1) : narrow .boolean (.int x) = .int x := by rcases h with rfl | rfl <;> rfl
theorem j_zb {x : Int32} (h : x &&& 1 = x) : narrow .boolean (.int x) = .int x := by
  show Value.int (x &&& 1) = .int x
  rw [h]
theorem j_inc (d : Int) (k : Int32) (h : Int32.ofInt d = k) (x : Int32) : x + Int32.ofInt d = x + k := by rw [h]
def po (w : Option Value) (M1 : j_M) : Option Value → j_M → Prop := fun v M' => v = w ∧ M' = M1
/-- the shape of a memory that is the other with ints set -/
theorem j_shI {P : ((Nat → Nat → Option Nat) × (Nat → Nat × Nat) × Nat) → Prop} {M M1 : j_M} {a k : Nat} {v : Int32} (e : j_sI M a k v = M1) (h : P M.2.2) : P M1.2.2 := by subst e; exact h
theorem j_shL {P : ((Nat → Nat → Option Nat) × (Nat → Nat × Nat) × Nat) → Prop} {M M1 : j_M} {a k : Nat} {v : Int64} (e : j_sL M a k v = M1) (h : P M.2.2) : P M1.2.2 := by subst e; exact h
theorem j_shC {P : ((Nat → Nat → Option Nat) × (Nat → Nat × Nat) × Nat) → Prop} {M M1 : j_M} {sa sp da dp n : Nat} (e : j_cp M sa sp da dp n = M1) (h : P M.2.2) : P M1.2.2 := by subst e; exact h
theorem j_shE {P : ((Nat → Nat → Option Nat) × (Nat → Nat × Nat) × Nat) → Prop} {M M1 : j_M} (e : M1.2.2 = M.2.2) (h : P M.2.2) : P M1.2.2 := by rw [e]; exact h
theorem j_pI {M : j_M} {v : Int32} {r : Int32} (h : v = r) : po (some (.int r)) M (some (.int v)) M := ⟨by rw [h], rfl⟩
theorem j_pIs {M : j_M} {v : Int32} {r : Int32} (h : some v = some r) : po (some (.int r)) M (some (.int v)) M := ⟨by rw [Option.some.inj h], rfl⟩
theorem j_pL {M : j_M} {v : Int64} {r : Int64} (h : v = r) : po (some (.long r)) M (some (.long v)) M := ⟨by rw [h], rfl⟩
theorem j_pLs {M : j_M} {v : Int64} {r : Int64} (h : some v = some r) : po (some (.long r)) M (some (.long v)) M := ⟨by rw [Option.some.inj h], rfl⟩
theorem j_pW {M : j_M} {v : Int32} {r : Int32 × j_M} (h : some (v, M) = some r) : po (some (.int r.1)) r.2 (some (.int v)) M := by cases h; exact ⟨rfl, rfl⟩
theorem j_pX {M : j_M} {v : Int64} {r : Int64 × j_M} (h : some (v, M) = some r) : po (some (.long r.1)) r.2 (some (.long v)) M := by cases h; exact ⟨rfl, rfl⟩
theorem j_pV {M r : j_M} (h : some M = some r) : po none r none M := by cases h; exact ⟨rfl, rfl⟩
section
variable {l : Launch} {G : j_G} {md : j_Md} {R : Room} {mcs : Nat × Nat} {Po : Option Value → j_M → Prop} {pc pc' : Nat} {lv lv' : List (Nat × Value)} {st : List Value} {M M1 : j_M}
theorem J_putIe {cs : Nat × Nat} {i ci k a : Nat} {x : Int32} (hd : decode md.2.1 pc = .ok (.putfield i, 3)) (hp : pc + 3 = pc') (hf : j_fln md.1.cls i ci k) (hq : ((j_vc ci).2.1 k).2.2.2 = false ∧ j_ty ci k = .int ∧ j_fk ci k = 0) (hs : (j_S M a).1 = 10 + ci) (ha : a < j_N M) (e : j_sI M a k x = M1) (kk : JJ l G md R cs mcs Po pc' lv st M1) : JJ l G md R cs mcs Po pc lv (.int x :: .ref a :: st) M := by
  subst e; exact J_putI hd hp hf hq hs ha kk
theorem J_putLe {cs : Nat × Nat} {i ci k a : Nat} {x : Int64} (hd : decode md.2.1 pc = .ok (.putfield i, 3)) (hp : pc + 3 = pc') (hf : j_fln md.1.cls i ci k) (hq : ((j_vc ci).2.1 k).2.2.2 = false ∧ j_ty ci k = .long ∧ j_fk ci k = 1) (hs : (j_S M a).1 = 10 + ci) (ha : a < j_N M) (e : j_sL M a k x = M1) (kk : JJ l G md R cs mcs Po pc' lv st M1) : JJ l G md R cs mcs Po pc lv (.long x :: .ref a :: st) M := by
  subst e; exact J_putL hd hp hf hq hs ha kk
theorem J_ialde {cs : Nat × Nat} {a n : Nat} {i v : Int32} (hd : decode md.2.1 pc = .ok (.iaload, 1)) (hp : pc + 1 = pc') (hs : j_S M a = (1, n)) (ha : a < j_N M) (e : vp_in i n ∧ j_I M a i.toNatClampNeg = v) (kk : JJ l G md R cs mcs Po pc' lv (.int v :: st) M) : JJ l G md R cs mcs Po pc lv (.int i :: .ref a :: st) M := by
  obtain ⟨h, rfl⟩ := e; exact J_iald hd hp hs ha h kk
theorem J_zalde {cs : Nat × Nat} {a n : Nat} {i v : Int32} (hd : decode md.2.1 pc = .ok (.baload, 1)) (hp : pc + 1 = pc') (hs : j_S M a = (3, n)) (ha : a < j_N M) (e : vp_in i n ∧ j_I M a i.toNatClampNeg = v) (kk : JJ l G md R cs mcs Po pc' lv (.int v :: st) M) : JJ l G md R cs mcs Po pc lv (.int i :: .ref a :: st) M := by
  obtain ⟨h, rfl⟩ := e; exact J_zald hd hp hs ha h kk
theorem J_calde {cs : Nat × Nat} {a n : Nat} {i v : Int32} (hd : decode md.2.1 pc = .ok (.caload, 1)) (hp : pc + 1 = pc') (hs : j_S M a = (4, n)) (ha : a < j_N M) (e : vp_in i n ∧ j_I M a i.toNatClampNeg = v) (kk : JJ l G md R cs mcs Po pc' lv (.int v :: st) M) : JJ l G md R cs mcs Po pc lv (.int i :: .ref a :: st) M := by
  obtain ⟨h, rfl⟩ := e; exact J_cald hd hp hs ha h kk
theorem J_lalde {cs : Nat × Nat} {a n : Nat} {i : Int32} {v : Int64} (hd : decode md.2.1 pc = .ok (.laload, 1)) (hp : pc + 1 = pc') (hs : j_S M a = (2, n)) (ha : a < j_N M) (e : vp_in i n ∧ j_L M a i.toNatClampNeg = v) (kk : JJ l G md R cs mcs Po pc' lv (.long v :: st) M) : JJ l G md R cs mcs Po pc lv (.int i :: .ref a :: st) M := by
  obtain ⟨h, rfl⟩ := e; exact J_lald hd hp hs ha h kk
theorem J_iaste {cs : Nat × Nat} {a n : Nat} {i x : Int32} (hd : decode md.2.1 pc = .ok (.iastore, 1)) (hp : pc + 1 = pc') (hs : j_S M a = (1, n)) (ha : a < j_N M) (e : vp_in i n ∧ j_sI M a i.toNatClampNeg x = M1) (kk : JJ l G md R cs mcs Po pc' lv st M1) : JJ l G md R cs mcs Po pc lv (.int x :: .int i :: .ref a :: st) M := by
  obtain ⟨h, rfl⟩ := e; exact J_iast hd hp hs ha h kk
theorem J_zaste {cs : Nat × Nat} {a n : Nat} {i x : Int32} (hd : decode md.2.1 pc = .ok (.bastore, 1)) (hp : pc + 1 = pc') (hs : j_S M a = (3, n)) (ha : a < j_N M) (e : vp_in i n ∧ j_sI M a i.toNatClampNeg (vp_nar .boolean x) = M1) (kk : JJ l G md R cs mcs Po pc' lv st M1) : JJ l G md R cs mcs Po pc lv (.int x :: .int i :: .ref a :: st) M := by
  obtain ⟨h, rfl⟩ := e; exact J_zast hd hp hs ha h kk
theorem J_caste {cs : Nat × Nat} {a n : Nat} {i x : Int32} (hd : decode md.2.1 pc = .ok (.castore, 1)) (hp : pc + 1 = pc') (hs : j_S M a = (4, n)) (ha : a < j_N M) (e : vp_in i n ∧ j_sI M a i.toNatClampNeg (vp_nar .char x) = M1) (kk : JJ l G md R cs mcs Po pc' lv st M1) : JJ l G md R cs mcs Po pc lv (.int x :: .int i :: .ref a :: st) M := by
  obtain ⟨h, rfl⟩ := e; exact J_cast hd hp hs ha h kk
theorem J_laste {cs : Nat × Nat} {a n : Nat} {i : Int32} {x : Int64} (hd : decode md.2.1 pc = .ok (.lastore, 1)) (hp : pc + 1 = pc') (hs : j_S M a = (2, n)) (ha : a < j_N M) (e : vp_in i n ∧ j_sL M a i.toNatClampNeg x = M1) (kk : JJ l G md R cs mcs Po pc' lv st M1) : JJ l G md R cs mcs Po pc lv (.long x :: .int i :: .ref a :: st) M := by
  obtain ⟨h, rfl⟩ := e; exact J_last hd hp hs ha h kk
theorem J_dive {cs : Nat × Nat} {x y v : Int32} (hd : decode md.2.1 pc = .ok (.idiv, 1)) (hp : pc + 1 = pc') (e : ¬ y = 0 ∧ x / y = v) (kk : JJ l G md R cs mcs Po pc' lv (.int v :: st) M) : JJ l G md R cs mcs Po pc lv (.int y :: .int x :: st) M := by
  obtain ⟨h, rfl⟩ := e; exact J_idiv hd hp h kk
theorem J_reme {cs : Nat × Nat} {x y v : Int32} (hd : decode md.2.1 pc = .ok (.irem, 1)) (hp : pc + 1 = pc') (e : ¬ y = 0 ∧ x - x / y * y = v) (kk : JJ l G md R cs mcs Po pc' lv (.int v :: st) M) : JJ l G md R cs mcs Po pc lv (.int y :: .int x :: st) M := by
  obtain ⟨h, rfl⟩ := e; exact J_irem hd hp h kk
theorem J_ldive {cs : Nat × Nat} {x y v : Int64} (hd : decode md.2.1 pc = .ok (.ldiv, 1)) (hp : pc + 1 = pc') (e : ¬ y = 0 ∧ x / y = v) (kk : JJ l G md R cs mcs Po pc' lv (.long v :: st) M) : JJ l G md R cs mcs Po pc lv (.long y :: .long x :: st) M := by
  obtain ⟨h, rfl⟩ := e; exact J_ldiv hd hp h kk
theorem J_lreme {cs : Nat × Nat} {x y v : Int64} (hd : decode md.2.1 pc = .ok (.lrem, 1)) (hp : pc + 1 = pc') (e : ¬ y = 0 ∧ x - x / y * y = v) (kk : JJ l G md R cs mcs Po pc' lv (.long v :: st) M) : JJ l G md R cs mcs Po pc lv (.long y :: .long x :: st) M := by
  obtain ⟨h, rfl⟩ := e; exact J_lrem hd hp h kk
theorem J_maxe {cs : Nat × Nat} {i : Nat} {x y v : Int32} (hd : decode md.2.1 pc = .ok (.invokestatic i, 3)) (hp : pc + 3 = pc') (hlk : Cond.methodLink md.1.cls i Lib.Math.max.name ∈ j_gt ∧ Cond.static Lib.Math.max.name ∈ j_gt ∧ Cond.initialized "java/lang/Math" ∈ j_gt ∧ Cond.code Lib.Math.max.name Lib.Math.max.code 2 (some .int) ∈ j_gt) (hR : 1 ≤ R.frames ∧ (st.map fun v => v.category).sum + 13 ≤ R.locals ∧ cs.1 ≤ R.cells ∧ cs.2 ≤ R.slots) (e : (if x < y then y else x) = v) (kk : JJ l G md R cs mcs Po pc' lv (.int v :: st) M) : JJ l G md R cs mcs Po pc lv (.int y :: .int x :: st) M := by
  subst e; exact J_mmax hd hp hlk hR kk
/-- a call that makes nothing and answers one thing -/
theorem j_k0 {w : Option Value} {cs : Nat × Nat} {rest : List Value} (kk : JJ l G md R cs mcs Po pc' lv (w.toList ++ rest) M1) : ∀ (v : Option Value) (M' : j_M), po w M1 v M' → JJ l G md R (cs.1 + (0, 0).1, cs.2 + (0, 0).2) mcs Po pc' lv (v.toList ++ rest) M' := by
  intro v M' h
  obtain ⟨rfl, rfl⟩ := h
  exact kk
end
