/-! orders: the class -/
def fst1 : Nat → (Nat → Bool) → Option Nat
  | 0, _ => none
  | m + 1, c => match fst1 m c with
    | some i => some i
    | none => if c m then some m else none
theorem fst1_some {m i : Nat} {c : Nat → Bool} (h : fst1 m c = some i) : i < m ∧ c i = true ∧ ∀ j, j < i → ¬ c j = true := by
  have none_spec : ∀ m, fst1 m c = none → ∀ j, j < m → ¬ c j = true := fun m => by
    induction m with
    | zero => intro _ j hj; omega
    | succ m ih =>
      intro h j hj
      unfold fst1 at h
      cases e : fst1 m c with
      | some i => rw [e] at h; cases h
      | none =>
        rw [e] at h
        simp only at h
        by_cases cm : c m = true
        · rw [if_pos cm] at h; cases h
        · by_cases e2 : j = m
          · rw [e2]; exact cm
          · exact ih e j (by omega)
  induction m with
  | zero => cases h
  | succ m ih =>
    unfold fst1 at h
    cases e : fst1 m c with
    | some i' =>
      rw [e] at h
      cases h
      have := ih e
      exact ⟨by omega, this.2⟩
    | none =>
      rw [e] at h
      simp only at h
      by_cases cm : c m = true
      · rw [if_pos cm] at h
        cases h
        exact ⟨by omega, cm, none_spec _ e⟩
      · rw [if_neg cm] at h; cases h
theorem fst1_ex {m j : Nat} {c : Nat → Bool} (hj : j < m) (h : c j = true) : ∃ i, fst1 m c = some i := by
  induction m with
  | zero => omega
  | succ m ih =>
    unfold fst1
    cases e : fst1 m c with
    | some i => exact ⟨i, rfl⟩
    | none =>
      by_cases e2 : j = m
      · subst e2; exact ⟨j, by simp only; rw [if_pos h]⟩
      · obtain ⟨i, hi⟩ := ih (by omega)
        rw [hi] at e; cases e
section
variable (n0 : Nat) (pi : Nat → Nat) (g n : Nat)
def gN (d x : Nat) (L : Nat → Bool) : Nat := (fst1 n0 (fun p => L p && fA2 pi g n x p && decide (0 < wW n0 pi g n d (pi p) (ex L p)))).getD 0
def gsq : Nat → Nat → (Nat → Bool) → Nat → Nat
  | 0, _, _, _ => 0
  | d + 1, x, L, 0 => gN n0 pi g n d x L
  | d + 1, x, L, k + 1 => gsq d (pi (gN n0 pi g n d x L)) (ex L (gN n0 pi g n d x L)) k
end
section
variable {n0 : Nat} {pi : Nat → Nat} {g n : Nat}
theorem gN_spec {d x : Nat} {L : Nat → Bool} (h : 0 < wW n0 pi g n (d + 1) x L) : fst1 n0 (fun p => L p && fA2 pi g n x p && decide (0 < wW n0 pi g n d (pi p) (ex L p))) = some (gN n0 pi g n d x L) ∧ gN n0 pi g n d x L < n0 ∧ L (gN n0 pi g n d x L) = true ∧ fA2 pi g n x (gN n0 pi g n d x L) = true ∧ 0 < wW n0 pi g n d (pi (gN n0 pi g n d x L)) (ex L (gN n0 pi g n d x L)) := by
  have h' : 0 < sm n0 (fun b => if L b && fA2 pi g n x b then wW n0 pi g n d (pi b) (ex L b) else 0) := h
  obtain ⟨b, b1, b2⟩ := sm_pos.mp h'
  by_cases c : (L b && fA2 pi g n x b) = true
  · rw [if_pos c] at b2
    obtain ⟨i, hi⟩ := fst1_ex (c := fun p => L p && fA2 pi g n x p && decide (0 < wW n0 pi g n d (pi p) (ex L p))) b1 (by rw [c, decide_eq_true b2]; rfl)
    have e : gN n0 pi g n d x L = i := by unfold gN; rw [hi]; rfl
    have hs := fst1_some hi
    have h3 : (L i = true ∧ fA2 pi g n x i = true) ∧ 0 < wW n0 pi g n d (pi i) (ex L i) := by simpa using hs.2.1
    rw [e]
    exact ⟨hi, hs.1, h3.1.1, h3.1.2, h3.2⟩
  · rw [if_neg c] at b2; omega
end
section
variable {M : j_M} {be : Nat → Nat} {g n : Nat}
theorem e_may (h : iB M 17 be) (w : wf be) (hg : g ≤ 60) (hn : n ≤ 9) {q p : Nat} (hq : q < be 0) (hp : p < be 0) : f_X9_mayFollow M (nI q) (nI p) (nI g) (nI n) = some (fl (fA2 (fun p => be (37 + p)) g n (be (37 + p)) q)) := by
  have h7 := w.1
  have a1 := (w.2.2.2.2.2.1 p hp).2.2
  have a2 := (w.2.2.2.2.2.1 q hq).2.2
  have hm := mf (g := g) (n := n) (a := be (37 + p)) (b := be (37 + q)) (by omega) hn a1 a2
  unfold f_X9_mayFollow
  rw [a_iN (by omega) (by omega), (h.2.2.2.2.1 p hp).2, a_iN (by omega) (by omega), (h.2.2.2.2.1 q hq).2]
  by_cases c : n * be (37 + p) ≤ g + n * be (37 + q)
  · rw [if_neg (fun x => by have := hm.mp x; omega), show fA2 (fun p => be (37 + p)) g n (be (37 + p)) q = true from decide_eq_true c]; rfl
  · rw [if_pos (hm.mpr (by omega)), show fA2 (fun p => be (37 + p)) g n (be (37 + p)) q = false from decide_eq_false c]; rfl
theorem e_rank (h : iB M 17 be) (w : wf be) {q p : Nat} (hq : q < be 0) (hp : p < be 0) : f_X9_ranksBelow M (nI q) (nI p) = some (fl (lt2 (fun p => be (37 + p)) q p)) := by
  have h7 := w.1
  have a1 := (w.2.2.2.2.2.1 p hp).2.2
  have a2 := (w.2.2.2.2.2.1 q hq).2.2
  unfold f_X9_ranksBelow
  rw [a_iN (by omega) (by omega), (h.2.2.2.2.1 q hq).2, a_iN (by omega) (by omega), (h.2.2.2.2.1 p hp).2]
  by_cases c : be (37 + q) < be (37 + p)
  · rw [if_pos (pk_sneg (by omega) c), show lt2 (fun p => be (37 + p)) q p = true from by unfold lt2; simp [c]]; rfl
  · rw [pk_sub (by omega), if_neg (nI_pos (by omega))]
    by_cases c2 : be (37 + q) = be (37 + p)
    · rw [if_pos (by rw [c2, Nat.sub_self]; rfl)]
      by_cases c3 : q < p
      · rw [if_neg (nI_ge c3 (by omega)), show lt2 (fun p => be (37 + p)) q p = true from by unfold lt2; simp [c2, c3]]; rfl
      · rw [if_pos (nI_le (by omega) (by omega)), show lt2 (fun p => be (37 + p)) q p = false from by unfold lt2; simp [c2]; omega]; rfl
    · rw [if_neg (nI_ne0 (by omega) (by omega)), show lt2 (fun p => be (37 + p)) q p = false from by unfold lt2; simp [c2]; omega]; rfl
theorem e_placesFor (h : iB M 17 be) (w : wf be) (hg : g ≤ 60) (hn : n ≤ 9) {p : Nat} (hp : p < be 0) (L : Nat → Bool) : f_X9_placesFor M (nI p) (nI (ms (be 0) L)) (nI g) (nI n) = some (nI (1 + ct (be 0) (fun q => L q && lt2 (fun p => be (37 + p)) q p && fA2 (fun p => be (37 + p)) g n (be (37 + p)) q))) := by
  have h7 := w.1
  have key : ∀ d q fuel K, q + d = be 0 → d < fuel → f_X9_placesFor_L6 fuel M (nI p) (nI (ms (be 0) L)) (nI g) (nI n) (nI (1 + ct q (fun q => L q && lt2 (fun p => be (37 + p)) q p && fA2 (fun p => be (37 + p)) g n (be (37 + p)) q))) (nI q) K = K (nI (1 + ct (be 0) (fun q => L q && lt2 (fun p => be (37 + p)) q p && fA2 (fun p => be (37 + p)) g n (be (37 + p)) q))) (nI (be 0)) := by
    intro d
    induction d with
    | zero =>
      intro q fuel K h1 h2
      obtain ⟨fuel, rfl⟩ : ∃ f, fuel = f + 1 := ⟨fuel - 1, by omega⟩
      rw [f_X9_placesFor_L6, h.1, if_pos (nI_le (by omega) (by omega)), show q = be 0 by omega]
    | succ d ih =>
      intro q fuel K h1 h2
      obtain ⟨fuel, rfl⟩ : ∃ f, fuel = f + 1 := ⟨fuel - 1, by omega⟩
      have hq : q < be 0 := by omega
      have ih' := ih (q + 1) fuel K (by omega) (by omega)
      rw [ct_s] at ih'
      rw [f_X9_placesFor_L6, h.1, if_neg (nI_ge (by omega) (by omega)), tlE, e_has h7 hq, nI_1]
      cases c1 : L q with
      | false =>
        rw [c1] at ih'
        rw [if_pos (show (if false = true then (1 : Int32) else 0) = 0 by decide)]
        exact ih'
      | true =>
        rw [c1] at ih'
        rw [if_pos rfl, if_neg (by decide), e_rank h w hq hp, Option.bind_some]
        cases c2 : lt2 (fun p => be (37 + p)) q p with
        | false =>
          rw [c2] at ih'
          rw [fl_f, if_pos rfl]
          exact ih'
        | true =>
          rw [c2] at ih'
          rw [fl_t, if_neg (by decide), e_may h w hg hn hq hp, Option.bind_some]
          cases c3 : fA2 (fun p => be (37 + p)) g n (be (37 + p)) q with
          | false =>
            rw [c3] at ih'
            rw [fl_f, if_pos rfl]
            exact ih'
          | true =>
            rw [c3] at ih'
            rw [fl_t, if_neg (by decide), nI_1]
            exact ih'
  unfold f_X9_placesFor
  have hj : 100000 < j_fu := by unfold j_fu; omega
  revert hj
  generalize j_fu = fu
  intro hj
  exact key (be 0) 0 fu _ (by omega) (by omega)
theorem e_ordersOf (h : iB M 17 be) (w : wf be) (hg : g ≤ 60) (hn : n ≤ 9) (L : Nat → Bool) : f_X9_ordersOf M (nI (ms (be 0) L)) (nI g) (nI n) = some (nI (pdt (be 0) (plc (be 0) (fun p => be (37 + p)) g n L))) := by
  have h7 := w.1
  have key : ∀ d p fuel K, p + d = be 0 → d < fuel → f_X9_ordersOf_L6 fuel M (nI (ms (be 0) L)) (nI g) (nI n) (nI (pdt p (plc (be 0) (fun p => be (37 + p)) g n L))) (nI p) K = K (nI (pdt (be 0) (plc (be 0) (fun p => be (37 + p)) g n L))) (nI (be 0)) := by
    intro d
    induction d with
    | zero =>
      intro p fuel K h1 h2
      obtain ⟨fuel, rfl⟩ : ∃ f, fuel = f + 1 := ⟨fuel - 1, by omega⟩
      rw [f_X9_ordersOf_L6, h.1, if_pos (nI_le (by omega) (by omega)), show p = be 0 by omega]
    | succ d ih =>
      intro p fuel K h1 h2
      obtain ⟨fuel, rfl⟩ : ∃ f, fuel = f + 1 := ⟨fuel - 1, by omega⟩
      have hp : p < be 0 := by omega
      have ih' := ih (p + 1) fuel K (by omega) (by omega)
      rw [show pdt (p + 1) (plc (be 0) (fun p => be (37 + p)) g n L) = pdt p (plc (be 0) (fun p => be (37 + p)) g n L) * plc (be 0) (fun p => be (37 + p)) g n L p from rfl] at ih'
      rw [f_X9_ordersOf_L6, h.1, if_neg (nI_ge (by omega) (by omega)), tlE, e_has h7 hp, nI_1]
      by_cases c : L p = true
      · rw [show plc (be 0) (fun p => be (37 + p)) g n L p = 1 + ct (be 0) (fun q => L q && lt2 (fun p => be (37 + p)) q p && fA2 (fun p => be (37 + p)) g n (be (37 + p)) q) from if_pos c] at ih'
        rw [if_pos c, if_neg (by decide), e_placesFor h w hg hn hp, Option.bind_some, pk_mul]
        exact ih'
      · rw [show plc (be 0) (fun p => be (37 + p)) g n L p = 1 from if_neg c, Nat.mul_one] at ih'
        rw [if_neg c, if_pos rfl]
        exact ih'
  unfold f_X9_ordersOf
  have hj : 100000 < j_fu := by unfold j_fu; omega
  revert hj
  generalize j_fu = fu
  intro hj
  exact key (be 0) 0 fu _ (by omega) (by omega)
theorem e_step (h : iB M 17 be) (w : wf be) (hg : g ≤ 60) (hn : n ≤ 9) {q p : Nat} (hq : q < be 0) (hp : p < be 0) (L : Nat → Bool) : ∃ b, f_X9_hasStepAbove M (nI q) (nI p) (nI (ms (be 0) L)) (nI g) (nI n) = some (fl b) ∧ (b = true ↔ ∃ r, r < be 0 ∧ L r = true ∧ be (37 + q) < be (37 + r) ∧ be (37 + r) ≤ be (37 + p) ∧ fA2 (fun p => be (37 + p)) g n (be (37 + r)) q = true) := by
  have h7 := w.1
  have hpc : ∀ q, q < be 0 → j_I M (17 + 4) q = nI (be (37 + q)) ∧ be (37 + q) ≤ 90 := fun q hq => ⟨(h.2.2.2.2.1 q hq).2, (w.2.2.2.2.2.1 q hq).2.2⟩
  have key : ∀ d r fuel, r + d = be 0 → d < fuel → (∀ r', r' < r → ¬ (L r' = true ∧ be (37 + q) < be (37 + r') ∧ be (37 + r') ≤ be (37 + p) ∧ fA2 (fun p => be (37 + p)) g n (be (37 + r')) q = true)) → ∃ b, f_X9_hasStepAbove_L3 fuel M (nI q) (nI p) (nI (ms (be 0) L)) (nI g) (nI n) (nI r) (fun (y22 : Int32) => (some (0 : Int32))) = some (fl b) ∧ (b = true ↔ ∃ r, r < be 0 ∧ L r = true ∧ be (37 + q) < be (37 + r) ∧ be (37 + r) ≤ be (37 + p) ∧ fA2 (fun p => be (37 + p)) g n (be (37 + r)) q = true) := by
    intro d
    induction d with
    | zero =>
      intro r fuel h1 h2 h3
      obtain ⟨fuel, rfl⟩ : ∃ f, fuel = f + 1 := ⟨fuel - 1, by omega⟩
      refine ⟨false, ?_, ⟨fun x => (by cases x), fun ⟨r', z1, z2⟩ => absurd z2 (h3 r' (by omega))⟩⟩
      rw [f_X9_hasStepAbove_L3, h.1, if_pos (nI_le (by omega) (by omega))]
      rfl
    | succ d ih =>
      intro r fuel h1 h2 h3
      obtain ⟨fuel, rfl⟩ : ∃ f, fuel = f + 1 := ⟨fuel - 1, by omega⟩
      have hr : r < be 0 := by omega
      have pr := hpc r hr
      have pq := hpc q hq
      have pp := hpc p hp
      have hjn : ∀ (F : Int32 → Option Int32), (if nI (be (37 + r)) ≤ nI (be (37 + q)) then (F (0 : Int32)) else (a_i M (17 + 4) 7 (nI r) fun v17 => (a_i M (17 + 4) 7 (nI p) fun v19 => (if v19 < v17 then (F (0 : Int32)) else (F (1 : Int32)))))) = F (fl (decide (be (37 + q) < be (37 + r)) && decide (be (37 + r) ≤ be (37 + p)))) := fun F => by
        by_cases c1 : be (37 + q) < be (37 + r)
        · rw [if_neg (nI_ge c1 (by omega)), a_iN (by omega) (by omega), pr.1, a_iN (by omega) (by omega), pp.1, decide_eq_true c1]
          by_cases c2 : be (37 + r) ≤ be (37 + p)
          · rw [if_neg (nI_nlt c2 (by omega)), decide_eq_true c2]; rfl
          · rw [if_pos (nI_lt (by omega) (by omega)), decide_eq_false c2]; rfl
        · rw [if_pos (nI_le (by omega) (by omega)), decide_eq_false c1]; rfl
      rw [f_X9_hasStepAbove_L3, h.1, if_neg (nI_ge (by omega) (by omega)), a_iN (by omega) (by omega), pr.1, a_iN (by omega) (by omega), pq.1, jnI hjn, tlE, e_has h7 hr, nI_1]
      by_cases cc : L r = true ∧ be (37 + q) < be (37 + r) ∧ be (37 + r) ≤ be (37 + p) ∧ fA2 (fun p => be (37 + p)) g n (be (37 + r)) q = true
      · refine ⟨true, ?_, ⟨fun _ => ⟨r, hr, cc⟩, fun _ => rfl⟩⟩
        rw [if_pos cc.1, if_neg (by decide), decide_eq_true cc.2.1, decide_eq_true cc.2.2.1, Bool.and_self, fl_t, if_neg (by decide), e_may h w hg hn hq hr, Option.bind_some, cc.2.2.2, fl_t, if_neg (by decide)]
      · obtain ⟨b, e1, e2⟩ := ih (r + 1) fuel (by omega) (by omega) (fun r' hr' => by
          by_cases e : r' = r
          · rw [e]; exact cc
          · exact h3 r' (by omega))
        refine ⟨b, ?_, e2⟩
        by_cases c1 : L r = true
        · rw [if_pos c1, if_neg (by decide)]
          by_cases c2 : be (37 + q) < be (37 + r) ∧ be (37 + r) ≤ be (37 + p)
          · rw [decide_eq_true c2.1, decide_eq_true c2.2, Bool.and_self, fl_t, if_neg (by decide), e_may h w hg hn hq hr, Option.bind_some]
            have c3 : fA2 (fun p => be (37 + p)) g n (be (37 + r)) q = false := Bool.eq_false_iff.mpr (fun x => cc ⟨c1, c2.1, c2.2, x⟩)
            rw [c3, fl_f, if_pos rfl]
            exact e1
          · have : (decide (be (37 + q) < be (37 + r)) && decide (be (37 + r) ≤ be (37 + p))) = false := by
              rw [Bool.eq_false_iff]
              simpa using c2
            rw [this, fl_f, if_pos rfl]
            exact e1
        · rw [if_neg c1, if_pos rfl]
          exact e1
  unfold f_X9_hasStepAbove
  have hj : 100000 < j_fu := by unfold j_fu; omega
  revert hj
  generalize j_fu = fu
  intro hj
  exact key (be 0) 0 fu (by omega) (by omega) (fun r' hr' => by omega)
theorem e_rest (h : iB M 17 be) (w : wf be) (hg : g ≤ 60) (hn : n ≤ 9) {p d : Nat} (hp : p < be 0) {L : Nat → Bool} (hL : L p = true) (hc : ct (be 0) L = d + 1) : f_X9_restMayFollow M (nI p) (nI (ms (be 0) L)) (nI g) (nI n) = some (fl (decide (0 < wW (be 0) (fun p => be (37 + p)) g n d (be (37 + p)) (ex L p)))) := by
  have h7 := w.1
  have hpc : ∀ q, q < be 0 → j_I M (17 + 4) q = nI (be (37 + q)) ∧ be (37 + q) ≤ 90 := fun q hq => ⟨(h.2.2.2.2.1 q hq).2, (w.2.2.2.2.2.1 q hq).2.2⟩
  have hce := ct_ex hp hL
  have hpos := w_pos (n0 := be 0) (pi := fun p => be (37 + p)) (g := g) (n := n) d (be (37 + p)) (ex L p) (by omega)
  have hiff : rC (be 0) (fun p => be (37 + p)) g n (be (37 + p)) (ex L p) ↔ ∀ q, q < be 0 → L q = true → be (37 + q) < be (37 + p) → ∃ r, r < be 0 ∧ L r = true ∧ be (37 + q) < be (37 + r) ∧ be (37 + r) ≤ be (37 + p) ∧ fA2 (fun p => be (37 + p)) g n (be (37 + r)) q = true := by
    have hex : ∀ q, ex L p q = true ↔ L q = true ∧ q ≠ p := fun q => by unfold ex; simp
    constructor
    · intro hr q hq hLq hlt
      have hne : q ≠ p := fun e => by rw [e] at hlt; omega
      rcases hr q hq ((hex q).mpr ⟨hLq, hne⟩) hlt with h2 | ⟨r, r1, r2, r3, r4, r5⟩
      · exact ⟨p, hp, hL, hlt, Nat.le_refl _, h2⟩
      · exact ⟨r, r1, ((hex r).mp r2).1, r3, r4, r5⟩
    · intro hr q hq hLq hlt
      obtain ⟨r, r1, r2, r3, r4, r5⟩ := hr q hq ((hex q).mp hLq).1 hlt
      by_cases e : r = p
      · rw [e] at r5; exact Or.inl r5
      · exact Or.inr ⟨r, r1, (hex r).mpr ⟨r2, e⟩, r3, r4, r5⟩
  rw [hiff] at hpos
  have key : ∀ d' q fuel, q + d' = be 0 → d' < fuel → (∀ q', q' < q → L q' = true → be (37 + q') < be (37 + p) → ∃ r, r < be 0 ∧ L r = true ∧ be (37 + q') < be (37 + r) ∧ be (37 + r) ≤ be (37 + p) ∧ fA2 (fun p => be (37 + p)) g n (be (37 + r)) q' = true) → f_X9_restMayFollow_L3 fuel M (nI p) (nI (ms (be 0) L)) (nI g) (nI n) (nI q) (fun (y13 : Int32) => (some (1 : Int32))) = some (fl (decide (0 < wW (be 0) (fun p => be (37 + p)) g n d (be (37 + p)) (ex L p)))) := by
    intro d'
    induction d' with
    | zero =>
      intro q fuel h1 h2 h3
      obtain ⟨fuel, rfl⟩ : ∃ f, fuel = f + 1 := ⟨fuel - 1, by omega⟩
      rw [f_X9_restMayFollow_L3, h.1, if_pos (nI_le (by omega) (by omega)), decide_eq_true (hpos.mpr (fun q' hq' => h3 q' (by omega)))]
      rfl
    | succ d' ih =>
      intro q fuel h1 h2 h3
      obtain ⟨fuel, rfl⟩ : ∃ f, fuel = f + 1 := ⟨fuel - 1, by omega⟩
      have hq : q < be 0 := by omega
      have pq := hpc q hq
      have pp := hpc p hp
      rw [f_X9_restMayFollow_L3, h.1, if_neg (nI_ge (by omega) (by omega)), tlE, e_has h7 hq, nI_1]
      by_cases c1 : L q = true
      · rw [if_pos c1, if_neg (by decide), a_iN (by omega) (by omega), pq.1, a_iN (by omega) (by omega), pp.1]
        by_cases c2 : be (37 + q) < be (37 + p)
        · obtain ⟨b, e1, e2⟩ := e_step h w hg hn hq hp L
          rw [if_neg (nI_ge c2 (by omega)), e1, Option.bind_some]
          cases b with
          | true =>
            rw [fl_t, if_neg (by decide)]
            exact ih (q + 1) fuel (by omega) (by omega) (fun q' hq' => by
              by_cases e : q' = q
              · rw [e]; exact fun _ _ => e2.mp rfl
              · exact h3 q' (by omega))
          | false =>
            have : ¬ 0 < wW (be 0) (fun p => be (37 + p)) g n d (be (37 + p)) (ex L p) := fun x => by
              have := e2.mpr (hpos.mp x q hq c1 c2)
              cases this
            rw [fl_f, if_pos rfl, decide_eq_false this]
            rfl
        · rw [if_pos (nI_le (by omega) (by omega))]
          exact ih (q + 1) fuel (by omega) (by omega) (fun q' hq' => by
            by_cases e : q' = q
            · rw [e]; exact fun _ x => absurd x c2
            · exact h3 q' (by omega))
      · rw [if_neg c1, if_pos rfl]
        exact ih (q + 1) fuel (by omega) (by omega) (fun q' hq' => by
          by_cases e : q' = q
          · rw [e]; exact fun x => absurd x c1
          · exact h3 q' (by omega))
  unfold f_X9_restMayFollow
  have hj : 100000 < j_fu := by unfold j_fu; omega
  revert hj
  generalize j_fu = fu
  intro hj
  exact key (be 0) 0 fu (by omega) (by omega) (fun q' hq' => by omega)
/-- who is ahead, if one is -/
def ahd (be : Nat → Nat) (a : Option Nat) : Nat := match a with
  | none => 0
  | some b => be (37 + b)
theorem e_nextS (h : iB M 17 be) (w : wf be) (hg : g ≤ 60) (hn : n ≤ 9) {d : Nat} {a : Option Nat} (ha : ∀ b, a = some b → b < be 0) {L : Nat → Bool} (hc : ct (be 0) L = d + 1) (hW : 0 < wW (be 0) (fun p => be (37 + p)) g n (d + 1) (ahd be a) L) : f_X9_nextStarter M (nI (ms (be 0) L)) (eN a) (nI g) (nI n) = some (nI (gN (be 0) (fun p => be (37 + p)) g n d (ahd be a) L)) := by
  have h7 := w.1
  obtain ⟨s1, s2, s3, s4, s5⟩ := gN_spec hW
  obtain ⟨f1, f2, f3⟩ := fst1_some s1
  have key : ∀ d' p fuel, p + d' = gN (be 0) (fun p => be (37 + p)) g n d (ahd be a) L → d' < fuel → f_X9_nextStarter_L3 fuel M (nI (ms (be 0) L)) (eN a) (nI g) (nI n) (nI p) (fun (y16 : Int32) => (some ((-1) : Int32))) = some (nI (gN (be 0) (fun p => be (37 + p)) g n d (ahd be a) L)) := by
    intro d' 
    have hjn : ∀ p, p < be 0 → ∀ (F : Int32 → Option Int32), (if (if L p = true then (1 : Int32) else 0) = 0 then (F (0 : Int32)) else (if eN a = ((-1) : Int32) then (F (1 : Int32)) else ((f_X9_mayFollow M (nI p) (eN a) (nI g) (nI n)).bind fun v13 => (if v13 = 0 then (F (0 : Int32)) else (F (1 : Int32)))))) = F (fl (L p && fA2 (fun p => be (37 + p)) g n (ahd be a) p)) := fun p hp F => by
      cases c1 : L p with
      | false => rfl
      | true =>
        rw [if_pos rfl, if_neg (by decide)]
        cases a with
        | none =>
          rw [if_pos (show eN none = -1 from rfl), show fA2 (fun p => be (37 + p)) g n (ahd be none) p = true from fA_self (Nat.zero_le _)]
          rfl
        | some b =>
          have hb := ha b rfl
          show (if nI b = -1 then _ else (f_X9_mayFollow M (nI p) (nI b) (nI g) (nI n)).bind _) = _
          rw [if_neg (nI_m1 (by omega)), e_may h w hg hn hp hb, Option.bind_some, Bool.true_and]
          show _ = F (fl (fA2 (fun p => be (37 + p)) g n (be (37 + b)) p))
          cases fA2 (fun p => be (37 + p)) g n (be (37 + b)) p <;> rfl
    induction d' with
    | zero =>
      intro p fuel h1 h2
      obtain ⟨fuel, rfl⟩ : ∃ f, fuel = f + 1 := ⟨fuel - 1, by omega⟩
      have hpg : p = gN (be 0) (fun p => be (37 + p)) g n d (ahd be a) L := by omega
      rw [← hpg] at s2 s3 s4 s5 ⊢
      rw [f_X9_nextStarter_L3, h.1, if_neg (nI_ge (by omega) (by omega)), tlE, e_has h7 s2, jnI (hjn p s2), s3, s4, Bool.and_self, fl_t, if_neg (by decide), e_rest h w hg hn s2 s3 hc, Option.bind_some, decide_eq_true s5, fl_t, if_neg (by decide)]
    | succ d' ih =>
      intro p fuel h1 h2
      obtain ⟨fuel, rfl⟩ : ∃ f, fuel = f + 1 := ⟨fuel - 1, by omega⟩
      have hp : p < be 0 := by omega
      have hnot := f3 p (by omega)
      rw [f_X9_nextStarter_L3, h.1, if_neg (nI_ge (by omega) (by omega)), tlE, e_has h7 hp, jnI (hjn p hp), nI_1]
      cases c : (L p && fA2 (fun p => be (37 + p)) g n (ahd be a) p) with
      | false =>
        rw [fl_f, if_pos rfl]
        exact ih (p + 1) fuel (by omega) (by omega)
      | true =>
        have c' : L p = true ∧ fA2 (fun p => be (37 + p)) g n (ahd be a) p = true := by simpa using c
        have : ¬ 0 < wW (be 0) (fun p => be (37 + p)) g n d (be (37 + p)) (ex L p) := fun x => hnot (by
          show (L p && fA2 (fun p => be (37 + p)) g n (ahd be a) p && decide (0 < wW (be 0) (fun p => be (37 + p)) g n d (be (37 + p)) (ex L p))) = true
          rw [c, decide_eq_true x]; rfl)
        rw [fl_t, if_neg (by decide), e_rest h w hg hn hp c'.1 hc, Option.bind_some, decide_eq_false this, fl_f, if_pos rfl]
        exact ih (p + 1) fuel (by omega) (by omega)
  unfold f_X9_nextStarter
  have hj : 100000 < j_fu := by unfold j_fu; omega
  revert hj
  generalize j_fu = fu
  intro hj
  exact key (gN (be 0) (fun p => be (37 + p)) g n d (ahd be a) L) 0 fu (by omega) (by omega)
theorem e_starter (h : iB M 17 be) (w : wf be) (hg : g ≤ 60) (hn : n ≤ 9) {i : Nat} {L : Nat → Bool} (hi : i < ct (be 0) L) : f_X9_starter M (nI (ms (be 0) L)) (nI g) (nI n) (nI i) = some (nI (gsq (be 0) (fun p => be (37 + p)) g n (ct (be 0) L) 0 L i)) := by
  have h7 := w.1
  have hct := ct_le (n := be 0) L
  have key : ∀ e place d a L fuel, place + e = i → i < place + (d + 1) → (∀ b, a = some b → b < be 0) → ct (be 0) L = d + 1 → 0 < wW (be 0) (fun p => be (37 + p)) g n (d + 1) (ahd be a) L → e + 1 < fuel → f_X9_starter_L9 fuel M (nI g) (nI n) (nI i) (nI (ms (be 0) L)) (eN a) (nI place) (fun (y6 : Int32) (y7 : Int32) (y8 : Int32) => (some y7)) = some (nI (gsq (be 0) (fun p => be (37 + p)) g n (d + 1) (ahd be a) L e)) := by
    intro e
    induction e with
    | zero =>
      intro place d a L fuel h1 h2 ha hc hW hf
      obtain ⟨fuel, rfl⟩ : ∃ f, fuel = f + 1 + 1 := ⟨fuel - 2, by omega⟩
      obtain ⟨s1, s2, s3, s4, s5⟩ := gN_spec hW
      rw [f_X9_starter_L9, if_neg (nI_nlt (by omega) (by omega)), i_7, if_neg (nI_ge (by omega) (by omega)), e_nextS h w hg hn ha hc hW, Option.bind_some, if_neg (nI_m1 (by omega)), f_X9_starter_L9, nI_1, if_pos (nI_lt (by omega) (by omega))]
      rfl
    | succ e ih =>
      intro place d a L fuel h1 h2 ha hc hW hf
      obtain ⟨fuel, rfl⟩ : ∃ f, fuel = f + 1 := ⟨fuel - 1, by omega⟩
      obtain ⟨s1, s2, s3, s4, s5⟩ := gN_spec hW
      obtain ⟨d, rfl⟩ : ∃ d', d = d' + 1 := ⟨d - 1, by omega⟩
      have hce := ct_ex s2 s3
      rw [f_X9_starter_L9, if_neg (nI_nlt (by omega) (by omega)), i_7, if_neg (nI_ge (by omega) (by omega)), e_nextS h w hg hn ha hc hW, Option.bind_some, if_neg (nI_m1 (by omega)), e_no h7 (by omega), nI_1]
      exact ih (place + 1) d (some (gN (be 0) (fun p => be (37 + p)) g n (d + 1) (ahd be a) L)) (ex L (gN (be 0) (fun p => be (37 + p)) g n (d + 1) (ahd be a) L)) fuel (by omega) (by omega) (fun b hb => by cases hb; exact s2) (by omega) s5 (by omega)
  obtain ⟨d, hd⟩ : ∃ d, ct (be 0) L = d + 1 := ⟨ct (be 0) L - 1, by omega⟩
  unfold f_X9_starter
  rw [hd]
  have hj : 100000 < j_fu := by unfold j_fu; omega
  revert hj
  generalize j_fu = fu
  intro hj
  exact key i 0 d none L fu (by omega) (by omega) (fun b hb => by cases hb) hd (w_total hd) (by omega)
end
