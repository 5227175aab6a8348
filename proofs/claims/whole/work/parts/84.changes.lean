/-! changes till nobody would -/
section
variable (be : Nat → Nat)
def toL (r : Nat → Nat) (p : Nat) : Nat := (bst (op be) (fun l => TK be p (oth r p l)) 4).getD 0
def cg (r : Nat → Nat) (p : Nat) : Bool := decide (TK be p (oth r p (toL be r p)) < TK be p (oth r p (r (1 + p))))
def sp (s : (Nat → Nat) × Nat) (p : Nat) : (Nat → Nat) × Nat := if s.2 < 60 ∧ cg be s.1 p = true then (up s.1 (1 + p) (toL be s.1 p), s.2 + 1) else s
def nx (p : Nat) : Nat := if p + 1 < be 0 then p + 1 else 0
def run : Nat → Nat → (Nat → Nat) × Nat → (Nat → Nat) × Nat
  | 0, _, s => s
  | k + 1, p, s => run k (nx be p) (sp be s p)
def ps : Nat → Nat → Nat
  | 0, p => p
  | k + 1, p => ps k (nx be p)
def stl (s : (Nat → Nat) × Nat) : Prop := 60 ≤ s.2 ∨ ∀ p, p < be 0 → ¬ cg be s.1 p = true
end
section
variable {be : Nat → Nat}
theorem nx_lt {p : Nat} (h : p < be 0) : nx be p < be 0 := by unfold nx; split <;> omega
theorem ps_lt {k p : Nat} (h : p < be 0) : ps be k p < be 0 := by
  induction k generalizing p with
  | zero => exact h
  | succ k ih => exact ih (nx_lt h)
theorem run_add {a b p : Nat} {s : (Nat → Nat) × Nat} : run be (a + b) p s = run be b (ps be a p) (run be a p s) := by
  induction a generalizing p s with
  | zero => rw [Nat.zero_add]; rfl
  | succ a ih => rw [show a + 1 + b = (a + b) + 1 by omega]; exact ih
theorem sp_stl {p : Nat} {s : (Nat → Nat) × Nat} (h : stl be s) (hp : p < be 0) : sp be s p = s := by
  unfold sp
  rw [if_neg]
  rintro ⟨h1, h2⟩
  rcases h with h | h
  · omega
  · exact h p hp h2
theorem run_stl {k p : Nat} {s : (Nat → Nat) × Nat} (h : stl be s) (hp : p < be 0) : run be k p s = s := by
  induction k generalizing p with
  | zero => rfl
  | succ k ih => show run be k (nx be p) (sp be s p) = s; rw [sp_stl h hp]; exact ih (nx_lt hp)
theorem run_uniq {k1 k2 p : Nat} {s s1 s2 : (Nat → Nat) × Nat} (hp : p < be 0) (h1 : run be k1 p s = s1) (h2 : run be k2 p s = s2) (t1 : stl be s1) (t2 : stl be s2) : s1 = s2 := by
  rcases Nat.le_total k1 k2 with h | h
  · have := run_add (be := be) (a := k1) (b := k2 - k1) (p := p) (s := s)
    rw [show k1 + (k2 - k1) = k2 by omega, h2, h1, run_stl t1 (ps_lt hp)] at this
    exact this.symm
  · have := run_add (be := be) (a := k2) (b := k1 - k2) (p := p) (s := s)
    rw [show k2 + (k1 - k2) = k1 by omega, h2, h1, run_stl t2 (ps_lt hp)] at this
    exact this
/-- rows whose swimmers are in open lanes -/
def rO (be r : Nat → Nat) : Prop := rB 8000 r ∧ ∀ q, q < be 0 → op be (r (1 + q)) = true
theorem toL_some {r : Nat → Nat} {p : Nat} (w : wf be) (hr : rO be r) (hp : p < be 0) : bst (op be) (fun l => TK be p (oth r p l)) 4 = some (toL be r p) ∧ toL be r p < 4 ∧ op be (toL be r p) = true := by
  have h7 := w.1
  obtain ⟨b, hb⟩ := bst_some (t := fun l => TK be p (oth r p l)) (l := 4) (hr.1.2 p (by omega)).1 (hr.2 p hp)
  have e : toL be r p = b := by unfold toL; rw [hb]; rfl
  have := bst_lt hb
  rw [e]
  exact ⟨hb, this.1, this.2⟩
theorem rO_up {r : Nat → Nat} {p l : Nat} (h7 : be 0 ≤ 7) (hr : rO be r) (hp : p < be 0) (hl : l < 4) (ho : op be l = true) : rO be (up r (1 + p) l) := by
  refine ⟨⟨by rw [up_n (by omega)]; exact hr.1.1, fun q hq => ?_⟩, fun q hq => ?_⟩
  · have h2 := hr.1.2 q hq
    rw [up_n (j := 8 + q) (by omega), up_n (j := 15 + q) (by omega)]
    by_cases e : q = p
    · rw [up_e (by omega)]; omega
    · rw [up_n (by omega)]; exact h2
  · by_cases e : q = p
    · rw [up_e (by omega)]; exact ho
    · rw [up_n (by omega)]; exact hr.2 q hq
theorem rO_sp {p : Nat} {s : (Nat → Nat) × Nat} (w : wf be) (hr : rO be s.1) (hp : p < be 0) : rO be (sp be s p).1 := by
  unfold sp
  split
  · obtain ⟨-, h2, h3⟩ := toL_some w hr hp
    exact rO_up w.1 hr hp h2 h3
  · exact hr
variable {M : j_M}
theorem pm_RW {t t' r : Nat → Nat} : pm (RW (pm M t 4) 2 r) t' 4 = RW (pm M t' 4) 2 r := by
  refine Prod.ext ?_ rfl
  funext b j
  show (if b = 25 ∧ j < 4 then nI (t' j) else if b = 2 ∧ j < 22 then nI (r j) else if b = 25 ∧ j < 4 then nI (t j) else M.1 b j) = if b = 2 ∧ j < 22 then nI (r j) else if b = 25 ∧ j < 4 then nI (t' j) else M.1 b j
  by_cases h : b = 25 ∧ j < 4
  · rw [if_pos h, if_neg (by omega), if_pos h]
  · rw [if_neg h, if_neg h, if_neg h]
theorem e_change9 {n : Nat} (h : iB M 17 be) (w : wf be) (hn : n = be 0) : ∀ d turn still p r c t fuel K, turn + d = 427 → p < be 0 → still ≤ be 0 → c ≤ 60 → turn ≤ c * be 0 + still → rO be r → (∀ q, q < be 0 → (q < p ∧ p ≤ q + still) ∨ (p ≤ q ∧ p + be 0 ≤ q + still) → ¬ cg be r q = true) → d < fuel → ∃ r' c' t' y1 y2 y3 k, f_X9_changeTillNobodyWould_L15 fuel 2 (RW (pm M t 4) 2 r) (nI c) (nI still) (nI p) (nI 427) (nI turn) K = K (nI c') y1 y2 y3 (RW (pm M t' 4) 2 r') ∧ stl be (r', c') ∧ run be k p (r, c) = (r', c') ∧ c' ≤ 60 ∧ rO be r' := by
  have h7 := w.1
  intro d
  induction d with
  | zero =>
    intro turn still p r c t fuel K h1 hp hs hc ht hr hu h2
    have hm : c * be 0 ≤ 60 * 7 := Nat.mul_le_mul hc h7
    obtain ⟨fuel, rfl⟩ : ∃ f, fuel = f + 1 := ⟨fuel - 1, by omega⟩
    refine ⟨r, c, t, nI still, nI p, nI turn, 0, ?_, ?_, rfl, hc, hr⟩
    · rw [f_X9_changeTillNobodyWould_L15, if_pos (nI_le (by omega) (by omega))]
    · by_cases hcc : c = 60
      · exact Or.inl (by show 60 ≤ c; omega)
      · have hm : c * be 0 ≤ 59 * 7 := Nat.mul_le_mul (by omega) h7
        exact Or.inr (fun q hq => hu q hq (by omega))
  | succ d ih =>
    intro turn still p r c t fuel K h1 hp hs hc ht hr hu h2
    obtain ⟨fuel, rfl⟩ : ∃ f, fuel = f + 1 := ⟨fuel - 1, by omega⟩
    have h9 : j_I (RW (pm M t 4) 2 r) 17 9 = nI (be 0) := by rw [I_RWn (by omega), I_pm' (by omega)]; exact h.1
    by_cases hst : be 0 ≤ still
    · refine ⟨r, c, t, nI still, nI p, nI turn, 0, ?_, ?_, rfl, hc, hr⟩
      · rw [f_X9_changeTillNobodyWould_L15, if_neg (nI_ge (by omega) (by omega)), h9, if_pos (nI_le hst (by omega))]
      · exact Or.inr (fun q hq => hu q hq (by omega))
    · by_cases hc6 : 60 ≤ c
      · refine ⟨r, c, t, nI still, nI p, nI turn, 0, ?_, Or.inl hc6, rfl, hc, hr⟩
        rw [f_X9_changeTillNobodyWould_L15, if_neg (nI_ge (by omega) (by omega)), h9, if_neg (nI_ge (by omega) (by omega)), i_60, if_pos (nI_le hc6 (by omega))]
      · obtain ⟨b1, b2, b3⟩ := toL_some w hr hp
        have hlt := hr.1.lt (by omega)
        have hl4 := (hr.1.2 p (by omega)).1
        have hB : iB (RW (pm M t 4) 2 r) 17 be := (h.pm).rw2
        have hR : iR (RW (pm M t 4) 2 r) 2 r := iR_RW hlt
        have hq := e_quickest hB w hp hR (by omega)
        rw [pm_RW, b1] at hq
        have hB' : iB (RW (pm M (fun l => TK be p (oth r p l)) 4) 2 r) 17 be := (h.pm).rw2
        have hR' : iR (RW (pm M (fun l => TK be p (oth r p l)) 4) 2 r) 2 r := iR_RW hlt
        have tb1 := TK_le (P := oth r p (toL be r p)) w hp
        have tb2 := TK_le (P := oth r p (r (1 + p))) w hp
        have h9' : ∀ r, j_I (RW (pm M (fun l => TK be p (oth r p l)) 4) 2 r) 17 9 = nI (be 0) := fun r => by rw [I_RWn (by omega), I_pm' (by omega)]; exact h.1
        have h9g : ∀ t r, j_I (RW (pm M t 4) 2 r) 17 9 = nI (be 0) := fun t r => by rw [I_RWn (by omega), I_pm' (by omega)]; exact h.1
        have hnx : ∀ r'' c'' st'', (if nI (be 0) ≤ nI (p + 1) then (f_X9_changeTillNobodyWould_L15 fuel 2 (RW (pm M (fun l => TK be p (oth r p l)) 4) 2 r'') (nI c'') (nI st'') (0 : Int32) (nI 427) (nI (turn + 1)) K) else (f_X9_changeTillNobodyWould_L15 fuel 2 (RW (pm M (fun l => TK be p (oth r p l)) 4) 2 r'') (nI c'') (nI st'') (nI (p + 1)) (nI 427) (nI (turn + 1)) K)) = f_X9_changeTillNobodyWould_L15 fuel 2 (RW (pm M (fun l => TK be p (oth r p l)) 4) 2 r'') (nI c'') (nI st'') (nI (nx be p)) (nI 427) (nI (turn + 1)) K := fun r'' c'' st'' => by
          unfold nx
          by_cases cc : p + 1 < be 0
          · rw [if_neg (nI_ge cc (by omega)), if_pos cc]
          · rw [if_pos (nI_le (by omega) (by omega)), if_neg cc]; rfl
        have hnx2 : nx be p = p + 1 ∧ p + 1 < be 0 ∨ nx be p = 0 ∧ p + 1 = be 0 := by
          unfold nx
          by_cases cc : p + 1 < be 0
          · rw [if_pos cc]; exact Or.inl ⟨rfl, cc⟩
          · rw [if_neg cc]; exact Or.inr ⟨rfl, by omega⟩
        have hmul : (c + 1) * be 0 = c * be 0 + be 0 := Nat.succ_mul c (be 0)
        by_cases hcg : cg be r p = true
        · have hcg' : TK be p (oth r p (toL be r p)) < TK be p (oth r p (r (1 + p))) := of_decide_eq_true hcg
          obtain ⟨r', c', t', y1, y2, y3, k, e1, e2, e3, e4, e5⟩ := ih (turn + 1) 0 (nx be p) (up r (1 + p) (toL be r p)) (c + 1) (fun l => TK be p (oth r p l)) fuel K (by omega) (nx_lt hp) (by omega) (by omega) (by omega) (rO_up h7 hr hp b2 b3) (fun q hq hh => by omega) (by omega)
          refine ⟨r', c', t', y1, y2, y3, k + 1, ?_, e2, ?_, e4, e5⟩
          · rw [f_X9_changeTillNobodyWould_L15, if_neg (nI_ge (by omega) (by omega)), h9, if_neg (nI_ge (by omega) (by omega)), i_60, if_neg (nI_ge (by omega) (by omega)), hq, Option.bind_some, j_ckE (by rfl), jn3E]
            show (if nI (toL be r p) = -1 then _ else _) = _
            rw [if_neg (nI_m1 (by omega))]
            show (f_X0_takesIn (RW (pm M (fun l => TK be p (oth r p l)) 4) 2 r) 17 2 (nI p) (nI (toL be r p))).bind _ = _
            rw [E_takesIn hB' w hp hR' (by omega), Option.bind_some, show (1 : Int32) + nI p = nI (1 + p) from nI_add 1 p, a_iN (by omega) (by omega), I_RWe (by omega), E_takesIn hB' w hp hR' (by omega), Option.bind_some, if_neg (nI_ge hcg' (by omega)), w_iN (by omega) (by omega)]
            show (if j_I (j_sI (RW (pm M (fun l => TK be p (oth r p l)) 4) 2 r) 2 (1 + p) (nI (toL be r p))) 17 9 ≤ nI p + 1 then f_X9_changeTillNobodyWould_L15 fuel 2 (j_sI (RW (pm M (fun l => TK be p (oth r p l)) 4) 2 r) 2 (1 + p) (nI (toL be r p))) (nI c + 1) 0 0 (nI 427) (nI turn + 1) K else f_X9_changeTillNobodyWould_L15 fuel 2 (j_sI (RW (pm M (fun l => TK be p (oth r p l)) 4) 2 r) 2 (1 + p) (nI (toL be r p))) (nI c + 1) 0 (nI p + 1) (nI 427) (nI turn + 1) K) = _
            rw [RW_set (by omega), h9g, nI_1, nI_1, nI_1]
            exact (hnx (up r (1 + p) (toL be r p)) (c + 1) 0).trans e1
          · show run be k (nx be p) (sp be (r, c) p) = _
            rw [show sp be (r, c) p = (up r (1 + p) (toL be r p), c + 1) from if_pos ⟨by show c < 60; omega, hcg⟩]
            exact e3
        · have hcg' : ¬ TK be p (oth r p (toL be r p)) < TK be p (oth r p (r (1 + p))) := fun x => hcg (decide_eq_true x)
          obtain ⟨r', c', t', y1, y2, y3, k, e1, e2, e3, e4, e5⟩ := ih (turn + 1) (still + 1) (nx be p) r c (fun l => TK be p (oth r p l)) fuel K (by omega) (nx_lt hp) (by omega) (by omega) (by omega) hr (fun q hq hh => by
            by_cases e : q = p
            · rw [e]; exact hcg
            · exact hu q hq (by omega)) (by omega)
          refine ⟨r', c', t', y1, y2, y3, k + 1, ?_, e2, ?_, e4, e5⟩
          · rw [f_X9_changeTillNobodyWould_L15, if_neg (nI_ge (by omega) (by omega)), h9, if_neg (nI_ge (by omega) (by omega)), i_60, if_neg (nI_ge (by omega) (by omega)), hq, Option.bind_some, j_ckE (by rfl), jn3E]
            show (if nI (toL be r p) = -1 then _ else _) = _
            rw [if_neg (nI_m1 (by omega))]
            show (f_X0_takesIn (RW (pm M (fun l => TK be p (oth r p l)) 4) 2 r) 17 2 (nI p) (nI (toL be r p))).bind _ = _
            rw [E_takesIn hB' w hp hR' (by omega), Option.bind_some, show (1 : Int32) + nI p = nI (1 + p) from nI_add 1 p, a_iN (by omega) (by omega), I_RWe (by omega), E_takesIn hB' w hp hR' (by omega), Option.bind_some, if_pos (nI_le (by omega) (by omega))]
            show (if j_I (RW (pm M (fun l => TK be p (oth r p l)) 4) 2 r) 17 9 ≤ nI p + 1 then _ else _) = _
            rw [h9', nI_1, nI_1, nI_1]
            exact (hnx r c (still + 1)).trans e1
          · show run be k (nx be p) (sp be (r, c) p) = _
            rw [show sp be (r, c) p = (r, c) from if_neg (fun x => hcg x.2)]
            exact e3
/-- the model's round -/
theorem e_change10a {x1 : Int32} (h : iM M 36 0 be) (w : wf be) : ∀ d k r c b la g s o fuel K, k + d = be 0 → c ≤ 60 → rO be r → (∀ q, q < be 0 → la q = nI (r (1 + q))) → d < fuel → ∃ r' c' b' y la' g' s' o', f_X10_changes_L42 fuel (st M la g s o) x1 (nI c) (fl b) (nI k) K = K (nI c') (fl b') y (st M la' g' s' o') ∧ run be d k (r, c) = (r', c') ∧ c' ≤ 60 ∧ rO be r' ∧ (∀ q, q < be 0 → la' q = nI (r' (1 + q))) ∧ (b' = false → b = false ∧ c' = c ∧ r' = r ∧ (c < 60 → ∀ q, k ≤ q → q < be 0 → ¬ cg be r q = true)) ∧ (b = false → b' = true → c < c') ∧ c ≤ c' := by
  have h7 := w.1
  intro d
  induction d with
  | zero =>
    intro k r c b la g s o fuel K h1 hc hr hla h2
    obtain ⟨fuel, rfl⟩ : ∃ f, fuel = f + 1 := ⟨fuel - 1, by omega⟩
    refine ⟨r, c, b, nI k, la, g, s, o, ?_, rfl, hc, hr, hla, fun hb => ⟨hb, rfl, rfl, fun _ q h3 h4 => by omega⟩, fun h3 h4 => ?_, Nat.le_refl _⟩
    · rw [f_X10_changes_L42, E_many h, Option.bind_some, if_pos (nI_le (by omega) (by omega))]
    · rw [h3] at h4; cases h4
  | succ d ih =>
    intro k r c b la g s o fuel K h1 hc hr hla h2
    obtain ⟨fuel, rfl⟩ : ∃ f, fuel = f + 1 := ⟨fuel - 1, by omega⟩
    have hk : k < be 0 := by omega
    have hla' : ∀ q, q < be 0 → la q = nI (r (1 + q)) ∧ r (1 + q) < 2 ^ 31 := fun q hq => ⟨hla q hq, by have := (hr.1.2 q (by omega)).1; omega⟩
    by_cases hc6 : 60 ≤ c
    · refine ⟨r, c, b, nI k, la, g, s, o, ?_, run_stl (Or.inl hc6) hk, hc, hr, hla, fun hb => ⟨hb, rfl, rfl, fun h3 => by omega⟩, fun h3 h4 => ?_, Nat.le_refl _⟩
      · rw [f_X10_changes_L42, E_many h, Option.bind_some, if_neg (nI_ge (by omega) (by omega)), i_60, if_pos (nI_le hc6 (by omega))]
      · rw [h3] at h4; cases h4
    · obtain ⟨b1, b2, b3⟩ := toL_some w hr hk
      obtain ⟨g1, s1, o1, e1⟩ := e_bestOf (la := la) (g := g) (s := s) (o := o) h w hk
      rw [bst_congr (fun l hl => TK_oL (r := r) hla' (by omega)), b1] at e1
      have tb1 := TK_le (P := oth r k (toL be r k)) w hk
      have tb2 := TK_le (P := oth r k (r (1 + k))) w hk
      have hl4 := (hr.1.2 k (by omega)).1
      have hnx : d = 0 ∨ nx be k = k + 1 := by
        by_cases cc : k + 1 < be 0
        · right; unfold nx; rw [if_pos cc]
        · left; omega
      have hrun : ∀ s, run be d (nx be k) s = run be d (k + 1) s := fun s => by
        rcases hnx with e | e
        · subst e; rfl
        · rw [e]
      have hhead : ∃ g2 s2 o2, f_X10_changes_L42 (fuel + 1) (st M la g s o) x1 (nI c) (fl b) (nI k) K = (if cg be r k then (f_X10_changes_L42 fuel (st M (fun q => if q = k then nI (toL be r k) else la q) g2 s2 o2) x1 (nI (c + 1)) (fl true) (nI (k + 1)) K) else (f_X10_changes_L42 fuel (st M la g2 s2 o2) x1 (nI c) (fl b) (nI (k + 1)) K)) := by
        have e2 := E_sec (la := la) (g := g1) (s := s1) (o := o1) h w hk (nI (toL be r k))
        have e3 := fun g s o => E_sec (la := la) (g := g) (s := s) (o := o) h w hk (nI (r (1 + k)))
        rw [TK_oL (r := r) hla' (by omega)] at e2
        rw [TK_oL (r := r) hla' (by omega)] at e3
        refine ⟨nI (gp (be 0) (fun p => be (37 + p)) (oL la k (nI (r (1 + k))))), nI (sl (be 0) (fun p => be (37 + p)) k (oL la k (nI (r (1 + k))))), nI (ct (be 0) (oL la k (nI (r (1 + k))))), ?_⟩
        rw [f_X10_changes_L42, E_many h, Option.bind_some, if_neg (nI_ge (by omega) (by omega)), i_60, if_neg (nI_ge (by omega) (by omega)), e1, Option.bind_some, j_ckE (by rfl)]
        show (f_X10_secondsIn (st M la g1 s1 o1) (nI k) (nI (toL be r k))).bind _ = _
        rw [e2, Option.bind_some, j_ckE (by rfl), a_iN (by omega) (by omega), I_st40 (by omega), hla k hk, e3, Option.bind_some, j_ckE (by rfl)]
        by_cases hcg : cg be r k = true
        · have hcg' : TK be k (oth r k (toL be r k)) < TK be k (oth r k (r (1 + k))) := of_decide_eq_true hcg
          rw [if_pos hcg, if_neg (nI_ge hcg' (by omega)), w_iN (by omega) (by omega)]
          show f_X10_changes_L42 fuel (j_sI (st M la _ _ _) 40 k (nI (toL be r k))) x1 (nI c + 1) 1 (nI k + 1) K = _
          rw [st_set (by omega), nI_1, nI_1]
          rfl
        · have hcg' : ¬ TK be k (oth r k (toL be r k)) < TK be k (oth r k (r (1 + k))) := fun x => hcg (decide_eq_true x)
          rw [if_neg hcg, if_pos (nI_le (by omega) (by omega)), nI_1]
      obtain ⟨g2, s2, o2, hhead⟩ := hhead
      by_cases hcg : cg be r k = true
      · rw [if_pos hcg] at hhead
        obtain ⟨r', c', b', y, la', g', s', o', f1, f2, f3, f4, f5, f6, f7, f8⟩ := ih (k + 1) (up r (1 + k) (toL be r k)) (c + 1) true (fun q => if q = k then nI (toL be r k) else la q) g2 s2 o2 fuel K (by omega) (by omega) (rO_up h7 hr hk b2 b3) (fun q hq => by
          by_cases e : q = k
          · rw [if_pos e, up_e (by omega)]
          · rw [if_neg e, up_n (by omega)]; exact hla q hq) (by omega)
        refine ⟨r', c', b', y, la', g', s', o', by rw [hhead]; exact f1, ?_, f3, f4, f5, fun hb => ?_, fun _ _ => by omega, by omega⟩
        · show run be d (nx be k) (sp be (r, c) k) = _
          rw [show sp be (r, c) k = (up r (1 + k) (toL be r k), c + 1) from if_pos ⟨by show c < 60; omega, hcg⟩, hrun]
          exact f2
        · have := (f6 hb).1
          cases this
      · rw [if_neg hcg] at hhead
        obtain ⟨r', c', b', y, la', g', s', o', f1, f2, f3, f4, f5, f6, f7, f8⟩ := ih (k + 1) r c b la g2 s2 o2 fuel K (by omega) hc hr hla (by omega)
        refine ⟨r', c', b', y, la', g', s', o', by rw [hhead]; exact f1, ?_, f3, f4, f5, fun hb => ?_, f7, f8⟩
        · show run be d (nx be k) (sp be (r, c) k) = _
          rw [show sp be (r, c) k = (r, c) from if_neg (fun x => hcg x.2), hrun]
          exact f2
        · obtain ⟨i1, i2, i3, i4⟩ := f6 hb
          refine ⟨i1, i2, i3, fun h6 q hq1 hq2 => ?_⟩
          by_cases e : q = k
          · rw [e]; exact hcg
          · exact i4 h6 q (by omega) hq2
theorem ps_n {p k : Nat} (h : p + k < be 0) : ps be k p = p + k := by
  induction k generalizing p with
  | zero => rfl
  | succ k ih =>
    show ps be k (nx be p) = _
    have : nx be p = p + 1 := by unfold nx; rw [if_pos (by omega)]
    rw [this, ih (by omega)]
    omega
theorem ps_round (h0 : 0 < be 0) : ps be (be 0) 0 = 0 := by
  have h1 := ps_n (be := be) (p := 0) (k := be 0 - 1) (by omega)
  have h2 : ∀ a b p, ps be (a + b) p = ps be b (ps be a p) := fun a => by
    induction a with
    | zero => intro b p; rw [Nat.zero_add]; rfl
    | succ a ih => intro b p; rw [show a + 1 + b = (a + b) + 1 by omega]; exact ih b (nx be p)
  have h3 := h2 (be 0 - 1) 1 0
  rw [show be 0 - 1 + 1 = be 0 by omega, h1] at h3
  rw [h3]
  show nx be (0 + (be 0 - 1)) = 0
  unfold nx
  rw [if_neg (by omega)]
theorem e_change10 {x1 : Int32} (h : iM M 36 0 be) (w : wf be) (h0 : 0 < be 0) : ∀ m r c la g s o fuel K, 60 ≤ c + m → c ≤ 60 → rO be r → (∀ q, q < be 0 → la q = nI (r (1 + q))) → m + 2 < fuel → ∃ r' c' y k la' g' s' o', f_X10_changes_L33 fuel (st M la g s o) x1 (nI c) (1 : Int32) K = K (nI c') y (st M la' g' s' o') ∧ stl be (r', c') ∧ run be k 0 (r, c) = (r', c') ∧ (∀ q, q < be 0 → la' q = nI (r' (1 + q))) := by
  have h7 := w.1
  intro m
  induction m with
  | zero =>
    intro r c la g s o fuel K hm hc hr hla hf
    obtain ⟨fuel, rfl⟩ : ∃ f, fuel = f + 1 + 1 := ⟨fuel - 2, by omega⟩
    obtain ⟨r', c', b', y, la', g', s', o', f1, f2, f3, f4, f5, f6, f7, f8⟩ := e_change10a (x1 := x1) h w (be 0) 0 r c false la g s o j_fu (fun (y33 : Int32) (y34 : Int32) (y35 : Int32) (M36 : j_M) => (if y34 = 0 then (f_X10_changes_L33 (fuel + 1) M36 x1 y33 (0 : Int32) K) else (if (60 : Int32) ≤ y33 then (f_X10_changes_L33 (fuel + 1) M36 x1 y33 (0 : Int32) K) else (f_X10_changes_L33 (fuel + 1) M36 x1 y33 (1 : Int32) K)))) (by omega) hc hr hla (by unfold j_fu; omega)
    refine ⟨r', c', 0, be 0, la', g', s', o', ?_, Or.inl (by show 60 ≤ c'; omega), f2, f5⟩
    rw [f_X10_changes_L33, if_neg (by decide)]
    refine f1.trans ?_
    try dsimp only
    cases b' with
    | false => rw [fl_f, if_pos rfl, f_X10_changes_L33, if_pos rfl]
    | true => rw [fl_t, if_neg (by decide), i_60, if_pos (nI_le (by omega) (by omega)), f_X10_changes_L33, if_pos rfl]
  | succ m ih =>
    intro r c la g s o fuel K hm hc hr hla hf
    obtain ⟨fuel, rfl⟩ : ∃ f, fuel = f + 1 + 1 := ⟨fuel - 2, by omega⟩
    obtain ⟨r', c', b', y, la', g', s', o', f1, f2, f3, f4, f5, f6, f7, f8⟩ := e_change10a (x1 := x1) h w (be 0) 0 r c false la g s o j_fu (fun (y33 : Int32) (y34 : Int32) (y35 : Int32) (M36 : j_M) => (if y34 = 0 then (f_X10_changes_L33 (fuel + 1) M36 x1 y33 (0 : Int32) K) else (if (60 : Int32) ≤ y33 then (f_X10_changes_L33 (fuel + 1) M36 x1 y33 (0 : Int32) K) else (f_X10_changes_L33 (fuel + 1) M36 x1 y33 (1 : Int32) K)))) (by omega) hc hr hla (by unfold j_fu; omega)
    cases b' with
    | false =>
      obtain ⟨-, i2, i3, i4⟩ := f6 rfl
      refine ⟨r', c', 0, be 0, la', g', s', o', ?_, ?_, f2, f5⟩
      · rw [f_X10_changes_L33, if_neg (by decide)]
        refine f1.trans ?_
        try dsimp only
        rw [fl_f, if_pos rfl, f_X10_changes_L33, if_pos rfl]
      · by_cases h6 : 60 ≤ c
        · exact Or.inl (by show 60 ≤ c'; omega)
        · exact Or.inr (fun q hq => by show ¬ cg be r' q = true; rw [i3]; exact i4 (by omega) q (by omega) hq)
    | true =>
      have hcc := f7 rfl rfl
      by_cases h6 : 60 ≤ c'
      · refine ⟨r', c', 0, be 0, la', g', s', o', ?_, Or.inl h6, f2, f5⟩
        rw [f_X10_changes_L33, if_neg (by decide)]
        refine f1.trans ?_
        try dsimp only
        rw [fl_t, if_neg (by decide), i_60, if_pos (nI_le h6 (by omega)), f_X10_changes_L33, if_pos rfl]
      · obtain ⟨r2, c2, y2, k2, la2, g2, s2, o2, j1, j2, j3, j4⟩ := ih r' c' la' g' s' o' (fuel + 1) K (by omega) f3 f4 f5 (by omega)
        refine ⟨r2, c2, y2, be 0 + k2, la2, g2, s2, o2, ?_, j2, ?_, j4⟩
        · rw [f_X10_changes_L33, if_neg (by decide)]
          refine f1.trans ?_
          try dsimp only
          rw [fl_t, if_neg (by decide), i_60, if_neg (nI_ge (by omega) (by omega))]
          exact j1
        · rw [run_add, ps_round h0, f2]
          exact j3
end
theorem m1_64 : (-1 : Int32).toInt64.toInt = -1 := by decide
/-- an argument that may be none -/
theorem rgM {M : j_M} {x : Int32} {n : Nat} (h1 : j_I M 17 9 = nI n) (h7 : n ≤ 7) : (x = -1 ∧ f_X10_in x.toInt64 ((-1) : Int64) ((nI n - (1 : Int32)).toInt64) = 1) ∨ (∃ j, j < n ∧ x = nI j ∧ f_X9_isOne M x = 1 ∧ f_X10_in x.toInt64 ((-1) : Int64) ((nI n - (1 : Int32)).toInt64) = 1) ∨ (¬ x = -1 ∧ f_X9_isOne M x = 0 ∧ f_X10_in x.toInt64 ((-1) : Int64) ((nI n - (1 : Int32)).toInt64) = 0) := by
  unfold f_X9_isOne f_X10_in
  rw [h1]
  simp only [cmp_neg, cmp_pos, one_m h7, Int32.toInt_toInt64]
  simp only [Int32.lt_iff_toInt_lt, Int32.le_iff_toInt_le, nI_toInt (show n < 2 ^ 31 by omega)]
  have e0 : (0 : Int32).toInt = 0 := rfl
  have e1 : ((-1) : Int64).toInt = -1 := by decide
  rw [e0, e1]
  by_cases c1 : x.toInt < -1
  · right; right
    refine ⟨fun e => ?_, by simp [show x.toInt < 0 by omega], by simp [c1]⟩
    rw [e] at c1
    exact absurd c1 (by decide)
  · by_cases c2 : x.toInt = -1
    · left
      refine ⟨Int32.toInt_inj.mp c2, ?_⟩
      rw [if_neg c1, if_neg (by omega)]
    · by_cases c3 : (n : Int) ≤ x.toInt
      · right; right
        refine ⟨fun e => ?_, by rw [if_neg (by omega), if_pos c3], by rw [if_neg c1, if_pos (by omega)]⟩
        rw [e] at c3
        have : (-1 : Int32).toInt = -1 := by decide
        omega
      · right; left
        refine ⟨x.toInt.toNat, by omega, ?_, by rw [if_neg (by omega), if_neg c3], by rw [if_neg c1, if_neg (by omega)]⟩
        apply Int32.toInt_inj.mp
        rw [nI_toInt (by omega)]
        omega
theorem bind_ten {M : j_M} : ((f_X9_badAsTen M).bind fun q => j_ck M q.2 (some (q.1, q.2))) = some (-10, j_sI M 0 (9 + 0) (j_I M 0 (9 + 0) + 1)) := by
  unfold f_X9_badAsTen
  rw [e_bad, Option.bind_some, j_ckE (by rfl), Option.bind_some, j_ckE (by rfl)]
theorem rO_row {be : Nat → Nat} (w : wf be) : rO be (rowOf be) := by
  refine ⟨⟨(rB_row w).1, fun q hq => by have := (rB_row w).2 q hq; have h1 : be 1 ≤ 999 := w.2.2.2.2.2.2.1.1; omega⟩, fun q hq => ?_⟩
  rw [rowOf_1]
  exact decide_eq_true (w.2.2.2.2.2.2.1.2.2.1 q hq)
theorem nI_any (x : Int32) : nI x.toBitVec.toNat = x := by
  apply Int32.toBitVec_inj.mp
  show BitVec.ofNat 32 x.toBitVec.toNat = x.toBitVec
  simp
theorem e_changes9 {M : j_M} {be : Nat → Nat} (h : iB M 17 be) (w : wf be) : ∃ r' c' t', (∀ x1, (c_i M (17 + 5) 22 (0 : Int32) 2 22 (0 : Int32) (22 : Int32) fun M2 => ((f_X9_changeTillNobodyWould M2 2).bind fun q5 => j_ck M2 q5.2 (if x1 = ((-1) : Int32) then (some (q5.1, q5.2)) else (a_i q5.2 2 22 ((1 : Int32) + x1) fun v10 => (some (v10, q5.2)))))) = (if x1 = ((-1) : Int32) then (some (nI c', RW (pm M t' 4) 2 r')) else (a_i (RW (pm M t' 4) 2 r') 2 22 ((1 : Int32) + x1) fun v10 => (some (v10, RW (pm M t' 4) 2 r'))))) ∧ (be 0 = 0 ∧ c' = 0 ∨ 0 < be 0 ∧ ∃ k, stl be (r', c') ∧ run be k 0 (rowOf be, 0) = (r', c')) := by
  have h7 := w.1
  have hhd : ∃ r' c' t', f_X9_changeTillNobodyWould (RW M 2 (rowOf be)) 2 = some (nI c', RW (pm M t' 4) 2 r') ∧ (be 0 = 0 ∧ c' = 0 ∨ 0 < be 0 ∧ ∃ k, stl be (r', c') ∧ run be k 0 (rowOf be, 0) = (r', c')) := by
    have ht0 : pm M (fun j => (j_I M 25 j).toBitVec.toNat) 4 = M := by
      refine Prod.ext ?_ rfl
      funext b j
      show (if b = 25 ∧ j < 4 then nI (j_I M 25 j).toBitVec.toNat else j_I M b j) = j_I M b j
      by_cases c : b = 25 ∧ j < 4
      · rw [if_pos c, nI_any, c.1]
      · rw [if_neg c]
    unfold f_X9_changeTillNobodyWould
    by_cases h0 : be 0 = 0
    · refine ⟨rowOf be, 0, (fun j => (j_I M 25 j).toBitVec.toNat), ?_, Or.inl ⟨h0, rfl⟩⟩
      rw [ht0]
      have hj : 100000 < j_fu := by unfold j_fu; omega
      revert hj
      generalize j_fu = fu
      intro hj
      obtain ⟨f, rfl⟩ : ∃ f, fu = f + 1 := ⟨fu - 1, by omega⟩
      rw [f_X9_changeTillNobodyWould_L15, if_neg (by decide), I_RWn (by omega), h.1, h0, if_pos (by decide)]
      rfl
    · obtain ⟨r', c', t', y1, y2, y3, k, e1, e2, e3, e4, e5⟩ := e_change9 (M := M) h w rfl 427 0 0 0 (rowOf be) 0 (fun j => (j_I M 25 j).toBitVec.toNat) j_fu (fun (y29 : Int32) (y30 : Int32) (y31 : Int32) (y32 : Int32) (M33 : j_M) => (some (y29, M33))) (by omega) (by omega) (by omega) (by omega) (by omega) (rO_row w) (fun q hq hh => by omega) (by unfold j_fu; omega)
      rw [ht0] at e1
      exact ⟨r', c', t', e1, Or.inr ⟨by omega, k, e2, e3⟩⟩
  obtain ⟨r', c', t', e1, e2⟩ := hhd
  refine ⟨r', c', t', fun x1 => ?_, e2⟩
  rw [show (22 : Int32) = nI 22 from rfl, show (0 : Int32) = nI 0 from rfl, c_iN (by omega) (by omega) (by omega) (by omega)]
  show (f_X9_changeTillNobodyWould (j_cp M 22 0 2 0 22) 2).bind _ = _
  rw [cp_RW h, e1, Option.bind_some, j_ckE (by rfl)]
theorem e_changes10 {M : j_M} {be : Nat → Nat} (h : iM M 36 0 be) (w : wf be) : ∀ x1, ∃ r' c' la' g' s' o', ((f_X10_layHand M).bind fun q6 => j_ck M q6 (f_X10_changes_L33 j_fu  q6 x1 (0 : Int32) (1 : Int32) (fun (y40 : Int32) (y41 : Int32) (M42 : j_M) => (if x1 = ((-1) : Int32) then (some (y40, M42)) else (a_i M42 40 7 x1 fun v45 => (some (v45, M42))))))) = (if x1 = ((-1) : Int32) then (some (nI c', st M la' g' s' o')) else (a_i (st M la' g' s' o') 40 7 x1 fun v45 => (some (v45, st M la' g' s' o')))) ∧ (be 0 = 0 ∧ c' = 0 ∨ 0 < be 0 ∧ ∃ k, stl be (r', c') ∧ run be k 0 (rowOf be, 0) = (r', c')) ∧ (∀ q, q < be 0 → la' q = nI (r' (1 + q))) := by
  have h7 := w.1
  intro x1
  obtain ⟨la, g, s, o, e1, e2⟩ := E_hand h w
  by_cases h0 : be 0 = 0
  · refine ⟨rowOf be, 0, la, g, s, o, ?_, Or.inl ⟨h0, rfl⟩, fun q hq => by omega⟩
    rw [e1, Option.bind_some, j_ckE (by rfl)]
    have hj : 100000 < j_fu := by unfold j_fu; omega
    obtain ⟨f, hf⟩ : ∃ f, j_fu = f + 1 + 1 := ⟨j_fu - 2, by omega⟩
    rw [hf, f_X10_changes_L33, if_neg (by decide), hf, f_X10_changes_L42, E_many h, Option.bind_some, if_pos (by rw [h0]; decide), if_pos rfl, f_X10_changes_L33, if_pos rfl]
    rfl
  · obtain ⟨r', c', y, k, la', g', s', o', f1, f2, f3, f4⟩ := e_change10 (x1 := x1) h w (by omega) 60 (rowOf be) 0 la g s o j_fu (fun (y40 : Int32) (y41 : Int32) (M42 : j_M) => (if x1 = ((-1) : Int32) then (some (y40, M42)) else (a_i M42 40 7 x1 fun v45 => (some (v45, M42))))) (by omega) (by omega) (rO_row w) (fun q hq => (e2 q hq).1) (by unfold j_fu; omega)
    refine ⟨r', c', la', g', s', o', ?_, Or.inr ⟨by omega, k, f2, f3⟩, f4⟩
    rw [e1, Option.bind_some, j_ckE (by rfl)]
    exact f1
theorem op_changes (a1 : Int32) : lw_ok Inv (fun M => f_X9_changes M a1) (fun M => f_X10_changes M a1) := by
  refine okI (fun M h => ?_)
  obtain ⟨be, b1, b2, b3⟩ := h.2.2.2.2.1
  have h7 := b3.1
  obtain ⟨r', c', t', e9, u9⟩ := e_changes9 b1 b3
  have b2' : iM (RW (pm M t' 4) 2 r') 36 0 be := b2.to (fun k => by rw [I_RWn (by omega), I_pm' (by omega)])
  have nb1 : nb M (RW (pm M t' 4) 2 r') := ⟨fun a k hs => by rw [I_RWn (by unfold scr at hs; omega), I_pm' (by unfold scr at hs; omega)], fun _ _ _ => rfl, rfl⟩
  have hmany : f_X10_many (RW (pm M t' 4) 2 r') = some (nI (be 0)) := e_many (b2'.at (by omega))
  rcases rgM (x := a1) b1.1 h7 with ⟨x0, x1⟩ | ⟨p, hp, x0, x1, x2⟩ | ⟨x0, x1, x2⟩
  · obtain ⟨r2, c2, la, g, s, o, e10, u10, hla⟩ := e_changes10 b2' b3 a1
    have hc : c2 = c' := by
      rcases u9 with ⟨q1, q2⟩ | ⟨q0, k, q1, q2⟩
      · rcases u10 with ⟨p1, p2⟩ | ⟨p0, k', p1, p2⟩ <;> omega
      · rcases u10 with ⟨p1, p2⟩ | ⟨p0, k', p1, p2⟩
        · omega
        · have := run_uniq q0 q2 p2 q1 p1
          cases this
          rfl
    refine ok_nb h (v := nI c') (M1 := RW (pm M t' 4) 2 r') (M2 := st (RW (pm M t' 4) 2 r') la g s o) ?_ nb1 ?_ st_nb
    · show f_X9_changes M a1 = _
      unfold f_X9_changes
      rw [if_pos x0]
      rw [e9 a1, if_pos x0]
    · show f_X10_changes _ a1 = _
      unfold f_X10_changes
      rw [hmany, Option.bind_some, tlE, x1, if_neg (by decide)]
      rw [e10, if_pos x0, hc]
  · subst x0
    obtain ⟨r2, c2, la, g, s, o, e10, u10, hla⟩ := e_changes10 b2' b3 (nI p)
    have hc : r2 = r' := by
      rcases u9 with ⟨q1, q2⟩ | ⟨q0, k, q1, q2⟩
      · omega
      · rcases u10 with ⟨p1, p2⟩ | ⟨p0, k', p1, p2⟩
        · omega
        · have := run_uniq q0 q2 p2 q1 p1
          cases this
          rfl
    have hm1 : ¬ nI p = (-1 : Int32) := nI_m1 (by omega)
    refine ok_nb h (v := nI (r' (1 + p))) (M1 := RW (pm M t' 4) 2 r') (M2 := st (RW (pm M t' 4) 2 r') la g s o) ?_ nb1 ?_ st_nb
    · show f_X9_changes M (nI p) = _
      unfold f_X9_changes
      rw [if_neg hm1, tlE, x1, if_neg (by decide)]
      rw [e9 (nI p), if_neg hm1, show (1 : Int32) + nI p = nI (1 + p) from nI_add 1 p, a_iN (by omega) (by omega), I_RWe (by omega)]
    · show f_X10_changes _ (nI p) = _
      unfold f_X10_changes
      rw [hmany, Option.bind_some, tlE, x2, if_neg (by decide)]
      rw [e10, if_neg hm1, a_iN (by omega) (by omega), I_st40 (by omega), hla p hp, hc]
  · refine ok_ref h 0 (by omega) (v := (-10 : Int32)) ?_ ?_
    · show f_X9_changes M a1 = _
      unfold f_X9_changes
      rw [if_neg x0, tlE, x1, if_pos rfl, bind_ten]
    · show f_X10_changes _ a1 = _
      unfold f_X10_changes
      rw [e_many (n := be 0) (by rw [I_sIn (by omega)]; exact b2.at (by omega)), Option.bind_some, tlE, x2, if_pos rfl, bind_bad10]
