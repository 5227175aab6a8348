/-! all together: the class -/
def pkM (M M' : j_M) : Prop := (∀ a k, (a < 3 ∨ 6 < a) → j_I M' a k = j_I M a k) ∧ M'.2 = M.2
theorem pkM.rf {M : j_M} : pkM M M := ⟨fun _ _ _ => rfl, rfl⟩
theorem pkM.tr {M M' M2 : j_M} (h : pkM M M') (g : pkM M' M2) : pkM M M2 := ⟨fun a k c => (g.1 a k c).trans (h.1 a k c), g.2.trans h.2⟩
theorem pkM.sI {M M' : j_M} {a k : Nat} {v : Int32} (h : pkM M M') (ha : 3 ≤ a ∧ a ≤ 6) : pkM M (j_sI M' a k v) := ⟨fun b j c => by rw [I_sIn (by omega)]; exact h.1 b j c, h.2⟩
def Ps (be : Nat → Nat) (M : j_M) (p : Nat) (f : Nat → Nat) (F : Nat) (B : Nat → Nat) : Prop := j_I M 3 3 = nI F ∧ (∀ l, l < 4 → j_I M 4 l = nI (ms (be 0) (gr p f l))) ∧ (∀ q, q < p → j_I M 5 q = nI (f q)) ∧ (∀ q, q < be 0 → j_I M 6 q = nI (B q))
def can (be : Nat → Nat) (p : Nat) (f : Nat → Nat) : Prop := ∀ l l', l < l' → l' < 4 → op be l = true → op be l' = true → (∃ q, q < p ∧ f q = l') → ∃ q, q < p ∧ f q = l
section
variable {be : Nat → Nat}
theorem iB.pk {M M' : j_M} (h : iB M 17 be) (g : pkM M M') : iB M' 17 be := h.to (fun a k _ _ => g.1 a k (by omega))
theorem placeK_s {k : Nat} {M : j_M} {a b : Int32} : f_X4_placeK (k + 1) M a b = f_X4_placeB (f_X4_placeK k) M a b := rfl
theorem gr_ms0 {p l : Nat} {f : Nat → Nat} (hp : p ≤ be 0) : ms (be 0) (gr p f l) = 0 ↔ ∀ q, q < p → f q ≠ l := by
  constructor
  · intro h q hq e
    exact ms_eq0 h q (by omega) (by unfold gr; simp [hq, e])
  · intro h
    apply Classical.byContradiction
    intro c
    obtain ⟨q, h1, h2⟩ := ms_ne0 c
    unfold gr at h2
    simp at h2
    exact h q h2.1 h2.2
/-- behind an empty lane nothing is better -/
theorem bst_stop {d p l l0 : Nat} {f : Nat → Nat} (w : wf be) (hp : p + 1 + d ≤ be 0) (hc : can be p f) (h0 : l0 < l) (hl : l ≤ 4) (o0 : op be l0 = true) (e0 : ∀ q, q < p → f q ≠ l0) : bst (op be) (tl4 be d p f) 4 = bst (op be) (tl4 be d p f) l := by
  have ht : ∀ j, tl4 be d p f j ≤ 1000000 := fun j => mm_le w (by omega)
  have ht0 : tl4 be d p f l0 < 1000000 := by
    have := mm_840 (d := d) (p := p + 1) (f := up f p l0) w (show l0 < 4 by omega) o0 hp
    show mm be d (p + 1) (up f p l0) < 1000000
    omega
  have key : ∀ e, l + e ≤ 4 → bst (op be) (tl4 be d p f) (l + e) = bst (op be) (tl4 be d p f) l := fun e => by
    induction e with
    | zero => intro _; rfl
    | succ e ih =>
      intro h
      have ih' := ih (by omega)
      by_cases c : op be (l + e) = true
      · have hs := tl4_sym (d := d) w (show l0 < 4 by omega) (show l + e < 4 by omega) o0 c hp e0 (fun q hq x => by
          obtain ⟨q', h1, h2⟩ := hc l0 (l + e) (by omega) (by omega) o0 c ⟨q, hq, x⟩
          exact e0 q' h1 h2)
        have hm := bst_min (k := l0) (l := l + e) (show l0 < l + e by omega) o0 ht
        rw [← Nat.add_assoc, bst_open c (by omega), if_pos (by omega)]
        exact ih'
      · rw [← Nat.add_assoc, bst_shut c]
        exact ih'
  have := key (4 - l) (by omega)
  rwa [show l + (4 - l) = 4 by omega] at this
theorem can_up {p l : Nat} {f : Nat → Nat} (hc : can be p f) (hb : ∀ k, k < l → op be k = true → ∃ q, q < p ∧ f q = k) : can be (p + 1) (up f p l) := by
  intro a b hab hb4 oa ob hq
  obtain ⟨q, h1, h2⟩ := hq
  have old : ∀ k, (∃ q, q < p ∧ f q = k) → ∃ q, q < p + 1 ∧ up f p l q = k := fun k ⟨q, h1, h2⟩ => ⟨q, by omega, by rw [up_n (by omega)]; exact h2⟩
  by_cases e : q = p
  · rw [up_e e] at h2
    subst h2
    exact old a (hb a hab oa)
  · rw [up_n e] at h2
    exact old a (hc a b hab hb4 oa ob ⟨q, by omega, h2⟩)
theorem e_place (w : wf be) : ∀ d p f F B M k, p + d = be 0 → d < k → iB M 17 be → Ps be M p f F B → can be p f → F ≤ 1000000 → ∃ M', f_X4_placeK k M (nI p) (nI (tT2 be p f)) = some M' ∧ pkM M M' ∧ Ps be M' p f (uF F (mm be d p f)) (uB F (mm be d p f) B (am be d p f)) := by
  have h7 := w.1
  intro d
  induction d with
  | zero =>
    intro p f F B M k h1 hk hb hP hc hF
    obtain ⟨k, rfl⟩ : ∃ j, k = j + 1 := ⟨k - 1, by omega⟩
    obtain ⟨p1, p2, p3, p4⟩ := hP
    have hT := tT2_le (f := f) w (show p ≤ be 0 by omega)
    rw [placeK_s]
    unfold f_X4_placeB
    by_cases c : tT2 be p f < F
    · refine ⟨j_cp (j_sI M 3 3 (nI (tT2 be p f))) 5 0 6 0 7, ?_, ⟨fun a j ha => by rw [I_cpn (by omega), I_sIn (by omega)], rfl⟩, ?_⟩
      · rw [p1, if_pos (nI_lt c (by omega)), hb.1, if_pos (nI_le (by omega) (by omega)), tlE, show (7 : Int32) = nI 7 from rfl, show (0 : Int32) = nI 0 from rfl, c_iN (by omega) (by omega) (by omega) (by omega)]
      · unfold uF uB
        rw [show mm be 0 p f = tT2 be p f from rfl, if_pos c]
        refine ⟨by rw [I_cpn (by omega), I_sIe (by omega)], fun l hl => by rw [I_cpn (by omega), I_sIn (by omega)]; exact p2 l hl, fun q hq => by rw [I_cpn (by omega), I_sIn (by omega)]; exact p3 q hq, fun q hq => ?_⟩
        rw [I_cpe (by omega), I_sIn (by omega), show 0 + (q - 0) = q by omega, p3 q (by omega)]
        dsimp only
        rw [if_pos c]
        rfl
    · refine ⟨M, ?_, pkM.rf, ?_⟩
      · rw [p1, if_neg (nI_nlt (by omega) (by omega))]
      · unfold uF uB
        rw [show mm be 0 p f = tT2 be p f from rfl, if_neg c]
        exact ⟨p1, p2, p3, fun q hq => by dsimp only; rw [if_neg c]; exact p4 q hq⟩
  | succ d ih =>
    intro p f F B M k h1 hk hb hP hc hF
    obtain ⟨k, rfl⟩ : ∃ j, k = j + 1 := ⟨k - 1, by omega⟩
    have hT := tT2_le (f := f) w (show p ≤ be 0 by omega)
    have hp : p < be 0 := by omega
    have ht : ∀ j, tl4 be d p f j ≤ 1000000 := fun j => mm_le w (by omega)
    rw [placeK_s]
    unfold f_X4_placeB
    by_cases c : tT2 be p f < F
    · have key : ∀ e l b M1 fuel K, l + e = 4 → e < fuel → pkM M M1 → Ps be M1 p f (uF F (fw (tl4 be d p f) (bst (op be) (tl4 be d p f) l))) (uB F (fw (tl4 be d p f) (bst (op be) (tl4 be d p f) l)) B (amo be d p f (bst (op be) (tl4 be d p f) l))) → (b = false → ∀ j, j < l → op be j = true → ∃ q, q < p ∧ f q = j) → (b = true → ∃ l0, l0 < l ∧ op be l0 = true ∧ ∀ q, q < p → f q ≠ l0) → ∃ M' y1 y2, f_X4_place_L50 (f_X4_placeK k) fuel M1 (nI p) (nI (tT2 be p f)) (fl b) (nI l) K = K y1 y2 M' ∧ pkM M M' ∧ Ps be M' p f (uF F (fw (tl4 be d p f) (bst (op be) (tl4 be d p f) 4))) (uB F (fw (tl4 be d p f) (bst (op be) (tl4 be d p f) 4)) B (amo be d p f (bst (op be) (tl4 be d p f) 4))) := by
        intro e
        induction e with
        | zero =>
          intro l b M1 fuel K g1 g2 g3 g4 g5 g6
          obtain ⟨fuel, rfl⟩ : ∃ f, fuel = f + 1 := ⟨fuel - 1, by omega⟩
          refine ⟨M1, fl b, nI l, ?_, g3, ?_⟩
          · rw [f_X4_place_L50, i_4, if_pos (nI_le (by omega) (by omega))]
          · rw [show l = 4 by omega] at g4; exact g4
        | succ e ihe =>
          intro l b M1 fuel K g1 g2 g3 g4 g5 g6
          obtain ⟨fuel, rfl⟩ : ∃ f, fuel = f + 1 := ⟨fuel - 1, by omega⟩
          cases b with
          | true =>
            obtain ⟨l0, z1, z2, z3⟩ := g6 rfl
            have hst := bst_stop (d := d) w (by omega) hc z1 (by omega) z2 z3
            refine ⟨M1, fl true, nI l, ?_, g3, ?_⟩
            · rw [f_X4_place_L50, i_4, if_neg (nI_ge (by omega) (by omega)), if_neg (by decide)]
            · rw [hst]; exact g4
          | false =>
            have hB1 := hb.pk g3
            by_cases co : op be l = true
            · obtain ⟨p1, p2, p3, p4⟩ := g4
              have ht1 : tl4 be d p f l < 1000000 := by
                have := mm_840 (d := d) (p := p + 1) (f := up f p l) w (show l < 4 by omega) co (by omega)
                show mm be d (p + 1) (up f p l) < 1000000
                omega
              obtain ⟨u1, u2⟩ := u_open (B := B) co ht1 hF
              have hFl : uF F (fw (tl4 be d p f) (bst (op be) (tl4 be d p f) l)) ≤ 1000000 := by unfold uF; split <;> omega
              obtain ⟨M24, hM24⟩ : ∃ M24, M24 = j_sI (j_sI M1 5 p (nI l)) 4 l (nI (ms (be 0) (gr (p + 1) (up f p l) l))) := ⟨_, rfl⟩
              have q24 : pkM M M24 := by rw [hM24]; exact (g3.sI (by omega)).sI (by omega)
              have hgl : ∀ l' q, l' ≠ l → gr (p + 1) (up f p l) l' q = gr p f l' q := fun l' q hne => by
                unfold gr
                by_cases e1 : q = p
                · subst e1
                  rw [up_e rfl]
                  have : ¬ l = l' := fun x => hne x.symm
                  simp [this]
                · rw [up_n e1]
                  have e2 : (q < p + 1) ↔ q < p := by omega
                  simp [e2]
              have hP24 : Ps be M24 (p + 1) (up f p l) (uF F (fw (tl4 be d p f) (bst (op be) (tl4 be d p f) l))) (uB F (fw (tl4 be d p f) (bst (op be) (tl4 be d p f) l)) B (amo be d p f (bst (op be) (tl4 be d p f) l))) := by
                rw [hM24]
                refine ⟨by rw [I_sIn (by omega), I_sIn (by omega)]; exact p1, fun l' hl' => ?_, fun q hq => ?_, fun q hq => by rw [I_sIn (by omega), I_sIn (by omega)]; exact p4 q hq⟩
                · by_cases e1 : l' = l
                  · subst e1; rw [I_sIe (by omega)]
                  · rw [I_sIn (by omega), I_sIn (by omega), p2 l' hl', ms_congr (fun q _ => hgl l' q e1)]
                · rw [I_sIn (by omega)]
                  by_cases e1 : q = p
                  · rw [I_sIe (by omega), up_e e1]
                  · rw [I_sIn (by omega), up_n e1]; exact p3 q (by omega)
              obtain ⟨M31, r1, r2, r3⟩ := ih (p + 1) (up f p l) _ _ M24 k (by omega) (by omega) (hb.pk q24) hP24 (can_up hc (g5 rfl)) hFl
              have hM35 : Ps be (j_sI M31 4 l (nI (ms (be 0) (gr p f l)))) p f (uF F (fw (tl4 be d p f) (bst (op be) (tl4 be d p f) (l + 1)))) (uB F (fw (tl4 be d p f) (bst (op be) (tl4 be d p f) (l + 1))) B (amo be d p f (bst (op be) (tl4 be d p f) (l + 1)))) := by
                obtain ⟨s1, s2, s3, s4⟩ := r3
                refine ⟨?_, fun l' hl' => ?_, fun q hq => ?_, fun q hq => ?_⟩
                · rw [I_sIn (by omega), s1]
                  exact congrArg nI u1
                · by_cases e1 : l' = l
                  · subst e1; rw [I_sIe (by omega)]
                  · rw [I_sIn (by omega), s2 l' hl', ms_congr (fun q _ => hgl l' q e1)]
                · rw [I_sIn (by omega), s3 q (by omega), up_n (by omega)]
                · rw [I_sIn (by omega), s4 q hq]
                  exact congrArg nI (u2 q)
              have hq35 : pkM M (j_sI M31 4 l (nI (ms (be 0) (gr p f l)))) := (q24.tr r2).sI (by omega)
              obtain ⟨b', hb'⟩ : ∃ b' : Bool, b' = decide (ms (be 0) (gr p f l) = 0) := ⟨_, rfl⟩
              obtain ⟨M', y1, y2, t1, t2, t3⟩ := ihe (l + 1) b' (j_sI M31 4 l (nI (ms (be 0) (gr p f l)))) fuel K (by omega) (by omega) hq35 hM35 (fun hbf j hj oj => by
                by_cases e1 : j = l
                · subst e1
                  rw [hb'] at hbf
                  have := of_decide_eq_false hbf
                  obtain ⟨q, h1, h2⟩ := ms_ne0 this
                  unfold gr at h2
                  simp at h2
                  exact ⟨q, h2.1, h2.2⟩
                · exact g5 rfl j (by omega) oj) (fun hbt => by
                rw [hb'] at hbt
                exact ⟨l, by omega, co, (gr_ms0 (by omega)).mp (of_decide_eq_true hbt)⟩)
              refine ⟨M', y1, y2, ?_, t2, t3⟩
              have hlt := ms_lt7 (P := gr p f l) h7
              have hjn : ∀ (F : Int32 → Option j_M), (if nI (ms (be 0) (gr p f l)) = 0 then F (1 : Int32) else F (0 : Int32)) = F (fl b') := fun F => by
                rw [hb']
                by_cases e1 : ms (be 0) (gr p f l) = 0
                · rw [if_pos (by rw [e1]; rfl), decide_eq_true e1]; rfl
                · rw [if_neg (nI_ne0 (by omega) (by omega)), decide_eq_false e1]; rfl
              have hor : nI (ms (be 0) (gr p f l)) ||| ((1 : Int32) <<< (nI p &&& 31)) = nI (ms (be 0) (gr (p + 1) (up f p l) l)) := by
                rw [e_or h7 hp]
                congr 1
                refine ms_congr (fun q _ => ?_)
                unfold gr
                by_cases e1 : q = p
                · subst e1; rw [up_e rfl]; simp
                · rw [up_n e1]
                  have e2 : (q < p + 1) ↔ q < p := by omega
                  have e3 : (q == p) = false := beq_eq_false_iff_ne.mpr e1
                  simp [e2, e3]
              have hB24 := hb.pk q24
              rw [f_X4_place_L50, i_4, if_neg (nI_ge (by omega) (by omega)), if_pos (show fl false = 0 from rfl), e_open9 hB1 (by omega), Option.bind_some, if_pos co, if_neg (by decide), a_iN (by omega) (by omega), p2 l (by omega), jnI hjn, w_iN (by omega) (by omega), w_iN (by omega) (by omega), hor, ← hM24, E_takes hB24 w hp, Option.bind_some, e_costTo hB24 w hp, Option.bind_some, nI_add, nI_add, ← tT2_s w hp, nI_1, r1, Option.bind_some, j_ckE (by rw [r2.2]), w_iN (by omega) (by omega), nI_1]
              exact t1
            · obtain ⟨M', y1, y2, t1, t2, t3⟩ := ihe (l + 1) false M1 fuel K (by omega) (by omega) g3 (by rw [bst_shut co]; exact g4) (fun _ j hj oj => by
                by_cases e1 : j = l
                · subst e1; exact absurd oj co
                · exact g5 rfl j (by omega) oj) (fun hh => by cases hh)
              refine ⟨M', y1, y2, ?_, t2, t3⟩
              rw [f_X4_place_L50, i_4, if_neg (nI_ge (by omega) (by omega)), if_pos (show fl false = 0 from rfl), e_open9 hB1 (by omega), Option.bind_some, if_neg co, if_pos rfl, nI_1]
              exact t1
      have hP0 : Ps be M p f (uF F (fw (tl4 be d p f) (bst (op be) (tl4 be d p f) 0))) (uB F (fw (tl4 be d p f) (bst (op be) (tl4 be d p f) 0)) B (amo be d p f (bst (op be) (tl4 be d p f) 0))) := by
        have e0 : fw (tl4 be d p f) (bst (op be) (tl4 be d p f) 0) = 1000000 := rfl
        rw [e0]
        unfold uF uB
        rw [if_neg (by omega)]
        obtain ⟨p1, p2, p3, p4⟩ := hP
        exact ⟨p1, p2, p3, fun q hq => by dsimp only; rw [if_neg (by omega)]; exact p4 q hq⟩
      obtain ⟨M', y1, y2, t1, t2, t3⟩ := key 4 0 false M j_fu (fun (y38 : Int32) (y39 : Int32) (M40 : j_M) => (some M40)) (by omega) (by unfold j_fu; omega) pkM.rf hP0 (fun _ j hj => by omega) (fun hh => by cases hh)
      refine ⟨M', ?_, t2, ?_⟩
      · rw [hP.1, if_pos (nI_lt c (by omega)), hb.1, if_neg (nI_ge (by omega) (by omega)), i_7, if_pos (nI_lt (by omega) (by omega))]
        exact t1
      · rw [mm_s, am_s]; exact t3
    · have hm := tT2_le_mm (f := f) w h1
      refine ⟨M, ?_, pkM.rf, ?_⟩
      · rw [hP.1, if_neg (nI_nlt (by omega) (by omega))]
      · unfold uF uB
        rw [if_neg (by omega)]
        obtain ⟨p1, p2, p3, p4⟩ := hP
        exact ⟨p1, p2, p3, fun q hq => by dsimp only; rw [if_neg (by omega)]; exact p4 q hq⟩
end
