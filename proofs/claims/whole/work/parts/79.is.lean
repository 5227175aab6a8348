/-! what one is, where to look -/
def al : Nat → (Nat → Bool) → Bool
  | 0, _ => true
  | n + 1, f => al n f && f n
theorem al_iff {n : Nat} {f : Nat → Bool} : al n f = true ↔ ∀ i, i < n → f i = true := by
  induction n with
  | zero => exact ⟨fun _ i hi => by omega, fun _ => rfl⟩
  | succ n ih =>
    simp only [al, Bool.and_eq_true, ih]
    constructor
    · intro h i hi
      by_cases e : i = n
      · rw [e]; exact h.2
      · exact h.1 i (by omega)
    · intro h
      exact ⟨fun i hi => h i (by omega), h n (by omega)⟩
def nk (be : Nat → Nat) (p k pc : Nat) : Nat → Bool := fun i => !(be (44 + 5 * i) == p) || (be (44 + 5 * i + 1) == sec k pc (be (44 + 5 * i + 2)) (be (44 + 5 * i + 3)) (be (44 + 5 * i + 4)))
def fl (b : Bool) : Int32 := if b then 1 else 0
theorem fl_t : fl true = 1 := rfl
theorem fl_f : fl false = 0 := rfl
theorem zb_fl {ρ : Type} {b : Bool} {k : Option ρ} : z_b (fl b) k = k := by
  unfold z_b
  cases b <;> exact if_pos (by decide)
theorem e_notesFit {M : j_M} {be : Nat → Nat} {p k pc : Nat} (h : iB M 17 be) (w : wf be) (hp : p < 7) (hk : k < 6) (hc : pc ≤ 90) : f_X0_notesFit M 17 (nI p) (nI k) (nI pc) = some (fl (al (be 2) (nk be p k pc))) := by
  have h6 := w.2.1
  have key : ∀ d i fuel, i + d = be 2 → d < fuel → al i (nk be p k pc) = true → f_X0_notesFit_L3 fuel 17 M (nI p) (nI k) (nI pc) (nI i) (fun (y18 : Int32) => (some (1 : Int32))) = some (fl (al (be 2) (nk be p k pc))) := by
    intro d
    induction d with
    | zero =>
      intro i fuel h1 h2 ha
      obtain ⟨fuel, rfl⟩ : ∃ f, fuel = f + 1 := ⟨fuel - 1, by omega⟩
      rw [f_X0_notesFit_L3, h.2.2.1, if_pos (nI_le (by omega) (by omega)), ← (show i = be 2 by omega), ha]
      rfl
    | succ d ih =>
      intro i fuel h1 h2 ha
      obtain ⟨fuel, rfl⟩ : ∃ f, fuel = f + 1 := ⟨fuel - 1, by omega⟩
      have hi : i < be 2 := by omega
      have hn : ∀ j, j < 5 → j_I M (17 + 7) (i * 5 + j) = nI (be (44 + 5 * i + j)) := fun j hj => by rw [h.2.2.2.2.2.2.2 (i * 5 + j) (by omega), show 44 + (i * 5 + j) = 44 + 5 * i + j by omega]
      have hw := w.2.2.2.2.2.2.2.2 i hi
      have hn0 := hn 0 (by omega)
      simp only [Nat.add_zero] at hn0
      rw [f_X0_notesFit_L3, h.2.2.1, if_neg (nI_ge (by omega) (by omega)), kdN hk, i_5, pk_mul, i_2, nI_add, a_iN (by omega) (by omega), hn 2 (by omega), i_3, nI_add, a_iN (by omega) (by omega), hn 3 (by omega), i_4, nI_add, a_iN (by omega) (by omega), hn 4 (by omega), tlE, e_kt hk (by omega) (by omega) (by omega) (by omega), a_iN (by omega) (by omega), hn0]
      have hs : sec k pc (be (44 + 5 * i + 2)) (be (44 + 5 * i + 3)) (be (44 + 5 * i + 4)) ≤ 108 := sec_le (by omega) (by omega) (by omega) (by omega)
      by_cases c : nk be p k pc i = true
      · have ih' := ih (i + 1) fuel (by omega) (by omega) (by simp only [al, ha, c, Bool.and_self])
        by_cases c1 : be (44 + 5 * i) = p
        · have c2 : be (44 + 5 * i + 1) = sec k pc (be (44 + 5 * i + 2)) (be (44 + 5 * i + 3)) (be (44 + 5 * i + 4)) := by simpa [nk, c1] using c
          rw [if_pos (by rw [c1]), nI_1 (i * 5), a_iN (by omega) (by omega), hn 1 (by omega), if_pos (by rw [c2]), nI_1]
          exact ih'
        · rw [if_neg (by rw [nI_eq (by omega) (by omega)]; exact c1), nI_1]
          exact ih'
      · have c1 : be (44 + 5 * i) = p ∧ ¬ be (44 + 5 * i + 1) = sec k pc (be (44 + 5 * i + 2)) (be (44 + 5 * i + 3)) (be (44 + 5 * i + 4)) := by simpa [nk] using c
        have hf : al (be 2) (nk be p k pc) = false := by
          cases e : al (be 2) (nk be p k pc)
          · rfl
          · exact absurd (al_iff.mp e i hi) c
        rw [if_pos (by rw [c1.1]), i_1, nI_add, a_iN (by omega) (by omega), hn 1 (by omega), if_neg (by rw [nI_eq (by omega) (by omega)]; exact c1.2), hf]
        rfl
  unfold f_X0_notesFit
  have hj : 100000 < j_fu := by unfold j_fu; omega
  revert hj
  generalize j_fu = fu
  intro hj
  exact key (be 2) 0 fu (by omega) (by omega) rfl
theorem e_canBe {M : j_M} {be : Nat → Nat} {p k pc : Nat} (h : iM M 36 0 be) (w : wf be) (hp : p < 7) (hk : k < 6) (hc : pc ≤ 90) : f_X10_canBe M (nI p) (nI k) (nI pc) = some (fl (al (be 2) (nk be p k pc))) := by
  have h6 := w.2.1
  have hat : ∀ k, k < 250 → j_I M 36 k = nI (be k) := fun k hk => h.at hk
  have key : ∀ d i fuel K, i + d = be 2 → d < fuel → f_X10_canBe_L6 fuel M (nI p) (nI k) (nI pc) (fl (al i (nk be p k pc))) (nI i) K = K (fl (al (be 2) (nk be p k pc))) (nI (be 2)) := by
    intro d
    induction d with
    | zero =>
      intro i fuel K h1 h2
      obtain ⟨fuel, rfl⟩ : ∃ f, fuel = f + 1 := ⟨fuel - 1, by omega⟩
      rw [f_X10_canBe_L6, i_2, a_iN (by omega) (by omega), hat 2 (by omega), if_pos (nI_le (by omega) (by omega)), show i = be 2 by omega]
    | succ d ih =>
      intro i fuel K h1 h2
      obtain ⟨fuel, rfl⟩ : ∃ f, fuel = f + 1 := ⟨fuel - 1, by omega⟩
      have hi : i < be 2 := by omega
      have hw := w.2.2.2.2.2.2.2.2 i hi
      have ih' := ih (i + 1) fuel K (by omega) (by omega)
      have hs : sec k pc (be (44 + 5 * i + 2)) (be (44 + 5 * i + 3)) (be (44 + 5 * i + 4)) ≤ 108 := sec_le (by omega) (by omega) (by omega) (by omega)
      rw [show al (i + 1) (nk be p k pc) = (al i (nk be p k pc) && nk be p k pc i) from rfl] at ih'
      have e44 : (44 : Int32) + (5 : Int32) * nI i = nI (44 + 5 * i) := by rw [i_5, pk_mul, i_44, nI_add]
      rw [f_X10_canBe_L6, show (2 : Int32) = nI 2 from rfl, a_iN (by omega) (by omega), hat 2 (by omega), if_neg (nI_ge (by omega) (by omega)), nI_1]
      cases ha : al i (nk be p k pc) with
      | false =>
        rw [ha] at ih'
        rw [if_pos (show fl false = 0 from rfl)]
        exact ih'
      | true =>
        rw [ha, Bool.true_and] at ih'
        rw [if_neg (by decide), e44, a_iN (by omega) (by omega), hat _ (by omega)]
        by_cases c1 : be (44 + 5 * i) = p
        · have hx : nk be p k pc i = (be (44 + 5 * i + 1) == sec k pc (be (44 + 5 * i + 2)) (be (44 + 5 * i + 3)) (be (44 + 5 * i + 4))) := by simp [nk, c1]
          rw [hx] at ih'
          rw [if_pos (by rw [c1]), nI_add, a_iN (by omega) (by omega), hat _ (by omega), i_3, nI_add, a_iN (by omega) (by omega), hat _ (by omega), i_4, nI_add, a_iN (by omega) (by omega), hat _ (by omega), tlE, e_secondsAs hk (by omega) (by omega) (by omega) (by omega), nI_1, a_iN (by omega) (by omega), hat _ (by omega)]
          by_cases c2 : be (44 + 5 * i + 1) = sec k pc (be (44 + 5 * i + 2)) (be (44 + 5 * i + 3)) (be (44 + 5 * i + 4))
          · rw [beq_iff_eq.mpr c2] at ih'
            rw [if_pos (by rw [c2])]
            exact ih'
          · rw [beq_eq_false_iff_ne.mpr c2] at ih'
            rw [if_neg (by rw [nI_eq (by omega) (by omega)]; exact fun x => c2 x.symm)]
            exact ih'
        · have hx : nk be p k pc i = true := by simp [nk, c1]
          rw [hx] at ih'
          rw [if_neg (by rw [nI_eq (by omega) (by omega)]; exact c1)]
          exact ih'
  unfold f_X10_canBe
  have hj : 100000 < j_fu := by unfold j_fu; omega
  revert hj
  generalize j_fu = fu
  intro hj
  have := key (be 2) 0 fu (fun (y19 : Int32) (y20 : Int32) => (z_b y19 (some y19))) (by omega) (by omega)
  rw [zb_fl] at this
  exact this
def kf (be : Nat → Nat) (p : Nat) : Nat → Bool := fun k => al (be 2) (nk be p k (be (37 + p)))
theorem e_kinds9 {M : j_M} {be : Nat → Nat} {p : Nat} (h : iB M 17 be) (w : wf be) (hp : p < be 0) : f_X9_kindsThatFit M (nI p) = some (nI (ms 6 (kf be p))) := by
  have h7 := w.1
  have hw := w.2.2.2.2.2.1 p hp
  have key : ∀ d k fuel K, k + d = 6 → d < fuel → f_X9_kindsThatFit_L4 fuel M (nI p) (nI (ms k (kf be p))) (nI k) K = K (nI (ms 6 (kf be p))) (nI 6) := by
    intro d
    induction d with
    | zero =>
      intro k fuel K h1 h2
      obtain ⟨fuel, rfl⟩ : ∃ f, fuel = f + 1 := ⟨fuel - 1, by omega⟩
      rw [f_X9_kindsThatFit_L4, i_6, if_pos (nI_le (by omega) (by omega)), show k = 6 by omega]
    | succ d ih =>
      intro k fuel K h1 h2
      obtain ⟨fuel, rfl⟩ : ∃ f, fuel = f + 1 := ⟨fuel - 1, by omega⟩
      have ih' := ih (k + 1) fuel K (by omega) (by omega)
      rw [f_X9_kindsThatFit_L4, i_6, if_neg (nI_ge (by omega) (by omega)), a_iN (by omega) (by omega), (h.2.2.2.2.1 p hp).2, e_notesFit h w (by omega) (by omega) (by omega), Option.bind_some, nI_1]
      by_cases c : kf be p k = true
      · rw [show al (be 2) (nk be p k (be (37 + p))) = true from c, fl_t, if_neg (by decide), ms_step (by omega) c]
        exact ih'
      · rw [show al (be 2) (nk be p k (be (37 + p))) = false from Bool.eq_false_iff.mpr c, fl_f, if_pos rfl, ← ms_skip c]
        exact ih'
  unfold f_X9_kindsThatFit
  have hj : 100000 < j_fu := by unfold j_fu; omega
  revert hj
  generalize j_fu = fu
  intro hj
  exact key 6 0 fu _ (by omega) (by omega)
theorem e_kinds10 {M : j_M} {be : Nat → Nat} {p : Nat} (h : iM M 36 0 be) (w : wf be) (hp : p < be 0) : f_X10_kindsOf M (nI p) = some (nI (ms 6 (kf be p))) := by
  have h7 := w.1
  have hw := w.2.2.2.2.2.1 p hp
  have key : ∀ d k fuel K, k + d = 6 → d < fuel → f_X10_kindsOf_L4 fuel M (nI p) (nI (ms k (kf be p))) (nI k) K = K (nI (ms 6 (kf be p))) (nI 6) := by
    intro d
    induction d with
    | zero =>
      intro k fuel K h1 h2
      obtain ⟨fuel, rfl⟩ : ∃ f, fuel = f + 1 := ⟨fuel - 1, by omega⟩
      rw [f_X10_kindsOf_L4, i_6, if_pos (nI_le (by omega) (by omega)), show k = 6 by omega]
    | succ d ih =>
      intro k fuel K h1 h2
      obtain ⟨fuel, rfl⟩ : ∃ f, fuel = f + 1 := ⟨fuel - 1, by omega⟩
      have ih' := ih (k + 1) fuel K (by omega) (by omega)
      rw [f_X10_kindsOf_L4, i_6, if_neg (nI_ge (by omega) (by omega)), e_paceOf (Inv.mK h w) hp, Option.bind_some, e_canBe h w (by omega) (by omega) (by omega), Option.bind_some, nI_1]
      by_cases c : kf be p k = true
      · rw [show al (be 2) (nk be p k (be (37 + p))) = true from c, fl_t, if_neg (by decide), ms_step (by omega) c]
        exact ih'
      · rw [show al (be 2) (nk be p k (be (37 + p))) = false from Bool.eq_false_iff.mpr c, fl_f, if_pos rfl, or_0, ← ms_skip c]
        exact ih'
  unfold f_X10_kindsOf
  have hj : 100000 < j_fu := by unfold j_fu; omega
  revert hj
  generalize j_fu = fu
  intro hj
  exact key 6 0 fu _ (by omega) (by omega)
def pf (be : Nat → Nat) (p : Nat) : Nat → Nat := fun j => if al (be 2) (nk be p (be (30 + p)) (20 + j)) then 1 else 0
theorem e_paces9 {M : j_M} {be : Nat → Nat} {p : Nat} (h : iB M 17 be) (w : wf be) (hp : p < be 0) : f_X9_pacesThatFit M (nI p) = some (nI (sm 71 (pf be p))) := by
  have h7 := w.1
  have hw := w.2.2.2.2.2.1 p hp
  have key : ∀ d k fuel K, k + d = 71 → d < fuel → f_X9_pacesThatFit_L5 fuel M (nI p) (nI (sm k (pf be p))) (nI (20 + k)) K = K (nI (sm 71 (pf be p))) (nI (20 + 71)) := by
    intro d
    induction d with
    | zero =>
      intro k fuel K h1 h2
      obtain ⟨fuel, rfl⟩ : ∃ f, fuel = f + 1 := ⟨fuel - 1, by omega⟩
      rw [f_X9_pacesThatFit_L5, i_90, if_pos (nI_lt (by omega) (by omega)), show k = 71 by omega]
    | succ d ih =>
      intro k fuel K h1 h2
      obtain ⟨fuel, rfl⟩ : ∃ f, fuel = f + 1 := ⟨fuel - 1, by omega⟩
      have ih' := ih (k + 1) fuel K (by omega) (by omega)
      rw [show sm (k + 1) (pf be p) = sm k (pf be p) + (if al (be 2) (nk be p (be (30 + p)) (20 + k)) then 1 else 0) from rfl] at ih'
      rw [f_X9_pacesThatFit_L5, i_90, if_neg (nI_nlt (by omega) (by omega)), a_iN (by omega) (by omega), (h.2.2.2.2.1 p hp).1, e_notesFit h w (by omega) (by omega) (by omega), Option.bind_some, nI_1]
      cases c : al (be 2) (nk be p (be (30 + p)) (20 + k)) with
      | true =>
        rw [c] at ih'
        rw [fl_t, if_neg (by decide), nI_1]
        exact ih'
      | false =>
        rw [c] at ih'
        rw [fl_f, if_pos rfl]
        exact ih'
  unfold f_X9_pacesThatFit
  have hj : 100000 < j_fu := by unfold j_fu; omega
  revert hj
  generalize j_fu = fu
  intro hj
  exact key 71 0 fu _ (by omega) (by omega)
theorem e_paces10 {M : j_M} {be : Nat → Nat} {p : Nat} {x2 : Int32} (h : iM M 36 0 be) (w : wf be) (hp : p < be 0) (fuel : Nat) (hfu : 1000 < fuel) (K : Int32 → Int32 → Option (Int32 × j_M)) : f_X10_is_L31 fuel M (nI p) x2 (0 : Int32) (20 : Int32) K = K (nI (sm 71 (pf be p))) (nI (20 + 71)) := by
  have h7 := w.1
  have hw := w.2.2.2.2.2.1 p hp
  have key : ∀ d k fuel K, k + d = 71 → d < fuel → f_X10_is_L31 fuel M (nI p) x2 (nI (sm k (pf be p))) (nI (20 + k)) K = K (nI (sm 71 (pf be p))) (nI (20 + 71)) := by
    intro d
    induction d with
    | zero =>
      intro k fuel K h1 h2
      obtain ⟨fuel, rfl⟩ : ∃ f, fuel = f + 1 := ⟨fuel - 1, by omega⟩
      rw [f_X10_is_L31, i_90, if_pos (nI_lt (by omega) (by omega)), show k = 71 by omega]
    | succ d ih =>
      intro k fuel K h1 h2
      obtain ⟨fuel, rfl⟩ : ∃ f, fuel = f + 1 := ⟨fuel - 1, by omega⟩
      have ih' := ih (k + 1) fuel K (by omega) (by omega)
      rw [show sm (k + 1) (pf be p) = sm k (pf be p) + (if al (be 2) (nk be p (be (30 + p)) (20 + k)) then 1 else 0) from rfl] at ih'
      rw [f_X10_is_L31, i_90, if_neg (nI_nlt (by omega) (by omega)), i_30, nI_add, a_iN (by omega) (by omega), h.at (by omega), e_canBe h w (by omega) (by omega) (by omega), Option.bind_some, nI_1]
      cases c : al (be 2) (nk be p (be (30 + p)) (20 + k)) with
      | true =>
        rw [c] at ih'
        rw [fl_t, if_neg (by decide), nI_1]
        exact ih'
      | false =>
        rw [c] at ih'
        rw [fl_f, if_pos rfl, add0]
        exact ih'
  exact key 71 0 fuel K (by omega) (by omega)
theorem op_is (a1 a2 : Int32) : lw_ok Inv (fun M => f_X9_is M a1 a2) (fun M => f_X10_is M a1 a2) := by
  refine okI (fun M h => ?_)
  obtain ⟨be, b1, b2, b3⟩ := h.2.2.2.2.1
  rcases rgOne (x := a1) b1.1 (b2.at (by omega)) b3.1 with ⟨p0, q0⟩ | ⟨p, l0, rfl, p0, q0⟩
  · refine ok_ref h 0 (by omega) (v := ((-2) : Int32)) ?_ ?_
    · show f_X9_is M a1 a2 = _
      unfold f_X9_is
      try simp only [tlE]
      rw [p0, if_pos rfl, bind_bad]
    · show f_X10_is _ a1 a2 = _
      unfold f_X10_is
      try simp only [tlE]
      rw [isOne_ref, q0, Option.bind_some, if_pos rfl, bind_bad10]
  · skip
    rcases rg (x := a2) (lo := 0) (hi := 1) (lo' := 0) (hi' := 1) 0 1 rfl rfl rfl rfl (by omega) (by omega) with ⟨p1, q1⟩ | ⟨n, m1, l1, rfl, p1, q1⟩
    · refine ok_ref h 0 (by omega) (v := ((-2) : Int32)) ?_ ?_
      · show f_X9_is M (nI p) a2 = _
        unfold f_X9_is
        try simp only [tlE]
        rw [p0, if_neg (by decide), p1, if_pos rfl, bind_bad]
      · show f_X10_is _ (nI p) a2 = _
        unfold f_X10_is
        try simp only [tlE]
        rw [isOne_ref, q0, Option.bind_some, if_neg (by decide), q1, if_pos rfl, bind_bad10]
    · skip
      refine ok_nb h (v := if n = 0 then nI (ms 6 (kf be p)) else nI (sm 71 (pf be p))) (M1 := M) (M2 := M) ?_ nb.rf ?_ nb.rf
      · show f_X9_is M _ _ = _
        unfold f_X9_is
        try simp only [tlE]
        rw [p0, if_neg (by decide), p1, if_neg (by decide)]
        rcases (show n = 0 ∨ n = 1 by omega) with rfl | rfl
        · rw [if_pos (show nI 0 = 0 from rfl), e_kinds9 b1 b3 l0, Option.bind_some]; rfl
        · rw [if_neg (by decide), e_paces9 b1 b3 l0, Option.bind_some]; rfl
      · show f_X10_is M _ _ = _
        unfold f_X10_is
        try simp only [tlE]
        rw [q0, Option.bind_some, if_neg (by decide), q1, if_neg (by decide)]
        rw [e_paces10 b2 b3 l0 j_fu (by unfold j_fu; omega)]
        rcases (show n = 0 ∨ n = 1 by omega) with rfl | rfl
        · rw [if_pos (show nI 0 = 0 from rfl), e_kinds10 b2 b3 l0, Option.bind_some]; rfl
        · rw [if_neg (by decide)]; rfl
/-- look -/
def kS (be : Nat → Nat) (p : Nat) (P : Nat → Bool) (k : Nat) : Nat := tk (be 0) k (fun p => be (37 + p)) p P
def hA (F : Nat → Bool) (S : Nat → Nat) (x : Nat) : Nat → Nat := fun k => if F k && (S k == x) then 1 else 0
def mA (F : Nat → Bool) (S : Nat → Nat) : Nat → Nat := fun k => if F k then sm 6 (hA F S (S k)) else 0
theorem hA_le {F : Nat → Bool} {S : Nat → Nat} {x n : Nat} : sm n (hA F S x) ≤ n := by
  have := sm_le (n := n) (f := hA F S x) (c := 1) (fun k _ => by unfold hA; split <;> omega)
  omega
theorem mA_le {F : Nat → Bool} {S : Nat → Nat} {n : Nat} : mx n (mA F S) ≤ 6 := mx_le (fun k _ => by
  unfold mA
  split
  · exact hA_le
  · omega)
theorem kS_le {be : Nat → Nat} {p k : Nat} {P : Nat → Bool} (w : wf be) (hp : p < be 0) : kS be p P k ≤ 120 := by
  have h7 := w.1
  have h1 : gp (be 0) (fun p => be (37 + p)) P ≤ 90 := mx_le (fun q hq => by
    have := (w.2.2.2.2.2.1 q hq).2.2
    show (if P q then be (37 + q) else 0) ≤ 90
    split <;> omega)
  have h2 := ct_le (n := be 0) P
  have h3 := sl_le (n := be 0) (p := p) (pi := fun p => be (37 + p)) P
  have h5 := (w.2.2.2.2.2.1 p hp).2.2
  have h5' : (fun p => be (37 + p)) p ≤ 90 := h5
  unfold kS tk sec
  repeat' split
  all_goals omega
theorem e_howMany9 {M : j_M} {be : Nat → Nat} {p x : Nat} {P F : Nat → Bool} (h : iB M 17 be) (w : wf be) (hp : p < be 0) (hx : x < 1000) : f_X9_howManyAlike M (nI p) (nI (ms 6 F)) (nI (ms (be 0) P)) (nI x) = some (nI (sm 6 (hA F (kS be p P) x))) := by
  have key : ∀ d k fuel K, k + d = 6 → d < fuel → f_X9_howManyAlike_L6 fuel M (nI p) (nI (ms 6 F)) (nI (ms (be 0) P)) (nI x) (nI (sm k (hA F (kS be p P) x))) (nI k) K = K (nI (sm 6 (hA F (kS be p P) x))) (nI 6) := by
    intro d
    induction d with
    | zero =>
      intro k fuel K h1 h2
      obtain ⟨fuel, rfl⟩ : ∃ f, fuel = f + 1 := ⟨fuel - 1, by omega⟩
      rw [f_X9_howManyAlike_L6, i_6, if_pos (nI_le (by omega) (by omega)), show k = 6 by omega]
    | succ d ih =>
      intro k fuel K h1 h2
      obtain ⟨fuel, rfl⟩ : ∃ f, fuel = f + 1 := ⟨fuel - 1, by omega⟩
      have ih' := ih (k + 1) fuel K (by omega) (by omega)
      rw [show sm (k + 1) (hA F (kS be p P) x) = sm k (hA F (kS be p P) x) + hA F (kS be p P) x k from rfl] at ih'
      have hle := kS_le (P := P) (k := k) w hp
      rw [f_X9_howManyAlike_L6, i_6, if_neg (nI_ge (by omega) (by omega)), tlE, e_has (by omega) (by omega), nI_1]
      by_cases c : F k = true
      · rw [if_pos c, if_neg (by decide), e_takesAs (Inv.iK h w) hp (by omega), Option.bind_some]
        show (if nI (kS be p P k) = nI x then _ else _) = _
        by_cases c2 : kS be p P k = x
        · rw [show hA F (kS be p P) x k = 1 from if_pos (by simp [c, c2])] at ih'
          rw [if_pos (show nI (kS be p P k) = nI x by rw [c2]), nI_1]
          exact ih'
        · rw [show hA F (kS be p P) x k = 0 from if_neg (by simp [c2])] at ih'
          rw [if_neg (show ¬ nI (kS be p P k) = nI x by rw [nI_eq (by omega) (by omega)]; exact c2)]
          exact ih'
      · rw [show hA F (kS be p P) x k = 0 from if_neg (by simp [c])] at ih'
        rw [if_neg c, if_pos rfl]
        exact ih'
  unfold f_X9_howManyAlike
  have hj : 100000 < j_fu := by unfold j_fu; omega
  revert hj
  generalize j_fu = fu
  intro hj
  exact key 6 0 fu _ (by omega) (by omega)
theorem e_mostAlike9 {M : j_M} {be : Nat → Nat} {p : Nat} {P F : Nat → Bool} (h : iB M 17 be) (w : wf be) (hp : p < be 0) : f_X9_mostAlike M (nI p) (nI (ms 6 F)) (nI (ms (be 0) P)) = some (nI (mx 6 (mA F (kS be p P)))) := by
  have key : ∀ d k fuel K, k + d = 6 → d < fuel → f_X9_mostAlike_L6 fuel M (nI p) (nI (ms 6 F)) (nI (ms (be 0) P)) (nI (mx k (mA F (kS be p P)))) (nI k) K = K (nI (mx 6 (mA F (kS be p P)))) (nI 6) := by
    intro d
    induction d with
    | zero =>
      intro k fuel K h1 h2
      obtain ⟨fuel, rfl⟩ : ∃ f, fuel = f + 1 := ⟨fuel - 1, by omega⟩
      rw [f_X9_mostAlike_L6, i_6, if_pos (nI_le (by omega) (by omega)), show k = 6 by omega]
    | succ d ih =>
      intro k fuel K h1 h2
      obtain ⟨fuel, rfl⟩ : ∃ f, fuel = f + 1 := ⟨fuel - 1, by omega⟩
      have ih' := ih (k + 1) fuel K (by omega) (by omega)
      rw [show mx (k + 1) (mA F (kS be p P)) = max (mx k (mA F (kS be p P))) (mA F (kS be p P) k) from rfl] at ih'
      have hle := kS_le (P := P) (k := k) w hp
      have hm := mA_le (F := F) (S := kS be p P) (n := k)
      rw [f_X9_mostAlike_L6, i_6, if_neg (nI_ge (by omega) (by omega)), tlE, e_has (by omega) (by omega), nI_1]
      by_cases c : F k = true
      · have hh := hA_le (F := F) (S := kS be p P) (x := kS be p P k) (n := 6)
        rw [show mA F (kS be p P) k = sm 6 (hA F (kS be p P) (kS be p P k)) from if_pos c] at ih'
        rw [if_pos c, if_neg (by decide), e_takesAs (Inv.iK h w) hp (by omega), Option.bind_some]
        show (f_X9_howManyAlike M (nI p) (nI (ms 6 F)) (nI (ms (be 0) P)) (nI (kS be p P k))).bind _ = _
        rw [e_howMany9 h w hp (by omega), Option.bind_some, tlE, n_max (by omega) (by omega)]
        exact ih'
      · rw [show mA F (kS be p P) k = 0 from if_neg c, Nat.max_eq_left (by omega)] at ih'
        rw [if_neg c, if_pos rfl]
        exact ih'
  unfold f_X9_mostAlike
  have hj : 100000 < j_fu := by unfold j_fu; omega
  revert hj
  generalize j_fu = fu
  intro hj
  exact key 6 0 fu _ (by omega) (by omega)
theorem e_telling {M : j_M} {be : Nat → Nat} {p : Nat} {F : Nat → Bool} (h : iB M 17 be) (w : wf be) (hp : p < be 0) (hF : ¬ ms 6 F = 0) : f_X9_tellingLane M (nI p) (nI (ms 6 F)) = some (eN (bst (op be) (fun l => mx 6 (mA F (kS be p (oth (rowOf be) p l)))) 4), pm M (fun l => mx 6 (mA F (kS be p (oth (rowOf be) p l)))) 4) := by
  have h7 := w.1
  have key : ∀ d l fuel K, l + d = 4 → d < fuel → f_X9_tellingLane_L8 fuel (pm M (fun l => mx 6 (mA F (kS be p (oth (rowOf be) p l)))) l) (nI p) (nI (ms 6 F)) (nI l) K = K (nI 4) (pm M (fun l => mx 6 (mA F (kS be p (oth (rowOf be) p l)))) 4) := by
    intro d
    induction d with
    | zero =>
      intro l fuel K h1 h2
      obtain ⟨fuel, rfl⟩ : ∃ f, fuel = f + 1 := ⟨fuel - 1, by omega⟩
      rw [f_X9_tellingLane_L8, i_4, if_pos (nI_le (by omega) (by omega)), show l = 4 by omega]
    | succ d ih =>
      intro l fuel K h1 h2
      obtain ⟨fuel, rfl⟩ : ∃ f, fuel = f + 1 := ⟨fuel - 1, by omega⟩
      rw [f_X9_tellingLane_L8, i_4, if_neg (nI_ge (by omega) (by omega)), e_others h.pm.1 w.1 (h.pm.row w) (by omega) (by omega), Option.bind_some, e_mostAlike9 h.pm w hp, Option.bind_some, w_iN (by omega) (by omega), nI_1]
      show f_X9_tellingLane_L8 fuel (j_sI (pm M (fun l => mx 6 (mA F (kS be p (oth (rowOf be) p l)))) l) 25 l (nI ((fun l => mx 6 (mA F (kS be p (oth (rowOf be) p l)))) l))) (nI p) (nI (ms 6 F)) (nI (l + 1)) K = _
      rw [pm_set]
      exact ih (l + 1) fuel K (by omega) (by omega)
  have hlt := ms_lt 6 F
  unfold f_X9_tellingLane
  rw [if_neg (nI_ne0 (by omega) (by omega))]
  have hj : 100000 < j_fu := by unfold j_fu; omega
  revert hj
  generalize j_fu = fu
  intro hj
  have := key 4 0 fu (fun (y10 : Int32) (M11 : j_M) => ((f_X0_leastOpenLane M11 17).bind fun v13 => (some (v13, M11)))) (by omega) (by omega)
  rw [pm_0] at this
  rw [show (0 : Int32) = nI 0 from rfl, this]
  show (f_X0_leastOpenLane (pm M (fun l => mx 6 (mA F (kS be p (oth (rowOf be) p l)))) 4) 17).bind _ = _
  rw [e_leastOpen (t := fun l => mx 6 (mA F (kS be p (oth (rowOf be) p l)))) h.pm (fun l hl => ⟨by rw [I_pm, if_pos ⟨rfl, hl⟩], by have := mA_le (F := F) (S := kS be p (oth (rowOf be) p l)) (n := 6); show mx 6 _ < 2 ^ 31; omega⟩)]
  rfl
section
variable {M : j_M} {be : Nat → Nat} {la : Nat → Int32} {g s o : Int32} {p : Nat}
theorem e_mostAlike10 {F : Nat → Bool} (h : iM M 36 0 be) (w : wf be) (hp : p < be 0) (lane : Int32) : ∃ g' s' o', f_X10_mostAlike (st M la g s o) (nI (ms 6 F)) (nI p) lane = some (nI (mx 6 (mA F (kS be p (oL la p lane)))), st M la g' s' o') := by
  have h7 := w.1
  have hw := w.2.2.2.2.2.1 p hp
  have hpc : ∀ g s o, f_X10_paceOf (st M la g s o) (nI p) = some (nI (be (37 + p))) := fun g s o => e_paceOf (Inv.mK h w).st hp
  have b1 : gp (be 0) (fun p => be (37 + p)) (oL la p lane) ≤ 90 := mx_le (fun q hq => by
    have := (w.2.2.2.2.2.1 q hq).2.2
    show (if oL la p lane q then be (37 + q) else 0) ≤ 90
    split <;> omega)
  have b2 := ct_le (n := be 0) (oL la p lane)
  have b3 := sl_le (n := be 0) (p := p) (pi := fun p => be (37 + p)) (oL la p lane)
  have hsec : ∀ k, k < 6 → f_X10_secondsAs (nI k) (nI (be (37 + p))) (nI (gp (be 0) (fun p => be (37 + p)) (oL la p lane))) (nI (sl (be 0) (fun p => be (37 + p)) p (oL la p lane))) (nI (ct (be 0) (oL la p lane))) = nI (kS be p (oL la p lane) k) := fun k hk => e_secondsAs hk (by omega) (by omega) (by omega) (by omega)
  have hk : ∀ k, kS be p (oL la p lane) k ≤ 120 := fun k => kS_le w hp
  have inner : ∀ a x4, a < 6 → F a = true → ∀ d k fuel K, k + d = 6 → d < fuel → f_X10_mostAlike_L25 fuel (st M la (nI (gp (be 0) (fun p => be (37 + p)) (oL la p lane))) (nI (sl (be 0) (fun p => be (37 + p)) p (oL la p lane))) (nI (ct (be 0) (oL la p lane)))) (nI (ms 6 F)) (nI p) x4 (nI a) (nI (sm k (hA F (kS be p (oL la p lane)) (kS be p (oL la p lane) a)))) (nI k) K = K (nI (sm 6 (hA F (kS be p (oL la p lane)) (kS be p (oL la p lane) a)))) (nI 6) := by
    intro a x4 ha hFa d
    induction d with
    | zero =>
      intro k fuel K h1 h2
      obtain ⟨fuel, rfl⟩ : ∃ f, fuel = f + 1 := ⟨fuel - 1, by omega⟩
      rw [f_X10_mostAlike_L25, i_6, if_pos (nI_le (by omega) (by omega)), show k = 6 by omega]
    | succ d ih =>
      intro k fuel K h1 h2
      obtain ⟨fuel, rfl⟩ : ∃ f, fuel = f + 1 := ⟨fuel - 1, by omega⟩
      have ih' := ih (k + 1) fuel K (by omega) (by omega)
      rw [show sm (k + 1) (hA F (kS be p (oL la p lane)) (kS be p (oL la p lane) a)) = sm k (hA F (kS be p (oL la p lane)) (kS be p (oL la p lane) a)) + hA F (kS be p (oL la p lane)) (kS be p (oL la p lane) a) k from rfl] at ih'
      rw [f_X10_mostAlike_L25, i_6, if_neg (nI_ge (by omega) (by omega)), tlE, e_has10 (by omega) ha, if_pos hFa, if_neg (by decide)]
      simp only [hpc, Option.bind_some, tlE, st7, st8, st9, hsec a ha, hsec k (show k < 6 by omega), jnE, nI_1, e_has10 (n := 6) (P := F) (by omega) (show k < 6 by omega)]
      by_cases c : F k = true
      · rw [if_pos c]
        by_cases c2 : kS be p (oL la p lane) a = kS be p (oL la p lane) k
        · rw [show hA F (kS be p (oL la p lane)) (kS be p (oL la p lane) a) k = 1 from if_pos (by simp [c, c2])] at ih'
          rw [if_pos (by rw [c2]), if_neg (by decide), if_neg (by decide)]
          exact ih'
        · rw [show hA F (kS be p (oL la p lane)) (kS be p (oL la p lane) a) k = 0 from if_neg (by simp; exact fun _ x => c2 x.symm)] at ih'
          rw [if_neg (by have h1 := hk a; have h2 := hk k; rw [nI_eq (by omega) (by omega)]; exact c2), if_neg (by decide), if_pos trivial, add0]
          exact ih'
      · rw [show hA F (kS be p (oL la p lane)) (kS be p (oL la p lane) a) k = 0 from if_neg (by simp [c])] at ih'
        simp only [if_neg c, if_pos, add0]
        split
        · exact ih'
        · exact ih'
  have inner0 : ∀ a x4 fuel K, a < 6 → ¬ F a = true → 0 < fuel → f_X10_mostAlike_L25 fuel (st M la (nI (gp (be 0) (fun p => be (37 + p)) (oL la p lane))) (nI (sl (be 0) (fun p => be (37 + p)) p (oL la p lane))) (nI (ct (be 0) (oL la p lane)))) (nI (ms 6 F)) (nI p) x4 (nI a) (0 : Int32) (0 : Int32) K = K (nI 0) (nI 0) := by
    intro a x4 fuel K ha hFa hf
    obtain ⟨fuel, rfl⟩ : ∃ f, fuel = f + 1 := ⟨fuel - 1, by omega⟩
    rw [f_X10_mostAlike_L25, if_neg (by decide), tlE, e_has10 (by omega) ha, if_neg hFa, if_pos rfl]
    rfl
  have outer : ∀ d k fuel K, k + d = 6 → d < fuel → f_X10_mostAlike_L12 fuel (st M la (nI (gp (be 0) (fun p => be (37 + p)) (oL la p lane))) (nI (sl (be 0) (fun p => be (37 + p)) p (oL la p lane))) (nI (ct (be 0) (oL la p lane)))) (nI (ms 6 F)) (nI p) (nI (mx k (mA F (kS be p (oL la p lane))))) (nI k) K = K (nI (mx 6 (mA F (kS be p (oL la p lane))))) (nI 6) := by
    intro d
    induction d with
    | zero =>
      intro k fuel K h1 h2
      obtain ⟨fuel, rfl⟩ : ∃ f, fuel = f + 1 := ⟨fuel - 1, by omega⟩
      rw [f_X10_mostAlike_L12, i_6, if_pos (nI_le (by omega) (by omega)), show k = 6 by omega]
    | succ d ih =>
      intro k fuel K h1 h2
      obtain ⟨fuel, rfl⟩ : ∃ f, fuel = f + 1 := ⟨fuel - 1, by omega⟩
      have ih' := ih (k + 1) fuel K (by omega) (by omega)
      rw [show mx (k + 1) (mA F (kS be p (oL la p lane))) = max (mx k (mA F (kS be p (oL la p lane)))) (mA F (kS be p (oL la p lane)) k) from rfl] at ih'
      have hm := mA_le (F := F) (S := kS be p (oL la p lane)) (n := k)
      rw [f_X10_mostAlike_L12, i_6, if_neg (nI_ge (by omega) (by omega)), nI_1]
      by_cases c : F k = true
      · have hh := hA_le (F := F) (S := kS be p (oL la p lane)) (x := kS be p (oL la p lane) k) (n := 6)
        have e := inner k (nI (mx k (mA F (kS be p (oL la p lane))))) (by omega) c 6 0 j_fu (fun (y26 : Int32) (y27 : Int32) => (if y26 ≤ (nI (mx k (mA F (kS be p (oL la p lane))))) then (f_X10_mostAlike_L12 fuel (st M la (nI (gp (be 0) (fun p => be (37 + p)) (oL la p lane))) (nI (sl (be 0) (fun p => be (37 + p)) p (oL la p lane))) (nI (ct (be 0) (oL la p lane)))) (nI (ms 6 F)) (nI p) (nI (mx k (mA F (kS be p (oL la p lane))))) (nI (k + 1)) K) else (f_X10_mostAlike_L12 fuel (st M la (nI (gp (be 0) (fun p => be (37 + p)) (oL la p lane))) (nI (sl (be 0) (fun p => be (37 + p)) p (oL la p lane))) (nI (ct (be 0) (oL la p lane)))) (nI (ms 6 F)) (nI p) y26 (nI (k + 1)) K))) (by omega) (by unfold j_fu; omega)
        rw [show sm 0 (hA F (kS be p (oL la p lane)) (kS be p (oL la p lane) k)) = 0 from rfl] at e
        rw [show mA F (kS be p (oL la p lane)) k = sm 6 (hA F (kS be p (oL la p lane)) (kS be p (oL la p lane) k)) from if_pos c] at ih'
        rw [i_0, e]
        by_cases c2 : sm 6 (hA F (kS be p (oL la p lane)) (kS be p (oL la p lane) k)) ≤ mx k (mA F (kS be p (oL la p lane)))
        · rw [Nat.max_eq_left c2] at ih'
          rw [if_pos (nI_le c2 (by omega))]
          exact ih'
        · rw [Nat.max_eq_right (by omega)] at ih'
          rw [if_neg (nI_ge (by omega) (by omega))]
          exact ih'
      · rw [show mA F (kS be p (oL la p lane)) k = 0 from if_neg c, Nat.max_eq_left (by omega)] at ih'
        rw [inner0 k _ j_fu _ (by omega) c (by unfold j_fu; omega), if_pos (nI_le (by omega) (by omega))]
        exact ih'
  refine ⟨nI (gp (be 0) (fun p => be (37 + p)) (oL la p lane)), nI (sl (be 0) (fun p => be (37 + p)) p (oL la p lane)), nI (ct (be 0) (oL la p lane)), ?_⟩
  unfold f_X10_mostAlike
  rw [e_layOthers (Inv.mK h w).st hp (la := la) (fun q hq => I_st40 (by omega)), Option.bind_some, lo_st, j_ckE (by rfl)]
  have hj : 100000 < j_fu := by unfold j_fu; omega
  revert hj
  generalize j_fu = fu
  intro hj
  exact outer 6 0 fu _ (by omega) (by omega)
theorem e_look {F : Nat → Bool} (h : iM M 36 0 be) (w : wf be) (hp : p < be 0) (hF : ¬ ms 6 F = 0) (fuel : Nat) (hfu : 100 < fuel) (K : Int32 → Int32 → Int32 → j_M → Option (Int32 × j_M)) : ∃ g' s' o' z, f_X10_look_L34 fuel (st M la g s o) (nI p) (nI (ms 6 F)) ((-1) : Int32) (1000000 : Int32) (0 : Int32) K = K (eN (bst (op be) (fun l => mx 6 (mA F (kS be p (oL la p (nI l))))) 4)) z (nI 4) (st M la g' s' o') := by
  have hlt := ms_lt 6 F
  have key : ∀ d l fuel g s o K, l + d = 4 → d < fuel → ∃ g' s' o' z, f_X10_look_L34 fuel (st M la g s o) (nI p) (nI (ms 6 F)) (eN (bst (op be) (fun l => mx 6 (mA F (kS be p (oL la p (nI l))))) l)) (nI (fw (fun l => mx 6 (mA F (kS be p (oL la p (nI l))))) (bst (op be) (fun l => mx 6 (mA F (kS be p (oL la p (nI l))))) l))) (nI l) K = K (eN (bst (op be) (fun l => mx 6 (mA F (kS be p (oL la p (nI l))))) 4)) z (nI 4) (st M la g' s' o') := by
    have ht : ∀ l, (fun l => mx 6 (mA F (kS be p (oL la p (nI l))))) l < 1000000 := fun l => by have := mA_le (F := F) (S := kS be p (oL la p (nI l))) (n := 6); show mx 6 _ < _; omega
    intro d
    induction d with
    | zero =>
      intro l fuel g s o K h1 h2
      obtain ⟨fuel, rfl⟩ : ∃ f, fuel = f + 1 := ⟨fuel - 1, by omega⟩
      refine ⟨g, s, o, nI (fw (fun l => mx 6 (mA F (kS be p (oL la p (nI l))))) (bst (op be) (fun l => mx 6 (mA F (kS be p (oL la p (nI l))))) l)), ?_⟩
      rw [f_X10_look_L34, i_4, if_pos (nI_le (by omega) (by omega)), show l = 4 by omega]
    | succ d ih =>
      intro l fuel g s o K h1 h2
      obtain ⟨fuel, rfl⟩ : ∃ f, fuel = f + 1 := ⟨fuel - 1, by omega⟩
      have hf := fw_le (ok := op be) ht l
      have htl := ht l
      rw [f_X10_look_L34, i_4, if_neg (nI_ge (by omega) (by omega)), if_neg (nI_nle (by omega) (by omega)), st_open h w (by omega), Option.bind_some, jn2E, nI_1]
      simp only [jnE]
      by_cases c : op be l = true
      · obtain ⟨g1, s1, o1, e1⟩ := e_mostAlike10 (la := la) (g := g) (s := s) (o := o) (F := F) h w hp (nI l)
        obtain ⟨g', s', o', z, e⟩ := ih (l + 1) fuel g1 s1 o1 K (by omega) (by omega)
        refine ⟨g', s', o', z, ?_⟩
        rw [if_pos c, if_neg (by decide), e1, Option.bind_some, j_ckE (by rfl)]
        rw [bst_open c htl] at e
        by_cases c2 : fw (fun l => mx 6 (mA F (kS be p (oL la p (nI l))))) (bst (op be) (fun l => mx 6 (mA F (kS be p (oL la p (nI l))))) l) ≤ (fun l => mx 6 (mA F (kS be p (oL la p (nI l))))) l
        · rw [if_pos c2] at e
          have c3 := nI_le c2 (by omega)
          simp only [c3, if_true]
          exact e
        · rw [if_neg c2] at e
          have c3 := nI_ge (Nat.lt_of_not_le c2) (by omega)
          simp only [c3, if_false]
          exact e
      · obtain ⟨g', s', o', z, e⟩ := ih (l + 1) fuel g s o K (by omega) (by omega)
        refine ⟨g', s', o', z, ?_⟩
        rw [bst_shut c] at e
        have c3 := nI_le hf (by omega)
        rw [if_neg c, if_pos rfl, i_1000000]
        simp only [c3, if_true]
        exact e
  exact key 4 0 fuel g s o K (by omega) (by omega)
end
theorem mx_F {F : Nat → Bool} {S T : Nat → Nat} (h : ∀ k, k < 6 → S k = T k) : mx 6 (mA F S) = mx 6 (mA F T) := mx_congr (fun k hk => by
  unfold mA
  rw [h k hk]
  split
  · refine sm_congr (fun j hj => ?_)
    unfold hA
    rw [h j hj]
  · rfl)
theorem op_look (a1 : Int32) : lw_ok Inv (fun M => f_X9_look M a1) (fun M => f_X10_look M a1) := by
  refine okI (fun M h => ?_)
  obtain ⟨be, b1, b2, b3⟩ := h.2.2.2.2.1
  rcases rgOne (x := a1) b1.1 (b2.at (by omega)) b3.1 with ⟨p0, q0⟩ | ⟨p, l0, rfl, p0, q0⟩
  · refine ok_ref h 0 (by omega) (v := ((-2) : Int32)) ?_ ?_
    · show f_X9_look M a1 = _
      unfold f_X9_look
      try simp only [tlE]
      rw [p0, if_pos rfl, bind_bad]
    · show f_X10_look _ a1 = _
      unfold f_X10_look
      try simp only [tlE]
      rw [isOne_ref, q0, Option.bind_some, if_pos rfl, bind_bad10]
  · skip
    by_cases c : ms 6 (kf be p) = 0
    · obtain ⟨la, g, s, o, e1, e2⟩ := E_hand b2 b3
      refine ok_nb h (v := -1) (M1 := M) (M2 := st M la g s o) ?_ nb.rf ?_ st_nb
      · show f_X9_look M _ = _
        unfold f_X9_look
        try simp only [tlE]
        rw [p0, if_neg (by decide)]
        unfold f_X9_tellingLane
        rw [e_kinds9 b1 b3 l0, Option.bind_some, c, if_pos (show nI 0 = 0 from rfl), Option.bind_some, j_ckE (by rfl)]
      · show f_X10_look M _ = _
        unfold f_X10_look
        try simp only [tlE]
        rw [q0, Option.bind_some, if_neg (by decide)]
        rw [e_kinds10 b2 b3 l0, Option.bind_some, e1, Option.bind_some, j_ckE (by rfl), c]
        have hj : 100000 < j_fu := by unfold j_fu; omega
        revert hj
        generalize j_fu = fu
        intro hj
        obtain ⟨f, rfl⟩ : ∃ f, fu = f + 1 := ⟨fu - 1, by omega⟩
        rw [f_X10_look_L34, if_neg (by decide), if_pos (by decide)]
    · have b2' : iM (pm M (fun l => mx 6 (mA (kf be p) (kS be p (oth (rowOf be) p l)))) 4) 36 0 be := b2.to (fun k => I_pm' (by omega))
      obtain ⟨la, g, s, o, e1, e2⟩ := E_hand b2' b3
      obtain ⟨g', s', o', z, e⟩ := e_look (la := la) (g := g) (s := s) (o := o) b2' b3 l0 c j_fu (by unfold j_fu; omega) (fun (y29 : Int32) (y30 : Int32) (y31 : Int32) (M32 : j_M) => (some (y29, M32)))
      refine ok_nb h (v := eN (bst (op be) (fun l => mx 6 (mA (kf be p) (kS be p (oth (rowOf be) p l)))) 4)) (M1 := pm M (fun l => mx 6 (mA (kf be p) (kS be p (oth (rowOf be) p l)))) 4) (M2 := st (pm M (fun l => mx 6 (mA (kf be p) (kS be p (oth (rowOf be) p l)))) 4) la g' s' o') ?_ pm_nb ?_ st_nb
      · show f_X9_look M _ = _
        unfold f_X9_look
        try simp only [tlE]
        rw [p0, if_neg (by decide)]
        rw [e_kinds9 b1 b3 l0, Option.bind_some, e_telling b1 b3 l0 c, Option.bind_some, j_ckE (by rfl)]
      · show f_X10_look _ _ = _
        unfold f_X10_look
        try simp only [tlE]
        rw [isOne_eq (I_pm' (by omega)), q0, Option.bind_some, if_neg (by decide)]
        have hb : ∀ l, l < 4 → (fun l => mx 6 (mA (kf be p) (kS be p (oL la p (nI l))))) l = (fun l => mx 6 (mA (kf be p) (kS be p (oth (rowOf be) p l)))) l := fun l hl => mx_F (fun k hk => tk_congr (oL_oth e2 (by omega)))
        rw [e_kinds10 b2' b3 l0, Option.bind_some, e1, Option.bind_some, j_ckE (by rfl), e, bst_congr hb]
