/-! mornings -/
def lcg (x : Nat) : Nat := (x * 1103515245 + 12345) % 2147483648
theorem lcg_lt (x : Nat) : lcg x < 2147483648 := Nat.mod_lt _ (by decide)
theorem lcg_l {x : Nat} (h : x < 2147483648) : ((lN x * (1103515245 : Int64)) + (12345 : Int64)) - ((lN x * (1103515245 : Int64)) + (12345 : Int64)) / (2147483648 : Int64) * (2147483648 : Int64) = lN (lcg x) := by
  rw [show (1103515245 : Int64) = lN 1103515245 from rfl, show (12345 : Int64) = lN 12345 from rfl, show (2147483648 : Int64) = lN 2147483648 from rfl, lN_mul, lN_add, pk_lRem (by omega) (by omega) (by omega)]
  rfl
theorem aft_l {x : Nat} (h : x < 2147483648) : f_X9_afterwards (lN x) = lN (lcg x) := lcg_l h
theorem div_l {x : Nat} (h : x < 2147483648) : lN x / (65536 : Int64) = lN (x / 65536) := pk_lDiv (b := 65536) (by omega) (by omega) (by omega)
theorem r_lN {ρ : Type} {a b : Nat} {k : Int64 → Option ρ} (ha : a < 2 ^ 63) (h0 : 0 < b) (hb : b < 2 ^ 63) : r_l (lN a) (lN b) k = k (lN (a % b)) := by
  unfold r_l
  rw [if_neg (by
    rw [show (0 : Int64) = lN 0 from rfl, pk_lEQ hb (by omega)]
    omega), pk_lRem ha h0 hb]
theorem lane_l {x : Nat} (h : x < 2147483648) : ((lN x / (65536 : Int64)) - (lN x / (65536 : Int64)) / (4 : Int64) * (4 : Int64)).toInt32 = nI (x / 65536 % 4) := by
  rw [div_l h, show (4 : Int64) = lN 4 from rfl, pk_lRem (by omega) (by omega) (by omega), lN_i]
def moR (be : Nat → Nat) (x1 x2 : Nat) (r : Nat → Nat) : Nat → Nat := if op be (x2 / 65536 % 4) then up r (1 + x1 / 65536 % be 0) (x2 / 65536 % 4) else r
def moS (be : Nat → Nat) : Nat → Nat → (Nat → Nat) → Nat
  | 0, _, _ => 0
  | d + 1, x, r => mgS be (moR be (lcg x) (lcg (lcg x)) r) + moS be d (lcg (lcg x)) (mg be (moR be (lcg x) (lcg (lcg x)) r))
theorem moS_s {be : Nat → Nat} {d x : Nat} {r : Nat → Nat} : moS be (d + 1) x r = mgS be (moR be (lcg x) (lcg (lcg x)) r) + moS be d (lcg (lcg x)) (mg be (moR be (lcg x) (lcg (lcg x)) r)) := rfl
theorem moR_B {be r : Nat → Nat} {x1 x2 B : Nat} (h7 : be 0 ≤ 7) (h0 : 0 < be 0) (hr : rB B r) : rB B (moR be x1 x2 r) := by
  have hp : x1 / 65536 % be 0 < be 0 := Nat.mod_lt _ h0
  have hl : x2 / 65536 % 4 < 4 := Nat.mod_lt _ (by decide)
  unfold moR
  split
  · refine ⟨by rw [up_n (by omega)]; exact hr.1, fun q hq => ?_⟩
    have h2 := hr.2 q hq
    rw [up_n (j := 8 + q) (by omega), up_n (j := 15 + q) (by omega)]
    by_cases e : q = x1 / 65536 % be 0
    · rw [up_e (by omega)]; omega
    · rw [up_n (by omega)]; exact h2
  · exact hr
theorem iB.rw2 {M : j_M} {be r : Nat → Nat} (h : iB M 17 be) : iB (RW M 2 r) 17 be := h.to (fun a k _ _ => I_RWn (by omega))
theorem mo9_head {M : j_M} {be r : Nat → Nat} {n i x sum fuel : Nat} {K : Int64 → Int32 → Int32 → j_M → Option (Int32 × j_M)} (h : iB M 17 be) (w : wf be) (h0 : 0 < be 0) (hn : n ≤ 60) (hi : i < n) (hx : x < 2147483648) : f_X9_mornings_L68 (fuel + 1) (RW M 2 r) (nI n) (lN x) (nI sum) (nI i) K = ((f_X0_isOpen (RW M 2 r) 17 (nI (lcg (lcg x) / 65536 % 4))).bind fun v22 => (jn (fun (M25 : j_M) => ((f_X0_minuteGoesBy M25 17 2).bind fun q29 => j_ck M25 q29.2 (f_X9_mornings_L68 fuel q29.2 (nI n) (lN (lcg (lcg x))) (nI sum + q29.1) (nI i + (1 : Int32)) K))) (fun K26 => (if v22 = 0 then (K26 (RW M 2 r)) else (w_i (RW M 2 r) 2 22 ((1 : Int32) + nI (lcg x / 65536 % be 0)) (nI (lcg (lcg x) / 65536 % 4)) fun M33 => (K26 M33)))))) := by
  have h7 := w.1
  have hx1 := lcg_lt x
  have hx2 := lcg_lt (lcg x)
  have e9 : j_I (RW M 2 r) 17 9 = nI (be 0) := by rw [I_RWn (by omega)]; exact h.1
  have hq := lane_l hx2
  rw [f_X9_mornings_L68, if_neg (nI_ge hi (by omega)), e9, tlE, aft_l hx, div_l hx1, nI_l (by omega), r_lN (by omega) (by omega) (by omega), tlE, aft_l hx1, lN_i]
  generalize lcg (lcg x) = x2 at *
  generalize lcg x = x1 at *
  rw [hq]
theorem mo9_body {M : j_M} {be r : Nat → Nat} {B x1 x2 : Nat} {C : j_M → Int32 → Option (Int32 × j_M)} (h : iB M 17 be) (w : wf be) (h0 : 0 < be 0) (hr : rB B r) (hB : B < 100000) : ((f_X0_isOpen (RW M 2 r) 17 (nI (x2 / 65536 % 4))).bind fun v22 => (jn (fun (M25 : j_M) => ((f_X0_minuteGoesBy M25 17 2).bind fun q29 => j_ck M25 q29.2 (C q29.2 q29.1))) (fun K26 => (if v22 = 0 then (K26 (RW M 2 r)) else (w_i (RW M 2 r) 2 22 ((1 : Int32) + nI (x1 / 65536 % be 0)) (nI (x2 / 65536 % 4)) fun M33 => (K26 M33)))))) = C (RW M 2 (mg be (moR be x1 x2 r))) (nI (mgS be (moR be x1 x2 r))) := by
  have h7 := w.1
  have hp : x1 / 65536 % be 0 < be 0 := Nat.mod_lt _ h0
  have hl : x2 / 65536 % 4 < 4 := Nat.mod_lt _ (by decide)
  have hB' := moR_B (x1 := x1) (x2 := x2) h7 h0 hr
  have hm : ∀ r, rB B r → f_X0_minuteGoesBy (RW M 2 r) 17 2 = some (nI (mgS be r), RW M 2 (mg be r)) := fun r hr => e_minuteBy (Inv.iK h w) w (by omega) (by omega) (by omega) (Nat.lt_trans hB (by decide)) hr
  rw [e_open9 h.rw2 hl, Option.bind_some]
  by_cases c : op be (x2 / 65536 % 4) = true
  · have e1 : moR be x1 x2 r = up r (1 + x1 / 65536 % be 0) (x2 / 65536 % 4) := if_pos c
    rw [e1] at hB' ⊢
    rw [jnE, if_pos c, if_neg (by decide), i_1, nI_add, w_iN (by omega) (by omega), RW_set (by omega)]
    dsimp only
    rw [hm _ hB', Option.bind_some, j_ckE (by rfl)]
  · have e1 : moR be x1 x2 r = r := if_neg c
    rw [e1] at hB' ⊢
    rw [jnE, if_neg c, if_pos rfl]
    dsimp only
    rw [hm _ hB', Option.bind_some, j_ckE (by rfl)]
theorem e_mornings9 {M : j_M} {be : Nat → Nat} {n : Nat} (h : iB M 17 be) (w : wf be) (h0 : 0 < be 0) (hn : n ≤ 60) : ∀ d i x r B sum fuel K, i + d = n → x < 2147483648 → rB B r → B + 8 * d < 100000 → sum + 56 * d < 100000 → d < fuel → ∃ y r', f_X9_mornings_L68 fuel (RW M 2 r) (nI n) (lN x) (nI sum) (nI i) K = K y (nI (sum + moS be d x r)) (nI n) (RW M 2 r') := by
  have h7 := w.1
  intro d
  induction d with
  | zero =>
    intro i x r B sum fuel K h1 hx hr hB hs h2
    obtain ⟨fuel, rfl⟩ : ∃ f, fuel = f + 1 := ⟨fuel - 1, by omega⟩
    refine ⟨lN x, r, ?_⟩
    rw [f_X9_mornings_L68, if_pos (nI_le (by omega) (by omega)), show i = n by omega]
    rfl
  | succ d ih =>
    intro i x r B sum fuel K h1 hx hr hB hs h2
    obtain ⟨fuel, rfl⟩ : ∃ f, fuel = f + 1 := ⟨fuel - 1, by omega⟩
    have hx2 := lcg_lt (lcg x)
    have hb := mo9_body (x1 := lcg x) (x2 := lcg (lcg x)) (C := fun M' v => f_X9_mornings_L68 fuel M' (nI n) (lN (lcg (lcg x))) (nI sum + v) (nI i + (1 : Int32)) K) h w h0 hr (by omega)
    have hB' := moR_B (x1 := lcg x) (x2 := lcg (lcg x)) h7 h0 hr
    have hS := mgS_le w hB'
    obtain ⟨y, r', e⟩ := ih (i + 1) (lcg (lcg x)) (mg be (moR be (lcg x) (lcg (lcg x)) r)) (B + 8) (sum + mgS be (moR be (lcg x) (lcg (lcg x)) r)) fuel K (by omega) hx2 (mg_B w hB') (by omega) (by omega) (by omega)
    refine ⟨y, r', ?_⟩
    rw [mo9_head h w h0 hn (by omega) hx, hb]
    rw [nI_add, nI_1, e, moS_s, Nat.add_assoc]
theorem cp_RW {M : j_M} {be : Nat → Nat} (h : iB M 17 be) : j_cp M 22 0 2 0 22 = RW M 2 (rowOf be) := by
  refine Prod.ext ?_ rfl
  funext b j
  show (if b = 2 ∧ 0 ≤ j ∧ j < 0 + 22 then M.1 22 (0 + (j - 0)) else M.1 b j) = if b = 2 ∧ j < 22 then nI (rowOf be j) else M.1 b j
  by_cases c : b = 2 ∧ j < 22
  · rw [if_pos (by omega), if_pos c, show 0 + (j - 0) = j by omega]
    exact h.2.2.2.2.2.1 j c.2
  · rw [if_neg (by omega), if_neg c]
/-- what is over, as the model keeps it -/
def ov (M : j_M) (f : Nat → Int32) : j_M := (fun b j => if b = 47 ∧ j < 7 then f j else M.1 b j, M.2)
section
variable {M : j_M} {f : Nat → Int32} {la : Nat → Int32} {g s o : Int32}
theorem I_ove {j : Nat} (h : j < 7) : j_I (ov M f) 47 j = f j := if_pos ⟨rfl, h⟩
theorem I_ovn {b j : Nat} (h : b ≠ 47) : j_I (ov M f) b j = j_I M b j := if_neg (fun q => h q.1)
theorem ov_self : ov M (j_I M 47) = M := by
  refine Prod.ext ?_ rfl
  funext b j
  show (if b = 47 ∧ j < 7 then j_I M 47 j else j_I M b j) = j_I M b j
  by_cases hb : b = 47 ∧ j < 7
  · rw [if_pos hb, hb.1]
  · rw [if_neg hb]
theorem st_ov {k : Nat} {v : Int32} (h : k < 7) : j_sI (st (ov M f) la g s o) 47 k v = st (ov M (fun q => if q = k then v else f q)) la g s o := by
  refine Prod.ext ?_ rfl
  funext b j
  show j_I (j_sI (st (ov M f) la g s o) 47 k v) b j = j_I (st (ov M (fun q => if q = k then v else f q)) la g s o) b j
  by_cases h47 : b = 47
  · subst h47
    rw [I_st (by omega) (by omega)]
    by_cases hj : j < 7
    · rw [I_ove hj]
      by_cases e : j = k
      · subst e; rw [I_sIe (by omega), if_pos rfl]
      · rw [I_sIn (by omega), if_neg e, I_st (by omega) (by omega), I_ove hj]
    · rw [I_sIn (by omega), I_st (by omega) (by omega)]
      show (if 47 = 47 ∧ j < 7 then _ else _) = (if 47 = 47 ∧ j < 7 then _ else _)
      rw [if_neg (by omega), if_neg (by omega)]
  · rw [I_sIn (by omega)]
    by_cases h35 : b = 35
    · subst h35
      by_cases h1 : j < 7 ∨ 9 < j
      · rw [I_st35 h1, I_st35 h1, I_ovn (by omega), I_ovn (by omega)]
      · rcases (show j = 7 ∨ j = 8 ∨ j = 9 by omega) with rfl | rfl | rfl <;> rfl
    · by_cases h40 : b = 40
      · subst h40
        unfold st
        rw [I_lo (by omega), I_ly, I_lo (by omega), I_ly]
        split
        · rfl
        · rw [I_ovn (by omega), I_ovn (by omega)]
      · rw [I_st h35 h40, I_st h35 h40, I_ovn h47, I_ovn h47]
theorem iM.ov {be : Nat → Nat} (h : iM M 36 0 be) : iM (ov M f) 36 0 be := h.to (fun k => I_ovn (by omega))
theorem e_goMinute {be r : Nat → Nat} {B : Nat} (h : iM M 36 0 be) (w : wf be) (hr : rB B r) (hla : ∀ q, q < be 0 → la q = nI (r (1 + q))) (hf : ∀ q, q < be 0 → f q = nI (r (15 + q))) : ∃ f' g' s' o', f_X10_goMinute (st (ov M f) la g s o) = some (nI (sm (be 0) (fun q => (r (15 + q) + 60) / ee be r q)), st (ov M f') la g' s' o') ∧ ∀ q, q < be 0 → f' q = nI ((r (15 + q) + 60) % ee be r q) := by
  have h7 := w.1
  have hla' : ∀ q, q < be 0 → la q = nI (r (1 + q)) ∧ r (1 + q) < 2 ^ 31 := fun q hq => ⟨hla q hq, by have := (hr.2 q (by omega)).1; omega⟩
  have key : ∀ d p fuel g s o K, p + d = be 0 → d < fuel → ∃ g' s' o', f_X10_goMinute_L4 fuel (st (ov M (fun q => if q < p then nI ((r (15 + q) + 60) % ee be r q) else f q)) la g s o) (nI (sm p (fun q => (r (15 + q) + 60) / ee be r q))) (nI p) K = K (nI (sm (be 0) (fun q => (r (15 + q) + 60) / ee be r q))) (nI (be 0)) (st (ov M (fun q => if q < be 0 then nI ((r (15 + q) + 60) % ee be r q) else f q)) la g' s' o') := by
    intro d
    induction d with
    | zero =>
      intro p fuel g s o K h1 h2
      obtain ⟨fuel, rfl⟩ : ∃ f, fuel = f + 1 := ⟨fuel - 1, by omega⟩
      refine ⟨g, s, o, ?_⟩
      rw [f_X10_goMinute_L4, E_many h.ov, Option.bind_some, if_pos (nI_le (by omega) (by omega)), show p = be 0 by omega]
    | succ d ih =>
      intro p fuel g s o K h1 h2
      obtain ⟨fuel, rfl⟩ : ∃ f, fuel = f + 1 := ⟨fuel - 1, by omega⟩
      have hp : p < be 0 := by omega
      have he := ee_b (r := r) w hp
      have hrp := hr.2 p (by omega)
      have htk : TK be p (oL la p (la p)) = ee be r p := by
        rw [hla p hp]
        exact TK_congr (oL_oth hla' (hla' p hp).2)
      obtain ⟨g', s', o', e⟩ := ih (p + 1) fuel (nI (gp (be 0) (fun p => be (37 + p)) (oL la p (la p)))) (nI (sl (be 0) (fun p => be (37 + p)) p (oL la p (la p)))) (nI (ct (be 0) (oL la p (la p)))) K (by omega) (by omega)
      refine ⟨g', s', o', ?_⟩
      rw [f_X10_goMinute_L4, E_many h.ov, Option.bind_some, if_neg (nI_ge (by omega) (by omega)), a_iN (by omega) (by omega), I_st40 (by omega), E_sec h.ov w hp, htk, Option.bind_some, j_ckE (by rfl), a_iN (by omega) (by omega), I_st (by omega) (by omega), I_ove (by omega), if_neg (by omega), hf p hp, i_60, nI_add, w_iN (by omega) (by omega), st_ov (by omega), a_iN (by omega) (by omega), I_st (by omega) (by omega), I_ove (by omega), if_pos rfl, d_iN (by omega) (by omega) (by omega), a_iN (by omega) (by omega), I_st (by omega) (by omega), I_ove (by omega), if_pos rfl, r_iN (by omega) (by omega) (by omega), w_iN (by omega) (by omega), st_ov (by omega), nI_add, nI_1]
      have hf' : (fun q => if q = p then nI ((r (15 + p) + 60) % ee be r p) else (fun q => if q = p then nI (r (15 + p) + 60) else (fun q => if q < p then nI ((r (15 + q) + 60) % ee be r q) else f q) q) q) = fun q => if q < p + 1 then nI ((r (15 + q) + 60) % ee be r q) else f q := by
        funext q
        by_cases c : q = p
        · subst c; rw [if_pos rfl, if_pos (by omega)]
        · rw [if_neg c]
          show (if q = p then _ else if q < p then _ else _) = _
          rw [if_neg c]
          by_cases c2 : q < p
          · rw [if_pos c2, if_pos (by omega)]
          · rw [if_neg c2, if_neg (by omega)]
      rw [hf']
      exact e
  unfold f_X10_goMinute
  have hj : 100000 < j_fu := by unfold j_fu; omega
  revert hj
  generalize j_fu = fu
  intro hj
  have e0 : (fun q => if q < 0 then nI ((r (15 + q) + 60) % ee be r q) else f q) = f := by funext q; rw [if_neg (by omega)]
  obtain ⟨g', s', o', e⟩ := key (be 0) 0 fu g s o (fun (y26 : Int32) (y27 : Int32) (M28 : j_M) => (some (y26, M28))) (by omega) (by omega)
  rw [e0] at e
  exact ⟨_, g', s', o', e, fun q hq => if_pos hq⟩
end
theorem e_mornings10 {M : j_M} {be : Nat → Nat} {n : Nat} (h : iM M 36 0 be) (w : wf be) (h0 : 0 < be 0) (hn : n ≤ 60) : ∀ d i x r B sum f la g s o fuel K, i + d = n → x < 2147483648 → rB B r → (∀ q, q < be 0 → la q = nI (r (1 + q))) → (∀ q, q < be 0 → f q = nI (r (15 + q))) → r 0 = min 999 (be 1 + i) → B + 8 * d < 100000 → sum + 56 * d < 100000 → d < fuel → ∃ y f' la' g' s' o', f_X10_mornings_L91 fuel (st (ov M f) la g s o) (nI n) (lN x) (nI sum) (nI i) K = K y (nI (sum + moS be d x r)) (nI n) (st (ov M f') la' g' s' o') := by
  have h7 := w.1
  have hb1 : be 1 ≤ 999 := w.2.2.2.2.2.2.1.1
  intro d
  induction d with
  | zero =>
    intro i x r B sum f la g s o fuel K h1 hx hr hla hf hr0 hB hs h2
    obtain ⟨fuel, rfl⟩ : ∃ f, fuel = f + 1 := ⟨fuel - 1, by omega⟩
    refine ⟨lN x, f, la, g, s, o, ?_⟩
    rw [f_X10_mornings_L91, if_pos (nI_le (by omega) (by omega)), show i = n by omega]
    rfl
  | succ d ih =>
    intro i x r B sum f la g s o fuel K h1 hx hr hla hf hr0 hB hs h2
    obtain ⟨fuel, rfl⟩ : ∃ f, fuel = f + 1 := ⟨fuel - 1, by omega⟩
    have hx1 := lcg_lt x
    have hx2 := lcg_lt (lcg x)
    have ih' := fun r B sum f la g s o => ih (i + 1) (lcg (lcg x)) r B sum f la g s o fuel K
    rw [moS_s, f_X10_mornings_L91, if_neg (nI_ge (by omega) (by omega)), E_many h.ov, Option.bind_some]
    simp only [lcg_l hx, lcg_l hx1, div_l hx1, nI_l (show be 0 < 2 ^ 31 by omega), lane_l hx2]
    rw [r_lN (by omega) (by omega) (by omega), lN_i]
    clear ih
    generalize lcg (lcg x) = x2 at *
    generalize lcg x = x1 at *
    have hp : x1 / 65536 % be 0 < be 0 := Nat.mod_lt _ h0
    have hl : x2 / 65536 % 4 < 4 := Nat.mod_lt _ (by decide)
    have hB' := moR_B (x1 := x1) (x2 := x2) h7 h0 hr
    have hS := mgS_le w hB'
    obtain ⟨la1, hla1⟩ : ∃ la1 : Nat → Int32, la1 = fun q => if q = x1 / 65536 % be 0 then (if op be (x2 / 65536 % 4) then nI (x2 / 65536 % 4) else la (x1 / 65536 % be 0)) else la q := ⟨_, rfl⟩
    have hlr : ∀ q, q < be 0 → la1 q = nI (moR be x1 x2 r (1 + q)) := fun q hq => by
      rw [hla1]
      unfold moR
      dsimp only
      by_cases c : op be (x2 / 65536 % 4) = true
      · rw [if_pos c, if_pos c]
        by_cases e : q = x1 / 65536 % be 0
        · rw [if_pos e, up_e (by omega)]
        · rw [if_neg e, up_n (by omega)]; exact hla q hq
      · rw [if_neg c, if_neg c]
        by_cases e : q = x1 / 65536 % be 0
        · rw [if_pos e, ← e]; exact hla q hq
        · rw [if_neg e]; exact hla q hq
    have hr15 : ∀ q, moR be x1 x2 r (15 + q) = r (15 + q) := fun q => by
      unfold moR
      split
      · rw [up_n (by omega)]
      · rfl
    have hr00 : moR be x1 x2 r 0 = r 0 := by
      unfold moR
      split
      · rw [up_n (by omega)]
      · rfl
    have hf1 : ∀ q, q < be 0 → f q = nI (moR be x1 x2 r (15 + q)) := fun q hq => by rw [hr15]; exact hf q hq
    have hjn : ∀ (F : Int32 → Option (Int32 × j_M)), (if (if op be (x2 / 65536 % 4) then (1 : Int32) else 0) = 0 then (a_i (st (ov M f) la g s o) 40 7 (nI (x1 / 65536 % be 0)) fun v50 => (F v50)) else (F (nI (x2 / 65536 % 4)))) = F (if op be (x2 / 65536 % 4) then nI (x2 / 65536 % 4) else la (x1 / 65536 % be 0)) := fun F => by
      by_cases c : op be (x2 / 65536 % 4) = true
      · rw [if_pos c, if_neg (by decide), if_pos c]
      · rw [if_neg c, if_pos rfl, a_iN (by omega) (by omega), I_st40 (by omega), if_neg c]
    rw [st_open h.ov w hl, Option.bind_some]
    rw [jnI hjn, w_iN (by omega) (by omega), st_set (by omega), ← hla1]
    rw [show (1 : Int32) = nI 1 from rfl, a_iN (by omega) (by omega), I_st (by omega) (by omega), h.ov.at (by omega), nI_add, i_999, add0, nI_add]
    by_cases c : 999 ≤ be 1 + i
    · have e1 : mg be (moR be x1 x2 r) = moR be x1 x2 r := by unfold mg; rw [if_neg (by rw [hr00, hr0]; omega)]
      have e2 : mgS be (moR be x1 x2 r) = 0 := by unfold mgS; rw [if_neg (by rw [hr00, hr0]; omega)]
      obtain ⟨y, f', la', g', s', o', e⟩ := ih' (moR be x1 x2 r) B sum f la1 g s o (by omega) hx2 hB' hlr hf1 (by rw [hr00, hr0]; omega) (by omega) (by omega) (by omega)
      refine ⟨y, f', la', g', s', o', ?_⟩
      rw [if_pos (nI_le c (by omega)), e, e1, e2, Nat.zero_add]
    · have e1 : mg be (moR be x1 x2 r) = rp be (moR be x1 x2 r) (be 0) := by unfold mg; rw [if_pos (by rw [hr00, hr0]; omega)]
      have e2 : mgS be (moR be x1 x2 r) = sm (be 0) (fun q => (moR be x1 x2 r (15 + q) + 60) / ee be (moR be x1 x2 r) q) := by unfold mgS; rw [if_pos (by rw [hr00, hr0]; omega)]
      obtain ⟨f1, g1, s1, o1, e3, e4⟩ := e_goMinute (la := la1) (g := g) (s := s) (o := o) h w hB' hlr hf1
      have hmg := mg_B w hB'
      obtain ⟨y, f', la', g', s', o', e⟩ := ih' (mg be (moR be x1 x2 r)) (B + 8) (sum + mgS be (moR be x1 x2 r)) f1 la1 g1 s1 o1 (by omega) hx2 hmg (fun q hq => by rw [e1, rp_lane (by omega)]; exact hlr q hq) (fun q hq => by
        rw [e1, e4 q hq]
        unfold rp
        rw [if_neg (by omega), if_neg (by omega), if_pos (by omega), show 15 + q - 15 = q by omega]) (by
        rw [e1]
        show rp be (moR be x1 x2 r) (be 0) 0 = _
        unfold rp
        rw [if_pos rfl, hr00, hr0]
        omega) (by omega) (by omega) (by omega)
      refine ⟨y, f', la', g', s', o', ?_⟩
      rw [if_neg (nI_ge (by omega) (by omega)), e3, Option.bind_some, j_ckE (by rfl), nI_add, ← e2, e, Nat.add_assoc]
theorem e_overs {M : j_M} {be : Nat → Nat} {la f : Nat → Int32} {g s o x2 : Int32} {x3 : Int64} {x5 : Int32} (h : iM M 36 0 be) (w : wf be) (fuel : Nat) (hfu : 100 < fuel) (K : Int32 → j_M → Option (Int32 × j_M)) : f_X10_mornings_L56 fuel (st (ov M f) la g s o) x2 x3 x5 (0 : Int32) K = K (nI (be 0)) (st (ov M (fun q => if q < be 0 then nI (be (23 + q)) else f q)) la g s o) := by
  have h7 := w.1
  have key : ∀ d p fuel K, p + d = be 0 → d < fuel → f_X10_mornings_L56 fuel (st (ov M (fun q => if q < p then nI (be (23 + q)) else f q)) la g s o) x2 x3 x5 (nI p) K = K (nI (be 0)) (st (ov M (fun q => if q < be 0 then nI (be (23 + q)) else f q)) la g s o) := by
    intro d
    induction d with
    | zero =>
      intro p fuel K h1 h2
      obtain ⟨fuel, rfl⟩ : ∃ f, fuel = f + 1 := ⟨fuel - 1, by omega⟩
      rw [f_X10_mornings_L56, E_many h.ov, Option.bind_some, if_pos (nI_le (by omega) (by omega)), show p = be 0 by omega]
    | succ d ih =>
      intro p fuel K h1 h2
      obtain ⟨fuel, rfl⟩ : ∃ f, fuel = f + 1 := ⟨fuel - 1, by omega⟩
      rw [f_X10_mornings_L56, E_many h.ov, Option.bind_some, if_neg (nI_ge (by omega) (by omega)), i_23, nI_add, a_iN (by omega) (by omega), I_st (by omega) (by omega), h.ov.at (by omega), w_iN (by omega) (by omega), st_ov (by omega), nI_1]
      have e : (fun q => if q = p then nI (be (23 + p)) else (fun q => if q < p then nI (be (23 + q)) else f q) q) = fun q => if q < p + 1 then nI (be (23 + q)) else f q := by
        funext q
        by_cases c : q = p
        · subst c; rw [if_pos rfl, if_pos (by omega)]
        · rw [if_neg c]
          show (if q < p then _ else _) = _
          by_cases c2 : q < p
          · rw [if_pos c2, if_pos (by omega)]
          · rw [if_neg c2, if_neg (by omega)]
      rw [e]
      exact ih (p + 1) fuel K (by omega) (by omega)
  have e := key (be 0) 0 fuel K (by omega) (by omega)
  have e0 : (fun q => if q < 0 then nI (be (23 + q)) else f q) = f := by funext q; rw [if_neg (by omega)]
  rw [e0] at e
  exact e
theorem op_mornings (a1 a2 : Int32) : lw_ok Inv (fun M => f_X9_mornings M a1 a2) (fun M => f_X10_mornings M a1 a2) := by
  refine okI (fun M h => ?_)
  obtain ⟨be, b1, b2, b3⟩ := h.2.2.2.2.1
  rcases rg (x := a1) (lo := 0) (hi := 999999) (lo' := 0) (hi' := 999999) 0 999999 rfl rfl rfl rfl (by omega) (by omega) with ⟨p0, q0⟩ | ⟨x, m0, l0, rfl, p0, q0⟩
  · refine ok_ref h 0 (by omega) (v := ((-2) : Int32)) ?_ ?_
    · show f_X9_mornings M a1 a2 = _
      unfold f_X9_mornings
      try simp only [tlE]
      rw [p0, if_pos rfl, bind_bad]
    · show f_X10_mornings _ a1 a2 = _
      unfold f_X10_mornings
      try simp only [tlE]
      rw [q0, if_pos rfl, bind_bad10]
  · skip
    rcases rg (x := a2) (lo := 0) (hi := 60) (lo' := 0) (hi' := 60) 0 60 rfl rfl rfl rfl (by omega) (by omega) with ⟨p1, q1⟩ | ⟨n, m1, l1, rfl, p1, q1⟩
    · refine ok_ref h 0 (by omega) (v := ((-2) : Int32)) ?_ ?_
      · show f_X9_mornings M (nI x) a2 = _
        unfold f_X9_mornings
        try simp only [tlE]
        rw [p0, if_neg (by decide), p1, if_pos rfl, bind_bad]
      · show f_X10_mornings _ (nI x) a2 = _
        unfold f_X10_mornings
        try simp only [tlE]
        rw [q0, if_neg (by decide), q1, if_pos rfl, bind_bad10]
    · skip
      have h7 := b3.1
      have hb1 : be 1 ≤ 999 := b3.2.2.2.2.2.2.1.1
      by_cases c0 : be 0 = 0
      · refine ok_ref h 1 (by omega) (v := (-3 : Int32)) ?_ ?_
        · show f_X9_mornings M _ _ = _
          unfold f_X9_mornings
          try simp only [tlE]
          rw [p0, if_neg (by decide), p1, if_neg (by decide)]
          rw [b1.1, c0, if_neg (by decide), bind_no]
        · show f_X10_mornings _ _ _ = _
          unfold f_X10_mornings
          try simp only [tlE]
          rw [q0, if_neg (by decide), q1, if_neg (by decide)]
          rw [e_many (n := be 0) (by rw [I_sIn (by omega)]; exact b2.at (by omega)), Option.bind_some, c0, if_pos (by decide), bind_no10]
      · obtain ⟨y, r', e9⟩ := e_mornings9 b1 b3 (by omega) l1 n 0 x (rowOf be) 8000 0 j_fu (fun (y36 : Int64) (y37 : Int32) (y38 : Int32) (M39 : j_M) => (some (y37, M39))) (by omega) (by omega) ⟨(rB_row b3).1, fun q hq => by have := (rB_row b3).2 q hq; omega⟩ (by omega) (by omega) (by unfold j_fu; omega)
        have b2' : iM (RW M 2 r') 36 0 be := b2.to (fun k => I_RWn (by omega))
        obtain ⟨la, g, s, o, d1, d2⟩ := E_hand b2' b3
        have eov := e_overs (M := RW M 2 r') (la := la) (f := j_I (RW M 2 r') 47) (g := g) (s := s) (o := o) (x2 := nI n) (x3 := (nI x).toInt64) (x5 := (0 : Int32)) b2' b3 j_fu (by unfold j_fu; omega) (fun (y26 : Int32) (M27 : j_M) => (f_X10_mornings_L91 j_fu  M27 (nI n) (nI x).toInt64 (0 : Int32) (0 : Int32) (fun (y52 : Int64) (y53 : Int32) (y54 : Int32) (M55 : j_M) => (some (y53, M55)))))
        rw [ov_self] at eov
        obtain ⟨y', f', la', g', s', o', e10⟩ := e_mornings10 b2' b3 (by omega) l1 n 0 x (rowOf be) 8000 0 (fun q => if q < be 0 then nI (be (23 + q)) else j_I (RW M 2 r') 47 q) la g s o j_fu (fun (y52 : Int64) (y53 : Int32) (y54 : Int32) (M55 : j_M) => (some (y53, M55))) (by omega) (by omega) ⟨(rB_row b3).1, fun q hq => by have := (rB_row b3).2 q hq; omega⟩ (fun q hq => (d2 q hq).1) (fun q hq => by rw [if_pos hq, row_15]) (by show be 1 = _; omega) (by omega) (by omega) (by unfold j_fu; omega)
        refine ok_nb h (v := nI (0 + moS be n x (rowOf be))) (M1 := RW M 2 r') (M2 := st (ov (RW M 2 r') f') la' g' s' o') ?_ ⟨fun a k hs => I_RWn (by unfold scr at hs; omega), fun _ _ _ => rfl, rfl⟩ ?_ ⟨fun a k hs => ?_, fun _ _ _ => rfl, rfl⟩
        · show f_X9_mornings M _ _ = _
          unfold f_X9_mornings
          try simp only [tlE]
          rw [p0, if_neg (by decide), p1, if_neg (by decide)]
          rw [b1.1, if_pos (gt0 (by omega) (by omega)), show (22 : Int32) = nI 22 from rfl, show (0 : Int32) = nI 0 from rfl, c_iN (by omega) (by omega) (by omega) (by omega)]
          show f_X9_mornings_L68 j_fu (j_cp M 22 0 2 0 22) _ _ _ _ _ = _
          rw [cp_RW b1, nI_l (by omega)]
          exact e9
        · show f_X10_mornings _ _ _ = _
          unfold f_X10_mornings
          try simp only [tlE]
          rw [q0, if_neg (by decide), q1, if_neg (by decide)]
          rw [e_many (n := be 0) (b2'.at (by omega)), Option.bind_some, if_neg (nI_ne0 (by omega) (by omega)), d1, Option.bind_some, j_ckE (by rfl), eov, nI_l (by omega)]
          exact e10
        · have : nb (ov (RW M 2 r') f') (st (ov (RW M 2 r') f') la' g' s' o') := st_nb
          rw [this.1 a k hs, I_ovn (by unfold scr at hs; omega)]
