/-! counts: both sides -/
def WM (M : j_M) (f : Nat → Nat) : j_M := (M.1, fun b j => if b = 9 ∧ j < 10 then lN (f j) else M.2.1 b j, M.2.2)
section
variable {M : j_M} {f : Nat → Nat}
theorem L_WMe {j : Nat} (h : j < 10) : j_L (WM M f) 9 j = lN (f j) := if_pos ⟨rfl, h⟩
theorem L_WMn {b j : Nat} (h : b ≠ 9) : j_L (WM M f) b j = j_L M b j := if_neg (fun q => h q.1)
theorem WM_congr {f' : Nat → Nat} (h : ∀ j, j < 10 → f j = f' j) : WM M f = WM M f' := by
  refine Prod.ext rfl (Prod.ext ?_ rfl)
  funext b j
  show (if b = 9 ∧ j < 10 then lN (f j) else M.2.1 b j) = if b = 9 ∧ j < 10 then lN (f' j) else M.2.1 b j
  by_cases hb : b = 9 ∧ j < 10
  · rw [if_pos hb, if_pos hb, h j hb.2]
  · rw [if_neg hb, if_neg hb]
theorem WM_set {k v : Nat} (h : k < 10) : j_sL (WM M f) 9 k (lN v) = WM M (up f k v) := by
  refine Prod.ext rfl (Prod.ext ?_ rfl)
  funext b j
  show (if b = 9 ∧ j = k then lN v else if b = 9 ∧ j < 10 then lN (f j) else M.2.1 b j) = if b = 9 ∧ j < 10 then lN (up f k v j) else M.2.1 b j
  by_cases hb : b = 9
  · by_cases e : j = k
    · subst e; rw [if_pos ⟨hb, rfl⟩, if_pos ⟨hb, h⟩, up_e rfl]
    · rw [if_neg (fun q => e q.2), up_n e]
  · rw [if_neg (fun q => hb q.1), if_neg (fun q => hb q.1), if_neg (fun q => hb q.1)]
end
theorem e_cw26 {M : j_M} {f : Nat → Nat} {c : Nat} {x1 x3 : Int32} (hc : c ≤ 10) (fuel : Nat) (hfu : 100 < fuel) (K : Int32 → j_M → Option j_M) : f_X9_countWays_L26 fuel (WM M f) x1 (nI c) x3 (9 : Int32) K = K (nI 0) (WM M (fun j => if 0 < j then f j * c + f (j - 1) * (10 - c) else f j)) := by
  have hlc : (nI c).toInt64 = lN c := nI_l (by omega)
  have hlc2 : ((10 : Int32) - nI c).toInt64 = lN (10 - c) := by rw [i_10, pk_sub hc, nI_l (by omega)]
  have key : ∀ d fuel K, d ≤ 9 → d < fuel → f_X9_countWays_L26 fuel (WM M (fun j => if d < j then f j * c + f (j - 1) * (10 - c) else f j)) x1 (nI c) x3 (nI d) K = K (nI 0) (WM M (fun j => if 0 < j then f j * c + f (j - 1) * (10 - c) else f j)) := by
    intro d
    induction d with
    | zero =>
      intro fuel K h1 h2
      obtain ⟨fuel, rfl⟩ : ∃ f, fuel = f + 1 := ⟨fuel - 1, by omega⟩
      rw [f_X9_countWays_L26, if_pos (by decide)]
    | succ d ih =>
      intro fuel K h1 h2
      obtain ⟨fuel, rfl⟩ : ∃ f, fuel = f + 1 := ⟨fuel - 1, by omega⟩
      rw [f_X9_countWays_L26, if_neg (nI_nle (by omega) (by omega)), a_lN (by omega) (by omega), L_WMe (by omega), if_neg (by omega), nI_pred, a_lN (by omega) (by omega), L_WMe (by omega), if_neg (by omega), hlc, hlc2, lN_mul, lN_mul, lN_add, w_lN (by omega) (by omega), WM_set (by omega), pk_m1]
      rw [WM_congr (f' := fun j => if d < j then f j * c + f (j - 1) * (10 - c) else f j) (fun j hj => by
        by_cases e : j = d + 1
        · subst e; rw [up_e rfl, if_pos (by omega), show d + 1 - 1 = d by omega]
        · rw [up_n e]
          by_cases c2 : d + 1 < j
          · rw [if_pos c2, if_pos (by omega)]
          · rw [if_neg c2, if_neg (by omega)])]
      exact ih fuel K (by omega) (by omega)
  have := key 9 fuel K (by omega) (by omega)
  rw [WM_congr (f' := f) (fun j hj => by rw [if_neg (by omega)])] at this
  exact this
theorem e_countWays {M : j_M} {n c : Nat} (hn : n ≤ 9) (hc : c ≤ 10) : f_X9_countWays M (nI n) (nI c) = some (WM M (wy c n)) := by
  have hlc : (nI c).toInt64 = lN c := nI_l (by omega)
  have key : ∀ d i fuel K, i + d = n → d < fuel → f_X9_countWays_L17 fuel (WM M (wy c i)) (nI n) (nI c) (nI i) K = K (nI n) (WM M (wy c n)) := by
    intro d
    induction d with
    | zero =>
      intro i fuel K h1 h2
      obtain ⟨fuel, rfl⟩ : ∃ f, fuel = f + 1 := ⟨fuel - 1, by omega⟩
      rw [f_X9_countWays_L17, if_pos (nI_le (by omega) (by omega)), show i = n by omega]
    | succ d ih =>
      intro i fuel K h1 h2
      obtain ⟨fuel, rfl⟩ : ∃ f, fuel = f + 1 := ⟨fuel - 1, by omega⟩
      rw [f_X9_countWays_L17, if_neg (nI_ge (by omega) (by omega)), e_cw26 hc j_fu (by unfold j_fu; omega), i_0, a_lN (by omega) (by omega), L_WMe (by omega), if_neg (by omega), hlc, lN_mul, w_lN (by omega) (by omega), WM_set (by omega), nI_1]
      rw [WM_congr (f' := wy c (i + 1)) (fun j hj => by
        rw [wy_s hj]
        by_cases e : j = 0
        · subst e; rw [up_e rfl, if_pos rfl]; rfl
        · rw [up_n e, if_pos (by omega), if_neg e])]
      exact ih (i + 1) fuel K (by omega) (by omega)
  have e0 : j_sL (j_fl M 9 10 (0 : Int64)) 9 0 (1 : Int64) = WM M (wy c 0) := by
    refine Prod.ext rfl (Prod.ext ?_ rfl)
    funext b j
    show (if b = 9 ∧ j = 0 then (1 : Int64) else if b = 9 ∧ j < 10 then 0 else M.2.1 b j) = if b = 9 ∧ j < 10 then lN (wy c 0 j) else M.2.1 b j
    by_cases hb : b = 9 ∧ j < 10
    · rw [if_pos hb, if_pos hb, wy_0 hb.2]
      by_cases e : j = 0
      · rw [if_pos ⟨hb.1, e⟩, if_pos e]; rfl
      · rw [if_neg (fun q => e q.2), if_neg e]; rfl
    · rw [if_neg hb, if_neg hb, if_neg (by omega)]
  unfold f_X9_countWays
  rw [tlE, i_0, w_lN (by omega) (by omega), e0]
  have hj : 100000 < j_fu := by unfold j_fu; omega
  revert hj
  generalize j_fu = fu
  intro hj
  exact key n 0 fu _ (by omega) (by omega)
def CM (N : j_M) (a b : Nat) : j_M := j_sL (j_sL N 0 7 (lN a)) 0 8 (lN b)
theorem CM_a {N : j_M} {a b a' : Nat} : j_sL (CM N a b) 0 7 (lN a') = CM N a' b := by
  refine Prod.ext rfl (Prod.ext ?_ rfl)
  funext q j
  show (if q = 0 ∧ j = 7 then lN a' else if q = 0 ∧ j = 8 then lN b else if q = 0 ∧ j = 7 then lN a else N.2.1 q j) = if q = 0 ∧ j = 8 then lN b else if q = 0 ∧ j = 7 then lN a' else N.2.1 q j
  by_cases h : q = 0 ∧ j = 7
  · rw [if_pos h, if_neg (by omega), if_pos h]
  · rw [if_neg h, if_neg h, if_neg h]
theorem CM_b {N : j_M} {a b b' : Nat} : j_sL (CM N a b) 0 8 (lN b') = CM N a b' := by
  refine Prod.ext rfl (Prod.ext ?_ rfl)
  funext q j
  show (if q = 0 ∧ j = 8 then lN b' else if q = 0 ∧ j = 8 then lN b else if q = 0 ∧ j = 7 then lN a else N.2.1 q j) = if q = 0 ∧ j = 8 then lN b' else if q = 0 ∧ j = 7 then lN a else N.2.1 q j
  by_cases h : q = 0 ∧ j = 8
  · rw [if_pos h, if_pos h]
  · rw [if_neg h, if_neg h, if_neg h]
theorem d_lN {ρ : Type} {a b : Nat} {k : Int64 → Option ρ} (ha : a < 2 ^ 63) (h0 : 0 < b) (hb : b < 2 ^ 63) : d_l (lN a) (lN b) k = k (lN (a / b)) := by
  unfold d_l
  rw [if_neg (by
    rw [show (0 : Int64) = lN 0 from rfl, pk_lEQ hb (by omega)]
    omega), pk_lDiv ha h0 hb]
theorem cmp0 {a : Nat} (ha : a < 2 ^ 63) : lg_cmp (lN a) (0 : Int64) = 0 ↔ a = 0 := by
  unfold lg_cmp
  by_cases h : a = 0
  · subst h
    rw [if_neg (by decide), if_pos (show lN 0 = 0 from rfl)]
    exact ⟨fun _ => rfl, fun _ => rfl⟩
  · rw [if_pos (show lN a > 0 from (pk_lLT (a := 0) (by omega) ha).mpr (by omega))]
    constructor
    · intro x; exact absurd x (by decide)
    · intro x; exact absurd x h
theorem e_lowerBy {N : j_M} {a b p : Nat} {x : Int32} (hx : x = nI p) (hp : 0 < p) (hp9 : p < 10) (ha : a < 2 ^ 60) (hb : b < 2 ^ 60) : f_X9_lowerBy (CM N a b) x = some (CM N (lw1 p (a, b)).1 (lw1 p (a, b)).2) := by
  subst hx
  unfold f_X9_lowerBy lw1
  have hl : (nI p).toInt64 = lN p := nI_l (by omega)
  have e7 : ∀ a b, j_L (CM N a b) 0 7 = lN a := fun _ _ => rfl
  have e8 : ∀ a b, j_L (CM N a b) 0 8 = lN b := fun _ _ => rfl
  have hma : a % p < 2 ^ 63 := by have := Nat.mod_le a p; omega
  have hmb : b % p < 2 ^ 63 := by have := Nat.mod_le b p; omega
  rw [if_neg (nI_nle hp (by omega)), hl, e7, r_lN (by omega) hp (by omega)]
  by_cases c1 : a % p = 0
  · rw [if_pos ((cmp0 hma).mpr c1), e8, r_lN (by omega) hp (by omega)]
    by_cases c2 : b % p = 0
    · rw [if_pos ((cmp0 hmb).mpr c2), d_lN (by omega) hp (by omega), tlE, CM_a, e8, d_lN (by omega) hp (by omega), tlE, CM_b, if_pos ⟨c1, c2⟩]
    · rw [if_neg (fun x => c2 ((cmp0 hmb).mp x)), if_neg (fun x => c2 x.2)]
  · rw [if_neg (fun x => c1 ((cmp0 hma).mp x)), if_neg (fun x => c1 x.1)]
theorem lw1_le {p : Nat} {q : Nat × Nat} : (lw1 p q).1 ≤ q.1 ∧ (lw1 p q).2 ≤ q.2 := by
  unfold lw1
  split
  · exact ⟨Nat.div_le_self _ _, Nat.div_le_self _ _⟩
  · exact ⟨Nat.le_refl _, Nat.le_refl _⟩
theorem lws_le {n : Nat} {q : Nat × Nat} : (lws n q).1 ≤ q.1 ∧ (lws n q).2 ≤ q.2 := by
  induction n with
  | zero => exact ⟨Nat.le_refl _, Nat.le_refl _⟩
  | succ n ih =>
    have h1 := lw1_le (p := 2) (q := lws n q)
    have h2 := lw1_le (p := 5) (q := lw1 2 (lws n q))
    show (lw1 5 (lw1 2 (lws n q))).1 ≤ _ ∧ (lw1 5 (lw1 2 (lws n q))).2 ≤ _
    omega
theorem e_lower {N : j_M} {a b n : Nat} (hn : n ≤ 9) (ha : a < 2 ^ 60) : f_X9_lowerTerms (CM N a b) (nI n) = some (CM N (lws n (a, 10 ^ n)).1 (lws n (a, 10 ^ n)).2) := by
  have h10 : 10 ^ n ≤ 10 ^ 9 := Nat.pow_le_pow_right (by decide) hn
  have k1 : ∀ d i fuel K, i + d = n → d < fuel → f_X9_lowerTerms_L7 fuel (CM N a (10 ^ i)) (nI n) (nI i) K = K (nI n) (CM N a (10 ^ n)) := by
    intro d
    induction d with
    | zero =>
      intro i fuel K h1 h2
      obtain ⟨fuel, rfl⟩ : ∃ f, fuel = f + 1 := ⟨fuel - 1, by omega⟩
      rw [f_X9_lowerTerms_L7, if_pos (nI_le (by omega) (by omega)), show i = n by omega]
    | succ d ih =>
      intro i fuel K h1 h2
      obtain ⟨fuel, rfl⟩ : ∃ f, fuel = f + 1 := ⟨fuel - 1, by omega⟩
      rw [f_X9_lowerTerms_L7, if_neg (nI_ge (by omega) (by omega)), tlE, show j_L (CM N a (10 ^ i)) 0 8 = lN (10 ^ i) from rfl, show (10 : Int64) = lN 10 from rfl, lN_mul, CM_b, nI_1]
      exact ih (i + 1) fuel K (by omega) (by omega)
  have k2 : ∀ d i fuel K, i + d = n → d < fuel → f_X9_lowerTerms_L32 fuel (CM N (lws i (a, 10 ^ n)).1 (lws i (a, 10 ^ n)).2) (nI n) (nI i) K = K (nI n) (CM N (lws n (a, 10 ^ n)).1 (lws n (a, 10 ^ n)).2) := by
    intro d
    induction d with
    | zero =>
      intro i fuel K h1 h2
      obtain ⟨fuel, rfl⟩ : ∃ f, fuel = f + 1 := ⟨fuel - 1, by omega⟩
      rw [f_X9_lowerTerms_L32, if_pos (nI_le (by omega) (by omega)), show i = n by omega]
    | succ d ih =>
      intro i fuel K h1 h2
      obtain ⟨fuel, rfl⟩ : ∃ f, fuel = f + 1 := ⟨fuel - 1, by omega⟩
      have hle := lws_le (n := i) (q := (a, 10 ^ n))
      have hle2 := lw1_le (p := 2) (q := lws i (a, 10 ^ n))
      simp only at hle
      rw [f_X9_lowerTerms_L32, if_neg (nI_ge (by omega) (by omega)), e_lowerBy (x := 2) (p := 2) rfl (by omega) (by omega) (by omega) (by omega), Option.bind_some, j_ckE (by rfl)]
      show (f_X9_lowerBy (CM N (lw1 2 (lws i (a, 10 ^ n))).1 (lw1 2 (lws i (a, 10 ^ n))).2) (5 : Int32)).bind _ = _
      rw [e_lowerBy (x := 5) (p := 5) rfl (by omega) (by omega) (by omega) (by omega), Option.bind_some, j_ckE (by rfl), nI_1]
      exact ih (i + 1) fuel K (by omega) (by omega)
  unfold f_X9_lowerTerms
  rw [tlE, show (1 : Int64) = lN 1 from rfl, CM_b]
  have hj : 100000 < j_fu := by unfold j_fu; omega
  revert hj
  generalize j_fu = fu
  intro hj
  have e1 := k1 n 0 fu (fun (y8 : Int32) (M9 : j_M) => (f_X9_lowerTerms_L32 fu  M9 (nI n) (0 : Int32) (fun (y20 : Int32) (M21 : j_M) => (some M21)))) (by omega) (by omega)
  have e2 := k2 n 0 fu (fun (y20 : Int32) (M21 : j_M) => (some M21)) (by omega) (by omega)
  rw [Nat.pow_zero] at e1
  exact e1.trans e2
theorem e_counts49 {N : j_M} {c n k : Nat} (hn : n ≤ 9) (hk : k ≤ 9) (hL : ∀ j, j < 10 → j_L N 9 j = lN (wy c n j)) (b : Nat) (fuel : Nat) (hfu : 100 < fuel) (K : Int32 → j_M → Option (Int32 × j_M)) : ∃ y, f_X9_counts_L49 fuel (CM N 0 b) (nI n) (nI k) K = K y (CM N (cT c n k) b) := by
  have hLc : ∀ a j, j < 10 → j_L (CM N a b) 9 j = lN (wy c n j) := fun a j hj => by
    rw [← hL j hj]
    show (if 9 = 0 ∧ j = 8 then lN b else if 9 = 0 ∧ j = 7 then lN a else N.2.1 9 j) = _
    rw [if_neg (by omega), if_neg (by omega)]
    rfl
  have key : ∀ d i fuel K, i + d = n + 1 - k → d < fuel → ∃ y, f_X9_counts_L49 fuel (CM N (sm i (fun i => wy c n (k + i))) b) (nI n) (nI (k + i)) K = K y (CM N (cT c n k) b) := by
    intro d
    induction d with
    | zero =>
      intro i fuel K h1 h2
      obtain ⟨fuel, rfl⟩ : ∃ f, fuel = f + 1 := ⟨fuel - 1, by omega⟩
      refine ⟨nI (k + i), ?_⟩
      rw [f_X9_counts_L49, if_pos (nI_lt (by omega) (by omega)), show i = n + 1 - k by omega]
      rfl
    | succ d ih =>
      intro i fuel K h1 h2
      obtain ⟨fuel, rfl⟩ : ∃ f, fuel = f + 1 := ⟨fuel - 1, by omega⟩
      obtain ⟨y, e⟩ := ih (i + 1) fuel K (by omega) (by omega)
      refine ⟨y, ?_⟩
      rw [f_X9_counts_L49, if_neg (nI_nlt (by omega) (by omega)), a_lN (by omega) (by omega), hLc _ _ (by omega), tlE, show ∀ a, j_L (CM N a b) 0 7 = lN a from fun _ => rfl, lN_add, CM_a, nI_1]
      exact e
  exact key (n + 1 - k) 0 fuel K (by omega) (by omega)
/-- the model's loops -/
theorem shl_k : ∀ n, n < 10 → (1 : Int32) <<< (nI n &&& 31) = nI (2 ^ n) := by decide +kernel
theorem smod_k : ∀ l, l < 10 → ((nI l &&& 31).toBitVec.smod 32).toNat = l := by decide +kernel
theorem has_n {S l : Nat} (hS : S < 1024) (hl : l < 10) : f_X10_has (nI S) (nI l) = if S / 2 ^ l % 2 = 0 then 0 else 1 := by
  unfold f_X10_has
  have h1 : S / 2 ^ l ≤ S := Nat.div_le_self _ _
  rw [pk_shrN (by omega) _ l (smod_k l hl), pk_andN (by omega) 1 rfl]
  rcases Nat.mod_two_eq_zero_or_one (S / 2 ^ l) with e | e
  · rw [if_pos e, show S / 2 ^ l % 2 ^ 1 = 0 from e]; rfl
  · rw [if_neg (show ¬ S / 2 ^ l % 2 = 0 by omega), show S / 2 ^ l % 2 ^ 1 = 1 from e]; rfl
theorem e_c102 {M : j_M} {n c S v : Nat} {x2 : Int32} {x4 x6 : Int64} (hn : n ≤ 9) (hc : c ≤ 10) (hS : S < 1024) (fuel : Nat) (hfu : 100 < fuel) (K : Int64 → Int32 → Option (Int32 × j_M)) : f_X10_counts_L102 fuel M (nI n) x2 (nI c) x4 x6 (nI S) (lN v) (0 : Int32) K = K (lN (v * pd c S n)) (nI n) := by
  have hlc : (nI c).toInt64 = lN c := nI_l (by omega)
  have hlc2 : ((10 : Int32) - nI c).toInt64 = lN (10 - c) := by rw [i_10, pk_sub hc, nI_l (by omega)]
  have key : ∀ d l fuel K, l + d = n → d < fuel → f_X10_counts_L102 fuel M (nI n) x2 (nI c) x4 x6 (nI S) (lN (v * pd c S l)) (nI l) K = K (lN (v * pd c S n)) (nI n) := by
    intro d
    induction d with
    | zero =>
      intro l fuel K h1 h2
      obtain ⟨fuel, rfl⟩ : ∃ f, fuel = f + 1 := ⟨fuel - 1, by omega⟩
      rw [f_X10_counts_L102, if_pos (nI_le (by omega) (by omega)), show l = n by omega]
    | succ d ih =>
      intro l fuel K h1 h2
      obtain ⟨fuel, rfl⟩ : ∃ f, fuel = f + 1 := ⟨fuel - 1, by omega⟩
      have ih' := ih (l + 1) fuel K (by omega) (by omega)
      rw [show pd c S (l + 1) = pd c S l * (if S / 2 ^ l % 2 = 0 then c else 10 - c) from rfl, ← Nat.mul_assoc] at ih'
      rw [f_X10_counts_L102, if_neg (nI_ge (by omega) (by omega)), tlE, has_n hS (by omega), hlc, hlc2, lN_mul, lN_mul, nI_1]
      by_cases e : S / 2 ^ l % 2 = 0
      · rw [if_pos e] at ih' ⊢
        rw [if_pos rfl]
        exact ih'
      · rw [if_neg e] at ih' ⊢
        rw [if_neg (by decide)]
        exact ih'
  have := key n 0 fuel K (by omega) (by omega)
  rw [show pd c S 0 = 1 from rfl, Nat.mul_one] at this
  exact this
theorem pcn_le : ∀ f x, pcn f x ≤ f := by
  intro f
  induction f with
  | zero => intro x; exact Nat.le_refl _
  | succ f ih =>
    intro x
    unfold pcn
    split
    · omega
    · have := ih (x / 2)
      omega
theorem e_c75 {M : j_M} {n k c : Nat} {x6 : Int64} (hn : n ≤ 9) (hk : k ≤ 9) (hc : c ≤ 10) (fuel : Nat) (hfu : 1000 < fuel) (K : Int64 → Int32 → Option (Int32 × j_M)) : f_X10_counts_L75 fuel M (nI n) (nI k) (nI c) (0 : Int64) x6 (0 : Int32) K = K (lN (cW c n k)) (nI (2 ^ n)) := by
  have h2n : 2 ^ n ≤ 2 ^ 9 := Nat.pow_le_pow_right (by decide) hn
  have key : ∀ d S fuel K, S + d = 2 ^ n → d < fuel → f_X10_counts_L75 fuel M (nI n) (nI k) (nI c) (lN (sm S (fun S => (if k ≤ pcn 10 S then 1 else 0) * pd c S n))) x6 (nI S) K = K (lN (cW c n k)) (nI (2 ^ n)) := by
    intro d
    induction d with
    | zero =>
      intro S fuel K h1 h2
      obtain ⟨fuel, rfl⟩ : ∃ f, fuel = f + 1 := ⟨fuel - 1, by omega⟩
      rw [f_X10_counts_L75, shl_k n (by omega), if_pos (nI_le (by omega) (by omega)), show S = 2 ^ n by omega]
      rfl
    | succ d ih =>
      intro S fuel K h1 h2
      obtain ⟨fuel, rfl⟩ : ∃ f, fuel = f + 1 := ⟨fuel - 1, by omega⟩
      have ih' := ih (S + 1) fuel K (by omega) (by omega)
      rw [show sm (S + 1) (fun S => (if k ≤ pcn 10 S then 1 else 0) * pd c S n) = sm S (fun S => (if k ≤ pcn 10 S then 1 else 0) * pd c S n) + (if k ≤ pcn 10 S then 1 else 0) * pd c S n from rfl] at ih'
      have hb : f_X10_bits (nI S) = some (nI (pcn 10 S)) := by
        unfold f_X10_bits
        have hj : 100000 < j_fu := by unfold j_fu; omega
        revert hj
        generalize j_fu = fu
        intro hj
        have := e_bits (ρ := Nat) (fun (y2 : Int32) (y3 : Int32) => (some y2)) 10 fu 0 S (by omega) (by omega) (by omega)
        rw [Nat.zero_add] at this
        exact this
      have hpc := pcn_le 10 S
      have hjn : ∀ (F : Int64 → Option (Int32 × j_M)), (if nI (pcn 10 S) < nI k then F (0 : Int64) else F (1 : Int64)) = F (lN (if k ≤ pcn 10 S then 1 else 0)) := fun F => by
        by_cases e : k ≤ pcn 10 S
        · rw [if_pos e, if_neg (nI_nlt e (by omega))]; rfl
        · rw [if_neg e, if_pos (nI_lt (by omega) (by omega))]; rfl
      rw [f_X10_counts_L75, shl_k n (by omega), if_neg (nI_ge (by omega) (by omega)), hb, Option.bind_some, jnI hjn, e_c102 hn hc (by omega) j_fu (by unfold j_fu; omega), lN_add, nI_1]
      exact ih'
  exact key (2 ^ n) 0 fuel K (by omega) (by omega)
theorem e_c52 {M : j_M} {n : Nat} {x2 x3 : Int32} {x4 : Int64} (hn : n ≤ 9) (fuel : Nat) (hfu : 100 < fuel) (K : Int64 → Int32 → Option (Int32 × j_M)) : f_X10_counts_L52 fuel M (nI n) x2 x3 x4 (1 : Int64) (0 : Int32) K = K (lN (10 ^ n)) (nI n) := by
  have key : ∀ d i fuel K, i + d = n → d < fuel → f_X10_counts_L52 fuel M (nI n) x2 x3 x4 (lN (10 ^ i)) (nI i) K = K (lN (10 ^ n)) (nI n) := by
    intro d
    induction d with
    | zero =>
      intro i fuel K h1 h2
      obtain ⟨fuel, rfl⟩ : ∃ f, fuel = f + 1 := ⟨fuel - 1, by omega⟩
      rw [f_X10_counts_L52, if_pos (nI_le (by omega) (by omega)), show i = n by omega]
    | succ d ih =>
      intro i fuel K h1 h2
      obtain ⟨fuel, rfl⟩ : ∃ f, fuel = f + 1 := ⟨fuel - 1, by omega⟩
      rw [f_X10_counts_L52, if_neg (nI_ge (by omega) (by omega)), show (10 : Int64) = lN 10 from rfl, lN_mul, nI_1]
      exact ih (i + 1) fuel K (by omega) (by omega)
  exact key n 0 fuel K (by omega) (by omega)
theorem half_mod {b r : Nat} (hr : 0 < r) (hrb : r < b) : 2 * (b % r) < b := by
  have h1 := Nat.div_add_mod b r
  have h2 := Nat.mod_lt b hr
  have h3 : 1 ≤ b / r := Nat.div_pos (by omega) hr
  have h4 : r * 1 ≤ r * (b / r) := Nat.mul_le_mul_left r h3
  omega
theorem e_gcd {M : j_M} {x1 x3 : Int64} (K : Int64 → Int64 → Option j_M) : ∀ m fuel a b, b < 2 ^ m → a < 2 ^ 60 → b < 2 ^ 60 → 2 * m + 2 < fuel → f_X10_fraction_L6 fuel M x1 x3 (lN a) (lN b) K = K (lN (Nat.gcd a b)) (lN 0) := by
  intro m
  induction m with
  | zero =>
    intro fuel a b hb ha hb6 hf
    obtain ⟨fuel, rfl⟩ : ∃ f, fuel = f + 1 := ⟨fuel - 1, by omega⟩
    have : b = 0 := by omega
    subst this
    rw [f_X10_fraction_L6, if_pos ((cmp0 (by omega)).mpr rfl), Nat.gcd_zero_right]
  | succ m ih =>
    intro fuel a b hb ha hb6 hf
    obtain ⟨fuel, rfl⟩ : ∃ f, fuel = f + 1 + 1 := ⟨fuel - 2, by omega⟩
    by_cases c : b = 0
    · subst c
      rw [f_X10_fraction_L6, if_pos ((cmp0 (by omega)).mpr rfl), Nat.gcd_zero_right]
    · have hr := Nat.mod_lt a (show 0 < b by omega)
      rw [f_X10_fraction_L6, if_neg (fun x => c ((cmp0 (by omega)).mp x)), r_lN (by omega) (by omega) (by omega)]
      have g1 : Nat.gcd a b = Nat.gcd b (a % b) := by rw [Nat.gcd_comm a b, Nat.gcd_rec b a, Nat.gcd_comm]
      by_cases c2 : a % b = 0
      · rw [f_X10_fraction_L6, if_pos ((cmp0 (by omega)).mpr c2), g1, c2, Nat.gcd_zero_right]
      · have h2 := half_mod (b := b) (r := a % b) (by omega) hr
        have hr2 := Nat.mod_lt b (show 0 < a % b by omega)
        rw [f_X10_fraction_L6, if_neg (fun x => c2 ((cmp0 (by omega)).mp x)), r_lN (by omega) (by omega) (by omega), ih fuel _ _ (by rw [Nat.pow_succ] at hb; omega) (by omega) (by omega) (by omega)]
        have g2 : Nat.gcd b (a % b) = Nat.gcd (a % b) (b % (a % b)) := by rw [Nat.gcd_comm b, Nat.gcd_rec (a % b) b, Nat.gcd_comm]
        rw [g1, g2]
theorem e_fraction {M : j_M} {a b : Nat} (ha : a < 2 ^ 60) (hb : b < 2 ^ 40) (h0 : 0 < b) : f_X10_fraction M (lN a) (lN b) = some (j_sL (j_sL M 35 4 (lN (a / Nat.gcd a b))) 35 5 (lN (b / Nat.gcd a b))) := by
  have hg : 0 < Nat.gcd a b := Nat.gcd_pos_of_pos_right a h0
  have hg2 : Nat.gcd a b ≤ b := Nat.gcd_le_right a h0
  unfold f_X10_fraction
  have hj : 100000 < j_fu := by unfold j_fu; omega
  revert hj
  generalize j_fu = fu
  intro hj
  rw [e_gcd _ 40 fu a b hb ha (by omega) (by omega), d_lN (by omega) hg (by omega), tlE, d_lN (by omega) hg (by omega), tlE]
theorem op_counts (a1 a2 a3 : Int32) : lw_ok Inv (fun M => f_X9_counts M a1 a2 a3) (fun M => f_X10_counts M a1 a2 a3) := by
  refine okI (fun M h => ?_)
  obtain ⟨be, b1, b2, b3⟩ := h.2.2.2.2.1
  rcases rg (x := a1) (lo := 0) (hi := 9) (lo' := 0) (hi' := 9) 0 9 rfl rfl rfl rfl (by omega) (by omega) with ⟨p0, q0⟩ | ⟨n, m0, l0, rfl, p0, q0⟩
  · refine ok_ref h 0 (by omega) (v := ((-2) : Int32)) ?_ ?_
    · show f_X9_counts M a1 a2 a3 = _
      unfold f_X9_counts
      try simp only [tlE]
      rw [p0, if_pos rfl, bind_bad]
    · show f_X10_counts _ a1 a2 a3 = _
      unfold f_X10_counts
      try simp only [tlE]
      rw [q0, if_pos rfl, bind_bad10]
  · skip
    rcases rg (x := a2) (lo := 0) (hi := 9) (lo' := 0) (hi' := 9) 0 9 rfl rfl rfl rfl (by omega) (by omega) with ⟨p1, q1⟩ | ⟨k, m1, l1, rfl, p1, q1⟩
    · refine ok_ref h 0 (by omega) (v := ((-2) : Int32)) ?_ ?_
      · show f_X9_counts M (nI n) a2 a3 = _
        unfold f_X9_counts
        try simp only [tlE]
        rw [p0, if_neg (by decide), p1, if_pos rfl, bind_bad]
      · show f_X10_counts _ (nI n) a2 a3 = _
        unfold f_X10_counts
        try simp only [tlE]
        rw [q0, if_neg (by decide), q1, if_pos rfl, bind_bad10]
    · skip
      rcases rg (x := a3) (lo := 0) (hi := 10) (lo' := 0) (hi' := 10) 0 10 rfl rfl rfl rfl (by omega) (by omega) with ⟨p2, q2⟩ | ⟨c, m2, l2, rfl, p2, q2⟩
      · refine ok_ref h 0 (by omega) (v := ((-2) : Int32)) ?_ ?_
        · show f_X9_counts M (nI n) (nI k) a3 = _
          unfold f_X9_counts
          try simp only [tlE]
          rw [p0, if_neg (by decide), p1, if_neg (by decide), p2, if_pos rfl, bind_bad]
        · show f_X10_counts _ (nI n) (nI k) a3 = _
          unfold f_X10_counts
          try simp only [tlE]
          rw [q0, if_neg (by decide), q1, if_neg (by decide), q2, if_pos rfl, bind_bad10]
      · skip
        obtain ⟨z, ta, t⟩ := h.2.2.2.1
        obtain ⟨k1, k2, k3⟩ := cnt_k n (by omega) k (by omega) c (by omega)
        have h10 : 10 ^ n ≤ 10 ^ 9 := Nat.pow_le_pow_right (by decide) l0
        have h0 : 0 < 10 ^ n := Nat.pow_pos (by decide)
        obtain ⟨b0, hb0⟩ : ∃ b0 : Nat, j_sL (j_sL (WM M (wy c n)) 0 7 (lN 0)) 0 8 (lN b0) = j_sL (WM M (wy c n)) 0 7 (lN 0) := by
          refine ⟨(j_L M 0 8).toBitVec.toNat, ?_⟩
          refine Prod.ext rfl (Prod.ext ?_ rfl)
          funext q j
          show (if q = 0 ∧ j = 8 then lN (j_L M 0 8).toBitVec.toNat else if q = 0 ∧ j = 7 then lN 0 else if q = 9 ∧ j < 10 then lN (wy c n j) else M.2.1 q j) = if q = 0 ∧ j = 7 then lN 0 else if q = 9 ∧ j < 10 then lN (wy c n j) else M.2.1 q j
          by_cases e : q = 0 ∧ j = 8
          · rw [if_pos e, if_neg (by omega), if_neg (by omega), e.1, e.2]
            apply Int64.toBitVec_inj.mp
            show BitVec.ofNat 64 (j_L M 0 8).toBitVec.toNat = _
            simp
            rfl
          · rw [if_neg e]
        obtain ⟨y, e49⟩ := e_counts49 (N := WM M (wy c n)) (c := c) (n := n) (k := k) l0 l1 (fun j hj => L_WMe hj) b0 j_fu (by unfold j_fu; omega) (fun (y31 : Int32) (M32 : j_M) => ((f_X9_lowerTerms M32 (nI n)).bind fun q34 => j_ck M32 q34 (some ((1 : Int32), q34))))
        rw [show CM (WM M (wy c n)) 0 b0 = j_sL (WM M (wy c n)) 0 7 (lN 0) from hb0] at e49
        refine ok_gen (be' := be) (z := z) (ta := ta) h (v := 1) (M1 := CM (WM M (wy c n)) (lws n (cT c n k, 10 ^ n)).1 (lws n (cT c n k, 10 ^ n)).2) (M2 := j_sL (j_sL (CM (WM M (wy c n)) (lws n (cT c n k, 10 ^ n)).1 (lws n (cT c n k, 10 ^ n)).2) 35 4 (lN ((rl c n).getD k 0 / Nat.gcd ((rl c n).getD k 0) (10 ^ n)))) 35 5 (lN (10 ^ n / Nat.gcd ((rl c n).getD k 0) (10 ^ n)))) ?_ rfl ?_ rfl (fun _ _ _ => rfl) ?_ (t.to rfl rfl (fun _ => rfl) (fun _ => rfl)) (b1.to (fun _ _ _ _ => rfl)) (b2.to (fun _ => rfl)) b3
        · show f_X9_counts M _ _ _ = _
          unfold f_X9_counts
          try simp only [tlE]
          rw [p0, if_neg (by decide), p1, if_neg (by decide), p2, if_neg (by decide)]
          rw [e_countWays l0 l2, Option.bind_some, j_ckE (by rfl), show (0 : Int64) = lN 0 from rfl, e49]
          rw [e_lower l0 (by omega), Option.bind_some, j_ckE (by rfl)]
        · show f_X10_counts _ _ _ _ = _
          unfold f_X10_counts
          try simp only [tlE]
          rw [q0, if_neg (by decide), q1, if_neg (by decide), q2, if_neg (by decide)]
          rw [e_c52 l0 j_fu (by unfold j_fu; omega), e_c75 l0 l1 l2 j_fu (by unfold j_fu; omega), cW_rl n l0 k (by omega), e_fraction (by omega) (by omega) h0, Option.bind_some, j_ckE (by rfl)]
        · rw [k1]
          exact ⟨rfl, rfl⟩
