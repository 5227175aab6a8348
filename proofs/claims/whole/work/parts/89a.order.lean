/-! orders: the pure part -/
section
variable (n0 : Nat) (pi : Nat → Nat) (g n : Nat)
def fA2 (x b : Nat) : Bool := decide (n * x ≤ g + n * pi b)
def ex (L : Nat → Bool) (b : Nat) : Nat → Bool := fun q => L q && !(q == b)
def wW : Nat → Nat → (Nat → Bool) → Nat
  | 0, _, _ => 1
  | d + 1, x, L => sm n0 (fun b => if L b && fA2 pi g n x b then wW d (pi b) (ex L b) else 0)
def lt2 (q p : Nat) : Bool := decide (pi q < pi p) || (decide (pi q = pi p) && decide (q < p))
end
section
variable {n0 : Nat} {pi : Nat → Nat} {g n : Nat}
theorem ex_comm {L : Nat → Bool} {a b : Nat} : ex (ex L a) b = ex (ex L b) a := by
  funext q
  unfold ex
  cases L q <;> cases (q == a) <;> cases (q == b) <;> rfl
theorem ct_ex {L : Nat → Bool} {b : Nat} (hb : b < n0) (h : L b = true) : ct n0 (ex L b) + 1 = ct n0 L := by
  have key : ∀ m, m ≤ n0 → ct m (ex L b) + (if b < m then 1 else 0) = ct m L := fun m => by
    induction m with
    | zero => intro _; simp [ct, sm]
    | succ m ih =>
      intro hm
      have := ih (by omega)
      have hs1 := ct_s (n := m) (P := ex L b)
      have hs2 := ct_s (n := m) (P := L)
      by_cases e : m = b
      · subst e
        have h1 : ex L m m = false := by unfold ex; simp
        rw [h1, if_neg (by decide)] at hs1
        rw [h, if_pos rfl] at hs2
        rw [if_neg (Nat.lt_irrefl m)] at this
        rw [if_pos (Nat.lt_succ_self m)]
        omega
      · have h1 : ex L b m = L m := by unfold ex; rw [beq_eq_false_iff_ne.mpr e]; simp
        rw [h1] at hs1
        by_cases c : b < m
        · rw [if_pos c] at this; rw [if_pos (show b < m + 1 by omega)]; omega
        · rw [if_neg c] at this; rw [if_neg (show ¬ b < m + 1 by omega)]; omega
  have := key n0 (Nat.le_refl _)
  rw [if_pos hb] at this
  exact this
theorem ct_0 {L : Nat → Bool} (h : ct n0 L = 0) : ∀ q, q < n0 → ¬ L q = true := fun q hq hL => by
  have := ct_ex hq hL
  omega
theorem sm_fadd {m : Nat} {f h : Nat → Nat} : sm m (fun i => f i + h i) = sm m f + sm m h := by
  induction m with
  | zero => rfl
  | succ m ih => simp only [sm]; omega
theorem sm_single {m s : Nat} {f : Nat → Nat} (hs : s < m) : sm m f = f s + sm m (fun i => if i = s then 0 else f i) := by
  induction m with
  | zero => omega
  | succ m ih =>
    simp only [sm]
    by_cases e : s = m
    · subst e
      rw [if_pos rfl, sm_congr (g := fun i => if i = s then 0 else f i) (fun i hi => by rw [if_neg (by omega)])]
      omega
    · rw [if_neg (fun x => e x.symm), ih (by omega)]
      omega
/-- the slowest of a set -/
theorem slowest {L : Nat → Bool} (h : 0 < ct n0 L) : ∃ s, s < n0 ∧ L s = true ∧ ∀ q, q < n0 → L q = true → q ≠ s → lt2 pi q s = true := by
  have key : ∀ m, m ≤ n0 → 0 < ct m L → ∃ s, s < m ∧ L s = true ∧ ∀ q, q < m → L q = true → q ≠ s → lt2 pi q s = true := fun m => by
    induction m with
    | zero => intro _ h; exact absurd h (by simp [ct, sm])
    | succ m ih =>
      intro hm h0
      by_cases c0 : 0 < ct m L
      · obtain ⟨s, s1, s2, s3⟩ := ih (by omega) c0
        by_cases c : L m = true
        · by_cases c2 : pi s ≤ pi m
          · refine ⟨m, by omega, c, fun q hq hL hne => ?_⟩
            by_cases e : q = s
            · rw [e]; unfold lt2; simp; omega
            · have := s3 q (by omega) hL e
              unfold lt2 at this ⊢
              simp at this ⊢
              omega
          · refine ⟨s, by omega, s2, fun q hq hL hne => ?_⟩
            by_cases e : q = m
            · rw [e]; unfold lt2; simp; omega
            · exact s3 q (by omega) hL hne
        · refine ⟨s, by omega, s2, fun q hq hL hne => ?_⟩
          by_cases e : q = m
          · rw [e] at hL; exact absurd hL c
          · exact s3 q (by omega) hL hne
      · rw [ct_s] at h0
        have c : L m = true := by
          apply Classical.byContradiction
          intro c
          rw [if_neg c] at h0
          omega
        refine ⟨m, by omega, c, fun q hq hL hne => ?_⟩
        exfalso
        have h1 := ct_mono (P := L) (show q + 1 ≤ m by omega)
        rw [ct_s, if_pos hL] at h1
        omega
  exact key n0 (Nat.le_refl _) h
theorem lt2_le {q s : Nat} (h : lt2 pi q s = true) : pi q ≤ pi s := by unfold lt2 at h; simp at h; omega
theorem fA_mono {x y b : Nat} (h : x ≤ y) (hA : fA2 pi g n y b = true) : fA2 pi g n x b = true := by
  unfold fA2 at hA ⊢
  have h1 := of_decide_eq_true hA
  have h2 : n * x ≤ n * y := Nat.mul_le_mul_left n h
  exact decide_eq_true (by omega)
theorem fA_le {x b c : Nat} (h : pi b ≤ pi c) (hA : fA2 pi g n x b = true) : fA2 pi g n x c = true := by
  unfold fA2 at hA ⊢
  have h1 := of_decide_eq_true hA
  have h2 : n * pi b ≤ n * pi c := Nat.mul_le_mul_left n h
  exact decide_eq_true (by omega)
theorem fA_self {x b : Nat} (h : x ≤ pi b) : fA2 pi g n x b = true := by
  unfold fA2
  have h2 : n * x ≤ n * pi b := Nat.mul_le_mul_left n h
  exact decide_eq_true (by omega)
def dD (n0 : Nat) (pi : Nat → Nat) (g n : Nat) (s : Nat) (L : Nat → Bool) : Nat := ct n0 (fun b => L b && fA2 pi g n (pi s) b)
theorem dD_ex {s b : Nat} {L : Nat → Bool} (hb : b < n0) (hL : L b = true) : dD n0 pi g n s (ex L b) + (if fA2 pi g n (pi s) b then 1 else 0) = dD n0 pi g n s L := by
  unfold dD
  by_cases c : fA2 pi g n (pi s) b = true
  · rw [if_pos c]
    have := ct_ex (L := fun b => L b && fA2 pi g n (pi s) b) hb (by simp [hL, c])
    rw [← this]
    congr 1
    refine ct_congr (fun q hq => ?_)
    show ((L q && !(q == b)) && fA2 pi g n (pi s) q) = ((L q && fA2 pi g n (pi s) q) && !(q == b))
    cases L q <;> cases (q == b) <;> cases fA2 pi g n (pi s) q <;> rfl
  · rw [if_neg c, Nat.add_zero]
    refine ct_congr (fun q hq => ?_)
    unfold ex
    by_cases e : q = b
    · subst e; simp [c]
    · rw [beq_eq_false_iff_ne.mpr e]; simp
/-- the slowest put back in -/
theorem w_slow : ∀ d x L s, ct n0 L = d + 1 → s < n0 → L s = true → (∀ q, q < n0 → L q = true → pi q ≤ pi s) → x ≤ pi s → wW n0 pi g n (d + 1) x L = (1 + dD n0 pi g n s (ex L s)) * wW n0 pi g n d x (ex L s) := by
  intro d
  induction d with
  | zero =>
    intro x L s hc hs hL hmax hx
    have h0 := ct_ex hs hL
    have he : ∀ q, q < n0 → ¬ ex L s q = true := ct_0 (by omega)
    have hD : dD n0 pi g n s (ex L s) = 0 := by
      unfold dD
      rw [ct_congr (Q := fun _ => false) (fun q hq => by simp [Bool.eq_false_iff.mpr (he q hq)])]
      unfold ct
      exact Nat.le_zero.mp (by have := sm_le (n := n0) (f := fun _ => if false then 1 else 0) (c := 0) (fun _ _ => by simp); simpa using this)
    rw [hD]
    show sm n0 (fun b => if L b && fA2 pi g n x b then 1 else 0) = (1 + 0) * 1
    rw [sm_single hs, hL, fA_self hx]
    rw [sm_congr (g := fun _ => 0) (fun q hq => by
      by_cases e : q = s
      · rw [if_pos e]
      · rw [if_neg e]
        have : L q = false := by
          have := he q hq
          unfold ex at this
          rw [beq_eq_false_iff_ne.mpr e] at this
          simpa using this
        rw [this]
        rfl)]
    have hz : ∀ m, sm m (fun _ => 0) = 0 := fun m => by
      induction m with
      | zero => rfl
      | succ m ih => simp only [sm]; omega
    rw [hz]
    rfl
  | succ d ih =>
    intro x L s hc hs hL hmax hx
    have h0 := ct_ex hs hL
    have e1 : wW n0 pi g n (d + 1 + 1) x L = wW n0 pi g n (d + 1) (pi s) (ex L s) + sm n0 (fun b => if b = s then 0 else if L b && fA2 pi g n x b then wW n0 pi g n (d + 1) (pi b) (ex L b) else 0) := by
      show sm n0 (fun b => if L b && fA2 pi g n x b then wW n0 pi g n (d + 1) (pi b) (ex L b) else 0) = _
      rw [sm_single hs, hL, fA_self hx]
      rfl
    have e2 : ∀ b, b < n0 → (if b = s then 0 else if L b && fA2 pi g n x b then wW n0 pi g n (d + 1) (pi b) (ex L b) else 0) + (if ex L s b && fA2 pi g n (pi s) b then wW n0 pi g n d (pi b) (ex (ex L s) b) else 0) = (if ex L s b && fA2 pi g n x b then wW n0 pi g n d (pi b) (ex (ex L s) b) else 0) * (1 + dD n0 pi g n s (ex L s)) := fun b hb => by
      by_cases eb : b = s
      · subst eb
        have : ex L b b = false := by unfold ex; simp
        rw [if_pos rfl, this]
        simp
      · have hx1 : ex L s b = L b := by unfold ex; rw [beq_eq_false_iff_ne.mpr eb]; simp
        rw [if_neg eb, hx1]
        by_cases hLb : L b = true
        · have hle := hmax b hb hLb
          have hse : ex L b s = true := by unfold ex; rw [beq_eq_false_iff_ne.mpr (fun x => eb x.symm), hL]; rfl
          have hcb := ct_ex hb hLb
          have ihb := ih (pi b) (ex L b) s (by omega) hs hse (fun q hq hq2 => hmax q hq (by unfold ex at hq2; simp at hq2; exact hq2.1)) hle
          rw [ex_comm] at ihb
          have hdd := dD_ex (pi := pi) (g := g) (n := n) (s := s) (L := ex L s) hb (by rw [hx1]; exact hLb)
          by_cases hA : fA2 pi g n x b = true
          · rw [hLb, hA]
            simp only [Bool.and_self, if_true, Bool.true_and]
            rw [ihb, ← hdd]
            by_cases hAs : fA2 pi g n (pi s) b = true
            · rw [hAs]
              simp only [if_true]
              rw [← Nat.add_assoc, Nat.mul_add _ _ 1, Nat.mul_one, Nat.mul_comm]
            · rw [if_neg hAs, if_neg hAs, Nat.add_zero, Nat.add_zero, Nat.mul_comm]
          · have hAs : ¬ fA2 pi g n (pi s) b = true := fun c => hA (fA_mono hx c)
            rw [if_neg (by simp [hA]), if_neg (by simp [hAs]), if_neg (by simp [hA])]
            simp
        · rw [if_neg (by simp [hLb]), if_neg (by simp [hLb]), if_neg (by simp [hLb])]
          simp
    have e3 := sm_fadd (m := n0) (f := fun b => if b = s then 0 else if L b && fA2 pi g n x b then wW n0 pi g n (d + 1) (pi b) (ex L b) else 0) (h := fun b => if ex L s b && fA2 pi g n (pi s) b then wW n0 pi g n d (pi b) (ex (ex L s) b) else 0)
    rw [sm_congr e2, sm_mul] at e3
    have e4 : sm n0 (fun b => if ex L s b && fA2 pi g n (pi s) b then wW n0 pi g n d (pi b) (ex (ex L s) b) else 0) = wW n0 pi g n (d + 1) (pi s) (ex L s) := rfl
    have e5 : sm n0 (fun b => if ex L s b && fA2 pi g n x b then wW n0 pi g n d (pi b) (ex (ex L s) b) else 0) = wW n0 pi g n (d + 1) x (ex L s) := rfl
    rw [e4, e5] at e3
    rw [e1, Nat.mul_comm (1 + _), e3]
    omega
/-- as a product -/
def pdt : Nat → (Nat → Nat) → Nat
  | 0, _ => 1
  | m + 1, f => pdt m f * f m
theorem pdt_congr {m : Nat} {f h : Nat → Nat} (hh : ∀ i, i < m → f i = h i) : pdt m f = pdt m h := by
  induction m with
  | zero => rfl
  | succ m ih => simp only [pdt]; rw [ih (fun i hi => hh i (by omega)), hh m (by omega)]
theorem pdt_single {m s : Nat} {f : Nat → Nat} (hs : s < m) : pdt m f = f s * pdt m (fun i => if i = s then 1 else f i) := by
  induction m with
  | zero => omega
  | succ m ih =>
    simp only [pdt]
    by_cases e : s = m
    · subst e
      rw [if_pos rfl, pdt_congr (h := fun i => if i = s then 1 else f i) (fun i hi => by rw [if_neg (by omega)]), Nat.mul_one, Nat.mul_comm]
    · rw [if_neg (fun x => e x.symm), ih (by omega), Nat.mul_assoc]
def plc (n0 : Nat) (pi : Nat → Nat) (g n : Nat) (L : Nat → Bool) (p : Nat) : Nat := if L p then 1 + ct n0 (fun q => L q && lt2 pi q p && fA2 pi g n (pi p) q) else 1
theorem w_pdt : ∀ d L, ct n0 L = d → wW n0 pi g n d 0 L = pdt n0 (plc n0 pi g n L) := by
  intro d
  induction d with
  | zero =>
    intro L hc
    have h0 := ct_0 hc
    rw [pdt_congr (h := fun _ => 1) (fun p hp => by unfold plc; rw [if_neg (h0 p hp)])]
    have : ∀ m, pdt m (fun _ => 1) = 1 := fun m => by
      induction m with
      | zero => rfl
      | succ m ih => simp only [pdt]; omega
    rw [this]
    rfl
  | succ d ih =>
    intro L hc
    obtain ⟨s, s1, s2, s3⟩ := slowest (pi := pi) (L := L) (n0 := n0) (by omega)
    have hcs := ct_ex s1 s2
    rw [w_slow d 0 L s hc s1 s2 (fun q hq hL => by
      by_cases e : q = s
      · rw [e]; exact Nat.le_refl _
      · exact lt2_le (s3 q hq hL e)) (Nat.zero_le _), ih (ex L s) (by omega), pdt_single (f := plc n0 pi g n L) s1]
    congr 1
    · unfold plc dD
      rw [if_pos s2]
      congr 1
      refine ct_congr (fun q hq => ?_)
      unfold ex
      by_cases e : q = s
      · subst e; unfold lt2; simp
      · rw [beq_eq_false_iff_ne.mpr e]
        cases hL : L q with
        | false => rfl
        | true => rw [s3 q hq hL e]; rfl
    · refine pdt_congr (fun p hp => ?_)
      by_cases e : p = s
      · subst e
        rw [if_pos rfl]
        unfold plc ex
        simp
      · rw [if_neg e]
        unfold plc
        have h1 : ex L s p = L p := by unfold ex; rw [beq_eq_false_iff_ne.mpr e]; simp
        rw [h1]
        cases hL : L p with
        | false => rfl
        | true =>
          rw [if_pos rfl, if_pos rfl]
          congr 1
          refine ct_congr (fun q hq => ?_)
          unfold ex
          by_cases e2 : q = s
          · subst e2
            have h3 := s3 p hp hL e
            have : lt2 pi q p = false := by
              unfold lt2 at h3 ⊢
              simp at h3 ⊢
              omega
            rw [this]
            simp
          · rw [beq_eq_false_iff_ne.mpr e2]; simp
/-- when the rest can follow -/
def rC (n0 : Nat) (pi : Nat → Nat) (g n : Nat) (x : Nat) (L : Nat → Bool) : Prop := ∀ q, q < n0 → L q = true → pi q < x → fA2 pi g n x q = true ∨ ∃ r, r < n0 ∧ L r = true ∧ pi q < pi r ∧ pi r ≤ x ∧ fA2 pi g n (pi r) q = true
theorem sm_pos {m : Nat} {f : Nat → Nat} : 0 < sm m f ↔ ∃ i, i < m ∧ 0 < f i := by
  induction m with
  | zero => exact ⟨fun h => absurd h (by simp [sm]), fun ⟨i, h, _⟩ => by omega⟩
  | succ m ih =>
    simp only [sm]
    constructor
    · intro h
      by_cases c : 0 < sm m f
      · obtain ⟨i, h1, h2⟩ := ih.mp c
        exact ⟨i, by omega, h2⟩
      · exact ⟨m, by omega, by omega⟩
    · intro ⟨i, h1, h2⟩
      by_cases e : i = m
      · subst e; omega
      · have := ih.mpr ⟨i, by omega, h2⟩
        omega
theorem w_pos : ∀ d x L, ct n0 L = d → (0 < wW n0 pi g n d x L ↔ rC n0 pi g n x L) := by
  intro d
  induction d with
  | zero =>
    intro x L hc
    have h0 := ct_0 hc
    exact ⟨fun _ q hq hL => absurd hL (h0 q hq), fun _ => by show 0 < 1; omega⟩
  | succ d ih =>
    intro x L hc
    obtain ⟨s, s1, s2, s3⟩ := slowest (pi := pi) (L := L) (n0 := n0) (by omega)
    have hcs := ct_ex s1 s2
    have hmax : ∀ q, q < n0 → L q = true → pi q ≤ pi s := fun q hq hL => by
      by_cases e : q = s
      · rw [e]; exact Nat.le_refl _
      · exact lt2_le (s3 q hq hL e)
    have hex : ∀ q, ex L s q = true ↔ L q = true ∧ q ≠ s := fun q => by unfold ex; simp
    by_cases cx : x ≤ pi s
    · rw [w_slow d x L s hc s1 s2 hmax cx]
      have h1 : 0 < (1 + dD n0 pi g n s (ex L s)) * wW n0 pi g n d x (ex L s) ↔ 0 < wW n0 pi g n d x (ex L s) := by
        constructor
        · intro h; exact Nat.pos_of_mul_pos_left h
        · intro h; exact Nat.mul_pos (by omega) h
      rw [h1, ih x (ex L s) (by omega)]
      constructor
      · intro h q hq hL hlt
        have hne : q ≠ s := fun e => by rw [e] at hlt; omega
        rcases h q hq ((hex q).mpr ⟨hL, hne⟩) hlt with h2 | ⟨r, r1, r2, r3, r4, r5⟩
        · exact Or.inl h2
        · exact Or.inr ⟨r, r1, ((hex r).mp r2).1, r3, r4, r5⟩
      · intro h q hq hL hlt
        rcases h q hq ((hex q).mp hL).1 hlt with h2 | ⟨r, r1, r2, r3, r4, r5⟩
        · exact Or.inl h2
        · by_cases e : r = s
          · left
            rw [e] at r4 r5
            rw [show x = pi s by omega]
            exact r5
          · exact Or.inr ⟨r, r1, (hex r).mpr ⟨r2, e⟩, r3, r4, r5⟩
    · have hW : 0 < wW n0 pi g n (d + 1) x L ↔ fA2 pi g n x s = true ∧ 0 < wW n0 pi g n d (pi s) (ex L s) := by
        show 0 < sm n0 (fun b => if L b && fA2 pi g n x b then wW n0 pi g n d (pi b) (ex L b) else 0) ↔ _
        rw [sm_pos]
        constructor
        · intro ⟨b, b1, b2⟩
          by_cases c : (L b && fA2 pi g n x b) = true
          · rw [if_pos c] at b2
            have c' : L b = true ∧ fA2 pi g n x b = true := by simpa using c
            have hle := hmax b b1 c'.1
            refine ⟨fA_le hle c'.2, ?_⟩
            by_cases e : b = s
            · rw [e] at b2; exact b2
            · cases d with
              | zero => show 0 < 1; omega
              | succ d =>
                have hse : ex L b s = true := by unfold ex; rw [beq_eq_false_iff_ne.mpr (fun x => e x.symm), s2]; rfl
                have hcb := ct_ex b1 c'.1
                rw [w_slow d (pi b) (ex L b) s (by omega) s1 hse (fun q hq hq2 => hmax q hq (by unfold ex at hq2; simp at hq2; exact hq2.1)) hle] at b2
                have b3 := Nat.pos_of_mul_pos_left b2
                rw [ex_comm] at b3
                show 0 < sm n0 (fun b => if ex L s b && fA2 pi g n (pi s) b then wW n0 pi g n d (pi b) (ex (ex L s) b) else 0)
                refine sm_pos.mpr ⟨b, b1, ?_⟩
                rw [if_pos (by rw [(hex b).mpr ⟨c'.1, e⟩, fA_mono (by omega) c'.2]; rfl)]
                exact b3
          · rw [if_neg c] at b2; omega
        · intro ⟨h1, h2⟩
          exact ⟨s, s1, by rw [if_pos (by rw [s2, h1]; rfl)]; exact h2⟩
      rw [hW, ih (pi s) (ex L s) (by omega)]
      constructor
      · intro ⟨h1, h2⟩ q hq hL hlt
        have hle := hmax q hq hL
        by_cases e : pi q = pi s
        · left
          exact fA_le (by omega) h1
        · have hne : q ≠ s := fun x => e (by rw [x])
          rcases h2 q hq ((hex q).mpr ⟨hL, hne⟩) (by omega) with h3 | ⟨r, r1, r2, r3, r4, r5⟩
          · exact Or.inr ⟨s, s1, s2, by omega, by omega, h3⟩
          · exact Or.inr ⟨r, r1, ((hex r).mp r2).1, r3, by omega, r5⟩
      · intro h
        refine ⟨?_, fun q hq hL hlt => ?_⟩
        · rcases h s s1 s2 (by omega) with h2 | ⟨r, r1, r2, r3, r4, r5⟩
          · exact h2
          · have := hmax r r1 r2
            omega
        · rcases h q hq ((hex q).mp hL).1 (by omega) with h2 | ⟨r, r1, r2, r3, r4, r5⟩
          · exact Or.inl (fA_mono (by omega) h2)
          · by_cases e : r = s
            · rw [e] at r5; exact Or.inl r5
            · exact Or.inr ⟨r, r1, (hex r).mpr ⟨r2, e⟩, r3, hmax r r1 r2, r5⟩
theorem pdt_pos {m : Nat} {f : Nat → Nat} (h : ∀ i, i < m → 0 < f i) : 0 < pdt m f := by
  induction m with
  | zero => exact Nat.one_pos
  | succ m ih => exact Nat.mul_pos (ih (fun i hi => h i (by omega))) (h m (by omega))
theorem w_total {L : Nat → Bool} {d : Nat} (hc : ct n0 L = d) : 0 < wW n0 pi g n d 0 L := by
  rw [w_pdt d L hc]
  exact pdt_pos (fun p _ => by unfold plc; split <;> omega)
end
