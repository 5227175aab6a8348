/-! counts -/
theorem sm_add {a b : Nat} {f : Nat → Nat} : sm (a + b) f = sm a f + sm b (fun i => f (a + i)) := by
  induction b with
  | zero => rfl
  | succ b ih => rw [← Nat.add_assoc]; show sm (a + b) f + f (a + b) = sm a f + (sm b _ + f (a + b)); rw [ih]; omega
theorem sm_mul {n c : Nat} {f : Nat → Nat} : sm n (fun i => f i * c) = sm n f * c := by
  induction n with
  | zero => simp [sm]
  | succ n ih => simp only [sm]; rw [ih, Nat.add_mul]
/-- the model's way to reckon -/
def pd (c S : Nat) : Nat → Nat
  | 0 => 1
  | l + 1 => pd c S l * (if S / 2 ^ l % 2 = 0 then c else 10 - c)
def cW (c n k : Nat) : Nat := sm (2 ^ n) (fun S => (if k ≤ pcn 10 S then 1 else 0) * pd c S n)
theorem pcn_k : ∀ n, n < 9 → ∀ x, x < 2 ^ n → pcn 10 (2 ^ n + x) = pcn 10 x + 1 := by decide +kernel
theorem bit_k : ∀ n, n < 9 → ∀ x, x < 2 ^ n → (∀ l, l < n → (2 ^ n + x) / 2 ^ l % 2 = x / 2 ^ l % 2) ∧ (2 ^ n + x) / 2 ^ n % 2 = 1 ∧ x / 2 ^ n % 2 = 0 := by decide +kernel
theorem pd_congr {c S T : Nat} : ∀ L, (∀ l, l < L → S / 2 ^ l % 2 = T / 2 ^ l % 2) → pd c S L = pd c T L := by
  intro L
  induction L with
  | zero => intro _; rfl
  | succ L ih => intro h; simp only [pd]; rw [ih (fun l hl => h l (by omega)), h L (by omega)]
theorem cW_s {c n k : Nat} (hn : n < 9) : cW c (n + 1) k = cW c n k * c + cW c n (k - 1) * (10 - c) := by
  unfold cW
  rw [show 2 ^ (n + 1) = 2 ^ n + 2 ^ n by rw [Nat.pow_succ]; omega, sm_add, ← sm_mul, ← sm_mul]
  congr 1
  · refine sm_congr (fun S hS => ?_)
    simp only [pd]
    rw [if_pos (bit_k n hn S hS).2.2, Nat.mul_assoc]
  · refine sm_congr (fun S hS => ?_)
    obtain ⟨b1, b2, -⟩ := bit_k n hn S hS
    simp only [pd]
    rw [if_neg (show ¬ (2 ^ n + S) / 2 ^ n % 2 = 0 by omega), pd_congr n b1, pcn_k n hn S hS, Nat.mul_assoc]
    congr 1
    by_cases h : k - 1 ≤ pcn 10 S
    · rw [if_pos h, if_pos (by omega)]
    · rw [if_neg h, if_neg (by omega)]
/-- in a table -/
def rl (c : Nat) : Nat → List Nat
  | 0 => (List.range 10).map (fun k => if k = 0 then 1 else 0)
  | n + 1 => (fun l : List Nat => (List.range 10).map (fun k => l.getD k 0 * c + l.getD (k - 1) 0 * (10 - c))) (rl c n)
def wlst (c : Nat) : Nat → List Nat
  | 0 => (List.range 10).map (fun j => if j = 0 then 1 else 0)
  | n + 1 => (fun l : List Nat => (List.range 10).map (fun j => l.getD j 0 * c + (if j = 0 then 0 else l.getD (j - 1) 0 * (10 - c)))) (wlst c n)
theorem mapD {f : Nat → Nat} {j : Nat} (h : j < 10) : ((List.range 10).map f).getD j 0 = f j := by
  simp [List.getD, h]
theorem cW_rl {c : Nat} : ∀ n, n ≤ 9 → ∀ k, k < 10 → cW c n k = (rl c n).getD k 0 := by
  intro n
  induction n with
  | zero =>
    intro _ k hk
    show _ = ((List.range 10).map (fun k => if k = 0 then 1 else 0)).getD k 0
    rw [mapD hk]
    show 0 + (if k ≤ pcn 10 0 then 1 else 0) * 1 = _
    rw [show pcn 10 0 = 0 from rfl]
    by_cases h : k = 0
    · rw [if_pos h, if_pos (by omega)]
    · rw [if_neg h, if_neg (by omega)]
  | succ n ih =>
    intro hn k hk
    rw [cW_s (by omega), ih (by omega) k hk, ih (by omega) (k - 1) (by omega)]
    show _ = ((List.range 10).map (fun k => (rl c n).getD k 0 * c + (rl c n).getD (k - 1) 0 * (10 - c))).getD k 0
    rw [mapD hk]
def wy (c n j : Nat) : Nat := (wlst c n).getD j 0
theorem wy_0 {c j : Nat} (h : j < 10) : wy c 0 j = if j = 0 then 1 else 0 := mapD h
theorem wy_s {c n j : Nat} (h : j < 10) : wy c (n + 1) j = wy c n j * c + (if j = 0 then 0 else wy c n (j - 1) * (10 - c)) := mapD (f := fun j => wy c n j * c + (if j = 0 then 0 else wy c n (j - 1) * (10 - c))) h
/-- lowest terms, by 2 and 5 -/
def lw1 (p : Nat) (q : Nat × Nat) : Nat × Nat := if q.1 % p = 0 ∧ q.2 % p = 0 then (q.1 / p, q.2 / p) else q
def lws : Nat → Nat × Nat → Nat × Nat
  | 0, q => q
  | n + 1, q => lw1 5 (lw1 2 (lws n q))
def cT (c n k : Nat) : Nat := sm (n + 1 - k) (fun i => wy c n (k + i))
theorem cnt_k : ∀ n, n < 10 → ∀ k, k < 10 → ∀ c, c < 11 → lws n (cT c n k, 10 ^ n) = ((rl c n).getD k 0 / Nat.gcd ((rl c n).getD k 0) (10 ^ n), 10 ^ n / Nat.gcd ((rl c n).getD k 0) (10 ^ n)) ∧ (rl c n).getD k 0 ≤ 10000000000 ∧ cT c n k ≤ 10000000000 := by decide +kernel
