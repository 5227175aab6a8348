/-! orders: the model's rows -/
def fa : Nat → Nat
  | 0 => 1
  | k + 1 => (k + 1) * fa k
theorem fa_pos (k : Nat) : 0 < fa k := by
  induction k with
  | zero => exact Nat.one_pos
  | succ k ih => exact Nat.mul_pos (by omega) ih
theorem fa_le : ∀ k, k ≤ 7 → fa k ≤ 5040 := by decide +kernel
theorem ct_sub {n0 : Nat} {P L : Nat → Bool} (h : ∀ q, q < n0 → L q = true → P q = true) : ∀ b, b ≤ n0 → ct (ct b P) (fun i => L (nth n0 P i)) = ct b L := by
  intro b
  induction b with
  | zero => intro _; rfl
  | succ b ih =>
    intro hb
    have ih' := ih (by omega)
    have s1 := ct_s (n := b) (P := P)
    have s2 := ct_s (n := b) (P := L)
    by_cases c : P b = true
    · rw [if_pos c] at s1
      rw [s1, ct_s, ih', nth_ct (by omega) c]
      exact s2.symm
    · rw [if_neg c, Nat.add_zero] at s1
      have : ¬ L b = true := fun x => c (h b (by omega) x)
      rw [if_neg this, Nat.add_zero] at s2
      rw [s1, s2]
      exact ih'
theorem nth_sub {n0 j : Nat} {P L : Nat → Bool} (h : ∀ q, q < n0 → L q = true → P q = true) (hj : j < ct n0 L) : nth (ct n0 P) (fun i => L (nth n0 P i)) j < ct n0 P ∧ nth n0 P (nth (ct n0 P) (fun i => L (nth n0 P i)) j) = nth n0 L j ∧ L (nth n0 P (nth (ct n0 P) (fun i => L (nth n0 P i)) j)) = true ∧ ct (nth (ct n0 P) (fun i => L (nth n0 P i)) j) (fun i => L (nth n0 P i)) = j := by
  obtain ⟨b1, b2, b3⟩ := nth_spec hj
  have hP := h _ b1 b2
  have e1 := nth_ct b1 hP
  have e2 := ct_sub h (nth n0 L j) (by omega)
  rw [b3] at e2
  have hlt : ct (nth n0 L j) P < ct n0 P := by
    have := ct_mono (P := P) (show nth n0 L j + 1 ≤ n0 by omega)
    rw [ct_s, if_pos hP] at this
    omega
  have e3 := nth_ct (n := ct n0 P) (P := fun i => L (nth n0 P i)) hlt (by show L (nth n0 P _) = true; rw [e1]; exact b2)
  rw [e2] at e3
  rw [e3]
  exact ⟨hlt, e1, by rw [e1]; exact b2, e2⟩
section
variable (n0 : Nat) (P : Nat → Bool) (dg : Nat → Nat)
def Ls : Nat → Nat → Bool
  | 0 => P
  | k + 1 => ex (Ls k) (nth n0 (Ls k) (dg k))
def rb (k : Nat) : Nat := nth n0 (Ls n0 P dg k) (dg k)
end
section
variable {n0 : Nat} {P : Nat → Bool} {dg : Nat → Nat}
theorem Ls_sub {k q : Nat} (h : Ls n0 P dg k q = true) : P q = true := by
  induction k with
  | zero => exact h
  | succ k ih =>
    have : (Ls n0 P dg k q && !(q == nth n0 (Ls n0 P dg k) (dg k))) = true := h
    simp at this
    exact ih this.1
theorem Ls_ct {k : Nat} (hk : k ≤ ct n0 P) (hd : ∀ i, i < k → dg i < ct n0 P - i) : ct n0 (Ls n0 P dg k) = ct n0 P - k := by
  induction k with
  | zero => rfl
  | succ k ih =>
    have ih' := ih (by omega) (fun i hi => hd i (by omega))
    have := hd k (by omega)
    obtain ⟨b1, b2, -⟩ := nth_spec (n := n0) (P := Ls n0 P dg k) (j := dg k) (by omega)
    have := ct_ex b1 b2
    show ct n0 (ex (Ls n0 P dg k) (nth n0 (Ls n0 P dg k) (dg k))) = _
    omega
theorem Ls_congr {dg' : Nat → Nat} {k : Nat} (h : ∀ i, i < k → dg i = dg' i) : Ls n0 P dg k = Ls n0 P dg' k := by
  induction k with
  | zero => rfl
  | succ k ih =>
    show ex (Ls n0 P dg k) (nth n0 (Ls n0 P dg k) (dg k)) = ex (Ls n0 P dg' k) (nth n0 (Ls n0 P dg' k) (dg' k))
    rw [ih (fun i hi => h i (by omega)), h k (by omega)]
theorem rb_congr {dg' : Nat → Nat} {k : Nat} (h : ∀ i, i ≤ k → dg i = dg' i) : rb n0 P dg k = rb n0 P dg' k := by
  unfold rb
  rw [Ls_congr (fun i hi => h i (by omega)), h k (Nat.le_refl _)]
theorem rb_lt {k : Nat} (hk : k < ct n0 P) (hd : ∀ i, i ≤ k → dg i < ct n0 P - i) : rb n0 P dg k < n0 := by
  have h1 := Ls_ct (n0 := n0) (P := P) (dg := dg) (k := k) (by omega) (fun i hi => hd i (by omega))
  have := hd k (Nat.le_refl _)
  exact (nth_spec (by omega)).1
end
def tcd (m : Nat) (dg : Nat → Nat) : Nat → Nat
  | 0 => 0
  | d + 1 => dg (m - (d + 1)) * fa d + tcd m dg d
theorem tcd_lt {m : Nat} {dg : Nat → Nat} (hd : ∀ i, i < m → dg i < m - i) : ∀ d, d ≤ m → tcd m dg d < fa d := by
  intro d
  induction d with
  | zero => intro _; exact Nat.one_pos
  | succ d ih =>
    intro h
    have h1 := ih (by omega)
    have h2 := hd (m - (d + 1)) (by omega)
    have h3 : dg (m - (d + 1)) * fa d ≤ d * fa d := Nat.mul_le_mul_right _ (by omega)
    show dg (m - (d + 1)) * fa d + tcd m dg d < (d + 1) * fa d
    rw [Nat.succ_mul]
    omega
def bs (m : Nat) (dg : Nat → Nat) : Nat → Nat
  | 0 => 0
  | k + 1 => bs m dg k + dg k * fa (m - 1 - k)
theorem bs_tcd {m : Nat} {dg : Nat → Nat} : ∀ k, k ≤ m → bs m dg k + tcd m dg (m - k) = tcd m dg m := by
  intro k
  induction k with
  | zero => intro _; show 0 + tcd m dg m = _; omega
  | succ k ih =>
    intro h
    have ih' := ih (by omega)
    rw [show m - k = (m - (k + 1)) + 1 by omega] at ih'
    have e : tcd m dg (m - (k + 1) + 1) = dg (m - (m - (k + 1) + 1)) * fa (m - (k + 1)) + tcd m dg (m - (k + 1)) := rfl
    rw [e, show m - (m - (k + 1) + 1) = k by omega] at ih'
    show bs m dg k + dg k * fa (m - 1 - k) + _ = _
    rw [show m - 1 - k = m - (k + 1) by omega]
    omega
theorem bs_congr {m k : Nat} {dg dg' : Nat → Nat} (h : ∀ i, i < k → dg i = dg' i) : bs m dg k = bs m dg' k := by
  induction k with
  | zero => rfl
  | succ k ih => simp only [bs]; rw [ih (fun i hi => h i (by omega)), h k (by omega)]
theorem bit_s : ∀ k, k < 128 → ∀ p, p < 7 → (nI k >>> (nI p &&& 31)) &&& (1 : Int32) = if k.testBit p then 1 else 0 := by decide +kernel
theorem full_k : ∀ m, m < 8 → ((1 : Int32) <<< (nI m &&& 31)) - (1 : Int32) = nI (2 ^ m - 1) := by decide +kernel
theorem ms_full {m : Nat} {Q : Nat → Bool} (h : ∀ i, i < m → Q i = true) : ms m Q = 2 ^ m - 1 := by
  induction m with
  | zero => rfl
  | succ m ih =>
    rw [ms_s, ih (fun i hi => h i (by omega)), if_pos (h m (by omega)), Nat.pow_succ]
    have := Nat.two_pow_pos m
    omega
theorem e_find {N : j_M} {m j : Nat} {Lf : Nat → Bool} {x4 x5 x6 : Int32} (hm : m ≤ 7) (hj : j < ct m Lf) (fuel : Nat) (hfu : 100 < fuel) (K : Int32 → Int32 → Option j_M) : f_X10_layRow_L56 fuel N (nI (ms m Lf)) x4 x5 x6 (nI j) (0 : Int32) K = K (nI 0) (nI (nth m Lf j)) := by
  obtain ⟨a1, a2, a3⟩ := nth_spec hj
  have hlt := ms_lt7 (P := Lf) hm
  have key : ∀ d at' fuel K, at' + d = nth m Lf j → d < fuel → f_X10_layRow_L56 fuel N (nI (ms m Lf)) x4 x5 x6 (nI (j - ct at' Lf)) (nI at') K = K (nI 0) (nI (nth m Lf j)) := by
    intro d
    induction d with
    | zero =>
      intro at' fuel K h1 h2
      obtain ⟨fuel, rfl⟩ : ∃ f, fuel = f + 1 := ⟨fuel - 1, by omega⟩
      have e : at' = nth m Lf j := by omega
      rw [← e] at a1 a2 a3 ⊢
      rw [a3, Nat.sub_self, f_X10_layRow_L56, if_neg (by decide), tlE, e_has10 hm a1, if_pos a2, if_neg (by decide)]
    | succ d ih =>
      intro at' fuel K h1 h2
      obtain ⟨fuel, rfl⟩ : ∃ f, fuel = f + 1 := ⟨fuel - 1, by omega⟩
      have hat : at' < m := by omega
      have ih' := ih (at' + 1) fuel K (by omega) (by omega)
      have s1 := ct_s (n := at') (P := Lf)
      have hmo := ct_mono (P := Lf) (show at' + 1 ≤ nth m Lf j by omega)
      have hb : (nI (ms m Lf) >>> (nI at' &&& 31)) &&& (1 : Int32) = nI (if Lf at' then 1 else 0) := by
        rw [bit_s _ hlt at' (by omega), ms_tb]
        cases Lf at' <;> simp [hat] <;> rfl
      rw [f_X10_layRow_L56, hb]
      by_cases c : 0 < j - ct at' Lf
      · rw [if_pos (gt0 c (by have := ct_le (n := m) Lf; omega)), pk_sub (by split <;> omega), nI_1, show j - ct at' Lf - (if Lf at' then 1 else 0) = j - ct (at' + 1) Lf by omega]
        exact ih'
      · have hz : ¬ Lf at' = true := fun x => by rw [if_pos x] at s1; omega
        rw [if_neg (show ¬ (0 : Int32) < nI (j - ct at' Lf) by rw [show j - ct at' Lf = 0 by omega]; decide), tlE, e_has10 hm hat, if_neg hz, if_pos rfl, if_neg hz, show nI (j - ct at' Lf) - nI 0 = nI (j - ct at' Lf) from by rw [pk_sub (by omega)]; rfl, nI_1]
        rw [if_neg hz, Nat.add_zero] at s1
        rw [s1] at ih'
        exact ih'
  have := key (nth m Lf j) 0 fuel K (by omega) (by omega)
  rw [show ct 0 Lf = 0 from rfl, Nat.sub_zero] at this
  exact this
theorem e_layRow {N : j_M} {n0 : Nat} {P : Nat → Bool} {dg : Nat → Nat} (hm : ct n0 P ≤ 7) (h14 : j_I N 35 14 = nI (ct n0 P)) (h42 : ∀ j, j < ct n0 P → j_I N 42 j = nI (nth n0 P j)) (hd : ∀ i, i < ct n0 P → dg i < ct n0 P - i) : f_X10_layRow N (nI (tcd (ct n0 P) dg (ct n0 P))) (nI (fa (ct n0 P))) = some (rM N (rb n0 P dg) (ct n0 P)) := by
  have key : ∀ d k fuel K, k + d = ct n0 P → d < fuel → ∃ y1 y2 y3, f_X10_layRow_L18 fuel (rM N (rb n0 P dg) k) (nI (ms (ct n0 P) (fun i => Ls n0 P dg k (nth n0 P i)))) (nI (tcd (ct n0 P) dg d)) (nI (fa d)) (nI k) K = K y1 y2 y3 (nI (ct n0 P)) (rM N (rb n0 P dg) (ct n0 P)) := by
    intro d
    induction d with
    | zero =>
      intro k fuel K h1 h2
      obtain ⟨fuel, rfl⟩ : ∃ f, fuel = f + 1 := ⟨fuel - 1, by omega⟩
      refine ⟨nI (ms (ct n0 P) (fun i => Ls n0 P dg k (nth n0 P i))), nI (tcd (ct n0 P) dg 0), nI (fa 0), ?_⟩
      rw [f_X10_layRow_L18, I_rMn (by omega), h14, if_pos (nI_le (by omega) (by omega)), show k = ct n0 P by omega]
    | succ d ih =>
      intro k fuel K h1 h2
      obtain ⟨fuel, rfl⟩ : ∃ f, fuel = f + 1 := ⟨fuel - 1, by omega⟩
      obtain ⟨y1, y2, y3, e⟩ := ih (k + 1) fuel K (by omega) (by omega)
      refine ⟨y1, y2, y3, ?_⟩
      have hLc := Ls_ct (n0 := n0) (P := P) (dg := dg) (k := k) (by omega) (fun i hi => hd i (by omega))
      have hdk := hd k (by omega)
      have hsub := nth_sub (n0 := n0) (j := dg k) (P := P) (L := Ls n0 P dg k) (fun q _ h => Ls_sub h) (by omega)
      have hfd := fa_pos d
      have hfl := fa_le (d + 1) (by omega)
      have hfl' := fa_le d (by omega)
      have htl := tcd_lt hd d (by omega)
      have htl1 := tcd_lt hd (d + 1) (by omega)
      have etc : tcd (ct n0 P) dg (d + 1) = dg k * fa d + tcd (ct n0 P) dg d := by
        show dg (ct n0 P - (d + 1)) * fa d + _ = _
        rw [show ct n0 P - (d + 1) = k by omega]
      have q1 : fa (d + 1) / (ct n0 P - k) = fa d := by
        show (d + 1) * fa d / (ct n0 P - k) = fa d
        rw [show ct n0 P - k = d + 1 by omega, Nat.mul_div_cancel_left _ (by omega)]
      have q2 : tcd (ct n0 P) dg (d + 1) / fa d = dg k := by
        rw [etc, Nat.mul_comm, Nat.mul_add_div hfd, Nat.div_eq_of_lt htl, Nat.add_zero]
      have q3 : tcd (ct n0 P) dg (d + 1) % fa d = tcd (ct n0 P) dg d := by
        rw [etc, Nat.mul_comm, Nat.mul_add_mod, Nat.mod_eq_of_lt htl]
      have hct : dg k < ct (ct n0 P) (fun i => Ls n0 P dg k (nth n0 P i)) := by
        have h3 := hsub.2.2.2
        have := ct_mono (P := fun i => Ls n0 P dg k (nth n0 P i)) (show nth (ct n0 P) (fun i => Ls n0 P dg k (nth n0 P i)) (dg k) + 1 ≤ ct n0 P by omega)
        rw [ct_s, if_pos hsub.2.2.1] at this
        omega
      rw [f_X10_layRow_L18, I_rMn (by omega), h14, if_neg (nI_ge (by omega) (by omega)), pk_sub (by omega), d_iN (by omega) (by omega) (by omega), q1, d_iN hfd (by omega) (by omega), q2, r_iN hfd (by omega) (by omega), q3, e_find hm hct j_fu (by unfold j_fu; omega), a_iN (by omega) (by omega), I_rMn (by omega), h42 _ hsub.1, hsub.2.1, w_iN (by omega) (by omega)]
      show f_X10_layRow_L18 fuel (j_sI (rM N (rb n0 P dg) k) 43 k (nI (rb n0 P dg k))) _ _ _ _ K = _
      rw [rM_set, e_no hm (by omega), nI_1]
      have hms : ms (ct n0 P) (fun q => (fun i => Ls n0 P dg k (nth n0 P i)) q && !(q == nth (ct n0 P) (fun i => Ls n0 P dg k (nth n0 P i)) (dg k))) = ms (ct n0 P) (fun i => Ls n0 P dg (k + 1) (nth n0 P i)) := ms_congr (fun i hi => by
        show (Ls n0 P dg k (nth n0 P i) && !(i == nth (ct n0 P) (fun i => Ls n0 P dg k (nth n0 P i)) (dg k))) = (Ls n0 P dg k (nth n0 P i) && !(nth n0 P i == nth n0 (Ls n0 P dg k) (dg k)))
        congr 2
        rw [← hsub.2.1]
        by_cases e : i = nth (ct n0 P) (fun i => Ls n0 P dg k (nth n0 P i)) (dg k)
        · rw [← e]; simp
        · rw [beq_eq_false_iff_ne.mpr e]
          symm
          rw [beq_eq_false_iff_ne]
          intro x
          rcases Nat.lt_or_gt_of_ne e with h | h
          · have := nth_lt h hsub.1; omega
          · have := nth_lt h hi; omega)
      rw [hms]
      exact e
  unfold f_X10_layRow
  rw [h14, full_k _ (by omega), ← ms_full (m := ct n0 P) (Q := fun i => Ls n0 P dg 0 (nth n0 P i)) (fun i hi => (nth_spec hi).2.1)]
  have hj : 100000 < j_fu := by unfold j_fu; omega
  revert hj
  generalize j_fu = fu
  intro hj
  obtain ⟨y1, y2, y3, e⟩ := key (ct n0 P) 0 fu (fun (y19 : Int32) (y20 : Int32) (y21 : Int32) (y22 : Int32) (M23 : j_M) => (some M23)) (by omega) (by omega)
  rw [rM_0] at e
  exact e
