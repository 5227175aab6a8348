/-! the text: tokens -/
section
variable (z : Nat) (ta : Nat → Nat)
def srt (c : Nat) : Nat := if 97 ≤ c ∧ c ≤ 122 then 1 else if 48 ≤ c ∧ c ≤ 57 then 2 else 3
def skp : Nat → Nat → Nat
  | 0, i => i
  | d + 1, i => if ta i = 32 then skp d (i + 1) else i
def rnn (s : Nat) : Nat → Nat → Nat
  | 0, i => i
  | d + 1, i => if srt (ta i) = s then rnn s d (i + 1) else i
def tS (e : Nat) : Nat := skp ta (z - e) e
def tE (e : Nat) : Nat := if tS z ta e < z then (if srt (ta (tS z ta e)) = 3 then tS z ta e + 1 else rnn ta (srt (ta (tS z ta e))) (z - (tS z ta e + 1)) (tS z ta e + 1)) else tS z ta e
def kdT (e : Nat) : Nat := if tS z ta e < z then (if srt (ta (tS z ta e)) = 1 then 1 else if srt (ta (tS z ta e)) = 2 then (if tE z ta e - tS z ta e ≤ 2 then 2 else 4) else if ta (tS z ta e) = 59 then 3 else 4) else 0
def vlT (e : Nat) : Nat := if tE z ta e - tS z ta e = 1 then ta (tS z ta e) - 48 else 10 * (ta (tS z ta e) - 48) + (ta (tS z ta e + 1) - 48)
end
section
variable {z : Nat} {ta : Nat → Nat}
theorem skp_b {d i : Nat} : i ≤ skp ta d i ∧ skp ta d i ≤ i + d := by
  induction d generalizing i with
  | zero => exact ⟨Nat.le_refl _, Nat.le_refl _⟩
  | succ d ih =>
    unfold skp
    split
    · have := ih (i := i + 1); omega
    · omega
theorem rnn_b {s d i : Nat} : i ≤ rnn ta s d i ∧ rnn ta s d i ≤ i + d := by
  induction d generalizing i with
  | zero => exact ⟨Nat.le_refl _, Nat.le_refl _⟩
  | succ d ih =>
    unfold rnn
    split
    · have := ih (i := i + 1); omega
    · omega
theorem rnn_in {s d i k : Nat} (h1 : i ≤ k) (h2 : k < rnn ta s d i) : srt (ta k) = s := by
  induction d generalizing i with
  | zero => have : rnn ta s 0 i = i := rfl; omega
  | succ d ih =>
    unfold rnn at h2
    by_cases c : srt (ta i) = s
    · rw [if_pos c] at h2
      by_cases e : k = i
      · rw [e]; exact c
      · exact ih (by omega) h2
    · rw [if_neg c] at h2; omega
theorem tS_b {e : Nat} (h : e ≤ z) : e ≤ tS z ta e ∧ tS z ta e ≤ z := by
  have := skp_b (ta := ta) (d := z - e) (i := e)
  unfold tS
  omega
theorem tE_b {e : Nat} (h : e ≤ z) : tS z ta e ≤ tE z ta e ∧ tE z ta e ≤ z ∧ (tS z ta e < z → tS z ta e < tE z ta e) := by
  have h1 := tS_b (ta := ta) h
  unfold tE
  by_cases c : tS z ta e < z
  · rw [if_pos c]
    split
    · omega
    · have := rnn_b (ta := ta) (s := srt (ta (tS z ta e))) (d := z - (tS z ta e + 1)) (i := tS z ta e + 1)
      omega
  · rw [if_neg c]; omega
theorem srt_3 (c : Nat) : srt c = 1 ∨ srt c = 2 ∨ srt c = 3 := by
  unfold srt
  split
  · exact Or.inl rfl
  · split
    · exact Or.inr (Or.inl rfl)
    · exact Or.inr (Or.inr rfl)
/-- figures all along -/
theorem tok_srt {e k : Nat} (h : e ≤ z) (hs : srt (ta (tS z ta e)) ≠ 3) (hz : tS z ta e < z) (h1 : tS z ta e ≤ k) (h2 : k < tE z ta e) : srt (ta k) = srt (ta (tS z ta e)) := by
  by_cases e1 : k = tS z ta e
  · rw [e1]
  · unfold tE at h2
    rw [if_pos hz, if_neg hs] at h2
    exact rnn_in (by omega) h2
def tx (N : j_M) (z : Nat) (ta : Nat → Nat) : Prop := z ≤ 150 ∧ j_I N 7 1 = nI z ∧ ∀ k, k < z → j_I N 8 k = nI (ta k) ∧ ta k ≤ 127
def ty (N : j_M) (z : Nat) (ta : Nat → Nat) : Prop := z ≤ 150 ∧ j_I N 35 19 = nI z ∧ ∀ k, k < z → j_I N 48 k = nI (ta k) ∧ ta k ≤ 127
variable {N : j_M}
theorem srt_k : ∀ c, c < 128 → (if nI c < (97 : Int32) then (if nI c < (48 : Int32) then (some (3 : Int32)) else (if (57 : Int32) < nI c then (some (3 : Int32)) else (some (2 : Int32)))) else (if (122 : Int32) < nI c then (if nI c < (48 : Int32) then (some (3 : Int32)) else (if (57 : Int32) < nI c then (some (3 : Int32)) else (some (2 : Int32)))) else (some (1 : Int32)))) = some (nI (srt c)) := by decide +kernel
theorem e_sortAt {i : Nat} (h : tx N z ta) (hi : i < z) : f_X7_sortAt N (nI i) = some (nI (srt (ta i))) := by
  obtain ⟨h1, h2, h3⟩ := h
  have := h3 i hi
  unfold f_X7_sortAt
  rw [a_iN (by omega) (by omega), this.1]
  exact srt_k _ (by omega)
def kt2 (N N' : j_M) : Prop := (∀ a k, ¬ (a = 7 ∧ (k = 2 ∨ k = 3)) → j_I N' a k = j_I N a k) ∧ N'.2 = N.2
theorem kt2.rf : kt2 N N := ⟨fun _ _ _ => rfl, rfl⟩
theorem kt2.tr {N1 N2 N3 : j_M} (h : kt2 N1 N2) (g : kt2 N2 N3) : kt2 N1 N3 := ⟨fun a k c => (g.1 a k c).trans (h.1 a k c), g.2.trans h.2⟩
theorem kt2.sI {N1 N2 : j_M} {k : Nat} {v : Int32} (h : kt2 N1 N2) (hk : k = 2 ∨ k = 3) : kt2 N1 (j_sI N2 7 k v) := ⟨fun a j c => by rw [I_sIn (by omega)]; exact h.1 a j c, h.2⟩
theorem tx.kt {N' : j_M} (h : tx N z ta) (g : kt2 N N') : tx N' z ta := ⟨h.1, by rw [g.1 _ _ (by omega)]; exact h.2.1, fun k hk => by rw [g.1 _ _ (by omega)]; exact h.2.2 k hk⟩
theorem e_next8 (K : j_M → Option j_M) : ∀ d i N fuel, i + d = z → d < fuel → tx N z ta → j_I N 7 2 = nI i → ∃ N', f_X7_next_L8 fuel N K = K N' ∧ kt2 N N' ∧ j_I N' 7 2 = nI (skp ta d i) := by
  intro d
  induction d with
  | zero =>
    intro i N fuel h1 h2 h3 h4
    obtain ⟨fuel, rfl⟩ : ∃ f, fuel = f + 1 := ⟨fuel - 1, by omega⟩
    refine ⟨N, ?_, kt2.rf, h4⟩
    rw [f_X7_next_L8, h3.2.1, h4, if_pos (nI_le (by omega) (by have := h3.1; omega))]
  | succ d ih =>
    intro i N fuel h1 h2 h3 h4
    have hz := h3.1
    obtain ⟨fuel, rfl⟩ : ∃ f, fuel = f + 1 := ⟨fuel - 1, by omega⟩
    have hb := h3.2.2 i (by omega)
    rw [f_X7_next_L8, h3.2.1, h4, if_neg (nI_ge (by omega) (by omega)), a_iN (by omega) (by omega), hb.1, i_32]
    unfold skp
    by_cases c : ta i = 32
    · rw [if_pos (by rw [c]), if_pos c, tlE, nI_1]
      obtain ⟨N', e1, e2, e3⟩ := ih (i + 1) (j_sI N 7 2 (nI (i + 1))) fuel (by omega) (by omega) (h3.kt (kt2.rf.sI (Or.inl rfl))) (by rw [I_sIe (by omega)])
      exact ⟨N', e1, (kt2.rf.sI (Or.inl rfl)).tr e2, e3⟩
    · rw [if_neg (by rw [nI_eq (by omega) (by omega)]; exact c), if_neg c]
      exact ⟨N, rfl, kt2.rf, h4⟩
theorem e_next84 {s : Nat} (hs : s = 1 ∨ s = 2) (K : j_M → Option j_M) : ∀ d i N fuel, i + d = z → d < fuel → tx N z ta → j_I N 7 3 = nI i → ∃ N', f_X7_next_L84 fuel N (nI s) K = K N' ∧ kt2 N N' ∧ j_I N' 7 2 = j_I N 7 2 ∧ j_I N' 7 3 = nI (rnn ta s d i) := by
  intro d
  induction d with
  | zero =>
    intro i N fuel h1 h2 h3 h4
    obtain ⟨fuel, rfl⟩ : ∃ f, fuel = f + 1 := ⟨fuel - 1, by omega⟩
    refine ⟨N, ?_, kt2.rf, rfl, h4⟩
    rw [f_X7_next_L84, h3.2.1, h4, if_pos (nI_le (by omega) (by have := h3.1; omega))]
  | succ d ih =>
    intro i N fuel h1 h2 h3 h4
    have hz := h3.1
    obtain ⟨fuel, rfl⟩ : ∃ f, fuel = f + 1 := ⟨fuel - 1, by omega⟩
    have hb := srt_3 (ta i)
    rw [f_X7_next_L84, h3.2.1, h4, if_neg (nI_ge (by omega) (by omega)), i_3, if_neg (by rw [nI_eq (by omega) (by omega)]; omega), e_sortAt h3 (by omega), Option.bind_some]
    unfold rnn
    by_cases c : srt (ta i) = s
    · rw [if_pos (by rw [c]), if_pos c, tlE, nI_1]
      obtain ⟨N', e1, e2, e3, e4⟩ := ih (i + 1) (j_sI N 7 3 (nI (i + 1))) fuel (by omega) (by omega) (h3.kt (kt2.rf.sI (Or.inr rfl))) (by rw [I_sIe (by omega)])
      exact ⟨N', e1, (kt2.rf.sI (Or.inr rfl)).tr e2, by rw [e3, I_sIn (by omega)], e4⟩
    · rw [if_neg (by rw [nI_eq (by omega) (by omega)]; exact c), if_neg c]
      exact ⟨N, rfl, kt2.rf, rfl, h4⟩
theorem e_next {e : Nat} (h : tx N z ta) (he : e ≤ z) (h3 : j_I N 7 3 = nI e) : ∃ N', f_X7_next N = some N' ∧ kt2 N N' ∧ j_I N' 7 2 = nI (tS z ta e) ∧ j_I N' 7 3 = nI (tE z ta e) := by
  have hz := h.1
  have hb := tS_b (ta := ta) he
  unfold f_X7_next
  rw [tlE, h3]
  obtain ⟨N1, e1, e2, e3⟩ := e_next8 (fun (M11 : j_M) => (tl (j_sI M11 7 3 (j_I M11 7 2)) fun M13 => (if (j_I M13 7 1) ≤ (j_I M13 7 3) then (some M13) else ((f_X7_sortAt M13 (j_I M13 7 3)).bind fun v17 => (tl (j_sI M13 7 3 ((j_I M13 7 3) + (1 : Int32))) fun M19 => (f_X7_next_L84 j_fu  M19 v17 (fun (M30 : j_M) => (some M30)))))))) (z - e) e (j_sI N 7 2 (nI e)) j_fu (by omega) (by unfold j_fu; omega) (h.kt (kt2.rf.sI (Or.inl rfl))) (by rw [I_sIe (by omega)])
  have hS : skp ta (z - e) e = tS z ta e := rfl
  rw [hS] at e3
  have t1 : tx N1 z ta := (h.kt (kt2.rf.sI (Or.inl rfl))).kt e2
  have k1 : kt2 N N1 := (kt2.rf.sI (Or.inl rfl)).tr e2
  obtain ⟨N2, hN2⟩ : ∃ N2, N2 = j_sI N1 7 3 (nI (tS z ta e)) := ⟨_, rfl⟩
  have t2 : tx N2 z ta := by rw [hN2]; exact t1.kt (kt2.rf.sI (Or.inr rfl))
  have k2 : kt2 N N2 := by rw [hN2]; exact k1.sI (Or.inr rfl)
  have f3 : j_I N2 7 3 = nI (tS z ta e) := by rw [hN2, I_sIe (by omega)]
  have f2 : j_I N2 7 2 = nI (tS z ta e) := by rw [hN2, I_sIn (by omega)]; exact e3
  rw [e1, tlE, e3, ← hN2, t2.2.1, f3]
  by_cases c : tS z ta e < z
  · have hs3 := srt_3 (ta (tS z ta e))
    rw [if_neg (nI_ge c (by omega)), e_sortAt t2 c, Option.bind_some, tlE, nI_1]
    obtain ⟨N3, hN3⟩ : ∃ N3, N3 = j_sI N2 7 3 (nI (tS z ta e + 1)) := ⟨_, rfl⟩
    have t3 : tx N3 z ta := by rw [hN3]; exact t2.kt (kt2.rf.sI (Or.inr rfl))
    have k3 : kt2 N N3 := by rw [hN3]; exact k2.sI (Or.inr rfl)
    have g3 : j_I N3 7 3 = nI (tS z ta e + 1) := by rw [hN3, I_sIe (by omega)]
    have g2 : j_I N3 7 2 = nI (tS z ta e) := by rw [hN3, I_sIn (by omega)]; exact f2
    rw [← hN3]
    by_cases c3 : srt (ta (tS z ta e)) = 3
    · refine ⟨N3, ?_, k3, g2, ?_⟩
      · skip
        have hj : 100000 < j_fu := by unfold j_fu; omega
        revert hj
        generalize j_fu = fu
        intro hj
        obtain ⟨f, rfl⟩ : ∃ f, fu = f + 1 := ⟨fu - 1, by omega⟩
        rw [f_X7_next_L84, t3.2.1, g3, c3]
        by_cases c4 : nI z ≤ nI (tS z ta e + 1)
        · rw [if_pos c4]
        · rw [if_neg c4, if_pos (show nI 3 = 3 from rfl)]
      · rw [g3]; unfold tE; rw [if_pos c, if_pos c3]
    · obtain ⟨N4, r1, r2, r3, r4⟩ := e_next84 (ta := ta) (s := srt (ta (tS z ta e))) (by omega) (fun (M30 : j_M) => (some M30)) (z - (tS z ta e + 1)) (tS z ta e + 1) N3 j_fu (by omega) (by unfold j_fu; omega) t3 g3
      refine ⟨N4, r1, k3.tr r2, by rw [r3]; exact g2, ?_⟩
      rw [r4]; unfold tE; rw [if_pos c, if_neg c3]
  · refine ⟨N2, ?_, k2, f2, ?_⟩
    · rw [if_pos (nI_le (by omega) (by omega))]
    · rw [f3]; unfold tE; rw [if_neg c]
/-- a number as told, or none -/
def nbO (z : Nat) (ta : Nat → Nat) (e : Nat) : Int32 := if kdT z ta e = 2 then nI (vlT z ta e) else -1
theorem e_nextNumber {e : Nat} (h : tx N z ta) (he : e ≤ z) (h3 : j_I N 7 3 = nI e) : ∃ N', f_X7_nextNumber N = some (nbO z ta e, N') ∧ kt2 N N' ∧ j_I N' 7 2 = nI (tS z ta e) ∧ j_I N' 7 3 = nI (tE z ta e) := by
  have hz := h.1
  obtain ⟨N', e1, e2, e3, e4⟩ := e_next h he h3
  have hb := tS_b (ta := ta) he
  have hb2 := tE_b (ta := ta) he
  have t' := h.kt e2
  refine ⟨N', ?_, e2, e3, e4⟩
  unfold f_X7_nextNumber
  rw [e1, Option.bind_some, j_ckE (by rw [e2.2]), e4, e3, pk_sub hb2.1]
  unfold nbO
  by_cases c : tS z ta e < z
  · have hs3 := srt_3 (ta (tS z ta e))
    have hlt := hb2.2.2 c
    rw [if_neg (show ¬ nI (tE z ta e - tS z ta e) < (1 : Int32) from nI_nlt (b := 1) (by omega) (by omega))]
    by_cases c2 : tE z ta e - tS z ta e ≤ 2
    · rw [if_neg (show ¬ (2 : Int32) < nI (tE z ta e - tS z ta e) from nI_nlt (b := tE z ta e - tS z ta e) (a := 2) c2 (by omega)), e_sortAt t' c, Option.bind_some]
      by_cases c3 : srt (ta (tS z ta e)) = 2
      · have hk : kdT z ta e = 2 := by unfold kdT; rw [if_pos c, if_neg (by omega), if_pos c3, if_pos c2]
        rw [if_pos (by rw [c3]; rfl), if_pos hk]
        have hfig : ∀ k, tS z ta e ≤ k → k < tE z ta e → 48 ≤ ta k ∧ ta k ≤ 57 := fun k h1 h2 => by
          have := tok_srt (ta := ta) he (by omega) c h1 h2
          rw [c3] at this
          unfold srt at this
          split at this
          · omega
          · split at this
            · omega
            · omega
        have f0 := hfig (tS z ta e) (Nat.le_refl _) hlt
        have hj : 100000 < j_fu := by unfold j_fu; omega
        revert hj
        generalize j_fu = fu
        intro hj
        by_cases c4 : tE z ta e - tS z ta e = 1
        · obtain ⟨f, rfl⟩ : ∃ f, fu = f + 1 + 1 := ⟨fu - 2, by omega⟩
          rw [f_X7_nextNumber_L45, e4, if_neg (nI_ge hlt (by omega)), a_iN (by omega) (by omega), (t'.2.2 _ c).1, f_X7_nextNumber_L45, e4, nI_1, if_pos (nI_le (by omega) (by omega)), i_10, i_0, pk_mul, i_48, pk_sub f0.1, nI_add]
          unfold vlT
          rw [if_pos c4]
          simp
        · have f1 := hfig (tS z ta e + 1) (by omega) (by omega)
          obtain ⟨f, rfl⟩ : ∃ f, fu = f + 1 + 1 + 1 := ⟨fu - 3, by omega⟩
          rw [f_X7_nextNumber_L45, e4, if_neg (nI_ge hlt (by omega)), a_iN (by omega) (by omega), (t'.2.2 _ c).1, f_X7_nextNumber_L45, e4, nI_1, if_neg (nI_ge (by omega) (by omega)), a_iN (by omega) (by omega), (t'.2.2 _ (by omega)).1, f_X7_nextNumber_L45, e4, nI_1, if_pos (nI_le (by omega) (by omega)), i_10, i_0, pk_mul, i_48, pk_sub f0.1, nI_add, pk_mul, pk_sub f1.1, nI_add]
          unfold vlT
          rw [if_neg c4]
          simp
      · have hk : ¬ kdT z ta e = 2 := by
          unfold kdT
          rw [if_pos c]
          repeat' split
          all_goals omega
        rw [if_neg (by rw [i_2, nI_eq (by omega) (by omega)]; exact c3), if_neg hk]
    · have hk : ¬ kdT z ta e = 2 := by
        unfold kdT
        rw [if_pos c]
        repeat' split
        all_goals omega
      rw [if_pos (show (2 : Int32) < nI (tE z ta e - tS z ta e) from nI_lt (a := 2) (by omega) (by omega)), if_neg hk]
  · have hk : kdT z ta e = 0 := by unfold kdT; rw [if_neg c]
    have hE : tE z ta e = tS z ta e := by unfold tE; rw [if_neg c]
    rw [hE, Nat.sub_self, if_pos (by decide), hk, if_neg (by omega)]
theorem e_endsItem {e : Nat} (h : tx N z ta) (he : e ≤ z) (h3 : j_I N 7 3 = nI e) : ∃ N', f_X7_nextEndsItem N = some (fl (decide (kdT z ta e = 3)), N') ∧ kt2 N N' ∧ j_I N' 7 2 = nI (tS z ta e) ∧ j_I N' 7 3 = nI (tE z ta e) := by
  have hz := h.1
  obtain ⟨N', e1, e2, e3, e4⟩ := e_next h he h3
  have hb := tS_b (ta := ta) he
  have t' := h.kt e2
  refine ⟨N', ?_, e2, e3, e4⟩
  unfold f_X7_nextEndsItem
  rw [e1, Option.bind_some, j_ckE (by rw [e2.2]), t'.2.1, e3]
  by_cases c : tS z ta e < z
  · have hbt := t'.2.2 _ c
    rw [if_neg (nI_ge c (by omega)), a_iN (by omega) (by omega), hbt.1, i_59]
    by_cases c5 : ta (tS z ta e) = 59
    · have hk : kdT z ta e = 3 := by
        unfold kdT
        have : srt (ta (tS z ta e)) = 3 := by rw [c5]; rfl
        rw [if_pos c, this, if_neg (by omega), if_neg (by omega), if_pos c5]
      rw [if_pos (by rw [c5]), decide_eq_true hk]; rfl
    · have hk : ¬ kdT z ta e = 3 := by
        unfold kdT
        rw [if_pos c]
        repeat' split
        all_goals omega
      rw [if_neg (by rw [nI_eq (by omega) (by omega)]; exact c5), decide_eq_false hk]; rfl
  · have hk : ¬ kdT z ta e = 3 := by unfold kdT; rw [if_neg c]; omega
    rw [if_pos (nI_le (by omega) (by omega)), decide_eq_false hk]; rfl
end
