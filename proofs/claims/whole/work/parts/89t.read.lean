/-! the text: words -/
section
variable {z : Nat} {ta : Nat → Nat} {N : j_M}
def wl (w : Nat) : Nat := [4, 4, 4, 3].getD w 0
def wc (w k : Nat) : Nat := ([[98, 97, 116, 104], [115, 105, 103, 110], [115, 104, 117, 116], [111, 110, 101, 0]].getD w []).getD k 0
theorem sc_k : ∀ w, w < 4 → j_sl w = nI (wl w) ∧ ∀ k, k < wl w → (¬ (nI k < 0 ∨ j_len.getD w 0 ≤ (nI k).toNatClampNeg)) ∧ j_sch w (nI k).toNatClampNeg = nI (wc w k) := by decide +kernel
theorem wc_k : ∀ w, w < 4 → 3 ≤ wl w ∧ wl w ≤ 4 ∧ (∀ k, k < 4 → wc w k < 128) ∧ srt (wc w 0) = 1 := by decide +kernel
theorem scE {ρ : Type} {w k : Nat} {f : Int32 → Option ρ} (hw : w < 4) (hk : k < wl w) : sc w (nI k) f = f (nI (wc w k)) := by
  have h := (sc_k w hw).2 k hk
  unfold sc
  rw [if_neg h.1, h.2]
def mt (ta : Nat → Nat) (S w : Nat) : Nat → Nat → Bool
  | 0, _ => true
  | d + 1, k => decide (ta (S + k) = wc w k) && mt ta S w d (k + 1)
theorem mt_s {S w d k : Nat} : mt ta S w (d + 1) k = (decide (ta (S + k) = wc w k) && mt ta S w d (k + 1)) := rfl
theorem e_word20 {S w : Nat} (hw : w < 4) (h : tx N z ta) (hS : S + wl w ≤ z) (h2 : j_I N 7 2 = nI S) (K : Int32 → Option Int32) : ∀ d k fuel, k + d = wl w → d < fuel → f_X7_isWord_L20 fuel w N (nI k) K = if mt ta S w d k = true then K (nI (wl w)) else some 0 := by
  have hz := h.1
  have hwl := wc_k w hw
  intro d
  induction d with
  | zero =>
    intro k fuel h1 h3
    obtain ⟨fuel, rfl⟩ : ∃ f, fuel = f + 1 := ⟨fuel - 1, by omega⟩
    rw [f_X7_isWord_L20, tlE, (sc_k w hw).1, if_pos (nI_le (by omega) (by omega)), if_pos (show mt ta S w 0 k = true from rfl), show k = wl w by omega]
  | succ d ih =>
    intro k fuel h1 h3
    obtain ⟨fuel, rfl⟩ : ∃ f, fuel = f + 1 := ⟨fuel - 1, by omega⟩
    have hb := h.2.2 (S + k) (by omega)
    have hc := hwl.2.2.1 k (by omega)
    rw [f_X7_isWord_L20, tlE, (sc_k w hw).1, if_neg (nI_ge (by omega) (by omega)), h2, nI_add, a_iN (by omega) (by omega), hb.1, scE hw (by omega), nI_1, ih (k + 1) fuel (by omega) (by omega), mt_s]
    by_cases c : ta (S + k) = wc w k
    · rw [if_pos (by rw [c]), decide_eq_true c, Bool.true_and]
    · rw [if_neg (by rw [nI_eq (by omega) (by omega)]; exact c), decide_eq_false c, Bool.false_and, if_neg (by decide)]
def Wd (z : Nat) (ta : Nat → Nat) (e w : Nat) : Bool := decide (tE z ta e - tS z ta e = wl w) && mt ta (tS z ta e) w (wl w) 0
theorem e_isWord {e w : Nat} (hw : w < 4) (h : tx N z ta) (he : e ≤ z) (h2 : j_I N 7 2 = nI (tS z ta e)) (h3 : j_I N 7 3 = nI (tE z ta e)) : f_X7_isWord N w = some (fl (Wd z ta e w)) := by
  have hz := h.1
  have hwl := wc_k w hw
  have hb2 := tE_b (ta := ta) he
  unfold f_X7_isWord
  have hj : 100000 < j_fu := by unfold j_fu; omega
  revert hj
  generalize j_fu = fu
  intro hj
  rw [tlE, h2, h3, pk_sub hb2.1, (sc_k w hw).1]
  unfold Wd
  by_cases c : tE z ta e - tS z ta e = wl w
  · rw [if_pos (by rw [c]), decide_eq_true c, Bool.true_and, i_0, e_word20 hw h (by omega) h2 _ (wl w) 0 fu (by omega) (by omega)]
    cases mt ta (tS z ta e) w (wl w) 0
    · rw [if_neg (by decide)]; rfl
    · rw [if_pos rfl]; rfl
  · rw [if_neg (by rw [nI_eq (by omega) (by omega)]; exact c), decide_eq_false c, Bool.false_and]; rfl
theorem ch_j {w k : Nat} (hk : k < 4) (F : Int32 → Option Int32) : (if nI k = 0 then (F (nI (wc w 0))) else (if nI k = (1 : Int32) then (F (nI (wc w 1))) else (if nI k = (2 : Int32) then (F (nI (wc w 2))) else (F (nI (wc w 3)))))) = F (nI (wc w k)) := by
  rcases (show k = 0 ∨ k = 1 ∨ k = 2 ∨ k = 3 by omega) with rfl | rfl | rfl | rfl
  · rw [if_pos (by decide)]
  · rw [if_neg (by decide), if_pos (by decide)]
  · rw [if_neg (by decide), if_neg (by decide), if_pos (by decide)]
  · rw [if_neg (by decide), if_neg (by decide), if_neg (by decide)]
theorem e_spell26 {S w : Nat} (hw : w < 4) (h : ty N z ta) (hS : S + wl w ≤ z) (h2 : j_I N 35 20 = nI S) (K : Int32 → Int32 → Option Int32) : ∀ d k fuel, k + d = wl w → d + 1 < fuel → ∃ y, f_X10_spells_L26 fuel N (nI (wl w)) (nI (wc w 0)) (nI (wc w 1)) (nI (wc w 2)) (nI (wc w 3)) 1 (nI k) K = K (fl (mt ta S w d k)) y := by
  have hz := h.1
  have hwl := wc_k w hw
  intro d
  induction d with
  | zero =>
    intro k fuel h1 h3
    obtain ⟨fuel, rfl⟩ : ∃ f, fuel = f + 1 := ⟨fuel - 1, by omega⟩
    exact ⟨nI k, by rw [f_X10_spells_L26, if_pos (nI_le (by omega) (by omega))]; rfl⟩
  | succ d ih =>
    intro k fuel h1 h3
    obtain ⟨fuel, rfl⟩ : ∃ f, fuel = f + 1 + 1 := ⟨fuel - 2, by omega⟩
    have hb := h.2.2 (S + k) (by omega)
    have hc := hwl.2.2.1 k (by omega)
    rw [f_X10_spells_L26, if_neg (nI_ge (by omega) (by omega)), if_neg (by decide), h2, nI_add, a_iN (by omega) (by omega), hb.1, jnI (ch_j (w := w) (show k < 4 by omega)), nI_1, mt_s]
    by_cases c : ta (S + k) = wc w k
    · rw [if_pos (by rw [c]), decide_eq_true c, Bool.true_and]
      exact ih (k + 1) (fuel + 1) (by omega) (by omega)
    · rw [if_neg (by rw [nI_eq (by omega) (by omega)]; exact c), decide_eq_false c, Bool.false_and]
      refine ⟨nI (k + 1), ?_⟩
      rw [f_X10_spells_L26]
      by_cases c5 : nI (wl w) ≤ nI (k + 1)
      · rw [if_pos c5]; rfl
      · rw [if_neg c5, if_pos rfl]; rfl
/-- where the model's look stands -/
def mP (N : j_M) (z : Nat) (ta : Nat → Nat) (e : Nat) : Prop := ty N z ta ∧ j_I N 35 20 = nI (tS z ta e) ∧ j_I N 35 21 = nI (tE z ta e - tS z ta e) ∧ j_I N 35 22 = nI (kdT z ta e) ∧ (kdT z ta e = 2 → j_I N 35 23 = nI (vlT z ta e))
theorem kdT_b {e : Nat} : kdT z ta e ≤ 4 := by
  unfold kdT
  repeat' split
  all_goals omega
theorem mt_0 {S w d : Nat} (h : mt ta S w (d + 1) 0 = true) : ta S = wc w 0 := by
  rw [mt_s, Bool.and_eq_true] at h
  exact of_decide_eq_true h.1
theorem e_spells {e w : Nat} (hw : w < 4) (he : e ≤ z) (h : mP N z ta e) : f_X10_spells N (nI (wl w)) (nI (wc w 0)) (nI (wc w 1)) (nI (wc w 2)) (nI (wc w 3)) = some (fl (Wd z ta e w)) := by
  obtain ⟨h1, h2, h3, h4, -⟩ := h
  have hz := h1.1
  have hwl := wc_k w hw
  have hb := tS_b (ta := ta) he
  have hb2 := tE_b (ta := ta) he
  have hk := kdT_b (z := z) (ta := ta) (e := e)
  unfold f_X10_spells
  have hj : 100000 < j_fu := by unfold j_fu; omega
  revert hj
  generalize j_fu = fu
  intro hj
  rw [h3, h4]
  by_cases c : kdT z ta e = 1 ∧ tE z ta e - tS z ta e = wl w
  · obtain ⟨y, hy⟩ := e_spell26 hw h1 (by omega) h2 (fun (y16 : Int32) (y17 : Int32) => (z_b y16 (some y16))) (wl w) 0 fu (by omega) (by omega)
    rw [jnE, c.1, if_pos (show nI 1 = 1 from rfl), if_pos (by rw [c.2])]
    refine hy.trans ?_
    rw [zb_fl]
    unfold Wd
    rw [decide_eq_true c.2, Bool.true_and]
  · have hW : Wd z ta e w = false := by
      unfold Wd
      by_cases c2 : tE z ta e - tS z ta e = wl w
      · rw [decide_eq_true c2, Bool.true_and]
        by_cases cm : mt ta (tS z ta e) w (wl w) 0 = true
        · exfalso
          refine c ⟨?_, c2⟩
          rw [show wl w = (wl w - 1) + 1 by omega] at cm
          have h0 := mt_0 cm
          have hlt : tS z ta e < z := by omega
          unfold kdT
          rw [if_pos hlt, h0, hwl.2.2.2, if_pos rfl]
        · exact Bool.eq_false_iff.mpr cm
      · rw [decide_eq_false c2, Bool.false_and]
    have hj0 : ∀ (F : Int32 → Option Int32), (if nI (kdT z ta e) = (1 : Int32) then (if nI (tE z ta e - tS z ta e) = nI (wl w) then (F (1 : Int32)) else (F (0 : Int32))) else (F (0 : Int32))) = F 0 := fun F => by
      by_cases c1 : kdT z ta e = 1
      · rw [c1, if_pos (show nI 1 = 1 from rfl), if_neg (by rw [nI_eq (by omega) (by omega)]; exact fun x => c ⟨c1, x⟩)]
      · rw [i_1, if_neg (by rw [nI_eq (by omega) (by omega)]; exact c1)]
    rw [jnI hj0, hW]
    obtain ⟨f, rfl⟩ : ∃ f, fu = f + 1 := ⟨fu - 1, by omega⟩
    rw [f_X10_spells_L26]
    by_cases c5 : nI (wl w) ≤ 0
    · rw [if_pos c5]; rfl
    · rw [if_neg c5, if_pos rfl]; rfl
end
