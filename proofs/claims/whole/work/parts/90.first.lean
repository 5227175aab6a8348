/-! the first memory -/
theorem k77_N : j_N k_77 = 51 := rfl
set_option maxRecDepth 100000 in
theorem k77_x : sh_x k_77.2.2 := by
  unfold sh_x sh_b
  refine ⟨by decide +kernel, ?_⟩
  repeat' constructor
  all_goals first | rfl | decide +kernel
set_option maxRecDepth 100000 in
theorem k77_m : sh_m k_77.2.2 := by
  unfold sh_m
  refine ⟨by decide +kernel, ?_⟩
  repeat' constructor
  all_goals first | rfl | decide +kernel
theorem k77_R : ∀ i, i < 2 → k_77.2.2.1 1 i = none := by decide +kernel
theorem k77_i : sh_i k_77.2.2 := fun i hi b e => by
  rw [k77_R i hi] at e
  cases e
theorem k77_C : ∀ k, k < 12 → j_I k_77 0 k = 0 := by decide +kernel
theorem k77_39 : ∀ k, k < 3 → j_I k_77 39 k = 0 := by decide +kernel
theorem k77_38 : ∀ k, k < 2 → j_I k_77 38 k = 0 := by decide +kernel
theorem k77_36 : ∀ k, k < 250 → j_I k_77 36 k = 0 := by decide +kernel
theorem k77_17 : j_I k_77 17 9 = 0 ∧ j_I k_77 17 10 = 0 ∧ j_I k_77 17 11 = 0 := by decide +kernel
theorem k77_18 : ∀ l, l < 4 → j_I k_77 18 l = nI (bgn (fun _ => 0) (4 + l)) ∧ j_I k_77 19 l = 0 := by decide +kernel
theorem k77_22 : ∀ k, k < 22 → j_I k_77 22 k = 0 := by decide +kernel
theorem k77_t : j_I k_77 7 1 = 0 ∧ j_I k_77 35 19 = 0 := by decide +kernel
theorem k77_L : j_L k_77 0 7 = j_L k_77 35 4 ∧ j_L k_77 0 8 = j_L k_77 35 5 := by decide +kernel
theorem inv_first : f_X10_begin k_77 36 250 = some (bg10 k_77 36) ∧ Inv (bg10 k_77 36) ∧ j_N (bg10 k_77 36) = 51 := by
  refine ⟨e_begin10 (by omega) (by omega), ?_, rfl⟩
  have hR : ∀ i, i < 2 → j_R (bg10 k_77 36) 1 i = none := fun i hi => k77_R i hi
  have hG : ∀ i, i < 2 → iG (bg10 k_77 36) i := fun i hi => Or.inl ⟨hR i hi, by rw [I_bg10 (by omega)]; exact k77_38 i hi⟩
  refine ⟨⟨k77_x, k77_m, k77_i, ?_, fun b e => ?_⟩, ?_, k77_L, ⟨0, fun _ => 0, by omega, ?_, ?_, fun k hk => by omega⟩, ⟨bgn (fun _ => 0), ?_, ?_, wf_begin⟩, hG 0 (by omega), hG 1 (by omega)⟩
  · rw [hR 0 (by omega), hR 1 (by omega)]
    rfl
  · rw [hR 0 (by omega)] at e
    cases e
  · unfold iC
    rw [I_bg10 (by omega), I_bg10 (by omega), I_bg10 (by omega), I_bg10 (by omega), I_bg10 (by omega), I_bg10 (by omega), k77_C 9 (by omega), k77_C 10 (by omega), k77_C 11 (by omega), k77_39 0 (by omega), k77_39 1 (by omega), k77_39 2 (by omega)]
    exact ⟨rfl, rfl, rfl⟩
  · rw [I_bg10 (by omega)]; exact k77_t.1
  · rw [I_bg10 (by omega)]; exact k77_t.2
  · have hb : iB k_77 17 (bgn (fun _ => 0)) := by
      refine ⟨by rw [bgn_0 (by omega)]; exact k77_17.1, by rw [bgn_0 (by omega)]; exact k77_17.2.1, by rw [bgn_0 (by omega)]; exact k77_17.2.2, fun l hl => ⟨(k77_18 l hl).1, ?_⟩, fun p hp => ?_, fun k hk => ?_, fun u hu => ?_, fun i hi => ?_⟩
      · rw [bgn_0 (by omega), Nat.zero_div, Nat.zero_mod]; exact (k77_18 l hl).2
      · rw [bgn_0 (by omega)] at hp; omega
      · have : rowOf (bgn (fun _ => 0)) k = 0 := by
          unfold rowOf
          split
          · exact bgn_0 (by omega)
          · exact bgn_0 (by omega)
        rw [this]
        exact k77_22 k hk
      · rw [bgn_0 (by omega)] at hu; omega
      · rw [bgn_0 (by omega)] at hi; omega
    exact hb.to (fun a k _ _ => I_bg10 (by omega))
  · intro k hk
    rw [Nat.zero_add]
    by_cases c : k < 74
    · exact I_bg10' c
    · rw [I_bg10 (by omega), k77_36 k hk]
      unfold bgn
      rw [if_neg c]
      rfl
