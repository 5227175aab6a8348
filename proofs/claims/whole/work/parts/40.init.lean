abbrev md_X0_init : j_Md := (yX0_init, cX0_init, 2, none)
abbrev md_X4_init : j_Md := (yX4_init, cX4_init, 1, none)
abbrev md_X7_init : j_Md := (yX7_init, cX7_init, 1, none)
abbrev md_X9_init : j_Md := (yX9_init, cX9_init, 2, none)
abbrev md_X10_init : j_Md := (yX10_init, cX10_init, 1, none)
abbrev md_X1_init : j_Md := (yX1_init, cX1_init, 1, none)
abbrev md_X2_init : j_Md := (yX2_init, cX2_init, 1, none)
abbrev md_X3_init : j_Md := (yX3_init, cX3_init, 1, none)
abbrev md_X5_init : j_Md := (yX5_init, cX5_init, 1, none)
abbrev md_X6_init : j_Md := (yX6_init, cX6_init, 1, none)
abbrev md_X8_init : j_Md := (yX8_init, cX8_init, 1, none)
section
variable {l : Launch} {G : j_G} {md : j_Md} {R : Room} {cs mcs mcs' : Nat × Nat} {Po : Option Value → j_M → Prop} {pc pc' : Nat} {lv lv' : List (Nat × Value)} {st : List Value} {M M1 : j_M}
theorem j_kn {rest : List Value} (kk : JJ l G md R (cs.1 + mcs'.1, cs.2 + mcs'.2) mcs Po pc' lv rest M1) : ∀ (w : Option Value) (M' : j_M), po none M1 w M' → JJ l G md R (cs.1 + mcs'.1, cs.2 + mcs'.2) mcs Po pc' lv (w.toList ++ rest) M' := by
  intro w M' h
  obtain ⟨rfl, rfl⟩ := h
  exact kk
end
theorem c_X3_init {l : Launch} {G : j_G} {M : j_M} {b : Nat} : j_Sp l G md_X3_init 2 (0, 0) [.ref b] M (po none M) := by
  refine j_Sp.of (by decide) (Nat.le_of_ble_eq_true rfl) ?_
  show JJ l G md_X3_init (j_rm 2 (0, 0)) (0, 0) (0, 0) (po none M) 0 [(0, .ref b)] [] M
  refine J_aload_n (pc' := 1) (i := 0) (n := 0) dX3_init_0 rfl rfl rfl ?_
  refine J_oini (pc' := 4) dX3_init_1 rfl ⟨(j_in 179 (by decide +kernel) rfl), (j_in 125 (by decide +kernel) rfl), (j_in 126 (by decide +kernel) rfl)⟩ ⟨Nat.le_of_ble_eq_true rfl, Nat.le_of_ble_eq_true rfl⟩ ?_
  exact J_vret rfl dX3_init_4 ⟨rfl, Nat.le_refl _⟩ ⟨rfl, rfl⟩
theorem c_X2_init {l : Launch} {G : j_G} {M : j_M} {b : Nat} : j_Sp l G md_X2_init 3 (0, 0) [.ref b] M (po none M) := by
  refine j_Sp.of (by decide) (Nat.le_of_ble_eq_true rfl) ?_
  show JJ l G md_X2_init (j_rm 3 (0, 0)) (0, 0) (0, 0) (po none M) 0 [(0, .ref b)] [] M
  refine J_aload_n (pc' := 1) (i := 0) (n := 0) dX2_init_0 rfl rfl rfl ?_
  refine J_callIN (pc' := 4) (as := []) (rest := []) (b := b) dX2_init_1 rfl (⟨⟨j_inN 187 (by decide +kernel), (j_in 177 (by decide +kernel) rfl), (j_in 103 (by decide +kernel) rfl), rfl, rfl⟩, (j_in 178 (by decide +kernel) rfl), ⟨by decide, by decide, by decide +kernel⟩⟩ : j_lkIN RX2 1 md_X3_init 0) rfl (c_X3_init (M := M) (b := b)) ⟨Nat.le_of_ble_eq_true rfl, Nat.le_of_ble_eq_true rfl⟩ (Nat.le_of_ble_eq_true rfl) ⟨Nat.le_of_ble_eq_true rfl, Nat.le_of_ble_eq_true rfl⟩ (j_kv ?_)
  exact J_vret rfl dX2_init_4 ⟨rfl, Nat.le_refl _⟩ ⟨rfl, rfl⟩
theorem c_X5_init {l : Launch} {G : j_G} {M : j_M} {b : Nat} : j_Sp l G md_X5_init 3 (0, 0) [.ref b] M (po none M) := by
  refine j_Sp.of (by decide) (Nat.le_of_ble_eq_true rfl) ?_
  show JJ l G md_X5_init (j_rm 3 (0, 0)) (0, 0) (0, 0) (po none M) 0 [(0, .ref b)] [] M
  refine J_aload_n (pc' := 1) (i := 0) (n := 0) dX5_init_0 rfl rfl rfl ?_
  refine J_callIN (pc' := 4) (as := []) (rest := []) (b := b) dX5_init_1 rfl (⟨⟨j_inN 194 (by decide +kernel), (j_in 177 (by decide +kernel) rfl), (j_in 103 (by decide +kernel) rfl), rfl, rfl⟩, (j_in 178 (by decide +kernel) rfl), ⟨by decide, by decide, by decide +kernel⟩⟩ : j_lkIN RX5 1 md_X3_init 0) rfl (c_X3_init (M := M) (b := b)) ⟨Nat.le_of_ble_eq_true rfl, Nat.le_of_ble_eq_true rfl⟩ (Nat.le_of_ble_eq_true rfl) ⟨Nat.le_of_ble_eq_true rfl, Nat.le_of_ble_eq_true rfl⟩ (j_kv ?_)
  exact J_vret rfl dX5_init_4 ⟨rfl, Nat.le_refl _⟩ ⟨rfl, rfl⟩
theorem c_X8_init {l : Launch} {G : j_G} {M : j_M} {b : Nat} : j_Sp l G md_X8_init 3 (0, 0) [.ref b] M (po none M) := by
  refine j_Sp.of (by decide) (Nat.le_of_ble_eq_true rfl) ?_
  show JJ l G md_X8_init (j_rm 3 (0, 0)) (0, 0) (0, 0) (po none M) 0 [(0, .ref b)] [] M
  refine J_aload_n (pc' := 1) (i := 0) (n := 0) dX8_init_0 rfl rfl rfl ?_
  refine J_callIN (pc' := 4) (as := []) (rest := []) (b := b) dX8_init_1 rfl (⟨⟨j_inN 201 (by decide +kernel), (j_in 177 (by decide +kernel) rfl), (j_in 103 (by decide +kernel) rfl), rfl, rfl⟩, (j_in 178 (by decide +kernel) rfl), ⟨by decide, by decide, by decide +kernel⟩⟩ : j_lkIN RX8 1 md_X3_init 0) rfl (c_X3_init (M := M) (b := b)) ⟨Nat.le_of_ble_eq_true rfl, Nat.le_of_ble_eq_true rfl⟩ (Nat.le_of_ble_eq_true rfl) ⟨Nat.le_of_ble_eq_true rfl, Nat.le_of_ble_eq_true rfl⟩ (j_kv ?_)
  exact J_vret rfl dX8_init_4 ⟨rfl, Nat.le_refl _⟩ ⟨rfl, rfl⟩
theorem c_X1_init {l : Launch} {G : j_G} {M : j_M} {b : Nat} : j_Sp l G md_X1_init 4 (0, 0) [.ref b] M (po none M) := by
  refine j_Sp.of (by decide) (Nat.le_of_ble_eq_true rfl) ?_
  show JJ l G md_X1_init (j_rm 4 (0, 0)) (0, 0) (0, 0) (po none M) 0 [(0, .ref b)] [] M
  refine J_aload_n (pc' := 1) (i := 0) (n := 0) dX1_init_0 rfl rfl rfl ?_
  refine J_callIN (pc' := 4) (as := []) (rest := []) (b := b) dX1_init_1 rfl (⟨⟨j_inN 208 (by decide +kernel), (j_in 192 (by decide +kernel) rfl), (j_in 105 (by decide +kernel) rfl), rfl, rfl⟩, (j_in 193 (by decide +kernel) rfl), ⟨by decide, by decide, by decide +kernel⟩⟩ : j_lkIN RX1 1 md_X5_init 0) rfl (c_X5_init (M := M) (b := b)) ⟨Nat.le_of_ble_eq_true rfl, Nat.le_of_ble_eq_true rfl⟩ (Nat.le_of_ble_eq_true rfl) ⟨Nat.le_of_ble_eq_true rfl, Nat.le_of_ble_eq_true rfl⟩ (j_kv ?_)
  exact J_vret rfl dX1_init_4 ⟨rfl, Nat.le_refl _⟩ ⟨rfl, rfl⟩
theorem c_X6_init {l : Launch} {G : j_G} {M : j_M} {b : Nat} : j_Sp l G md_X6_init 4 (0, 0) [.ref b] M (po none M) := by
  refine j_Sp.of (by decide) (Nat.le_of_ble_eq_true rfl) ?_
  show JJ l G md_X6_init (j_rm 4 (0, 0)) (0, 0) (0, 0) (po none M) 0 [(0, .ref b)] [] M
  refine J_aload_n (pc' := 1) (i := 0) (n := 0) dX6_init_0 rfl rfl rfl ?_
  refine J_callIN (pc' := 4) (as := []) (rest := []) (b := b) dX6_init_1 rfl (⟨⟨j_inN 215 (by decide +kernel), (j_in 185 (by decide +kernel) rfl), (j_in 104 (by decide +kernel) rfl), rfl, rfl⟩, (j_in 186 (by decide +kernel) rfl), ⟨by decide, by decide, by decide +kernel⟩⟩ : j_lkIN RX6 1 md_X2_init 0) rfl (c_X2_init (M := M) (b := b)) ⟨Nat.le_of_ble_eq_true rfl, Nat.le_of_ble_eq_true rfl⟩ (Nat.le_of_ble_eq_true rfl) ⟨Nat.le_of_ble_eq_true rfl, Nat.le_of_ble_eq_true rfl⟩ (j_kv ?_)
  exact J_vret rfl dX6_init_4 ⟨rfl, Nat.le_refl _⟩ ⟨rfl, rfl⟩
def bArr (M : j_M) (b : Nat) : j_M := j_sR (j_sR (j_nw (j_sR (j_nw (j_sR (j_nw (j_sR (j_nw (j_sR (j_nw (j_sR (j_nw (j_sR (j_nw (j_sR (j_nw (M) (1, 4)) b 1 (some (b + 1))) (1, 4)) b 2 (some (b + 2))) (1, 7)) b 3 (some (b + 3))) (1, 7)) b 4 (some (b + 4))) (1, 22)) b 5 (some (b + 5))) (1, 176)) b 6 (some (b + 6))) (1, 30)) b 7 (some (b + 7))) (1, 4)) b 8 (some (b + 8))) b 0 (some 10)
/-- Bath.begin, as it is: no step of it may fail -/
noncomputable def bgM (M : j_M) (b : Nat) : j_M := (f_X0_begin M b).getD M
theorem bgM_eq (M : j_M) (b : Nat) : f_X0_begin M b = some (bgM M b) := rfl
noncomputable def bInit (M : j_M) (b : Nat) : j_M := bgM (bArr M b) b
def sh_kk (q : ((Nat → Nat → Option Nat) × (Nat → Nat × Nat) × Nat)) : Prop := q.2.1 10 = (6, 6) ∧ 17 ≤ q.2.2 ∧ (q.2.1 11).1 = 10 + 3 ∧ (q.2.1 12).1 = 10 + 2 ∧ (q.2.1 13).1 = 10 + 5 ∧ (q.2.1 14).1 = 10 + 8 ∧ (q.2.1 15).1 = 10 + 1 ∧ (q.2.1 16).1 = 10 + 6 ∧ q.1 10 0 = some 11 ∧ q.1 10 1 = some 12 ∧ q.1 10 2 = some 13 ∧ q.1 10 3 = some 14 ∧ q.1 10 4 = some 15 ∧ q.1 10 5 = some 16
theorem j_S_nwn {M : j_M} {sh : Nat × Nat} {a : Nat} (h : a ≠ j_N M) : j_S (j_nw M sh) a = j_S M a := by
  have h' : a ≠ M.2.2.2.2 := h
  simp [j_S, j_nw, h']
theorem j_R_nwn {M : j_M} {sh : Nat × Nat} {a k : Nat} (h : a ≠ j_N M) : j_R (j_nw M sh) a k = j_R M a k := by
  have h' : a ≠ M.2.2.2.2 := h
  simp [j_R, j_nw, h']
theorem j_S_if {M : j_M} {sh : Nat × Nat} {a : Nat} : j_S (j_nw M sh) a = if a = j_N M then sh else j_S M a := rfl
theorem j_S_sR {M : j_M} {a k b : Nat} {v : Option Nat} : j_S (j_sR M a k v) b = j_S M b := rfl
theorem j_N_sR {M : j_M} {a k : Nat} {v : Option Nat} : j_N (j_sR M a k v) = j_N M := rfl
theorem j_R_sR {M : j_M} {a k b j : Nat} {v : Option Nat} : j_R (j_sR M a k v) b j = if b = a ∧ j = k then v else j_R M b j := rfl
theorem bArr_N {M : j_M} {b : Nat} (hN : j_N M = b + 1) : j_N (bArr M b) = b + 9 := by
  simp only [bArr, j_N_sR, j_N_nw, hN]
set_option maxHeartbeats 4000000 in
theorem bArr_sh {M : j_M} {b : Nat} (hN : j_N M = b + 1) (hS : (j_S M b).1 = 10 + 0) (hb : 17 ≤ b) (hk : sh_kk M.2.2) : sh_b b (bArr M b).2.2 := by
  have hk' : sh_kk M.2.2 := hk
  obtain ⟨a1, a2, a3, a4, a5, a6, a7, a8, a9, a10, a11, a12, a13, a14⟩ := hk
  have sb : ∀ a, j_S (bArr M b) a = if a = b + 8 then (1, 4) else if a = b + 7 then (1, 30) else if a = b + 6 then (1, 176) else if a = b + 5 then (1, 22) else if a = b + 4 then (1, 7) else if a = b + 3 then (1, 7) else if a = b + 2 then (1, 4) else if a = b + 1 then (1, 4) else j_S M a := by
    intro a
    simp only [bArr, j_S_sR, j_S_if, j_N_sR, j_N_nw, hN, Nat.add_assoc, Nat.reduceAdd]
  have s : ∀ a, a ≤ b → j_S (bArr M b) a = j_S M a := by
    intro a ha
    rw [sb]
    repeat rw [if_neg (by omega)]
  have r : ∀ a k, a < b → j_R (bArr M b) a k = j_R M a k := by
    intro a k ha
    have hne : ¬ a = b := by omega
    simp only [bArr, j_R_sR, hne, false_and, if_false]
    repeat (rw [j_R_nwn (by simp only [j_N_sR, j_N_nw, hN]; omega)]; try simp only [j_R_sR, hne, false_and, if_false])
  have rb : ∀ k, j_R (bArr M b) b k = if k = 0 then some 10 else if k = 8 then some (b + 8) else if k = 7 then some (b + 7) else if k = 6 then some (b + 6) else if k = 5 then some (b + 5) else if k = 4 then some (b + 4) else if k = 3 then some (b + 3) else if k = 2 then some (b + 2) else if k = 1 then some (b + 1) else j_R M b k := by
    intro k
    simp only [bArr, j_R_sR, true_and]
    repeat (rw [j_R_nwn (by simp only [j_N_sR, j_N_nw, hN]; omega)]; try simp only [j_R_sR, true_and])
  have q : ∀ (i n : Nat), (bArr M b).2.2.2.1 i = j_S (bArr M b) i := fun _ _ => rfl
  have z : ∀ i k : Nat, (bArr M b).2.2.1 i k = j_R (bArr M b) i k := fun _ _ => rfl
  refine ⟨⟨Nat.le_of_eq (bArr_N hN).symm, Nat.le_trans (by omega : 17 ≤ b + 9) (Nat.le_of_eq (bArr_N hN).symm)⟩, ?_⟩
  refine ⟨by show (j_S (bArr M b) b).1 = 10 + 0; rw [s b (Nat.le_refl _)]; exact hS, ?_⟩
  refine ⟨by
    show j_S (bArr M b) (b + 1) = (1, 4)
    rw [sb]
    simp, ?_⟩
  refine ⟨by show j_R (bArr M b) b 1 = _; rw [rb]; rfl, ?_⟩
  refine ⟨by
    show j_S (bArr M b) (b + 2) = (1, 4)
    rw [sb]
    simp, ?_⟩
  refine ⟨by show j_R (bArr M b) b 2 = _; rw [rb]; rfl, ?_⟩
  refine ⟨by
    show j_S (bArr M b) (b + 3) = (1, 7)
    rw [sb]
    simp, ?_⟩
  refine ⟨by show j_R (bArr M b) b 3 = _; rw [rb]; rfl, ?_⟩
  refine ⟨by
    show j_S (bArr M b) (b + 4) = (1, 7)
    rw [sb]
    simp, ?_⟩
  refine ⟨by show j_R (bArr M b) b 4 = _; rw [rb]; rfl, ?_⟩
  refine ⟨by
    show j_S (bArr M b) (b + 5) = (1, 22)
    rw [sb]
    simp, ?_⟩
  refine ⟨by show j_R (bArr M b) b 5 = _; rw [rb]; rfl, ?_⟩
  refine ⟨by
    show j_S (bArr M b) (b + 6) = (1, 176)
    rw [sb]
    simp, ?_⟩
  refine ⟨by show j_R (bArr M b) b 6 = _; rw [rb]; rfl, ?_⟩
  refine ⟨by
    show j_S (bArr M b) (b + 7) = (1, 30)
    rw [sb]
    simp, ?_⟩
  refine ⟨by show j_R (bArr M b) b 7 = _; rw [rb]; rfl, ?_⟩
  refine ⟨by
    show j_S (bArr M b) (b + 8) = (1, 4)
    rw [sb]
    simp, ?_⟩
  refine ⟨by show j_R (bArr M b) b 8 = _; rw [rb]; rfl, ?_⟩
  refine ⟨by show j_R (bArr M b) b 0 = _; rw [rb]; rfl, ?_⟩
  refine ⟨by show j_S (bArr M b) 10 = _; rw [s 10 (by omega)]; exact a1, ?_⟩
  refine ⟨by show j_R (bArr M b) 10 0 = _; rw [r 10 0 (by omega)]; exact a9, ?_⟩
  refine ⟨by show (j_S (bArr M b) 11).1 = _; rw [s 11 (by omega)]; exact a3, ?_⟩
  refine ⟨by show j_R (bArr M b) 10 1 = _; rw [r 10 1 (by omega)]; exact a10, ?_⟩
  refine ⟨by show (j_S (bArr M b) 12).1 = _; rw [s 12 (by omega)]; exact a4, ?_⟩
  refine ⟨by show j_R (bArr M b) 10 2 = _; rw [r 10 2 (by omega)]; exact a11, ?_⟩
  refine ⟨by show (j_S (bArr M b) 13).1 = _; rw [s 13 (by omega)]; exact a5, ?_⟩
  refine ⟨by show j_R (bArr M b) 10 3 = _; rw [r 10 3 (by omega)]; exact a12, ?_⟩
  refine ⟨by show (j_S (bArr M b) 14).1 = _; rw [s 14 (by omega)]; exact a6, ?_⟩
  refine ⟨by show j_R (bArr M b) 10 4 = _; rw [r 10 4 (by omega)]; exact a13, ?_⟩
  refine ⟨by show (j_S (bArr M b) 15).1 = _; rw [s 15 (by omega)]; exact a7, ?_⟩
  refine ⟨by show j_R (bArr M b) 10 5 = _; rw [r 10 5 (by omega)]; exact a14, ?_⟩
  show (j_S (bArr M b) 16).1 = _
  rw [s 16 (by omega)]
  exact a8
set_option maxHeartbeats 4000000 in
theorem c_X0_init {l : Launch} {G : j_G} {M : j_M} {b : Nat} (hN0 : j_N M = b + 1) (hS0 : (j_S M b).1 = 10 + 0) (hb : 17 ≤ b) (hk : sh_kk M.2.2) (hbb : b + 10 ≤ 1000000) : j_Sp l G md_X0_init 4 (8, 254) [.ref b, .ref 10] M (po none (bInit M b)) := by
  refine j_Sp.of (by decide) (Nat.le_of_ble_eq_true rfl) ?_
  show JJ l G md_X0_init (j_rm 4 (8, 254)) (0, 0) (8, 254) (po none (bInit M b)) 0 [(0, .ref b), (1, .ref 10)] [] M
  refine J_aload_n (pc' := 1) (i := 0) (n := 0) dX0_init_0 rfl rfl rfl ?_
  refine J_oini (pc' := 4) dX0_init_1 rfl ⟨(j_in 221 (by decide +kernel) rfl), (j_in 125 (by decide +kernel) rfl), (j_in 126 (by decide +kernel) rfl)⟩ ⟨Nat.le_of_ble_eq_true rfl, Nat.le_of_ble_eq_true rfl⟩ ?_
  refine J_aload_n (pc' := 5) (i := 0) (n := 0) dX0_init_4 rfl rfl rfl ?_
  refine J_iconst (pc' := 6) (v := (4 : Int32)) dX0_init_5 rfl (by decide) ?_
  refine J_newI (n := 4) (pc' := 8) dX0_init_6 rfl (j_in 150 (by decide +kernel) rfl) ⟨by decide, rfl, by decide⟩ ⟨Nat.le_of_ble_eq_true rfl, Nat.le_of_ble_eq_true rfl⟩ (by rw [hN0]; omega) ?_
  rw [hN0]
  have hS1 : (j_S (j_nw M (1, 4)) b).1 = 10 + 0 := by rw [j_S_nwn (by rw [hN0]; omega)]; exact hS0
  have hM1 : j_N (j_nw M (1, 4)) = b + 2 := by rw [j_N_nw, hN0]
  refine J_putFR (b := b + 1) (ty := .array .int) (pc' := 11) dX0_init_8 rfl (⟨by decide, by decide, rfl, Or.inl (j_in 236 (by decide +kernel) rfl)⟩ : j_fln RX0 11 0 1) ⟨rfl, rfl, rfl, rfl, rfl, rfl⟩ (fun _ => ⟨rfl, rfl⟩) (j_in 236 (by decide +kernel) rfl) hS1 (by rw [hM1]; omega) ?_
  obtain ⟨N1, e1⟩ : ∃ X, j_sR (j_nw M (1, 4)) b 1 (some (b + 1)) = X := ⟨_, rfl⟩
  rw [e1]
  have hN1 : j_N N1 = b + 2 := by rw [← e1, j_N_sR]; exact hM1
  have hS1 : (j_S N1 b).1 = 10 + 0 := by rw [← e1, j_S_sR]; exact hS1
  show JJ l G md_X0_init (j_rm 4 (8, 254)) (1, 4) (8, 254) (po none (bInit M b)) 11 [(0, .ref b), (1, .ref 10)] [] N1
  refine J_aload_n (pc' := 12) (i := 0) (n := 0) dX0_init_11 rfl rfl rfl ?_
  refine J_iconst (pc' := 13) (v := (4 : Int32)) dX0_init_12 rfl (by decide) ?_
  refine J_newI (n := 4) (pc' := 15) dX0_init_13 rfl (j_in 150 (by decide +kernel) rfl) ⟨by decide, rfl, by decide⟩ ⟨Nat.le_of_ble_eq_true rfl, Nat.le_of_ble_eq_true rfl⟩ (by rw [hN1]; omega) ?_
  rw [hN1]
  have hS2 : (j_S (j_nw N1 (1, 4)) b).1 = 10 + 0 := by rw [j_S_nwn (by rw [hN1]; omega)]; exact hS1
  have hM2 : j_N (j_nw N1 (1, 4)) = b + 3 := by rw [j_N_nw, hN1]
  refine J_putFR (b := b + 2) (ty := .array .int) (pc' := 18) dX0_init_15 rfl (⟨by decide, by decide, rfl, Or.inl (j_in 239 (by decide +kernel) rfl)⟩ : j_fln RX0 15 0 2) ⟨rfl, rfl, rfl, rfl, rfl, rfl⟩ (fun _ => ⟨rfl, rfl⟩) (j_in 239 (by decide +kernel) rfl) hS2 (by rw [hM2]; omega) ?_
  obtain ⟨N2, e2⟩ : ∃ X, j_sR (j_nw N1 (1, 4)) b 2 (some (b + 2)) = X := ⟨_, rfl⟩
  rw [e2]
  have hN2 : j_N N2 = b + 3 := by rw [← e2, j_N_sR]; exact hM2
  have hS2 : (j_S N2 b).1 = 10 + 0 := by rw [← e2, j_S_sR]; exact hS2
  show JJ l G md_X0_init (j_rm 4 (8, 254)) (2, 8) (8, 254) (po none (bInit M b)) 18 [(0, .ref b), (1, .ref 10)] [] N2
  refine J_aload_n (pc' := 19) (i := 0) (n := 0) dX0_init_18 rfl rfl rfl ?_
  refine J_bipush (pc' := 21) (v := (7 : Int32)) dX0_init_19 rfl (by decide) ?_
  refine J_newI (n := 7) (pc' := 23) dX0_init_21 rfl (j_in 150 (by decide +kernel) rfl) ⟨by decide, rfl, by decide⟩ ⟨Nat.le_of_ble_eq_true rfl, Nat.le_of_ble_eq_true rfl⟩ (by rw [hN2]; omega) ?_
  rw [hN2]
  have hS3 : (j_S (j_nw N2 (1, 7)) b).1 = 10 + 0 := by rw [j_S_nwn (by rw [hN2]; omega)]; exact hS2
  have hM3 : j_N (j_nw N2 (1, 7)) = b + 4 := by rw [j_N_nw, hN2]
  refine J_putFR (b := b + 3) (ty := .array .int) (pc' := 26) dX0_init_23 rfl (⟨by decide, by decide, rfl, Or.inl (j_in 242 (by decide +kernel) rfl)⟩ : j_fln RX0 18 0 3) ⟨rfl, rfl, rfl, rfl, rfl, rfl⟩ (fun _ => ⟨rfl, rfl⟩) (j_in 242 (by decide +kernel) rfl) hS3 (by rw [hM3]; omega) ?_
  obtain ⟨N3, e3⟩ : ∃ X, j_sR (j_nw N2 (1, 7)) b 3 (some (b + 3)) = X := ⟨_, rfl⟩
  rw [e3]
  have hN3 : j_N N3 = b + 4 := by rw [← e3, j_N_sR]; exact hM3
  have hS3 : (j_S N3 b).1 = 10 + 0 := by rw [← e3, j_S_sR]; exact hS3
  show JJ l G md_X0_init (j_rm 4 (8, 254)) (3, 15) (8, 254) (po none (bInit M b)) 26 [(0, .ref b), (1, .ref 10)] [] N3
  refine J_aload_n (pc' := 27) (i := 0) (n := 0) dX0_init_26 rfl rfl rfl ?_
  refine J_bipush (pc' := 29) (v := (7 : Int32)) dX0_init_27 rfl (by decide) ?_
  refine J_newI (n := 7) (pc' := 31) dX0_init_29 rfl (j_in 150 (by decide +kernel) rfl) ⟨by decide, rfl, by decide⟩ ⟨Nat.le_of_ble_eq_true rfl, Nat.le_of_ble_eq_true rfl⟩ (by rw [hN3]; omega) ?_
  rw [hN3]
  have hS4 : (j_S (j_nw N3 (1, 7)) b).1 = 10 + 0 := by rw [j_S_nwn (by rw [hN3]; omega)]; exact hS3
  have hM4 : j_N (j_nw N3 (1, 7)) = b + 5 := by rw [j_N_nw, hN3]
  refine J_putFR (b := b + 4) (ty := .array .int) (pc' := 34) dX0_init_31 rfl (⟨by decide, by decide, rfl, Or.inl (j_in 244 (by decide +kernel) rfl)⟩ : j_fln RX0 21 0 4) ⟨rfl, rfl, rfl, rfl, rfl, rfl⟩ (fun _ => ⟨rfl, rfl⟩) (j_in 244 (by decide +kernel) rfl) hS4 (by rw [hM4]; omega) ?_
  obtain ⟨N4, e4⟩ : ∃ X, j_sR (j_nw N3 (1, 7)) b 4 (some (b + 4)) = X := ⟨_, rfl⟩
  rw [e4]
  have hN4 : j_N N4 = b + 5 := by rw [← e4, j_N_sR]; exact hM4
  have hS4 : (j_S N4 b).1 = 10 + 0 := by rw [← e4, j_S_sR]; exact hS4
  show JJ l G md_X0_init (j_rm 4 (8, 254)) (4, 22) (8, 254) (po none (bInit M b)) 34 [(0, .ref b), (1, .ref 10)] [] N4
  refine J_aload_n (pc' := 35) (i := 0) (n := 0) dX0_init_34 rfl rfl rfl ?_
  refine J_bipush (pc' := 37) (v := (22 : Int32)) dX0_init_35 rfl (by decide) ?_
  refine J_newI (n := 22) (pc' := 39) dX0_init_37 rfl (j_in 150 (by decide +kernel) rfl) ⟨by decide, rfl, by decide⟩ ⟨Nat.le_of_ble_eq_true rfl, Nat.le_of_ble_eq_true rfl⟩ (by rw [hN4]; omega) ?_
  rw [hN4]
  have hS5 : (j_S (j_nw N4 (1, 22)) b).1 = 10 + 0 := by rw [j_S_nwn (by rw [hN4]; omega)]; exact hS4
  have hM5 : j_N (j_nw N4 (1, 22)) = b + 6 := by rw [j_N_nw, hN4]
  refine J_putFR (b := b + 5) (ty := .array .int) (pc' := 42) dX0_init_39 rfl (⟨by decide, by decide, rfl, Or.inl (j_in 246 (by decide +kernel) rfl)⟩ : j_fln RX0 24 0 5) ⟨rfl, rfl, rfl, rfl, rfl, rfl⟩ (fun _ => ⟨rfl, rfl⟩) (j_in 246 (by decide +kernel) rfl) hS5 (by rw [hM5]; omega) ?_
  obtain ⟨N5, e5⟩ : ∃ X, j_sR (j_nw N4 (1, 22)) b 5 (some (b + 5)) = X := ⟨_, rfl⟩
  rw [e5]
  have hN5 : j_N N5 = b + 6 := by rw [← e5, j_N_sR]; exact hM5
  have hS5 : (j_S N5 b).1 = 10 + 0 := by rw [← e5, j_S_sR]; exact hS5
  show JJ l G md_X0_init (j_rm 4 (8, 254)) (5, 44) (8, 254) (po none (bInit M b)) 42 [(0, .ref b), (1, .ref 10)] [] N5
  refine J_aload_n (pc' := 43) (i := 0) (n := 0) dX0_init_42 rfl rfl rfl ?_
  refine J_sipush (pc' := 46) (v := (176 : Int32)) dX0_init_43 rfl (by decide) ?_
  refine J_newI (n := 176) (pc' := 48) dX0_init_46 rfl (j_in 150 (by decide +kernel) rfl) ⟨by decide, rfl, by decide⟩ ⟨Nat.le_of_ble_eq_true rfl, Nat.le_of_ble_eq_true rfl⟩ (by rw [hN5]; omega) ?_
  rw [hN5]
  have hS6 : (j_S (j_nw N5 (1, 176)) b).1 = 10 + 0 := by rw [j_S_nwn (by rw [hN5]; omega)]; exact hS5
  have hM6 : j_N (j_nw N5 (1, 176)) = b + 7 := by rw [j_N_nw, hN5]
  refine J_putFR (b := b + 6) (ty := .array .int) (pc' := 51) dX0_init_48 rfl (⟨by decide, by decide, rfl, Or.inl (j_in 249 (by decide +kernel) rfl)⟩ : j_fln RX0 27 0 6) ⟨rfl, rfl, rfl, rfl, rfl, rfl⟩ (fun _ => ⟨rfl, rfl⟩) (j_in 249 (by decide +kernel) rfl) hS6 (by rw [hM6]; omega) ?_
  obtain ⟨N6, e6⟩ : ∃ X, j_sR (j_nw N5 (1, 176)) b 6 (some (b + 6)) = X := ⟨_, rfl⟩
  rw [e6]
  have hN6 : j_N N6 = b + 7 := by rw [← e6, j_N_sR]; exact hM6
  have hS6 : (j_S N6 b).1 = 10 + 0 := by rw [← e6, j_S_sR]; exact hS6
  show JJ l G md_X0_init (j_rm 4 (8, 254)) (6, 220) (8, 254) (po none (bInit M b)) 51 [(0, .ref b), (1, .ref 10)] [] N6
  refine J_aload_n (pc' := 52) (i := 0) (n := 0) dX0_init_51 rfl rfl rfl ?_
  refine J_bipush (pc' := 54) (v := (30 : Int32)) dX0_init_52 rfl (by decide) ?_
  refine J_newI (n := 30) (pc' := 56) dX0_init_54 rfl (j_in 150 (by decide +kernel) rfl) ⟨by decide, rfl, by decide⟩ ⟨Nat.le_of_ble_eq_true rfl, Nat.le_of_ble_eq_true rfl⟩ (by rw [hN6]; omega) ?_
  rw [hN6]
  have hS7 : (j_S (j_nw N6 (1, 30)) b).1 = 10 + 0 := by rw [j_S_nwn (by rw [hN6]; omega)]; exact hS6
  have hM7 : j_N (j_nw N6 (1, 30)) = b + 8 := by rw [j_N_nw, hN6]
  refine J_putFR (b := b + 7) (ty := .array .int) (pc' := 59) dX0_init_56 rfl (⟨by decide, by decide, rfl, Or.inl (j_in 250 (by decide +kernel) rfl)⟩ : j_fln RX0 30 0 7) ⟨rfl, rfl, rfl, rfl, rfl, rfl⟩ (fun _ => ⟨rfl, rfl⟩) (j_in 250 (by decide +kernel) rfl) hS7 (by rw [hM7]; omega) ?_
  obtain ⟨N7, e7⟩ : ∃ X, j_sR (j_nw N6 (1, 30)) b 7 (some (b + 7)) = X := ⟨_, rfl⟩
  rw [e7]
  have hN7 : j_N N7 = b + 8 := by rw [← e7, j_N_sR]; exact hM7
  have hS7 : (j_S N7 b).1 = 10 + 0 := by rw [← e7, j_S_sR]; exact hS7
  show JJ l G md_X0_init (j_rm 4 (8, 254)) (7, 250) (8, 254) (po none (bInit M b)) 59 [(0, .ref b), (1, .ref 10)] [] N7
  refine J_aload_n (pc' := 60) (i := 0) (n := 0) dX0_init_59 rfl rfl rfl ?_
  refine J_iconst (pc' := 61) (v := (4 : Int32)) dX0_init_60 rfl (by decide) ?_
  refine J_newI (n := 4) (pc' := 63) dX0_init_61 rfl (j_in 150 (by decide +kernel) rfl) ⟨by decide, rfl, by decide⟩ ⟨Nat.le_of_ble_eq_true rfl, Nat.le_of_ble_eq_true rfl⟩ (by rw [hN7]; omega) ?_
  rw [hN7]
  have hS8 : (j_S (j_nw N7 (1, 4)) b).1 = 10 + 0 := by rw [j_S_nwn (by rw [hN7]; omega)]; exact hS7
  have hM8 : j_N (j_nw N7 (1, 4)) = b + 9 := by rw [j_N_nw, hN7]
  refine J_putFR (b := b + 8) (ty := .array .int) (pc' := 66) dX0_init_63 rfl (⟨by decide, by decide, rfl, Or.inl (j_in 251 (by decide +kernel) rfl)⟩ : j_fln RX0 33 0 8) ⟨rfl, rfl, rfl, rfl, rfl, rfl⟩ (fun _ => ⟨rfl, rfl⟩) (j_in 251 (by decide +kernel) rfl) hS8 (by rw [hM8]; omega) ?_
  obtain ⟨N8, e8⟩ : ∃ X, j_sR (j_nw N7 (1, 4)) b 8 (some (b + 8)) = X := ⟨_, rfl⟩
  rw [e8]
  have hN8 : j_N N8 = b + 9 := by rw [← e8, j_N_sR]; exact hM8
  have hS8 : (j_S N8 b).1 = 10 + 0 := by rw [← e8, j_S_sR]; exact hS8
  show JJ l G md_X0_init (j_rm 4 (8, 254)) (8, 254) (8, 254) (po none (bInit M b)) 66 [(0, .ref b), (1, .ref 10)] [] N8
  refine J_aload_n (pc' := 67) (i := 0) (n := 0) dX0_init_66 rfl rfl rfl ?_
  refine J_aload_n (pc' := 68) (i := 1) (n := 1) dX0_init_67 rfl rfl rfl ?_
  refine J_putFR (b := 10) (ty := .array (.object "SwimLanes$Plain")) (pc' := 71) dX0_init_68 rfl (⟨by decide, by decide, rfl, Or.inl (j_in 234 (by decide +kernel) rfl)⟩ : j_fln RX0 36 0 0) ⟨rfl, rfl, rfl, rfl, rfl, rfl⟩ (fun _ => ⟨rfl, rfl⟩) (j_in 234 (by decide +kernel) rfl) hS8 (by rw [hN8]; omega) ?_
  have ea : j_sR N8 b 0 (some 10) = bArr M b := by rw [← e8, ← e7, ← e6, ← e5, ← e4, ← e3, ← e2, ← e1]; rfl
  rw [ea]
  have hs : sh_b b (bArr M b).2.2 := bArr_sh hN0 hS0 hb hk
  refine J_aload_n (pc' := 72) (i := 0) (n := 0) dX0_init_71 rfl rfl rfl ?_
  refine J_callV (pc' := 75) (as := []) (rest := []) dX0_init_72 rfl (⟨⟨(j_in 222 (by decide +kernel) rfl), (j_in 224 (by decide +kernel) rfl), (j_in 0 (by decide +kernel) rfl), (j_in 109 (by decide +kernel) rfl)⟩, (j_in 225 (by decide +kernel) rfl), ⟨by decide, by decide, by decide +kernel⟩⟩ : j_lkV RX0 40 md_X0_begin 0) rfl 0 (by decide) rfl (b_o hs) (b_no hs) (c_X0_begin hs (bgM_eq (bArr M b) b)) ⟨Nat.le_of_ble_eq_true rfl, Nat.le_of_ble_eq_true rfl⟩ (Nat.le_of_ble_eq_true rfl) ⟨Nat.le_of_ble_eq_true rfl, Nat.le_of_ble_eq_true rfl⟩ (j_kv ?_)
  exact J_vret rfl dX0_init_75 ⟨rfl, Nat.le_of_ble_eq_true rfl⟩ ⟨rfl, rfl⟩
def k_0 : j_M := j_nw (fun _ _ => 0, fun _ _ => 0, fun _ _ => none, fun _ => (0, 0), 0) (10 + 9, 0)
def k_1 : j_M := j_nw k_0 (5, 2)
def k_2 : j_M := j_sR k_1 0 2 (some 1)
def k_3 : j_M := j_nw k_2 (1, 22)
def k_4 : j_M := j_sR k_3 0 3 (some 2)
def k_5 : j_M := j_nw k_4 (10 + 4, 0)
def k_6 : j_M := j_nw k_5 (1, 4)
def k_7 : j_M := j_sR k_6 3 0 (some 4)
def k_8 : j_M := j_nw k_7 (1, 7)
def k_9 : j_M := j_sR k_8 3 1 (some 5)
def k_10 : j_M := j_nw k_9 (1, 7)
def k_11 : j_M := j_sR k_10 3 2 (some 6)
def k_12 : j_M := j_sR k_11 0 4 (some 3)
def k_13 : j_M := j_nw k_12 (10 + 7, 0)
def k_14 : j_M := j_nw k_13 (4, 150)
def k_15 : j_M := j_sR k_14 7 0 (some 8)
def k_16 : j_M := j_sI k_15 7 1 (0 : Int32)
def k_17 : j_M := j_sI k_16 7 2 (0 : Int32)
def k_18 : j_M := j_sI k_17 7 3 (0 : Int32)
def k_19 : j_M := j_sR k_18 0 5 (some 7)
def k_20 : j_M := j_nw k_19 (2, 10)
def k_21 : j_M := j_sR k_20 0 6 (some 9)
def k_22 : j_M := j_sL k_21 0 7 (0 : Int64)
def k_23 : j_M := j_sL k_22 0 8 (1 : Int64)
def k_24 : j_M := j_sI k_23 0 9 (0 : Int32)
def k_25 : j_M := j_sI k_24 0 10 (0 : Int32)
def k_26 : j_M := j_sI k_25 0 11 (0 : Int32)
def k_27 : j_M := j_nw k_26 (6, 6)
def k_28 : j_M := j_nw k_27 (10 + 3, 0)
def k_29 : j_M := j_sR k_28 10 0 (some 11)
def k_30 : j_M := j_nw k_29 (10 + 2, 0)
def k_31 : j_M := j_sR k_30 10 1 (some 12)
def k_32 : j_M := j_nw k_31 (10 + 5, 0)
def k_33 : j_M := j_sR k_32 10 2 (some 13)
def k_34 : j_M := j_nw k_33 (10 + 8, 0)
def k_35 : j_M := j_sR k_34 10 3 (some 14)
def k_36 : j_M := j_nw k_35 (10 + 1, 0)
def k_37 : j_M := j_sR k_36 10 4 (some 15)
def k_38 : j_M := j_nw k_37 (10 + 6, 0)
def k_39 : j_M := j_sR k_38 10 5 (some 16)
def k_40 : j_M := j_nw k_39 (10 + 0, 0)
noncomputable def k_41 : j_M := bInit k_40 17
noncomputable def k_42 : j_M := j_sR k_41 0 0 (some 17)
noncomputable def k_43 : j_M := j_nw k_42 (10 + 0, 0)
noncomputable def k_44 : j_M := bInit k_43 26
noncomputable def k_45 : j_M := j_sR k_44 0 1 (some 26)
set_option maxHeartbeats 4000000 in
theorem c_X4_init {l : Launch} {G : j_G} : j_Sp l G md_X4_init 2 (3, 18) [.ref 3] k_5 (po none k_11) := by
  refine j_Sp.of (by decide) (Nat.le_of_ble_eq_true rfl) ?_
  show JJ l G md_X4_init (j_rm 2 (3, 18)) (0, 0) (3, 18) (po none k_11) 0 [(0, .ref 3)] [] k_5
  refine J_aload_n (pc' := 1) (i := 0) (n := 0) dX4_init_0 rfl rfl rfl ?_
  refine J_oini (pc' := 4) dX4_init_1 rfl ⟨(j_in 134 (by decide +kernel) rfl), (j_in 125 (by decide +kernel) rfl), (j_in 126 (by decide +kernel) rfl)⟩ ⟨Nat.le_of_ble_eq_true rfl, Nat.le_of_ble_eq_true rfl⟩ ?_
  refine J_aload_n (pc' := 5) (i := 0) (n := 0) dX4_init_4 rfl rfl rfl ?_
  refine J_iconst (pc' := 6) (v := (4 : Int32)) dX4_init_5 rfl (by decide) ?_
  refine J_newI (n := 4) (pc' := 8) dX4_init_6 rfl (j_in 150 (by decide +kernel) rfl) ⟨by decide, rfl, by decide⟩ ⟨Nat.le_of_ble_eq_true rfl, Nat.le_of_ble_eq_true rfl⟩ (Nat.le_of_ble_eq_true rfl) ?_
  show JJ l G md_X4_init (j_rm 2 (3, 18)) (1, 4) (3, 18) (po none k_11) 8 [(0, .ref 3)] [.ref 4, .ref 3] k_6
  refine J_putFR (b := 4) (ty := .array .int) (pc' := 11) dX4_init_8 rfl (⟨by decide, by decide, rfl, Or.inl (j_in 135 (by decide +kernel) rfl)⟩ : j_fln RX4 9 4 0) ⟨rfl, rfl, rfl, rfl, rfl, rfl⟩ (fun _ => ⟨rfl, rfl⟩) (j_in 135 (by decide +kernel) rfl) rfl (Nat.le_of_ble_eq_true rfl) ?_
  show JJ l G md_X4_init (j_rm 2 (3, 18)) (1, 4) (3, 18) (po none k_11) 11 [(0, .ref 3)] [] k_7
  refine J_aload_n (pc' := 12) (i := 0) (n := 0) dX4_init_11 rfl rfl rfl ?_
  refine J_bipush (pc' := 14) (v := (7 : Int32)) dX4_init_12 rfl (by decide) ?_
  refine J_newI (n := 7) (pc' := 16) dX4_init_14 rfl (j_in 150 (by decide +kernel) rfl) ⟨by decide, rfl, by decide⟩ ⟨Nat.le_of_ble_eq_true rfl, Nat.le_of_ble_eq_true rfl⟩ (Nat.le_of_ble_eq_true rfl) ?_
  show JJ l G md_X4_init (j_rm 2 (3, 18)) (2, 11) (3, 18) (po none k_11) 16 [(0, .ref 3)] [.ref 5, .ref 3] k_8
  refine J_putFR (b := 5) (ty := .array .int) (pc' := 19) dX4_init_16 rfl (⟨by decide, by decide, rfl, Or.inl (j_in 136 (by decide +kernel) rfl)⟩ : j_fln RX4 15 4 1) ⟨rfl, rfl, rfl, rfl, rfl, rfl⟩ (fun _ => ⟨rfl, rfl⟩) (j_in 136 (by decide +kernel) rfl) rfl (Nat.le_of_ble_eq_true rfl) ?_
  show JJ l G md_X4_init (j_rm 2 (3, 18)) (2, 11) (3, 18) (po none k_11) 19 [(0, .ref 3)] [] k_9
  refine J_aload_n (pc' := 20) (i := 0) (n := 0) dX4_init_19 rfl rfl rfl ?_
  refine J_bipush (pc' := 22) (v := (7 : Int32)) dX4_init_20 rfl (by decide) ?_
  refine J_newI (n := 7) (pc' := 24) dX4_init_22 rfl (j_in 150 (by decide +kernel) rfl) ⟨by decide, rfl, by decide⟩ ⟨Nat.le_of_ble_eq_true rfl, Nat.le_of_ble_eq_true rfl⟩ (Nat.le_of_ble_eq_true rfl) ?_
  show JJ l G md_X4_init (j_rm 2 (3, 18)) (3, 18) (3, 18) (po none k_11) 24 [(0, .ref 3)] [.ref 6, .ref 3] k_10
  refine J_putFR (b := 6) (ty := .array .int) (pc' := 27) dX4_init_24 rfl (⟨by decide, by decide, rfl, Or.inl (j_in 137 (by decide +kernel) rfl)⟩ : j_fln RX4 18 4 2) ⟨rfl, rfl, rfl, rfl, rfl, rfl⟩ (fun _ => ⟨rfl, rfl⟩) (j_in 137 (by decide +kernel) rfl) rfl (Nat.le_of_ble_eq_true rfl) ?_
  show JJ l G md_X4_init (j_rm 2 (3, 18)) (3, 18) (3, 18) (po none k_11) 27 [(0, .ref 3)] [] k_11
  exact J_vret rfl dX4_init_27 ⟨rfl, Nat.le_of_ble_eq_true rfl⟩ ⟨rfl, rfl⟩
set_option maxHeartbeats 4000000 in
theorem c_X7_init {l : Launch} {G : j_G} : j_Sp l G md_X7_init 2 (1, 150) [.ref 7] k_13 (po none k_18) := by
  refine j_Sp.of (by decide) (Nat.le_of_ble_eq_true rfl) ?_
  show JJ l G md_X7_init (j_rm 2 (1, 150)) (0, 0) (1, 150) (po none k_18) 0 [(0, .ref 7)] [] k_13
  refine J_aload_n (pc' := 1) (i := 0) (n := 0) dX7_init_0 rfl rfl rfl ?_
  refine J_oini (pc' := 4) dX7_init_1 rfl ⟨(j_in 156 (by decide +kernel) rfl), (j_in 125 (by decide +kernel) rfl), (j_in 126 (by decide +kernel) rfl)⟩ ⟨Nat.le_of_ble_eq_true rfl, Nat.le_of_ble_eq_true rfl⟩ ?_
  refine J_aload_n (pc' := 5) (i := 0) (n := 0) dX7_init_4 rfl rfl rfl ?_
  refine J_sipush (pc' := 8) (v := (150 : Int32)) dX7_init_5 rfl (by decide) ?_
  refine J_newC (n := 150) (pc' := 10) dX7_init_8 rfl (j_in 172 (by decide +kernel) rfl) ⟨by decide, rfl, by decide⟩ ⟨Nat.le_of_ble_eq_true rfl, Nat.le_of_ble_eq_true rfl⟩ (Nat.le_of_ble_eq_true rfl) ?_
  show JJ l G md_X7_init (j_rm 2 (1, 150)) (1, 150) (1, 150) (po none k_18) 10 [(0, .ref 7)] [.ref 8, .ref 7] k_14
  refine J_putFR (b := 8) (ty := .array .char) (pc' := 13) dX7_init_10 rfl (⟨by decide, by decide, rfl, Or.inl (j_in 157 (by decide +kernel) rfl)⟩ : j_fln RX7 11 7 0) ⟨rfl, rfl, rfl, rfl, rfl, rfl⟩ (fun _ => ⟨rfl, rfl⟩) (j_in 157 (by decide +kernel) rfl) rfl (Nat.le_of_ble_eq_true rfl) ?_
  show JJ l G md_X7_init (j_rm 2 (1, 150)) (1, 150) (1, 150) (po none k_18) 13 [(0, .ref 7)] [] k_15
  refine J_aload_n (pc' := 14) (i := 0) (n := 0) dX7_init_13 rfl rfl rfl ?_
  refine J_iconst (pc' := 15) (v := (0 : Int32)) dX7_init_14 rfl (by decide) ?_
  refine J_putI (pc' := 18) dX7_init_15 rfl (⟨by decide, by decide, rfl, Or.inl (j_in 158 (by decide +kernel) rfl)⟩ : j_fln RX7 15 7 1) ⟨rfl, rfl, rfl⟩ rfl (Nat.le_of_ble_eq_true rfl) ?_
  show JJ l G md_X7_init (j_rm 2 (1, 150)) (1, 150) (1, 150) (po none k_18) 18 [(0, .ref 7)] [] k_16
  refine J_aload_n (pc' := 19) (i := 0) (n := 0) dX7_init_18 rfl rfl rfl ?_
  refine J_iconst (pc' := 20) (v := (0 : Int32)) dX7_init_19 rfl (by decide) ?_
  refine J_putI (pc' := 23) dX7_init_20 rfl (⟨by decide, by decide, rfl, Or.inl (j_in 160 (by decide +kernel) rfl)⟩ : j_fln RX7 19 7 2) ⟨rfl, rfl, rfl⟩ rfl (Nat.le_of_ble_eq_true rfl) ?_
  show JJ l G md_X7_init (j_rm 2 (1, 150)) (1, 150) (1, 150) (po none k_18) 23 [(0, .ref 7)] [] k_17
  refine J_aload_n (pc' := 24) (i := 0) (n := 0) dX7_init_23 rfl rfl rfl ?_
  refine J_iconst (pc' := 25) (v := (0 : Int32)) dX7_init_24 rfl (by decide) ?_
  refine J_putI (pc' := 28) dX7_init_25 rfl (⟨by decide, by decide, rfl, Or.inl (j_in 162 (by decide +kernel) rfl)⟩ : j_fln RX7 22 7 3) ⟨rfl, rfl, rfl⟩ rfl (Nat.le_of_ble_eq_true rfl) ?_
  show JJ l G md_X7_init (j_rm 2 (1, 150)) (1, 150) (1, 150) (po none k_18) 28 [(0, .ref 7)] [] k_18
  exact J_vret rfl dX7_init_28 ⟨rfl, Nat.le_of_ble_eq_true rfl⟩ ⟨rfl, rfl⟩
set_option maxHeartbeats 4000000 in
theorem c_X9_init {l : Launch} {G : j_G} : j_Sp l G md_X9_init 6 (34, 748) [.ref 0] k_0 (po none k_45) := by
  refine j_Sp.of (by decide) (Nat.le_of_ble_eq_true rfl) ?_
  show JJ l G md_X9_init (j_rm 6 (34, 748)) (0, 0) (34, 748) (po none k_45) 0 [(0, .ref 0)] [] k_0
  refine J_aload_n (pc' := 1) (i := 0) (n := 0) dX9_init_0 rfl rfl rfl ?_
  refine J_oini (pc' := 4) dX9_init_1 rfl ⟨(j_in 124 (by decide +kernel) rfl), (j_in 125 (by decide +kernel) rfl), (j_in 126 (by decide +kernel) rfl)⟩ ⟨Nat.le_of_ble_eq_true rfl, Nat.le_of_ble_eq_true rfl⟩ ?_
  refine J_aload_n (pc' := 5) (i := 0) (n := 0) dX9_init_4 rfl rfl rfl ?_
  refine J_iconst (pc' := 6) (v := (2 : Int32)) dX9_init_5 rfl (by decide) ?_
  refine J_newQ5 (n := 2) (pc' := 9) dX9_init_6 rfl (j_in 127 (by decide +kernel) rfl) ⟨by decide, rfl, by decide⟩ ⟨Nat.le_of_ble_eq_true rfl, Nat.le_of_ble_eq_true rfl⟩ (Nat.le_of_ble_eq_true rfl) ?_
  show JJ l G md_X9_init (j_rm 6 (34, 748)) (1, 2) (34, 748) (po none k_45) 9 [(0, .ref 0)] [.ref 1, .ref 0] k_1
  refine J_putFR (b := 1) (ty := .array (.object "SwimLanes$Bath")) (pc' := 12) dX9_init_9 rfl (⟨by decide, by decide, rfl, Or.inl (j_in 288 (by decide +kernel) rfl)⟩ : j_fln RX9 11 9 2) ⟨rfl, rfl, rfl, rfl, rfl, rfl⟩ (fun _ => ⟨rfl, rfl⟩) (j_in 288 (by decide +kernel) rfl) rfl (Nat.le_of_ble_eq_true rfl) ?_
  show JJ l G md_X9_init (j_rm 6 (34, 748)) (1, 2) (34, 748) (po none k_45) 12 [(0, .ref 0)] [] k_2
  refine J_aload_n (pc' := 13) (i := 0) (n := 0) dX9_init_12 rfl rfl rfl ?_
  refine J_bipush (pc' := 15) (v := (22 : Int32)) dX9_init_13 rfl (by decide) ?_
  refine J_newI (n := 22) (pc' := 17) dX9_init_15 rfl (j_in 150 (by decide +kernel) rfl) ⟨by decide, rfl, by decide⟩ ⟨Nat.le_of_ble_eq_true rfl, Nat.le_of_ble_eq_true rfl⟩ (Nat.le_of_ble_eq_true rfl) ?_
  show JJ l G md_X9_init (j_rm 6 (34, 748)) (2, 24) (34, 748) (po none k_45) 17 [(0, .ref 0)] [.ref 2, .ref 0] k_3
  refine J_putFR (b := 2) (ty := .array .int) (pc' := 20) dX9_init_17 rfl (⟨by decide, by decide, rfl, Or.inl (j_in 289 (by decide +kernel) rfl)⟩ : j_fln RX9 15 9 3) ⟨rfl, rfl, rfl, rfl, rfl, rfl⟩ (fun _ => ⟨rfl, rfl⟩) (j_in 289 (by decide +kernel) rfl) rfl (Nat.le_of_ble_eq_true rfl) ?_
  show JJ l G md_X9_init (j_rm 6 (34, 748)) (2, 24) (34, 748) (po none k_45) 20 [(0, .ref 0)] [] k_4
  refine J_aload_n (pc' := 21) (i := 0) (n := 0) dX9_init_20 rfl rfl rfl ?_
  refine J_new (ci := 4) (pc' := 24) dX9_init_21 rfl (by decide) j_dv4 ⟨(j_in 129 (by decide +kernel) rfl), (j_in 130 (by decide +kernel) rfl), (j_in 101 (by decide +kernel) rfl)⟩ ⟨Nat.le_of_ble_eq_true rfl, Nat.le_of_ble_eq_true rfl⟩ (Nat.le_of_ble_eq_true rfl) ?_
  show JJ l G md_X9_init (j_rm 6 (34, 748)) (3, 28) (34, 748) (po none k_45) 24 [(0, .ref 0)] [.ref 3, .ref 0] k_5
  refine J_dup (pc' := 25) dX9_init_24 rfl rfl ?_
  refine J_callIN (pc' := 28) (md' := md_X4_init) (d' := 2) (mcs' := (3, 18)) (as := []) (rest := [.ref 3, .ref 0]) (b := 3) dX9_init_25 rfl (⟨⟨j_inN 131 (by decide +kernel), (j_in 132 (by decide +kernel) rfl), (j_in 101 (by decide +kernel) rfl), rfl, rfl⟩, (j_in 133 (by decide +kernel) rfl), ⟨by decide, by decide, by decide +kernel⟩⟩ : j_lkIN RX9 21 md_X4_init 0) rfl c_X4_init ⟨Nat.le_of_ble_eq_true rfl, Nat.le_of_ble_eq_true rfl⟩ (Nat.le_of_ble_eq_true rfl) ⟨Nat.le_of_ble_eq_true rfl, Nat.le_of_ble_eq_true rfl⟩ (j_kn ?_)
  show JJ l G md_X9_init (j_rm 6 (34, 748)) (6, 46) (34, 748) (po none k_45) 28 [(0, .ref 0)] [.ref 3, .ref 0] k_11
  refine J_putFR (b := 3) (ty := .object "SwimLanes$Plan") (pc' := 31) dX9_init_28 rfl (⟨by decide, by decide, rfl, Or.inl (j_in 290 (by decide +kernel) rfl)⟩ : j_fln RX9 22 9 4) ⟨rfl, rfl, rfl, rfl, rfl, rfl⟩ (fun _ => ⟨rfl, rfl⟩) (j_in 290 (by decide +kernel) rfl) rfl (Nat.le_of_ble_eq_true rfl) ?_
  show JJ l G md_X9_init (j_rm 6 (34, 748)) (6, 46) (34, 748) (po none k_45) 31 [(0, .ref 0)] [] k_12
  refine J_aload_n (pc' := 32) (i := 0) (n := 0) dX9_init_31 rfl rfl rfl ?_
  refine J_new (ci := 7) (pc' := 35) dX9_init_32 rfl (by decide) j_dv7 ⟨(j_in 151 (by decide +kernel) rfl), (j_in 152 (by decide +kernel) rfl), (j_in 102 (by decide +kernel) rfl)⟩ ⟨Nat.le_of_ble_eq_true rfl, Nat.le_of_ble_eq_true rfl⟩ (Nat.le_of_ble_eq_true rfl) ?_
  show JJ l G md_X9_init (j_rm 6 (34, 748)) (7, 50) (34, 748) (po none k_45) 35 [(0, .ref 0)] [.ref 7, .ref 0] k_13
  refine J_dup (pc' := 36) dX9_init_35 rfl rfl ?_
  refine J_callIN (pc' := 39) (md' := md_X7_init) (d' := 2) (mcs' := (1, 150)) (as := []) (rest := [.ref 7, .ref 0]) (b := 7) dX9_init_36 rfl (⟨⟨j_inN 153 (by decide +kernel), (j_in 154 (by decide +kernel) rfl), (j_in 102 (by decide +kernel) rfl), rfl, rfl⟩, (j_in 155 (by decide +kernel) rfl), ⟨by decide, by decide, by decide +kernel⟩⟩ : j_lkIN RX9 28 md_X7_init 0) rfl c_X7_init ⟨Nat.le_of_ble_eq_true rfl, Nat.le_of_ble_eq_true rfl⟩ (Nat.le_of_ble_eq_true rfl) ⟨Nat.le_of_ble_eq_true rfl, Nat.le_of_ble_eq_true rfl⟩ (j_kn ?_)
  show JJ l G md_X9_init (j_rm 6 (34, 748)) (8, 200) (34, 748) (po none k_45) 39 [(0, .ref 0)] [.ref 7, .ref 0] k_18
  refine J_putFR (b := 7) (ty := .object "SwimLanes$Text") (pc' := 42) dX9_init_39 rfl (⟨by decide, by decide, rfl, Or.inl (j_in 291 (by decide +kernel) rfl)⟩ : j_fln RX9 29 9 5) ⟨rfl, rfl, rfl, rfl, rfl, rfl⟩ (fun _ => ⟨rfl, rfl⟩) (j_in 291 (by decide +kernel) rfl) rfl (Nat.le_of_ble_eq_true rfl) ?_
  show JJ l G md_X9_init (j_rm 6 (34, 748)) (8, 200) (34, 748) (po none k_45) 42 [(0, .ref 0)] [] k_19
  refine J_aload_n (pc' := 43) (i := 0) (n := 0) dX9_init_42 rfl rfl rfl ?_
  refine J_bipush (pc' := 45) (v := (10 : Int32)) dX9_init_43 rfl (by decide) ?_
  refine J_newL (n := 10) (pc' := 47) dX9_init_45 rfl (j_in 181 (by decide +kernel) rfl) ⟨by decide, rfl, by decide⟩ ⟨Nat.le_of_ble_eq_true rfl, Nat.le_of_ble_eq_true rfl⟩ (Nat.le_of_ble_eq_true rfl) ?_
  show JJ l G md_X9_init (j_rm 6 (34, 748)) (9, 210) (34, 748) (po none k_45) 47 [(0, .ref 0)] [.ref 9, .ref 0] k_20
  refine J_putFR (b := 9) (ty := .array .long) (pc' := 50) dX9_init_47 rfl (⟨by decide, by decide, rfl, Or.inl (j_in 292 (by decide +kernel) rfl)⟩ : j_fln RX9 33 9 6) ⟨rfl, rfl, rfl, rfl, rfl, rfl⟩ (fun _ => ⟨rfl, rfl⟩) (j_in 292 (by decide +kernel) rfl) rfl (Nat.le_of_ble_eq_true rfl) ?_
  show JJ l G md_X9_init (j_rm 6 (34, 748)) (9, 210) (34, 748) (po none k_45) 50 [(0, .ref 0)] [] k_21
  refine J_aload_n (pc' := 51) (i := 0) (n := 0) dX9_init_50 rfl rfl rfl ?_
  refine J_lconst (pc' := 52) (v := (0 : Int64)) dX9_init_51 rfl rfl ?_
  refine J_putL (pc' := 55) dX9_init_52 rfl (⟨by decide, by decide, rfl, Or.inl (j_in 293 (by decide +kernel) rfl)⟩ : j_fln RX9 37 9 7) ⟨rfl, rfl, rfl⟩ rfl (Nat.le_of_ble_eq_true rfl) ?_
  show JJ l G md_X9_init (j_rm 6 (34, 748)) (9, 210) (34, 748) (po none k_45) 55 [(0, .ref 0)] [] k_22
  refine J_aload_n (pc' := 56) (i := 0) (n := 0) dX9_init_55 rfl rfl rfl ?_
  refine J_lconst (pc' := 57) (v := (1 : Int64)) dX9_init_56 rfl rfl ?_
  refine J_putL (pc' := 60) dX9_init_57 rfl (⟨by decide, by decide, rfl, Or.inl (j_in 294 (by decide +kernel) rfl)⟩ : j_fln RX9 41 9 8) ⟨rfl, rfl, rfl⟩ rfl (Nat.le_of_ble_eq_true rfl) ?_
  show JJ l G md_X9_init (j_rm 6 (34, 748)) (9, 210) (34, 748) (po none k_45) 60 [(0, .ref 0)] [] k_23
  refine J_aload_n (pc' := 61) (i := 0) (n := 0) dX9_init_60 rfl rfl rfl ?_
  refine J_iconst (pc' := 62) (v := (0 : Int32)) dX9_init_61 rfl (by decide) ?_
  refine J_putI (pc' := 65) dX9_init_62 rfl (⟨by decide, by decide, rfl, Or.inl (j_in 295 (by decide +kernel) rfl)⟩ : j_fln RX9 44 9 9) ⟨rfl, rfl, rfl⟩ rfl (Nat.le_of_ble_eq_true rfl) ?_
  show JJ l G md_X9_init (j_rm 6 (34, 748)) (9, 210) (34, 748) (po none k_45) 65 [(0, .ref 0)] [] k_24
  refine J_aload_n (pc' := 66) (i := 0) (n := 0) dX9_init_65 rfl rfl rfl ?_
  refine J_iconst (pc' := 67) (v := (0 : Int32)) dX9_init_66 rfl (by decide) ?_
  refine J_putI (pc' := 70) dX9_init_67 rfl (⟨by decide, by decide, rfl, Or.inl (j_in 296 (by decide +kernel) rfl)⟩ : j_fln RX9 48 9 10) ⟨rfl, rfl, rfl⟩ rfl (Nat.le_of_ble_eq_true rfl) ?_
  show JJ l G md_X9_init (j_rm 6 (34, 748)) (9, 210) (34, 748) (po none k_45) 70 [(0, .ref 0)] [] k_25
  refine J_aload_n (pc' := 71) (i := 0) (n := 0) dX9_init_70 rfl rfl rfl ?_
  refine J_iconst (pc' := 72) (v := (0 : Int32)) dX9_init_71 rfl (by decide) ?_
  refine J_putI (pc' := 75) dX9_init_72 rfl (⟨by decide, by decide, rfl, Or.inl (j_in 297 (by decide +kernel) rfl)⟩ : j_fln RX9 51 9 11) ⟨rfl, rfl, rfl⟩ rfl (Nat.le_of_ble_eq_true rfl) ?_
  show JJ l G md_X9_init (j_rm 6 (34, 748)) (9, 210) (34, 748) (po none k_45) 75 [(0, .ref 0)] [] k_26
  refine J_bipush (pc' := 77) (v := (6 : Int32)) dX9_init_75 rfl (by decide) ?_
  refine J_newQ6 (n := 6) (pc' := 80) dX9_init_77 rfl (j_in 173 (by decide +kernel) rfl) ⟨by decide, rfl, by decide⟩ ⟨Nat.le_of_ble_eq_true rfl, Nat.le_of_ble_eq_true rfl⟩ (Nat.le_of_ble_eq_true rfl) ?_
  show JJ l G md_X9_init (j_rm 6 (34, 748)) (10, 216) (34, 748) (po none k_45) 80 [(0, .ref 0)] [.ref 10] k_27
  refine J_dup (pc' := 81) dX9_init_80 rfl rfl ?_
  refine J_iconst (pc' := 82) (v := (0 : Int32)) dX9_init_81 rfl (by decide) ?_
  refine J_new (ci := 3) (pc' := 85) dX9_init_82 rfl (by decide) (j_dvn rfl) ⟨(j_in 173 (by decide +kernel) rfl), (j_in 175 (by decide +kernel) rfl), (j_in 103 (by decide +kernel) rfl)⟩ ⟨Nat.le_of_ble_eq_true rfl, Nat.le_of_ble_eq_true rfl⟩ (Nat.le_of_ble_eq_true rfl) ?_
  show JJ l G md_X9_init (j_rm 6 (34, 748)) (11, 216) (34, 748) (po none k_45) 85 [(0, .ref 0)] [.ref 11, .int (0 : Int32), .ref 10, .ref 10] k_28
  refine J_dup (pc' := 86) dX9_init_85 rfl rfl ?_
  refine J_callIN (pc' := 89) (md' := md_X3_init) (d' := 2) (mcs' := (0, 0)) (as := []) (rest := [.ref 11, .int (0 : Int32), .ref 10, .ref 10]) (b := 11) dX9_init_86 rfl (⟨⟨j_inN 176 (by decide +kernel), (j_in 177 (by decide +kernel) rfl), (j_in 103 (by decide +kernel) rfl), rfl, rfl⟩, (j_in 178 (by decide +kernel) rfl), ⟨by decide, by decide, by decide +kernel⟩⟩ : j_lkIN RX9 56 md_X3_init 0) rfl (c_X3_init (M := k_28) (b := 11)) ⟨Nat.le_of_ble_eq_true rfl, Nat.le_of_ble_eq_true rfl⟩ (Nat.le_of_ble_eq_true rfl) ⟨Nat.le_of_ble_eq_true rfl, Nat.le_of_ble_eq_true rfl⟩ (j_kn ?_)
  show JJ l G md_X9_init (j_rm 6 (34, 748)) (11, 216) (34, 748) (po none k_45) 89 [(0, .ref 0)] [.ref 11, .int (0 : Int32), .ref 10, .ref 10] k_28
  refine J_aast6p (pc' := 90) dX9_init_89 rfl (n := 6) rfl (Nat.le_of_ble_eq_true rfl) (by unfold vp_in; decide) rfl (Nat.le_of_ble_eq_true rfl) ?_
  show JJ l G md_X9_init (j_rm 6 (34, 748)) (11, 216) (34, 748) (po none k_45) 90 [(0, .ref 0)] [.ref 10] k_29
  refine J_dup (pc' := 91) dX9_init_90 rfl rfl ?_
  refine J_iconst (pc' := 92) (v := (1 : Int32)) dX9_init_91 rfl (by decide) ?_
  refine J_new (ci := 2) (pc' := 95) dX9_init_92 rfl (by decide) (j_dvn rfl) ⟨(j_in 182 (by decide +kernel) rfl), (j_in 183 (by decide +kernel) rfl), (j_in 104 (by decide +kernel) rfl)⟩ ⟨Nat.le_of_ble_eq_true rfl, Nat.le_of_ble_eq_true rfl⟩ (Nat.le_of_ble_eq_true rfl) ?_
  show JJ l G md_X9_init (j_rm 6 (34, 748)) (12, 216) (34, 748) (po none k_45) 95 [(0, .ref 0)] [.ref 12, .int (1 : Int32), .ref 10, .ref 10] k_30
  refine J_dup (pc' := 96) dX9_init_95 rfl rfl ?_
  refine J_callIN (pc' := 99) (md' := md_X2_init) (d' := 3) (mcs' := (0, 0)) (as := []) (rest := [.ref 12, .int (1 : Int32), .ref 10, .ref 10]) (b := 12) dX9_init_96 rfl (⟨⟨j_inN 184 (by decide +kernel), (j_in 185 (by decide +kernel) rfl), (j_in 104 (by decide +kernel) rfl), rfl, rfl⟩, (j_in 186 (by decide +kernel) rfl), ⟨by decide, by decide, by decide +kernel⟩⟩ : j_lkIN RX9 59 md_X2_init 0) rfl (c_X2_init (M := k_30) (b := 12)) ⟨Nat.le_of_ble_eq_true rfl, Nat.le_of_ble_eq_true rfl⟩ (Nat.le_of_ble_eq_true rfl) ⟨Nat.le_of_ble_eq_true rfl, Nat.le_of_ble_eq_true rfl⟩ (j_kn ?_)
  show JJ l G md_X9_init (j_rm 6 (34, 748)) (12, 216) (34, 748) (po none k_45) 99 [(0, .ref 0)] [.ref 12, .int (1 : Int32), .ref 10, .ref 10] k_30
  refine J_aast6 2 (by decide) (pc' := 100) dX9_init_99 rfl (j_inN 1317 (by decide +kernel)) (n := 6) rfl (Nat.le_of_ble_eq_true rfl) (by unfold vp_in; decide) rfl (Nat.le_of_ble_eq_true rfl) ?_
  show JJ l G md_X9_init (j_rm 6 (34, 748)) (12, 216) (34, 748) (po none k_45) 100 [(0, .ref 0)] [.ref 10] k_31
  refine J_dup (pc' := 101) dX9_init_100 rfl rfl ?_
  refine J_iconst (pc' := 102) (v := (2 : Int32)) dX9_init_101 rfl (by decide) ?_
  refine J_new (ci := 5) (pc' := 105) dX9_init_102 rfl (by decide) (j_dvn rfl) ⟨(j_in 189 (by decide +kernel) rfl), (j_in 190 (by decide +kernel) rfl), (j_in 105 (by decide +kernel) rfl)⟩ ⟨Nat.le_of_ble_eq_true rfl, Nat.le_of_ble_eq_true rfl⟩ (Nat.le_of_ble_eq_true rfl) ?_
  show JJ l G md_X9_init (j_rm 6 (34, 748)) (13, 216) (34, 748) (po none k_45) 105 [(0, .ref 0)] [.ref 13, .int (2 : Int32), .ref 10, .ref 10] k_32
  refine J_dup (pc' := 106) dX9_init_105 rfl rfl ?_
  refine J_callIN (pc' := 109) (md' := md_X5_init) (d' := 3) (mcs' := (0, 0)) (as := []) (rest := [.ref 13, .int (2 : Int32), .ref 10, .ref 10]) (b := 13) dX9_init_106 rfl (⟨⟨j_inN 191 (by decide +kernel), (j_in 192 (by decide +kernel) rfl), (j_in 105 (by decide +kernel) rfl), rfl, rfl⟩, (j_in 193 (by decide +kernel) rfl), ⟨by decide, by decide, by decide +kernel⟩⟩ : j_lkIN RX9 62 md_X5_init 0) rfl (c_X5_init (M := k_32) (b := 13)) ⟨Nat.le_of_ble_eq_true rfl, Nat.le_of_ble_eq_true rfl⟩ (Nat.le_of_ble_eq_true rfl) ⟨Nat.le_of_ble_eq_true rfl, Nat.le_of_ble_eq_true rfl⟩ (j_kn ?_)
  show JJ l G md_X9_init (j_rm 6 (34, 748)) (13, 216) (34, 748) (po none k_45) 109 [(0, .ref 0)] [.ref 13, .int (2 : Int32), .ref 10, .ref 10] k_32
  refine J_aast6 5 (by decide) (pc' := 110) dX9_init_109 rfl (j_inN 1318 (by decide +kernel)) (n := 6) rfl (Nat.le_of_ble_eq_true rfl) (by unfold vp_in; decide) rfl (Nat.le_of_ble_eq_true rfl) ?_
  show JJ l G md_X9_init (j_rm 6 (34, 748)) (13, 216) (34, 748) (po none k_45) 110 [(0, .ref 0)] [.ref 10] k_33
  refine J_dup (pc' := 111) dX9_init_110 rfl rfl ?_
  refine J_iconst (pc' := 112) (v := (3 : Int32)) dX9_init_111 rfl (by decide) ?_
  refine J_new (ci := 8) (pc' := 115) dX9_init_112 rfl (by decide) (j_dvn rfl) ⟨(j_in 196 (by decide +kernel) rfl), (j_in 197 (by decide +kernel) rfl), (j_in 106 (by decide +kernel) rfl)⟩ ⟨Nat.le_of_ble_eq_true rfl, Nat.le_of_ble_eq_true rfl⟩ (Nat.le_of_ble_eq_true rfl) ?_
  show JJ l G md_X9_init (j_rm 6 (34, 748)) (14, 216) (34, 748) (po none k_45) 115 [(0, .ref 0)] [.ref 14, .int (3 : Int32), .ref 10, .ref 10] k_34
  refine J_dup (pc' := 116) dX9_init_115 rfl rfl ?_
  refine J_callIN (pc' := 119) (md' := md_X8_init) (d' := 3) (mcs' := (0, 0)) (as := []) (rest := [.ref 14, .int (3 : Int32), .ref 10, .ref 10]) (b := 14) dX9_init_116 rfl (⟨⟨j_inN 198 (by decide +kernel), (j_in 199 (by decide +kernel) rfl), (j_in 106 (by decide +kernel) rfl), rfl, rfl⟩, (j_in 200 (by decide +kernel) rfl), ⟨by decide, by decide, by decide +kernel⟩⟩ : j_lkIN RX9 65 md_X8_init 0) rfl (c_X8_init (M := k_34) (b := 14)) ⟨Nat.le_of_ble_eq_true rfl, Nat.le_of_ble_eq_true rfl⟩ (Nat.le_of_ble_eq_true rfl) ⟨Nat.le_of_ble_eq_true rfl, Nat.le_of_ble_eq_true rfl⟩ (j_kn ?_)
  show JJ l G md_X9_init (j_rm 6 (34, 748)) (14, 216) (34, 748) (po none k_45) 119 [(0, .ref 0)] [.ref 14, .int (3 : Int32), .ref 10, .ref 10] k_34
  refine J_aast6 8 (by decide) (pc' := 120) dX9_init_119 rfl (j_inN 1319 (by decide +kernel)) (n := 6) rfl (Nat.le_of_ble_eq_true rfl) (by unfold vp_in; decide) rfl (Nat.le_of_ble_eq_true rfl) ?_
  show JJ l G md_X9_init (j_rm 6 (34, 748)) (14, 216) (34, 748) (po none k_45) 120 [(0, .ref 0)] [.ref 10] k_35
  refine J_dup (pc' := 121) dX9_init_120 rfl rfl ?_
  refine J_iconst (pc' := 122) (v := (4 : Int32)) dX9_init_121 rfl (by decide) ?_
  refine J_new (ci := 1) (pc' := 125) dX9_init_122 rfl (by decide) (j_dvn rfl) ⟨(j_in 203 (by decide +kernel) rfl), (j_in 204 (by decide +kernel) rfl), (j_in 107 (by decide +kernel) rfl)⟩ ⟨Nat.le_of_ble_eq_true rfl, Nat.le_of_ble_eq_true rfl⟩ (Nat.le_of_ble_eq_true rfl) ?_
  show JJ l G md_X9_init (j_rm 6 (34, 748)) (15, 216) (34, 748) (po none k_45) 125 [(0, .ref 0)] [.ref 15, .int (4 : Int32), .ref 10, .ref 10] k_36
  refine J_dup (pc' := 126) dX9_init_125 rfl rfl ?_
  refine J_callIN (pc' := 129) (md' := md_X1_init) (d' := 4) (mcs' := (0, 0)) (as := []) (rest := [.ref 15, .int (4 : Int32), .ref 10, .ref 10]) (b := 15) dX9_init_126 rfl (⟨⟨j_inN 205 (by decide +kernel), (j_in 206 (by decide +kernel) rfl), (j_in 107 (by decide +kernel) rfl), rfl, rfl⟩, (j_in 207 (by decide +kernel) rfl), ⟨by decide, by decide, by decide +kernel⟩⟩ : j_lkIN RX9 68 md_X1_init 0) rfl (c_X1_init (M := k_36) (b := 15)) ⟨Nat.le_of_ble_eq_true rfl, Nat.le_of_ble_eq_true rfl⟩ (Nat.le_of_ble_eq_true rfl) ⟨Nat.le_of_ble_eq_true rfl, Nat.le_of_ble_eq_true rfl⟩ (j_kn ?_)
  show JJ l G md_X9_init (j_rm 6 (34, 748)) (15, 216) (34, 748) (po none k_45) 129 [(0, .ref 0)] [.ref 15, .int (4 : Int32), .ref 10, .ref 10] k_36
  refine J_aast6 1 (by decide) (pc' := 130) dX9_init_129 rfl (j_inN 1320 (by decide +kernel)) (n := 6) rfl (Nat.le_of_ble_eq_true rfl) (by unfold vp_in; decide) rfl (Nat.le_of_ble_eq_true rfl) ?_
  show JJ l G md_X9_init (j_rm 6 (34, 748)) (15, 216) (34, 748) (po none k_45) 130 [(0, .ref 0)] [.ref 10] k_37
  refine J_dup (pc' := 131) dX9_init_130 rfl rfl ?_
  refine J_iconst (pc' := 132) (v := (5 : Int32)) dX9_init_131 rfl (by decide) ?_
  refine J_new (ci := 6) (pc' := 135) dX9_init_132 rfl (by decide) (j_dvn rfl) ⟨(j_in 210 (by decide +kernel) rfl), (j_in 211 (by decide +kernel) rfl), (j_in 108 (by decide +kernel) rfl)⟩ ⟨Nat.le_of_ble_eq_true rfl, Nat.le_of_ble_eq_true rfl⟩ (Nat.le_of_ble_eq_true rfl) ?_
  show JJ l G md_X9_init (j_rm 6 (34, 748)) (16, 216) (34, 748) (po none k_45) 135 [(0, .ref 0)] [.ref 16, .int (5 : Int32), .ref 10, .ref 10] k_38
  refine J_dup (pc' := 136) dX9_init_135 rfl rfl ?_
  refine J_callIN (pc' := 139) (md' := md_X6_init) (d' := 4) (mcs' := (0, 0)) (as := []) (rest := [.ref 16, .int (5 : Int32), .ref 10, .ref 10]) (b := 16) dX9_init_136 rfl (⟨⟨j_inN 212 (by decide +kernel), (j_in 213 (by decide +kernel) rfl), (j_in 108 (by decide +kernel) rfl), rfl, rfl⟩, (j_in 214 (by decide +kernel) rfl), ⟨by decide, by decide, by decide +kernel⟩⟩ : j_lkIN RX9 71 md_X6_init 0) rfl (c_X6_init (M := k_38) (b := 16)) ⟨Nat.le_of_ble_eq_true rfl, Nat.le_of_ble_eq_true rfl⟩ (Nat.le_of_ble_eq_true rfl) ⟨Nat.le_of_ble_eq_true rfl, Nat.le_of_ble_eq_true rfl⟩ (j_kn ?_)
  show JJ l G md_X9_init (j_rm 6 (34, 748)) (16, 216) (34, 748) (po none k_45) 139 [(0, .ref 0)] [.ref 16, .int (5 : Int32), .ref 10, .ref 10] k_38
  refine J_aast6 6 (by decide) (pc' := 140) dX9_init_139 rfl (j_inN 1321 (by decide +kernel)) (n := 6) rfl (Nat.le_of_ble_eq_true rfl) (by unfold vp_in; decide) rfl (Nat.le_of_ble_eq_true rfl) ?_
  show JJ l G md_X9_init (j_rm 6 (34, 748)) (16, 216) (34, 748) (po none k_45) 140 [(0, .ref 0)] [.ref 10] k_39
  refine J_astore_n (pc' := 141) (i := 1) (lv' := [(1, .ref 10), (0, .ref 0)]) dX9_init_140 rfl rfl (by decide) rfl ?_
  refine J_aload_n (pc' := 142) (i := 0) (n := 1) dX9_init_141 rfl rfl rfl ?_
  refine J_new (ci := 0) (pc' := 145) dX9_init_142 rfl (by decide) j_dv0 ⟨(j_in 127 (by decide +kernel) rfl), (j_in 217 (by decide +kernel) rfl), (j_in 109 (by decide +kernel) rfl)⟩ ⟨Nat.le_of_ble_eq_true rfl, Nat.le_of_ble_eq_true rfl⟩ (Nat.le_of_ble_eq_true rfl) ?_
  show JJ l G md_X9_init (j_rm 6 (34, 748)) (17, 228) (34, 748) (po none k_45) 145 [(1, .ref 10), (0, .ref 0)] [.ref 17, .ref 0] k_40
  refine J_dup (pc' := 146) dX9_init_145 rfl rfl ?_
  refine J_aload_n (pc' := 147) (i := 1) (n := 0) dX9_init_146 rfl rfl rfl ?_
  refine J_callIN (pc' := 150) (md' := md_X0_init) (d' := 4) (mcs' := (8, 254)) (as := [.ref 10]) (rest := [.ref 17, .ref 0]) (b := 17) dX9_init_147 rfl (⟨⟨j_inN 218 (by decide +kernel), (j_in 219 (by decide +kernel) rfl), (j_in 109 (by decide +kernel) rfl), rfl, rfl⟩, (j_in 220 (by decide +kernel) rfl), ⟨by decide, by decide, by decide +kernel⟩⟩ : j_lkIN RX9 72 md_X0_init 1) rfl (c_X0_init (M := k_40) (b := 17) rfl rfl (by decide) ⟨rfl, Nat.le_of_ble_eq_true rfl, rfl, rfl, rfl, rfl, rfl, rfl, rfl, rfl, rfl, rfl, rfl, rfl⟩ (by decide)) ⟨Nat.le_of_ble_eq_true rfl, Nat.le_of_ble_eq_true rfl⟩ (Nat.le_of_ble_eq_true rfl) ⟨Nat.le_of_ble_eq_true rfl, Nat.le_of_ble_eq_true rfl⟩ (j_kn ?_)
  show JJ l G md_X9_init (j_rm 6 (34, 748)) (25, 482) (34, 748) (po none k_45) 150 [(1, .ref 10), (0, .ref 0)] [.ref 17, .ref 0] k_41
  refine J_putFR (b := 17) (ty := .object "SwimLanes$Bath") (pc' := 153) dX9_init_150 rfl (⟨by decide, by decide, rfl, Or.inl (j_in 286 (by decide +kernel) rfl)⟩ : j_fln RX9 75 9 0) ⟨rfl, rfl, rfl, rfl, rfl, rfl⟩ (fun _ => ⟨rfl, rfl⟩) (j_in 286 (by decide +kernel) rfl) rfl (Nat.le_of_ble_eq_true rfl) ?_
  show JJ l G md_X9_init (j_rm 6 (34, 748)) (25, 482) (34, 748) (po none k_45) 153 [(1, .ref 10), (0, .ref 0)] [] k_42
  refine J_aload_n (pc' := 154) (i := 0) (n := 1) dX9_init_153 rfl rfl rfl ?_
  refine J_new (ci := 0) (pc' := 157) dX9_init_154 rfl (by decide) j_dv0 ⟨(j_in 127 (by decide +kernel) rfl), (j_in 217 (by decide +kernel) rfl), (j_in 109 (by decide +kernel) rfl)⟩ ⟨Nat.le_of_ble_eq_true rfl, Nat.le_of_ble_eq_true rfl⟩ (Nat.le_of_ble_eq_true rfl) ?_
  show JJ l G md_X9_init (j_rm 6 (34, 748)) (26, 494) (34, 748) (po none k_45) 157 [(1, .ref 10), (0, .ref 0)] [.ref 26, .ref 0] k_43
  refine J_dup (pc' := 158) dX9_init_157 rfl rfl ?_
  refine J_aload_n (pc' := 159) (i := 1) (n := 0) dX9_init_158 rfl rfl rfl ?_
  refine J_callIN (pc' := 162) (md' := md_X0_init) (d' := 4) (mcs' := (8, 254)) (as := [.ref 10]) (rest := [.ref 26, .ref 0]) (b := 26) dX9_init_159 rfl (⟨⟨j_inN 218 (by decide +kernel), (j_in 219 (by decide +kernel) rfl), (j_in 109 (by decide +kernel) rfl), rfl, rfl⟩, (j_in 220 (by decide +kernel) rfl), ⟨by decide, by decide, by decide +kernel⟩⟩ : j_lkIN RX9 72 md_X0_init 1) rfl (c_X0_init (M := k_43) (b := 26) rfl rfl (by decide) ⟨rfl, Nat.le_of_ble_eq_true rfl, rfl, rfl, rfl, rfl, rfl, rfl, rfl, rfl, rfl, rfl, rfl, rfl⟩ (by decide)) ⟨Nat.le_of_ble_eq_true rfl, Nat.le_of_ble_eq_true rfl⟩ (Nat.le_of_ble_eq_true rfl) ⟨Nat.le_of_ble_eq_true rfl, Nat.le_of_ble_eq_true rfl⟩ (j_kn ?_)
  show JJ l G md_X9_init (j_rm 6 (34, 748)) (34, 748) (34, 748) (po none k_45) 162 [(1, .ref 10), (0, .ref 0)] [.ref 26, .ref 0] k_44
  refine J_putFR (b := 26) (ty := .object "SwimLanes$Bath") (pc' := 165) dX9_init_162 rfl (⟨by decide, by decide, rfl, Or.inl (j_in 287 (by decide +kernel) rfl)⟩ : j_fln RX9 79 9 1) ⟨rfl, rfl, rfl, rfl, rfl, rfl⟩ (fun _ => ⟨rfl, rfl⟩) (j_in 287 (by decide +kernel) rfl) rfl (Nat.le_of_ble_eq_true rfl) ?_
  show JJ l G md_X9_init (j_rm 6 (34, 748)) (34, 748) (34, 748) (po none k_45) 165 [(1, .ref 10), (0, .ref 0)] [] k_45
  exact J_vret rfl dX9_init_165 ⟨rfl, Nat.le_of_ble_eq_true rfl⟩ ⟨rfl, rfl⟩
noncomputable def k_46 : j_M := j_nw k_45 (10 + 10, 0)
noncomputable def k_47 : j_M := j_nw k_46 (1, 250)
noncomputable def k_48 : j_M := j_sR k_47 35 0 (some 36)
noncomputable def k_49 : j_M := j_nw k_48 (1, 500)
noncomputable def k_50 : j_M := j_sR k_49 35 1 (some 37)
noncomputable def k_51 : j_M := j_nw k_50 (3, 2)
noncomputable def k_52 : j_M := j_sR k_51 35 2 (some 38)
noncomputable def k_53 : j_M := j_nw k_52 (1, 3)
noncomputable def k_54 : j_M := j_sR k_53 35 3 (some 39)
noncomputable def k_55 : j_M := j_sL k_54 35 5 (1 : Int64)
noncomputable def k_56 : j_M := j_nw k_55 (1, 7)
noncomputable def k_57 : j_M := j_sR k_56 35 6 (some 40)
noncomputable def k_58 : j_M := j_nw k_57 (1, 7)
noncomputable def k_59 : j_M := j_sR k_58 35 10 (some 41)
noncomputable def k_60 : j_M := j_nw k_59 (1, 7)
noncomputable def k_61 : j_M := j_sR k_60 35 11 (some 42)
noncomputable def k_62 : j_M := j_nw k_61 (1, 7)
noncomputable def k_63 : j_M := j_sR k_62 35 12 (some 43)
noncomputable def k_64 : j_M := j_nw k_63 (1, 7)
noncomputable def k_65 : j_M := j_sR k_64 35 13 (some 44)
noncomputable def k_66 : j_M := j_nw k_65 (1, 4)
noncomputable def k_67 : j_M := j_sR k_66 35 15 (some 45)
noncomputable def k_68 : j_M := j_nw k_67 (1, 4)
noncomputable def k_69 : j_M := j_sR k_68 35 16 (some 46)
noncomputable def k_70 : j_M := j_nw k_69 (1, 7)
noncomputable def k_71 : j_M := j_sR k_70 35 17 (some 47)
noncomputable def k_72 : j_M := j_nw k_71 (1, 150)
noncomputable def k_73 : j_M := j_sR k_72 35 18 (some 48)
noncomputable def k_74 : j_M := j_nw k_73 (1, 74)
noncomputable def k_75 : j_M := j_sR k_74 35 24 (some 49)
noncomputable def k_76 : j_M := j_nw k_75 (1, 3)
noncomputable def k_77 : j_M := j_sR k_76 35 25 (some 50)
set_option maxHeartbeats 4000000 in
theorem c_X10_init {l : Launch} {G : j_G} {r : j_M} (h : f_X10_begin k_77 36 250 = some r) : j_Sp l G md_X10_init 3 (15, 1032) [.ref 35] k_46 (po none r) := by
  refine j_Sp.of (by decide) (Nat.le_of_ble_eq_true rfl) ?_
  show JJ l G md_X10_init (j_rm 3 (15, 1032)) (0, 0) (15, 1032) (po none r) 0 [(0, .ref 35)] [] k_46
  refine J_aload_n (pc' := 1) (i := 0) (n := 0) dX10_init_0 rfl rfl rfl ?_
  refine J_oini (pc' := 4) dX10_init_1 rfl ⟨(j_in 894 (by decide +kernel) rfl), (j_in 125 (by decide +kernel) rfl), (j_in 126 (by decide +kernel) rfl)⟩ ⟨Nat.le_of_ble_eq_true rfl, Nat.le_of_ble_eq_true rfl⟩ ?_
  refine J_aload_n (pc' := 5) (i := 0) (n := 0) dX10_init_4 rfl rfl rfl ?_
  refine J_sipush (pc' := 8) (v := (250 : Int32)) dX10_init_5 rfl (by decide) ?_
  refine J_newI (n := 250) (pc' := 10) dX10_init_8 rfl (j_in 150 (by decide +kernel) rfl) ⟨by decide, rfl, by decide⟩ ⟨Nat.le_of_ble_eq_true rfl, Nat.le_of_ble_eq_true rfl⟩ (Nat.le_of_ble_eq_true rfl) ?_
  show JJ l G md_X10_init (j_rm 3 (15, 1032)) (1, 250) (15, 1032) (po none r) 10 [(0, .ref 35)] [.ref 36, .ref 35] k_47
  refine J_putFR (b := 36) (ty := .array .int) (pc' := 13) dX10_init_10 rfl (⟨by decide, by decide, rfl, Or.inl (j_in 898 (by decide +kernel) rfl)⟩ : j_fln RX10 7 10 0) ⟨rfl, rfl, rfl, rfl, rfl, rfl⟩ (fun _ => ⟨rfl, rfl⟩) (j_in 898 (by decide +kernel) rfl) rfl (Nat.le_of_ble_eq_true rfl) ?_
  show JJ l G md_X10_init (j_rm 3 (15, 1032)) (1, 250) (15, 1032) (po none r) 13 [(0, .ref 35)] [] k_48
  refine J_aload_n (pc' := 14) (i := 0) (n := 0) dX10_init_13 rfl rfl rfl ?_
  refine J_sipush (pc' := 17) (v := (500 : Int32)) dX10_init_14 rfl (by decide) ?_
  refine J_newI (n := 500) (pc' := 19) dX10_init_17 rfl (j_in 150 (by decide +kernel) rfl) ⟨by decide, rfl, by decide⟩ ⟨Nat.le_of_ble_eq_true rfl, Nat.le_of_ble_eq_true rfl⟩ (Nat.le_of_ble_eq_true rfl) ?_
  show JJ l G md_X10_init (j_rm 3 (15, 1032)) (2, 750) (15, 1032) (po none r) 19 [(0, .ref 35)] [.ref 37, .ref 35] k_49
  refine J_putFR (b := 37) (ty := .array .int) (pc' := 22) dX10_init_19 rfl (⟨by decide, by decide, rfl, Or.inl (j_in 899 (by decide +kernel) rfl)⟩ : j_fln RX10 13 10 1) ⟨rfl, rfl, rfl, rfl, rfl, rfl⟩ (fun _ => ⟨rfl, rfl⟩) (j_in 899 (by decide +kernel) rfl) rfl (Nat.le_of_ble_eq_true rfl) ?_
  show JJ l G md_X10_init (j_rm 3 (15, 1032)) (2, 750) (15, 1032) (po none r) 22 [(0, .ref 35)] [] k_50
  refine J_aload_n (pc' := 23) (i := 0) (n := 0) dX10_init_22 rfl rfl rfl ?_
  refine J_iconst (pc' := 24) (v := (2 : Int32)) dX10_init_23 rfl (by decide) ?_
  refine J_newZ (n := 2) (pc' := 26) dX10_init_24 rfl (j_in 977 (by decide +kernel) rfl) ⟨by decide, rfl, by decide⟩ ⟨Nat.le_of_ble_eq_true rfl, Nat.le_of_ble_eq_true rfl⟩ (Nat.le_of_ble_eq_true rfl) ?_
  show JJ l G md_X10_init (j_rm 3 (15, 1032)) (3, 752) (15, 1032) (po none r) 26 [(0, .ref 35)] [.ref 38, .ref 35] k_51
  refine J_putFR (b := 38) (ty := .array .boolean) (pc' := 29) dX10_init_26 rfl (⟨by decide, by decide, rfl, Or.inl (j_in 900 (by decide +kernel) rfl)⟩ : j_fln RX10 16 10 2) ⟨rfl, rfl, rfl, rfl, rfl, rfl⟩ (fun _ => ⟨rfl, rfl⟩) (j_in 900 (by decide +kernel) rfl) rfl (Nat.le_of_ble_eq_true rfl) ?_
  show JJ l G md_X10_init (j_rm 3 (15, 1032)) (3, 752) (15, 1032) (po none r) 29 [(0, .ref 35)] [] k_52
  refine J_aload_n (pc' := 30) (i := 0) (n := 0) dX10_init_29 rfl rfl rfl ?_
  refine J_iconst (pc' := 31) (v := (3 : Int32)) dX10_init_30 rfl (by decide) ?_
  refine J_newI (n := 3) (pc' := 33) dX10_init_31 rfl (j_in 150 (by decide +kernel) rfl) ⟨by decide, rfl, by decide⟩ ⟨Nat.le_of_ble_eq_true rfl, Nat.le_of_ble_eq_true rfl⟩ (Nat.le_of_ble_eq_true rfl) ?_
  show JJ l G md_X10_init (j_rm 3 (15, 1032)) (4, 755) (15, 1032) (po none r) 33 [(0, .ref 35)] [.ref 39, .ref 35] k_53
  refine J_putFR (b := 39) (ty := .array .int) (pc' := 36) dX10_init_33 rfl (⟨by decide, by decide, rfl, Or.inl (j_in 901 (by decide +kernel) rfl)⟩ : j_fln RX10 20 10 3) ⟨rfl, rfl, rfl, rfl, rfl, rfl⟩ (fun _ => ⟨rfl, rfl⟩) (j_in 901 (by decide +kernel) rfl) rfl (Nat.le_of_ble_eq_true rfl) ?_
  show JJ l G md_X10_init (j_rm 3 (15, 1032)) (4, 755) (15, 1032) (po none r) 36 [(0, .ref 35)] [] k_54
  refine J_aload_n (pc' := 37) (i := 0) (n := 0) dX10_init_36 rfl rfl rfl ?_
  refine J_lconst (pc' := 38) (v := (1 : Int64)) dX10_init_37 rfl rfl ?_
  refine J_putL (pc' := 41) dX10_init_38 rfl (⟨by decide, by decide, rfl, Or.inl (j_in 903 (by decide +kernel) rfl)⟩ : j_fln RX10 23 10 5) ⟨rfl, rfl, rfl⟩ rfl (Nat.le_of_ble_eq_true rfl) ?_
  show JJ l G md_X10_init (j_rm 3 (15, 1032)) (4, 755) (15, 1032) (po none r) 41 [(0, .ref 35)] [] k_55
  refine J_aload_n (pc' := 42) (i := 0) (n := 0) dX10_init_41 rfl rfl rfl ?_
  refine J_bipush (pc' := 44) (v := (7 : Int32)) dX10_init_42 rfl (by decide) ?_
  refine J_newI (n := 7) (pc' := 46) dX10_init_44 rfl (j_in 150 (by decide +kernel) rfl) ⟨by decide, rfl, by decide⟩ ⟨Nat.le_of_ble_eq_true rfl, Nat.le_of_ble_eq_true rfl⟩ (Nat.le_of_ble_eq_true rfl) ?_
  show JJ l G md_X10_init (j_rm 3 (15, 1032)) (5, 762) (15, 1032) (po none r) 46 [(0, .ref 35)] [.ref 40, .ref 35] k_56
  refine J_putFR (b := 40) (ty := .array .int) (pc' := 49) dX10_init_46 rfl (⟨by decide, by decide, rfl, Or.inl (j_in 904 (by decide +kernel) rfl)⟩ : j_fln RX10 27 10 6) ⟨rfl, rfl, rfl, rfl, rfl, rfl⟩ (fun _ => ⟨rfl, rfl⟩) (j_in 904 (by decide +kernel) rfl) rfl (Nat.le_of_ble_eq_true rfl) ?_
  show JJ l G md_X10_init (j_rm 3 (15, 1032)) (5, 762) (15, 1032) (po none r) 49 [(0, .ref 35)] [] k_57
  refine J_aload_n (pc' := 50) (i := 0) (n := 0) dX10_init_49 rfl rfl rfl ?_
  refine J_bipush (pc' := 52) (v := (7 : Int32)) dX10_init_50 rfl (by decide) ?_
  refine J_newI (n := 7) (pc' := 54) dX10_init_52 rfl (j_in 150 (by decide +kernel) rfl) ⟨by decide, rfl, by decide⟩ ⟨Nat.le_of_ble_eq_true rfl, Nat.le_of_ble_eq_true rfl⟩ (Nat.le_of_ble_eq_true rfl) ?_
  show JJ l G md_X10_init (j_rm 3 (15, 1032)) (6, 769) (15, 1032) (po none r) 54 [(0, .ref 35)] [.ref 41, .ref 35] k_58
  refine J_putFR (b := 41) (ty := .array .int) (pc' := 57) dX10_init_54 rfl (⟨by decide, by decide, rfl, Or.inl (j_in 908 (by decide +kernel) rfl)⟩ : j_fln RX10 30 10 10) ⟨rfl, rfl, rfl, rfl, rfl, rfl⟩ (fun _ => ⟨rfl, rfl⟩) (j_in 908 (by decide +kernel) rfl) rfl (Nat.le_of_ble_eq_true rfl) ?_
  show JJ l G md_X10_init (j_rm 3 (15, 1032)) (6, 769) (15, 1032) (po none r) 57 [(0, .ref 35)] [] k_59
  refine J_aload_n (pc' := 58) (i := 0) (n := 0) dX10_init_57 rfl rfl rfl ?_
  refine J_bipush (pc' := 60) (v := (7 : Int32)) dX10_init_58 rfl (by decide) ?_
  refine J_newI (n := 7) (pc' := 62) dX10_init_60 rfl (j_in 150 (by decide +kernel) rfl) ⟨by decide, rfl, by decide⟩ ⟨Nat.le_of_ble_eq_true rfl, Nat.le_of_ble_eq_true rfl⟩ (Nat.le_of_ble_eq_true rfl) ?_
  show JJ l G md_X10_init (j_rm 3 (15, 1032)) (7, 776) (15, 1032) (po none r) 62 [(0, .ref 35)] [.ref 42, .ref 35] k_60
  refine J_putFR (b := 42) (ty := .array .int) (pc' := 65) dX10_init_62 rfl (⟨by decide, by decide, rfl, Or.inl (j_in 909 (by decide +kernel) rfl)⟩ : j_fln RX10 33 10 11) ⟨rfl, rfl, rfl, rfl, rfl, rfl⟩ (fun _ => ⟨rfl, rfl⟩) (j_in 909 (by decide +kernel) rfl) rfl (Nat.le_of_ble_eq_true rfl) ?_
  show JJ l G md_X10_init (j_rm 3 (15, 1032)) (7, 776) (15, 1032) (po none r) 65 [(0, .ref 35)] [] k_61
  refine J_aload_n (pc' := 66) (i := 0) (n := 0) dX10_init_65 rfl rfl rfl ?_
  refine J_bipush (pc' := 68) (v := (7 : Int32)) dX10_init_66 rfl (by decide) ?_
  refine J_newI (n := 7) (pc' := 70) dX10_init_68 rfl (j_in 150 (by decide +kernel) rfl) ⟨by decide, rfl, by decide⟩ ⟨Nat.le_of_ble_eq_true rfl, Nat.le_of_ble_eq_true rfl⟩ (Nat.le_of_ble_eq_true rfl) ?_
  show JJ l G md_X10_init (j_rm 3 (15, 1032)) (8, 783) (15, 1032) (po none r) 70 [(0, .ref 35)] [.ref 43, .ref 35] k_62
  refine J_putFR (b := 43) (ty := .array .int) (pc' := 73) dX10_init_70 rfl (⟨by decide, by decide, rfl, Or.inl (j_in 910 (by decide +kernel) rfl)⟩ : j_fln RX10 36 10 12) ⟨rfl, rfl, rfl, rfl, rfl, rfl⟩ (fun _ => ⟨rfl, rfl⟩) (j_in 910 (by decide +kernel) rfl) rfl (Nat.le_of_ble_eq_true rfl) ?_
  show JJ l G md_X10_init (j_rm 3 (15, 1032)) (8, 783) (15, 1032) (po none r) 73 [(0, .ref 35)] [] k_63
  refine J_aload_n (pc' := 74) (i := 0) (n := 0) dX10_init_73 rfl rfl rfl ?_
  refine J_bipush (pc' := 76) (v := (7 : Int32)) dX10_init_74 rfl (by decide) ?_
  refine J_newI (n := 7) (pc' := 78) dX10_init_76 rfl (j_in 150 (by decide +kernel) rfl) ⟨by decide, rfl, by decide⟩ ⟨Nat.le_of_ble_eq_true rfl, Nat.le_of_ble_eq_true rfl⟩ (Nat.le_of_ble_eq_true rfl) ?_
  show JJ l G md_X10_init (j_rm 3 (15, 1032)) (9, 790) (15, 1032) (po none r) 78 [(0, .ref 35)] [.ref 44, .ref 35] k_64
  refine J_putFR (b := 44) (ty := .array .int) (pc' := 81) dX10_init_78 rfl (⟨by decide, by decide, rfl, Or.inl (j_in 911 (by decide +kernel) rfl)⟩ : j_fln RX10 39 10 13) ⟨rfl, rfl, rfl, rfl, rfl, rfl⟩ (fun _ => ⟨rfl, rfl⟩) (j_in 911 (by decide +kernel) rfl) rfl (Nat.le_of_ble_eq_true rfl) ?_
  show JJ l G md_X10_init (j_rm 3 (15, 1032)) (9, 790) (15, 1032) (po none r) 81 [(0, .ref 35)] [] k_65
  refine J_aload_n (pc' := 82) (i := 0) (n := 0) dX10_init_81 rfl rfl rfl ?_
  refine J_iconst (pc' := 83) (v := (4 : Int32)) dX10_init_82 rfl (by decide) ?_
  refine J_newI (n := 4) (pc' := 85) dX10_init_83 rfl (j_in 150 (by decide +kernel) rfl) ⟨by decide, rfl, by decide⟩ ⟨Nat.le_of_ble_eq_true rfl, Nat.le_of_ble_eq_true rfl⟩ (Nat.le_of_ble_eq_true rfl) ?_
  show JJ l G md_X10_init (j_rm 3 (15, 1032)) (10, 794) (15, 1032) (po none r) 85 [(0, .ref 35)] [.ref 45, .ref 35] k_66
  refine J_putFR (b := 45) (ty := .array .int) (pc' := 88) dX10_init_85 rfl (⟨by decide, by decide, rfl, Or.inl (j_in 913 (by decide +kernel) rfl)⟩ : j_fln RX10 42 10 15) ⟨rfl, rfl, rfl, rfl, rfl, rfl⟩ (fun _ => ⟨rfl, rfl⟩) (j_in 913 (by decide +kernel) rfl) rfl (Nat.le_of_ble_eq_true rfl) ?_
  show JJ l G md_X10_init (j_rm 3 (15, 1032)) (10, 794) (15, 1032) (po none r) 88 [(0, .ref 35)] [] k_67
  refine J_aload_n (pc' := 89) (i := 0) (n := 0) dX10_init_88 rfl rfl rfl ?_
  refine J_iconst (pc' := 90) (v := (4 : Int32)) dX10_init_89 rfl (by decide) ?_
  refine J_newI (n := 4) (pc' := 92) dX10_init_90 rfl (j_in 150 (by decide +kernel) rfl) ⟨by decide, rfl, by decide⟩ ⟨Nat.le_of_ble_eq_true rfl, Nat.le_of_ble_eq_true rfl⟩ (Nat.le_of_ble_eq_true rfl) ?_
  show JJ l G md_X10_init (j_rm 3 (15, 1032)) (11, 798) (15, 1032) (po none r) 92 [(0, .ref 35)] [.ref 46, .ref 35] k_68
  refine J_putFR (b := 46) (ty := .array .int) (pc' := 95) dX10_init_92 rfl (⟨by decide, by decide, rfl, Or.inl (j_in 914 (by decide +kernel) rfl)⟩ : j_fln RX10 45 10 16) ⟨rfl, rfl, rfl, rfl, rfl, rfl⟩ (fun _ => ⟨rfl, rfl⟩) (j_in 914 (by decide +kernel) rfl) rfl (Nat.le_of_ble_eq_true rfl) ?_
  show JJ l G md_X10_init (j_rm 3 (15, 1032)) (11, 798) (15, 1032) (po none r) 95 [(0, .ref 35)] [] k_69
  refine J_aload_n (pc' := 96) (i := 0) (n := 0) dX10_init_95 rfl rfl rfl ?_
  refine J_bipush (pc' := 98) (v := (7 : Int32)) dX10_init_96 rfl (by decide) ?_
  refine J_newI (n := 7) (pc' := 100) dX10_init_98 rfl (j_in 150 (by decide +kernel) rfl) ⟨by decide, rfl, by decide⟩ ⟨Nat.le_of_ble_eq_true rfl, Nat.le_of_ble_eq_true rfl⟩ (Nat.le_of_ble_eq_true rfl) ?_
  show JJ l G md_X10_init (j_rm 3 (15, 1032)) (12, 805) (15, 1032) (po none r) 100 [(0, .ref 35)] [.ref 47, .ref 35] k_70
  refine J_putFR (b := 47) (ty := .array .int) (pc' := 103) dX10_init_100 rfl (⟨by decide, by decide, rfl, Or.inl (j_in 915 (by decide +kernel) rfl)⟩ : j_fln RX10 48 10 17) ⟨rfl, rfl, rfl, rfl, rfl, rfl⟩ (fun _ => ⟨rfl, rfl⟩) (j_in 915 (by decide +kernel) rfl) rfl (Nat.le_of_ble_eq_true rfl) ?_
  show JJ l G md_X10_init (j_rm 3 (15, 1032)) (12, 805) (15, 1032) (po none r) 103 [(0, .ref 35)] [] k_71
  refine J_aload_n (pc' := 104) (i := 0) (n := 0) dX10_init_103 rfl rfl rfl ?_
  refine J_sipush (pc' := 107) (v := (150 : Int32)) dX10_init_104 rfl (by decide) ?_
  refine J_newI (n := 150) (pc' := 109) dX10_init_107 rfl (j_in 150 (by decide +kernel) rfl) ⟨by decide, rfl, by decide⟩ ⟨Nat.le_of_ble_eq_true rfl, Nat.le_of_ble_eq_true rfl⟩ (Nat.le_of_ble_eq_true rfl) ?_
  show JJ l G md_X10_init (j_rm 3 (15, 1032)) (13, 955) (15, 1032) (po none r) 109 [(0, .ref 35)] [.ref 48, .ref 35] k_72
  refine J_putFR (b := 48) (ty := .array .int) (pc' := 112) dX10_init_109 rfl (⟨by decide, by decide, rfl, Or.inl (j_in 916 (by decide +kernel) rfl)⟩ : j_fln RX10 51 10 18) ⟨rfl, rfl, rfl, rfl, rfl, rfl⟩ (fun _ => ⟨rfl, rfl⟩) (j_in 916 (by decide +kernel) rfl) rfl (Nat.le_of_ble_eq_true rfl) ?_
  show JJ l G md_X10_init (j_rm 3 (15, 1032)) (13, 955) (15, 1032) (po none r) 112 [(0, .ref 35)] [] k_73
  refine J_aload_n (pc' := 113) (i := 0) (n := 0) dX10_init_112 rfl rfl rfl ?_
  refine J_bipush (pc' := 115) (v := (74 : Int32)) dX10_init_113 rfl (by decide) ?_
  refine J_newI (n := 74) (pc' := 117) dX10_init_115 rfl (j_in 150 (by decide +kernel) rfl) ⟨by decide, rfl, by decide⟩ ⟨Nat.le_of_ble_eq_true rfl, Nat.le_of_ble_eq_true rfl⟩ (Nat.le_of_ble_eq_true rfl) ?_
  show JJ l G md_X10_init (j_rm 3 (15, 1032)) (14, 1029) (15, 1032) (po none r) 117 [(0, .ref 35)] [.ref 49, .ref 35] k_74
  refine J_putFR (b := 49) (ty := .array .int) (pc' := 120) dX10_init_117 rfl (⟨by decide, by decide, rfl, Or.inl (j_in 922 (by decide +kernel) rfl)⟩ : j_fln RX10 54 10 24) ⟨rfl, rfl, rfl, rfl, rfl, rfl⟩ (fun _ => ⟨rfl, rfl⟩) (j_in 922 (by decide +kernel) rfl) rfl (Nat.le_of_ble_eq_true rfl) ?_
  show JJ l G md_X10_init (j_rm 3 (15, 1032)) (14, 1029) (15, 1032) (po none r) 120 [(0, .ref 35)] [] k_75
  refine J_aload_n (pc' := 121) (i := 0) (n := 0) dX10_init_120 rfl rfl rfl ?_
  refine J_iconst (pc' := 122) (v := (3 : Int32)) dX10_init_121 rfl (by decide) ?_
  refine J_newI (n := 3) (pc' := 124) dX10_init_122 rfl (j_in 150 (by decide +kernel) rfl) ⟨by decide, rfl, by decide⟩ ⟨Nat.le_of_ble_eq_true rfl, Nat.le_of_ble_eq_true rfl⟩ (Nat.le_of_ble_eq_true rfl) ?_
  show JJ l G md_X10_init (j_rm 3 (15, 1032)) (15, 1032) (15, 1032) (po none r) 124 [(0, .ref 35)] [.ref 50, .ref 35] k_76
  refine J_putFR (b := 50) (ty := .array .int) (pc' := 127) dX10_init_124 rfl (⟨by decide, by decide, rfl, Or.inl (j_in 923 (by decide +kernel) rfl)⟩ : j_fln RX10 57 10 25) ⟨rfl, rfl, rfl, rfl, rfl, rfl⟩ (fun _ => ⟨rfl, rfl⟩) (j_in 923 (by decide +kernel) rfl) rfl (Nat.le_of_ble_eq_true rfl) ?_
  show JJ l G md_X10_init (j_rm 3 (15, 1032)) (15, 1032) (15, 1032) (po none r) 127 [(0, .ref 35)] [] k_77
  refine J_aload_n (pc' := 128) (i := 0) (n := 0) dX10_init_127 rfl rfl rfl ?_
  refine J_getR (b := 36) (pc' := 131) dX10_init_128 rfl (⟨by decide, by decide, rfl, Or.inl (j_in 898 (by decide +kernel) rfl)⟩ : j_fln RX10 7 10 0) rfl rfl (Nat.le_of_ble_eq_true rfl) rfl ?_
  refine J_callS (pc' := 134) (as := [.ref 36]) (rest := []) dX10_init_131 rfl lk_X10_60 rfl (c_X10_begin (⟨rfl, Nat.le_of_ble_eq_true rfl⟩ : sh_a 36 250 k_77.2.2) h) ⟨Nat.le_of_ble_eq_true rfl, Nat.le_of_ble_eq_true rfl⟩ (Nat.le_of_ble_eq_true rfl) ⟨Nat.le_of_ble_eq_true rfl, Nat.le_of_ble_eq_true rfl⟩ (j_kv ?_)
  exact J_vret rfl dX10_init_134 ⟨rfl, Nat.le_of_ble_eq_true rfl⟩ ⟨rfl, rfl⟩
