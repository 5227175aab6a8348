theorem fl_X9_11 : j_fln RX9 11 9 2 := ⟨by decide, by decide, rfl, Or.inl (j_in 288 (by decide +kernel) rfl)⟩
theorem fl_X9_279 : j_fln RX9 279 0 0 := ⟨by decide, by decide, rfl, Or.inr (j_inN 235 (by decide +kernel))⟩
set_option maxHeartbeats 4000000 in
theorem sh_b_mono {b : Nat} {q q' : ((Nat → Nat → Option Nat) × (Nat → Nat × Nat) × Nat)} (h : sh_b b q) (hS : ∀ a, a < q.2.2 → q'.2.1 a = q.2.1 a) (hR : ∀ a k, a < q.2.2 → a ≠ 1 → q'.1 a k = q.1 a k) (hNN : q.2.2 ≤ q'.2.2) (hb : b ≠ 1) : sh_b b q' := by
  obtain ⟨h0, h1, h2, h3, h4, h5, h6, h7, h8, h9, h10, h11, h12, h13, h14, h15, h16, h17, h18, h19, h20, h21, h22, h23, h24, h25, h26, h27, h28, h29, h30, h31⟩ := h
  exact ⟨⟨by omega, by omega⟩, by rw [hS b (by omega)]; exact h1, by rw [hS (b + 1) (by omega)]; exact h2, by rw [hR b 1 (by omega) (by omega)]; exact h3, by rw [hS (b + 2) (by omega)]; exact h4, by rw [hR b 2 (by omega) (by omega)]; exact h5, by rw [hS (b + 3) (by omega)]; exact h6, by rw [hR b 3 (by omega) (by omega)]; exact h7, by rw [hS (b + 4) (by omega)]; exact h8, by rw [hR b 4 (by omega) (by omega)]; exact h9, by rw [hS (b + 5) (by omega)]; exact h10, by rw [hR b 5 (by omega) (by omega)]; exact h11, by rw [hS (b + 6) (by omega)]; exact h12, by rw [hR b 6 (by omega) (by omega)]; exact h13, by rw [hS (b + 7) (by omega)]; exact h14, by rw [hR b 7 (by omega) (by omega)]; exact h15, by rw [hS (b + 8) (by omega)]; exact h16, by rw [hR b 8 (by omega) (by omega)]; exact h17, by rw [hR b 0 (by omega) (by omega)]; exact h18, by rw [hS 10 (by omega)]; exact h19, by rw [hR 10 0 (by omega) (by omega)]; exact h20, by rw [hS 11 (by omega)]; exact h21, by rw [hR 10 1 (by omega) (by omega)]; exact h22, by rw [hS 12 (by omega)]; exact h23, by rw [hR 10 2 (by omega) (by omega)]; exact h24, by rw [hS 13 (by omega)]; exact h25, by rw [hR 10 3 (by omega) (by omega)]; exact h26, by rw [hS 14 (by omega)]; exact h27, by rw [hR 10 4 (by omega) (by omega)]; exact h28, by rw [hS 15 (by omega)]; exact h29, by rw [hR 10 5 (by omega) (by omega)]; exact h30, by rw [hS 16 (by omega)]; exact h31⟩
set_option maxHeartbeats 4000000 in
theorem sh_x_mono {q q' : ((Nat → Nat → Option Nat) × (Nat → Nat × Nat) × Nat)} (h : sh_x q) (hS : ∀ a, a < q.2.2 → q'.2.1 a = q.2.1 a) (hR : ∀ a k, a < q.2.2 → a ≠ 1 → q'.1 a k = q.1 a k) (hNN : q.2.2 ≤ q'.2.2) : sh_x q' := by
  obtain ⟨h0, h1, h2, h3, h4, h5, h6, h7, h8, h9, h10, h11, h12, h13, h14, h15, h16, h17, h18, h19, h20, h21, h22, h23⟩ := h
  exact ⟨by omega, by rw [hS 0 (by omega)]; exact h1, by rw [hS 1 (by omega)]; exact h2, by rw [hR 0 2 (by omega) (by omega)]; exact h3, by rw [hS 2 (by omega)]; exact h4, by rw [hR 0 3 (by omega) (by omega)]; exact h5, by rw [hS 3 (by omega)]; exact h6, by rw [hR 0 4 (by omega) (by omega)]; exact h7, by rw [hS 4 (by omega)]; exact h8, by rw [hR 3 0 (by omega) (by omega)]; exact h9, by rw [hS 5 (by omega)]; exact h10, by rw [hR 3 1 (by omega) (by omega)]; exact h11, by rw [hS 6 (by omega)]; exact h12, by rw [hR 3 2 (by omega) (by omega)]; exact h13, by rw [hS 7 (by omega)]; exact h14, by rw [hR 0 5 (by omega) (by omega)]; exact h15, by rw [hS 8 (by omega)]; exact h16, by rw [hR 7 0 (by omega) (by omega)]; exact h17, by rw [hS 9 (by omega)]; exact h18, by rw [hR 0 6 (by omega) (by omega)]; exact h19, by rw [hR 0 0 (by omega) (by omega)]; exact h20, by rw [hR 0 1 (by omega) (by omega)]; exact h21, sh_b_mono h22 hS hR hNN (by omega), sh_b_mono h23 hS hR hNN (by omega)⟩
set_option maxHeartbeats 4000000 in
theorem sh_m_mono {q q' : ((Nat → Nat → Option Nat) × (Nat → Nat × Nat) × Nat)} (h : sh_m q) (hS : ∀ a, a < q.2.2 → q'.2.1 a = q.2.1 a) (hR : ∀ a k, a < q.2.2 → a ≠ 1 → q'.1 a k = q.1 a k) (hNN : q.2.2 ≤ q'.2.2) : sh_m q' := by
  obtain ⟨h0, h1, h2, h3, h4, h5, h6, h7, h8, h9, h10, h11, h12, h13, h14, h15, h16, h17, h18, h19, h20, h21, h22, h23, h24, h25, h26, h27, h28, h29, h30, h31⟩ := h
  exact ⟨by omega, by rw [hS 35 (by omega)]; exact h1, by rw [hS 36 (by omega)]; exact h2, by rw [hR 35 0 (by omega) (by omega)]; exact h3, by rw [hS 37 (by omega)]; exact h4, by rw [hR 35 1 (by omega) (by omega)]; exact h5, by rw [hS 38 (by omega)]; exact h6, by rw [hR 35 2 (by omega) (by omega)]; exact h7, by rw [hS 39 (by omega)]; exact h8, by rw [hR 35 3 (by omega) (by omega)]; exact h9, by rw [hS 40 (by omega)]; exact h10, by rw [hR 35 6 (by omega) (by omega)]; exact h11, by rw [hS 41 (by omega)]; exact h12, by rw [hR 35 10 (by omega) (by omega)]; exact h13, by rw [hS 42 (by omega)]; exact h14, by rw [hR 35 11 (by omega) (by omega)]; exact h15, by rw [hS 43 (by omega)]; exact h16, by rw [hR 35 12 (by omega) (by omega)]; exact h17, by rw [hS 44 (by omega)]; exact h18, by rw [hR 35 13 (by omega) (by omega)]; exact h19, by rw [hS 45 (by omega)]; exact h20, by rw [hR 35 15 (by omega) (by omega)]; exact h21, by rw [hS 46 (by omega)]; exact h22, by rw [hR 35 16 (by omega) (by omega)]; exact h23, by rw [hS 47 (by omega)]; exact h24, by rw [hR 35 17 (by omega) (by omega)]; exact h25, by rw [hS 48 (by omega)]; exact h26, by rw [hR 35 18 (by omega) (by omega)]; exact h27, by rw [hS 49 (by omega)]; exact h28, by rw [hR 35 24 (by omega) (by omega)]; exact h29, by rw [hS 50 (by omega)]; exact h30, by rw [hR 35 25 (by omega) (by omega)]; exact h31⟩
theorem sh_b_kk {b : Nat} {q : ((Nat → Nat → Option Nat) × (Nat → Nat × Nat) × Nat)} (h : sh_b b q) : sh_kk q := by
  have h' : sh_b b ((fun _ _ => 0, fun _ _ => 0, q) : j_M).2.2 := h
  exact ⟨b_ks h', h.1.2, b_c0 h', b_c1 h', b_c2 h', b_c3 h', b_c4 h', b_c5 h', b_k0 h', b_k1 h', b_k2 h', b_k3 h', b_k4 h', b_k5 h'⟩
/-- the images are baths -/
def sh_i (q : ((Nat → Nat → Option Nat) × (Nat → Nat × Nat) × Nat)) : Prop := ∀ i, i < 2 → ∀ b, q.1 1 i = some b → sh_b b q
theorem wi01 {x : Int32} (h : ¬ f_X9_within x 0 1 = 0) : x = 0 ∨ x = 1 := by
  unfold f_X9_within at h
  split at h
  · exact absurd rfl h
  · split at h
    · exact absurd rfl h
    · next h1 h2 =>
      have a1 : (0 : Int) ≤ x.toInt := by
        have := Int32.not_lt.mp h1
        simpa using Int32.le_iff_toInt_le.mp this
      have a2 : x.toInt ≤ 1 := by
        have := Int32.not_lt.mp h2
        simpa using Int32.le_iff_toInt_le.mp this
      rcases (show x.toInt = 0 ∨ x.toInt = 1 by omega) with h | h
      · exact Or.inl (Int32.toInt_inj.mp h)
      · exact Or.inr (Int32.toInt_inj.mp h)
theorem wi01_in {x : Int32} (h : ¬ f_X9_within x 0 1 = 0) : vp_in x 2 ∧ x.toNatClampNeg < 2 := by
  rcases wi01 h with rfl | rfl
  · exact ⟨by unfold vp_in; decide, by decide⟩
  · exact ⟨by unfold vp_in; decide, by decide⟩
noncomputable def f_X9_from (M : j_M) (x1 : Int32) : Option (Int32 × j_M) :=
  if f_X9_within x1 0 1 = 0 then (f_X9_bad M).bind fun q => j_ck M q.2 (some (q.1, q.2))
  else match j_R M 1 x1.toNatClampNeg with
    | none => (f_X9_no M).bind fun q => j_ck M q.2 (some (q.1, q.2))
    | some b => (f_X0_becomes M 17 b).bind fun q => j_ck M q (some ((1 : Int32), q))
/-- an image's bath where there was none -/
noncomputable def imN (M : j_M) (x1 : Int32) : j_M := j_sR (bInit (j_nw M (10 + 0, 0)) (j_N M)) 1 x1.toNatClampNeg (some (j_N M))
noncomputable def f_X9_image (M : j_M) (x1 : Int32) : Option (Int32 × j_M) :=
  if f_X9_within x1 0 1 = 0 then (f_X9_bad M).bind fun q => j_ck M q.2 (some (q.1, q.2))
  else match j_R M 1 x1.toNatClampNeg with
    | none => (f_X0_becomes (imN M x1) (j_N M) 17).bind fun q => j_ck (imN M x1) q (some ((1 : Int32), q))
    | some b => (f_X0_becomes M b 17).bind fun q => j_ck M q (some ((1 : Int32), q))
/-- what image makes: cells and slots -/
def im_n (M : j_M) (x1 : Int32) : Nat × Nat := if f_X9_within x1 0 1 = 0 then (0, 0) else if j_R M 1 x1.toNatClampNeg = none then (9, 266) else (0, 0)
abbrev md_X9_from : j_Md := (yX9_from, cX9_from, 2, some .int)
abbrev md_X9_image : j_Md := (yX9_image, cX9_image, 2, some .int)
set_option maxHeartbeats 4000000 in
theorem c_X9_from {l : Launch} {G : j_G} {M : j_M} {x1 : Int32} (hs : sh_x M.2.2) (hi : sh_i M.2.2) {r : Int32 × j_M} (h : f_X9_from M x1 = some r) : j_Sp l G md_X9_from 4 (0, 0) [.ref 0, .int x1] M (po (some (.int r.1)) r.2) := by
  refine j_Sp.of (by decide) (Nat.le_of_ble_eq_true rfl) ?_
  show JJ l G md_X9_from (j_rm 4 (0, 0)) (0, 0) (0, 0) (po (some (.int r.1)) r.2) 0 [(0, .ref 0), (1, .int x1)] [] M
  unfold f_X9_from at h
  refine J_iload_n (pc' := 1) (i := 1) (n := 1) dX9_from_0 rfl rfl rfl ?_
  refine J_iconst (pc' := 2) (v := (0 : Int32)) dX9_from_1 rfl ic_0 ?_
  refine J_iconst (pc' := 3) (v := (1 : Int32)) dX9_from_2 rfl ic_1 ?_
  refine J_callS (pc' := 6) (as := [.int x1, .int (0 : Int32), .int (1 : Int32)]) (rest := []) dX9_from_3 rfl lk_X9_92 rfl (c_X9_within (M := M) rfl) ⟨Nat.le_of_ble_eq_true rfl, Nat.le_of_ble_eq_true rfl⟩ (Nat.le_of_ble_eq_true rfl) ⟨Nat.le_of_ble_eq_true rfl, Nat.le_of_ble_eq_true rfl⟩ (j_kq ?_)
  refine J_if_ne (pc' := 9) (tgt := 14) dX9_from_6 rfl (by decide) (fun c => ?_) (fun c => ?_)
  · replace h := j_iq c h
    obtain ⟨hin, hlt⟩ := wi01_in c
    refine J_aload_n (pc' := 15) (i := 0) (n := 0) dX9_from_14 rfl rfl rfl ?_
    refine J_getR (pc' := 18) (b := 1) dX9_from_15 rfl fl_X9_11 rfl (x_o hs) (x_n hs (Nat.le_of_ble_eq_true rfl)) (x_r2 hs) ?_
    refine J_iload_n (pc' := 19) (i := 1) (n := 1) dX9_from_18 rfl rfl rfl ?_
    cases hr : j_R M 1 x1.toNatClampNeg with
    | none =>
      rw [hr] at h
      obtain ⟨q, e, h⟩ := bi_inv h
      obtain ⟨ck, h⟩ := j_ck_inv h
      refine J_aald5N (pc' := 20) dX9_from_19 rfl (x_s1 hs) (x_n hs (Nat.le_of_ble_eq_true rfl)) hin hr ?_
      refine J_ifnnN (pc' := 23) dX9_from_20 rfl ?_
      refine J_aload_n (pc' := 24) (i := 0) (n := 0) dX9_from_23 rfl rfl rfl ?_
      refine J_callV (pc' := 27) (as := []) (rest := []) dX9_from_24 rfl lk_X9_110 rfl 9 (by decide) rfl (x_o hs) (x_n hs (Nat.le_of_ble_eq_true rfl)) (c_X9_no hs e) ⟨Nat.le_of_ble_eq_true rfl, Nat.le_of_ble_eq_true rfl⟩ (Nat.le_of_ble_eq_true rfl) ⟨Nat.le_of_ble_eq_true rfl, Nat.le_of_ble_eq_true rfl⟩ (j_kq ?_)
      exact J_iret rfl dX9_from_27 ⟨rfl, Nat.le_refl _⟩ (j_pW h)
    | some b =>
      rw [hr] at h
      obtain ⟨q, e, h⟩ := bi_inv h
      obtain ⟨ck, h⟩ := j_ck_inv h
      refine J_aald5 (pc' := 20) dX9_from_19 rfl (x_s1 hs) (x_n hs (Nat.le_of_ble_eq_true rfl)) hin hr ?_
      refine J_ifnn (tgt := 28) dX9_from_20 (by decide) ?_
      refine J_aload_n (pc' := 29) (i := 0) (n := 0) dX9_from_28 rfl rfl rfl ?_
      refine J_getR (pc' := 32) (b := 17) dX9_from_29 rfl fl_X9_75 rfl (x_o hs) (x_n hs (Nat.le_of_ble_eq_true rfl)) (x_r0 hs) ?_
      refine J_aload_n (pc' := 33) (i := 0) (n := 0) dX9_from_32 rfl rfl rfl ?_
      refine J_getR (pc' := 36) (b := 1) dX9_from_33 rfl fl_X9_11 rfl (x_o hs) (x_n hs (Nat.le_of_ble_eq_true rfl)) (x_r2 hs) ?_
      refine J_iload_n (pc' := 37) (i := 1) (n := 1) dX9_from_36 rfl rfl rfl ?_
      refine J_aald5 (pc' := 38) dX9_from_37 rfl (x_s1 hs) (x_n hs (Nat.le_of_ble_eq_true rfl)) hin hr ?_
      have hb := x_b17 hs
      refine J_callVN (pc' := 41) (as := [.ref b]) (rest := []) dX9_from_38 rfl lk_X9_149 rfl 0 (by decide) rfl (b_o hb) (b_no hb) (c_X0_becomes hb (hi _ hlt b hr) e) ⟨Nat.le_of_ble_eq_true rfl, Nat.le_of_ble_eq_true rfl⟩ (Nat.le_of_ble_eq_true rfl) ⟨Nat.le_of_ble_eq_true rfl, Nat.le_of_ble_eq_true rfl⟩ (j_kv ?_)
      refine J_iconst (pc' := 42) (v := (1 : Int32)) dX9_from_41 rfl ic_1 ?_
      exact J_iret rfl dX9_from_42 ⟨rfl, Nat.le_refl _⟩ (j_pW h)
  · replace h := j_ip c h
    obtain ⟨q, e, h⟩ := bi_inv h
    obtain ⟨ck, h⟩ := j_ck_inv h
    refine J_aload_n (pc' := 10) (i := 0) (n := 0) dX9_from_9 rfl rfl rfl ?_
    refine J_callV (pc' := 13) (as := []) (rest := []) dX9_from_10 rfl lk_X9_96 rfl 9 (by decide) rfl (x_o hs) (x_n hs (Nat.le_of_ble_eq_true rfl)) (c_X9_bad hs e) ⟨Nat.le_of_ble_eq_true rfl, Nat.le_of_ble_eq_true rfl⟩ (Nat.le_of_ble_eq_true rfl) ⟨Nat.le_of_ble_eq_true rfl, Nat.le_of_ble_eq_true rfl⟩ (j_kq ?_)
    exact J_iret rfl dX9_from_13 ⟨rfl, Nat.le_refl _⟩ (j_pW h)
theorem bInit_q (M : j_M) (b : Nat) : (bInit M b).2.2 = (bArr M b).2.2 := rfl
theorem bArr_S {M : j_M} {b a : Nat} (hN : j_N M = b + 1) (ha : a ≤ b) : j_S (bArr M b) a = j_S M a := by
  simp only [bArr, j_S_sR, j_S_if, j_N_sR, j_N_nw, hN, Nat.add_assoc, Nat.reduceAdd]
  repeat rw [if_neg (by omega)]
theorem bArr_R {M : j_M} {b a k : Nat} (hN : j_N M = b + 1) (ha : a < b) : j_R (bArr M b) a k = j_R M a k := by
  have hne : ¬ a = b := by omega
  simp only [bArr, j_R_sR, hne, false_and, if_false]
  repeat (rw [j_R_nwn (by simp only [j_N_sR, j_N_nw, hN]; omega)]; try simp only [j_R_sR, hne, false_and, if_false])
/-- an image's new bath leaves the shape of what was there -/
theorem imN_S {M : j_M} {x1 : Int32} (a : Nat) (ha : a < j_N M) : (imN M x1).2.2.2.1 a = M.2.2.2.1 a := by
  show j_S (bArr (j_nw M (10 + 0, 0)) (j_N M)) a = j_S M a
  rw [bArr_S (by rw [j_N_nw]) (by omega), j_S_nwn (by omega)]
theorem imN_R {M : j_M} {x1 : Int32} (a k : Nat) (ha : a < j_N M) (h1 : a ≠ 1) : (imN M x1).2.2.1 a k = M.2.2.1 a k := by
  show j_R (imN M x1) a k = j_R M a k
  unfold imN
  rw [j_R_sR, if_neg (fun h => h1 h.1)]
  show j_R (bArr (j_nw M (10 + 0, 0)) (j_N M)) a k = j_R M a k
  rw [bArr_R (by rw [j_N_nw]) (by omega), j_R_nwn (by omega)]
theorem imN_N {M : j_M} {x1 : Int32} : j_N (imN M x1) = j_N M + 9 := by
  show j_N (bArr (j_nw M (10 + 0, 0)) (j_N M)) = j_N M + 9
  rw [bArr_N (by rw [j_N_nw])]
theorem imN_R1 {M : j_M} {x1 : Int32} (k : Nat) (hN : 2 ≤ j_N M) : (imN M x1).2.2.1 1 k = if k = x1.toNatClampNeg then some (j_N M) else M.2.2.1 1 k := by
  show j_R (imN M x1) 1 k = if k = x1.toNatClampNeg then some (j_N M) else j_R M 1 k
  unfold imN
  rw [j_R_sR]
  by_cases h : k = x1.toNatClampNeg
  · rw [if_pos ⟨rfl, h⟩, if_pos h]
  · rw [if_neg (fun q => h q.2), if_neg h]
    show j_R (bArr (j_nw M (10 + 0, 0)) (j_N M)) 1 k = j_R M 1 k
    rw [bArr_R (by rw [j_N_nw]) (by omega), j_R_nwn (by omega)]
theorem imN_b {M : j_M} {x1 : Int32} (hk : sh_kk M.2.2) : sh_b (j_N M) (imN M x1).2.2 := by
  have hN : 17 ≤ j_N M := hk.2.1
  have hk' : sh_kk (j_nw M (10 + 0, 0)).2.2 := by
    obtain ⟨a1, a2, a3, a4, a5, a6, a7, a8, a9, a10, a11, a12, a13, a14⟩ := hk
    have s : ∀ a, a < j_N M → (j_nw M (10 + 0, 0)).2.2.2.1 a = M.2.2.2.1 a := fun a h => j_S_nwn (M := M) (sh := (10 + 0, 0)) (by omega)
    have r : ∀ a k, a < j_N M → (j_nw M (10 + 0, 0)).2.2.1 a k = M.2.2.1 a k := fun a k h => j_R_nwn (M := M) (sh := (10 + 0, 0)) (by omega)
    exact ⟨by rw [s 10 (by omega)]; exact a1, Nat.le_succ_of_le a2, by rw [s 11 (by omega)]; exact a3, by rw [s 12 (by omega)]; exact a4, by rw [s 13 (by omega)]; exact a5, by rw [s 14 (by omega)]; exact a6, by rw [s 15 (by omega)]; exact a7, by rw [s 16 (by omega)]; exact a8, by rw [r 10 0 (by omega)]; exact a9, by rw [r 10 1 (by omega)]; exact a10, by rw [r 10 2 (by omega)]; exact a11, by rw [r 10 3 (by omega)]; exact a12, by rw [r 10 4 (by omega)]; exact a13, by rw [r 10 5 (by omega)]; exact a14⟩
  have h := bArr_sh (M := j_nw M (10 + 0, 0)) (b := j_N M) (by rw [j_N_nw]) (by rw [j_S_nw]) hN hk'
  refine sh_b_mono h (fun a _ => rfl) (fun a k _ h1 => ?_) (Nat.le_refl _) (by omega)
  show j_R (imN M x1) a k = _
  unfold imN
  rw [j_R_sR, if_neg (fun h => h1 h.1)]
  rfl
theorem imN_x {M : j_M} {x1 : Int32} (hs : sh_x M.2.2) : sh_x (imN M x1).2.2 := sh_x_mono hs imN_S imN_R (by show j_N M ≤ j_N (imN M x1); rw [imN_N]; omega)
set_option maxHeartbeats 4000000 in
theorem c_X9_image {l : Launch} {G : j_G} {M : j_M} {x1 : Int32} (hs : sh_x M.2.2) (hi : sh_i M.2.2) (hbig : j_N M + 20 ≤ 1000000) {r : Int32 × j_M} (h : f_X9_image M x1 = some r) : j_Sp l G md_X9_image 6 (im_n M x1) [.ref 0, .int x1] M (po (some (.int r.1)) r.2) := by
  unfold f_X9_image at h
  unfold im_n
  by_cases c : f_X9_within x1 0 1 = 0
  · rw [if_pos c]
    refine j_Sp.of (by decide) (Nat.le_of_ble_eq_true rfl) ?_
    show JJ l G md_X9_image (j_rm 6 (0, 0)) (0, 0) (0, 0) (po (some (.int r.1)) r.2) 0 [(0, .ref 0), (1, .int x1)] [] M
    refine J_iload_n (pc' := 1) (i := 1) (n := 1) dX9_image_0 rfl rfl rfl ?_
    refine J_iconst (pc' := 2) (v := (0 : Int32)) dX9_image_1 rfl ic_0 ?_
    refine J_iconst (pc' := 3) (v := (1 : Int32)) dX9_image_2 rfl ic_1 ?_
    refine J_callS (pc' := 6) (as := [.int x1, .int (0 : Int32), .int (1 : Int32)]) (rest := []) dX9_image_3 rfl lk_X9_92 rfl (c_X9_within (M := M) rfl) ⟨Nat.le_of_ble_eq_true rfl, Nat.le_of_ble_eq_true rfl⟩ (Nat.le_of_ble_eq_true rfl) ⟨Nat.le_of_ble_eq_true rfl, Nat.le_of_ble_eq_true rfl⟩ (j_kq ?_)
    refine J_if_ne (pc' := 9) (tgt := 14) dX9_image_6 rfl (by decide) (fun c' => absurd c c') (fun _ => ?_)
    replace h := j_ip c h
    obtain ⟨q, e, h⟩ := bi_inv h
    obtain ⟨ck, h⟩ := j_ck_inv h
    refine J_aload_n (pc' := 10) (i := 0) (n := 0) dX9_image_9 rfl rfl rfl ?_
    refine J_callV (pc' := 13) (as := []) (rest := []) dX9_image_10 rfl lk_X9_96 rfl 9 (by decide) rfl (x_o hs) (x_n hs (Nat.le_of_ble_eq_true rfl)) (c_X9_bad hs e) ⟨Nat.le_of_ble_eq_true rfl, Nat.le_of_ble_eq_true rfl⟩ (Nat.le_of_ble_eq_true rfl) ⟨Nat.le_of_ble_eq_true rfl, Nat.le_of_ble_eq_true rfl⟩ (j_kq ?_)
    exact J_iret rfl dX9_image_13 ⟨rfl, Nat.le_refl _⟩ (j_pW h)
  · rw [if_neg c]
    replace h := j_iq c h
    obtain ⟨hin, hlt⟩ := wi01_in c
    cases hr : j_R M 1 x1.toNatClampNeg with
    | none =>
      rw [hr] at h
      rw [if_pos rfl]
      obtain ⟨q, e, h⟩ := bi_inv h
      obtain ⟨ck, h⟩ := j_ck_inv h
      refine j_Sp.of (by decide) (Nat.le_of_ble_eq_true rfl) ?_
      show JJ l G md_X9_image (j_rm 6 (9, 266)) (0, 0) (9, 266) (po (some (.int r.1)) r.2) 0 [(0, .ref 0), (1, .int x1)] [] M
      refine J_iload_n (pc' := 1) (i := 1) (n := 1) dX9_image_0 rfl rfl rfl ?_
      refine J_iconst (pc' := 2) (v := (0 : Int32)) dX9_image_1 rfl ic_0 ?_
      refine J_iconst (pc' := 3) (v := (1 : Int32)) dX9_image_2 rfl ic_1 ?_
      refine J_callS (pc' := 6) (as := [.int x1, .int (0 : Int32), .int (1 : Int32)]) (rest := []) dX9_image_3 rfl lk_X9_92 rfl (c_X9_within (M := M) rfl) ⟨Nat.le_of_ble_eq_true rfl, Nat.le_of_ble_eq_true rfl⟩ (Nat.le_of_ble_eq_true rfl) ⟨Nat.le_of_ble_eq_true rfl, Nat.le_of_ble_eq_true rfl⟩ (j_kq ?_)
      refine J_if_ne (pc' := 9) (tgt := 14) dX9_image_6 rfl (by decide) (fun _ => ?_) (fun c' => absurd c' c)
      refine J_aload_n (pc' := 15) (i := 0) (n := 0) dX9_image_14 rfl rfl rfl ?_
      refine J_getR (pc' := 18) (b := 1) dX9_image_15 rfl fl_X9_11 rfl (x_o hs) (x_n hs (Nat.le_of_ble_eq_true rfl)) (x_r2 hs) ?_
      refine J_iload_n (pc' := 19) (i := 1) (n := 1) dX9_image_18 rfl rfl rfl ?_
      refine J_aald5N (pc' := 20) dX9_image_19 rfl (x_s1 hs) (x_n hs (Nat.le_of_ble_eq_true rfl)) hin hr ?_
      refine J_ifnnN (pc' := 23) dX9_image_20 rfl ?_
      refine J_aload_n (pc' := 24) (i := 0) (n := 0) dX9_image_23 rfl rfl rfl ?_
      refine J_getR (pc' := 27) (b := 1) dX9_image_24 rfl fl_X9_11 rfl (x_o hs) (x_n hs (Nat.le_of_ble_eq_true rfl)) (x_r2 hs) ?_
      refine J_iload_n (pc' := 28) (i := 1) (n := 1) dX9_image_27 rfl rfl rfl ?_
      refine J_new (ci := 0) (pc' := 31) dX9_image_28 rfl (by decide) j_dv0 ⟨(j_in 127 (by decide +kernel) rfl), (j_in 217 (by decide +kernel) rfl), (j_in 109 (by decide +kernel) rfl)⟩ ⟨Nat.le_of_ble_eq_true rfl, Nat.le_of_ble_eq_true rfl⟩ (by omega) ?_
      have hN17 : 35 ≤ j_N M := hs.1
      have hb17 := x_b17 hs
      have sS : ∀ a, a < j_N M → j_S (j_nw M (10 + 0, 0)) a = j_S M a := fun a ha => j_S_nwn (by omega)
      have sR : ∀ a k, a < j_N M → j_R (j_nw M (10 + 0, 0)) a k = j_R M a k := fun a k ha => j_R_nwn (by omega)
      have hkk : sh_kk (j_nw M (10 + 0, 0)).2.2 := sh_b_kk (sh_b_mono hb17 (fun a ha => sS a ha) (fun a k ha _ => sR a k ha) (by show j_N M ≤ j_N M + 1; omega) (by decide))
      refine J_dup (pc' := 32) dX9_image_31 rfl rfl ?_
      refine J_aload_n (pc' := 33) (i := 0) (n := 0) dX9_image_32 rfl rfl rfl ?_
      refine J_getR (pc' := 36) (b := 17) dX9_image_33 rfl fl_X9_75 rfl (by rw [sS 0 (by omega)]; exact x_o hs) (by rw [j_N_nw]; omega) (by rw [sR 0 0 (by omega)]; exact x_r0 hs) ?_
      refine J_getR (pc' := 39) (b := 10) dX9_image_36 rfl fl_X9_279 rfl (by rw [sS 17 (by omega)]; exact b_o hb17) (by rw [j_N_nw]; omega) (by rw [sR 17 0 (by omega)]; exact b_r0 hb17) ?_
      refine J_callIN (pc' := 42) (md' := md_X0_init) (d' := 4) (mcs' := (8, 254)) (as := [.ref 10]) (rest := [.ref (j_N M), .int x1, .ref 1]) (b := j_N M) dX9_image_39 rfl (⟨⟨j_inN 218 (by decide +kernel), (j_in 219 (by decide +kernel) rfl), (j_in 109 (by decide +kernel) rfl), rfl, rfl⟩, (j_in 220 (by decide +kernel) rfl), ⟨by decide, by decide, by decide +kernel⟩⟩ : j_lkIN RX9 72 md_X0_init 1) rfl (c_X0_init (by rw [j_N_nw]) (by rw [j_S_nw]) (by omega) hkk (by omega)) ⟨Nat.le_of_ble_eq_true rfl, Nat.le_of_ble_eq_true rfl⟩ (Nat.le_of_ble_eq_true rfl) ⟨Nat.le_of_ble_eq_true rfl, Nat.le_of_ble_eq_true rfl⟩ (j_kn ?_)
      show JJ l G md_X9_image (j_rm 6 (9, 266)) (9, 266) (9, 266) (po (some (.int r.1)) r.2) 42 [(0, .ref 0), (1, .int x1)] [.ref (j_N M), .int x1, .ref 1] (bInit (j_nw M (10 + 0, 0)) (j_N M))
      have bS : ∀ a, a ≤ j_N M → j_S (bInit (j_nw M (10 + 0, 0)) (j_N M)) a = j_S (j_nw M (10 + 0, 0)) a := fun a ha => bArr_S (by rw [j_N_nw]) ha
      have bN : j_N (bInit (j_nw M (10 + 0, 0)) (j_N M)) = j_N M + 9 := bArr_N (by rw [j_N_nw])
      refine J_aast5 (pc' := 43) (n := 2) dX9_image_42 rfl (by rw [bS 1 (by omega), sS 1 (by omega)]; exact x_s1 hs) (by rw [bN]; omega) hin (by rw [bS _ (Nat.le_refl _), j_S_nw]) (by rw [bN]; omega) ?_
      show JJ l G md_X9_image (j_rm 6 (9, 266)) (9, 266) (9, 266) (po (some (.int r.1)) r.2) 43 [(0, .ref 0), (1, .int x1)] [] (imN M x1)
      have hs2 : sh_x (imN M x1).2.2 := imN_x hs
      have hbb : sh_b (j_N M) (imN M x1).2.2 := imN_b (sh_b_kk hb17)
      have hr2 : j_R (imN M x1) 1 x1.toNatClampNeg = some (j_N M) := by
        have := imN_R1 (M := M) (x1 := x1) x1.toNatClampNeg (by omega)
        rw [if_pos rfl] at this
        exact this
      refine J_aload_n (pc' := 44) (i := 0) (n := 0) dX9_image_43 rfl rfl rfl ?_
      refine J_getR (pc' := 47) (b := 1) dX9_image_44 rfl fl_X9_11 rfl (x_o hs2) (x_n hs2 (Nat.le_of_ble_eq_true rfl)) (x_r2 hs2) ?_
      refine J_iload_n (pc' := 48) (i := 1) (n := 1) dX9_image_47 rfl rfl rfl ?_
      refine J_aald5 (pc' := 49) dX9_image_48 rfl (x_s1 hs2) (x_n hs2 (Nat.le_of_ble_eq_true rfl)) hin hr2 ?_
      refine J_aload_n (pc' := 50) (i := 0) (n := 0) dX9_image_49 rfl rfl rfl ?_
      refine J_getR (pc' := 53) (b := 17) dX9_image_50 rfl fl_X9_75 rfl (x_o hs2) (x_n hs2 (Nat.le_of_ble_eq_true rfl)) (x_r0 hs2) ?_
      refine J_callVN (pc' := 56) (as := [.ref 17]) (rest := []) dX9_image_53 rfl lk_X9_149 rfl 0 (by decide) rfl (b_o hbb) (b_no hbb) (c_X0_becomes hbb (x_b17 hs2) e) ⟨Nat.le_of_ble_eq_true rfl, Nat.le_of_ble_eq_true rfl⟩ (Nat.le_of_ble_eq_true rfl) ⟨Nat.le_of_ble_eq_true rfl, Nat.le_of_ble_eq_true rfl⟩ (j_kv ?_)
      refine J_iconst (pc' := 57) (v := (1 : Int32)) dX9_image_56 rfl ic_1 ?_
      exact J_iret rfl dX9_image_57 ⟨rfl, Nat.le_refl _⟩ (j_pW h)
    | some b =>
      rw [hr] at h
      rw [if_neg (by intro h; cases h)]
      obtain ⟨q, e, h⟩ := bi_inv h
      obtain ⟨ck, h⟩ := j_ck_inv h
      refine j_Sp.of (by decide) (Nat.le_of_ble_eq_true rfl) ?_
      show JJ l G md_X9_image (j_rm 6 (0, 0)) (0, 0) (0, 0) (po (some (.int r.1)) r.2) 0 [(0, .ref 0), (1, .int x1)] [] M
      refine J_iload_n (pc' := 1) (i := 1) (n := 1) dX9_image_0 rfl rfl rfl ?_
      refine J_iconst (pc' := 2) (v := (0 : Int32)) dX9_image_1 rfl ic_0 ?_
      refine J_iconst (pc' := 3) (v := (1 : Int32)) dX9_image_2 rfl ic_1 ?_
      refine J_callS (pc' := 6) (as := [.int x1, .int (0 : Int32), .int (1 : Int32)]) (rest := []) dX9_image_3 rfl lk_X9_92 rfl (c_X9_within (M := M) rfl) ⟨Nat.le_of_ble_eq_true rfl, Nat.le_of_ble_eq_true rfl⟩ (Nat.le_of_ble_eq_true rfl) ⟨Nat.le_of_ble_eq_true rfl, Nat.le_of_ble_eq_true rfl⟩ (j_kq ?_)
      refine J_if_ne (pc' := 9) (tgt := 14) dX9_image_6 rfl (by decide) (fun _ => ?_) (fun c' => absurd c' c)
      refine J_aload_n (pc' := 15) (i := 0) (n := 0) dX9_image_14 rfl rfl rfl ?_
      refine J_getR (pc' := 18) (b := 1) dX9_image_15 rfl fl_X9_11 rfl (x_o hs) (x_n hs (Nat.le_of_ble_eq_true rfl)) (x_r2 hs) ?_
      refine J_iload_n (pc' := 19) (i := 1) (n := 1) dX9_image_18 rfl rfl rfl ?_
      refine J_aald5 (pc' := 20) dX9_image_19 rfl (x_s1 hs) (x_n hs (Nat.le_of_ble_eq_true rfl)) hin hr ?_
      refine J_ifnn (tgt := 43) dX9_image_20 (by decide) ?_
      refine J_aload_n (pc' := 44) (i := 0) (n := 0) dX9_image_43 rfl rfl rfl ?_
      refine J_getR (pc' := 47) (b := 1) dX9_image_44 rfl fl_X9_11 rfl (x_o hs) (x_n hs (Nat.le_of_ble_eq_true rfl)) (x_r2 hs) ?_
      refine J_iload_n (pc' := 48) (i := 1) (n := 1) dX9_image_47 rfl rfl rfl ?_
      refine J_aald5 (pc' := 49) dX9_image_48 rfl (x_s1 hs) (x_n hs (Nat.le_of_ble_eq_true rfl)) hin hr ?_
      refine J_aload_n (pc' := 50) (i := 0) (n := 0) dX9_image_49 rfl rfl rfl ?_
      refine J_getR (pc' := 53) (b := 17) dX9_image_50 rfl fl_X9_75 rfl (x_o hs) (x_n hs (Nat.le_of_ble_eq_true rfl)) (x_r0 hs) ?_
      have hb := hi _ hlt b hr
      refine J_callVN (pc' := 56) (as := [.ref 17]) (rest := []) dX9_image_53 rfl lk_X9_149 rfl 0 (by decide) rfl (b_o hb) (b_no hb) (c_X0_becomes hb (x_b17 hs) e) ⟨Nat.le_of_ble_eq_true rfl, Nat.le_of_ble_eq_true rfl⟩ (Nat.le_of_ble_eq_true rfl) ⟨Nat.le_of_ble_eq_true rfl, Nat.le_of_ble_eq_true rfl⟩ (j_kv ?_)
      refine J_iconst (pc' := 57) (v := (1 : Int32)) dX9_image_56 rfl ic_1 ?_
      exact J_iret rfl dX9_image_57 ⟨rfl, Nat.le_refl _⟩ (j_pW h)
