theorem j_out0_34 {x : Int32} (c0 : ¬ x = (0 : Int32)) (c1 : ¬ x = (1 : Int32)) (c2 : ¬ x = (2 : Int32)) (c3 : ¬ x = (3 : Int32)) (c4 : ¬ x = (4 : Int32)) (c5 : ¬ x = (5 : Int32)) (c6 : ¬ x = (6 : Int32)) (c7 : ¬ x = (7 : Int32)) (c8 : ¬ x = (8 : Int32)) (c9 : ¬ x = (9 : Int32)) (c10 : ¬ x = (10 : Int32)) (c11 : ¬ x = (11 : Int32)) (c12 : ¬ x = (12 : Int32)) (c13 : ¬ x = (13 : Int32)) (c14 : ¬ x = (14 : Int32)) (c15 : ¬ x = (15 : Int32)) (c16 : ¬ x = (16 : Int32)) (c17 : ¬ x = (17 : Int32)) (c18 : ¬ x = (18 : Int32)) (c19 : ¬ x = (19 : Int32)) (c20 : ¬ x = (20 : Int32)) (c21 : ¬ x = (21 : Int32)) (c22 : ¬ x = (22 : Int32)) (c23 : ¬ x = (23 : Int32)) (c24 : ¬ x = (24 : Int32)) (c25 : ¬ x = (25 : Int32)) (c26 : ¬ x = (26 : Int32)) (c27 : ¬ x = (27 : Int32)) (c28 : ¬ x = (28 : Int32)) (c29 : ¬ x = (29 : Int32)) (c30 : ¬ x = (30 : Int32)) (c31 : ¬ x = (31 : Int32)) (c32 : ¬ x = (32 : Int32)) (c33 : ¬ x = (33 : Int32)) (c34 : ¬ x = (34 : Int32)) : x.toInt < 0 ∨ 34 < x.toInt := by
  have h0 := lv_neT c0 (show ((0 : Int32)).toInt = 0 from rfl)
  have h1 := lv_neT c1 (show ((1 : Int32)).toInt = 1 from rfl)
  have h2 := lv_neT c2 (show ((2 : Int32)).toInt = 2 from rfl)
  have h3 := lv_neT c3 (show ((3 : Int32)).toInt = 3 from rfl)
  have h4 := lv_neT c4 (show ((4 : Int32)).toInt = 4 from rfl)
  have h5 := lv_neT c5 (show ((5 : Int32)).toInt = 5 from rfl)
  have h6 := lv_neT c6 (show ((6 : Int32)).toInt = 6 from rfl)
  have h7 := lv_neT c7 (show ((7 : Int32)).toInt = 7 from rfl)
  have h8 := lv_neT c8 (show ((8 : Int32)).toInt = 8 from rfl)
  have h9 := lv_neT c9 (show ((9 : Int32)).toInt = 9 from rfl)
  have h10 := lv_neT c10 (show ((10 : Int32)).toInt = 10 from rfl)
  have h11 := lv_neT c11 (show ((11 : Int32)).toInt = 11 from rfl)
  have h12 := lv_neT c12 (show ((12 : Int32)).toInt = 12 from rfl)
  have h13 := lv_neT c13 (show ((13 : Int32)).toInt = 13 from rfl)
  have h14 := lv_neT c14 (show ((14 : Int32)).toInt = 14 from rfl)
  have h15 := lv_neT c15 (show ((15 : Int32)).toInt = 15 from rfl)
  have h16 := lv_neT c16 (show ((16 : Int32)).toInt = 16 from rfl)
  have h17 := lv_neT c17 (show ((17 : Int32)).toInt = 17 from rfl)
  have h18 := lv_neT c18 (show ((18 : Int32)).toInt = 18 from rfl)
  have h19 := lv_neT c19 (show ((19 : Int32)).toInt = 19 from rfl)
  have h20 := lv_neT c20 (show ((20 : Int32)).toInt = 20 from rfl)
  have h21 := lv_neT c21 (show ((21 : Int32)).toInt = 21 from rfl)
  have h22 := lv_neT c22 (show ((22 : Int32)).toInt = 22 from rfl)
  have h23 := lv_neT c23 (show ((23 : Int32)).toInt = 23 from rfl)
  have h24 := lv_neT c24 (show ((24 : Int32)).toInt = 24 from rfl)
  have h25 := lv_neT c25 (show ((25 : Int32)).toInt = 25 from rfl)
  have h26 := lv_neT c26 (show ((26 : Int32)).toInt = 26 from rfl)
  have h27 := lv_neT c27 (show ((27 : Int32)).toInt = 27 from rfl)
  have h28 := lv_neT c28 (show ((28 : Int32)).toInt = 28 from rfl)
  have h29 := lv_neT c29 (show ((29 : Int32)).toInt = 29 from rfl)
  have h30 := lv_neT c30 (show ((30 : Int32)).toInt = 30 from rfl)
  have h31 := lv_neT c31 (show ((31 : Int32)).toInt = 31 from rfl)
  have h32 := lv_neT c32 (show ((32 : Int32)).toInt = 32 from rfl)
  have h33 := lv_neT c33 (show ((33 : Int32)).toInt = 33 from rfl)
  have h34 := lv_neT c34 (show ((34 : Int32)).toInt = 34 from rfl)
  omega
theorem lw_tI {k : Nat} (h : k ≤ 1000) : (Int32.ofNat k).toInt = (k : Int) := by
  have := Int32.toInt_ofNat_of_lt (n := k) (by omega)
  exact this
theorem lw_tN {k : Nat} (h : k ≤ 1000) : (Int32.ofNat k).toNatClampNeg = k := by
  rw [← Int32.toNat_toInt, lw_tI h]; rfl
theorem lw_ad (k j : Nat) : Int32.ofNat k + Int32.ofNat j = Int32.ofNat (k + j) := (Int32.ofNat_add k j).symm
theorem lw_sub {L : Nat} (h : L ≤ 384) : (Int32.ofNat L - 6).toInt = (L : Int) - 6 := by
  rw [Int32.toInt_sub, lw_tI (by omega)]
  show ((L : Int) - 6).bmod (2 ^ 32) = _
  rw [Int.bmod_eq_of_le] <;> omega
theorem lw_vin {k L : Nat} (hL : L ≤ 384) (h : k < L) : vp_in (Int32.ofNat k) L := by
  intro h2
  rcases h2 with h2 | h2
  · have := Int32.lt_iff_toInt_lt.mp h2
    rw [lw_tI (by omega)] at this
    simp at this
    omega
  · rw [lw_tN (by omega)] at h2; omega
theorem lw_inK {G : j_G} {k : Nat} (hL : G.2.2.2 40 ≤ 384) (h : k + 6 ≤ G.2.2.2 40) : lw_in G (Int32.ofNat k) :=
  ⟨lw_vin hL (by omega), by rw [show (1 : Int32) = Int32.ofNat 1 from rfl, lw_ad]; exact lw_vin hL (by omega), by rw [show (2 : Int32) = Int32.ofNat 2 from rfl, lw_ad]; exact lw_vin hL (by omega), by rw [show (3 : Int32) = Int32.ofNat 3 from rfl, lw_ad]; exact lw_vin hL (by omega), by rw [show (4 : Int32) = Int32.ofNat 4 from rfl, lw_ad]; exact lw_vin hL (by omega), by rw [show (5 : Int32) = Int32.ofNat 5 from rfl, lw_ad]; exact lw_vin hL (by omega)⟩
/-- both answer alike, and what holds goes on -/
def lw_ok {α : Type} (Inv : j_M → Prop) (f9 f10 : j_M → Option (α × j_M)) : Prop := ∀ M, Inv M → ∃ r M1 M2, f9 M = some (r, M1) ∧ sh_m M1.2.2 ∧ f10 M1 = some (r, M2) ∧ Inv M2 ∧ j_N M2 = j_N M
def lw_bs (Inv : j_M → Prop) : Prop := ∀ M, Inv M → sh_x M.2.2 ∧ sh_m M.2.2 ∧ sh_i M.2.2 ∧ j_N M ≤ 69
def lw_im (Inv : j_M → Prop) : Prop := ∀ x M, Inv M → ∃ r M1 M2, f_X9_image M x = some (r, M1) ∧ sh_m M1.2.2 ∧ f_X10_image M1 x = some (r, M2) ∧ Inv M2 ∧ j_N M2 = j_N M + (im_n M x).1
def lw_dg (Inv : j_M → Prop) : Prop := ∀ M, Inv M → ∃ r, f_X9_digest M = some r ∧ f_X10_digest M = some r
def lw_Po : Option Value → j_M → Prop := fun v _ => v = some (.int 1)
theorem lw_next {l : Launch} {G : j_G} {nm : String} {mcs : Nat × Nat} {Po : Option Value → j_M → Prop} {i : Int32} {s : Nat} {M : j_M} {cs : Nat × Nat} (k : JJ l G (md_law nm) room_1 cs mcs Po 18 [(3, .int (i + 6)), (2, .ref 35), (1, .ref 0), (0, .ref 1000030)] [] M) : JJ l G (md_law nm) room_1 cs mcs Po 1175 [(3, .int i), (2, .ref 35), (1, .ref 0), (0, .ref 1000030)] [] M := by
  refine J_iinc (pc' := 1178) (i := 3) (n := 0) (lv' := [(3, .int (i + 6)), (2, .ref 35), (1, .ref 0), (0, .ref 1000030)]) dL_law_1175 rfl rfl rfl (by show 3 < 4; decide) rfl ?_
  refine J_goto (pc' := 18) dL_law_1178 (by decide) ?_
  exact k
theorem lw_exit {l : Launch} {G : j_G} {nm : String} {mcs : Nat × Nat} {Po : Option Value → j_M → Prop} {i : Int32} {s : Nat} {M : j_M} (hL : G.2.2.2 40 ≤ 384) {k : Nat} (hk : k ≤ 400) (h : ¬ k + 6 ≤ G.2.2.2 40) (hs : s ≤ 7000000) : JJ l G (md_law nm) room_1 (j_N M, s) (j_N M, 7000000) lw_Po 18 [(3, .int (Int32.ofNat k)), (2, .ref 35), (1, .ref 0), (0, .ref 1000030)] [] M := by
  refine J_iload_n (pc' := 19) (i := 3) (n := 0) dL_law_18 rfl rfl rfl ?_
  refine J_aload_n (pc' := 20) (i := 0) (n := 3) dL_law_19 rfl rfl rfl ?_
  refine J_sln (pc' := 21) dL_law_20 rfl ?_
  refine J_bipush (pc' := 23) (v := (6 : Int32)) dL_law_21 rfl (by decide) ?_
  refine J_isub (pc' := 24) dL_law_23 rfl ?_
  refine J_icmp_gt (pc' := 27) (tgt := 1181) dL_law_24 rfl (by decide) (fun _ => ?_) (fun c => absurd (Int32.lt_iff_toInt_lt.mpr (by rw [lw_sub hL, lw_tI (by omega)]; omega)) c)
  refine J_iconst (pc' := 1182) (v := (1 : Int32)) dL_law_1181 rfl (by decide) ?_
  exact J_zret (ty := .boolean) rfl rfl dL_law_1182 ⟨rfl, hs⟩ rfl
theorem lw_enter {l : Launch} {G : j_G} {nm : String} {mcs : Nat × Nat} {Po : Option Value → j_M → Prop} {i : Int32} {s : Nat} {M : j_M} (hL : G.2.2.2 40 ≤ 384) {k : Nat} (h : k + 6 ≤ G.2.2.2 40) {cs : Nat × Nat} (kk : JJ l G (md_law nm) room_1 cs mcs Po 33 [(3, .int (Int32.ofNat k)), (2, .ref 35), (1, .ref 0), (0, .ref 1000030)] [.int (sv G (Int32.ofNat k) &&& 63)] M) : JJ l G (md_law nm) room_1 cs mcs Po 18 [(3, .int (Int32.ofNat k)), (2, .ref 35), (1, .ref 0), (0, .ref 1000030)] [] M := by
  refine J_iload_n (pc' := 19) (i := 3) (n := 0) dL_law_18 rfl rfl rfl ?_
  refine J_aload_n (pc' := 20) (i := 0) (n := 3) dL_law_19 rfl rfl rfl ?_
  refine J_sln (pc' := 21) dL_law_20 rfl ?_
  refine J_bipush (pc' := 23) (v := (6 : Int32)) dL_law_21 rfl (by decide) ?_
  refine J_isub (pc' := 24) dL_law_23 rfl ?_
  refine J_icmp_gt (pc' := 27) (tgt := 1181) dL_law_24 rfl (by decide) (fun c => absurd (Int32.lt_iff_toInt_lt.mp c) (by rw [lw_sub hL, lw_tI (by omega)]; omega)) (fun _ => ?_)
  refine J_aload_n (pc' := 28) (i := 0) (n := 3) dL_law_27 rfl rfl rfl ?_
  refine J_iload_n (pc' := 29) (i := 3) (n := 0) dL_law_28 rfl rfl rfl ?_
  refine J_sld (pc' := 30) dL_law_29 rfl (lw_vin hL (by omega)) ?_
  refine J_bipush (pc' := 32) (v := (63 : Int32)) dL_law_30 rfl (by decide) ?_
  refine J_iand (pc' := 33) dL_law_32 rfl ?_
  exact kk
/-- all of the ops -/
def lw_ops (Inv : j_M → Prop) : Prop := (lw_ok Inv (fun M => f_X9_bath M ) (fun M => f_X10_bath M )) ∧ (∀ a1 a2 : Int32, lw_ok Inv (fun M => f_X9_sign M a1 a2) (fun M => f_X10_sign M a1 a2)) ∧ (∀ a1 a2 : Int32, lw_ok Inv (fun M => f_X9_shut M a1 a2) (fun M => f_X10_shut M a1 a2)) ∧ (∀ a1 a2 a3 : Int32, lw_ok Inv (fun M => f_X9_one M a1 a2 a3) (fun M => f_X10_one M a1 a2 a3)) ∧ (∀ a1 : Int32, lw_ok Inv (fun M => f_X9_type M a1) (fun M => f_X10_type M a1)) ∧ (lw_ok Inv (fun M => f_X9_clear M ) (fun M => f_X10_clear M )) ∧ (lw_ok Inv (fun M => f_X9_read M ) (fun M => f_X10_read M )) ∧ (∀ a1 a2 : Int32, lw_ok Inv (fun M => f_X9_goes M a1 a2) (fun M => f_X10_goes M a1 a2)) ∧ (∀ a1 : Int32, lw_ok Inv (fun M => f_X9_minute M a1) (fun M => f_X10_minute M a1)) ∧ (lw_ok Inv (fun M => f_X9_undo M ) (fun M => f_X10_undo M )) ∧ (∀ a1 a2 : Int32, lw_ok Inv (fun M => f_X9_of M a1 a2) (fun M => f_X10_of M a1 a2)) ∧ (∀ a1 a2 : Int32, lw_ok Inv (fun M => f_X9_lane M a1 a2) (fun M => f_X10_lane M a1 a2)) ∧ (∀ a1 a2 a3 : Int32, lw_ok Inv (fun M => f_X9_seconds M a1 a2 a3) (fun M => f_X10_seconds M a1 a2 a3)) ∧ (∀ a1 a2 : Int32, lw_ok Inv (fun M => f_X9_lengths M a1 a2) (fun M => f_X10_lengths M a1 a2)) ∧ (∀ a1 : Int32, lw_ok Inv (fun M => f_X9_best M a1) (fun M => f_X10_best M a1)) ∧ (∀ a1 a2 : Int32, lw_ok Inv (fun M => f_X9_cost M a1 a2) (fun M => f_X10_cost M a1 a2)) ∧ (∀ a1 : Int32, lw_ok Inv (fun M => f_X9_where M a1) (fun M => f_X10_where M a1)) ∧ (∀ a1 : Int32, lw_ok Inv (fun M => f_X9_obey M a1) (fun M => f_X10_obey M a1)) ∧ (∀ a1 : Int32, lw_ok Inv (fun M => f_X9_all M a1) (fun M => f_X10_all M a1)) ∧ (∀ a1 : Int32, lw_ok Inv (fun M => f_X9_changes M a1) (fun M => f_X10_changes M a1)) ∧ (∀ a1 a2 a3 a4 : Int32, lw_ok Inv (fun M => f_X9_order M a1 a2 a3 a4) (fun M => f_X10_order M a1 a2 a3 a4)) ∧ (∀ a1 a2 : Int32, lw_ok Inv (fun M => f_X9_apart M a1 a2) (fun M => f_X10_apart M a1 a2)) ∧ (∀ a1 a2 a3 a4 a5 : Int32, lw_ok Inv (fun M => f_X9_note M a1 a2 a3 a4 a5) (fun M => f_X10_note M a1 a2 a3 a4 a5)) ∧ (lw_ok Inv (fun M => f_X9_forget M ) (fun M => f_X10_forget M )) ∧ (∀ a1 a2 : Int32, lw_ok Inv (fun M => f_X9_is M a1 a2) (fun M => f_X10_is M a1 a2)) ∧ (∀ a1 : Int32, lw_ok Inv (fun M => f_X9_look M a1) (fun M => f_X10_look M a1)) ∧ (∀ a1 a2 : Int32, lw_ok Inv (fun M => f_X9_touch M a1 a2) (fun M => f_X10_touch M a1 a2)) ∧ (∀ a1 a2 a3 : Int32, lw_ok Inv (fun M => f_X9_counts M a1 a2 a3) (fun M => f_X10_counts M a1 a2 a3)) ∧ (∀ a1 a2 : Int32, lw_ok Inv (fun M => f_X9_mornings M a1 a2) (fun M => f_X10_mornings M a1 a2)) ∧ (∀ a1 : Int32, lw_ok Inv (fun M => f_X9_part M a1) (fun M => f_X10_part M a1)) ∧ (lw_im Inv) ∧ (∀ a1 : Int32, lw_ok Inv (fun M => f_X9_from M a1) (fun M => f_X10_from M a1)) ∧ (∀ a1 : Int32, lw_ok Inv (fun M => f_X9_status M a1) (fun M => f_X10_status M a1)) ∧ (∀ a1 : Int32, lw_ok Inv (fun M => f_X9_count M a1) (fun M => f_X10_count M a1)) ∧ (lw_dg Inv)
set_option maxHeartbeats 8000000 in
theorem lw_loop {l : Launch} {G : j_G} {nm : String} {Inv : j_M → Prop} (hb : lw_bs Inv) (ho : lw_ops Inv) (hL : G.2.2.2 40 ≤ 384) : ∀ n k : Nat, G.2.2.2 40 ≤ k + n → k ≤ 390 → ∀ M, Inv M → ∃ mc, mc ≤ 69 ∧ JJ l G (md_law nm) room_1 (j_N M, 2000 + 30 * j_N M) (mc, 7000000) lw_Po 18 [(3, .int (Int32.ofNat k)), (2, .ref 35), (1, .ref 0), (0, .ref 1000030)] [] M := by
  intro n
  induction n with
  | zero =>
    intro k h1 h2 M hI
    have h0 := hb M hI
    exact ⟨j_N M, h0.2.2.2, lw_exit (l := l) (nm := nm) (i := 0) (mcs := (0, 0)) (Po := lw_Po) hL (by omega) (by omega) (by omega)⟩
  | succ n ih =>
    intro k h1 h2 M hI
    obtain ⟨hs, hm, hi, hN⟩ := hb M hI
    by_cases hk : k + 6 ≤ G.2.2.2 40
    · have ih' : ∀ M2, Inv M2 → ∃ mc, mc ≤ 69 ∧ JJ l G (md_law nm) room_1 (j_N M2, 2000 + 30 * j_N M2) (mc, 7000000) lw_Po 1175 [(3, .int (Int32.ofNat k)), (2, .ref 35), (1, .ref 0), (0, .ref 1000030)] [] M2 := fun M2 h => by
        obtain ⟨mc, a, b⟩ := ih (k + 6) (by omega) (by omega) M2 h
        refine ⟨mc, a, lw_next (l := l) (s := 0) ?_⟩
        rw [show Int32.ofNat k + 6 = Int32.ofNat (k + 6) from lw_ad k 6]
        exact b
      have hin := lw_inK hL hk
      have hc : j_N M ≤ 100 ∧ 2000 + 30 * j_N M ≤ 100000 := ⟨by omega, by omega⟩
      suffices hh : ∃ mc, mc ≤ 69 ∧ JJ l G (md_law nm) room_1 (j_N M, 2000 + 30 * j_N M) (mc, 7000000) lw_Po 33 [(3, .int (Int32.ofNat k)), (2, .ref 35), (1, .ref 0), (0, .ref 1000030)] [.int (sv G (Int32.ofNat k) &&& 63)] M by
        obtain ⟨mc, a, b⟩ := hh
        exact ⟨mc, a, lw_enter (l := l) (i := 0) (s := 0) hL hk b⟩
      obtain ⟨p_bath, p_sign, p_shut, p_one, p_type, p_clear, p_read, p_goes, p_minute, p_undo, p_of, p_lane, p_seconds, p_lengths, p_best, p_cost, p_where, p_obey, p_all, p_changes, p_order, p_apart, p_note, p_forget, p_is, p_look, p_touch, p_counts, p_mornings, p_part, p_image, p_from, p_status, p_count, p_digest⟩ := ho
      generalize hx : sv G (Int32.ofNat k) &&& 63 = x
      by_cases c0 : x = (0 : Int32)
      · obtain ⟨r, M1, M2, e1, hm1, e2, hI2, hN2⟩ := p_bath  M hI
        obtain ⟨mc, a, b⟩ := ih' M2 hI2
        rw [hN2] at b
        exact ⟨mc, a, J_tin (tgt := 188) dL_law_33 0 c0 ⟨by decide, by decide, rfl, by decide⟩ (lw_bath hin e1 hm1 e2 hs hm hi hc b)⟩
      by_cases c1 : x = (1 : Int32)
      · obtain ⟨r, M1, M2, e1, hm1, e2, hI2, hN2⟩ := p_sign (sv G (Int32.ofNat k + 1)) (sv G (Int32.ofNat k + 2)) M hI
        obtain ⟨mc, a, b⟩ := ih' M2 hI2
        rw [hN2] at b
        exact ⟨mc, a, J_tin (tgt := 201) dL_law_33 1 c1 ⟨by decide, by decide, rfl, by decide⟩ (lw_sign hin e1 hm1 e2 hs hm hi hc b)⟩
      by_cases c2 : x = (2 : Int32)
      · obtain ⟨r, M1, M2, e1, hm1, e2, hI2, hN2⟩ := p_shut (sv G (Int32.ofNat k + 1)) (sv G (Int32.ofNat k + 2)) M hI
        obtain ⟨mc, a, b⟩ := ih' M2 hI2
        rw [hN2] at b
        exact ⟨mc, a, J_tin (tgt := 234) dL_law_33 2 c2 ⟨by decide, by decide, rfl, by decide⟩ (lw_shut hin e1 hm1 e2 hs hm hi hc b)⟩
      by_cases c3 : x = (3 : Int32)
      · obtain ⟨r, M1, M2, e1, hm1, e2, hI2, hN2⟩ := p_one (sv G (Int32.ofNat k + 1)) (sv G (Int32.ofNat k + 2)) (sv G (Int32.ofNat k + 3)) M hI
        obtain ⟨mc, a, b⟩ := ih' M2 hI2
        rw [hN2] at b
        exact ⟨mc, a, J_tin (tgt := 267) dL_law_33 3 c3 ⟨by decide, by decide, rfl, by decide⟩ (lw_one hin e1 hm1 e2 hs hm hi hc b)⟩
      by_cases c4 : x = (4 : Int32)
      · obtain ⟨r, M1, M2, e1, hm1, e2, hI2, hN2⟩ := p_type (sv G (Int32.ofNat k + 1)) M hI
        obtain ⟨mc, a, b⟩ := ih' M2 hI2
        rw [hN2] at b
        exact ⟨mc, a, J_tin (tgt := 310) dL_law_33 4 c4 ⟨by decide, by decide, rfl, by decide⟩ (lw_type hin e1 hm1 e2 hs hm hi hc b)⟩
      by_cases c5 : x = (5 : Int32)
      · obtain ⟨r, M1, M2, e1, hm1, e2, hI2, hN2⟩ := p_clear  M hI
        obtain ⟨mc, a, b⟩ := ih' M2 hI2
        rw [hN2] at b
        exact ⟨mc, a, J_tin (tgt := 333) dL_law_33 5 c5 ⟨by decide, by decide, rfl, by decide⟩ (lw_clear hin e1 hm1 e2 hs hm hi hc b)⟩
      by_cases c6 : x = (6 : Int32)
      · obtain ⟨r, M1, M2, e1, hm1, e2, hI2, hN2⟩ := p_read  M hI
        obtain ⟨mc, a, b⟩ := ih' M2 hI2
        rw [hN2] at b
        exact ⟨mc, a, J_tin (tgt := 346) dL_law_33 6 c6 ⟨by decide, by decide, rfl, by decide⟩ (lw_read hin e1 hm1 e2 hs hm hi hc b)⟩
      by_cases c7 : x = (7 : Int32)
      · obtain ⟨r, M1, M2, e1, hm1, e2, hI2, hN2⟩ := p_goes (sv G (Int32.ofNat k + 1)) (sv G (Int32.ofNat k + 2)) M hI
        obtain ⟨mc, a, b⟩ := ih' M2 hI2
        rw [hN2] at b
        exact ⟨mc, a, J_tin (tgt := 359) dL_law_33 7 c7 ⟨by decide, by decide, rfl, by decide⟩ (lw_goes hin e1 hm1 e2 hs hm hi hc b)⟩
      by_cases c8 : x = (8 : Int32)
      · obtain ⟨r, M1, M2, e1, hm1, e2, hI2, hN2⟩ := p_minute (sv G (Int32.ofNat k + 1)) M hI
        obtain ⟨mc, a, b⟩ := ih' M2 hI2
        rw [hN2] at b
        exact ⟨mc, a, J_tin (tgt := 392) dL_law_33 8 c8 ⟨by decide, by decide, rfl, by decide⟩ (lw_minute hin e1 hm1 e2 hs hm hi hc b)⟩
      by_cases c9 : x = (9 : Int32)
      · obtain ⟨r, M1, M2, e1, hm1, e2, hI2, hN2⟩ := p_undo  M hI
        obtain ⟨mc, a, b⟩ := ih' M2 hI2
        rw [hN2] at b
        exact ⟨mc, a, J_tin (tgt := 415) dL_law_33 9 c9 ⟨by decide, by decide, rfl, by decide⟩ (lw_undo hin e1 hm1 e2 hs hm hi hc b)⟩
      by_cases c10 : x = (10 : Int32)
      · obtain ⟨r, M1, M2, e1, hm1, e2, hI2, hN2⟩ := p_of (sv G (Int32.ofNat k + 1)) (sv G (Int32.ofNat k + 2)) M hI
        obtain ⟨mc, a, b⟩ := ih' M2 hI2
        rw [hN2] at b
        exact ⟨mc, a, J_tin (tgt := 428) dL_law_33 10 c10 ⟨by decide, by decide, rfl, by decide⟩ (lw_of hin e1 hm1 e2 hs hm hi hc b)⟩
      by_cases c11 : x = (11 : Int32)
      · obtain ⟨r, M1, M2, e1, hm1, e2, hI2, hN2⟩ := p_lane (sv G (Int32.ofNat k + 1)) (sv G (Int32.ofNat k + 2)) M hI
        obtain ⟨mc, a, b⟩ := ih' M2 hI2
        rw [hN2] at b
        exact ⟨mc, a, J_tin (tgt := 461) dL_law_33 11 c11 ⟨by decide, by decide, rfl, by decide⟩ (lw_lane hin e1 hm1 e2 hs hm hi hc b)⟩
      by_cases c12 : x = (12 : Int32)
      · obtain ⟨r, M1, M2, e1, hm1, e2, hI2, hN2⟩ := p_seconds (sv G (Int32.ofNat k + 1)) (sv G (Int32.ofNat k + 2)) (sv G (Int32.ofNat k + 3)) M hI
        obtain ⟨mc, a, b⟩ := ih' M2 hI2
        rw [hN2] at b
        exact ⟨mc, a, J_tin (tgt := 494) dL_law_33 12 c12 ⟨by decide, by decide, rfl, by decide⟩ (lw_seconds hin e1 hm1 e2 hs hm hi hc b)⟩
      by_cases c13 : x = (13 : Int32)
      · obtain ⟨r, M1, M2, e1, hm1, e2, hI2, hN2⟩ := p_lengths (sv G (Int32.ofNat k + 1)) (sv G (Int32.ofNat k + 2)) M hI
        obtain ⟨mc, a, b⟩ := ih' M2 hI2
        rw [hN2] at b
        exact ⟨mc, a, J_tin (tgt := 537) dL_law_33 13 c13 ⟨by decide, by decide, rfl, by decide⟩ (lw_lengths hin e1 hm1 e2 hs hm hi hc b)⟩
      by_cases c14 : x = (14 : Int32)
      · obtain ⟨r, M1, M2, e1, hm1, e2, hI2, hN2⟩ := p_best (sv G (Int32.ofNat k + 1)) M hI
        obtain ⟨mc, a, b⟩ := ih' M2 hI2
        rw [hN2] at b
        exact ⟨mc, a, J_tin (tgt := 570) dL_law_33 14 c14 ⟨by decide, by decide, rfl, by decide⟩ (lw_best hin e1 hm1 e2 hs hm hi hc b)⟩
      by_cases c15 : x = (15 : Int32)
      · obtain ⟨r, M1, M2, e1, hm1, e2, hI2, hN2⟩ := p_cost (sv G (Int32.ofNat k + 1)) (sv G (Int32.ofNat k + 2)) M hI
        obtain ⟨mc, a, b⟩ := ih' M2 hI2
        rw [hN2] at b
        exact ⟨mc, a, J_tin (tgt := 593) dL_law_33 15 c15 ⟨by decide, by decide, rfl, by decide⟩ (lw_cost hin e1 hm1 e2 hs hm hi hc b)⟩
      by_cases c16 : x = (16 : Int32)
      · obtain ⟨r, M1, M2, e1, hm1, e2, hI2, hN2⟩ := p_where (sv G (Int32.ofNat k + 1)) M hI
        obtain ⟨mc, a, b⟩ := ih' M2 hI2
        rw [hN2] at b
        exact ⟨mc, a, J_tin (tgt := 626) dL_law_33 16 c16 ⟨by decide, by decide, rfl, by decide⟩ (lw_where hin e1 hm1 e2 hs hm hi hc b)⟩
      by_cases c17 : x = (17 : Int32)
      · obtain ⟨r, M1, M2, e1, hm1, e2, hI2, hN2⟩ := p_obey (sv G (Int32.ofNat k + 1)) M hI
        obtain ⟨mc, a, b⟩ := ih' M2 hI2
        rw [hN2] at b
        exact ⟨mc, a, J_tin (tgt := 649) dL_law_33 17 c17 ⟨by decide, by decide, rfl, by decide⟩ (lw_obey hin e1 hm1 e2 hs hm hi hc b)⟩
      by_cases c18 : x = (18 : Int32)
      · obtain ⟨r, M1, M2, e1, hm1, e2, hI2, hN2⟩ := p_all (sv G (Int32.ofNat k + 1)) M hI
        obtain ⟨mc, a, b⟩ := ih' M2 hI2
        rw [hN2] at b
        exact ⟨mc, a, J_tin (tgt := 672) dL_law_33 18 c18 ⟨by decide, by decide, rfl, by decide⟩ (lw_all hin e1 hm1 e2 hs hm hi hc b)⟩
      by_cases c19 : x = (19 : Int32)
      · obtain ⟨r, M1, M2, e1, hm1, e2, hI2, hN2⟩ := p_changes (sv G (Int32.ofNat k + 1)) M hI
        obtain ⟨mc, a, b⟩ := ih' M2 hI2
        rw [hN2] at b
        exact ⟨mc, a, J_tin (tgt := 695) dL_law_33 19 c19 ⟨by decide, by decide, rfl, by decide⟩ (lw_changes hin e1 hm1 e2 hs hm hi hc b)⟩
      by_cases c20 : x = (20 : Int32)
      · obtain ⟨r, M1, M2, e1, hm1, e2, hI2, hN2⟩ := p_order (sv G (Int32.ofNat k + 1)) (sv G (Int32.ofNat k + 2)) (sv G (Int32.ofNat k + 3)) (sv G (Int32.ofNat k + 4)) M hI
        obtain ⟨mc, a, b⟩ := ih' M2 hI2
        rw [hN2] at b
        exact ⟨mc, a, J_tin (tgt := 718) dL_law_33 20 c20 ⟨by decide, by decide, rfl, by decide⟩ (lw_order hin e1 hm1 e2 hs hm hi hc b)⟩
      by_cases c21 : x = (21 : Int32)
      · obtain ⟨r, M1, M2, e1, hm1, e2, hI2, hN2⟩ := p_apart (sv G (Int32.ofNat k + 1)) (sv G (Int32.ofNat k + 2)) M hI
        obtain ⟨mc, a, b⟩ := ih' M2 hI2
        rw [hN2] at b
        exact ⟨mc, a, J_tin (tgt := 771) dL_law_33 21 c21 ⟨by decide, by decide, rfl, by decide⟩ (lw_apart hin e1 hm1 e2 hs hm hi hc b)⟩
      by_cases c22 : x = (22 : Int32)
      · obtain ⟨r, M1, M2, e1, hm1, e2, hI2, hN2⟩ := p_note (sv G (Int32.ofNat k + 1)) (sv G (Int32.ofNat k + 2)) (sv G (Int32.ofNat k + 3)) (sv G (Int32.ofNat k + 4)) (sv G (Int32.ofNat k + 5)) M hI
        obtain ⟨mc, a, b⟩ := ih' M2 hI2
        rw [hN2] at b
        exact ⟨mc, a, J_tin (tgt := 804) dL_law_33 22 c22 ⟨by decide, by decide, rfl, by decide⟩ (lw_note hin e1 hm1 e2 hs hm hi hc b)⟩
      by_cases c23 : x = (23 : Int32)
      · obtain ⟨r, M1, M2, e1, hm1, e2, hI2, hN2⟩ := p_forget  M hI
        obtain ⟨mc, a, b⟩ := ih' M2 hI2
        rw [hN2] at b
        exact ⟨mc, a, J_tin (tgt := 867) dL_law_33 23 c23 ⟨by decide, by decide, rfl, by decide⟩ (lw_forget hin e1 hm1 e2 hs hm hi hc b)⟩
      by_cases c24 : x = (24 : Int32)
      · obtain ⟨r, M1, M2, e1, hm1, e2, hI2, hN2⟩ := p_is (sv G (Int32.ofNat k + 1)) (sv G (Int32.ofNat k + 2)) M hI
        obtain ⟨mc, a, b⟩ := ih' M2 hI2
        rw [hN2] at b
        exact ⟨mc, a, J_tin (tgt := 880) dL_law_33 24 c24 ⟨by decide, by decide, rfl, by decide⟩ (lw_is hin e1 hm1 e2 hs hm hi hc b)⟩
      by_cases c25 : x = (25 : Int32)
      · obtain ⟨r, M1, M2, e1, hm1, e2, hI2, hN2⟩ := p_look (sv G (Int32.ofNat k + 1)) M hI
        obtain ⟨mc, a, b⟩ := ih' M2 hI2
        rw [hN2] at b
        exact ⟨mc, a, J_tin (tgt := 913) dL_law_33 25 c25 ⟨by decide, by decide, rfl, by decide⟩ (lw_look hin e1 hm1 e2 hs hm hi hc b)⟩
      by_cases c26 : x = (26 : Int32)
      · obtain ⟨r, M1, M2, e1, hm1, e2, hI2, hN2⟩ := p_touch (sv G (Int32.ofNat k + 1)) (sv G (Int32.ofNat k + 2)) M hI
        obtain ⟨mc, a, b⟩ := ih' M2 hI2
        rw [hN2] at b
        exact ⟨mc, a, J_tin (tgt := 936) dL_law_33 26 c26 ⟨by decide, by decide, rfl, by decide⟩ (lw_touch hin e1 hm1 e2 hs hm hi hc b)⟩
      by_cases c27 : x = (27 : Int32)
      · obtain ⟨r, M1, M2, e1, hm1, e2, hI2, hN2⟩ := p_counts (sv G (Int32.ofNat k + 1)) (sv G (Int32.ofNat k + 2)) (sv G (Int32.ofNat k + 3)) M hI
        obtain ⟨mc, a, b⟩ := ih' M2 hI2
        rw [hN2] at b
        exact ⟨mc, a, J_tin (tgt := 969) dL_law_33 27 c27 ⟨by decide, by decide, rfl, by decide⟩ (lw_counts hin e1 hm1 e2 hs hm hi hc b)⟩
      by_cases c28 : x = (28 : Int32)
      · obtain ⟨r, M1, M2, e1, hm1, e2, hI2, hN2⟩ := p_mornings (sv G (Int32.ofNat k + 1)) (sv G (Int32.ofNat k + 2)) M hI
        obtain ⟨mc, a, b⟩ := ih' M2 hI2
        rw [hN2] at b
        exact ⟨mc, a, J_tin (tgt := 1012) dL_law_33 28 c28 ⟨by decide, by decide, rfl, by decide⟩ (lw_mornings hin e1 hm1 e2 hs hm hi hc b)⟩
      by_cases c29 : x = (29 : Int32)
      · obtain ⟨r, M1, M2, e1, hm1, e2, hI2, hN2⟩ := p_part (sv G (Int32.ofNat k + 1)) M hI
        obtain ⟨mc, a, b⟩ := ih' M2 hI2
        rw [hN2] at b
        exact ⟨mc, a, J_tin (tgt := 1045) dL_law_33 29 c29 ⟨by decide, by decide, rfl, by decide⟩ (lw_part hin e1 hm1 e2 hs hm hi hc b)⟩
      by_cases c30 : x = (30 : Int32)
      · obtain ⟨r, M1, M2, e1, hm1, e2, hI2, hN2⟩ := p_image (sv G (Int32.ofNat k + 1)) M hI
        obtain ⟨mc, a, b⟩ := ih' M2 hI2
        rw [hN2] at b
        have him : (im_n M (sv G (Int32.ofNat k + 1))).2 ≤ 30 * (im_n M (sv G (Int32.ofNat k + 1))).1 := by unfold im_n; split <;> (try split) <;> decide
        exact ⟨mc, a, J_tin (tgt := 1069) dL_law_33 30 c30 ⟨by decide, by decide, rfl, by decide⟩ (lw_image hin e1 hm1 e2 hs hm hi hc (J_wid (n := 2000 + 30 * (j_N M + (im_n M (sv G (Int32.ofNat k + 1))).1)) (by show 2000 + 30 * j_N M + (im_n M (sv G (Int32.ofNat k + 1))).2 ≤ _; omega) b))⟩
      by_cases c31 : x = (31 : Int32)
      · obtain ⟨r, M1, M2, e1, hm1, e2, hI2, hN2⟩ := p_from (sv G (Int32.ofNat k + 1)) M hI
        obtain ⟨mc, a, b⟩ := ih' M2 hI2
        rw [hN2] at b
        exact ⟨mc, a, J_tin (tgt := 1092) dL_law_33 31 c31 ⟨by decide, by decide, rfl, by decide⟩ (lw_from hin e1 hm1 e2 hs hm hi hc b)⟩
      by_cases c32 : x = (32 : Int32)
      · obtain ⟨r, M1, M2, e1, hm1, e2, hI2, hN2⟩ := p_status (sv G (Int32.ofNat k + 1)) M hI
        obtain ⟨mc, a, b⟩ := ih' M2 hI2
        rw [hN2] at b
        exact ⟨mc, a, J_tin (tgt := 1115) dL_law_33 32 c32 ⟨by decide, by decide, rfl, by decide⟩ (lw_status hin e1 hm1 e2 hs hm hi hc b)⟩
      by_cases c33 : x = (33 : Int32)
      · obtain ⟨r, M1, M2, e1, hm1, e2, hI2, hN2⟩ := p_count (sv G (Int32.ofNat k + 1)) M hI
        obtain ⟨mc, a, b⟩ := ih' M2 hI2
        rw [hN2] at b
        exact ⟨mc, a, J_tin (tgt := 1138) dL_law_33 33 c33 ⟨by decide, by decide, rfl, by decide⟩ (lw_count hin e1 hm1 e2 hs hm hi hc b)⟩
      by_cases c34 : x = (34 : Int32)
      · obtain ⟨r, e1, e2⟩ := p_digest M hI
        obtain ⟨mc, a, b⟩ := ih' M hI
        exact ⟨mc, a, J_tin (tgt := 1161) dL_law_33 34 c34 ⟨by decide, by decide, rfl, by decide⟩ (lw_digest hin e1 e2 hs hm hi hc b)⟩
      obtain ⟨mc, a, b⟩ := ih' M hI
      exact ⟨mc, a, J_tout (tgt := 1175) dL_law_33 (j_out0_34 c0 c1 c2 c3 c4 c5 c6 c7 c8 c9 c10 c11 c12 c13 c14 c15 c16 c17 c18 c19 c20 c21 c22 c23 c24 c25 c26 c27 c28 c29 c30 c31 c32 c33 c34) (by decide) b⟩
    · exact ⟨j_N M, hN, lw_exit (l := l) (nm := nm) (i := 0) (mcs := (0, 0)) (Po := lw_Po) hL (by omega) hk (by omega)⟩
/-- the empty memory -/
def k_e : j_M := (fun _ _ => 0, fun _ _ => 0, fun _ _ => none, fun _ => (0, 0), 0)
theorem lw_n9 : Cond.classLink RL 7 (j_vc 9).1 ∈ j_gt ∧ Cond.instantiable (j_vc 9).1 (j_nf 9) ∈ j_gt ∧ Cond.initialized (j_vc 9).1 ∈ j_gt := ⟨(j_in 119 (by decide +kernel) rfl), (j_in 120 (by decide +kernel) rfl), (j_in 100 (by decide +kernel) rfl)⟩
theorem lw_n10 : Cond.classLink RL 10 (j_vc 10).1 ∈ j_gt ∧ Cond.instantiable (j_vc 10).1 (j_nf 10) ∈ j_gt ∧ Cond.initialized (j_vc 10).1 ∈ j_gt := ⟨(j_in 889 (by decide +kernel) rfl), (j_in 890 (by decide +kernel) rfl), (j_in 112 (by decide +kernel) rfl)⟩
theorem lw_body {l : Launch} {G : j_G} {nm : String} {Inv : j_M → Prop} (hb : lw_bs Inv) (ho : lw_ops Inv) (hL : G.2.2.2 40 ≤ 384) {r : j_M} (h : f_X10_begin k_77 36 250 = some r) (hI : Inv r) (hN : j_N r = 51) : ∃ mc, mc ≤ 69 ∧ JJ l G (md_law nm) room_1 (0, 0) (mc, 7000000) lw_Po 0 [(0, .ref 1000030)] [] k_e := by
  obtain ⟨mc, a, b⟩ := lw_loop (l := l) (nm := nm) hb ho hL 390 0 (by omega) (by omega) r hI
  refine ⟨mc, a, ?_⟩
  refine J_new (ci := 9) (pc' := 3) dL_law_0 rfl (by decide) j_dv9 lw_n9 ⟨Nat.le_of_ble_eq_true rfl, Nat.le_of_ble_eq_true rfl⟩ (Nat.le_of_ble_eq_true rfl) ?_
  show JJ l G (md_law nm) room_1 (1, 12) (mc, 7000000) lw_Po 3 [(0, .ref 1000030)] [.ref 0] k_0
  refine J_dup (pc' := 4) dL_law_3 rfl rfl ?_
  refine J_callI (pc' := 7) (as := []) (rest := [.ref 0]) (b := 0) dL_law_4 rfl (⟨⟨(j_in 121 (by decide +kernel) rfl), (j_in 122 (by decide +kernel) rfl), (j_in 100 (by decide +kernel) rfl), rfl, rfl⟩, (j_in 123 (by decide +kernel) rfl), ⟨by decide, by decide, by decide +kernel⟩⟩ : j_lkI RL 9 md_X9_init 0) rfl c_X9_init ⟨Nat.le_of_ble_eq_true rfl, Nat.le_of_ble_eq_true rfl⟩ (Nat.le_of_ble_eq_true rfl) ⟨Nat.le_of_ble_eq_true rfl, Nat.le_of_ble_eq_true rfl⟩ (fun v M9 h9 => ?_)
  obtain ⟨rfl, rfl⟩ := h9
  refine J_astore_n (pc' := 8) (i := 1) (lv' := [(1, .ref 0), (0, .ref 1000030)]) dL_law_7 rfl rfl (Nat.le_of_ble_eq_true rfl) rfl ?_
  refine J_new (ci := 10) (pc' := 11) dL_law_8 rfl (by decide) j_dv10 lw_n10 ⟨Nat.le_of_ble_eq_true rfl, Nat.le_of_ble_eq_true rfl⟩ (Nat.le_of_ble_eq_true rfl) ?_
  show JJ l G (md_law nm) room_1 (36, 786) (mc, 7000000) lw_Po 11 [(1, .ref 0), (0, .ref 1000030)] [.ref 35] k_46
  refine J_dup (pc' := 12) dL_law_11 rfl rfl ?_
  refine J_callI (pc' := 15) (as := []) (rest := [.ref 35]) (b := 35) dL_law_12 rfl (⟨⟨(j_in 891 (by decide +kernel) rfl), (j_in 892 (by decide +kernel) rfl), (j_in 112 (by decide +kernel) rfl), rfl, rfl⟩, (j_in 893 (by decide +kernel) rfl), ⟨by decide, by decide, by decide +kernel⟩⟩ : j_lkI RL 12 md_X10_init 0) rfl (c_X10_init h) ⟨Nat.le_of_ble_eq_true rfl, Nat.le_of_ble_eq_true rfl⟩ (Nat.le_of_ble_eq_true rfl) ⟨Nat.le_of_ble_eq_true rfl, Nat.le_of_ble_eq_true rfl⟩ (fun v M9 h9 => ?_)
  obtain ⟨rfl, rfl⟩ := h9
  refine J_astore_n (pc' := 16) (i := 2) (lv' := [(2, .ref 35), (1, .ref 0), (0, .ref 1000030)]) dL_law_15 rfl rfl (Nat.le_of_ble_eq_true rfl) rfl ?_
  refine J_iconst (pc' := 17) (v := Int32.ofNat 0) dL_law_16 rfl (by decide) ?_
  refine J_istore_n (pc' := 18) (i := 3) (lv' := [(3, .int (Int32.ofNat 0)), (2, .ref 35), (1, .ref 0), (0, .ref 1000030)]) dL_law_17 rfl rfl (Nat.le_of_ble_eq_true rfl) rfl ?_
  rw [hN] at b
  show JJ l G (md_law nm) room_1 (51, 1818) (mc, 7000000) lw_Po 18 [(3, .int (Int32.ofNat 0)), (2, .ref 35), (1, .ref 0), (0, .ref 1000030)] [] M9
  exact J_wid (cs := (51, 1818)) (n := 2000 + 30 * 51) (by decide) b
