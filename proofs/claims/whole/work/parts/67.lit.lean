/-! literals as numbers, and a set of rules to reckon with -/
theorem i_0 : (0 : Int32) = nI 0 := rfl
theorem i_1 : (1 : Int32) = nI 1 := rfl
theorem i_2 : (2 : Int32) = nI 2 := rfl
theorem i_3 : (3 : Int32) = nI 3 := rfl
theorem i_4 : (4 : Int32) = nI 4 := rfl
theorem i_5 : (5 : Int32) = nI 5 := rfl
theorem i_6 : (6 : Int32) = nI 6 := rfl
theorem i_7 : (7 : Int32) = nI 7 := rfl
theorem i_8 : (8 : Int32) = nI 8 := rfl
theorem i_9 : (9 : Int32) = nI 9 := rfl
theorem i_10 : (10 : Int32) = nI 10 := rfl
theorem i_11 : (11 : Int32) = nI 11 := rfl
theorem i_12 : (12 : Int32) = nI 12 := rfl
theorem i_13 : (13 : Int32) = nI 13 := rfl
theorem i_14 : (14 : Int32) = nI 14 := rfl
theorem i_15 : (15 : Int32) = nI 15 := rfl
theorem i_16 : (16 : Int32) = nI 16 := rfl
theorem i_17 : (17 : Int32) = nI 17 := rfl
theorem i_18 : (18 : Int32) = nI 18 := rfl
theorem i_19 : (19 : Int32) = nI 19 := rfl
theorem i_20 : (20 : Int32) = nI 20 := rfl
theorem i_21 : (21 : Int32) = nI 21 := rfl
theorem i_22 : (22 : Int32) = nI 22 := rfl
theorem i_23 : (23 : Int32) = nI 23 := rfl
theorem i_24 : (24 : Int32) = nI 24 := rfl
theorem i_25 : (25 : Int32) = nI 25 := rfl
theorem i_26 : (26 : Int32) = nI 26 := rfl
theorem i_27 : (27 : Int32) = nI 27 := rfl
theorem i_28 : (28 : Int32) = nI 28 := rfl
theorem i_29 : (29 : Int32) = nI 29 := rfl
theorem i_30 : (30 : Int32) = nI 30 := rfl
theorem i_31 : (31 : Int32) = nI 31 := rfl
theorem i_32 : (32 : Int32) = nI 32 := rfl
theorem i_33 : (33 : Int32) = nI 33 := rfl
theorem i_34 : (34 : Int32) = nI 34 := rfl
theorem i_35 : (35 : Int32) = nI 35 := rfl
theorem i_36 : (36 : Int32) = nI 36 := rfl
theorem i_37 : (37 : Int32) = nI 37 := rfl
theorem i_38 : (38 : Int32) = nI 38 := rfl
theorem i_39 : (39 : Int32) = nI 39 := rfl
theorem i_40 : (40 : Int32) = nI 40 := rfl
theorem i_41 : (41 : Int32) = nI 41 := rfl
theorem i_42 : (42 : Int32) = nI 42 := rfl
theorem i_43 : (43 : Int32) = nI 43 := rfl
theorem i_44 : (44 : Int32) = nI 44 := rfl
theorem i_45 : (45 : Int32) = nI 45 := rfl
theorem i_46 : (46 : Int32) = nI 46 := rfl
theorem i_47 : (47 : Int32) = nI 47 := rfl
theorem i_48 : (48 : Int32) = nI 48 := rfl
theorem i_49 : (49 : Int32) = nI 49 := rfl
theorem i_50 : (50 : Int32) = nI 50 := rfl
theorem i_51 : (51 : Int32) = nI 51 := rfl
theorem i_52 : (52 : Int32) = nI 52 := rfl
theorem i_53 : (53 : Int32) = nI 53 := rfl
theorem i_54 : (54 : Int32) = nI 54 := rfl
theorem i_55 : (55 : Int32) = nI 55 := rfl
theorem i_56 : (56 : Int32) = nI 56 := rfl
theorem i_57 : (57 : Int32) = nI 57 := rfl
theorem i_58 : (58 : Int32) = nI 58 := rfl
theorem i_59 : (59 : Int32) = nI 59 := rfl
theorem i_60 : (60 : Int32) = nI 60 := rfl
theorem i_61 : (61 : Int32) = nI 61 := rfl
theorem i_62 : (62 : Int32) = nI 62 := rfl
theorem i_63 : (63 : Int32) = nI 63 := rfl
theorem i_65535 : (65535 : Int32) = nI 65535 := rfl
theorem i_65536 : (65536 : Int32) = nI 65536 := rfl
theorem i_74 : (74 : Int32) = nI 74 := rfl
theorem i_75 : (75 : Int32) = nI 75 := rfl
theorem i_76 : (76 : Int32) = nI 76 := rfl
theorem i_90 : (90 : Int32) = nI 90 := rfl
theorem i_97 : (97 : Int32) = nI 97 := rfl
theorem i_98 : (98 : Int32) = nI 98 := rfl
theorem i_100 : (100 : Int32) = nI 100 := rfl
theorem i_101 : (101 : Int32) = nI 101 := rfl
theorem i_103 : (103 : Int32) = nI 103 := rfl
theorem i_104 : (104 : Int32) = nI 104 := rfl
theorem i_105 : (105 : Int32) = nI 105 := rfl
theorem i_110 : (110 : Int32) = nI 110 := rfl
theorem i_111 : (111 : Int32) = nI 111 := rfl
theorem i_115 : (115 : Int32) = nI 115 := rfl
theorem i_116 : (116 : Int32) = nI 116 := rfl
theorem i_117 : (117 : Int32) = nI 117 := rfl
theorem i_122 : (122 : Int32) = nI 122 := rfl
theorem i_127 : (127 : Int32) = nI 127 := rfl
theorem i_150 : (150 : Int32) = nI 150 := rfl
theorem i_200 : (200 : Int32) = nI 200 := rfl
theorem i_250 : (250 : Int32) = nI 250 := rfl
theorem i_420 : (420 : Int32) = nI 420 := rfl
theorem i_427 : (427 : Int32) = nI 427 := rfl
theorem i_500 : (500 : Int32) = nI 500 := rfl
theorem i_600 : (600 : Int32) = nI 600 := rfl
theorem i_999 : (999 : Int32) = nI 999 := rfl
theorem i_999999 : (999999 : Int32) = nI 999999 := rfl
theorem i_1000000 : (1000000 : Int32) = nI 1000000 := rfl
theorem whoIsIn_L {M : j_M} {a0 n0 n : Nat} {f : Nat → Nat} (hn : j_I M a0 0 = nI n) (h7 : n ≤ 7) (h0 : 16 ≤ n0) (h1 : n0 < 2 ^ 31) (hr : ∀ k, k < 7 → j_I M a0 (9 + k) = nI (f k) ∧ f k < 2 ^ 31) {lane : Nat} (hl : lane < 2 ^ 31) : ∀ d p fuel K, p + d = n → d < fuel → f_X10_whoIsIn_L4 fuel a0 n0 M (nI lane) (nI (ms p (fun q => f q = lane))) (nI p) K = K (nI (ms n (fun q => f q = lane))) (nI n) := by
  intro d
  induction d with
  | zero =>
    intro p fuel K h1' h2
    obtain ⟨fuel, rfl⟩ : ∃ f, fuel = f + 1 := ⟨fuel - 1, by omega⟩
    rw [f_X10_whoIsIn_L4, i_0, a_iN (by omega) (by omega), hn, if_pos (nI_le (by omega) (by omega)), show p = n by omega]
  | succ d ih =>
    intro p fuel K h1' h2
    obtain ⟨fuel, rfl⟩ : ∃ f, fuel = f + 1 := ⟨fuel - 1, by omega⟩
    rw [f_X10_whoIsIn_L4, show (0 : Int32) = nI 0 from rfl, a_iN (by omega) (by omega), hn, if_neg (nI_ge (by omega) (by omega)), show (9 : Int32) + nI p = nI (9 + p) from nI_add 9 p, a_iN (by omega) (by omega), (hr p (by omega)).1, nI_1]
    have hlt := ms_lt p (fun q => f q = lane)
    have h128 := pow7 (n := p) (by omega)
    have hs : ms (p + 1) (fun q => f q = lane) = ms p (fun q => f q = lane) + (if f p = lane then 2 ^ p else 0) := by simp [ms, sm]
    by_cases hc : f p = lane
    · rw [if_pos (by rw [hc]), or_bit p (by omega) _ (by omega) hlt]
      rw [if_pos hc] at hs
      rw [← hs]
      exact ih (p + 1) fuel K (by omega) (by omega)
    · rw [if_neg (by rw [nI_eq (hr _ (by omega)).2 hl]; exact hc), show nI 0 = 0 from rfl, or_0]
      have hs : ms (p + 1) (fun q => f q = lane) = ms p (fun q => f q = lane) := by simpa [hc] using hs
      rw [← hs]
      exact ih (p + 1) fuel K (by omega) (by omega)
theorem e_whoIsIn {M : j_M} {a0 n0 n : Nat} {f : Nat → Nat} (hn : j_I M a0 0 = nI n) (h7 : n ≤ 7) (h0 : 16 ≤ n0) (h1 : n0 < 2 ^ 31) (hr : ∀ k, k < 7 → j_I M a0 (9 + k) = nI (f k) ∧ f k < 2 ^ 31) {lane : Nat} (hl : lane < 2 ^ 31) : f_X10_whoIsIn M a0 n0 (nI lane) = some (nI (ms n (fun q => f q = lane))) := by
  unfold f_X10_whoIsIn
  exact whoIsIn_L hn h7 h0 h1 hr hl n 0 j_fu _ (by omega) (by unfold j_fu; omega)
theorem shr_k : ∀ s, s < 16 → ∀ l, l < 4 → (nI s >>> (nI l &&& 31)) &&& (1 : Int32) = nI (s / 2 ^ l % 2) := by decide +kernel
/-- what the bath's row gives -/
theorem iB.row {M : j_M} {b : Nat} {be : Nat → Nat} (h : iB M b be) (w : wf be) : iR M (b + 5) (rowOf be) := fun k hk => by
  refine ⟨h.2.2.2.2.2.1 k hk, ?_⟩
  obtain ⟨w1, w2, w3, w4⟩ := w.2.2.2.2.2.2.1
  unfold rowOf
  split
  · omega
  · have h1 := w2 ((k - 1) % 7) (by omega)
    have h2 : k - 1 = (k - 1) % 7 ∨ k - 1 = 7 + (k - 1) % 7 ∨ k - 1 = 14 + (k - 1) % 7 := by omega
    simp only at h1
    rcases h2 with h2 | h2 | h2
    · rw [show 8 + k = 9 + (k - 1) % 7 by omega]; omega
    · rw [show 8 + k = 9 + (7 + (k - 1) % 7) by omega]; omega
    · rw [show 8 + k = 9 + (14 + (k - 1) % 7) by omega]; omega
theorem iM.at {M : j_M} {be : Nat → Nat} (h : iM M 36 0 be) {k : Nat} (hk : k < 250) : j_I M 36 k = nI (be k) := by have := h k hk; rwa [Nat.zero_add] at this
theorem wf.lane {be : Nat → Nat} (w : wf be) {p : Nat} (hp : p < 7) : be (9 + p) < 4 := (w.2.2.2.2.2.2.1.2.1 p hp).1
theorem op_lane (a1 a2 : Int32) : lw_ok Inv (fun M => f_X9_lane M a1 a2) (fun M => f_X10_lane M a1 a2) := by
  refine okI (fun M h => ?_)
  rcases rg (x := a1) (lo := 0) (hi := 3) (lo' := 0) (hi' := 3) 0 3 rfl rfl rfl rfl (by omega) (by omega) with ⟨h9, h10⟩ | ⟨l, -, hl, rfl, h9, h10⟩
  · refine ok_ref h 0 (by omega) (v := (-2 : Int32)) ?_ ?_
    · show f_X9_lane M a1 a2 = _
      unfold f_X9_lane f_X9_isLane
      simp only [tlE]
      rw [h9, if_pos rfl, bind_bad]
    · show f_X10_lane _ a1 a2 = _
      unfold f_X10_lane f_X10_isLane
      simp only [tlE]
      rw [h10, if_pos rfl, bind_bad10]
  · rcases rg (x := a2) (lo := 0) (hi := 2) (lo' := 0) (hi' := 2) 0 2 rfl rfl rfl rfl (by omega) (by omega) with ⟨g9, g10⟩ | ⟨n, -, hn, rfl, g9, g10⟩
    · have n0 : ¬ a2 = 0 := fun e => by rw [e] at g9; exact absurd g9 (by decide)
      have n1 : ¬ a2 = 1 := fun e => by rw [e] at g9; exact absurd g9 (by decide)
      have n2 : ¬ a2 = 2 := fun e => by rw [e] at g9; exact absurd g9 (by decide)
      refine ok_ref h 0 (by omega) (v := (-2 : Int32)) ?_ ?_
      · show f_X9_lane M (nI l) a2 = _
        unfold f_X9_lane f_X9_isLane
        simp only [tlE]
        rw [h9, if_neg (by decide), if_neg n0, if_neg n1, if_neg n2, bind_bad]
      · show f_X10_lane _ (nI l) a2 = _
        unfold f_X10_lane f_X10_isLane
        simp only [tlE]
        rw [h10, if_neg (by decide), g10, if_pos rfl, bind_bad10]
    · obtain ⟨be, b1, b2, b3⟩ := h.2.2.2.2.1
      have h4 := b1.2.2.2.1 l (by omega)
      have hm9 := e_members b1.1 b3.1 (b1.row b3) (lane := l) (by omega)
      have hm10 := e_whoIsIn (n0 := 250) (lane := l) (f := fun k => be (9 + k)) (b2.at (by omega)) b3.1 (by omega) (by omega) (fun k hk => ⟨b2.at (by omega), by have := b3.lane hk; omega⟩) (by omega)
      have hmm : (fun q => decide (rowOf be (1 + q) = l)) = fun q => decide (be (9 + q) = l) := by
        funext q
        unfold rowOf
        rw [if_neg (by omega), show 8 + (1 + q) = 9 + q by omega]
      rw [hmm] at hm9
      refine ok_nb h (v := if n = 0 then nI (be (4 + l)) else if n = 1 then nI (be 8 / 2 ^ l % 2) else nI (ms (be 0) (fun q => be (9 + q) = l))) (M1 := M) (M2 := M) ?_ nb.rf ?_ nb.rf
      · show f_X9_lane M (nI l) (nI n) = _
        unfold f_X9_lane f_X9_isLane
        simp only [tlE]
        rw [h9, if_neg (by decide)]
        rcases (show n = 0 ∨ n = 1 ∨ n = 2 by omega) with rfl | rfl | rfl
        · rw [if_pos rfl, a_iN (by omega) (by omega), h4.1]; rfl
        · rw [if_neg (by decide), if_pos rfl, a_iN (by omega) (by omega), h4.2]; rfl
        · rw [if_neg (by decide), if_neg (by decide), if_pos (show nI 2 = 2 from rfl), hm9]; rfl
      · show f_X10_lane M (nI l) (nI n) = _
        unfold f_X10_lane f_X10_isLane
        simp only [tlE]
        rw [h10, if_neg (by decide), g10, if_neg (by decide)]
        rcases (show n = 0 ∨ n = 1 ∨ n = 2 by omega) with rfl | rfl | rfl
        · rw [if_pos rfl, show (4 : Int32) + nI l = nI (4 + l) from nI_add 4 l, a_iN (by omega) (by omega), b2.at (by omega)]; rfl
        · rw [if_neg (by decide), if_pos rfl, i_8, a_iN (by omega) (by omega), b2.at (by omega), shr_k _ b3.2.2.2.1 l (by omega)]; rfl
        · rw [if_neg (by decide), if_neg (by decide), hm10]; rfl
