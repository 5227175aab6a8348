set_option maxHeartbeats 4000000 in
theorem lw_mornings {l : Launch} {G : j_G} {nm : String} {mcs : Nat × Nat} {Po : Option Value → j_M → Prop} {i : Int32} {s : Nat} (hin : lw_in G i) {M M1 M2 : j_M} {r : Int32} (e1 : f_X9_mornings M (sv G (i + 1)) (sv G (i + 2)) = some (r, M1)) (hm1 : sh_m M1.2.2) (e2 : f_X10_mornings M1 (sv G (i + 1)) (sv G (i + 2)) = some (r, M2)) (hs : sh_x M.2.2) (hm : sh_m M.2.2) (hi : sh_i M.2.2) (hc : j_N M ≤ 100 ∧ s ≤ 100000)
    (k : JJ l G (md_law nm) room_1 (j_N M, s) mcs Po 1175 [(3, .int i), (2, .ref 35), (1, .ref 0), (0, .ref 1000030)] [] M2) : JJ l G (md_law nm) room_1 (j_N M, s) mcs Po 1012 [(3, .int i), (2, .ref 35), (1, .ref 0), (0, .ref 1000030)] [] M := by
  refine J_aload_n (pc' := 1013) (i := 1) (n := 2) dL_law_1012 rfl rfl rfl ?_
  refine J_aload_n (pc' := 1014) (i := 0) (n := 3) dL_law_1013 rfl rfl rfl ?_
  refine J_iload_n (pc' := 1015) (i := 3) (n := 0) dL_law_1014 rfl rfl rfl ?_
  refine J_iconst (pc' := 1016) (v := (1 : Int32)) dL_law_1015 rfl (by decide) ?_
  refine J_iadd (pc' := 1017) dL_law_1016 rfl ?_
  refine J_sld (pc' := 1018) dL_law_1017 rfl hin.2.1 ?_
  refine J_aload_n (pc' := 1019) (i := 0) (n := 3) dL_law_1018 rfl rfl rfl ?_
  refine J_iload_n (pc' := 1020) (i := 3) (n := 0) dL_law_1019 rfl rfl rfl ?_
  refine J_iconst (pc' := 1021) (v := (2 : Int32)) dL_law_1020 rfl (by decide) ?_
  refine J_iadd (pc' := 1022) dL_law_1021 rfl ?_
  refine J_sld (pc' := 1023) dL_law_1022 rfl hin.2.2.1 ?_
  refine J_callV (pc' := 1026) (as := [.int (sv G (i + 1)), .int (sv G (i + 2))]) (rest := []) (b := 0) dL_law_1023 rfl (⟨⟨(j_in 833 (by decide +kernel) rfl), (j_in 834 (by decide +kernel) rfl), (j_in 835 (by decide +kernel) rfl), (j_in 100 (by decide +kernel) rfl)⟩, (j_in 836 (by decide +kernel) rfl), ⟨by decide, by decide, by decide +kernel⟩⟩ : j_lkV RL 131 md_X9_mornings 2) rfl 9 (by decide) rfl (x_o hs) (x_n hs (Nat.le_of_ble_eq_true rfl)) (c_X9_mornings hs e1) ⟨Nat.le_of_ble_eq_true rfl, Nat.le_of_ble_eq_true rfl⟩ (Nat.le_of_ble_eq_true rfl) ⟨by show j_N M + 0 ≤ 600000; omega, Nat.le_trans (show s + 0 ≤ 7000000 by omega) (by decide)⟩ (fun v M9 h9 => ?_)
  obtain ⟨rfl, rfl⟩ := h9
  refine J_aload_n (pc' := 1027) (i := 2) (n := 1) dL_law_1026 rfl rfl rfl ?_
  refine J_aload_n (pc' := 1028) (i := 0) (n := 3) dL_law_1027 rfl rfl rfl ?_
  refine J_iload_n (pc' := 1029) (i := 3) (n := 0) dL_law_1028 rfl rfl rfl ?_
  refine J_iconst (pc' := 1030) (v := (1 : Int32)) dL_law_1029 rfl (by decide) ?_
  refine J_iadd (pc' := 1031) dL_law_1030 rfl ?_
  refine J_sld (pc' := 1032) dL_law_1031 rfl hin.2.1 ?_
  refine J_aload_n (pc' := 1033) (i := 0) (n := 3) dL_law_1032 rfl rfl rfl ?_
  refine J_iload_n (pc' := 1034) (i := 3) (n := 0) dL_law_1033 rfl rfl rfl ?_
  refine J_iconst (pc' := 1035) (v := (2 : Int32)) dL_law_1034 rfl (by decide) ?_
  refine J_iadd (pc' := 1036) dL_law_1035 rfl ?_
  refine J_sld (pc' := 1037) dL_law_1036 rfl hin.2.2.1 ?_
  refine J_callV (pc' := 1040) (as := [.int (sv G (i + 1)), .int (sv G (i + 2))]) (rest := [.int r]) (b := 35) dL_law_1037 rfl (⟨⟨(j_in 1209 (by decide +kernel) rfl), (j_in 1210 (by decide +kernel) rfl), (j_in 1211 (by decide +kernel) rfl), (j_in 112 (by decide +kernel) rfl)⟩, (j_in 1212 (by decide +kernel) rfl), ⟨by decide, by decide, by decide +kernel⟩⟩ : j_lkV RL 134 md_X10_mornings 2) rfl 10 (by decide) rfl (m_o hm1) (m_n hm1 (Nat.le_of_ble_eq_true rfl)) (c_X10_mornings hm1 e2) ⟨Nat.le_of_ble_eq_true rfl, Nat.le_of_ble_eq_true rfl⟩ (Nat.le_of_ble_eq_true rfl) ⟨by show j_N M + 0 + 0 ≤ 600000; omega, Nat.le_trans (show s + 0 + 0 ≤ 7000000 by omega) (by decide)⟩ (fun v M9 h9 => ?_)
  obtain ⟨rfl, rfl⟩ := h9
  refine J_icmp_eq (pc' := 1043) (tgt := 1175) dL_law_1040 rfl (by decide) (fun _ => ?_) (fun c9 => absurd rfl c9)
  exact k
set_option maxHeartbeats 4000000 in
theorem lw_part {l : Launch} {G : j_G} {nm : String} {mcs : Nat × Nat} {Po : Option Value → j_M → Prop} {i : Int32} {s : Nat} (hin : lw_in G i) {M M1 M2 : j_M} {r : Int64} (e1 : f_X9_part M (sv G (i + 1)) = some (r, M1)) (hm1 : sh_m M1.2.2) (e2 : f_X10_part M1 (sv G (i + 1)) = some (r, M2)) (hs : sh_x M.2.2) (hm : sh_m M.2.2) (hi : sh_i M.2.2) (hc : j_N M ≤ 100 ∧ s ≤ 100000)
    (k : JJ l G (md_law nm) room_1 (j_N M, s) mcs Po 1175 [(3, .int i), (2, .ref 35), (1, .ref 0), (0, .ref 1000030)] [] M2) : JJ l G (md_law nm) room_1 (j_N M, s) mcs Po 1045 [(3, .int i), (2, .ref 35), (1, .ref 0), (0, .ref 1000030)] [] M := by
  refine J_aload_n (pc' := 1046) (i := 1) (n := 2) dL_law_1045 rfl rfl rfl ?_
  refine J_aload_n (pc' := 1047) (i := 0) (n := 3) dL_law_1046 rfl rfl rfl ?_
  refine J_iload_n (pc' := 1048) (i := 3) (n := 0) dL_law_1047 rfl rfl rfl ?_
  refine J_iconst (pc' := 1049) (v := (1 : Int32)) dL_law_1048 rfl (by decide) ?_
  refine J_iadd (pc' := 1050) dL_law_1049 rfl ?_
  refine J_sld (pc' := 1051) dL_law_1050 rfl hin.2.1 ?_
  refine J_callV (pc' := 1054) (as := [.int (sv G (i + 1))]) (rest := []) (b := 0) dL_law_1051 rfl (⟨⟨(j_in 846 (by decide +kernel) rfl), (j_in 847 (by decide +kernel) rfl), (j_in 848 (by decide +kernel) rfl), (j_in 100 (by decide +kernel) rfl)⟩, (j_in 849 (by decide +kernel) rfl), ⟨by decide, by decide, by decide +kernel⟩⟩ : j_lkV RL 135 md_X9_part 1) rfl 9 (by decide) rfl (x_o hs) (x_n hs (Nat.le_of_ble_eq_true rfl)) (c_X9_part hs e1) ⟨Nat.le_of_ble_eq_true rfl, Nat.le_of_ble_eq_true rfl⟩ (Nat.le_of_ble_eq_true rfl) ⟨by show j_N M + 0 ≤ 600000; omega, Nat.le_trans (show s + 0 ≤ 7000000 by omega) (by decide)⟩ (fun v M9 h9 => ?_)
  obtain ⟨rfl, rfl⟩ := h9
  refine J_aload_n (pc' := 1055) (i := 2) (n := 1) dL_law_1054 rfl rfl rfl ?_
  refine J_aload_n (pc' := 1056) (i := 0) (n := 3) dL_law_1055 rfl rfl rfl ?_
  refine J_iload_n (pc' := 1057) (i := 3) (n := 0) dL_law_1056 rfl rfl rfl ?_
  refine J_iconst (pc' := 1058) (v := (1 : Int32)) dL_law_1057 rfl (by decide) ?_
  refine J_iadd (pc' := 1059) dL_law_1058 rfl ?_
  refine J_sld (pc' := 1060) dL_law_1059 rfl hin.2.1 ?_
  refine J_callV (pc' := 1063) (as := [.int (sv G (i + 1))]) (rest := [.long r]) (b := 35) dL_law_1060 rfl (⟨⟨(j_in 1278 (by decide +kernel) rfl), (j_in 1279 (by decide +kernel) rfl), (j_in 1280 (by decide +kernel) rfl), (j_in 112 (by decide +kernel) rfl)⟩, (j_in 1281 (by decide +kernel) rfl), ⟨by decide, by decide, by decide +kernel⟩⟩ : j_lkV RL 139 md_X10_part 1) rfl 10 (by decide) rfl (m_o hm1) (m_n hm1 (Nat.le_of_ble_eq_true rfl)) (c_X10_part hm1 e2) ⟨Nat.le_of_ble_eq_true rfl, Nat.le_of_ble_eq_true rfl⟩ (Nat.le_of_ble_eq_true rfl) ⟨by show j_N M + 0 + 0 ≤ 600000; omega, Nat.le_trans (show s + 0 + 0 ≤ 7000000 by omega) (by decide)⟩ (fun v M9 h9 => ?_)
  obtain ⟨rfl, rfl⟩ := h9
  refine J_lcmp (pc' := 1064) dL_law_1063 rfl ?_
  refine J_if_eq (pc' := 1067) (tgt := 1175) dL_law_1064 rfl (by decide) (fun _ => ?_) (fun c9 => absurd (lg_cmp_self _) c9)
  exact k
set_option maxHeartbeats 4000000 in
theorem lw_image {l : Launch} {G : j_G} {nm : String} {mcs : Nat × Nat} {Po : Option Value → j_M → Prop} {i : Int32} {s : Nat} (hin : lw_in G i) {M M1 M2 : j_M} {r : Int32} (e1 : f_X9_image M (sv G (i + 1)) = some (r, M1)) (hm1 : sh_m M1.2.2) (e2 : f_X10_image M1 (sv G (i + 1)) = some (r, M2)) (hs : sh_x M.2.2) (hm : sh_m M.2.2) (hi : sh_i M.2.2) (hc : j_N M ≤ 100 ∧ s ≤ 100000)
    (k : JJ l G (md_law nm) room_1 (j_N M + (im_n M (sv G (i + 1))).1, s + (im_n M (sv G (i + 1))).2) mcs Po 1175 [(3, .int i), (2, .ref 35), (1, .ref 0), (0, .ref 1000030)] [] M2) : JJ l G (md_law nm) room_1 (j_N M, s) mcs Po 1069 [(3, .int i), (2, .ref 35), (1, .ref 0), (0, .ref 1000030)] [] M := by
  have hio : (im_n M (sv G (i + 1))).1 ≤ 9 ∧ (im_n M (sv G (i + 1))).2 ≤ 266 := by unfold im_n; split <;> (try split) <;> decide
  refine J_aload_n (pc' := 1070) (i := 1) (n := 2) dL_law_1069 rfl rfl rfl ?_
  refine J_aload_n (pc' := 1071) (i := 0) (n := 3) dL_law_1070 rfl rfl rfl ?_
  refine J_iload_n (pc' := 1072) (i := 3) (n := 0) dL_law_1071 rfl rfl rfl ?_
  refine J_iconst (pc' := 1073) (v := (1 : Int32)) dL_law_1072 rfl (by decide) ?_
  refine J_iadd (pc' := 1074) dL_law_1073 rfl ?_
  refine J_sld (pc' := 1075) dL_law_1074 rfl hin.2.1 ?_
  refine J_callV (pc' := 1078) (as := [.int (sv G (i + 1))]) (rest := []) (b := 0) dL_law_1075 rfl (⟨⟨(j_in 850 (by decide +kernel) rfl), (j_in 851 (by decide +kernel) rfl), (j_in 852 (by decide +kernel) rfl), (j_in 100 (by decide +kernel) rfl)⟩, (j_in 853 (by decide +kernel) rfl), ⟨by decide, by decide, by decide +kernel⟩⟩ : j_lkV RL 140 md_X9_image 1) rfl 9 (by decide) rfl (x_o hs) (x_n hs (Nat.le_of_ble_eq_true rfl)) (c_X9_image hs hi (by omega) e1) ⟨Nat.le_of_ble_eq_true rfl, Nat.le_of_ble_eq_true rfl⟩ (Nat.le_of_ble_eq_true rfl) ⟨by show j_N M + (im_n M (sv G (i + 1))).1 ≤ 600000; omega, Nat.le_trans (show s + (im_n M (sv G (i + 1))).2 ≤ 7000000 by omega) (by decide)⟩ (fun v M9 h9 => ?_)
  obtain ⟨rfl, rfl⟩ := h9
  refine J_aload_n (pc' := 1079) (i := 2) (n := 1) dL_law_1078 rfl rfl rfl ?_
  refine J_aload_n (pc' := 1080) (i := 0) (n := 3) dL_law_1079 rfl rfl rfl ?_
  refine J_iload_n (pc' := 1081) (i := 3) (n := 0) dL_law_1080 rfl rfl rfl ?_
  refine J_iconst (pc' := 1082) (v := (1 : Int32)) dL_law_1081 rfl (by decide) ?_
  refine J_iadd (pc' := 1083) dL_law_1082 rfl ?_
  refine J_sld (pc' := 1084) dL_law_1083 rfl hin.2.1 ?_
  refine J_callV (pc' := 1087) (as := [.int (sv G (i + 1))]) (rest := [.int r]) (b := 35) dL_law_1084 rfl (⟨⟨(j_in 1282 (by decide +kernel) rfl), (j_in 1283 (by decide +kernel) rfl), (j_in 1284 (by decide +kernel) rfl), (j_in 112 (by decide +kernel) rfl)⟩, (j_in 1285 (by decide +kernel) rfl), ⟨by decide, by decide, by decide +kernel⟩⟩ : j_lkV RL 143 md_X10_image 1) rfl 10 (by decide) rfl (m_o hm1) (m_n hm1 (Nat.le_of_ble_eq_true rfl)) (c_X10_image hm1 e2) ⟨Nat.le_of_ble_eq_true rfl, Nat.le_of_ble_eq_true rfl⟩ (Nat.le_of_ble_eq_true rfl) ⟨by show j_N M + (im_n M (sv G (i + 1))).1 + 0 ≤ 600000; omega, Nat.le_trans (show s + (im_n M (sv G (i + 1))).2 + 0 ≤ 7000000 by omega) (by decide)⟩ (fun v M9 h9 => ?_)
  obtain ⟨rfl, rfl⟩ := h9
  refine J_icmp_eq (pc' := 1090) (tgt := 1175) dL_law_1087 rfl (by decide) (fun _ => ?_) (fun c9 => absurd rfl c9)
  exact k
set_option maxHeartbeats 4000000 in
theorem lw_from {l : Launch} {G : j_G} {nm : String} {mcs : Nat × Nat} {Po : Option Value → j_M → Prop} {i : Int32} {s : Nat} (hin : lw_in G i) {M M1 M2 : j_M} {r : Int32} (e1 : f_X9_from M (sv G (i + 1)) = some (r, M1)) (hm1 : sh_m M1.2.2) (e2 : f_X10_from M1 (sv G (i + 1)) = some (r, M2)) (hs : sh_x M.2.2) (hm : sh_m M.2.2) (hi : sh_i M.2.2) (hc : j_N M ≤ 100 ∧ s ≤ 100000)
    (k : JJ l G (md_law nm) room_1 (j_N M, s) mcs Po 1175 [(3, .int i), (2, .ref 35), (1, .ref 0), (0, .ref 1000030)] [] M2) : JJ l G (md_law nm) room_1 (j_N M, s) mcs Po 1092 [(3, .int i), (2, .ref 35), (1, .ref 0), (0, .ref 1000030)] [] M := by
  refine J_aload_n (pc' := 1093) (i := 1) (n := 2) dL_law_1092 rfl rfl rfl ?_
  refine J_aload_n (pc' := 1094) (i := 0) (n := 3) dL_law_1093 rfl rfl rfl ?_
  refine J_iload_n (pc' := 1095) (i := 3) (n := 0) dL_law_1094 rfl rfl rfl ?_
  refine J_iconst (pc' := 1096) (v := (1 : Int32)) dL_law_1095 rfl (by decide) ?_
  refine J_iadd (pc' := 1097) dL_law_1096 rfl ?_
  refine J_sld (pc' := 1098) dL_law_1097 rfl hin.2.1 ?_
  refine J_callV (pc' := 1101) (as := [.int (sv G (i + 1))]) (rest := []) (b := 0) dL_law_1098 rfl (⟨⟨(j_in 854 (by decide +kernel) rfl), (j_in 855 (by decide +kernel) rfl), (j_in 856 (by decide +kernel) rfl), (j_in 100 (by decide +kernel) rfl)⟩, (j_in 857 (by decide +kernel) rfl), ⟨by decide, by decide, by decide +kernel⟩⟩ : j_lkV RL 144 md_X9_from 1) rfl 9 (by decide) rfl (x_o hs) (x_n hs (Nat.le_of_ble_eq_true rfl)) (c_X9_from hs hi e1) ⟨Nat.le_of_ble_eq_true rfl, Nat.le_of_ble_eq_true rfl⟩ (Nat.le_of_ble_eq_true rfl) ⟨by show j_N M + 0 ≤ 600000; omega, Nat.le_trans (show s + 0 ≤ 7000000 by omega) (by decide)⟩ (fun v M9 h9 => ?_)
  obtain ⟨rfl, rfl⟩ := h9
  refine J_aload_n (pc' := 1102) (i := 2) (n := 1) dL_law_1101 rfl rfl rfl ?_
  refine J_aload_n (pc' := 1103) (i := 0) (n := 3) dL_law_1102 rfl rfl rfl ?_
  refine J_iload_n (pc' := 1104) (i := 3) (n := 0) dL_law_1103 rfl rfl rfl ?_
  refine J_iconst (pc' := 1105) (v := (1 : Int32)) dL_law_1104 rfl (by decide) ?_
  refine J_iadd (pc' := 1106) dL_law_1105 rfl ?_
  refine J_sld (pc' := 1107) dL_law_1106 rfl hin.2.1 ?_
  refine J_callV (pc' := 1110) (as := [.int (sv G (i + 1))]) (rest := [.int r]) (b := 35) dL_law_1107 rfl (⟨⟨(j_in 1286 (by decide +kernel) rfl), (j_in 1287 (by decide +kernel) rfl), (j_in 1288 (by decide +kernel) rfl), (j_in 112 (by decide +kernel) rfl)⟩, (j_in 1289 (by decide +kernel) rfl), ⟨by decide, by decide, by decide +kernel⟩⟩ : j_lkV RL 147 md_X10_from 1) rfl 10 (by decide) rfl (m_o hm1) (m_n hm1 (Nat.le_of_ble_eq_true rfl)) (c_X10_from hm1 e2) ⟨Nat.le_of_ble_eq_true rfl, Nat.le_of_ble_eq_true rfl⟩ (Nat.le_of_ble_eq_true rfl) ⟨by show j_N M + 0 + 0 ≤ 600000; omega, Nat.le_trans (show s + 0 + 0 ≤ 7000000 by omega) (by decide)⟩ (fun v M9 h9 => ?_)
  obtain ⟨rfl, rfl⟩ := h9
  refine J_icmp_eq (pc' := 1113) (tgt := 1175) dL_law_1110 rfl (by decide) (fun _ => ?_) (fun c9 => absurd rfl c9)
  exact k
set_option maxHeartbeats 4000000 in
theorem lw_status {l : Launch} {G : j_G} {nm : String} {mcs : Nat × Nat} {Po : Option Value → j_M → Prop} {i : Int32} {s : Nat} (hin : lw_in G i) {M M1 M2 : j_M} {r : Int32} (e1 : f_X9_status M (sv G (i + 1)) = some (r, M1)) (hm1 : sh_m M1.2.2) (e2 : f_X10_status M1 (sv G (i + 1)) = some (r, M2)) (hs : sh_x M.2.2) (hm : sh_m M.2.2) (hi : sh_i M.2.2) (hc : j_N M ≤ 100 ∧ s ≤ 100000)
    (k : JJ l G (md_law nm) room_1 (j_N M, s) mcs Po 1175 [(3, .int i), (2, .ref 35), (1, .ref 0), (0, .ref 1000030)] [] M2) : JJ l G (md_law nm) room_1 (j_N M, s) mcs Po 1115 [(3, .int i), (2, .ref 35), (1, .ref 0), (0, .ref 1000030)] [] M := by
  refine J_aload_n (pc' := 1116) (i := 1) (n := 2) dL_law_1115 rfl rfl rfl ?_
  refine J_aload_n (pc' := 1117) (i := 0) (n := 3) dL_law_1116 rfl rfl rfl ?_
  refine J_iload_n (pc' := 1118) (i := 3) (n := 0) dL_law_1117 rfl rfl rfl ?_
  refine J_iconst (pc' := 1119) (v := (1 : Int32)) dL_law_1118 rfl (by decide) ?_
  refine J_iadd (pc' := 1120) dL_law_1119 rfl ?_
  refine J_sld (pc' := 1121) dL_law_1120 rfl hin.2.1 ?_
  refine J_callV (pc' := 1124) (as := [.int (sv G (i + 1))]) (rest := []) (b := 0) dL_law_1121 rfl (⟨⟨(j_in 858 (by decide +kernel) rfl), (j_in 859 (by decide +kernel) rfl), (j_in 860 (by decide +kernel) rfl), (j_in 100 (by decide +kernel) rfl)⟩, (j_in 861 (by decide +kernel) rfl), ⟨by decide, by decide, by decide +kernel⟩⟩ : j_lkV RL 148 md_X9_status 1) rfl 9 (by decide) rfl (x_o hs) (x_n hs (Nat.le_of_ble_eq_true rfl)) (c_X9_status hs e1) ⟨Nat.le_of_ble_eq_true rfl, Nat.le_of_ble_eq_true rfl⟩ (Nat.le_of_ble_eq_true rfl) ⟨by show j_N M + 0 ≤ 600000; omega, Nat.le_trans (show s + 0 ≤ 7000000 by omega) (by decide)⟩ (fun v M9 h9 => ?_)
  obtain ⟨rfl, rfl⟩ := h9
  refine J_aload_n (pc' := 1125) (i := 2) (n := 1) dL_law_1124 rfl rfl rfl ?_
  refine J_aload_n (pc' := 1126) (i := 0) (n := 3) dL_law_1125 rfl rfl rfl ?_
  refine J_iload_n (pc' := 1127) (i := 3) (n := 0) dL_law_1126 rfl rfl rfl ?_
  refine J_iconst (pc' := 1128) (v := (1 : Int32)) dL_law_1127 rfl (by decide) ?_
  refine J_iadd (pc' := 1129) dL_law_1128 rfl ?_
  refine J_sld (pc' := 1130) dL_law_1129 rfl hin.2.1 ?_
  refine J_callV (pc' := 1133) (as := [.int (sv G (i + 1))]) (rest := [.int r]) (b := 35) dL_law_1130 rfl (⟨⟨(j_in 1290 (by decide +kernel) rfl), (j_in 1291 (by decide +kernel) rfl), (j_in 1292 (by decide +kernel) rfl), (j_in 112 (by decide +kernel) rfl)⟩, (j_in 1293 (by decide +kernel) rfl), ⟨by decide, by decide, by decide +kernel⟩⟩ : j_lkV RL 151 md_X10_status 1) rfl 10 (by decide) rfl (m_o hm1) (m_n hm1 (Nat.le_of_ble_eq_true rfl)) (c_X10_status hm1 e2) ⟨Nat.le_of_ble_eq_true rfl, Nat.le_of_ble_eq_true rfl⟩ (Nat.le_of_ble_eq_true rfl) ⟨by show j_N M + 0 + 0 ≤ 600000; omega, Nat.le_trans (show s + 0 + 0 ≤ 7000000 by omega) (by decide)⟩ (fun v M9 h9 => ?_)
  obtain ⟨rfl, rfl⟩ := h9
  refine J_icmp_eq (pc' := 1136) (tgt := 1175) dL_law_1133 rfl (by decide) (fun _ => ?_) (fun c9 => absurd rfl c9)
  exact k
set_option maxHeartbeats 4000000 in
theorem lw_count {l : Launch} {G : j_G} {nm : String} {mcs : Nat × Nat} {Po : Option Value → j_M → Prop} {i : Int32} {s : Nat} (hin : lw_in G i) {M M1 M2 : j_M} {r : Int32} (e1 : f_X9_count M (sv G (i + 1)) = some (r, M1)) (hm1 : sh_m M1.2.2) (e2 : f_X10_count M1 (sv G (i + 1)) = some (r, M2)) (hs : sh_x M.2.2) (hm : sh_m M.2.2) (hi : sh_i M.2.2) (hc : j_N M ≤ 100 ∧ s ≤ 100000)
    (k : JJ l G (md_law nm) room_1 (j_N M, s) mcs Po 1175 [(3, .int i), (2, .ref 35), (1, .ref 0), (0, .ref 1000030)] [] M2) : JJ l G (md_law nm) room_1 (j_N M, s) mcs Po 1138 [(3, .int i), (2, .ref 35), (1, .ref 0), (0, .ref 1000030)] [] M := by
  refine J_aload_n (pc' := 1139) (i := 1) (n := 2) dL_law_1138 rfl rfl rfl ?_
  refine J_aload_n (pc' := 1140) (i := 0) (n := 3) dL_law_1139 rfl rfl rfl ?_
  refine J_iload_n (pc' := 1141) (i := 3) (n := 0) dL_law_1140 rfl rfl rfl ?_
  refine J_iconst (pc' := 1142) (v := (1 : Int32)) dL_law_1141 rfl (by decide) ?_
  refine J_iadd (pc' := 1143) dL_law_1142 rfl ?_
  refine J_sld (pc' := 1144) dL_law_1143 rfl hin.2.1 ?_
  refine J_callV (pc' := 1147) (as := [.int (sv G (i + 1))]) (rest := []) (b := 0) dL_law_1144 rfl (⟨⟨(j_in 862 (by decide +kernel) rfl), (j_in 863 (by decide +kernel) rfl), (j_in 864 (by decide +kernel) rfl), (j_in 100 (by decide +kernel) rfl)⟩, (j_in 865 (by decide +kernel) rfl), ⟨by decide, by decide, by decide +kernel⟩⟩ : j_lkV RL 152 md_X9_count 1) rfl 9 (by decide) rfl (x_o hs) (x_n hs (Nat.le_of_ble_eq_true rfl)) (c_X9_count hs e1) ⟨Nat.le_of_ble_eq_true rfl, Nat.le_of_ble_eq_true rfl⟩ (Nat.le_of_ble_eq_true rfl) ⟨by show j_N M + 0 ≤ 600000; omega, Nat.le_trans (show s + 0 ≤ 7000000 by omega) (by decide)⟩ (fun v M9 h9 => ?_)
  obtain ⟨rfl, rfl⟩ := h9
  refine J_aload_n (pc' := 1148) (i := 2) (n := 1) dL_law_1147 rfl rfl rfl ?_
  refine J_aload_n (pc' := 1149) (i := 0) (n := 3) dL_law_1148 rfl rfl rfl ?_
  refine J_iload_n (pc' := 1150) (i := 3) (n := 0) dL_law_1149 rfl rfl rfl ?_
  refine J_iconst (pc' := 1151) (v := (1 : Int32)) dL_law_1150 rfl (by decide) ?_
  refine J_iadd (pc' := 1152) dL_law_1151 rfl ?_
  refine J_sld (pc' := 1153) dL_law_1152 rfl hin.2.1 ?_
  refine J_callV (pc' := 1156) (as := [.int (sv G (i + 1))]) (rest := [.int r]) (b := 35) dL_law_1153 rfl (⟨⟨(j_in 1294 (by decide +kernel) rfl), (j_in 1295 (by decide +kernel) rfl), (j_in 1296 (by decide +kernel) rfl), (j_in 112 (by decide +kernel) rfl)⟩, (j_in 1297 (by decide +kernel) rfl), ⟨by decide, by decide, by decide +kernel⟩⟩ : j_lkV RL 155 md_X10_count 1) rfl 10 (by decide) rfl (m_o hm1) (m_n hm1 (Nat.le_of_ble_eq_true rfl)) (c_X10_count hm1 e2) ⟨Nat.le_of_ble_eq_true rfl, Nat.le_of_ble_eq_true rfl⟩ (Nat.le_of_ble_eq_true rfl) ⟨by show j_N M + 0 + 0 ≤ 600000; omega, Nat.le_trans (show s + 0 + 0 ≤ 7000000 by omega) (by decide)⟩ (fun v M9 h9 => ?_)
  obtain ⟨rfl, rfl⟩ := h9
  refine J_icmp_eq (pc' := 1159) (tgt := 1175) dL_law_1156 rfl (by decide) (fun _ => ?_) (fun c9 => absurd rfl c9)
  exact k
set_option maxHeartbeats 4000000 in
theorem lw_digest {l : Launch} {G : j_G} {nm : String} {mcs : Nat × Nat} {Po : Option Value → j_M → Prop} {i : Int32} {s : Nat} (hin : lw_in G i) {M : j_M} {r : Int64} (e1 : f_X9_digest M  = some r) (e2 : f_X10_digest M  = some r) (hs : sh_x M.2.2) (hm : sh_m M.2.2) (hi : sh_i M.2.2) (hc : j_N M ≤ 100 ∧ s ≤ 100000)
    (k : JJ l G (md_law nm) room_1 (j_N M, s) mcs Po 1175 [(3, .int i), (2, .ref 35), (1, .ref 0), (0, .ref 1000030)] [] M) : JJ l G (md_law nm) room_1 (j_N M, s) mcs Po 1161 [(3, .int i), (2, .ref 35), (1, .ref 0), (0, .ref 1000030)] [] M := by
  refine J_aload_n (pc' := 1162) (i := 1) (n := 2) dL_law_1161 rfl rfl rfl ?_
  refine J_callV (pc' := 1165) (as := []) (rest := []) (b := 0) dL_law_1162 rfl (⟨⟨(j_in 878 (by decide +kernel) rfl), (j_in 879 (by decide +kernel) rfl), (j_in 880 (by decide +kernel) rfl), (j_in 100 (by decide +kernel) rfl)⟩, (j_in 881 (by decide +kernel) rfl), ⟨by decide, by decide, by decide +kernel⟩⟩ : j_lkV RL 156 md_X9_digest 0) rfl 9 (by decide) rfl (x_o hs) (x_n hs (Nat.le_of_ble_eq_true rfl)) (c_X9_digest hs e1) ⟨Nat.le_of_ble_eq_true rfl, Nat.le_of_ble_eq_true rfl⟩ (Nat.le_of_ble_eq_true rfl) ⟨by show j_N M + 0 ≤ 600000; omega, Nat.le_trans (show s + 0 ≤ 7000000 by omega) (by decide)⟩ (fun v M9 h9 => ?_)
  obtain ⟨h8, h9⟩ := h9
  rw [h8, h9]
  refine J_aload_n (pc' := 1166) (i := 2) (n := 1) dL_law_1165 rfl rfl rfl ?_
  refine J_callV (pc' := 1169) (as := []) (rest := [.long r]) (b := 35) dL_law_1166 rfl (⟨⟨(j_in 1306 (by decide +kernel) rfl), (j_in 1307 (by decide +kernel) rfl), (j_in 1308 (by decide +kernel) rfl), (j_in 112 (by decide +kernel) rfl)⟩, (j_in 1309 (by decide +kernel) rfl), ⟨by decide, by decide, by decide +kernel⟩⟩ : j_lkV RL 160 md_X10_digest 0) rfl 10 (by decide) rfl (m_o hm) (m_n hm (Nat.le_of_ble_eq_true rfl)) (c_X10_digest hm e2) ⟨Nat.le_of_ble_eq_true rfl, Nat.le_of_ble_eq_true rfl⟩ (Nat.le_of_ble_eq_true rfl) ⟨by show j_N M + 0 + 0 ≤ 600000; omega, Nat.le_trans (show s + 0 + 0 ≤ 7000000 by omega) (by decide)⟩ (fun v M9 h9 => ?_)
  obtain ⟨h8, h9⟩ := h9
  rw [h8, h9]
  refine J_lcmp (pc' := 1170) dL_law_1169 rfl ?_
  refine J_if_eq (pc' := 1173) (tgt := 1175) dL_law_1170 rfl (by decide) (fun _ => ?_) (fun c9 => absurd (lg_cmp_self _) c9)
  exact k
