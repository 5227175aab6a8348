section
variable {l : Launch} {G : j_G} {md : j_Md} {R : Room} {cs mcs : Nat × Nat} {Po : Option Value → j_M → Prop} {pc pc' : Nat} {lv lv' : List (Nat × Value)} {st : List Value} {M : j_M}
/-- the script's value at a place -/
def sv (G : j_G) (i : Int32) : Int32 := Int32.ofNat (G.2.2.2 (100 + i.toNatClampNeg))
theorem J_sld {i : Int32} (hd : decode md.2.1 pc = .ok (.iaload, 1)) (hp : pc + 1 = pc') (hin : vp_in i (G.2.2.2 40)) (kk : JJ l G md R cs mcs Po pc' lv (.int (sv G i) :: st) M) : JJ l G md R cs mcs Po pc lv (.int i :: .ref 1000030 :: st) M := by
  subst hp
  intro p e s m args below meth c H locs ls F C h1 h2 h3 hz
  obtain ⟨w, hw, d3, d4, d5⟩ := C.2.2.1.2.2.2.2
  have hb : G.2.2.2 30 < s.heap.size := Nat.lt_of_lt_of_le d5 C.2.2.2
  exact va_sld (H0 := s.heap) F.1 F.2.1 d4 hb (by show ¬ G.2.1 ≤ _; omega) h2 hin hd (kk p e s m args below meth c H locs ls F C h1 h2 h3 hz)
theorem J_sln (hd : decode md.2.1 pc = .ok (.arraylength, 1)) (hp : pc + 1 = pc') (kk : JJ l G md R cs mcs Po pc' lv (.int (Int32.ofNat (G.2.2.2 40)) :: st) M) : JJ l G md R cs mcs Po pc lv (.ref 1000030 :: st) M := by
  subst hp
  intro p e s m args below meth c H locs ls F C h1 h2 h3 hz
  obtain ⟨w, hw, d3, d4, d5⟩ := C.2.2.1.2.2.2.2
  have hb : G.2.2.2 30 < s.heap.size := Nat.lt_of_lt_of_le d5 C.2.2.2
  show W p l e R s m args below meth c H locs cs.1 cs.2 _ (F0 m pc ls (.ref (G.2.2.2 30) :: st.map (j_tv G)))
  exact va_slen (b := G.2.2.2 30) (H0 := s.heap) F.1 F.2.1 d4 hb (by show ¬ G.2.1 ≤ _; omega) h2 hd (kk p e s m args below meth c H locs ls F C h1 h2 h3 hz)
theorem J_wid {n : Nat} (h : cs.2 ≤ n) (kk : JJ l G md R (cs.1, n) mcs Po pc lv st M) : JJ l G md R cs mcs Po pc lv st M := by
  intro p e s m args below meth c H locs ls F C h1 h2 h3 hz
  exact W.widen (k := cs.1) (n := n) (Nat.le_refl _) h (kk p e s m args below meth c H locs ls F C h1 h2 h3 hz)
end
abbrev md_law (nm : String) : j_Md := (⟨RL, nm, ""⟩, cL_law, 4, ret)
def lw_in (G : j_G) (i : Int32) : Prop := vp_in i (G.2.2.2 40) ∧ vp_in (i + 1) (G.2.2.2 40) ∧ vp_in (i + 2) (G.2.2.2 40) ∧ vp_in (i + 3) (G.2.2.2 40) ∧ vp_in (i + 4) (G.2.2.2 40) ∧ vp_in (i + 5) (G.2.2.2 40)
theorem lg_cmp_self (x : Int64) : lg_cmp x x = 0 := by simp [lg_cmp]
set_option maxHeartbeats 4000000 in
theorem lw_bath {l : Launch} {G : j_G} {nm : String} {mcs : Nat × Nat} {Po : Option Value → j_M → Prop} {i : Int32} {s : Nat} (hin : lw_in G i) {M M1 M2 : j_M} {r : Int32} (e1 : f_X9_bath M  = some (r, M1)) (hm1 : sh_m M1.2.2) (e2 : f_X10_bath M1  = some (r, M2)) (hs : sh_x M.2.2) (hm : sh_m M.2.2) (hi : sh_i M.2.2) (hc : j_N M ≤ 100 ∧ s ≤ 100000)
    (k : JJ l G (md_law nm) room_1 (j_N M, s) mcs Po 1175 [(3, .int i), (2, .ref 35), (1, .ref 0), (0, .ref 1000030)] [] M2) : JJ l G (md_law nm) room_1 (j_N M, s) mcs Po 188 [(3, .int i), (2, .ref 35), (1, .ref 0), (0, .ref 1000030)] [] M := by
  refine J_aload_n (pc' := 189) (i := 1) (n := 2) dL_law_188 rfl rfl rfl ?_
  refine J_callV (pc' := 192) (as := []) (rest := []) (b := 0) dL_law_189 rfl (⟨⟨(j_in 323 (by decide +kernel) rfl), (j_in 324 (by decide +kernel) rfl), (j_in 325 (by decide +kernel) rfl), (j_in 100 (by decide +kernel) rfl)⟩, (j_in 326 (by decide +kernel) rfl), ⟨by decide, by decide, by decide +kernel⟩⟩ : j_lkV RL 13 md_X9_bath 0) rfl 9 (by decide) rfl (x_o hs) (x_n hs (Nat.le_of_ble_eq_true rfl)) (c_X9_bath hs e1) ⟨Nat.le_of_ble_eq_true rfl, Nat.le_of_ble_eq_true rfl⟩ (Nat.le_of_ble_eq_true rfl) ⟨by show j_N M + 0 ≤ 600000; omega, Nat.le_trans (show s + 0 ≤ 7000000 by omega) (by decide)⟩ (fun v M9 h9 => ?_)
  obtain ⟨rfl, rfl⟩ := h9
  refine J_aload_n (pc' := 193) (i := 2) (n := 1) dL_law_192 rfl rfl rfl ?_
  refine J_callV (pc' := 196) (as := []) (rest := [.int r]) (b := 35) dL_law_193 rfl (⟨⟨(j_in 978 (by decide +kernel) rfl), (j_in 979 (by decide +kernel) rfl), (j_in 980 (by decide +kernel) rfl), (j_in 112 (by decide +kernel) rfl)⟩, (j_in 981 (by decide +kernel) rfl), ⟨by decide, by decide, by decide +kernel⟩⟩ : j_lkV RL 17 md_X10_bath 0) rfl 10 (by decide) rfl (m_o hm1) (m_n hm1 (Nat.le_of_ble_eq_true rfl)) (c_X10_bath hm1 e2) ⟨Nat.le_of_ble_eq_true rfl, Nat.le_of_ble_eq_true rfl⟩ (Nat.le_of_ble_eq_true rfl) ⟨by show j_N M + 0 + 0 ≤ 600000; omega, Nat.le_trans (show s + 0 + 0 ≤ 7000000 by omega) (by decide)⟩ (fun v M9 h9 => ?_)
  obtain ⟨rfl, rfl⟩ := h9
  refine J_icmp_eq (pc' := 199) (tgt := 1175) dL_law_196 rfl (by decide) (fun _ => ?_) (fun c9 => absurd rfl c9)
  exact k
set_option maxHeartbeats 4000000 in
theorem lw_sign {l : Launch} {G : j_G} {nm : String} {mcs : Nat × Nat} {Po : Option Value → j_M → Prop} {i : Int32} {s : Nat} (hin : lw_in G i) {M M1 M2 : j_M} {r : Int32} (e1 : f_X9_sign M (sv G (i + 1)) (sv G (i + 2)) = some (r, M1)) (hm1 : sh_m M1.2.2) (e2 : f_X10_sign M1 (sv G (i + 1)) (sv G (i + 2)) = some (r, M2)) (hs : sh_x M.2.2) (hm : sh_m M.2.2) (hi : sh_i M.2.2) (hc : j_N M ≤ 100 ∧ s ≤ 100000)
    (k : JJ l G (md_law nm) room_1 (j_N M, s) mcs Po 1175 [(3, .int i), (2, .ref 35), (1, .ref 0), (0, .ref 1000030)] [] M2) : JJ l G (md_law nm) room_1 (j_N M, s) mcs Po 201 [(3, .int i), (2, .ref 35), (1, .ref 0), (0, .ref 1000030)] [] M := by
  refine J_aload_n (pc' := 202) (i := 1) (n := 2) dL_law_201 rfl rfl rfl ?_
  refine J_aload_n (pc' := 203) (i := 0) (n := 3) dL_law_202 rfl rfl rfl ?_
  refine J_iload_n (pc' := 204) (i := 3) (n := 0) dL_law_203 rfl rfl rfl ?_
  refine J_iconst (pc' := 205) (v := (1 : Int32)) dL_law_204 rfl (by decide) ?_
  refine J_iadd (pc' := 206) dL_law_205 rfl ?_
  refine J_sld (pc' := 207) dL_law_206 rfl hin.2.1 ?_
  refine J_aload_n (pc' := 208) (i := 0) (n := 3) dL_law_207 rfl rfl rfl ?_
  refine J_iload_n (pc' := 209) (i := 3) (n := 0) dL_law_208 rfl rfl rfl ?_
  refine J_iconst (pc' := 210) (v := (2 : Int32)) dL_law_209 rfl (by decide) ?_
  refine J_iadd (pc' := 211) dL_law_210 rfl ?_
  refine J_sld (pc' := 212) dL_law_211 rfl hin.2.2.1 ?_
  refine J_callV (pc' := 215) (as := [.int (sv G (i + 1)), .int (sv G (i + 2))]) (rest := []) (b := 0) dL_law_212 rfl (⟨⟨(j_in 328 (by decide +kernel) rfl), (j_in 329 (by decide +kernel) rfl), (j_in 330 (by decide +kernel) rfl), (j_in 100 (by decide +kernel) rfl)⟩, (j_in 331 (by decide +kernel) rfl), ⟨by decide, by decide, by decide +kernel⟩⟩ : j_lkV RL 18 md_X9_sign 2) rfl 9 (by decide) rfl (x_o hs) (x_n hs (Nat.le_of_ble_eq_true rfl)) (c_X9_sign hs e1) ⟨Nat.le_of_ble_eq_true rfl, Nat.le_of_ble_eq_true rfl⟩ (Nat.le_of_ble_eq_true rfl) ⟨by show j_N M + 0 ≤ 600000; omega, Nat.le_trans (show s + 0 ≤ 7000000 by omega) (by decide)⟩ (fun v M9 h9 => ?_)
  obtain ⟨rfl, rfl⟩ := h9
  refine J_aload_n (pc' := 216) (i := 2) (n := 1) dL_law_215 rfl rfl rfl ?_
  refine J_aload_n (pc' := 217) (i := 0) (n := 3) dL_law_216 rfl rfl rfl ?_
  refine J_iload_n (pc' := 218) (i := 3) (n := 0) dL_law_217 rfl rfl rfl ?_
  refine J_iconst (pc' := 219) (v := (1 : Int32)) dL_law_218 rfl (by decide) ?_
  refine J_iadd (pc' := 220) dL_law_219 rfl ?_
  refine J_sld (pc' := 221) dL_law_220 rfl hin.2.1 ?_
  refine J_aload_n (pc' := 222) (i := 0) (n := 3) dL_law_221 rfl rfl rfl ?_
  refine J_iload_n (pc' := 223) (i := 3) (n := 0) dL_law_222 rfl rfl rfl ?_
  refine J_iconst (pc' := 224) (v := (2 : Int32)) dL_law_223 rfl (by decide) ?_
  refine J_iadd (pc' := 225) dL_law_224 rfl ?_
  refine J_sld (pc' := 226) dL_law_225 rfl hin.2.2.1 ?_
  refine J_callV (pc' := 229) (as := [.int (sv G (i + 1)), .int (sv G (i + 2))]) (rest := [.int r]) (b := 35) dL_law_226 rfl (⟨⟨(j_in 986 (by decide +kernel) rfl), (j_in 987 (by decide +kernel) rfl), (j_in 988 (by decide +kernel) rfl), (j_in 112 (by decide +kernel) rfl)⟩, (j_in 989 (by decide +kernel) rfl), ⟨by decide, by decide, by decide +kernel⟩⟩ : j_lkV RL 22 md_X10_sign 2) rfl 10 (by decide) rfl (m_o hm1) (m_n hm1 (Nat.le_of_ble_eq_true rfl)) (c_X10_sign hm1 e2) ⟨Nat.le_of_ble_eq_true rfl, Nat.le_of_ble_eq_true rfl⟩ (Nat.le_of_ble_eq_true rfl) ⟨by show j_N M + 0 + 0 ≤ 600000; omega, Nat.le_trans (show s + 0 + 0 ≤ 7000000 by omega) (by decide)⟩ (fun v M9 h9 => ?_)
  obtain ⟨rfl, rfl⟩ := h9
  refine J_icmp_eq (pc' := 232) (tgt := 1175) dL_law_229 rfl (by decide) (fun _ => ?_) (fun c9 => absurd rfl c9)
  exact k
set_option maxHeartbeats 4000000 in
theorem lw_shut {l : Launch} {G : j_G} {nm : String} {mcs : Nat × Nat} {Po : Option Value → j_M → Prop} {i : Int32} {s : Nat} (hin : lw_in G i) {M M1 M2 : j_M} {r : Int32} (e1 : f_X9_shut M (sv G (i + 1)) (sv G (i + 2)) = some (r, M1)) (hm1 : sh_m M1.2.2) (e2 : f_X10_shut M1 (sv G (i + 1)) (sv G (i + 2)) = some (r, M2)) (hs : sh_x M.2.2) (hm : sh_m M.2.2) (hi : sh_i M.2.2) (hc : j_N M ≤ 100 ∧ s ≤ 100000)
    (k : JJ l G (md_law nm) room_1 (j_N M, s) mcs Po 1175 [(3, .int i), (2, .ref 35), (1, .ref 0), (0, .ref 1000030)] [] M2) : JJ l G (md_law nm) room_1 (j_N M, s) mcs Po 234 [(3, .int i), (2, .ref 35), (1, .ref 0), (0, .ref 1000030)] [] M := by
  refine J_aload_n (pc' := 235) (i := 1) (n := 2) dL_law_234 rfl rfl rfl ?_
  refine J_aload_n (pc' := 236) (i := 0) (n := 3) dL_law_235 rfl rfl rfl ?_
  refine J_iload_n (pc' := 237) (i := 3) (n := 0) dL_law_236 rfl rfl rfl ?_
  refine J_iconst (pc' := 238) (v := (1 : Int32)) dL_law_237 rfl (by decide) ?_
  refine J_iadd (pc' := 239) dL_law_238 rfl ?_
  refine J_sld (pc' := 240) dL_law_239 rfl hin.2.1 ?_
  refine J_aload_n (pc' := 241) (i := 0) (n := 3) dL_law_240 rfl rfl rfl ?_
  refine J_iload_n (pc' := 242) (i := 3) (n := 0) dL_law_241 rfl rfl rfl ?_
  refine J_iconst (pc' := 243) (v := (2 : Int32)) dL_law_242 rfl (by decide) ?_
  refine J_iadd (pc' := 244) dL_law_243 rfl ?_
  refine J_sld (pc' := 245) dL_law_244 rfl hin.2.2.1 ?_
  refine J_callV (pc' := 248) (as := [.int (sv G (i + 1)), .int (sv G (i + 2))]) (rest := []) (b := 0) dL_law_245 rfl (⟨⟨(j_in 342 (by decide +kernel) rfl), (j_in 343 (by decide +kernel) rfl), (j_in 344 (by decide +kernel) rfl), (j_in 100 (by decide +kernel) rfl)⟩, (j_in 345 (by decide +kernel) rfl), ⟨by decide, by decide, by decide +kernel⟩⟩ : j_lkV RL 23 md_X9_shut 2) rfl 9 (by decide) rfl (x_o hs) (x_n hs (Nat.le_of_ble_eq_true rfl)) (c_X9_shut hs e1) ⟨Nat.le_of_ble_eq_true rfl, Nat.le_of_ble_eq_true rfl⟩ (Nat.le_of_ble_eq_true rfl) ⟨by show j_N M + 0 ≤ 600000; omega, Nat.le_trans (show s + 0 ≤ 7000000 by omega) (by decide)⟩ (fun v M9 h9 => ?_)
  obtain ⟨rfl, rfl⟩ := h9
  refine J_aload_n (pc' := 249) (i := 2) (n := 1) dL_law_248 rfl rfl rfl ?_
  refine J_aload_n (pc' := 250) (i := 0) (n := 3) dL_law_249 rfl rfl rfl ?_
  refine J_iload_n (pc' := 251) (i := 3) (n := 0) dL_law_250 rfl rfl rfl ?_
  refine J_iconst (pc' := 252) (v := (1 : Int32)) dL_law_251 rfl (by decide) ?_
  refine J_iadd (pc' := 253) dL_law_252 rfl ?_
  refine J_sld (pc' := 254) dL_law_253 rfl hin.2.1 ?_
  refine J_aload_n (pc' := 255) (i := 0) (n := 3) dL_law_254 rfl rfl rfl ?_
  refine J_iload_n (pc' := 256) (i := 3) (n := 0) dL_law_255 rfl rfl rfl ?_
  refine J_iconst (pc' := 257) (v := (2 : Int32)) dL_law_256 rfl (by decide) ?_
  refine J_iadd (pc' := 258) dL_law_257 rfl ?_
  refine J_sld (pc' := 259) dL_law_258 rfl hin.2.2.1 ?_
  refine J_callV (pc' := 262) (as := [.int (sv G (i + 1)), .int (sv G (i + 2))]) (rest := [.int r]) (b := 35) dL_law_259 rfl (⟨⟨(j_in 1002 (by decide +kernel) rfl), (j_in 1003 (by decide +kernel) rfl), (j_in 1004 (by decide +kernel) rfl), (j_in 112 (by decide +kernel) rfl)⟩, (j_in 1005 (by decide +kernel) rfl), ⟨by decide, by decide, by decide +kernel⟩⟩ : j_lkV RL 26 md_X10_shut 2) rfl 10 (by decide) rfl (m_o hm1) (m_n hm1 (Nat.le_of_ble_eq_true rfl)) (c_X10_shut hm1 e2) ⟨Nat.le_of_ble_eq_true rfl, Nat.le_of_ble_eq_true rfl⟩ (Nat.le_of_ble_eq_true rfl) ⟨by show j_N M + 0 + 0 ≤ 600000; omega, Nat.le_trans (show s + 0 + 0 ≤ 7000000 by omega) (by decide)⟩ (fun v M9 h9 => ?_)
  obtain ⟨rfl, rfl⟩ := h9
  refine J_icmp_eq (pc' := 265) (tgt := 1175) dL_law_262 rfl (by decide) (fun _ => ?_) (fun c9 => absurd rfl c9)
  exact k
set_option maxHeartbeats 4000000 in
theorem lw_one {l : Launch} {G : j_G} {nm : String} {mcs : Nat × Nat} {Po : Option Value → j_M → Prop} {i : Int32} {s : Nat} (hin : lw_in G i) {M M1 M2 : j_M} {r : Int32} (e1 : f_X9_one M (sv G (i + 1)) (sv G (i + 2)) (sv G (i + 3)) = some (r, M1)) (hm1 : sh_m M1.2.2) (e2 : f_X10_one M1 (sv G (i + 1)) (sv G (i + 2)) (sv G (i + 3)) = some (r, M2)) (hs : sh_x M.2.2) (hm : sh_m M.2.2) (hi : sh_i M.2.2) (hc : j_N M ≤ 100 ∧ s ≤ 100000)
    (k : JJ l G (md_law nm) room_1 (j_N M, s) mcs Po 1175 [(3, .int i), (2, .ref 35), (1, .ref 0), (0, .ref 1000030)] [] M2) : JJ l G (md_law nm) room_1 (j_N M, s) mcs Po 267 [(3, .int i), (2, .ref 35), (1, .ref 0), (0, .ref 1000030)] [] M := by
  refine J_aload_n (pc' := 268) (i := 1) (n := 2) dL_law_267 rfl rfl rfl ?_
  refine J_aload_n (pc' := 269) (i := 0) (n := 3) dL_law_268 rfl rfl rfl ?_
  refine J_iload_n (pc' := 270) (i := 3) (n := 0) dL_law_269 rfl rfl rfl ?_
  refine J_iconst (pc' := 271) (v := (1 : Int32)) dL_law_270 rfl (by decide) ?_
  refine J_iadd (pc' := 272) dL_law_271 rfl ?_
  refine J_sld (pc' := 273) dL_law_272 rfl hin.2.1 ?_
  refine J_aload_n (pc' := 274) (i := 0) (n := 3) dL_law_273 rfl rfl rfl ?_
  refine J_iload_n (pc' := 275) (i := 3) (n := 0) dL_law_274 rfl rfl rfl ?_
  refine J_iconst (pc' := 276) (v := (2 : Int32)) dL_law_275 rfl (by decide) ?_
  refine J_iadd (pc' := 277) dL_law_276 rfl ?_
  refine J_sld (pc' := 278) dL_law_277 rfl hin.2.2.1 ?_
  refine J_aload_n (pc' := 279) (i := 0) (n := 3) dL_law_278 rfl rfl rfl ?_
  refine J_iload_n (pc' := 280) (i := 3) (n := 0) dL_law_279 rfl rfl rfl ?_
  refine J_iconst (pc' := 281) (v := (3 : Int32)) dL_law_280 rfl (by decide) ?_
  refine J_iadd (pc' := 282) dL_law_281 rfl ?_
  refine J_sld (pc' := 283) dL_law_282 rfl hin.2.2.2.1 ?_
  refine J_callV (pc' := 286) (as := [.int (sv G (i + 1)), .int (sv G (i + 2)), .int (sv G (i + 3))]) (rest := []) (b := 0) dL_law_283 rfl (⟨⟨(j_in 354 (by decide +kernel) rfl), (j_in 355 (by decide +kernel) rfl), (j_in 356 (by decide +kernel) rfl), (j_in 100 (by decide +kernel) rfl)⟩, (j_in 357 (by decide +kernel) rfl), ⟨by decide, by decide, by decide +kernel⟩⟩ : j_lkV RL 27 md_X9_one 3) rfl 9 (by decide) rfl (x_o hs) (x_n hs (Nat.le_of_ble_eq_true rfl)) (c_X9_one hs e1) ⟨Nat.le_of_ble_eq_true rfl, Nat.le_of_ble_eq_true rfl⟩ (Nat.le_of_ble_eq_true rfl) ⟨by show j_N M + 0 ≤ 600000; omega, Nat.le_trans (show s + 0 ≤ 7000000 by omega) (by decide)⟩ (fun v M9 h9 => ?_)
  obtain ⟨rfl, rfl⟩ := h9
  refine J_aload_n (pc' := 287) (i := 2) (n := 1) dL_law_286 rfl rfl rfl ?_
  refine J_aload_n (pc' := 288) (i := 0) (n := 3) dL_law_287 rfl rfl rfl ?_
  refine J_iload_n (pc' := 289) (i := 3) (n := 0) dL_law_288 rfl rfl rfl ?_
  refine J_iconst (pc' := 290) (v := (1 : Int32)) dL_law_289 rfl (by decide) ?_
  refine J_iadd (pc' := 291) dL_law_290 rfl ?_
  refine J_sld (pc' := 292) dL_law_291 rfl hin.2.1 ?_
  refine J_aload_n (pc' := 293) (i := 0) (n := 3) dL_law_292 rfl rfl rfl ?_
  refine J_iload_n (pc' := 294) (i := 3) (n := 0) dL_law_293 rfl rfl rfl ?_
  refine J_iconst (pc' := 295) (v := (2 : Int32)) dL_law_294 rfl (by decide) ?_
  refine J_iadd (pc' := 296) dL_law_295 rfl ?_
  refine J_sld (pc' := 297) dL_law_296 rfl hin.2.2.1 ?_
  refine J_aload_n (pc' := 298) (i := 0) (n := 3) dL_law_297 rfl rfl rfl ?_
  refine J_iload_n (pc' := 299) (i := 3) (n := 0) dL_law_298 rfl rfl rfl ?_
  refine J_iconst (pc' := 300) (v := (3 : Int32)) dL_law_299 rfl (by decide) ?_
  refine J_iadd (pc' := 301) dL_law_300 rfl ?_
  refine J_sld (pc' := 302) dL_law_301 rfl hin.2.2.2.1 ?_
  refine J_callV (pc' := 305) (as := [.int (sv G (i + 1)), .int (sv G (i + 2)), .int (sv G (i + 3))]) (rest := [.int r]) (b := 35) dL_law_302 rfl (⟨⟨(j_in 1013 (by decide +kernel) rfl), (j_in 1014 (by decide +kernel) rfl), (j_in 1015 (by decide +kernel) rfl), (j_in 112 (by decide +kernel) rfl)⟩, (j_in 1016 (by decide +kernel) rfl), ⟨by decide, by decide, by decide +kernel⟩⟩ : j_lkV RL 31 md_X10_one 3) rfl 10 (by decide) rfl (m_o hm1) (m_n hm1 (Nat.le_of_ble_eq_true rfl)) (c_X10_one hm1 e2) ⟨Nat.le_of_ble_eq_true rfl, Nat.le_of_ble_eq_true rfl⟩ (Nat.le_of_ble_eq_true rfl) ⟨by show j_N M + 0 + 0 ≤ 600000; omega, Nat.le_trans (show s + 0 + 0 ≤ 7000000 by omega) (by decide)⟩ (fun v M9 h9 => ?_)
  obtain ⟨rfl, rfl⟩ := h9
  refine J_icmp_eq (pc' := 308) (tgt := 1175) dL_law_305 rfl (by decide) (fun _ => ?_) (fun c9 => absurd rfl c9)
  exact k
set_option maxHeartbeats 4000000 in
theorem lw_type {l : Launch} {G : j_G} {nm : String} {mcs : Nat × Nat} {Po : Option Value → j_M → Prop} {i : Int32} {s : Nat} (hin : lw_in G i) {M M1 M2 : j_M} {r : Int32} (e1 : f_X9_type M (sv G (i + 1)) = some (r, M1)) (hm1 : sh_m M1.2.2) (e2 : f_X10_type M1 (sv G (i + 1)) = some (r, M2)) (hs : sh_x M.2.2) (hm : sh_m M.2.2) (hi : sh_i M.2.2) (hc : j_N M ≤ 100 ∧ s ≤ 100000)
    (k : JJ l G (md_law nm) room_1 (j_N M, s) mcs Po 1175 [(3, .int i), (2, .ref 35), (1, .ref 0), (0, .ref 1000030)] [] M2) : JJ l G (md_law nm) room_1 (j_N M, s) mcs Po 310 [(3, .int i), (2, .ref 35), (1, .ref 0), (0, .ref 1000030)] [] M := by
  refine J_aload_n (pc' := 311) (i := 1) (n := 2) dL_law_310 rfl rfl rfl ?_
  refine J_aload_n (pc' := 312) (i := 0) (n := 3) dL_law_311 rfl rfl rfl ?_
  refine J_iload_n (pc' := 313) (i := 3) (n := 0) dL_law_312 rfl rfl rfl ?_
  refine J_iconst (pc' := 314) (v := (1 : Int32)) dL_law_313 rfl (by decide) ?_
  refine J_iadd (pc' := 315) dL_law_314 rfl ?_
  refine J_sld (pc' := 316) dL_law_315 rfl hin.2.1 ?_
  refine J_callV (pc' := 319) (as := [.int (sv G (i + 1))]) (rest := []) (b := 0) dL_law_316 rfl (⟨⟨(j_in 376 (by decide +kernel) rfl), (j_in 377 (by decide +kernel) rfl), (j_in 378 (by decide +kernel) rfl), (j_in 100 (by decide +kernel) rfl)⟩, (j_in 379 (by decide +kernel) rfl), ⟨by decide, by decide, by decide +kernel⟩⟩ : j_lkV RL 32 md_X9_type 1) rfl 9 (by decide) rfl (x_o hs) (x_n hs (Nat.le_of_ble_eq_true rfl)) (c_X9_type hs e1) ⟨Nat.le_of_ble_eq_true rfl, Nat.le_of_ble_eq_true rfl⟩ (Nat.le_of_ble_eq_true rfl) ⟨by show j_N M + 0 ≤ 600000; omega, Nat.le_trans (show s + 0 ≤ 7000000 by omega) (by decide)⟩ (fun v M9 h9 => ?_)
  obtain ⟨rfl, rfl⟩ := h9
  refine J_aload_n (pc' := 320) (i := 2) (n := 1) dL_law_319 rfl rfl rfl ?_
  refine J_aload_n (pc' := 321) (i := 0) (n := 3) dL_law_320 rfl rfl rfl ?_
  refine J_iload_n (pc' := 322) (i := 3) (n := 0) dL_law_321 rfl rfl rfl ?_
  refine J_iconst (pc' := 323) (v := (1 : Int32)) dL_law_322 rfl (by decide) ?_
  refine J_iadd (pc' := 324) dL_law_323 rfl ?_
  refine J_sld (pc' := 325) dL_law_324 rfl hin.2.1 ?_
  refine J_callV (pc' := 328) (as := [.int (sv G (i + 1))]) (rest := [.int r]) (b := 35) dL_law_325 rfl (⟨⟨(j_in 1223 (by decide +kernel) rfl), (j_in 1224 (by decide +kernel) rfl), (j_in 1225 (by decide +kernel) rfl), (j_in 112 (by decide +kernel) rfl)⟩, (j_in 1226 (by decide +kernel) rfl), ⟨by decide, by decide, by decide +kernel⟩⟩ : j_lkV RL 36 md_X10_type 1) rfl 10 (by decide) rfl (m_o hm1) (m_n hm1 (Nat.le_of_ble_eq_true rfl)) (c_X10_type hm1 e2) ⟨Nat.le_of_ble_eq_true rfl, Nat.le_of_ble_eq_true rfl⟩ (Nat.le_of_ble_eq_true rfl) ⟨by show j_N M + 0 + 0 ≤ 600000; omega, Nat.le_trans (show s + 0 + 0 ≤ 7000000 by omega) (by decide)⟩ (fun v M9 h9 => ?_)
  obtain ⟨rfl, rfl⟩ := h9
  refine J_icmp_eq (pc' := 331) (tgt := 1175) dL_law_328 rfl (by decide) (fun _ => ?_) (fun c9 => absurd rfl c9)
  exact k
set_option maxHeartbeats 4000000 in
theorem lw_clear {l : Launch} {G : j_G} {nm : String} {mcs : Nat × Nat} {Po : Option Value → j_M → Prop} {i : Int32} {s : Nat} (hin : lw_in G i) {M M1 M2 : j_M} {r : Int32} (e1 : f_X9_clear M  = some (r, M1)) (hm1 : sh_m M1.2.2) (e2 : f_X10_clear M1  = some (r, M2)) (hs : sh_x M.2.2) (hm : sh_m M.2.2) (hi : sh_i M.2.2) (hc : j_N M ≤ 100 ∧ s ≤ 100000)
    (k : JJ l G (md_law nm) room_1 (j_N M, s) mcs Po 1175 [(3, .int i), (2, .ref 35), (1, .ref 0), (0, .ref 1000030)] [] M2) : JJ l G (md_law nm) room_1 (j_N M, s) mcs Po 333 [(3, .int i), (2, .ref 35), (1, .ref 0), (0, .ref 1000030)] [] M := by
  refine J_aload_n (pc' := 334) (i := 1) (n := 2) dL_law_333 rfl rfl rfl ?_
  refine J_callV (pc' := 337) (as := []) (rest := []) (b := 0) dL_law_334 rfl (⟨⟨(j_in 384 (by decide +kernel) rfl), (j_in 385 (by decide +kernel) rfl), (j_in 386 (by decide +kernel) rfl), (j_in 100 (by decide +kernel) rfl)⟩, (j_in 387 (by decide +kernel) rfl), ⟨by decide, by decide, by decide +kernel⟩⟩ : j_lkV RL 37 md_X9_clear 0) rfl 9 (by decide) rfl (x_o hs) (x_n hs (Nat.le_of_ble_eq_true rfl)) (c_X9_clear hs e1) ⟨Nat.le_of_ble_eq_true rfl, Nat.le_of_ble_eq_true rfl⟩ (Nat.le_of_ble_eq_true rfl) ⟨by show j_N M + 0 ≤ 600000; omega, Nat.le_trans (show s + 0 ≤ 7000000 by omega) (by decide)⟩ (fun v M9 h9 => ?_)
  obtain ⟨rfl, rfl⟩ := h9
  refine J_aload_n (pc' := 338) (i := 2) (n := 1) dL_law_337 rfl rfl rfl ?_
  refine J_callV (pc' := 341) (as := []) (rest := [.int r]) (b := 35) dL_law_338 rfl (⟨⟨(j_in 1228 (by decide +kernel) rfl), (j_in 1229 (by decide +kernel) rfl), (j_in 1230 (by decide +kernel) rfl), (j_in 112 (by decide +kernel) rfl)⟩, (j_in 1231 (by decide +kernel) rfl), ⟨by decide, by decide, by decide +kernel⟩⟩ : j_lkV RL 40 md_X10_clear 0) rfl 10 (by decide) rfl (m_o hm1) (m_n hm1 (Nat.le_of_ble_eq_true rfl)) (c_X10_clear hm1 e2) ⟨Nat.le_of_ble_eq_true rfl, Nat.le_of_ble_eq_true rfl⟩ (Nat.le_of_ble_eq_true rfl) ⟨by show j_N M + 0 + 0 ≤ 600000; omega, Nat.le_trans (show s + 0 + 0 ≤ 7000000 by omega) (by decide)⟩ (fun v M9 h9 => ?_)
  obtain ⟨rfl, rfl⟩ := h9
  refine J_icmp_eq (pc' := 344) (tgt := 1175) dL_law_341 rfl (by decide) (fun _ => ?_) (fun c9 => absurd rfl c9)
  exact k
set_option maxHeartbeats 4000000 in
theorem lw_read {l : Launch} {G : j_G} {nm : String} {mcs : Nat × Nat} {Po : Option Value → j_M → Prop} {i : Int32} {s : Nat} (hin : lw_in G i) {M M1 M2 : j_M} {r : Int32} (e1 : f_X9_read M  = some (r, M1)) (hm1 : sh_m M1.2.2) (e2 : f_X10_read M1  = some (r, M2)) (hs : sh_x M.2.2) (hm : sh_m M.2.2) (hi : sh_i M.2.2) (hc : j_N M ≤ 100 ∧ s ≤ 100000)
    (k : JJ l G (md_law nm) room_1 (j_N M, s) mcs Po 1175 [(3, .int i), (2, .ref 35), (1, .ref 0), (0, .ref 1000030)] [] M2) : JJ l G (md_law nm) room_1 (j_N M, s) mcs Po 346 [(3, .int i), (2, .ref 35), (1, .ref 0), (0, .ref 1000030)] [] M := by
  refine J_aload_n (pc' := 347) (i := 1) (n := 2) dL_law_346 rfl rfl rfl ?_
  refine J_callV (pc' := 350) (as := []) (rest := []) (b := 0) dL_law_347 rfl (⟨⟨(j_in 388 (by decide +kernel) rfl), (j_in 389 (by decide +kernel) rfl), (j_in 390 (by decide +kernel) rfl), (j_in 100 (by decide +kernel) rfl)⟩, (j_in 391 (by decide +kernel) rfl), ⟨by decide, by decide, by decide +kernel⟩⟩ : j_lkV RL 41 md_X9_read 0) rfl 9 (by decide) rfl (x_o hs) (x_n hs (Nat.le_of_ble_eq_true rfl)) (c_X9_read hs e1) ⟨Nat.le_of_ble_eq_true rfl, Nat.le_of_ble_eq_true rfl⟩ (Nat.le_of_ble_eq_true rfl) ⟨by show j_N M + 0 ≤ 600000; omega, Nat.le_trans (show s + 0 ≤ 7000000 by omega) (by decide)⟩ (fun v M9 h9 => ?_)
  obtain ⟨rfl, rfl⟩ := h9
  refine J_aload_n (pc' := 351) (i := 2) (n := 1) dL_law_350 rfl rfl rfl ?_
  refine J_callV (pc' := 354) (as := []) (rest := [.int r]) (b := 35) dL_law_351 rfl (⟨⟨(j_in 1232 (by decide +kernel) rfl), (j_in 1233 (by decide +kernel) rfl), (j_in 1234 (by decide +kernel) rfl), (j_in 112 (by decide +kernel) rfl)⟩, (j_in 1235 (by decide +kernel) rfl), ⟨by decide, by decide, by decide +kernel⟩⟩ : j_lkV RL 44 md_X10_read 0) rfl 10 (by decide) rfl (m_o hm1) (m_n hm1 (Nat.le_of_ble_eq_true rfl)) (c_X10_read hm1 e2) ⟨Nat.le_of_ble_eq_true rfl, Nat.le_of_ble_eq_true rfl⟩ (Nat.le_of_ble_eq_true rfl) ⟨by show j_N M + 0 + 0 ≤ 600000; omega, Nat.le_trans (show s + 0 + 0 ≤ 7000000 by omega) (by decide)⟩ (fun v M9 h9 => ?_)
  obtain ⟨rfl, rfl⟩ := h9
  refine J_icmp_eq (pc' := 357) (tgt := 1175) dL_law_354 rfl (by decide) (fun _ => ?_) (fun c9 => absurd rfl c9)
  exact k
set_option maxHeartbeats 4000000 in
theorem lw_goes {l : Launch} {G : j_G} {nm : String} {mcs : Nat × Nat} {Po : Option Value → j_M → Prop} {i : Int32} {s : Nat} (hin : lw_in G i) {M M1 M2 : j_M} {r : Int32} (e1 : f_X9_goes M (sv G (i + 1)) (sv G (i + 2)) = some (r, M1)) (hm1 : sh_m M1.2.2) (e2 : f_X10_goes M1 (sv G (i + 1)) (sv G (i + 2)) = some (r, M2)) (hs : sh_x M.2.2) (hm : sh_m M.2.2) (hi : sh_i M.2.2) (hc : j_N M ≤ 100 ∧ s ≤ 100000)
    (k : JJ l G (md_law nm) room_1 (j_N M, s) mcs Po 1175 [(3, .int i), (2, .ref 35), (1, .ref 0), (0, .ref 1000030)] [] M2) : JJ l G (md_law nm) room_1 (j_N M, s) mcs Po 359 [(3, .int i), (2, .ref 35), (1, .ref 0), (0, .ref 1000030)] [] M := by
  refine J_aload_n (pc' := 360) (i := 1) (n := 2) dL_law_359 rfl rfl rfl ?_
  refine J_aload_n (pc' := 361) (i := 0) (n := 3) dL_law_360 rfl rfl rfl ?_
  refine J_iload_n (pc' := 362) (i := 3) (n := 0) dL_law_361 rfl rfl rfl ?_
  refine J_iconst (pc' := 363) (v := (1 : Int32)) dL_law_362 rfl (by decide) ?_
  refine J_iadd (pc' := 364) dL_law_363 rfl ?_
  refine J_sld (pc' := 365) dL_law_364 rfl hin.2.1 ?_
  refine J_aload_n (pc' := 366) (i := 0) (n := 3) dL_law_365 rfl rfl rfl ?_
  refine J_iload_n (pc' := 367) (i := 3) (n := 0) dL_law_366 rfl rfl rfl ?_
  refine J_iconst (pc' := 368) (v := (2 : Int32)) dL_law_367 rfl (by decide) ?_
  refine J_iadd (pc' := 369) dL_law_368 rfl ?_
  refine J_sld (pc' := 370) dL_law_369 rfl hin.2.2.1 ?_
  refine J_callV (pc' := 373) (as := [.int (sv G (i + 1)), .int (sv G (i + 2))]) (rest := []) (b := 0) dL_law_370 rfl (⟨⟨(j_in 497 (by decide +kernel) rfl), (j_in 498 (by decide +kernel) rfl), (j_in 499 (by decide +kernel) rfl), (j_in 100 (by decide +kernel) rfl)⟩, (j_in 500 (by decide +kernel) rfl), ⟨by decide, by decide, by decide +kernel⟩⟩ : j_lkV RL 45 md_X9_goes 2) rfl 9 (by decide) rfl (x_o hs) (x_n hs (Nat.le_of_ble_eq_true rfl)) (c_X9_goes hs e1) ⟨Nat.le_of_ble_eq_true rfl, Nat.le_of_ble_eq_true rfl⟩ (Nat.le_of_ble_eq_true rfl) ⟨by show j_N M + 0 ≤ 600000; omega, Nat.le_trans (show s + 0 ≤ 7000000 by omega) (by decide)⟩ (fun v M9 h9 => ?_)
  obtain ⟨rfl, rfl⟩ := h9
  refine J_aload_n (pc' := 374) (i := 2) (n := 1) dL_law_373 rfl rfl rfl ?_
  refine J_aload_n (pc' := 375) (i := 0) (n := 3) dL_law_374 rfl rfl rfl ?_
  refine J_iload_n (pc' := 376) (i := 3) (n := 0) dL_law_375 rfl rfl rfl ?_
  refine J_iconst (pc' := 377) (v := (1 : Int32)) dL_law_376 rfl (by decide) ?_
  refine J_iadd (pc' := 378) dL_law_377 rfl ?_
  refine J_sld (pc' := 379) dL_law_378 rfl hin.2.1 ?_
  refine J_aload_n (pc' := 380) (i := 0) (n := 3) dL_law_379 rfl rfl rfl ?_
  refine J_iload_n (pc' := 381) (i := 3) (n := 0) dL_law_380 rfl rfl rfl ?_
  refine J_iconst (pc' := 382) (v := (2 : Int32)) dL_law_381 rfl (by decide) ?_
  refine J_iadd (pc' := 383) dL_law_382 rfl ?_
  refine J_sld (pc' := 384) dL_law_383 rfl hin.2.2.1 ?_
  refine J_callV (pc' := 387) (as := [.int (sv G (i + 1)), .int (sv G (i + 2))]) (rest := [.int r]) (b := 35) dL_law_384 rfl (⟨⟨(j_in 1034 (by decide +kernel) rfl), (j_in 1035 (by decide +kernel) rfl), (j_in 1036 (by decide +kernel) rfl), (j_in 112 (by decide +kernel) rfl)⟩, (j_in 1037 (by decide +kernel) rfl), ⟨by decide, by decide, by decide +kernel⟩⟩ : j_lkV RL 48 md_X10_goes 2) rfl 10 (by decide) rfl (m_o hm1) (m_n hm1 (Nat.le_of_ble_eq_true rfl)) (c_X10_goes hm1 e2) ⟨Nat.le_of_ble_eq_true rfl, Nat.le_of_ble_eq_true rfl⟩ (Nat.le_of_ble_eq_true rfl) ⟨by show j_N M + 0 + 0 ≤ 600000; omega, Nat.le_trans (show s + 0 + 0 ≤ 7000000 by omega) (by decide)⟩ (fun v M9 h9 => ?_)
  obtain ⟨rfl, rfl⟩ := h9
  refine J_icmp_eq (pc' := 390) (tgt := 1175) dL_law_387 rfl (by decide) (fun _ => ?_) (fun c9 => absurd rfl c9)
  exact k
set_option maxHeartbeats 4000000 in
theorem lw_minute {l : Launch} {G : j_G} {nm : String} {mcs : Nat × Nat} {Po : Option Value → j_M → Prop} {i : Int32} {s : Nat} (hin : lw_in G i) {M M1 M2 : j_M} {r : Int32} (e1 : f_X9_minute M (sv G (i + 1)) = some (r, M1)) (hm1 : sh_m M1.2.2) (e2 : f_X10_minute M1 (sv G (i + 1)) = some (r, M2)) (hs : sh_x M.2.2) (hm : sh_m M.2.2) (hi : sh_i M.2.2) (hc : j_N M ≤ 100 ∧ s ≤ 100000)
    (k : JJ l G (md_law nm) room_1 (j_N M, s) mcs Po 1175 [(3, .int i), (2, .ref 35), (1, .ref 0), (0, .ref 1000030)] [] M2) : JJ l G (md_law nm) room_1 (j_N M, s) mcs Po 392 [(3, .int i), (2, .ref 35), (1, .ref 0), (0, .ref 1000030)] [] M := by
  refine J_aload_n (pc' := 393) (i := 1) (n := 2) dL_law_392 rfl rfl rfl ?_
  refine J_aload_n (pc' := 394) (i := 0) (n := 3) dL_law_393 rfl rfl rfl ?_
  refine J_iload_n (pc' := 395) (i := 3) (n := 0) dL_law_394 rfl rfl rfl ?_
  refine J_iconst (pc' := 396) (v := (1 : Int32)) dL_law_395 rfl (by decide) ?_
  refine J_iadd (pc' := 397) dL_law_396 rfl ?_
  refine J_sld (pc' := 398) dL_law_397 rfl hin.2.1 ?_
  refine J_callV (pc' := 401) (as := [.int (sv G (i + 1))]) (rest := []) (b := 0) dL_law_398 rfl (⟨⟨(j_in 513 (by decide +kernel) rfl), (j_in 514 (by decide +kernel) rfl), (j_in 515 (by decide +kernel) rfl), (j_in 100 (by decide +kernel) rfl)⟩, (j_in 516 (by decide +kernel) rfl), ⟨by decide, by decide, by decide +kernel⟩⟩ : j_lkV RL 49 md_X9_minute 1) rfl 9 (by decide) rfl (x_o hs) (x_n hs (Nat.le_of_ble_eq_true rfl)) (c_X9_minute hs e1) ⟨Nat.le_of_ble_eq_true rfl, Nat.le_of_ble_eq_true rfl⟩ (Nat.le_of_ble_eq_true rfl) ⟨by show j_N M + 0 ≤ 600000; omega, Nat.le_trans (show s + 0 ≤ 7000000 by omega) (by decide)⟩ (fun v M9 h9 => ?_)
  obtain ⟨rfl, rfl⟩ := h9
  refine J_aload_n (pc' := 402) (i := 2) (n := 1) dL_law_401 rfl rfl rfl ?_
  refine J_aload_n (pc' := 403) (i := 0) (n := 3) dL_law_402 rfl rfl rfl ?_
  refine J_iload_n (pc' := 404) (i := 3) (n := 0) dL_law_403 rfl rfl rfl ?_
  refine J_iconst (pc' := 405) (v := (1 : Int32)) dL_law_404 rfl (by decide) ?_
  refine J_iadd (pc' := 406) dL_law_405 rfl ?_
  refine J_sld (pc' := 407) dL_law_406 rfl hin.2.1 ?_
  refine J_callV (pc' := 410) (as := [.int (sv G (i + 1))]) (rest := [.int r]) (b := 35) dL_law_407 rfl (⟨⟨(j_in 1046 (by decide +kernel) rfl), (j_in 1047 (by decide +kernel) rfl), (j_in 1048 (by decide +kernel) rfl), (j_in 112 (by decide +kernel) rfl)⟩, (j_in 1049 (by decide +kernel) rfl), ⟨by decide, by decide, by decide +kernel⟩⟩ : j_lkV RL 52 md_X10_minute 1) rfl 10 (by decide) rfl (m_o hm1) (m_n hm1 (Nat.le_of_ble_eq_true rfl)) (c_X10_minute hm1 e2) ⟨Nat.le_of_ble_eq_true rfl, Nat.le_of_ble_eq_true rfl⟩ (Nat.le_of_ble_eq_true rfl) ⟨by show j_N M + 0 + 0 ≤ 600000; omega, Nat.le_trans (show s + 0 + 0 ≤ 7000000 by omega) (by decide)⟩ (fun v M9 h9 => ?_)
  obtain ⟨rfl, rfl⟩ := h9
  refine J_icmp_eq (pc' := 413) (tgt := 1175) dL_law_410 rfl (by decide) (fun _ => ?_) (fun c9 => absurd rfl c9)
  exact k
