abbrev md_slen : j_Md := (⟨"java/lang/String", "length", "()I"⟩, prog_15_method_54_code, 1, some .int)
theorem cd_slen : j_cd md_slen := j_in 413 (by decide +kernel) rfl
theorem dJslen_0 : decode prog_15_method_54_code 0 = .ok (.aload_n 0, 1) := by decide +kernel
theorem dJslen_1 : decode prog_15_method_54_code 1 = .ok (.getfield 9, 3) := by decide +kernel
theorem dJslen_4 : decode prog_15_method_54_code 4 = .ok (.arraylength, 1) := by decide +kernel
theorem dJslen_5 : decode prog_15_method_54_code 5 = .ok (.aload_n 0, 1) := by decide +kernel
theorem dJslen_6 : decode prog_15_method_54_code 6 = .ok (.invokevirtual 335, 3) := by decide +kernel
theorem dJslen_9 : decode prog_15_method_54_code 9 = .ok (.ishr, 1) := by decide +kernel
theorem dJslen_10 : decode prog_15_method_54_code 10 = .ok (.ireturn, 1) := by decide +kernel
abbrev md_scod : j_Md := (⟨"java/lang/String", "coder", "()B"⟩, prog_15_method_152_code, 1, some .byte)
theorem cd_scod : j_cd md_scod := j_in 417 (by decide +kernel) rfl
theorem dJscod_0 : decode prog_15_method_152_code 0 = .ok (.getstatic 38, 3) := by decide +kernel
theorem dJscod_3 : decode prog_15_method_152_code 3 = .ok (.ifCond .eq 10, 3) := by decide +kernel
theorem dJscod_6 : decode prog_15_method_152_code 6 = .ok (.aload_n 0, 1) := by decide +kernel
theorem dJscod_7 : decode prog_15_method_152_code 7 = .ok (.getfield 15, 3) := by decide +kernel
theorem dJscod_10 : decode prog_15_method_152_code 10 = .ok (.goto 4, 3) := by decide +kernel
theorem dJscod_13 : decode prog_15_method_152_code 13 = .ok (.iconst 1, 1) := by decide +kernel
theorem dJscod_14 : decode prog_15_method_152_code 14 = .ok (.ireturn, 1) := by decide +kernel
abbrev md_slat : j_Md := (⟨"java/lang/String", "isLatin1", "()Z"⟩, prog_15_method_154_code, 1, some .boolean)
theorem cd_slat : j_cd md_slat := j_in 427 (by decide +kernel) rfl
theorem dJslat_0 : decode prog_15_method_154_code 0 = .ok (.getstatic 38, 3) := by decide +kernel
theorem dJslat_3 : decode prog_15_method_154_code 3 = .ok (.ifCond .eq 14, 3) := by decide +kernel
theorem dJslat_6 : decode prog_15_method_154_code 6 = .ok (.aload_n 0, 1) := by decide +kernel
theorem dJslat_7 : decode prog_15_method_154_code 7 = .ok (.getfield 15, 3) := by decide +kernel
theorem dJslat_10 : decode prog_15_method_154_code 10 = .ok (.ifCond .ne 7, 3) := by decide +kernel
theorem dJslat_13 : decode prog_15_method_154_code 13 = .ok (.iconst 1, 1) := by decide +kernel
theorem dJslat_14 : decode prog_15_method_154_code 14 = .ok (.goto 4, 3) := by decide +kernel
theorem dJslat_17 : decode prog_15_method_154_code 17 = .ok (.iconst 0, 1) := by decide +kernel
theorem dJslat_18 : decode prog_15_method_154_code 18 = .ok (.ireturn, 1) := by decide +kernel
abbrev md_schr : j_Md := (⟨"java/lang/String", "charAt", "(I)C"⟩, prog_15_method_56_code, 2, some .char)
theorem cd_schr : j_cd md_schr := j_in 423 (by decide +kernel) rfl
theorem dJschr_0 : decode prog_15_method_56_code 0 = .ok (.aload_n 0, 1) := by decide +kernel
theorem dJschr_1 : decode prog_15_method_56_code 1 = .ok (.invokevirtual 492, 3) := by decide +kernel
theorem dJschr_4 : decode prog_15_method_56_code 4 = .ok (.ifCond .eq 12, 3) := by decide +kernel
theorem dJschr_7 : decode prog_15_method_56_code 7 = .ok (.aload_n 0, 1) := by decide +kernel
theorem dJschr_8 : decode prog_15_method_56_code 8 = .ok (.getfield 9, 3) := by decide +kernel
theorem dJschr_11 : decode prog_15_method_56_code 11 = .ok (.iload_n 1, 1) := by decide +kernel
theorem dJschr_12 : decode prog_15_method_56_code 12 = .ok (.invokestatic 495, 3) := by decide +kernel
theorem dJschr_15 : decode prog_15_method_56_code 15 = .ok (.ireturn, 1) := by decide +kernel
theorem dJschr_16 : decode prog_15_method_56_code 16 = .ok (.aload_n 0, 1) := by decide +kernel
theorem dJschr_17 : decode prog_15_method_56_code 17 = .ok (.getfield 9, 3) := by decide +kernel
theorem dJschr_20 : decode prog_15_method_56_code 20 = .ok (.iload_n 1, 1) := by decide +kernel
theorem dJschr_21 : decode prog_15_method_56_code 21 = .ok (.invokestatic 498, 3) := by decide +kernel
theorem dJschr_24 : decode prog_15_method_56_code 24 = .ok (.ireturn, 1) := by decide +kernel
abbrev md_lchr : j_Md := (⟨"java/lang/StringLatin1", "charAt", "([BI)C"⟩, prog_16_method_2_code, 2, some .char)
theorem cd_lchr : j_cd md_lchr := j_in 430 (by decide +kernel) rfl
theorem dJlchr_0 : decode prog_16_method_2_code 0 = .ok (.iload_n 1, 1) := by decide +kernel
theorem dJlchr_1 : decode prog_16_method_2_code 1 = .ok (.aload_n 0, 1) := by decide +kernel
theorem dJlchr_2 : decode prog_16_method_2_code 2 = .ok (.arraylength, 1) := by decide +kernel
theorem dJlchr_3 : decode prog_16_method_2_code 3 = .ok (.invokestatic 9, 3) := by decide +kernel
theorem dJlchr_6 : decode prog_16_method_2_code 6 = .ok (.aload_n 0, 1) := by decide +kernel
theorem dJlchr_7 : decode prog_16_method_2_code 7 = .ok (.iload_n 1, 1) := by decide +kernel
theorem dJlchr_8 : decode prog_16_method_2_code 8 = .ok (.baload, 1) := by decide +kernel
theorem dJlchr_9 : decode prog_16_method_2_code 9 = .ok (.sipush 255, 3) := by decide +kernel
theorem dJlchr_12 : decode prog_16_method_2_code 12 = .ok (.iand, 1) := by decide +kernel
theorem dJlchr_13 : decode prog_16_method_2_code 13 = .ok (.i2c, 1) := by decide +kernel
theorem dJlchr_14 : decode prog_16_method_2_code 14 = .ok (.ireturn, 1) := by decide +kernel
abbrev md_schk : j_Md := (⟨"java/lang/String", "checkIndex", "(II)V"⟩, prog_15_method_155_code, 2, none)
theorem cd_schk : j_cd md_schk := j_in 433 (by decide +kernel) rfl
theorem dJschk_0 : decode prog_15_method_155_code 0 = .ok (.iload_n 0, 1) := by decide +kernel
theorem dJschk_1 : decode prog_15_method_155_code 1 = .ok (.iload_n 1, 1) := by decide +kernel
theorem dJschk_2 : decode prog_15_method_155_code 2 = .ok (.getstatic 1053, 3) := by decide +kernel
theorem dJschk_5 : decode prog_15_method_155_code 5 = .ok (.invokestatic 1059, 3) := by decide +kernel
theorem dJschk_8 : decode prog_15_method_155_code 8 = .ok (.pop, 1) := by decide +kernel
theorem dJschk_9 : decode prog_15_method_155_code 9 = .ok (.return_, 1) := by decide +kernel
abbrev md_pchk : j_Md := (⟨"jdk/internal/util/Preconditions", "checkIndex", "(IILjava/util/function/BiFunction;)I"⟩, prog_20_method_11_code, 3, some .int)
theorem cd_pchk : j_cd md_pchk := j_in 438 (by decide +kernel) rfl
theorem dJpchk_0 : decode prog_20_method_11_code 0 = .ok (.iload_n 0, 1) := by decide +kernel
theorem dJpchk_1 : decode prog_20_method_11_code 1 = .ok (.ifCond .lt 8, 3) := by decide +kernel
theorem dJpchk_4 : decode prog_20_method_11_code 4 = .ok (.iload_n 0, 1) := by decide +kernel
theorem dJpchk_5 : decode prog_20_method_11_code 5 = .ok (.iload_n 1, 1) := by decide +kernel
theorem dJpchk_6 : decode prog_20_method_11_code 6 = .ok (.if_icmp .lt 10, 3) := by decide +kernel
theorem dJpchk_9 : decode prog_20_method_11_code 9 = .ok (.aload_n 2, 1) := by decide +kernel
theorem dJpchk_10 : decode prog_20_method_11_code 10 = .ok (.iload_n 0, 1) := by decide +kernel
theorem dJpchk_11 : decode prog_20_method_11_code 11 = .ok (.iload_n 1, 1) := by decide +kernel
theorem dJpchk_12 : decode prog_20_method_11_code 12 = .ok (.invokestatic 95, 3) := by decide +kernel
theorem dJpchk_15 : decode prog_20_method_11_code 15 = .ok (.athrow, 1) := by decide +kernel
theorem dJpchk_16 : decode prog_20_method_11_code 16 = .ok (.iload_n 0, 1) := by decide +kernel
theorem dJpchk_17 : decode prog_20_method_11_code 17 = .ok (.ireturn, 1) := by decide +kernel
theorem lk_JS_335 : j_lkV "java/lang/String" 335 md_scod 0 := ⟨⟨j_in 414 (by decide +kernel) rfl, j_in 415 (by decide +kernel) rfl, j_in 416 (by decide +kernel) rfl, j_in 113 (by decide +kernel) rfl⟩, cd_scod, ⟨by decide, by decide, by decide +kernel⟩⟩
theorem lk_JS_492 : j_lkV "java/lang/String" 492 md_slat 0 := ⟨⟨j_in 424 (by decide +kernel) rfl, j_in 425 (by decide +kernel) rfl, j_in 426 (by decide +kernel) rfl, j_in 113 (by decide +kernel) rfl⟩, cd_slat, ⟨by decide, by decide, by decide +kernel⟩⟩
theorem lk_JS_495 : j_lkS "java/lang/String" 495 md_lchr 2 := ⟨⟨j_in 428 (by decide +kernel) rfl, j_in 429 (by decide +kernel) rfl, j_in 114 (by decide +kernel) rfl⟩, cd_lchr, ⟨by decide, by decide, by decide +kernel⟩⟩
theorem lk_JL_9 : j_lkS "java/lang/StringLatin1" 9 md_schk 2 := ⟨⟨j_in 431 (by decide +kernel) rfl, j_in 432 (by decide +kernel) rfl, j_in 113 (by decide +kernel) rfl⟩, cd_schk, ⟨by decide, by decide, by decide +kernel⟩⟩
theorem lk_JS_1059 : j_lkS "java/lang/String" 1059 md_pchk 3 := ⟨⟨j_in 436 (by decide +kernel) rfl, j_in 437 (by decide +kernel) rfl, j_in 115 (by decide +kernel) rfl⟩, cd_pchk, ⟨by decide, by decide, by decide +kernel⟩⟩
theorem wf_9 : Cond.fieldLink "java/lang/String" 9 "java/lang/String" "value" "[B" ∈ j_gt := j_in 1322 (by decide +kernel) rfl
theorem wf_15 : Cond.fieldLink "java/lang/String" 15 "java/lang/String" "coder" "B" ∈ j_gt := j_in 1323 (by decide +kernel) rfl
theorem wf_38 : Cond.fieldLink "java/lang/String" 38 "java/lang/String" "COMPACT_STRINGS" "Z" ∈ j_gt := j_in 418 (by decide +kernel) rfl
theorem wf_1053 : Cond.fieldLink "java/lang/String" 1053 "jdk/internal/util/Preconditions" "SIOOBE_FORMATTER" "Ljava/util/function/BiFunction;" ∈ j_gt := j_in 434 (by decide +kernel) rfl
section
variable {ρ : Type}
def j_sl (w : Nat) : Int32 := nI (j_len.getD w 0)
def j_sch (w k : Nat) : Int32 := (j_byt.getD w []).getD k 0 &&& 255
def sc (w : Nat) (i : Int32) (k : Int32 → Option ρ) : Option ρ := if i < 0 ∨ j_len.getD w 0 ≤ i.toNatClampNeg then none else k (j_sch w i.toNatClampNeg)
theorem sc_inv {w : Nat} {i : Int32} {k : Int32 → Option ρ} {r : ρ} (h : sc w i k = some r) : ∃ v, (vp_in i (j_len.getD w 0) ∧ j_sch w i.toNatClampNeg = v) ∧ k v = some r := by
  unfold sc at h
  split at h
  · cases h
  · next hc => exact ⟨_, ⟨hc, rfl⟩, h⟩
theorem j_len_lt {w : Nat} (hw : w < 4) : j_len.getD w 0 < 2 ^ 31 := by
  match w, hw with
  | 0, _ => decide
  | 1, _ => decide
  | 2, _ => decide
  | 3, _ => decide
end
theorem j_roS (G : j_G) (w : Nat) : j_rho G (1000001 + w) = G.2.2.2 (1 + w) := by
  unfold j_rho
  rw [if_neg (by omega), show 1000001 + w - 1000000 = 1 + w by omega]
theorem j_roV (G : j_G) (w : Nat) : j_rho G (1000011 + w) = G.2.2.2 (11 + w) := by
  unfold j_rho
  rw [if_neg (by omega), show 1000011 + w - 1000000 = 11 + w by omega]
section
variable {l : Launch} {G : j_G} {md : j_Md} {R : Room} {cs mcs : Nat × Nat} {Po : Option Value → j_M → Prop} {pc pc' : Nat} {lv lv' : List (Nat × Value)} {st : List Value} {M M1 : j_M}
theorem J_ldcS0 (hd : decode md.2.1 pc = .ok (.ldc 33, 2)) (hp : pc + 2 = pc') (hc : md.1.cls = RX7) (kk : JJ l G md R cs mcs Po pc' lv (.ref (1000001 + 0) :: st) M) : JJ l G md R cs mcs Po pc lv st M := by
  subst hp
  intro p e s m args below meth c H locs ls F C h1 h2 h3 hz
  have hts := F.2.2.2.2.2.2.1
  have kk' := kk p e s m args below meth c H locs ls F C h1 h2 h3 hz
  have e1 : (Value.ref (1000001 + 0) :: st).map (j_tv G) = .ref (G.2.2.2 (1 + 0)) :: st.map (j_tv G) := by rw [List.map_cons]; show Value.ref (j_rho G (1000001 + 0)) :: _ = _; rw [j_roS]
  rw [e1] at kk'
  exact va_ldcS (own := RX7) F.1 F.2.1 (by rw [← hc]; exact F.2.2.2.2.2.1) C.2.2.1.2.2.1.1 hd kk'
theorem J_ldcS1 (hd : decode md.2.1 pc = .ok (.ldc 47, 2)) (hp : pc + 2 = pc') (hc : md.1.cls = RX7) (kk : JJ l G md R cs mcs Po pc' lv (.ref (1000001 + 1) :: st) M) : JJ l G md R cs mcs Po pc lv st M := by
  subst hp
  intro p e s m args below meth c H locs ls F C h1 h2 h3 hz
  have hts := F.2.2.2.2.2.2.1
  have kk' := kk p e s m args below meth c H locs ls F C h1 h2 h3 hz
  have e1 : (Value.ref (1000001 + 1) :: st).map (j_tv G) = .ref (G.2.2.2 (1 + 1)) :: st.map (j_tv G) := by rw [List.map_cons]; show Value.ref (j_rho G (1000001 + 1)) :: _ = _; rw [j_roS]
  rw [e1] at kk'
  exact va_ldcS (own := RX7) F.1 F.2.1 (by rw [← hc]; exact F.2.2.2.2.2.1) C.2.2.1.2.2.1.2.1 hd kk'
theorem J_ldcS2 (hd : decode md.2.1 pc = .ok (.ldc 52, 2)) (hp : pc + 2 = pc') (hc : md.1.cls = RX7) (kk : JJ l G md R cs mcs Po pc' lv (.ref (1000001 + 2) :: st) M) : JJ l G md R cs mcs Po pc lv st M := by
  subst hp
  intro p e s m args below meth c H locs ls F C h1 h2 h3 hz
  have hts := F.2.2.2.2.2.2.1
  have kk' := kk p e s m args below meth c H locs ls F C h1 h2 h3 hz
  have e1 : (Value.ref (1000001 + 2) :: st).map (j_tv G) = .ref (G.2.2.2 (1 + 2)) :: st.map (j_tv G) := by rw [List.map_cons]; show Value.ref (j_rho G (1000001 + 2)) :: _ = _; rw [j_roS]
  rw [e1] at kk'
  exact va_ldcS (own := RX7) F.1 F.2.1 (by rw [← hc]; exact F.2.2.2.2.2.1) C.2.2.1.2.2.1.2.2.1 hd kk'
theorem J_ldcS3 (hd : decode md.2.1 pc = .ok (.ldc 57, 2)) (hp : pc + 2 = pc') (hc : md.1.cls = RX7) (kk : JJ l G md R cs mcs Po pc' lv (.ref (1000001 + 3) :: st) M) : JJ l G md R cs mcs Po pc lv st M := by
  subst hp
  intro p e s m args below meth c H locs ls F C h1 h2 h3 hz
  have hts := F.2.2.2.2.2.2.1
  have kk' := kk p e s m args below meth c H locs ls F C h1 h2 h3 hz
  have e1 : (Value.ref (1000001 + 3) :: st).map (j_tv G) = .ref (G.2.2.2 (1 + 3)) :: st.map (j_tv G) := by rw [List.map_cons]; show Value.ref (j_rho G (1000001 + 3)) :: _ = _; rw [j_roS]
  rw [e1] at kk'
  exact va_ldcS (own := RX7) F.1 F.2.1 (by rw [← hc]; exact F.2.2.2.2.2.1) C.2.2.1.2.2.1.2.2.2 hd kk'
theorem J_sgV {w : Nat} (hw : w < 4) (hd : decode md.2.1 pc = .ok (.getfield 9, 3)) (hp : pc + 3 = pc') (hc : md.1.cls = "java/lang/String") (kk : JJ l G md R cs mcs Po pc' lv (.ref (1000011 + w) :: st) M) : JJ l G md R cs mcs Po pc lv (.ref (1000001 + w) :: st) M := by
  subst hp
  intro p e s m args below meth c H locs ls F C h1 h2 h3 hz
  have hts := F.2.2.2.2.2.2.1
  have kk' := kk p e s m args below meth c H locs ls F C h1 h2 h3 hz
  have e1 : (Value.ref (1000011 + w) :: st).map (j_tv G) = .ref (G.2.2.2 (11 + w)) :: st.map (j_tv G) := by rw [List.map_cons]; show Value.ref (j_rho G (1000011 + w)) :: _ = _; rw [j_roV]
  rw [e1] at kk'
  show W p l e R s m args below meth c H locs cs.1 cs.2 _ (F0 m pc ls (.ref (j_rho G (1000001 + w)) :: st.map (j_tv G)))
  rw [j_roS]
  exact vk_getf (own := "java/lang/String") (C.2.2.1.2.1.2.1 w hw).2.2.1 h2 (by rw [← hc]; exact F.2.2.2.2.2.1) (hts _ wf_9) (fun _ h => h) hd kk' (hexec := F.1) (hb := F.2.1)
theorem J_sgC {w : Nat} (hw : w < 4) (hd : decode md.2.1 pc = .ok (.getfield 15, 3)) (hp : pc + 3 = pc') (hc : md.1.cls = "java/lang/String") (kk : JJ l G md R cs mcs Po pc' lv (.int 0 :: st) M) : JJ l G md R cs mcs Po pc lv (.ref (1000001 + w) :: st) M := by
  subst hp
  intro p e s m args below meth c H locs ls F C h1 h2 h3 hz
  have hts := F.2.2.2.2.2.2.1
  have kk' := kk p e s m args below meth c H locs ls F C h1 h2 h3 hz
  show W p l e R s m args below meth c H locs cs.1 cs.2 _ (F0 m pc ls (.ref (j_rho G (1000001 + w)) :: st.map (j_tv G)))
  rw [j_roS]
  exact vk_getf (own := "java/lang/String") (C.2.2.1.2.1.2.1 w hw).2.1 h2 (by rw [← hc]; exact F.2.2.2.2.2.1) (hts _ wf_15) (fun _ h => h) hd kk' (hexec := F.1) (hb := F.2.1)
theorem J_slenA {w : Nat} (hw : w < 4) (hd : decode md.2.1 pc = .ok (.arraylength, 1)) (hp : pc + 1 = pc') (kk : JJ l G md R cs mcs Po pc' lv (.int (j_sl w) :: st) M) : JJ l G md R cs mcs Po pc lv (.ref (1000011 + w) :: st) M := by
  subst hp
  intro p e s m args below meth c H locs ls F C h1 h2 h3 hz
  have hts := F.2.2.2.2.2.2.1
  have kk' := kk p e s m args below meth c H locs ls F C h1 h2 h3 hz
  show W p l e R s m args below meth c H locs cs.1 cs.2 _ (F0 m pc ls (.ref (j_rho G (1000011 + w)) :: st.map (j_tv G)))
  rw [j_roV]
  exact va_tlen F.1 F.2.1 (C.2.2.1.2.1.2.1 w hw).2.2.2 h2 rfl hd kk'
theorem J_sbl {w : Nat} {i : Int32} (hw : w < 4) (hd : decode md.2.1 pc = .ok (.baload, 1)) (hp : pc + 1 = pc') (hin : vp_in i (j_len.getD w 0)) (kk : JJ l G md R cs mcs Po pc' lv (.int ((j_byt.getD w []).getD i.toNatClampNeg 0) :: st) M) : JJ l G md R cs mcs Po pc lv (.int i :: .ref (1000011 + w) :: st) M := by
  subst hp
  intro p e s m args below meth c H locs ls F C h1 h2 h3 hz
  have hts := F.2.2.2.2.2.2.1
  have kk' := kk p e s m args below meth c H locs ls F C h1 h2 h3 hz
  show W p l e R s m args below meth c H locs cs.1 cs.2 _ (F0 m pc ls (.int i :: .ref (j_rho G (1000011 + w)) :: st.map (j_tv G)))
  rw [j_roV]
  exact va_tb F.1 F.2.1 (C.2.2.1.2.1.2.1 w hw).2.2.2 h2 hin rfl hd kk'
theorem J_gcs (hd : decode md.2.1 pc = .ok (.getstatic 38, 3)) (hp : pc + 3 = pc') (hc : md.1.cls = "java/lang/String") (kk : JJ l G md R cs mcs Po pc' lv (.int 1 :: st) M) : JJ l G md R cs mcs Po pc lv st M := by
  subst hp
  intro p e s m args below meth c H locs ls F C h1 h2 h3 hz
  have hts := F.2.2.2.2.2.2.1
  exact va_gets (own := "java/lang/String") F.1 F.2.1 C.2.2.1.2.1.1 h2 (by rw [← hc]; exact F.2.2.2.2.2.1) (hts _ wf_38) (fun _ h => h) hd (kk p e s m args below meth c H locs ls F C h1 h2 h3 hz)
theorem J_gfm (hd : decode md.2.1 pc = .ok (.getstatic 1053, 3)) (hp : pc + 3 = pc') (hc : md.1.cls = "java/lang/String") (kk : ∀ w : Value, (w = .null ∨ w = .ref 1000020) → JJ l G md R cs mcs Po pc' lv (w :: st) M) : JJ l G md R cs mcs Po pc lv st M := by
  subst hp
  intro p e s m args below meth c H locs ls F C h1 h2 h3 hz
  have hts := F.2.2.2.2.2.2.1
  obtain ⟨w, hw, hz2, -, -⟩ := C.2.2.1.2.2.2.2
  rcases hw with rfl | rfl
  · exact va_gets (own := "java/lang/String") F.1 F.2.1 hz2 h2 (by rw [← hc]; exact F.2.2.2.2.2.1) (hts _ wf_1053) (fun _ h => h) hd (kk .null (Or.inl rfl) p e s m args below meth c H locs ls F C h1 h2 h3 hz)
  · have kk' := kk (.ref 1000020) (Or.inr rfl) p e s m args below meth c H locs ls F C h1 h2 h3 hz
    have e1 : (Value.ref 1000020 :: st).map (j_tv G) = .ref (G.2.2.2 20) :: st.map (j_tv G) := by simp [j_tv, j_rho]
    rw [e1] at kk'
    exact va_gets (own := "java/lang/String") F.1 F.2.1 hz2 h2 (by rw [← hc]; exact F.2.2.2.2.2.1) (hts _ wf_1053) (fun _ h => h) hd kk'
theorem J_callVs {md' : j_Md} {d' i : Nat} {mcs' : Nat × Nat} {as rest stk : List Value} {Po' : Option Value → j_M → Prop} {w : Nat} (hw : w < 4) (hd : decode md.2.1 pc = .ok (.invokevirtual i, 3)) (hp : pc + 3 = pc') (hlk : j_lkV md.1.cls i md' as.length) (hcn : md'.1.cls = "java/lang/String") (hstk : stk = as.reverse ++ .ref (1000001 + w) :: rest) (hM : j_Sp l G md' d' mcs' (.ref (1000001 + w) :: as) M Po') (hR : d' + 1 ≤ R.frames ∧ 8 + (md'.2.2.1 + 11) + 40 * d' ≤ R.locals) (hW : (rest.map fun v => v.category).sum ≤ 8) (hf : cs.1 + mcs'.1 ≤ R.cells ∧ cs.2 + mcs'.2 ≤ R.slots) (kk : ∀ (v : Option Value) (M' : j_M), Po' v M' → JJ l G md R (cs.1 + mcs'.1, cs.2 + mcs'.2) mcs Po pc' lv (v.toList ++ rest) M') : JJ l G md R cs mcs Po pc lv stk M := by
  refine J_run (as := .ref (1000001 + w) :: as) hp ?_ kk
  intro p e s m args below meth c H locs ls F C h1 h2 h3
  subst hstk
  have hts := F.2.2.2.2.2.2.1
  obtain ⟨hw', hcd, hx⟩ := hlk
  have hrc : ∃ cell : Cell, H[j_rho G (1000001 + w)]? = some cell ∧ cell.vm.isStatics = false ∧ s.vm.findClass md'.1.cls = some cell.cls := by
    rw [j_roS, hcn]
    exact vk_recv (adK := fun i => G.2.2.2 (1 + i)) (i := w) C.2.2.1.2.1.2 hw h2
  exact va_runV (Ts := j_gt) (own := md.1.cls) (nL := md.2.2.1) (As := as.map (j_tv G)) (b := j_rho G (1000001 + w)) ⟨F.1, F.2.1, F.2.2.1, F.2.2.2.2.2.1, F.2.2.2.2.2.2.1⟩ hM (cwV as.length hts (fun x hx' => by
      unfold wsV at hx'
      rcases List.mem_append.mp hx' with h | h
      · simp only [List.mem_cons, List.not_mem_nil, or_false] at h
        rcases h with rfl | rfl | rfl | rfl
        · exact j_gw hw'.1
        · exact j_gw hw'.2.1
        · exact j_gw hw'.2.2.1
        · exact j_gw hw'.2.2.2
      · exact j_goodM hcd x h) rfl rfl rfl ⟨rfl, hx⟩ hR) ⟨j_blind, hrc, fun U hU hW => j_calls C h1 h2 hU hW⟩ rfl (by simp) h3.1 (by simp [j_tv]) (lv_room (by rw [j_catl]; exact hW)) hd hf
end
theorem c_pchk {l : Launch} {G : j_G} {M : j_M} {i n : Int32} {w : Value} (hw : w = .null ∨ w = .ref 1000020) (h0 : ¬ i < 0) (h1 : i < n) : j_Sp l G md_pchk 1 (0, 0) [.int i, .int n, w] M (po (some (.int i)) M) := by
  refine j_Sp.of (by decide) (by rcases hw with rfl | rfl <;> exact Nat.le_of_ble_eq_true rfl) ?_
  show JJ l G md_pchk (j_rm 1 (0, 0)) (0, 0) (0, 0) (po (some (.int i)) M) 0 [(0, .int i), (1, .int n), (2, w)] [] M
  refine J_iload_n (pc' := 1) (i := 0) (n := 0) dJpchk_0 rfl rfl rfl ?_
  refine J_if_lt (pc' := 4) (tgt := 9) dJpchk_1 rfl (by decide) (fun c => absurd c h0) (fun _ => ?_)
  refine J_iload_n (pc' := 5) (i := 0) (n := 0) dJpchk_4 rfl rfl rfl ?_
  refine J_iload_n (pc' := 6) (i := 1) (n := 1) dJpchk_5 rfl rfl rfl ?_
  refine J_icmp_lt (pc' := 9) (tgt := 16) dJpchk_6 rfl (by decide) (fun _ => ?_) (fun c => absurd h1 c)
  refine J_iload_n (pc' := 17) (i := 0) (n := 0) dJpchk_16 rfl rfl rfl ?_
  exact J_iret rfl dJpchk_17 ⟨rfl, Nat.le_refl _⟩ ⟨rfl, rfl⟩
theorem c_schk {l : Launch} {G : j_G} {M : j_M} {i n : Int32} (h0 : ¬ i < 0) (h1 : i < n) : j_Sp l G md_schk 2 (0, 0) [.int i, .int n] M (po none M) := by
  refine j_Sp.of (by decide) (Nat.le_of_ble_eq_true rfl) ?_
  show JJ l G md_schk (j_rm 2 (0, 0)) (0, 0) (0, 0) (po none M) 0 [(0, .int i), (1, .int n)] [] M
  refine J_iload_n (pc' := 1) (i := 0) (n := 0) dJschk_0 rfl rfl rfl ?_
  refine J_iload_n (pc' := 2) (i := 1) (n := 1) dJschk_1 rfl rfl rfl ?_
  refine J_gfm (pc' := 5) dJschk_2 rfl rfl (fun w hw => ?_)
  refine J_callS (pc' := 8) (as := [.int i, .int n, w]) (rest := []) dJschk_5 rfl lk_JS_1059 rfl (c_pchk hw h0 h1) ⟨Nat.le_of_ble_eq_true rfl, Nat.le_of_ble_eq_true rfl⟩ (Nat.le_of_ble_eq_true rfl) ⟨Nat.le_of_ble_eq_true rfl, Nat.le_of_ble_eq_true rfl⟩ (j_kq ?_)
  refine J_pop (pc' := 9) dJschk_8 rfl rfl ?_
  exact J_vret rfl dJschk_9 ⟨rfl, Nat.le_refl _⟩ ⟨rfl, rfl⟩
theorem c_scod {l : Launch} {G : j_G} {M : j_M} {w : Nat} (hw : w < 4) : j_Sp l G md_scod 1 (0, 0) [.ref (1000001 + w)] M (po (some (.int 0)) M) := by
  refine j_Sp.of (by decide) (Nat.le_of_ble_eq_true rfl) ?_
  show JJ l G md_scod (j_rm 1 (0, 0)) (0, 0) (0, 0) (po (some (.int 0)) M) 0 [(0, .ref (1000001 + w))] [] M
  refine J_gcs (pc' := 3) dJscod_0 rfl rfl ?_
  refine J_if_eq (pc' := 6) (tgt := 13) dJscod_3 rfl (by decide) (fun c => absurd c (by decide)) (fun _ => ?_)
  refine J_aload_n (pc' := 7) (i := 0) (n := 0) dJscod_6 rfl rfl rfl ?_
  refine J_sgC (pc' := 10) hw dJscod_7 rfl rfl ?_
  refine J_goto (pc' := 14) dJscod_10 (by decide) ?_
  exact J_zret (ty := .byte) rfl rfl dJscod_14 ⟨rfl, Nat.le_refl _⟩ ⟨rfl, rfl⟩
theorem c_slat {l : Launch} {G : j_G} {M : j_M} {w : Nat} (hw : w < 4) : j_Sp l G md_slat 1 (0, 0) [.ref (1000001 + w)] M (po (some (.int 1)) M) := by
  refine j_Sp.of (by decide) (Nat.le_of_ble_eq_true rfl) ?_
  show JJ l G md_slat (j_rm 1 (0, 0)) (0, 0) (0, 0) (po (some (.int 1)) M) 0 [(0, .ref (1000001 + w))] [] M
  refine J_gcs (pc' := 3) dJslat_0 rfl rfl ?_
  refine J_if_eq (pc' := 6) (tgt := 17) dJslat_3 rfl (by decide) (fun c => absurd c (by decide)) (fun _ => ?_)
  refine J_aload_n (pc' := 7) (i := 0) (n := 0) dJslat_6 rfl rfl rfl ?_
  refine J_sgC (pc' := 10) hw dJslat_7 rfl rfl ?_
  refine J_if_ne (pc' := 13) (tgt := 17) dJslat_10 rfl (by decide) (fun c => absurd rfl c) (fun _ => ?_)
  refine J_iconst (pc' := 14) (v := (1 : Int32)) dJslat_13 rfl (by decide) ?_
  refine J_goto (pc' := 18) dJslat_14 (by decide) ?_
  exact J_zret (ty := .boolean) rfl rfl dJslat_18 ⟨rfl, Nat.le_refl _⟩ ⟨rfl, rfl⟩
theorem j_sl_shr {w : Nat} (hw : w < 4) : j_sl w >>> ((0 : Int32) &&& 31) = j_sl w := by
  match w, hw with
  | 0, _ => decide
  | 1, _ => decide
  | 2, _ => decide
  | 3, _ => decide
theorem c_slen {l : Launch} {G : j_G} {M : j_M} {w : Nat} (hw : w < 4) {r : Int32} (e : j_sl w = r) : j_Sp l G md_slen 2 (0, 0) [.ref (1000001 + w)] M (po (some (.int r)) M) := by
  subst e
  refine j_Sp.of (by decide) (Nat.le_of_ble_eq_true rfl) ?_
  show JJ l G md_slen (j_rm 2 (0, 0)) (0, 0) (0, 0) (po (some (.int (j_sl w))) M) 0 [(0, .ref (1000001 + w))] [] M
  refine J_aload_n (pc' := 1) (i := 0) (n := 0) dJslen_0 rfl rfl rfl ?_
  refine J_sgV (pc' := 4) hw dJslen_1 rfl rfl ?_
  refine J_slenA (pc' := 5) hw dJslen_4 rfl ?_
  refine J_aload_n (pc' := 6) (i := 0) (n := 0) dJslen_5 rfl rfl rfl ?_
  refine J_callVs (pc' := 9) (as := []) (rest := [.int (j_sl w)]) hw dJslen_6 rfl lk_JS_335 rfl rfl (c_scod hw) ⟨Nat.le_of_ble_eq_true rfl, Nat.le_of_ble_eq_true rfl⟩ (Nat.le_of_ble_eq_true rfl) ⟨Nat.le_of_ble_eq_true rfl, Nat.le_of_ble_eq_true rfl⟩ (j_kq ?_)
  refine J_ishr (pc' := 10) dJslen_9 rfl ?_
  exact J_iret rfl dJslen_10 ⟨rfl, Nat.le_refl _⟩ ⟨by rw [j_sl_shr hw], rfl⟩
theorem c_lchr {l : Launch} {G : j_G} {M : j_M} {w : Nat} {i : Int32} (hw : w < 4) (hi : vp_in i (j_len.getD w 0)) : j_Sp l G md_lchr 3 (0, 0) [.ref (1000011 + w), .int i] M (po (some (.int (j_sch w i.toNatClampNeg))) M) := by
  refine j_Sp.of (by decide) (Nat.le_of_ble_eq_true rfl) ?_
  show JJ l G md_lchr (j_rm 3 (0, 0)) (0, 0) (0, 0) (po (some (.int (j_sch w i.toNatClampNeg))) M) 0 [(0, .ref (1000011 + w)), (1, .int i)] [] M
  obtain ⟨k, hk, rfl⟩ := vp_in_of hi (j_len_lt hw)
  have hL := j_len_lt hw
  refine J_iload_n (pc' := 1) (i := 1) (n := 1) dJlchr_0 rfl rfl rfl ?_
  refine J_aload_n (pc' := 2) (i := 0) (n := 0) dJlchr_1 rfl rfl rfl ?_
  refine J_slenA (pc' := 3) hw dJlchr_2 rfl ?_
  refine J_callS (pc' := 6) (as := [.int (nI k), .int (j_sl w)]) (rest := []) dJlchr_3 rfl lk_JL_9 rfl (c_schk (nI_pos (by omega)) (nI_lt hk hL)) ⟨Nat.le_of_ble_eq_true rfl, Nat.le_of_ble_eq_true rfl⟩ (Nat.le_of_ble_eq_true rfl) ⟨Nat.le_of_ble_eq_true rfl, Nat.le_of_ble_eq_true rfl⟩ (j_kv ?_)
  refine J_aload_n (pc' := 7) (i := 0) (n := 0) dJlchr_6 rfl rfl rfl ?_
  refine J_iload_n (pc' := 8) (i := 1) (n := 1) dJlchr_7 rfl rfl rfl ?_
  refine J_sbl (pc' := 9) hw dJlchr_8 rfl hi ?_
  refine J_sipush (pc' := 12) (v := (255 : Int32)) dJlchr_9 rfl (by decide) ?_
  refine J_iand (pc' := 13) dJlchr_12 rfl ?_
  refine J_i2c (pc' := 14) dJlchr_13 rfl ?_
  rw [sc_c2]
  exact J_zret (ty := .char) rfl (sc_nar _) dJlchr_14 ⟨rfl, Nat.le_refl _⟩ ⟨rfl, rfl⟩
theorem j_sch_nar (w k : Nat) : narrow .char (.int (j_sch w k)) = .int (j_sch w k) := sc_nar _
theorem c_schr {l : Launch} {G : j_G} {M : j_M} {w : Nat} {i v : Int32} (hw : w < 4) (e : vp_in i (j_len.getD w 0) ∧ j_sch w i.toNatClampNeg = v) : j_Sp l G md_schr 4 (0, 0) [.ref (1000001 + w), .int i] M (po (some (.int v)) M) := by
  obtain ⟨hi, rfl⟩ := e
  refine j_Sp.of (by decide) (Nat.le_of_ble_eq_true rfl) ?_
  show JJ l G md_schr (j_rm 4 (0, 0)) (0, 0) (0, 0) (po (some (.int (j_sch w i.toNatClampNeg))) M) 0 [(0, .ref (1000001 + w)), (1, .int i)] [] M
  refine J_aload_n (pc' := 1) (i := 0) (n := 0) dJschr_0 rfl rfl rfl ?_
  refine J_callVs (pc' := 4) (as := []) (rest := []) hw dJschr_1 rfl lk_JS_492 rfl rfl (c_slat hw) ⟨Nat.le_of_ble_eq_true rfl, Nat.le_of_ble_eq_true rfl⟩ (Nat.le_of_ble_eq_true rfl) ⟨Nat.le_of_ble_eq_true rfl, Nat.le_of_ble_eq_true rfl⟩ (j_kq ?_)
  refine J_if_eq (pc' := 7) (tgt := 16) dJschr_4 rfl (by decide) (fun c => absurd c (by decide)) (fun _ => ?_)
  refine J_aload_n (pc' := 8) (i := 0) (n := 0) dJschr_7 rfl rfl rfl ?_
  refine J_sgV (pc' := 11) hw dJschr_8 rfl rfl ?_
  refine J_iload_n (pc' := 12) (i := 1) (n := 1) dJschr_11 rfl rfl rfl ?_
  refine J_callS (pc' := 15) (as := [.ref (1000011 + w), .int i]) (rest := []) dJschr_12 rfl lk_JS_495 rfl (c_lchr hw hi) ⟨Nat.le_of_ble_eq_true rfl, Nat.le_of_ble_eq_true rfl⟩ (Nat.le_of_ble_eq_true rfl) ⟨Nat.le_of_ble_eq_true rfl, Nat.le_of_ble_eq_true rfl⟩ (j_kq ?_)
  exact J_zret (ty := .char) rfl (j_sch_nar _ _) dJschr_15 ⟨rfl, Nat.le_refl _⟩ ⟨rfl, rfl⟩
