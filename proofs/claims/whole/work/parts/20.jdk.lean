theorem j_c_ne {G : j_G} {M M' : j_M} {b : Nat} (h2 : M'.2 = M.2) (h1 : ∀ j, M'.1 b j = M.1 b j) : j_c G M' b = j_c G M b := by
  obtain ⟨I, L, R, S, N⟩ := M
  obtain ⟨I', Q'⟩ := M'
  cases h2
  have e : j_I (I', L, R, S, N) b = j_I (I, L, R, S, N) b := by funext j; exact h1 j
  have e2 : ∀ ci, j_fv G (I', L, R, S, N) ci b = j_fv G (I, L, R, S, N) ci b := by intro ci; funext j; simp only [j_fv, e]; rfl
  unfold j_c j_cel
  simp only [e, e2]
  rfl
theorem j_shF {P : ((Nat → Nat → Option Nat) × (Nat → Nat × Nat) × Nat) → Prop} {M M1 : j_M} {f : Nat → Int32} {sp da dp n : Nat} (e : j_cf M f sp da dp n = M1) (h : P M.2.2) : P M1.2.2 := by subst e; exact h
theorem j_shfi {P : ((Nat → Nat → Option Nat) × (Nat → Nat × Nat) × Nat) → Prop} {M M1 : j_M} {a n : Nat} {v : Int32} (e : j_fi M a n v = M1) (h : P M.2.2) : P M1.2.2 := by subst e; exact h
theorem j_shfl {P : ((Nat → Nat → Option Nat) × (Nat → Nat × Nat) × Nat) → Prop} {M M1 : j_M} {a n : Nat} {v : Int64} (e : j_fl M a n v = M1) (h : P M.2.2) : P M1.2.2 := by subst e; exact h
section
variable {l : Launch} {G : j_G} {md : j_Md} {R : Room} {cs mcs : Nat × Nat} {Po : Option Value → j_M → Prop} {pc pc' : Nat} {lv lv' : List (Nat × Value)} {st : List Value} {M M1 : j_M}
theorem J_top {x v : Int32} (e : x = v) (kk : JJ l G md R cs mcs Po pc lv (.int v :: st) M) : JJ l G md R cs mcs Po pc lv (.int x :: st) M := by subst e; exact kk
theorem J_copye {i sa n0 da n1 : Nat} {sp dp n : Int32} (hd : decode md.2.1 pc = .ok (.invokestatic i, 3)) (hp : pc + 3 = pc') (hlk : Cond.methodLink md.1.cls i arraycopyName ∈ j_gt ∧ Cond.native arraycopyName ∈ j_gt ∧ Cond.static arraycopyName ∈ j_gt ∧ Cond.initialized "java/lang/System" ∈ j_gt) (hs : j_S M sa = (1, n0)) (ha : sa < j_N M) (hs' : j_S M da = (1, n1)) (ha' : da < j_N M) (hR : 1 ≤ R.frames ∧ (st.map fun v => v.category).sum + (nativeFrameWords "java/lang/System" "arraycopy" 5 + 11) ≤ R.locals) (e : (((¬ sp < 0 ∧ ¬ dp < 0 ∧ ¬ n < 0) ∧ sp.toNatClampNeg + n.toNatClampNeg ≤ n0 ∧ dp.toNatClampNeg + n.toNatClampNeg ≤ n1) ∧ j_cp M sa sp.toNatClampNeg da dp.toNatClampNeg n.toNatClampNeg = M1)) (kk : JJ l G md R cs mcs Po pc' lv st M1) : JJ l G md R cs mcs Po pc lv (.int n :: .int dp :: .ref da :: .int sp :: .ref sa :: st) M := by
  subst hp
  obtain ⟨⟨⟨q1, q2, q3⟩, q4, q5⟩, rfl⟩ := e
  intro p e s m args below meth c H locs ls F C h1 h2 h3 hz
  have hts := F.2.2.2.2.2.2.1
  show W p l e R s m args below meth c H locs cs.1 cs.2 _ (F0 m pc ls (.int n :: .int dp :: .ref (j_rho G da) :: .int sp :: .ref (j_rho G sa) :: st.map (j_tv G)))
  rw [j_ro h1 ha, j_ro h1 ha']
  refine va_copyi (ty := .int) F.1 F.2.1 (F.2.2.1.trans h3.1.symm) F.2.2.2.2.2.1 (hts _ hlk.1) (hts _ hlk.2.1) (hts _ hlk.2.2.1) (hts _ hlk.2.2.2) C.1 h1.1 j_ws_D h2 sa da 0 0 (j_at ha (j_c_1 hs)) (j_at ha' (j_c_1 hs')) rfl rfl rfl q1 q2 q3 q4 q5 (fun _ _ => rfl) hR.1 (by rw [j_catl]; exact hR.2) hd ?_
  refine j_fin (M' := j_cp M sa sp.toNatClampNeg da dp.toNatClampNeg n.toNatClampNeg) F C h1 h3 hz rfl (fun b hb => j_c_ne rfl (fun j => ?_)) ?_ kk
  · simp [j_cp, hb]
  · rw [j_c_1 (M := j_cp M sa sp.toNatClampNeg da dp.toNatClampNeg n.toNatClampNeg) hs']
    congr 4
    funext j
    simp [j_I, j_cp, va_cpy]
theorem J_gsig (hd : decode md.2.1 pc = .ok (.getstatic 43, 3)) (hp : pc + 3 = pc') (hc : md.1.cls = RX0) (kk : JJ l G md R cs mcs Po pc' lv (.ref 1000000 :: st) M) : JJ l G md R cs mcs Po pc lv st M := by
  subst hp
  intro p e s m args below meth c H locs ls F C h1 h2 h3 hz
  have hw : Cond.fieldLinkNest RX0 43 "SwimLanes" "SIGNS_AT_FIRST" "[I" "SwimLanes" ∈ lw_tbl := j_inN 226 (by decide +kernel)
  have hz2 := C.2.2.1.1.1
  have kk' := kk p e s m args below meth c H locs ls F C h1 h2 h3 hz
  have e1 : (Value.ref 1000000 :: st).map (j_tv G) = .ref (G.2.2.2 0) :: st.map (j_tv G) := by simp [j_tv, j_rho]
  rw [e1] at kk'
  exact va_getsN (own := RX0) F.1 F.2.1 hz2 h2 (by rw [← hc]; exact F.2.2.2.2.2.1) (va_Nw.use rfl (C.2.1 _ hw rfl)) (fun _ h => h) hd kk'
/-- System.arraycopy out of a static row of ints -/
theorem j_copyT {p : Program} {e : Env} {s : State} {m : MethodId} {args : Array Value} {below : List Frame} {meth : Method} {c : Code} {H : Heap} {locs : List Loc} {cells slots : Nat} {Q : State → Prop} {cc : ByteArray} {ls : Array Slot} {rest : List Value} {D : va_G} {cl : List vw_C} {A : Nat → Prop} {a : Nat} {tys : List (ClassId × FieldType)} {ws : va_W} (hexec : p.tables.exec = Jvm.exec) (hb : c.code = cc) (hml : c.maxLocals = ls.size) {own : String} {index : Nat} (hown : s.vm.findClass own = some m.cls) (hlink : (Cond.methodLink own index arraycopyName).before args s = true) (hnat : (Cond.native arraycopyName).before args s = true) (hstat : (Cond.static arraycopyName).before args s = true) (hini : (Cond.initialized "java/lang/System").before args s = true)
    (hK : va_K D cl tys s) (hP : va_P D cl ws H) (hD : va_D A ws) (hS : va_S A s.heap H locs) {b0 n0 : Nat} {f : Nat → Int32} (hX : va_T .int b0 n0 (fun j => .int (f j)) A s s.heap) (q1 t1 : Nat) {c1 : ClassId} {n1 : Nat} {g : Nat → Int32} (ha1 : ws[q1]? = some (a, .inl (c1, n1, .inl g))) (ht1 : tys[t1]? = some (c1, .int))
    {sp dp n : Int32} (h1 : ¬ sp < 0) (h2 : ¬ dp < 0) (h3 : ¬ n < 0) (h4 : sp.toNatClampNeg + n.toNatClampNeg ≤ n0) (h5 : dp.toNatClampNeg + n.toNatClampNeg ≤ n1)
    (hframes : 1 ≤ R.frames) (hlocals : (rest.map fun v => v.category).sum + (nativeFrameWords "java/lang/System" "arraycopy" 5 + 11) ≤ R.locals) (hdg : decode cc pc = .ok (.invokestatic index, 3))
    (kk : ∀ (H1 : Heap) (locs1 : List Loc), va_P D cl (ws.set q1 (a, .inl (c1, n1, .inl (va_cpy f g sp.toNatClampNeg dp.toNatClampNeg n.toNatClampNeg)))) H1 → va_D A (ws.set q1 (a, .inl (c1, n1, .inl (va_cpy f g sp.toNatClampNeg dp.toNatClampNeg n.toNatClampNeg)))) → va_S A s.heap H1 locs1 → W p l e R s m args below meth c H1 locs1 cells slots Q (F0 m (pc + 3) ls rest)) : W p l e R s m args below meth c H locs cells slots Q (F0 m pc ls (.int n :: .int dp :: .ref a :: .int sp :: .ref b0 :: rest)) := by
  have nn : ∀ z : Int32, ¬ z < 0 → z.toInt = (z.toNatClampNeg : Int) := by
    intro z hz
    have hz0 : (0 : Int) ≤ z.toInt := by
      have := Int32.not_lt.mp hz
      simpa using Int32.le_iff_toInt_le.mp this
    show z.toInt = ((z.toInt.toNat : Nat) : Int)
    omega
  intro T hT X
  obtain ⟨scr, r1, ⟨r6, k0, hk0, cm0, hkk0⟩, r3, r4, -, r5, r7⟩ := hX
  have hc0 : H[b0]? = some scr := by rw [hS.2.1 b0 (Array.getElem?_eq_some_iff.mp r1).1 r7]; exact r1
  have hc1 : H[a]? = some (vp_cell c1 (n1, .inl g)) := hP q1 _ ha1
  obtain ⟨-, k1, hk1, cm1, hkk1⟩ := (hK.2 t1 _ ht1).1 n1 (fun j => .int (g j))
  obtain ⟨vm', X', step⟩ := X.arraycopy hexec hown hlink hnat hstat hini (src := b0) (dst := a) (cs := scr) (cd := vp_cell c1 (n1, .inl g)) (srcPos := sp) (destPos := dp) (n := n) (by rw [hT]; exact hc0) (by rw [hT]; exact hc1)
    r6 (fun _ h => by cases h) r3 (fun h => by cases h) hk0 hk1 hkk0 hkk1 (by simp [refKind]) h1 h2 h3
    (by rw [nn sp h1, nn n h3]; omega)
    (by rw [nn dp h2, nn n h3]; show ¬ _ > ((arrV c1 n1 (fun j => .int (g j))).slots.size : Int); rw [arrV_size]; omega)
    (fun vm₁ _ i hi => by
      have e : scr.slots.getD (sp.toNatClampNeg + i) .null = .int (f (sp.toNatClampNeg + i)) := by
        rw [Array.getD_eq_getD_getElem?, r5 _ (by omega)]
        rfl
      rw [e]
      exact ⟨rfl, trivial⟩)
    (g := F0 m pc ls (.int n :: .int dp :: .ref a :: .int sp :: .ref b0 :: rest)) rfl (by rw [hml]) (rest := rest) rfl (by rw [hb]; exact hdg) hframes (by show 2 * 0 + _ + _ ≤ _; omega)
  have e1 : copied scr (vp_cell c1 (n1, .inl g)) sp dp n = vp_cell c1 (n1, .inl (va_cpy f g sp.toNatClampNeg dp.toNatClampNeg n.toNatClampNeg)) := va_copiedX (fun z => .int z) scr c1 f g r5 h4
  rw [e1] at X' step
  have hl : a < H.size := (Array.getElem?_eq_some_iff.mp hc1).1
  generalize hY : vp_cell c1 (n1, .inl (va_cpy f g sp.toNatClampNeg dp.toNatClampNeg n.toNatClampNeg)) = Y at X' step
  have hheap : ((T.setVm vm').setCell a Y).heap = H.setIfInBounds a Y := by rw [← hT]; rfl
  have oq : ∀ q : Nat, q ≠ a → (H.setIfInBounds a Y)[q]? = H[q]? := fun q hq => by simp [Array.getElem?_setIfInBounds, Ne.symm hq]
  obtain ⟨t, a1, b1⟩ := kk _ _ (hP.set hD ha1 (show (H.setIfInBounds a Y)[a]? = some _ by simp [Array.getElem?_setIfInBounds, hl, ← hY]) oq) (hD.set ha1) ⟨by simp; exact hS.1, fun q g1 g2 => by
      rw [oq q (fun e => g2 (by rw [e]; exact hD.2 q1 _ ha1))]
      exact hS.2.1 q g1 g2, fun q hq => by
      rcases List.mem_append.mp hq with h | h
      · exact hS.2.2 q h
      · obtain ⟨z, -, hz⟩ := List.mem_map.mp h
        rw [← hz]
        exact hD.2 q1 _ ha1⟩ _ hheap X'
  exact ⟨t, step t a1, b1⟩
theorem J_copyS {i da n1 : Nat} (hd : decode md.2.1 pc = .ok (.invokestatic i, 3)) (hp : pc + 3 = pc') (hlk : Cond.methodLink md.1.cls i arraycopyName ∈ j_gt ∧ Cond.native arraycopyName ∈ j_gt ∧ Cond.static arraycopyName ∈ j_gt ∧ Cond.initialized "java/lang/System" ∈ j_gt) (hs' : j_S M da = (1, n1)) (ha' : da < j_N M) (hn : 4 ≤ n1) (hR : 1 ≤ R.frames ∧ (st.map fun v => v.category).sum + (nativeFrameWords "java/lang/System" "arraycopy" 5 + 11) ≤ R.locals) (e : j_cf M j_sig 0 da 0 4 = M1) (kk : JJ l G md R cs mcs Po pc' lv st M1) : JJ l G md R cs mcs Po pc lv (.int 4 :: .int 0 :: .ref da :: .int 0 :: .ref 1000000 :: st) M := by
  subst hp
  subst e
  intro p e s m args below meth c H locs ls F C h1 h2 h3 hz
  have hts := F.2.2.2.2.2.2.1
  have hro : j_rho G 1000000 = G.2.2.2 0 := by simp [j_rho]
  show W p l e R s m args below meth c H locs cs.1 cs.2 _ (F0 m pc ls (.int 4 :: .int 0 :: .ref (j_rho G da) :: .int 0 :: .ref (j_rho G 1000000) :: st.map (j_tv G)))
  rw [j_ro h1 ha', hro]
  refine j_copyT F.1 F.2.1 (F.2.2.1.trans h3.1.symm) F.2.2.2.2.2.1 (hts _ hlk.1) (hts _ hlk.2.1) (hts _ hlk.2.2.1) (hts _ hlk.2.2.2) C.1 h1.1 j_ws_D h2 C.2.2.1.1.2 da 0 (j_at ha' (j_c_1 hs')) rfl (by decide) (by decide) (by decide) (by decide) (show 0 + 4 ≤ n1 by omega) hR.1 (by rw [j_catl]; exact hR.2) hd ?_
  refine j_fin (M' := j_cf M j_sig 0 da 0 4) F C h1 h3 hz rfl (fun b hb => j_c_ne rfl (fun j => ?_)) ?_ kk
  · simp [j_cf, hb]
  · rw [j_c_1 (M := j_cf M j_sig 0 da 0 4) hs']
    congr 4
    funext j
    show (if da = da ∧ 0 ≤ j ∧ j < 0 + 4 then j_sig (0 + (j - 0)) else M.1 da j) = (if 0 ≤ j ∧ j < 0 + 4 then j_sig (0 + (j - 0)) else j_I M da j)
    simp [j_I]
end
abbrev md_fi : j_Md := (⟨"java/util/Arrays", "fill", "([II)V"⟩, prog_19_method_103_code, 4, none)
theorem cd_fi : j_cd md_fi := j_in 233 (by decide +kernel) rfl
theorem dJfi_0 : decode prog_19_method_103_code 0 = .ok (.iconst 0, 1) := by decide +kernel
theorem dJfi_1 : decode prog_19_method_103_code 1 = .ok (.istore_n 2, 1) := by decide +kernel
theorem dJfi_2 : decode prog_19_method_103_code 2 = .ok (.aload_n 0, 1) := by decide +kernel
theorem dJfi_3 : decode prog_19_method_103_code 3 = .ok (.arraylength, 1) := by decide +kernel
theorem dJfi_4 : decode prog_19_method_103_code 4 = .ok (.istore_n 3, 1) := by decide +kernel
theorem dJfi_5 : decode prog_19_method_103_code 5 = .ok (.iload_n 2, 1) := by decide +kernel
theorem dJfi_6 : decode prog_19_method_103_code 6 = .ok (.iload_n 3, 1) := by decide +kernel
theorem dJfi_7 : decode prog_19_method_103_code 7 = .ok (.if_icmp .ge 13, 3) := by decide +kernel
theorem dJfi_10 : decode prog_19_method_103_code 10 = .ok (.aload_n 0, 1) := by decide +kernel
theorem dJfi_11 : decode prog_19_method_103_code 11 = .ok (.iload_n 2, 1) := by decide +kernel
theorem dJfi_12 : decode prog_19_method_103_code 12 = .ok (.iload_n 1, 1) := by decide +kernel
theorem dJfi_13 : decode prog_19_method_103_code 13 = .ok (.iastore, 1) := by decide +kernel
theorem dJfi_14 : decode prog_19_method_103_code 14 = .ok (.iinc 2 1, 3) := by decide +kernel
theorem dJfi_17 : decode prog_19_method_103_code 17 = .ok (.goto (-12), 3) := by decide +kernel
theorem dJfi_20 : decode prog_19_method_103_code 20 = .ok (.return_, 1) := by decide +kernel
abbrev md_fl : j_Md := (⟨"java/util/Arrays", "fill", "([JJ)V"⟩, prog_19_method_101_code, 5, none)
theorem cd_fl : j_cd md_fl := j_in 823 (by decide +kernel) rfl
theorem dJfl_0 : decode prog_19_method_101_code 0 = .ok (.iconst 0, 1) := by decide +kernel
theorem dJfl_1 : decode prog_19_method_101_code 1 = .ok (.istore_n 3, 1) := by decide +kernel
theorem dJfl_2 : decode prog_19_method_101_code 2 = .ok (.aload_n 0, 1) := by decide +kernel
theorem dJfl_3 : decode prog_19_method_101_code 3 = .ok (.arraylength, 1) := by decide +kernel
theorem dJfl_4 : decode prog_19_method_101_code 4 = .ok (.istore 4, 2) := by decide +kernel
theorem dJfl_6 : decode prog_19_method_101_code 6 = .ok (.iload_n 3, 1) := by decide +kernel
theorem dJfl_7 : decode prog_19_method_101_code 7 = .ok (.iload 4, 2) := by decide +kernel
theorem dJfl_9 : decode prog_19_method_101_code 9 = .ok (.if_icmp .ge 13, 3) := by decide +kernel
theorem dJfl_12 : decode prog_19_method_101_code 12 = .ok (.aload_n 0, 1) := by decide +kernel
theorem dJfl_13 : decode prog_19_method_101_code 13 = .ok (.iload_n 3, 1) := by decide +kernel
theorem dJfl_14 : decode prog_19_method_101_code 14 = .ok (.lload_n 1, 1) := by decide +kernel
theorem dJfl_15 : decode prog_19_method_101_code 15 = .ok (.lastore, 1) := by decide +kernel
theorem dJfl_16 : decode prog_19_method_101_code 16 = .ok (.iinc 3 1, 3) := by decide +kernel
theorem dJfl_19 : decode prog_19_method_101_code 19 = .ok (.goto (-13), 3) := by decide +kernel
theorem dJfl_22 : decode prog_19_method_101_code 22 = .ok (.return_, 1) := by decide +kernel
theorem j_fi_0 {M : j_M} {a : Nat} {v : Int32} : j_fi M a 0 v = M := by
  refine Prod.ext ?_ rfl
  funext b j; simp [j_fi]
theorem j_fi_s {M : j_M} {a i : Nat} {v : Int32} : j_sI (j_fi M a i v) a i v = j_fi M a (i + 1) v := by
  refine Prod.ext ?_ rfl
  funext b j
  simp only [j_fi, j_sI]
  by_cases hb : b = a
  · by_cases h1 : j = i
    · simp [hb, h1]
    · by_cases h2 : j < i
      · simp [hb, h1, h2, Nat.lt_succ_of_lt h2]
      · simp [hb, h1, h2, show ¬ j < i + 1 by omega]
  · simp [hb]
theorem j_fl_0 {M : j_M} {a : Nat} {v : Int64} : j_fl M a 0 v = M := by
  refine Prod.ext rfl (Prod.ext ?_ rfl)
  funext b j; simp [j_fl]
theorem j_fl_s {M : j_M} {a i : Nat} {v : Int64} : j_sL (j_fl M a i v) a i v = j_fl M a (i + 1) v := by
  refine Prod.ext rfl (Prod.ext ?_ rfl)
  funext b j
  simp only [j_fl, j_sL]
  by_cases hb : b = a
  · by_cases h1 : j = i
    · simp [hb, h1]
    · by_cases h2 : j < i
      · simp [hb, h1, h2, Nat.lt_succ_of_lt h2]
      · simp [hb, h1, h2, show ¬ j < i + 1 by omega]
  · simp [hb]
set_option maxHeartbeats 4000000 in
theorem c_fi {l : Launch} {G : j_G} {M M1 : j_M} {a n : Nat} {v : Int32} (hs : j_S M a = (1, n)) (ha : a < j_N M) (hn : n < 2 ^ 31) (e : j_fi M a n v = M1) : j_Sp l G md_fi 1 (0, 0) [.ref a, .int v] M (po none M1) := by
  refine j_Sp.of (by decide) (Nat.le_of_ble_eq_true rfl) ?_
  subst e
  have key : ∀ (k i : Nat), i + k = n → JJ l G md_fi (j_rm 1 (0, 0)) (0, 0) (0, 0) (po none (j_fi M a n v)) 5 [(0, .ref a), (1, .int v), (2, .int (nI i)), (3, .int (nI n))] [] (j_fi M a i v) := by
    intro k
    induction k with
    | zero =>
      intro i hi
      have : i = n := by omega
      subst this
      refine J_iload_n (pc' := 6) (i := 2) (n := 2) dJfi_5 rfl rfl rfl ?_
      refine J_iload_n (pc' := 7) (i := 3) (n := 3) dJfi_6 rfl rfl rfl ?_
      refine J_icmp_ge (pc' := 10) (tgt := 20) dJfi_7 rfl (by decide) (fun c => ?_) (fun c => absurd (nI_le (Nat.le_refl _) hn) c)
      exact J_vret rfl dJfi_20 ⟨rfl, Nat.le_refl _⟩ ⟨rfl, rfl⟩
    | succ k ih =>
      intro i hi
      refine J_iload_n (pc' := 6) (i := 2) (n := 2) dJfi_5 rfl rfl rfl ?_
      refine J_iload_n (pc' := 7) (i := 3) (n := 3) dJfi_6 rfl rfl rfl ?_
      refine J_icmp_ge (pc' := 10) (tgt := 20) dJfi_7 rfl (by decide) (fun c => absurd c (nI_ge (by omega) hn)) (fun c => ?_)
      refine J_aload_n (pc' := 11) (i := 0) (n := 0) dJfi_10 rfl rfl rfl ?_
      refine J_iload_n (pc' := 12) (i := 2) (n := 2) dJfi_11 rfl rfl rfl ?_
      refine J_iload_n (pc' := 13) (i := 1) (n := 1) dJfi_12 rfl rfl rfl ?_
      refine J_iast (pc' := 14) dJfi_13 rfl hs ha (vp_in_nI (by omega) hn) ?_
      rw [nI_clamp (by omega), j_fi_s]
      refine J_iinc (pc' := 17) (i := 2) (n := 2) (v := nI (i + 1)) (lv' := [(2, .int (nI (i + 1))), (0, .ref a), (1, .int v), (3, .int (nI n))]) dJfi_14 rfl rfl (by rw [j_inc 1 1 rfl]; exact nI_1 i) (by decide) rfl ?_
      refine J_goto (pc' := 5) dJfi_17 (by decide) ?_
      refine J_sub [1, 2, 0, 3] (lv' := [(0, .ref a), (1, .int v), (2, .int (nI (i + 1))), (3, .int (nI n))]) rfl ?_
      exact ih (i + 1) (by omega)
  show JJ l G md_fi (j_rm 1 (0, 0)) (0, 0) (0, 0) (po none (j_fi M a n v)) 0 [(0, .ref a), (1, .int v)] [] M
  refine J_iconst (pc' := 1) (v := (0 : Int32)) dJfi_0 rfl (by decide) ?_
  refine J_istore_n (pc' := 2) (i := 2) (lv' := [(2, .int (0 : Int32)), (0, .ref a), (1, .int v)]) dJfi_1 rfl rfl (by decide) rfl ?_
  refine J_aload_n (pc' := 3) (i := 0) (n := 1) dJfi_2 rfl rfl rfl ?_
  refine J_alen (pc' := 4) (n := n) (t0 := 0) (e0 := .inr (0, [])) dJfi_3 rfl ha (j_c_1 hs) rfl rfl ?_
  refine J_istore_n (pc' := 5) (i := 3) (lv' := [(3, .int (nI n)), (2, .int (0 : Int32)), (0, .ref a), (1, .int v)]) dJfi_4 rfl rfl (by decide) rfl ?_
  refine J_sub [2, 3, 1, 0] (lv' := [(0, .ref a), (1, .int v), (2, .int (nI 0)), (3, .int (nI n))]) rfl ?_
  have h := key n 0 (by omega)
  rw [j_fi_0] at h
  exact h
set_option maxHeartbeats 4000000 in
theorem c_fl {l : Launch} {G : j_G} {M M1 : j_M} {a n : Nat} {v : Int64} (hs : j_S M a = (2, n)) (ha : a < j_N M) (hn : n < 2 ^ 31) (e : j_fl M a n v = M1) : j_Sp l G md_fl 1 (0, 0) [.ref a, .long v] M (po none M1) := by
  refine j_Sp.of (by decide) (Nat.le_of_ble_eq_true rfl) ?_
  subst e
  have key : ∀ (k i : Nat), i + k = n → JJ l G md_fl (j_rm 1 (0, 0)) (0, 0) (0, 0) (po none (j_fl M a n v)) 6 [(0, .ref a), (1, .long v), (3, .int (nI i)), (4, .int (nI n))] [] (j_fl M a i v) := by
    intro k
    induction k with
    | zero =>
      intro i hi
      have : i = n := by omega
      subst this
      refine J_iload_n (pc' := 7) (i := 3) (n := 2) dJfl_6 rfl rfl rfl ?_
      refine J_iload (pc' := 9) (i := 4) (n := 3) dJfl_7 rfl rfl ?_
      refine J_icmp_ge (pc' := 12) (tgt := 22) dJfl_9 rfl (by decide) (fun c => ?_) (fun c => absurd (nI_le (Nat.le_refl _) hn) c)
      exact J_vret rfl dJfl_22 ⟨rfl, Nat.le_refl _⟩ ⟨rfl, rfl⟩
    | succ k ih =>
      intro i hi
      refine J_iload_n (pc' := 7) (i := 3) (n := 2) dJfl_6 rfl rfl rfl ?_
      refine J_iload (pc' := 9) (i := 4) (n := 3) dJfl_7 rfl rfl ?_
      refine J_icmp_ge (pc' := 12) (tgt := 22) dJfl_9 rfl (by decide) (fun c => absurd c (nI_ge (by omega) hn)) (fun c => ?_)
      refine J_aload_n (pc' := 13) (i := 0) (n := 0) dJfl_12 rfl rfl rfl ?_
      refine J_iload_n (pc' := 14) (i := 3) (n := 2) dJfl_13 rfl rfl rfl ?_
      refine J_lload_n (pc' := 15) (i := 1) (n := 1) dJfl_14 rfl rfl rfl ?_
      refine J_last (pc' := 16) dJfl_15 rfl hs ha (vp_in_nI (by omega) hn) ?_
      rw [nI_clamp (by omega), j_fl_s]
      refine J_iinc (pc' := 19) (i := 3) (n := 2) (v := nI (i + 1)) (lv' := [(3, .int (nI (i + 1))), (0, .ref a), (1, .long v), (4, .int (nI n))]) dJfl_16 rfl rfl (by rw [j_inc 1 1 rfl]; exact nI_1 i) (by decide) rfl ?_
      refine J_goto (pc' := 6) dJfl_19 (by decide) ?_
      refine J_sub [1, 2, 0, 3] (lv' := [(0, .ref a), (1, .long v), (3, .int (nI (i + 1))), (4, .int (nI n))]) rfl ?_
      exact ih (i + 1) (by omega)
  show JJ l G md_fl (j_rm 1 (0, 0)) (0, 0) (0, 0) (po none (j_fl M a n v)) 0 [(0, .ref a), (1, .long v)] [] M
  refine J_iconst (pc' := 1) (v := (0 : Int32)) dJfl_0 rfl (by decide) ?_
  refine J_istore_n (pc' := 2) (i := 3) (lv' := [(3, .int (0 : Int32)), (0, .ref a), (1, .long v)]) dJfl_1 rfl rfl (by decide) rfl ?_
  refine J_aload_n (pc' := 3) (i := 0) (n := 1) dJfl_2 rfl rfl rfl ?_
  refine J_alen (pc' := 4) (n := n) (t0 := 1) (e0 := .inr (0, [])) dJfl_3 rfl ha (j_c_2 hs) rfl rfl ?_
  refine J_istore (pc' := 6) (i := 4) (lv' := [(4, .int (nI n)), (3, .int (0 : Int32)), (0, .ref a), (1, .long v)]) dJfl_4 rfl (by decide) rfl ?_
  refine J_sub [2, 3, 1, 0] (lv' := [(0, .ref a), (1, .long v), (3, .int (nI 0)), (4, .int (nI n))]) rfl ?_
  have h := key n 0 (by omega)
  rw [j_fl_0] at h
  exact h
abbrev cJI_bc : ByteArray := prog_13_method_49_code
def yJI_bc : MethodName := ⟨"java/lang/Integer", "bitCount", "(I)I"⟩
theorem dJI_bc_0 : decode prog_13_method_49_code 0 = .ok (.iload_n 0, 1) := by decide +kernel
theorem dJI_bc_1 : decode prog_13_method_49_code 1 = .ok (.iload_n 0, 1) := by decide +kernel
theorem dJI_bc_2 : decode prog_13_method_49_code 2 = .ok (.iconst 1, 1) := by decide +kernel
theorem dJI_bc_3 : decode prog_13_method_49_code 3 = .ok (.iushr, 1) := by decide +kernel
theorem dJI_bc_4 : decode prog_13_method_49_code 4 = .ok (.ldc_w 265, 3) := by decide +kernel
theorem dJI_bc_7 : decode prog_13_method_49_code 7 = .ok (.iand, 1) := by decide +kernel
theorem dJI_bc_8 : decode prog_13_method_49_code 8 = .ok (.isub, 1) := by decide +kernel
theorem dJI_bc_9 : decode prog_13_method_49_code 9 = .ok (.istore_n 0, 1) := by decide +kernel
theorem dJI_bc_10 : decode prog_13_method_49_code 10 = .ok (.iload_n 0, 1) := by decide +kernel
theorem dJI_bc_11 : decode prog_13_method_49_code 11 = .ok (.ldc_w 266, 3) := by decide +kernel
theorem dJI_bc_14 : decode prog_13_method_49_code 14 = .ok (.iand, 1) := by decide +kernel
theorem dJI_bc_15 : decode prog_13_method_49_code 15 = .ok (.iload_n 0, 1) := by decide +kernel
theorem dJI_bc_16 : decode prog_13_method_49_code 16 = .ok (.iconst 2, 1) := by decide +kernel
theorem dJI_bc_17 : decode prog_13_method_49_code 17 = .ok (.iushr, 1) := by decide +kernel
theorem dJI_bc_18 : decode prog_13_method_49_code 18 = .ok (.ldc_w 266, 3) := by decide +kernel
theorem dJI_bc_21 : decode prog_13_method_49_code 21 = .ok (.iand, 1) := by decide +kernel
theorem dJI_bc_22 : decode prog_13_method_49_code 22 = .ok (.iadd, 1) := by decide +kernel
theorem dJI_bc_23 : decode prog_13_method_49_code 23 = .ok (.istore_n 0, 1) := by decide +kernel
theorem dJI_bc_24 : decode prog_13_method_49_code 24 = .ok (.iload_n 0, 1) := by decide +kernel
theorem dJI_bc_25 : decode prog_13_method_49_code 25 = .ok (.iload_n 0, 1) := by decide +kernel
theorem dJI_bc_26 : decode prog_13_method_49_code 26 = .ok (.iconst 4, 1) := by decide +kernel
theorem dJI_bc_27 : decode prog_13_method_49_code 27 = .ok (.iushr, 1) := by decide +kernel
theorem dJI_bc_28 : decode prog_13_method_49_code 28 = .ok (.iadd, 1) := by decide +kernel
theorem dJI_bc_29 : decode prog_13_method_49_code 29 = .ok (.ldc_w 267, 3) := by decide +kernel
theorem dJI_bc_32 : decode prog_13_method_49_code 32 = .ok (.iand, 1) := by decide +kernel
theorem dJI_bc_33 : decode prog_13_method_49_code 33 = .ok (.istore_n 0, 1) := by decide +kernel
theorem dJI_bc_34 : decode prog_13_method_49_code 34 = .ok (.iload_n 0, 1) := by decide +kernel
theorem dJI_bc_35 : decode prog_13_method_49_code 35 = .ok (.iload_n 0, 1) := by decide +kernel
theorem dJI_bc_36 : decode prog_13_method_49_code 36 = .ok (.bipush 8, 2) := by decide +kernel
theorem dJI_bc_38 : decode prog_13_method_49_code 38 = .ok (.iushr, 1) := by decide +kernel
theorem dJI_bc_39 : decode prog_13_method_49_code 39 = .ok (.iadd, 1) := by decide +kernel
theorem dJI_bc_40 : decode prog_13_method_49_code 40 = .ok (.istore_n 0, 1) := by decide +kernel
theorem dJI_bc_41 : decode prog_13_method_49_code 41 = .ok (.iload_n 0, 1) := by decide +kernel
theorem dJI_bc_42 : decode prog_13_method_49_code 42 = .ok (.iload_n 0, 1) := by decide +kernel
theorem dJI_bc_43 : decode prog_13_method_49_code 43 = .ok (.bipush 16, 2) := by decide +kernel
theorem dJI_bc_45 : decode prog_13_method_49_code 45 = .ok (.iushr, 1) := by decide +kernel
theorem dJI_bc_46 : decode prog_13_method_49_code 46 = .ok (.iadd, 1) := by decide +kernel
theorem dJI_bc_47 : decode prog_13_method_49_code 47 = .ok (.istore_n 0, 1) := by decide +kernel
theorem dJI_bc_48 : decode prog_13_method_49_code 48 = .ok (.iload_n 0, 1) := by decide +kernel
theorem dJI_bc_49 : decode prog_13_method_49_code 49 = .ok (.bipush 63, 2) := by decide +kernel
theorem dJI_bc_51 : decode prog_13_method_49_code 51 = .ok (.iand, 1) := by decide +kernel
theorem dJI_bc_52 : decode prog_13_method_49_code 52 = .ok (.ireturn, 1) := by decide +kernel
abbrev md_JI_bc : j_Md := (yJI_bc, cJI_bc, 1, some .int)
theorem wd_555 : Cond.constant "java/lang/Integer" 265 (1431655765) ∈ j_gt := j_in 555 (by decide +kernel) rfl
theorem wd_556 : Cond.constant "java/lang/Integer" 266 (858993459) ∈ j_gt := j_in 556 (by decide +kernel) rfl
theorem wd_557 : Cond.constant "java/lang/Integer" 267 (252645135) ∈ j_gt := j_in 557 (by decide +kernel) rfl

abbrev JT_JI_bc (l : Launch) (G : j_G) (M : j_M) (r : Int32) : Nat → List (Nat × Value) → List Value → j_M → Prop := JJ l G md_JI_bc (j_rm 1 (0, 0)) (0, 0) (0, 0) (po (some (.int r)) M)
def f_JI_bc (x0 : Int32) : Int32 :=
  tl (x0 - (((x0).toUInt32 >>> (((1 : Int32)).toUInt32 &&& Int32.toUInt32 31)).toInt32 &&& (1431655765 : Int32))) fun v1 => (tl ((v1 &&& (858993459 : Int32)) + (((v1).toUInt32 >>> (((2 : Int32)).toUInt32 &&& Int32.toUInt32 31)).toInt32 &&& (858993459 : Int32))) fun v3 => (tl ((v3 + ((v3).toUInt32 >>> (((4 : Int32)).toUInt32 &&& Int32.toUInt32 31)).toInt32) &&& (252645135 : Int32)) fun v5 => (tl (v5 + ((v5).toUInt32 >>> (((8 : Int32)).toUInt32 &&& Int32.toUInt32 31)).toInt32) fun v7 => (tl (v7 + ((v7).toUInt32 >>> (((16 : Int32)).toUInt32 &&& Int32.toUInt32 31)).toInt32) fun v9 => ((v9 &&& (63 : Int32)))))))
set_option maxHeartbeats 4000000 in
theorem c_JI_bc {l : Launch} {G : j_G} {M : j_M} {x0 : Int32}  {r : Int32} (h : f_JI_bc x0 = r) : j_Sp l G md_JI_bc 1 (0, 0) [.int x0] M (po (some (.int r)) M) := by
  refine j_Sp.of (by decide) (Nat.le_of_ble_eq_true rfl) ?_
  show JT_JI_bc l G M r 0 [(0, .int x0)] [] M
  unfold f_JI_bc at h
  refine J_iload_n (pc' := 1) (i := 0) (n := 0) dJI_bc_0 rfl rfl rfl ?_
  refine J_iload_n (pc' := 2) (i := 0) (n := 0) dJI_bc_1 rfl rfl rfl ?_
  refine J_iconst (pc' := 3) (v := (1 : Int32)) dJI_bc_2 rfl ic_1 ?_
  refine J_iushr (pc' := 4) dJI_bc_3 rfl ?_
  refine J_ldcw (pc' := 7) (v := (1431655765 : Int32)) dJI_bc_4 rfl wd_555 ?_
  refine J_iand (pc' := 8) dJI_bc_7 rfl ?_
  refine J_isub (pc' := 9) dJI_bc_8 rfl ?_
  obtain ⟨v1, e2, h⟩ := tl_inv h
  refine J_top e2 ?_
  refine J_istore_n (pc' := 10) (i := 0) (lv' := [(0, .int v1)]) dJI_bc_9 rfl rfl (by decide) rfl ?_
  refine J_iload_n (pc' := 11) (i := 0) (n := 0) dJI_bc_10 rfl rfl rfl ?_
  refine J_ldcw (pc' := 14) (v := (858993459 : Int32)) dJI_bc_11 rfl wd_556 ?_
  refine J_iand (pc' := 15) dJI_bc_14 rfl ?_
  refine J_iload_n (pc' := 16) (i := 0) (n := 0) dJI_bc_15 rfl rfl rfl ?_
  refine J_iconst (pc' := 17) (v := (2 : Int32)) dJI_bc_16 rfl ic_2 ?_
  refine J_iushr (pc' := 18) dJI_bc_17 rfl ?_
  refine J_ldcw (pc' := 21) (v := (858993459 : Int32)) dJI_bc_18 rfl wd_556 ?_
  refine J_iand (pc' := 22) dJI_bc_21 rfl ?_
  refine J_iadd (pc' := 23) dJI_bc_22 rfl ?_
  obtain ⟨v3, e4, h⟩ := tl_inv h
  refine J_top e4 ?_
  refine J_istore_n (pc' := 24) (i := 0) (lv' := [(0, .int v3)]) dJI_bc_23 rfl rfl (by decide) rfl ?_
  refine J_iload_n (pc' := 25) (i := 0) (n := 0) dJI_bc_24 rfl rfl rfl ?_
  refine J_iload_n (pc' := 26) (i := 0) (n := 0) dJI_bc_25 rfl rfl rfl ?_
  refine J_iconst (pc' := 27) (v := (4 : Int32)) dJI_bc_26 rfl ic_4 ?_
  refine J_iushr (pc' := 28) dJI_bc_27 rfl ?_
  refine J_iadd (pc' := 29) dJI_bc_28 rfl ?_
  refine J_ldcw (pc' := 32) (v := (252645135 : Int32)) dJI_bc_29 rfl wd_557 ?_
  refine J_iand (pc' := 33) dJI_bc_32 rfl ?_
  obtain ⟨v5, e6, h⟩ := tl_inv h
  refine J_top e6 ?_
  refine J_istore_n (pc' := 34) (i := 0) (lv' := [(0, .int v5)]) dJI_bc_33 rfl rfl (by decide) rfl ?_
  refine J_iload_n (pc' := 35) (i := 0) (n := 0) dJI_bc_34 rfl rfl rfl ?_
  refine J_iload_n (pc' := 36) (i := 0) (n := 0) dJI_bc_35 rfl rfl rfl ?_
  refine J_bipush (pc' := 38) (v := (8 : Int32)) dJI_bc_36 rfl bp_8 ?_
  refine J_iushr (pc' := 39) dJI_bc_38 rfl ?_
  refine J_iadd (pc' := 40) dJI_bc_39 rfl ?_
  obtain ⟨v7, e8, h⟩ := tl_inv h
  refine J_top e8 ?_
  refine J_istore_n (pc' := 41) (i := 0) (lv' := [(0, .int v7)]) dJI_bc_40 rfl rfl (by decide) rfl ?_
  refine J_iload_n (pc' := 42) (i := 0) (n := 0) dJI_bc_41 rfl rfl rfl ?_
  refine J_iload_n (pc' := 43) (i := 0) (n := 0) dJI_bc_42 rfl rfl rfl ?_
  refine J_bipush (pc' := 45) (v := (16 : Int32)) dJI_bc_43 rfl bp_16 ?_
  refine J_iushr (pc' := 46) dJI_bc_45 rfl ?_
  refine J_iadd (pc' := 47) dJI_bc_46 rfl ?_
  obtain ⟨v9, e10, h⟩ := tl_inv h
  refine J_top e10 ?_
  refine J_istore_n (pc' := 48) (i := 0) (lv' := [(0, .int v9)]) dJI_bc_47 rfl rfl (by decide) rfl ?_
  refine J_iload_n (pc' := 49) (i := 0) (n := 0) dJI_bc_48 rfl rfl rfl ?_
  refine J_bipush (pc' := 51) (v := (63 : Int32)) dJI_bc_49 rfl bp_63 ?_
  refine J_iand (pc' := 52) dJI_bc_51 rfl ?_
  exact J_iret rfl dJI_bc_52 ⟨rfl, Nat.le_refl _⟩ (j_pI h)
abbrev md_bc : j_Md := md_JI_bc
theorem cd_bc : j_cd md_bc := j_in 554 (by decide +kernel) rfl
abbrev bc := f_JI_bc
theorem c_bc {l : Launch} {G : j_G} {M : j_M} {x : Int32} {r : Int32} (h : bc x = r) : j_Sp l G md_bc 1 (0, 0) [.int x] M (po (some (.int r)) M) := c_JI_bc h
