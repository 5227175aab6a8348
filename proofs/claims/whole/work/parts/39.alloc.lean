/-! rows of JJ that make cells -/
theorem j_c_nw_ne {G : j_G} {M : j_M} {sh : Nat × Nat} {b : Nat} (h : b ≠ j_N M) : j_c G (j_nw M sh) b = j_c G M b := by
  have h' : b ≠ M.2.2.2.2 := h
  have eI : j_I (j_nw M sh) b = j_I M b := by funext j; simp [j_I, j_nw, h']
  have eL : j_L (j_nw M sh) b = j_L M b := by funext j; simp [j_L, j_nw, h']
  have eR : ∀ j, j_R (j_nw M sh) b j = j_R M b j := by intro j; simp [j_R, j_nw, h']
  have eS : j_S (j_nw M sh) b = j_S M b := by simp [j_S, j_nw, h']
  have eF : ∀ ci, j_fv G (j_nw M sh) ci b = j_fv G M ci b := by intro ci; funext j; simp only [j_fv, eI, eL, eR]
  have eQ : j_rq G (j_nw M sh) b = j_rq G M b := by funext j; simp only [j_rq, eR]
  unfold j_c j_cel
  rw [eS, eI, eL, eF, eQ]
theorem j_N_nw {M : j_M} {sh : Nat × Nat} : j_N (j_nw M sh) = j_N M + 1 := rfl
theorem j_S_nw {M : j_M} {sh : Nat × Nat} : j_S (j_nw M sh) (j_N M) = sh := by simp [j_S, j_nw, j_N]
theorem j_I_nw {M : j_M} {sh : Nat × Nat} : j_I (j_nw M sh) (j_N M) = fun _ => 0 := by funext j; simp [j_I, j_nw, j_N]
theorem j_L_nw {M : j_M} {sh : Nat × Nat} : j_L (j_nw M sh) (j_N M) = fun _ => 0 := by funext j; simp [j_L, j_nw, j_N]
theorem j_R_nw {M : j_M} {sh : Nat × Nat} (j : Nat) : j_R (j_nw M sh) (j_N M) j = none := by simp [j_R, j_nw, j_N]
theorem j_H_nw {G : j_G} {M : j_M} {H H' : Heap} {sh : Nat × Nat} (h : j_H G M H) (hz : H'.size = H.size + 1) (hq : ∀ q : Nat, q < H.size → H'[q]? = H[q]?) (hc : va_at G.1 vwCl (G.2.1 + j_N M, j_c G (j_nw M sh) (j_N M)) H') (hN : j_N M + 1 ≤ 1000000) : j_H G (j_nw M sh) H' := by
  refine ⟨fun k q hk => ?_, by rw [hz, h.2.1, j_N_nw]; omega, hN⟩
  obtain ⟨h1, rfl⟩ := j_ws_inv hk
  rw [j_N_nw] at h1
  by_cases hkN : k = j_N M
  · subst hkN; exact hc
  · have hlt : k < j_N M := by omega
    rw [j_c_nw_ne hkN]
    exact (h.1 k _ (j_ws_at hlt)).kept (hq _ (by rw [h.2.1]; show G.2.1 + k < _; omega))
theorem j_tyAr {G : j_G} {s : State} (C : j_C G s) {t : Nat} {cA cB : ClassId} {ty : FieldType} (ht : (j_tys G)[t]? = some (cB, ty)) (hp : ∀ c, ty ≠ .object c) (h : s.vm.findClass ("[" ++ ty.toString) = some cA) : cA = cB := by
  have h1 := (C.1.2 t _ ht).2
  have h2 : s.vm.findClass ("[" ++ ty.toString) = some cB := by
    cases ty <;> first | exact h1 | exact absurd rfl (hp _)
  exact Option.some.inj (h.symm.trans h2)
section
variable {l : Launch} {G : j_G} {md : j_Md} {R : Room} {cs mcs : Nat × Nat} {Po : Option Value → j_M → Prop} {pc pc' : Nat} {lv lv' : List (Nat × Value)} {st : List Value} {M M1 : j_M}
/-- a new cell is there: the rest of the walk -/
theorem j_newk {p : Program} {e : Env} {s : State} {m : MethodId} {args : Array Value} {below : List Frame} {meth : Method} {c : Code} {H H' : Heap} {locs : List Loc} {ls : Array Slot} {n : Nat} {sh : Nat × Nat} (F : j_F md p s m args meth c) (C : j_C G s) (h1 : j_H G M H) (h2 : va_S (j_A G) s.heap H locs) (h3 : lv_has ls md.2.2.1 (j_lm G lv)) (hz : s.heap.size + cs.1 = G.2.1 + j_N M) (z1 : H'.size = H.size + 1) (o1 : ∀ q : Nat, q < H.size → H'[q]? = H[q]?) (hc : va_at G.1 vwCl (G.2.1 + j_N M, j_c G (j_nw M sh) (j_N M)) H') (hN : j_N M + 1 ≤ 1000000) (kk : JJ l G md R (cs.1 + 1, cs.2 + n) mcs Po pc lv (.ref (j_N M) :: st) (j_nw M sh)) : W p l e R s m args below meth c H' locs (cs.1 + 1) (cs.2 + n) (MQ below (j_Q G mcs.1 Po) args s mcs.1 mcs.2 (j_A G)) (F0 m pc ls (.ref H.size :: st.map (j_tv G))) := by
  have hro : Value.ref H.size = j_tv G (.ref (j_N M)) := by
    show Value.ref H.size = .ref (j_rho G (j_N M))
    rw [j_rho, if_pos (by omega), h1.2.1]
  rw [hro]
  exact kk p e s m args below meth c H' locs ls F C (j_H_nw h1 z1 o1 hc hN) ⟨Nat.le_trans h2.1 (by omega), fun q g1 g2 => (o1 q (Nat.lt_of_lt_of_le g1 h2.1)).trans (h2.2.1 q g1 g2), h2.2.2⟩ h3 (by rw [j_N_nw]; show s.heap.size + (cs.1 + 1) = _; omega)
theorem J_newI {n : Nat} {x : Int32} (hd : decode md.2.1 pc = .ok (.newarray .int, 2)) (hp : pc + 2 = pc') (hw : Cond.arrayClass .int ∈ j_gt) (hx : ¬ x < 0 ∧ x.toNatClampNeg = n ∧ n * 4 ≤ 536870912) (hr : cs.1 + 1 ≤ R.cells ∧ cs.2 + n ≤ R.slots) (hN : j_N M + 1 ≤ 1000000) (kk : JJ l G md R (cs.1 + 1, cs.2 + n) mcs Po pc' lv (.ref (j_N M) :: st) (j_nw M (1, n))) : JJ l G md R cs mcs Po pc lv (.int x :: st) M := by
  subst hp
  intro p e s m args below meth c H locs ls F C h1 h2 h3 hz
  refine va_newaK (atype := .int) (h := H.size) F.1 F.2.1 (F.2.2.2.2.2.2.1 _ hw) rfl hd rfl hx.1 hx.2.1 hx.2.2 hr.1 hr.2 rfl fun H' cA e1 z1 o1 hAr hNm => ?_
  have hcA : cA = G.2.2.1 1 := j_tyAr C (t := 0) rfl (fun c h => by cases h) hNm
  subst hcA
  refine j_newk F C h1 h2 h3 hz z1 o1 ?_ hN kk
  rw [j_c_1 j_S_nw, ← h1.2.1, j_I_nw]
  exact e1
theorem J_newZ {n : Nat} {x : Int32} (hd : decode md.2.1 pc = .ok (.newarray .boolean, 2)) (hp : pc + 2 = pc') (hw : Cond.arrayClass .boolean ∈ j_gt) (hx : ¬ x < 0 ∧ x.toNatClampNeg = n ∧ n * 4 ≤ 536870912) (hr : cs.1 + 1 ≤ R.cells ∧ cs.2 + n ≤ R.slots) (hN : j_N M + 1 ≤ 1000000) (kk : JJ l G md R (cs.1 + 1, cs.2 + n) mcs Po pc' lv (.ref (j_N M) :: st) (j_nw M (3, n))) : JJ l G md R cs mcs Po pc lv (.int x :: st) M := by
  subst hp
  intro p e s m args below meth c H locs ls F C h1 h2 h3 hz
  refine va_newaK (atype := .boolean) (h := H.size) F.1 F.2.1 (F.2.2.2.2.2.2.1 _ hw) rfl hd rfl hx.1 hx.2.1 (show n * 1 ≤ _ by have := hx.2.2; omega) hr.1 hr.2 rfl fun H' cA e1 z1 o1 hAr hNm => ?_
  have hcA : cA = G.2.2.1 3 := j_tyAr C (t := 2) rfl (fun c h => by cases h) hNm
  subst hcA
  refine j_newk F C h1 h2 h3 hz z1 o1 ?_ hN kk
  rw [j_c_3 j_S_nw, ← h1.2.1, j_I_nw]
  exact e1
theorem J_newC {n : Nat} {x : Int32} (hd : decode md.2.1 pc = .ok (.newarray .char, 2)) (hp : pc + 2 = pc') (hw : Cond.arrayClass .char ∈ j_gt) (hx : ¬ x < 0 ∧ x.toNatClampNeg = n ∧ n * 4 ≤ 536870912) (hr : cs.1 + 1 ≤ R.cells ∧ cs.2 + n ≤ R.slots) (hN : j_N M + 1 ≤ 1000000) (kk : JJ l G md R (cs.1 + 1, cs.2 + n) mcs Po pc' lv (.ref (j_N M) :: st) (j_nw M (4, n))) : JJ l G md R cs mcs Po pc lv (.int x :: st) M := by
  subst hp
  intro p e s m args below meth c H locs ls F C h1 h2 h3 hz
  refine va_newaK (atype := .char) (h := H.size) F.1 F.2.1 (F.2.2.2.2.2.2.1 _ hw) rfl hd rfl hx.1 hx.2.1 (show n * 2 ≤ _ by have := hx.2.2; omega) hr.1 hr.2 rfl fun H' cA e1 z1 o1 hAr hNm => ?_
  have hcA : cA = G.2.2.1 4 := j_tyAr C (t := 3) rfl (fun c h => by cases h) hNm
  subst hcA
  refine j_newk F C h1 h2 h3 hz z1 o1 ?_ hN kk
  rw [j_c_4 j_S_nw, ← h1.2.1, j_I_nw]
  exact e1
theorem J_newL {n : Nat} {x : Int32} (hd : decode md.2.1 pc = .ok (.newarray .long, 2)) (hp : pc + 2 = pc') (hw : Cond.arrayClass .long ∈ j_gt) (hx : ¬ x < 0 ∧ x.toNatClampNeg = n ∧ n * 8 ≤ 536870912) (hr : cs.1 + 1 ≤ R.cells ∧ cs.2 + n ≤ R.slots) (hN : j_N M + 1 ≤ 1000000) (kk : JJ l G md R (cs.1 + 1, cs.2 + n) mcs Po pc' lv (.ref (j_N M) :: st) (j_nw M (2, n))) : JJ l G md R cs mcs Po pc lv (.int x :: st) M := by
  subst hp
  intro p e s m args below meth c H locs ls F C h1 h2 h3 hz
  refine va_newaK (atype := .long) (h := H.size) F.1 F.2.1 (F.2.2.2.2.2.2.1 _ hw) rfl hd rfl hx.1 hx.2.1 hx.2.2 hr.1 hr.2 rfl fun H' cA e1 z1 o1 hAr hNm => ?_
  have hcA : cA = G.2.2.1 2 := j_tyAr C (t := 1) rfl (fun c h => by cases h) hNm
  subst hcA
  refine j_newk F C h1 h2 h3 hz z1 o1 ?_ hN kk
  rw [j_c_2 j_S_nw, ← h1.2.1, j_L_nw]
  exact e1
theorem J_newQ5 {n i : Nat} {x : Int32} (hd : decode md.2.1 pc = .ok (.anewarray i, 3)) (hp : pc + 3 = pc') (hw : Cond.classLink md.1.cls i "SwimLanes$Bath" ∈ j_gt) (hx : ¬ x < 0 ∧ x.toNatClampNeg = n ∧ n * 4 ≤ 536870912) (hr : cs.1 + 1 ≤ R.cells ∧ cs.2 + n ≤ R.slots) (hN : j_N M + 1 ≤ 1000000) (kk : JJ l G md R (cs.1 + 1, cs.2 + n) mcs Po pc' lv (.ref (j_N M) :: st) (j_nw M (5, n))) : JJ l G md R cs mcs Po pc lv (.int x :: st) M := by
  subst hp
  intro p e s m args below meth c H locs ls F C h1 h2 h3 hz
  obtain ⟨x1, rfl, x3⟩ := hx
  refine W.anew F.1 F.2.1 F.2.2.2.2.2.1 (F.2.2.2.2.2.2.1 _ hw) (va_AO.use C.2.2.1.2.2.2.1.1) rfl hd rfl x1 x3 hr.1 hr.2 fun cA kA comp f1 f2 f3 f4 => ?_
  obtain ⟨kA', comp', g1, g2, g3, g4⟩ := (C.1.2 4 _ rfl).2
  have hcA : cA = G.2.2.1 5 := Option.some.inj (f1.symm.trans g4)
  subst hcA
  refine j_newk (sh := (5, x.toNatClampNeg)) F C h1 h2 h3 hz (by rw [Array.size_push]) (fun q hq => by rw [Array.getElem?_push, if_neg (Nat.ne_of_lt hq)]) ?_ hN kk
  rw [j_c_5 j_S_nw, ← h1.2.1]
  show (H.push _)[H.size]? = some (vp_cell _ _)
  rw [Array.getElem?_push_size, vp_cell_q, arrV_new]
  congr 2
  funext j
  simp [j_rq, j_R_nw, va_rf]
theorem J_newQ6 {n i : Nat} {x : Int32} (hd : decode md.2.1 pc = .ok (.anewarray i, 3)) (hp : pc + 3 = pc') (hw : Cond.classLink md.1.cls i "SwimLanes$Plain" ∈ j_gt) (hx : ¬ x < 0 ∧ x.toNatClampNeg = n ∧ n * 4 ≤ 536870912) (hr : cs.1 + 1 ≤ R.cells ∧ cs.2 + n ≤ R.slots) (hN : j_N M + 1 ≤ 1000000) (kk : JJ l G md R (cs.1 + 1, cs.2 + n) mcs Po pc' lv (.ref (j_N M) :: st) (j_nw M (6, n))) : JJ l G md R cs mcs Po pc lv (.int x :: st) M := by
  subst hp
  intro p e s m args below meth c H locs ls F C h1 h2 h3 hz
  obtain ⟨x1, rfl, x3⟩ := hx
  refine W.anew F.1 F.2.1 F.2.2.2.2.2.1 (F.2.2.2.2.2.2.1 _ hw) (va_AO.use C.2.2.1.2.2.2.1.2) rfl hd rfl x1 x3 hr.1 hr.2 fun cA kA comp f1 f2 f3 f4 => ?_
  obtain ⟨kA', comp', g1, g2, g3, g4⟩ := (C.1.2 5 _ rfl).2
  have hcA : cA = G.2.2.1 6 := Option.some.inj (f1.symm.trans g4)
  subst hcA
  refine j_newk (sh := (6, x.toNatClampNeg)) F C h1 h2 h3 hz (by rw [Array.size_push]) (fun q hq => by rw [Array.getElem?_push, if_neg (Nat.ne_of_lt hq)]) ?_ hN kk
  rw [j_c_6 j_S_nw, ← h1.2.1]
  show (H.push _)[H.size]? = some (vp_cell _ _)
  rw [Array.getElem?_push_size, vp_cell_q, arrV_new]
  congr 2
  funext j
  simp [j_rq, j_R_nw, va_rf]
def j_dv (ci : Nat) : Prop := ∀ k, k < j_nf ci → defaultValue (j_ty ci k) = (if j_fk ci k = 0 then .int 0 else if j_fk ci k = 1 then .long 0 else .null)
theorem J_new {ci i : Nat} (hd : decode md.2.1 pc = .ok (.new i, 3)) (hp : pc + 3 = pc') (hci : ci < 11) (hdv : j_dv ci) (hw : Cond.classLink md.1.cls i (j_vc ci).1 ∈ j_gt ∧ Cond.instantiable (j_vc ci).1 (j_nf ci) ∈ j_gt ∧ Cond.initialized (j_vc ci).1 ∈ j_gt) (hr : cs.1 + 1 ≤ R.cells ∧ cs.2 + j_nf ci ≤ R.slots) (hN : j_N M + 1 ≤ 1000000) (kk : JJ l G md R (cs.1 + 1, cs.2 + j_nf ci) mcs Po pc' lv (.ref (j_N M) :: st) (j_nw M (10 + ci, 0))) : JJ l G md R cs mcs Po pc lv st M := by
  subst hp
  intro p e s m args below meth c H locs ls F C h1 h2 h3 hz
  have hts := F.2.2.2.2.2.2.1
  obtain ⟨c1, c2, c3, c4, c5⟩ := j_kf ci hci
  have hKn := C.1.1 ci _ c1
  refine W.newcK (h := H.size) F.1 F.2.1 F.2.2.2.2.2.1 (hts _ hw.1) (hts _ hw.2.1) (hts _ hw.2.2) rfl hd hr.1 hr.2 hKn.2.1 rfl fun H' kC hkC e1 z1 o1 => ?_
  refine j_newk (sh := (10 + ci, 0)) F C h1 h2 h3 hz z1 o1 ?_ hN kk
  have hsh : (j_S (j_nw M (10 + ci, 0)) (j_N M)).1 = 10 + ci := by rw [j_S_nw]
  rw [j_c_obj hsh, ← h1.2.1]
  rw [c2] at hKn
  refine ⟨_, c1, ?_⟩
  show t_OB H.size (G.1.1 ci) (j_vc ci).2.2 (G.1.2 ci) H' (vp_V _)
  rw [c2]
  refine (u_born (j_ty ci) hts c3 hKn hkC e1 c4).to (fun k hk => ?_)
  rw [hdv k hk]
  simp only [vp_V, List.getD_eq_getElem?_getD, j_fat hk, Option.getD_some, j_fv]
  rw [j_I_nw, j_L_nw, j_R_nw]
  rfl
theorem J_putFR {i ci k a b : Nat} {ty : FieldType} (hd : decode md.2.1 pc = .ok (.putfield i, 3)) (hp : pc + 3 = pc') (hf : j_fln md.1.cls i ci k) (hw : (j_vc ci).1 = md.1.cls ∧ md.1.name = "<init>" ∧ ((j_vc ci).2.1 k).2.2.2 = true ∧ j_ty ci k = ty ∧ j_fk ci k = 2 ∧ j_isN (Cond.fieldLinkNest md.1.cls i (j_vc ci).1 ((j_vc ci).2.1 k).2.1 ((j_vc ci).2.1 k).2.2.1 "SwimLanes") = true) (hnf : ∀ x : Nat, narrow ty (.ref x) = .ref x ∧ fits ty (.ref x) = true) (hlk : Cond.fieldLink md.1.cls i (j_vc ci).1 ((j_vc ci).2.1 k).2.1 ((j_vc ci).2.1 k).2.2.1 ∈ j_gt) (hs : (j_S M a).1 = 10 + ci) (ha : a < j_N M) (kk : JJ l G md R cs mcs Po pc' lv st (j_sR M a k (some b))) : JJ l G md R cs mcs Po pc lv (.ref b :: .ref a :: st) M :=
  J_putFv (M' := j_sR M a k (some b)) hd hp hf.1 hf.2.1 hf.2.2.1 hlk hw.1 hw.2.1 hw.2.2.1 hw.2.2.2.1 (hnf _).1 (hnf _).2 hs ha rfl (fun _ h => j_c_sR_ne h) (j_e_R hw.2.2.2.2.1 hs) kk
theorem j_upR {G : j_G} {M : j_M} {a k b : Nat} : j_rq G (j_sR M a k (some b)) a = va_up (j_rq G M a) k (some (j_rho G b)) := by
  funext j
  by_cases h : j = k
  · simp [j_rq, j_R, j_sR, va_up, h]
  · simp [j_rq, j_R, j_sR, va_up, h]
theorem J_aast5 {a n b : Nat} {i : Int32} (hd : decode md.2.1 pc = .ok (.aastore, 1)) (hp : pc + 1 = pc') (hs : j_S M a = (5, n)) (ha : a < j_N M) (hin : vp_in i n) (hsb : (j_S M b).1 = 10 + 0) (hb : b < j_N M) (kk : JJ l G md R cs mcs Po pc' lv st (j_sR M a i.toNatClampNeg (some b))) : JJ l G md R cs mcs Po pc lv (.ref b :: .int i :: .ref a :: st) M := by
  subst hp
  intro p e s m args below meth c H locs ls F C h1 h2 h3 hz
  show W p l e R s m args below meth c H locs cs.1 cs.2 _ (F0 m pc ls (.ref (j_rho G b) :: .int i :: .ref (j_rho G a) :: st.map (j_tv G)))
  have hrb := j_ro h1 hb
  rw [j_ro h1 ha, hrb]
  exact va_astq (r := j_vc 0) F.1 F.2.1 C.1 h1.1 j_ws_D h2 a 4 b 0 (j_at ha (j_c_5 hs)) rfl (j_at hb (j_c_obj hsb)) rfl hin hd (j_fin (M' := j_sR M a i.toNatClampNeg (some b)) F C h1 h3 hz rfl (fun _ h => j_c_sR_ne h) (by rw [j_c_5 (M := j_sR M a i.toNatClampNeg (some b)) hs, j_upR, hrb]) kk)
theorem J_aast6 {a n b : Nat} {i : Int32} (ci : Nat) (hci : ci < 11) (hd : decode md.2.1 pc = .ok (.aastore, 1)) (hp : pc + 1 = pc') (hw : Cond.castable (j_vc ci).1 "SwimLanes$Plain" ∈ lw_tbl) (hs : j_S M a = (6, n)) (ha : a < j_N M) (hin : vp_in i n) (hsb : (j_S M b).1 = 10 + ci) (hb : b < j_N M) (kk : JJ l G md R cs mcs Po pc' lv st (j_sR M a i.toNatClampNeg (some b))) : JJ l G md R cs mcs Po pc lv (.ref b :: .int i :: .ref a :: st) M := by
  subst hp
  intro p e s m args below meth c H locs ls F C h1 h2 h3 hz
  show W p l e R s m args below meth c H locs cs.1 cs.2 _ (F0 m pc ls (.ref (j_rho G b) :: .int i :: .ref (j_rho G a) :: st.map (j_tv G)))
  have hrb := j_ro h1 hb
  obtain ⟨c1, c2, -⟩ := j_kf ci hci
  rw [j_ro h1 ha, hrb]
  exact va_astqO (r := j_vc ci) (E := "SwimLanes$Plain") F.1 F.2.1 C.1 h1.1 j_ws_D h2 a 5 b ci (j_at ha (j_c_6 hs)) rfl (C.2.1 _ hw rfl) (j_at hb (j_c_obj hsb)) c1 hin hd (j_fin (M' := j_sR M a i.toNatClampNeg (some b)) F C h1 h3 hz rfl (fun _ h => j_c_sR_ne h) (by rw [j_c_6 (M := j_sR M a i.toNatClampNeg (some b)) hs, j_upR, hrb]) kk)
theorem J_aast6p {a n b : Nat} {i : Int32} (hd : decode md.2.1 pc = .ok (.aastore, 1)) (hp : pc + 1 = pc') (hs : j_S M a = (6, n)) (ha : a < j_N M) (hin : vp_in i n) (hsb : (j_S M b).1 = 10 + 3) (hb : b < j_N M) (kk : JJ l G md R cs mcs Po pc' lv st (j_sR M a i.toNatClampNeg (some b))) : JJ l G md R cs mcs Po pc lv (.ref b :: .int i :: .ref a :: st) M := by
  subst hp
  intro p e s m args below meth c H locs ls F C h1 h2 h3 hz
  show W p l e R s m args below meth c H locs cs.1 cs.2 _ (F0 m pc ls (.ref (j_rho G b) :: .int i :: .ref (j_rho G a) :: st.map (j_tv G)))
  have hrb := j_ro h1 hb
  rw [j_ro h1 ha, hrb]
  exact va_astq (r := j_vc 3) F.1 F.2.1 C.1 h1.1 j_ws_D h2 a 5 b 3 (j_at ha (j_c_6 hs)) rfl (j_at hb (j_c_obj hsb)) rfl hin hd (j_fin (M' := j_sR M a i.toNatClampNeg (some b)) F C h1 h3 hz rfl (fun _ h => j_c_sR_ne h) (by rw [j_c_6 (M := j_sR M a i.toNatClampNeg (some b)) hs, j_upR, hrb]) kk)
theorem J_ifnn {x : Nat} {off : Int} {tgt : Nat} (hd : decode md.2.1 pc = .ok (.ifnonnull off, 3)) (ht : (pc : Int) + off = (tgt : Int)) (kk : JJ l G md R cs mcs Po tgt lv st M) : JJ l G md R cs mcs Po pc lv (.ref x :: st) M := by
  intro p e s m args below meth c H locs ls F C h1 h2 h3 hz
  exact lv_ifnonnull F.1 F.2.1 hd ht (kk p e s m args below meth c H locs ls F C h1 h2 h3 hz)
theorem J_ifnnN {off : Int} (hd : decode md.2.1 pc = .ok (.ifnonnull off, 3)) (hp : pc + 3 = pc') (kk : JJ l G md R cs mcs Po pc' lv st M) : JJ l G md R cs mcs Po pc lv (.null :: st) M := by
  subst hp
  intro p e s m args below meth c H locs ls F C h1 h2 h3 hz
  exact lv_ifnonnullN F.1 F.2.1 hd (kk p e s m args below meth c H locs ls F C h1 h2 h3 hz)
end
theorem j_dv0 : j_dv 0 := by unfold j_dv; decide +kernel
theorem j_dv4 : j_dv 4 := by unfold j_dv; decide +kernel
theorem j_dv7 : j_dv 7 := by unfold j_dv; decide +kernel
theorem j_dv9 : j_dv 9 := by unfold j_dv; decide +kernel
theorem j_dv10 : j_dv 10 := by unfold j_dv; decide +kernel
theorem j_dvn {ci : Nat} (h : j_nf ci = 0) : j_dv ci := by intro k hk; omega
