def sh_k (ci b : Nat) (q : ((Nat → Nat → Option Nat) × (Nat → Nat × Nat) × Nat)) : Prop := (q.2.1 b).1 = 10 + ci ∧ b < q.2.2 ∧ ci < 11
theorem k_o {M : j_M} {ci b : Nat} (h : sh_k ci b M.2.2) : (j_S M b).1 = 10 + ci := h.1
theorem k_n {M : j_M} {ci b : Nat} (h : sh_k ci b M.2.2) : b < j_N M := h.2.1
theorem k_c {M : j_M} {ci b : Nat} (h : sh_k ci b M.2.2) : ci < 11 := h.2.2
section
variable {p : Program} {l : Launch} {e : Env} {R : Room} {s : State} {m : MethodId} {args : Array Value} {below : List Frame} {meth : Method} {c : Code}
/-- super.m(..), where m is inherited from the superclass's own superclass -/
theorem j_callSI {T : State} {locs : List Loc} {cells slots : Nat} (X : Stand p l e R s m args below meth c T locs cells slots) (hexec : p.tables.exec = Jvm.exec) {own : String} {index : Nat} {x y : MethodName} {bytes : ByteArray} {maxL : Nat} {ret : Option FieldType}
    (hown : s.vm.findClass own = some m.cls) (hlink : (Cond.methodLink own index x).before args s = true) (hsame : (Cond.sameMethod x.cls y.cls x.name x.desc).before args s = true) (hsup : (Cond.superclass own x.cls).before args s = true) (hsup2 : (Cond.superclass x.cls y.cls).before args s = true)
    (hinst : (Cond.instanceMethod y).before args s = true) (hcode : (Cond.code y bytes maxL ret).before args s = true) (hno : x.name ≠ "<init>") (hxy : y.name = x.name ∧ y.desc = x.desc)
    {W : Nat} {Pre : Pt → Array Value → Prop} {Post : Pt → Array Value → Option Value → Pt → Prop} (hK : Back l R p e below s args y 3 W Pre Post)
    {b : Addr} {cellB : Cell} {kB : Class} (hcell : T.heap[b]? = some cellB) (hobj : cellB.vm.isStatics = false) (hkB : s.vm.classes[cellB.cls]? = some kB)
    {g : JFrame} (hg : g.method = m) (hsize : g.locals.size = c.maxLocals) {argsL rest : List Value} (hlen : ∀ sig, parseMethodDescriptor y.desc = some sig → argsL.length = sig.parameters.length)
    (hstack : g.stack = argsL.reverse ++ .ref b :: rest) (hW : 2 * g.monitorRoom + (rest.map fun v => v.category).sum ≤ W) (hdg : decode c.code g.pc = .ok (.invokespecial index, 3))
    (hpre : ∀ vm₁, s.WarmedH vm₁ → Pre ⟨T.setVm vm₁, locs, cells, slots⟩ (Value.ref b :: argsL).toArray) :
    ∃ (v : Option Value) (vm₁ : Vm) (B : Pt), s.WarmedH vm₁ ∧ Stand p l e R s m args below meth c B.U B.locs B.cells B.slots ∧ Post ⟨T.setVm vm₁, locs, cells, slots⟩ (Value.ref b :: argsL).toArray v B ∧
      ∀ target, Steps p.tables e below (B.U.setTop { g with pc := g.pc + 3, stack := v.toList ++ rest }) target → Steps p.tables e below (T.setTop g) target := by
  obtain ⟨mk, methM, hnamed, hmethM, hstM, habM⟩ := Cond.instanceMethod_spec hinst
  obtain ⟨methM', cM, hmethM', -, -, -, -, -, -, hsigM⟩ := Cond.code_spec hnamed hcode
  cases hmethM.symm.trans hmethM'
  obtain ⟨ps, dk, kp, hps, hdk, hkp, hsuper, -, -, hnid⟩ := Cond.superclass_spec hown hsup
  obtain ⟨ps2, dk2, kp2, hps2, hdk2, hkp2, hsuper2, -, -, -⟩ := Cond.superclass_spec hps hsup2
  have hn : s.methodNamed? ⟨y.cls, x.name, x.desc⟩ = some mk := by rw [← hxy.1, ← hxy.2]; exact hnamed
  have hpm : ps2 = mk.cls := Option.some.inj (hps2.symm.trans (findClass_of_methodNamed hnamed))
  have hsub : s.vm.isSubclass ps mk.cls = true := by
    rw [← hpm]
    have hlt : ps < s.vm.classes.size := (Array.getElem?_eq_some_iff.mp hdk2).1
    have hlt2 : ps2 < s.vm.classes.size := (Array.getElem?_eq_some_iff.mp hkp2).1
    obtain ⟨n, hn⟩ : ∃ n, s.vm.classes.size = n + 1 := ⟨s.vm.classes.size - 1, (Nat.succ_pred_eq_of_pos (Nat.lt_of_le_of_lt (Nat.zero_le _) hlt)).symm⟩
    by_cases hpp : ps = ps2
    · subst hpp
      simp [Vm.isSubclass, Vm.isSubclassAux]
    · simp [Vm.isSubclass, hn, Vm.isSubclassAux, hdk2, hsuper2]
  obtain ⟨vm₁, X₁, hstep₁⟩ := X.invokespecialUp hexec hown hlink hsame hn hmethM hstM habM hno hdk hnid hps hsuper hsub (a := b) (cell := cellB) hcell
    (fun z h => by rw [h] at hobj; cases hobj) hkB (g := g) hg (argsL := argsL) (rest := rest) (hlen _ hsigM) hstack hdg
  obtain ⟨v, B, X', hpost, hsteps⟩ := hK m meth c ⟨T.setVm vm₁, locs, cells, slots⟩ { g with stack := rest } (.invokespecial index) mk (Value.ref b :: argsL).toArray X₁ hg hsize hdg hW (X₁.named hnamed) (hpre vm₁ X₁.warmed)
  exact ⟨v, vm₁, B, X₁.warmed, X', hpost, fun target h => hstep₁ _ (by rw [doInvoke_state]; exact hsteps.trans h)⟩
end
def j_lkSI (own : String) (i : Nat) (x : MethodName) (md' : j_Md) (n : Nat) : Prop := (Cond.methodLink own i x ∈ j_gt ∧ Cond.sameMethod x.cls md'.1.cls x.name x.desc ∈ j_gt ∧ Cond.superclass own x.cls ∈ j_gt ∧ Cond.superclass x.cls md'.1.cls ∈ j_gt ∧ Cond.instanceMethod md'.1 ∈ j_gt ∧ Cond.initialized md'.1.cls ∈ j_gt) ∧ j_cd md' ∧ x.name ≠ "<init>" ∧ (md'.1.name = x.name ∧ md'.1.desc = x.desc) ∧ (parseMethodDescriptor md'.1.desc).map (fun d => d.parameters.length) = some n
section
variable {l : Launch} {G : j_G} {md : j_Md} {R : Room} {cs mcs : Nat × Nat} {Po : Option Value → j_M → Prop} {pc pc' : Nat} {lv lv' : List (Nat × Value)} {st : List Value} {M M1 : j_M}
theorem J_callSI {md' : j_Md} {d' i : Nat} {mcs' : Nat × Nat} {as rest stk : List Value} {Po' : Option Value → j_M → Prop} {b : Nat} {x : MethodName} (ci : Nat) (hci : ci < 11) (hd : decode md.2.1 pc = .ok (.invokespecial i, 3)) (hp : pc + 3 = pc') (hlk : j_lkSI md.1.cls i x md' as.length) (hstk : stk = as.reverse ++ .ref b :: rest) (hs : (j_S M b).1 = 10 + ci) (hb : b < j_N M) (hM : j_Sp l G md' d' mcs' (.ref b :: as) M Po') (hR : d' + 1 ≤ R.frames ∧ 8 + (md'.2.2.1 + 11) + 40 * d' ≤ R.locals) (hW : (rest.map fun v => v.category).sum ≤ 8) (hf : cs.1 + mcs'.1 ≤ R.cells ∧ cs.2 + mcs'.2 ≤ R.slots) (kk : ∀ (v : Option Value) (M' : j_M), Po' v M' → JJ l G md R (cs.1 + mcs'.1, cs.2 + mcs'.2) mcs Po pc' lv (v.toList ++ rest) M') : JJ l G md R cs mcs Po pc lv stk M := by
  refine J_run (as := .ref b :: as) hp ?_ kk
  intro p e s m args below meth c H locs ls F C h1 h2 h3
  subst hstk
  have hts := F.2.2.2.2.2.2.1
  obtain ⟨hw, hcd, hno, hxy, hpar⟩ := hlk
  obtain ⟨c1, c2, -⟩ := j_kf ci hci
  have hrc : ∃ cell : Cell, H[j_rho G b]? = some cell ∧ cell.vm.isStatics = false ∧ s.vm.findClass (j_vc ci).1 = some cell.cls := by
    rw [j_ro h1 hb]
    exact va_recv C.1 h1.1 c1 (j_at hb (j_c_obj hs))
  obtain ⟨cellB, hcB, hoB, hclB⟩ := hrc
  obtain ⟨hfc, kB, hkB, -⟩ := (C.1.1 ci _ c1).2
  have hcc := Option.some.inj (hfc.symm.trans hclB)
  rw [hcc] at hkB
  have hK : Back l R p e below s args md'.1 3 8 (PreOf R mcs'.1 mcs'.2 (j_Pc G (.ref b :: as) M)) (PostOf (j_Q G mcs'.1 Po') mcs'.1 mcs'.2 (j_A G)) := back_of (bytes := md'.2.1) (maxL := md'.2.2.1) (ret := md'.2.2.2) hM j_blind rfl rfl hR.1 hR.2 (pay_in hts (j_goodM hcd)) List.mem_cons_self (fun a' U hW => word_at hW (j_gw hw.2.2.2.2.2).2 (hts _ hw.2.2.2.2.2))
  intro T hT X
  obtain ⟨v, vm₁, ⟨U', l2, c2, s2⟩, hW₁, X', ⟨g', mk, t, L, e1, e2, hq, q1, hL, q2, q3⟩, stp⟩ := j_callSI X F.1 (x := x) (bytes := md'.2.1) (maxL := md'.2.2.1) (ret := md'.2.2.2) F.2.2.2.2.2.1 (hts _ hw.1) (hts _ hw.2.1) (hts _ hw.2.2.1) (hts _ hw.2.2.2.1) (hts _ hw.2.2.2.2.1) (hts _ hcd) hno hxy hK (by rw [hT]; exact hcB) hoB hkB (g := F0 m pc ls ((as.reverse ++ .ref b :: rest).map (j_tv G))) rfl (h3.1.trans F.2.2.1.symm) (argsL := as.map (j_tv G)) (rest := rest.map (j_tv G)) (fun sig h => by
      rw [h] at hpar
      rw [List.length_map]
      exact (Option.some.inj hpar).symm) (by simp [j_tv]) (lv_room (by rw [j_catl]; exact hW)) (by rw [F.2.1]; exact hd)
    (fun vm₁ hW₁ => ⟨hf.1, hf.2, j_calls (as := .ref b :: as) C h1 h2 (U := T.setVm vm₁) hT hW₁⟩)
  dsimp only [Pt.U, Pt.locs, Pt.cells, Pt.slots] at X' e1 e2 q1 q2 q3 stp
  subst q1; subst q2; subst q3
  exact ⟨v, (T.setVm vm₁).calling g' mk (Value.ref (j_rho G b) :: as.map (j_tv G)).toArray, t, U', L, hT, X', hL, e1, e2, hq, stp⟩
end

abbrev md_X3_takes : j_Md := (yX3_takes, cX3_takes, 5, some .int)
abbrev md_X2_takes : j_Md := (yX2_takes, cX2_takes, 5, some .int)
abbrev md_X8_takes : j_Md := (yX8_takes, cX8_takes, 5, some .int)
abbrev md_X1_takes : j_Md := (yX1_takes, cX1_takes, 5, some .int)
abbrev md_X6_takes : j_Md := (yX6_takes, cX6_takes, 5, some .int)
abbrev md_X3_believes : j_Md := (yX3_believes, cX3_believes, 2, some .int)
abbrev md_X5_believes : j_Md := (yX5_believes, cX5_believes, 2, some .int)
abbrev md_X6_believes : j_Md := (yX6_believes, cX6_believes, 2, some .int)
theorem lk_X3_7 : Cond.methodLink RX3 7 Lib.Math.max.name ∈ j_gt ∧ Cond.static Lib.Math.max.name ∈ j_gt ∧ Cond.initialized "java/lang/Math" ∈ j_gt ∧ Cond.code Lib.Math.max.name Lib.Math.max.code 2 (some .int) ∈ j_gt := ⟨j_in 580 (by decide +kernel) rfl, j_in 546 (by decide +kernel) rfl, j_in 117 (by decide +kernel) rfl, j_in 547 (by decide +kernel) rfl⟩
theorem cd_X3_takes : j_cd md_X3_takes := j_in 579 (by decide +kernel) rfl
theorem lk_X1_7 : j_lkSI RX1 7 ⟨"SwimLanes$Proud", "takes", "(IIII)I"⟩ md_X3_takes 4 := ⟨⟨j_in 565 (by decide +kernel) rfl, j_in 566 (by decide +kernel) rfl, j_in 209 (by decide +kernel) rfl, j_in 195 (by decide +kernel) rfl, j_in 559 (by decide +kernel) rfl, j_in 103 (by decide +kernel) rfl⟩, cd_X3_takes, by decide, ⟨rfl, rfl⟩, by decide +kernel⟩
theorem cd_X2_takes : j_cd md_X2_takes := j_in 570 (by decide +kernel) rfl
theorem lk_X6_7 : j_lkSU RX6 7 md_X2_takes 4 := ⟨⟨j_in 575 (by decide +kernel) rfl, j_in 1316 (by decide +kernel) rfl, j_in 216 (by decide +kernel) rfl, j_in 569 (by decide +kernel) rfl, j_in 104 (by decide +kernel) rfl⟩, cd_X2_takes, by decide, by decide +kernel⟩
theorem cd_X3_believes : j_cd md_X3_believes := j_in 614 (by decide +kernel) rfl
theorem lk_X5_7 : j_lkSU RX5 7 md_X3_believes 1 := ⟨⟨j_in 604 (by decide +kernel) rfl, j_in 600 (by decide +kernel) rfl, j_in 195 (by decide +kernel) rfl, j_in 598 (by decide +kernel) rfl, j_in 103 (by decide +kernel) rfl⟩, cd_X3_believes, by decide, by decide +kernel⟩
theorem lk_X6_11 : j_lkSI RX6 11 ⟨"SwimLanes$Overtakes", "believes", "(I)I"⟩ md_X3_believes 1 := ⟨⟨j_in 610 (by decide +kernel) rfl, j_in 611 (by decide +kernel) rfl, j_in 216 (by decide +kernel) rfl, j_in 188 (by decide +kernel) rfl, j_in 598 (by decide +kernel) rfl, j_in 103 (by decide +kernel) rfl⟩, cd_X3_believes, by decide, ⟨rfl, rfl⟩, by decide +kernel⟩
abbrev JT_X3_takes (l : Launch) (G : j_G) (M : j_M) (r : Int32) : Nat → List (Nat × Value) → List Value → j_M → Prop := JJ l G md_X3_takes (j_rm 2 (0, 0)) (0, 0) (0, 0) (po (some (.int r)) M)
def f_X3_takes (x1 : Int32) (x2 : Int32) (x3 : Int32) (x4 : Int32) : Int32 :=
  tl (if x1 < x2 then x2 else x1) fun v1 => ((v1 + x4))
set_option maxHeartbeats 4000000 in
theorem c_X3_takes {l : Launch} {G : j_G} {M : j_M} {b : Nat} {x1 : Int32} {x2 : Int32} {x3 : Int32} {x4 : Int32}  {r : Int32} (h : f_X3_takes x1 x2 x3 x4 = r) : j_Sp l G md_X3_takes 2 (0, 0) [.ref b, .int x1, .int x2, .int x3, .int x4] M (po (some (.int r)) M) := by
  refine j_Sp.of (by decide) (Nat.le_of_ble_eq_true rfl) ?_
  show JT_X3_takes l G M r 0 [(0, .ref b), (1, .int x1), (2, .int x2), (3, .int x3), (4, .int x4)] [] M
  unfold f_X3_takes at h
  refine J_iload_n (pc' := 1) (i := 1) (n := 1) dX3_takes_0 rfl rfl rfl ?_
  refine J_iload_n (pc' := 2) (i := 2) (n := 2) dX3_takes_1 rfl rfl rfl ?_
  obtain ⟨v1, e2, h⟩ := tl_inv h
  refine J_maxe (pc' := 5) dX3_takes_2 rfl lk_X3_7 ⟨Nat.le_of_ble_eq_true rfl, Nat.le_of_ble_eq_true rfl, Nat.le_of_ble_eq_true rfl, Nat.le_of_ble_eq_true rfl⟩ e2 ?_
  refine J_iload (pc' := 7) (i := 4) (n := 4) dX3_takes_5 rfl rfl ?_
  refine J_iadd (pc' := 8) dX3_takes_7 rfl ?_
  exact J_iret rfl dX3_takes_8 ⟨rfl, Nat.le_refl _⟩ (j_pI h)
abbrev JT_X2_takes (l : Launch) (G : j_G) (M : j_M) (r : Int32) : Nat → List (Nat × Value) → List Value → j_M → Prop := JJ l G md_X2_takes (j_rm 1 (0, 0)) (0, 0) (0, 0) (po (some (.int r)) M)
def f_X2_takes (x1 : Int32) (x2 : Int32) (x3 : Int32) (x4 : Int32) : Int32 :=
  (x1 + ((3 : Int32) * x3))
set_option maxHeartbeats 4000000 in
theorem c_X2_takes {l : Launch} {G : j_G} {M : j_M} {b : Nat} {x1 : Int32} {x2 : Int32} {x3 : Int32} {x4 : Int32}  {r : Int32} (h : f_X2_takes x1 x2 x3 x4 = r) : j_Sp l G md_X2_takes 1 (0, 0) [.ref b, .int x1, .int x2, .int x3, .int x4] M (po (some (.int r)) M) := by
  refine j_Sp.of (by decide) (Nat.le_of_ble_eq_true rfl) ?_
  show JT_X2_takes l G M r 0 [(0, .ref b), (1, .int x1), (2, .int x2), (3, .int x3), (4, .int x4)] [] M
  unfold f_X2_takes at h
  refine J_iload_n (pc' := 1) (i := 1) (n := 1) dX2_takes_0 rfl rfl rfl ?_
  refine J_iconst (pc' := 2) (v := (3 : Int32)) dX2_takes_1 rfl ic_3 ?_
  refine J_iload_n (pc' := 3) (i := 3) (n := 3) dX2_takes_2 rfl rfl rfl ?_
  refine J_imul (pc' := 4) dX2_takes_3 rfl ?_
  refine J_iadd (pc' := 5) dX2_takes_4 rfl ?_
  exact J_iret rfl dX2_takes_5 ⟨rfl, Nat.le_refl _⟩ (j_pI h)
abbrev JT_X8_takes (l : Launch) (G : j_G) (M : j_M) (r : Int32) : Nat → List (Nat × Value) → List Value → j_M → Prop := JJ l G md_X8_takes (j_rm 1 (0, 0)) (0, 0) (0, 0) (po (some (.int r)) M)
def f_X8_takes (x1 : Int32) (x2 : Int32) (x3 : Int32) (x4 : Int32) : Int32 :=
  x1
set_option maxHeartbeats 4000000 in
theorem c_X8_takes {l : Launch} {G : j_G} {M : j_M} {b : Nat} {x1 : Int32} {x2 : Int32} {x3 : Int32} {x4 : Int32}  {r : Int32} (h : f_X8_takes x1 x2 x3 x4 = r) : j_Sp l G md_X8_takes 1 (0, 0) [.ref b, .int x1, .int x2, .int x3, .int x4] M (po (some (.int r)) M) := by
  refine j_Sp.of (by decide) (Nat.le_of_ble_eq_true rfl) ?_
  show JT_X8_takes l G M r 0 [(0, .ref b), (1, .int x1), (2, .int x2), (3, .int x3), (4, .int x4)] [] M
  unfold f_X8_takes at h
  refine J_iload_n (pc' := 1) (i := 1) (n := 1) dX8_takes_0 rfl rfl rfl ?_
  exact J_iret rfl dX8_takes_1 ⟨rfl, Nat.le_refl _⟩ (j_pI h)
abbrev JT_X1_takes (l : Launch) (G : j_G) (M : j_M) (r : Int32) : Nat → List (Nat × Value) → List Value → j_M → Prop := JJ l G md_X1_takes (j_rm 3 (0, 0)) (0, 0) (0, 0) (po (some (.int r)) M)
def f_X1_takes (x1 : Int32) (x2 : Int32) (x3 : Int32) (x4 : Int32) : Int32 :=
  tl (f_X3_takes x1 x2 x3 x4) fun v1 => (if x4 < (1 : Int32) then ((v1 + (0 : Int32))) else ((v1 + (5 : Int32))))
set_option maxHeartbeats 4000000 in
theorem c_X1_takes {l : Launch} {G : j_G} {M : j_M} {b ci : Nat} {x1 : Int32} {x2 : Int32} {x3 : Int32} {x4 : Int32} (hs : sh_k ci b M.2.2) {r : Int32} (h : f_X1_takes x1 x2 x3 x4 = r) : j_Sp l G md_X1_takes 3 (0, 0) [.ref b, .int x1, .int x2, .int x3, .int x4] M (po (some (.int r)) M) := by
  refine j_Sp.of (by decide) (Nat.le_of_ble_eq_true rfl) ?_
  show JT_X1_takes l G M r 0 [(0, .ref b), (1, .int x1), (2, .int x2), (3, .int x3), (4, .int x4)] [] M
  unfold f_X1_takes at h
  refine J_aload_n (pc' := 1) (i := 0) (n := 0) dX1_takes_0 rfl rfl rfl ?_
  refine J_iload_n (pc' := 2) (i := 1) (n := 1) dX1_takes_1 rfl rfl rfl ?_
  refine J_iload_n (pc' := 3) (i := 2) (n := 2) dX1_takes_2 rfl rfl rfl ?_
  refine J_iload_n (pc' := 4) (i := 3) (n := 3) dX1_takes_3 rfl rfl rfl ?_
  refine J_iload (pc' := 6) (i := 4) (n := 4) dX1_takes_4 rfl rfl ?_
  obtain ⟨v1, e2, h⟩ := tl_inv h
  refine J_callSI (pc' := 9) (as := [.int x1, .int x2, .int x3, .int x4]) (rest := []) ci (k_c hs) dX1_takes_6 rfl lk_X1_7 rfl (k_o hs) (k_n hs) (c_X3_takes e2) ⟨Nat.le_of_ble_eq_true rfl, Nat.le_of_ble_eq_true rfl⟩ (Nat.le_of_ble_eq_true rfl) ⟨Nat.le_of_ble_eq_true rfl, Nat.le_of_ble_eq_true rfl⟩ (j_kq ?_)
  refine J_iload (pc' := 11) (i := 4) (n := 4) dX1_takes_9 rfl rfl ?_
  refine J_iconst (pc' := 12) (v := (1 : Int32)) dX1_takes_11 rfl ic_1 ?_
  refine J_icmp_lt (pc' := 15) (tgt := 19) dX1_takes_12 rfl (by decide) (fun c3 => ?_) (fun c3 => ?_)
  · replace h := j_ip c3 h
    refine J_iconst (pc' := 20) (v := (0 : Int32)) dX1_takes_19 rfl ic_0 ?_
    refine J_iadd (pc' := 21) dX1_takes_20 rfl ?_
    exact J_iret rfl dX1_takes_21 ⟨rfl, Nat.le_refl _⟩ (j_pI h)
  · replace h := j_iq c3 h
    refine J_iconst (pc' := 16) (v := (5 : Int32)) dX1_takes_15 rfl ic_5 ?_
    refine J_goto (pc' := 20) dX1_takes_16 (by decide) ?_
    refine J_iadd (pc' := 21) dX1_takes_20 rfl ?_
    exact J_iret rfl dX1_takes_21 ⟨rfl, Nat.le_refl _⟩ (j_pI h)
abbrev JT_X6_takes (l : Launch) (G : j_G) (M : j_M) (r : Int32) : Nat → List (Nat × Value) → List Value → j_M → Prop := JJ l G md_X6_takes (j_rm 2 (0, 0)) (0, 0) (0, 0) (po (some (.int r)) M)
def f_X6_takes (x1 : Int32) (x2 : Int32) (x3 : Int32) (x4 : Int32) : Int32 :=
  tl (f_X2_takes x1 x2 x3 x4) fun v1 => ((x1 + ((v1 - x1) / (2 : Int32))))
set_option maxHeartbeats 4000000 in
theorem c_X6_takes {l : Launch} {G : j_G} {M : j_M} {b ci : Nat} {x1 : Int32} {x2 : Int32} {x3 : Int32} {x4 : Int32} (hs : sh_k ci b M.2.2) {r : Int32} (h : f_X6_takes x1 x2 x3 x4 = r) : j_Sp l G md_X6_takes 2 (0, 0) [.ref b, .int x1, .int x2, .int x3, .int x4] M (po (some (.int r)) M) := by
  refine j_Sp.of (by decide) (Nat.le_of_ble_eq_true rfl) ?_
  show JT_X6_takes l G M r 0 [(0, .ref b), (1, .int x1), (2, .int x2), (3, .int x3), (4, .int x4)] [] M
  unfold f_X6_takes at h
  refine J_iload_n (pc' := 1) (i := 1) (n := 1) dX6_takes_0 rfl rfl rfl ?_
  refine J_aload_n (pc' := 2) (i := 0) (n := 0) dX6_takes_1 rfl rfl rfl ?_
  refine J_iload_n (pc' := 3) (i := 1) (n := 1) dX6_takes_2 rfl rfl rfl ?_
  refine J_iload_n (pc' := 4) (i := 2) (n := 2) dX6_takes_3 rfl rfl rfl ?_
  refine J_iload_n (pc' := 5) (i := 3) (n := 3) dX6_takes_4 rfl rfl rfl ?_
  refine J_iload (pc' := 7) (i := 4) (n := 4) dX6_takes_5 rfl rfl ?_
  obtain ⟨v1, e2, h⟩ := tl_inv h
  refine J_callSU (pc' := 10) (as := [.int x1, .int x2, .int x3, .int x4]) (rest := [.int x1]) ci (k_c hs) dX6_takes_7 rfl lk_X6_7 rfl (k_o hs) (k_n hs) (c_X2_takes e2) ⟨Nat.le_of_ble_eq_true rfl, Nat.le_of_ble_eq_true rfl⟩ (Nat.le_of_ble_eq_true rfl) ⟨Nat.le_of_ble_eq_true rfl, Nat.le_of_ble_eq_true rfl⟩ (j_kq ?_)
  refine J_iload_n (pc' := 11) (i := 1) (n := 1) dX6_takes_10 rfl rfl rfl ?_
  refine J_isub (pc' := 12) dX6_takes_11 rfl ?_
  refine J_iconst (pc' := 13) (v := (2 : Int32)) dX6_takes_12 rfl ic_2 ?_
  refine J_idiv (pc' := 14) dX6_takes_13 rfl (by decide) ?_
  refine J_iadd (pc' := 15) dX6_takes_14 rfl ?_
  exact J_iret rfl dX6_takes_15 ⟨rfl, Nat.le_refl _⟩ (j_pI h)
abbrev JT_X3_believes (l : Launch) (G : j_G) (M : j_M) (r : Int32) : Nat → List (Nat × Value) → List Value → j_M → Prop := JJ l G md_X3_believes (j_rm 1 (0, 0)) (0, 0) (0, 0) (po (some (.int r)) M)
def f_X3_believes (x1 : Int32) : Int32 :=
  x1
set_option maxHeartbeats 4000000 in
theorem c_X3_believes {l : Launch} {G : j_G} {M : j_M} {b : Nat} {x1 : Int32}  {r : Int32} (h : f_X3_believes x1 = r) : j_Sp l G md_X3_believes 1 (0, 0) [.ref b, .int x1] M (po (some (.int r)) M) := by
  refine j_Sp.of (by decide) (Nat.le_of_ble_eq_true rfl) ?_
  show JT_X3_believes l G M r 0 [(0, .ref b), (1, .int x1)] [] M
  unfold f_X3_believes at h
  refine J_iload_n (pc' := 1) (i := 1) (n := 1) dX3_believes_0 rfl rfl rfl ?_
  exact J_iret rfl dX3_believes_1 ⟨rfl, Nat.le_refl _⟩ (j_pI h)
abbrev JT_X5_believes (l : Launch) (G : j_G) (M : j_M) (r : Int32) : Nat → List (Nat × Value) → List Value → j_M → Prop := JJ l G md_X5_believes (j_rm 2 (0, 0)) (0, 0) (0, 0) (po (some (.int r)) M)
def f_X5_believes (x1 : Int32) : Int32 :=
  tl (f_X3_believes x1) fun v1 => ((v1 - (15 : Int32)))
set_option maxHeartbeats 4000000 in
theorem c_X5_believes {l : Launch} {G : j_G} {M : j_M} {b ci : Nat} {x1 : Int32} (hs : sh_k ci b M.2.2) {r : Int32} (h : f_X5_believes x1 = r) : j_Sp l G md_X5_believes 2 (0, 0) [.ref b, .int x1] M (po (some (.int r)) M) := by
  refine j_Sp.of (by decide) (Nat.le_of_ble_eq_true rfl) ?_
  show JT_X5_believes l G M r 0 [(0, .ref b), (1, .int x1)] [] M
  unfold f_X5_believes at h
  refine J_aload_n (pc' := 1) (i := 0) (n := 0) dX5_believes_0 rfl rfl rfl ?_
  refine J_iload_n (pc' := 2) (i := 1) (n := 1) dX5_believes_1 rfl rfl rfl ?_
  obtain ⟨v1, e2, h⟩ := tl_inv h
  refine J_callSU (pc' := 5) (as := [.int x1]) (rest := []) ci (k_c hs) dX5_believes_2 rfl lk_X5_7 rfl (k_o hs) (k_n hs) (c_X3_believes e2) ⟨Nat.le_of_ble_eq_true rfl, Nat.le_of_ble_eq_true rfl⟩ (Nat.le_of_ble_eq_true rfl) ⟨Nat.le_of_ble_eq_true rfl, Nat.le_of_ble_eq_true rfl⟩ (j_kq ?_)
  refine J_bipush (pc' := 7) (v := (15 : Int32)) dX5_believes_5 rfl bp_15 ?_
  refine J_isub (pc' := 8) dX5_believes_7 rfl ?_
  exact J_iret rfl dX5_believes_8 ⟨rfl, Nat.le_refl _⟩ (j_pI h)
abbrev JT_X6_believes (l : Launch) (G : j_G) (M : j_M) (r : Int32) : Nat → List (Nat × Value) → List Value → j_M → Prop := JJ l G md_X6_believes (j_rm 2 (0, 0)) (0, 0) (0, 0) (po (some (.int r)) M)
def f_X6_believes (x1 : Int32) : Int32 :=
  tl (f_X3_believes x1) fun v1 => ((v1 - (5 : Int32)))
set_option maxHeartbeats 4000000 in
theorem c_X6_believes {l : Launch} {G : j_G} {M : j_M} {b ci : Nat} {x1 : Int32} (hs : sh_k ci b M.2.2) {r : Int32} (h : f_X6_believes x1 = r) : j_Sp l G md_X6_believes 2 (0, 0) [.ref b, .int x1] M (po (some (.int r)) M) := by
  refine j_Sp.of (by decide) (Nat.le_of_ble_eq_true rfl) ?_
  show JT_X6_believes l G M r 0 [(0, .ref b), (1, .int x1)] [] M
  unfold f_X6_believes at h
  refine J_aload_n (pc' := 1) (i := 0) (n := 0) dX6_believes_0 rfl rfl rfl ?_
  refine J_iload_n (pc' := 2) (i := 1) (n := 1) dX6_believes_1 rfl rfl rfl ?_
  obtain ⟨v1, e2, h⟩ := tl_inv h
  refine J_callSI (pc' := 5) (as := [.int x1]) (rest := []) ci (k_c hs) dX6_believes_2 rfl lk_X6_11 rfl (k_o hs) (k_n hs) (c_X3_believes e2) ⟨Nat.le_of_ble_eq_true rfl, Nat.le_of_ble_eq_true rfl⟩ (Nat.le_of_ble_eq_true rfl) ⟨Nat.le_of_ble_eq_true rfl, Nat.le_of_ble_eq_true rfl⟩ (j_kq ?_)
  refine J_iconst (pc' := 6) (v := (5 : Int32)) dX6_believes_5 rfl ic_5 ?_
  refine J_isub (pc' := 7) dX6_believes_6 rfl ?_
  exact J_iret rfl dX6_believes_7 ⟨rfl, Nat.le_refl _⟩ (j_pI h)
theorem cd_X8_takes : j_cd md_X8_takes := j_in 578 (by decide +kernel) rfl
theorem cd_X1_takes : j_cd md_X1_takes := j_in 564 (by decide +kernel) rfl
theorem cd_X6_takes : j_cd md_X6_takes := j_in 574 (by decide +kernel) rfl
theorem cd_X5_believes : j_cd md_X5_believes := j_in 603 (by decide +kernel) rfl
theorem cd_X6_believes : j_cd md_X6_believes := j_in 609 (by decide +kernel) rfl
section
variable {ρ : Type}
/-- the row of the kinds, by a number -/
def kd (i : Int32) (k : Nat → Option ρ) : Option ρ := if i = 0 then k 0 else if i = 1 then k 1 else if i = 2 then k 2 else if i = 3 then k 3 else if i = 4 then k 4 else if i = 5 then k 5 else none
theorem kd_inv {i : Int32} {k : Nat → Option ρ} {r : ρ} (h : kd i k = some r) : ∃ v, (v < 6 ∧ i = nI v) ∧ k v = some r := by
  unfold kd at h
  split at h
  · next hc => exact ⟨0, ⟨by decide, hc⟩, h⟩
  split at h
  · next hc => exact ⟨1, ⟨by decide, hc⟩, h⟩
  split at h
  · next hc => exact ⟨2, ⟨by decide, hc⟩, h⟩
  split at h
  · next hc => exact ⟨3, ⟨by decide, hc⟩, h⟩
  split at h
  · next hc => exact ⟨4, ⟨by decide, hc⟩, h⟩
  split at h
  · next hc => exact ⟨5, ⟨by decide, hc⟩, h⟩
  · cases h
end
def kt (j : Nat) (p s n m : Int32) : Int32 := match j with
  | 0 => f_X3_takes p s n m
  | 1 => f_X2_takes p s n m
  | 2 => f_X3_takes p s n m
  | 3 => f_X8_takes p s n m
  | 4 => f_X1_takes p s n m
  | _ => f_X6_takes p s n m
def kb (j : Nat) (p : Int32) : Int32 := match j with
  | 0 => f_X3_believes p
  | 1 => f_X3_believes p
  | 2 => f_X5_believes p
  | 3 => f_X3_believes p
  | 4 => f_X5_believes p
  | _ => f_X6_believes p
section
variable {l : Launch} {G : j_G} {md : j_Md} {R : Room} {cs mcs : Nat × Nat} {Po : Option Value → j_M → Prop} {pc pc' : Nat} {lv lv' : List (Nat × Value)} {st : List Value} {M M1 : j_M}
theorem b_kr {b j : Nat} (h : sh_b b M.2.2) (hj : j < 6) : j_R M 10 j = some (11 + j) := by
  match j, hj with
  | 0, _ => exact b_k0 h
  | 1, _ => exact b_k1 h
  | 2, _ => exact b_k2 h
  | 3, _ => exact b_k3 h
  | 4, _ => exact b_k4 h
  | 5, _ => exact b_k5 h
theorem J_kd {b j : Nat} {i : Int32} (hd : decode md.2.1 pc = .ok (.aaload, 1)) (hp : pc + 1 = pc') (hs : j_S M 10 = (6, 6)) (hn : 10 < j_N M) (hb : sh_b b M.2.2) (e : j < 6 ∧ i = nI j) (kk : JJ l G md R cs mcs Po pc' lv (.ref (11 + j) :: st) M) : JJ l G md R cs mcs Po pc lv (.int i :: .ref 10 :: st) M := by
  obtain ⟨hj, rfl⟩ := e
  refine J_aald6 hd hp hs hn (vp_in_nI hj (by decide)) ?_ kk
  rw [nI_clamp (by omega)]
  exact b_kr hb hj
theorem lkU_kt_0 : j_lkU RX0 102 3 ⟨"SwimLanes$Plain", "takes", "(IIII)I"⟩ md_X3_takes 4 := ⟨⟨j_in 558 (by decide +kernel) rfl, j_in 561 (by decide +kernel) rfl, j_in 559 (by decide +kernel) rfl, j_in 560 (by decide +kernel) rfl, j_in 559 (by decide +kernel) rfl, j_in 103 (by decide +kernel) rfl, cX3_takes, 5, some .int, j_in 579 (by decide +kernel) rfl⟩, cd_X3_takes, by decide, by decide, by decide +kernel⟩
theorem lkU_kt_1 : j_lkU RX0 102 2 ⟨"SwimLanes$Plain", "takes", "(IIII)I"⟩ md_X2_takes 4 := ⟨⟨j_in 558 (by decide +kernel) rfl, j_in 561 (by decide +kernel) rfl, j_in 559 (by decide +kernel) rfl, j_in 568 (by decide +kernel) rfl, j_in 569 (by decide +kernel) rfl, j_in 104 (by decide +kernel) rfl, cX3_takes, 5, some .int, j_in 579 (by decide +kernel) rfl⟩, cd_X2_takes, by decide, by decide, by decide +kernel⟩
theorem lkU_kt_2 : j_lkU RX0 102 5 ⟨"SwimLanes$Plain", "takes", "(IIII)I"⟩ md_X3_takes 4 := ⟨⟨j_in 558 (by decide +kernel) rfl, j_in 561 (by decide +kernel) rfl, j_in 559 (by decide +kernel) rfl, j_in 571 (by decide +kernel) rfl, j_in 559 (by decide +kernel) rfl, j_in 103 (by decide +kernel) rfl, cX3_takes, 5, some .int, j_in 579 (by decide +kernel) rfl⟩, cd_X3_takes, by decide, by decide, by decide +kernel⟩
theorem lkU_kt_3 : j_lkU RX0 102 8 ⟨"SwimLanes$Plain", "takes", "(IIII)I"⟩ md_X8_takes 4 := ⟨⟨j_in 558 (by decide +kernel) rfl, j_in 561 (by decide +kernel) rfl, j_in 559 (by decide +kernel) rfl, j_in 576 (by decide +kernel) rfl, j_in 577 (by decide +kernel) rfl, j_in 106 (by decide +kernel) rfl, cX3_takes, 5, some .int, j_in 579 (by decide +kernel) rfl⟩, cd_X8_takes, by decide, by decide, by decide +kernel⟩
theorem lkU_kt_4 : j_lkU RX0 102 1 ⟨"SwimLanes$Plain", "takes", "(IIII)I"⟩ md_X1_takes 4 := ⟨⟨j_in 558 (by decide +kernel) rfl, j_in 561 (by decide +kernel) rfl, j_in 559 (by decide +kernel) rfl, j_in 562 (by decide +kernel) rfl, j_in 563 (by decide +kernel) rfl, j_in 107 (by decide +kernel) rfl, cX3_takes, 5, some .int, j_in 579 (by decide +kernel) rfl⟩, cd_X1_takes, by decide, by decide, by decide +kernel⟩
theorem lkU_kt_5 : j_lkU RX0 102 6 ⟨"SwimLanes$Plain", "takes", "(IIII)I"⟩ md_X6_takes 4 := ⟨⟨j_in 558 (by decide +kernel) rfl, j_in 561 (by decide +kernel) rfl, j_in 559 (by decide +kernel) rfl, j_in 572 (by decide +kernel) rfl, j_in 573 (by decide +kernel) rfl, j_in 108 (by decide +kernel) rfl, cX3_takes, 5, some .int, j_in 579 (by decide +kernel) rfl⟩, cd_X6_takes, by decide, by decide, by decide +kernel⟩
theorem lkU_kb_0 : j_lkU RX0 72 3 ⟨"SwimLanes$Plain", "believes", "(I)I"⟩ md_X3_believes 1 := ⟨⟨j_in 597 (by decide +kernel) rfl, j_in 600 (by decide +kernel) rfl, j_in 598 (by decide +kernel) rfl, j_in 599 (by decide +kernel) rfl, j_in 598 (by decide +kernel) rfl, j_in 103 (by decide +kernel) rfl, cX3_believes, 2, some .int, j_in 614 (by decide +kernel) rfl⟩, cd_X3_believes, by decide, by decide, by decide +kernel⟩
theorem lkU_kb_1 : j_lkU RX0 72 2 ⟨"SwimLanes$Plain", "believes", "(I)I"⟩ md_X3_believes 1 := ⟨⟨j_in 597 (by decide +kernel) rfl, j_in 600 (by decide +kernel) rfl, j_in 598 (by decide +kernel) rfl, j_in 605 (by decide +kernel) rfl, j_in 598 (by decide +kernel) rfl, j_in 103 (by decide +kernel) rfl, cX3_believes, 2, some .int, j_in 614 (by decide +kernel) rfl⟩, cd_X3_believes, by decide, by decide, by decide +kernel⟩
theorem lkU_kb_2 : j_lkU RX0 72 5 ⟨"SwimLanes$Plain", "believes", "(I)I"⟩ md_X5_believes 1 := ⟨⟨j_in 597 (by decide +kernel) rfl, j_in 600 (by decide +kernel) rfl, j_in 598 (by decide +kernel) rfl, j_in 606 (by decide +kernel) rfl, j_in 602 (by decide +kernel) rfl, j_in 105 (by decide +kernel) rfl, cX3_believes, 2, some .int, j_in 614 (by decide +kernel) rfl⟩, cd_X5_believes, by decide, by decide, by decide +kernel⟩
theorem lkU_kb_3 : j_lkU RX0 72 8 ⟨"SwimLanes$Plain", "believes", "(I)I"⟩ md_X3_believes 1 := ⟨⟨j_in 597 (by decide +kernel) rfl, j_in 600 (by decide +kernel) rfl, j_in 598 (by decide +kernel) rfl, j_in 613 (by decide +kernel) rfl, j_in 598 (by decide +kernel) rfl, j_in 103 (by decide +kernel) rfl, cX3_believes, 2, some .int, j_in 614 (by decide +kernel) rfl⟩, cd_X3_believes, by decide, by decide, by decide +kernel⟩
theorem lkU_kb_4 : j_lkU RX0 72 1 ⟨"SwimLanes$Plain", "believes", "(I)I"⟩ md_X5_believes 1 := ⟨⟨j_in 597 (by decide +kernel) rfl, j_in 600 (by decide +kernel) rfl, j_in 598 (by decide +kernel) rfl, j_in 601 (by decide +kernel) rfl, j_in 602 (by decide +kernel) rfl, j_in 105 (by decide +kernel) rfl, cX3_believes, 2, some .int, j_in 614 (by decide +kernel) rfl⟩, cd_X5_believes, by decide, by decide, by decide +kernel⟩
theorem lkU_kb_5 : j_lkU RX0 72 6 ⟨"SwimLanes$Plain", "believes", "(I)I"⟩ md_X6_believes 1 := ⟨⟨j_in 597 (by decide +kernel) rfl, j_in 600 (by decide +kernel) rfl, j_in 598 (by decide +kernel) rfl, j_in 607 (by decide +kernel) rfl, j_in 608 (by decide +kernel) rfl, j_in 108 (by decide +kernel) rfl, cX3_believes, 2, some .int, j_in 614 (by decide +kernel) rfl⟩, cd_X6_believes, by decide, by decide, by decide +kernel⟩
theorem J_kt {b j : Nat} {p s n m v : Int32} {rest : List Value} (hd : decode md.2.1 pc = .ok (.invokevirtual 102, 3)) (hp : pc + 3 = pc') (hc : md.1.cls = RX0) (hj : j < 6) (hb : sh_b b M.2.2) (e : kt j p s n m = v) (hR : 4 ≤ R.frames ∧ 150 ≤ R.locals) (hW : (rest.map fun v => v.category).sum ≤ 8) (hf : cs.1 + 0 ≤ R.cells ∧ cs.2 + 0 ≤ R.slots) (kk : JJ l G md R cs mcs Po pc' lv (.int v :: rest) M) : JJ l G md R cs mcs Po pc lv (.int m :: .int n :: .int s :: .int p :: .ref (11 + j) :: rest) M := by
  have kk' := j_kq kk
  match j, hj with
  | 0, _ =>
    exact J_callU (md' := md_X3_takes) (d' := 2) (mcs' := (0, 0)) (as := [.int p, .int s, .int n, .int m]) (rest := rest) (b := 11) (ci := 3) (x := ⟨"SwimLanes$Plain", "takes", "(IIII)I"⟩) hd hp (by decide) (by rw [hc]; exact lkU_kt_0) rfl (b_c0 hb) (b_kn hb (by decide)) (c_X3_takes e) ⟨by have := hR.1; show 2 + 1 ≤ _; omega, by have := hR.2; show 8 + (5 + 11) + 40 * 2 ≤ _; omega⟩ hW hf kk'
  | 1, _ =>
    exact J_callU (md' := md_X2_takes) (d' := 1) (mcs' := (0, 0)) (as := [.int p, .int s, .int n, .int m]) (rest := rest) (b := 12) (ci := 2) (x := ⟨"SwimLanes$Plain", "takes", "(IIII)I"⟩) hd hp (by decide) (by rw [hc]; exact lkU_kt_1) rfl (b_c1 hb) (b_kn hb (by decide)) (c_X2_takes e) ⟨by have := hR.1; show 1 + 1 ≤ _; omega, by have := hR.2; show 8 + (5 + 11) + 40 * 1 ≤ _; omega⟩ hW hf kk'
  | 2, _ =>
    exact J_callU (md' := md_X3_takes) (d' := 2) (mcs' := (0, 0)) (as := [.int p, .int s, .int n, .int m]) (rest := rest) (b := 13) (ci := 5) (x := ⟨"SwimLanes$Plain", "takes", "(IIII)I"⟩) hd hp (by decide) (by rw [hc]; exact lkU_kt_2) rfl (b_c2 hb) (b_kn hb (by decide)) (c_X3_takes e) ⟨by have := hR.1; show 2 + 1 ≤ _; omega, by have := hR.2; show 8 + (5 + 11) + 40 * 2 ≤ _; omega⟩ hW hf kk'
  | 3, _ =>
    exact J_callU (md' := md_X8_takes) (d' := 1) (mcs' := (0, 0)) (as := [.int p, .int s, .int n, .int m]) (rest := rest) (b := 14) (ci := 8) (x := ⟨"SwimLanes$Plain", "takes", "(IIII)I"⟩) hd hp (by decide) (by rw [hc]; exact lkU_kt_3) rfl (b_c3 hb) (b_kn hb (by decide)) (c_X8_takes e) ⟨by have := hR.1; show 1 + 1 ≤ _; omega, by have := hR.2; show 8 + (5 + 11) + 40 * 1 ≤ _; omega⟩ hW hf kk'
  | 4, _ =>
    exact J_callU (md' := md_X1_takes) (d' := 3) (mcs' := (0, 0)) (as := [.int p, .int s, .int n, .int m]) (rest := rest) (b := 15) (ci := 1) (x := ⟨"SwimLanes$Plain", "takes", "(IIII)I"⟩) hd hp (by decide) (by rw [hc]; exact lkU_kt_4) rfl (b_c4 hb) (b_kn hb (by decide)) (c_X1_takes (⟨b_c4 hb, b_kn hb (by decide), by decide⟩ : sh_k 1 15 M.2.2) e) ⟨by have := hR.1; show 3 + 1 ≤ _; omega, by have := hR.2; show 8 + (5 + 11) + 40 * 3 ≤ _; omega⟩ hW hf kk'
  | 5, _ =>
    exact J_callU (md' := md_X6_takes) (d' := 2) (mcs' := (0, 0)) (as := [.int p, .int s, .int n, .int m]) (rest := rest) (b := 16) (ci := 6) (x := ⟨"SwimLanes$Plain", "takes", "(IIII)I"⟩) hd hp (by decide) (by rw [hc]; exact lkU_kt_5) rfl (b_c5 hb) (b_kn hb (by decide)) (c_X6_takes (⟨b_c5 hb, b_kn hb (by decide), by decide⟩ : sh_k 6 16 M.2.2) e) ⟨by have := hR.1; show 2 + 1 ≤ _; omega, by have := hR.2; show 8 + (5 + 11) + 40 * 2 ≤ _; omega⟩ hW hf kk'
theorem J_kb {b j : Nat} {p v : Int32} {rest : List Value} (hd : decode md.2.1 pc = .ok (.invokevirtual 72, 3)) (hp : pc + 3 = pc') (hc : md.1.cls = RX0) (hj : j < 6) (hb : sh_b b M.2.2) (e : kb j p = v) (hR : 4 ≤ R.frames ∧ 150 ≤ R.locals) (hW : (rest.map fun v => v.category).sum ≤ 8) (hf : cs.1 + 0 ≤ R.cells ∧ cs.2 + 0 ≤ R.slots) (kk : JJ l G md R cs mcs Po pc' lv (.int v :: rest) M) : JJ l G md R cs mcs Po pc lv (.int p :: .ref (11 + j) :: rest) M := by
  have kk' := j_kq kk
  match j, hj with
  | 0, _ =>
    exact J_callU (md' := md_X3_believes) (d' := 1) (mcs' := (0, 0)) (as := [.int p]) (rest := rest) (b := 11) (ci := 3) (x := ⟨"SwimLanes$Plain", "believes", "(I)I"⟩) hd hp (by decide) (by rw [hc]; exact lkU_kb_0) rfl (b_c0 hb) (b_kn hb (by decide)) (c_X3_believes e) ⟨by have := hR.1; show 1 + 1 ≤ _; omega, by have := hR.2; show 8 + (2 + 11) + 40 * 1 ≤ _; omega⟩ hW hf kk'
  | 1, _ =>
    exact J_callU (md' := md_X3_believes) (d' := 1) (mcs' := (0, 0)) (as := [.int p]) (rest := rest) (b := 12) (ci := 2) (x := ⟨"SwimLanes$Plain", "believes", "(I)I"⟩) hd hp (by decide) (by rw [hc]; exact lkU_kb_1) rfl (b_c1 hb) (b_kn hb (by decide)) (c_X3_believes e) ⟨by have := hR.1; show 1 + 1 ≤ _; omega, by have := hR.2; show 8 + (2 + 11) + 40 * 1 ≤ _; omega⟩ hW hf kk'
  | 2, _ =>
    exact J_callU (md' := md_X5_believes) (d' := 2) (mcs' := (0, 0)) (as := [.int p]) (rest := rest) (b := 13) (ci := 5) (x := ⟨"SwimLanes$Plain", "believes", "(I)I"⟩) hd hp (by decide) (by rw [hc]; exact lkU_kb_2) rfl (b_c2 hb) (b_kn hb (by decide)) (c_X5_believes (⟨b_c2 hb, b_kn hb (by decide), by decide⟩ : sh_k 5 13 M.2.2) e) ⟨by have := hR.1; show 2 + 1 ≤ _; omega, by have := hR.2; show 8 + (2 + 11) + 40 * 2 ≤ _; omega⟩ hW hf kk'
  | 3, _ =>
    exact J_callU (md' := md_X3_believes) (d' := 1) (mcs' := (0, 0)) (as := [.int p]) (rest := rest) (b := 14) (ci := 8) (x := ⟨"SwimLanes$Plain", "believes", "(I)I"⟩) hd hp (by decide) (by rw [hc]; exact lkU_kb_3) rfl (b_c3 hb) (b_kn hb (by decide)) (c_X3_believes e) ⟨by have := hR.1; show 1 + 1 ≤ _; omega, by have := hR.2; show 8 + (2 + 11) + 40 * 1 ≤ _; omega⟩ hW hf kk'
  | 4, _ =>
    exact J_callU (md' := md_X5_believes) (d' := 2) (mcs' := (0, 0)) (as := [.int p]) (rest := rest) (b := 15) (ci := 1) (x := ⟨"SwimLanes$Plain", "believes", "(I)I"⟩) hd hp (by decide) (by rw [hc]; exact lkU_kb_4) rfl (b_c4 hb) (b_kn hb (by decide)) (c_X5_believes (⟨b_c4 hb, b_kn hb (by decide), by decide⟩ : sh_k 1 15 M.2.2) e) ⟨by have := hR.1; show 2 + 1 ≤ _; omega, by have := hR.2; show 8 + (2 + 11) + 40 * 2 ≤ _; omega⟩ hW hf kk'
  | 5, _ =>
    exact J_callU (md' := md_X6_believes) (d' := 2) (mcs' := (0, 0)) (as := [.int p]) (rest := rest) (b := 16) (ci := 6) (x := ⟨"SwimLanes$Plain", "believes", "(I)I"⟩) hd hp (by decide) (by rw [hc]; exact lkU_kb_5) rfl (b_c5 hb) (b_kn hb (by decide)) (c_X6_believes (⟨b_c5 hb, b_kn hb (by decide), by decide⟩ : sh_k 6 16 M.2.2) e) ⟨by have := hR.1; show 2 + 1 ≤ _; omega, by have := hR.2; show 8 + (2 + 11) + 40 * 2 ≤ _; omega⟩ hW hf kk'
end
