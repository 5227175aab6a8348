section
variable {l : Launch} {G : j_G} {md : j_Md} {R : Room} {cs mcs : Nat × Nat} {Po : Option Value → j_M → Prop} {pc pc' : Nat} {lv lv' : List (Nat × Value)} {st : List Value} {M : j_M}
/-- what a call needs of the state at which it is made -/
theorem j_calls {s U : State} {H : Heap} {locs : List Loc} {as : List Value} (C : j_C G s) (h1 : j_H G M H) (h2 : va_S (j_A G) s.heap H locs) (hU : U.heap = H) (hW : s.WarmedH U.vm) : j_Pc G as M ((as.map (j_tv G)).toArray) U :=
  ⟨rfl, C.to hW (fun q hq hA => by rw [hU]; exact h2.2.1 q hq hA) (by rw [hU]; exact h2.1), by rw [hU]; exact h1⟩
theorem j_catl (G : j_G) (rest : List Value) : ((rest.map (j_tv G)).map fun v => v.category) = rest.map fun v => v.category := by
  rw [List.map_map]
  exact List.map_congr_left fun v _ => j_cat G v
theorem J_run {mcs' : Nat × Nat} {as rest stk : List Value} {Po' : Option Value → j_M → Prop} (hp : pc + 3 = pc')
    (hr : ∀ (p : Program) (e : Env) (s : State) (m : MethodId) (args : Array Value) (below : List Frame) (meth : Method) (c : Code) (H : Heap) (locs : List Loc) (ls : Array Slot), j_F md p s m args meth c → j_C G s → j_H G M H → va_S (j_A G) s.heap H locs → lv_has ls md.2.2.1 (j_lm G lv) → va_Run p l e R s m args below meth c H locs cs.1 cs.2 mcs'.1 mcs'.2 (F0 m pc ls (stk.map (j_tv G))) (rest.map (j_tv G)) (j_Q G mcs'.1 Po' (as.map (j_tv G)).toArray) (j_A G))
    (kk : ∀ (v : Option Value) (M' : j_M), Po' v M' → JJ l G md R (cs.1 + mcs'.1, cs.2 + mcs'.2) mcs Po pc' lv (v.toList ++ rest) M') : JJ l G md R cs mcs Po pc lv stk M := by
  subst hp
  intro p e s m args below meth c H locs ls F C h1 h2 h3 hz T hT X
  obtain ⟨v, st₀, t, T', L, h0, X', hL, e1, e2, ⟨⟨v', M', hv, hpo, hh⟩, ⟨hz1, hk⟩, hz2⟩, stp⟩ := hr p e s m args below meth c H locs ls F C h1 h2 h3 T hT X
  have hv' : v = v'.map (j_tv G) := by
    injection hv
  subst hv'
  rw [h0] at hz1 hk hz2
  have hS' : va_S (j_A G) s.heap t.heap (locs ++ L) := ⟨Nat.le_trans h2.1 hz1, fun q g1 g2 => by rw [hk q (Nat.lt_of_lt_of_le g1 h2.1) g2]; exact h2.2.1 q g1 g2, fun q hq => by
    rcases List.mem_append.mp hq with h | h
    · exact h2.2.2 q h
    · exact hL q h⟩
  have hzz : s.heap.size + (cs.1 + mcs'.1) = G.2.1 + j_N M' := by
    have a1 := hh.2.1
    have a2 := h1.2.1
    omega
  obtain ⟨t2, a1, b1⟩ := kk v' M' hpo p e s m args below meth c t.heap (locs ++ L) ls F C hh hS' h3 hzz T' e1 X'
  refine ⟨t2, stp t2 ?_, b1⟩
  have hst : (v'.map (j_tv G)).toList ++ rest.map (j_tv G) = (v'.toList ++ rest).map (j_tv G) := by cases v' <;> rfl
  show Steps p.tables e below (T'.setTop { (F0 m pc ls (stk.map (j_tv G))) with pc := pc + 3, stack := (v'.map (j_tv G)).toList ++ rest.map (j_tv G) }) t2
  rw [hst]
  exact a1
def j_hx (md' : j_Md) (n : Nat) : Prop := md'.1.cls ≠ "java/lang/invoke/MethodHandle" ∧ md'.1.cls ≠ "java/lang/invoke/VarHandle" ∧ (parseMethodDescriptor md'.1.desc).map (fun d => d.parameters.length) = some n
def j_cd (md' : j_Md) : Prop := Cond.code md'.1 md'.2.1 md'.2.2.1 md'.2.2.2 ∈ j_gt
def j_lkV (own : String) (i : Nat) (md' : j_Md) (n : Nat) : Prop := (Cond.methodLink own i md'.1 ∈ j_gt ∧ Cond.instanceMethod md'.1 ∈ j_gt ∧ Cond.selects md'.1.cls md'.1 md'.1 ∈ j_gt ∧ Cond.initialized md'.1.cls ∈ j_gt) ∧ j_cd md' ∧ j_hx md' n
def j_lkVN (own : String) (i : Nat) (md' : j_Md) (n : Nat) : Prop := (Cond.methodLinkNest own i md'.1 "SwimLanes" ∈ lw_tbl ∧ Cond.instanceMethod md'.1 ∈ j_gt ∧ Cond.selects md'.1.cls md'.1 md'.1 ∈ j_gt ∧ Cond.initialized md'.1.cls ∈ j_gt) ∧ j_cd md' ∧ j_hx md' n
def j_lkS (own : String) (i : Nat) (md' : j_Md) (n : Nat) : Prop := (Cond.methodLink own i md'.1 ∈ j_gt ∧ Cond.static md'.1 ∈ j_gt ∧ Cond.initialized md'.1.cls ∈ j_gt) ∧ j_cd md' ∧ j_hx md' n
def j_lkSN (own : String) (i : Nat) (md' : j_Md) (n : Nat) : Prop := (Cond.methodLinkNest own i md'.1 "SwimLanes" ∈ lw_tbl ∧ Cond.static md'.1 ∈ j_gt ∧ Cond.initialized md'.1.cls ∈ j_gt) ∧ j_cd md' ∧ j_hx md' n
def j_lkI (own : String) (i : Nat) (md' : j_Md) (n : Nat) : Prop := (Cond.methodLink own i md'.1 ∈ j_gt ∧ Cond.instanceMethod md'.1 ∈ j_gt ∧ Cond.initialized md'.1.cls ∈ j_gt ∧ md'.1.name = "<init>" ∧ md'.2.2.2 = none) ∧ j_cd md' ∧ j_hx md' n
def j_lkIN (own : String) (i : Nat) (md' : j_Md) (n : Nat) : Prop := (Cond.methodLinkNest own i md'.1 "SwimLanes" ∈ lw_tbl ∧ Cond.instanceMethod md'.1 ∈ j_gt ∧ Cond.initialized md'.1.cls ∈ j_gt ∧ md'.1.name = "<init>" ∧ md'.2.2.2 = none) ∧ j_cd md' ∧ j_hx md' n
/-- a call by the table on a receiver of class ci: x is what the pool names, md' what runs -/
def j_lkU (own : String) (i ci : Nat) (x : MethodName) (md' : j_Md) (n : Nat) : Prop := (Cond.methodLink own i x ∈ j_gt ∧ Cond.sameMethod x.cls x.cls x.name x.desc ∈ j_gt ∧ Cond.instanceMethod x ∈ j_gt ∧ Cond.selects (j_vc ci).1 x md'.1 ∈ j_gt ∧ Cond.instanceMethod md'.1 ∈ j_gt ∧ Cond.initialized md'.1.cls ∈ j_gt ∧ ∃ b0 m0 r0, Cond.code x b0 m0 r0 ∈ j_gt) ∧ j_cd md' ∧ x.cls ≠ "java/lang/invoke/MethodHandle" ∧ x.cls ≠ "java/lang/invoke/VarHandle" ∧ (parseMethodDescriptor x.desc).map (fun d => d.parameters.length) = some n
def j_lkSU (own : String) (i : Nat) (md' : j_Md) (n : Nat) : Prop := (Cond.methodLink own i md'.1 ∈ j_gt ∧ Cond.sameMethod md'.1.cls md'.1.cls md'.1.name md'.1.desc ∈ j_gt ∧ Cond.superclass own md'.1.cls ∈ j_gt ∧ Cond.instanceMethod md'.1 ∈ j_gt ∧ Cond.initialized md'.1.cls ∈ j_gt) ∧ j_cd md' ∧ md'.1.name ≠ "<init>" ∧ (parseMethodDescriptor md'.1.desc).map (fun d => d.parameters.length) = some n
theorem j_gw {w : Cond} (h : w ∈ j_gt) : w ∈ j_gt ∧ ((w.onTables && w.keeps) = true ∨ ∃ ty, w = .arrayClass ty) := j_gt_good w h
theorem j_goodM {md' : j_Md} (h : j_cd md') : GoodIn j_gt (j_wm md') := fun w hw => by
  rcases List.mem_cons.mp hw with rfl | hw
  · exact j_gw h
  · exact j_gw hw

theorem J_callV {md' : j_Md} {d' i : Nat} {mcs' : Nat × Nat} {as rest stk : List Value} {Po' : Option Value → j_M → Prop} {b : Nat} (hd : decode md.2.1 pc = .ok (.invokevirtual i, 3)) (hp : pc + 3 = pc') (hlk : j_lkV md.1.cls i md' as.length) (hstk : stk = as.reverse ++ .ref b :: rest) (ci : Nat) (hci : ci < 11) (hcn : (j_vc ci).1 = md'.1.cls) (hs : (j_S M b).1 = 10 + ci) (hb : b < j_N M) (hM : j_Sp l G md' d' mcs' (.ref b :: as) M Po') (hR : d' + 1 ≤ R.frames ∧ 8 + (md'.2.2.1 + 11) + 40 * d' ≤ R.locals) (hW : (rest.map fun v => v.category).sum ≤ 8) (hf : cs.1 + mcs'.1 ≤ R.cells ∧ cs.2 + mcs'.2 ≤ R.slots) (kk : ∀ (v : Option Value) (M' : j_M), Po' v M' → JJ l G md R (cs.1 + mcs'.1, cs.2 + mcs'.2) mcs Po pc' lv (v.toList ++ rest) M') : JJ l G md R cs mcs Po pc lv stk M := by
  refine J_run (as := .ref b :: as) hp ?_ kk
  intro p e s m args below meth c H locs ls F C h1 h2 h3
  subst hstk
  have hts := F.2.2.2.2.2.2.1
  obtain ⟨hw, hcd, hx⟩ := hlk
  obtain ⟨c1, c2, -⟩ := j_kf ci hci
  have hrc : ∃ cell : Cell, H[j_rho G b]? = some cell ∧ cell.vm.isStatics = false ∧ s.vm.findClass md'.1.cls = some cell.cls := by
    rw [j_ro h1 hb, ← hcn]
    exact va_recv C.1 h1.1 c1 (j_at hb (j_c_obj hs))
  exact va_runV (Ts := j_gt) (own := md.1.cls) (nL := md.2.2.1) (As := as.map (j_tv G)) (b := j_rho G b) ⟨F.1, F.2.1, F.2.2.1, F.2.2.2.2.2.1, F.2.2.2.2.2.2.1⟩ hM (cwV as.length hts (fun w hw' => by
      unfold wsV at hw'
      rcases List.mem_append.mp hw' with h | h
      · simp only [List.mem_cons, List.not_mem_nil, or_false] at h
        rcases h with rfl | rfl | rfl | rfl
        · exact j_gw hw.1
        · exact j_gw hw.2.1
        · exact j_gw hw.2.2.1
        · exact j_gw hw.2.2.2
      · exact j_goodM hcd w h) rfl rfl rfl ⟨rfl, hx⟩ hR) ⟨j_blind, hrc, fun U hU hW => j_calls C h1 h2 hU hW⟩ rfl (by simp) h3.1 (by simp [j_tv]) (lv_room (by rw [j_catl]; exact hW)) hd hf
theorem J_callVN {md' : j_Md} {d' i : Nat} {mcs' : Nat × Nat} {as rest stk : List Value} {Po' : Option Value → j_M → Prop} {b : Nat} (hd : decode md.2.1 pc = .ok (.invokevirtual i, 3)) (hp : pc + 3 = pc') (hlk : j_lkVN md.1.cls i md' as.length) (hstk : stk = as.reverse ++ .ref b :: rest) (ci : Nat) (hci : ci < 11) (hcn : (j_vc ci).1 = md'.1.cls) (hs : (j_S M b).1 = 10 + ci) (hb : b < j_N M) (hM : j_Sp l G md' d' mcs' (.ref b :: as) M Po') (hR : d' + 1 ≤ R.frames ∧ 8 + (md'.2.2.1 + 11) + 40 * d' ≤ R.locals) (hW : (rest.map fun v => v.category).sum ≤ 8) (hf : cs.1 + mcs'.1 ≤ R.cells ∧ cs.2 + mcs'.2 ≤ R.slots) (kk : ∀ (v : Option Value) (M' : j_M), Po' v M' → JJ l G md R (cs.1 + mcs'.1, cs.2 + mcs'.2) mcs Po pc' lv (v.toList ++ rest) M') : JJ l G md R cs mcs Po pc lv stk M := by
  refine J_run (as := .ref b :: as) hp ?_ kk
  intro p e s m args below meth c H locs ls F C h1 h2 h3
  subst hstk
  have hts := F.2.2.2.2.2.2.1
  obtain ⟨hw, hcd, hx⟩ := hlk
  obtain ⟨c1, c2, -⟩ := j_kf ci hci
  have hrc : ∃ cell : Cell, H[j_rho G b]? = some cell ∧ cell.vm.isStatics = false ∧ s.vm.findClass md'.1.cls = some cell.cls := by
    rw [j_ro h1 hb, ← hcn]
    exact va_recv C.1 h1.1 c1 (j_at hb (j_c_obj hs))
  exact va_runVN (host := "SwimLanes") (Ts := j_gt) (own := md.1.cls) (nL := md.2.2.1) (As := as.map (j_tv G)) (b := j_rho G b) ⟨F.1, F.2.1, F.2.2.1, F.2.2.2.2.2.1, F.2.2.2.2.2.2.1⟩ hM ⟨va_cnB as.length hts (j_goodM hcd) rfl rfl rfl (C.2.1 _ hw.1 rfl) (hts _ hw.2.2.2) hx hR, hts _ hw.2.1, hts _ hw.2.2.1⟩ ⟨j_blind, hrc, fun U hU hW => j_calls C h1 h2 hU hW⟩ rfl (by simp) h3.1 (by simp [j_tv]) (lv_room (by rw [j_catl]; exact hW)) hd hf
theorem J_callS {md' : j_Md} {d' i : Nat} {mcs' : Nat × Nat} {as rest stk : List Value} {Po' : Option Value → j_M → Prop} (hd : decode md.2.1 pc = .ok (.invokestatic i, 3)) (hp : pc + 3 = pc') (hlk : j_lkS md.1.cls i md' as.length) (hstk : stk = as.reverse ++ rest) (hM : j_Sp l G md' d' mcs' as M Po') (hR : d' + 1 ≤ R.frames ∧ 8 + (md'.2.2.1 + 11) + 40 * d' ≤ R.locals) (hW : (rest.map fun v => v.category).sum ≤ 8) (hf : cs.1 + mcs'.1 ≤ R.cells ∧ cs.2 + mcs'.2 ≤ R.slots) (kk : ∀ (v : Option Value) (M' : j_M), Po' v M' → JJ l G md R (cs.1 + mcs'.1, cs.2 + mcs'.2) mcs Po pc' lv (v.toList ++ rest) M') : JJ l G md R cs mcs Po pc lv stk M := by
  refine J_run (as := as) hp ?_ kk
  intro p e s m args below meth c H locs ls F C h1 h2 h3
  subst hstk
  have hts := F.2.2.2.2.2.2.1
  obtain ⟨hw, hcd, hx⟩ := hlk
  exact va_runS (Ts := j_gt) (own := md.1.cls) (nL := md.2.2.1) (As := as.map (j_tv G)) ⟨F.1, F.2.1, F.2.2.1, F.2.2.2.2.2.1, F.2.2.2.2.2.2.1⟩ hM (va_cwS as.length hts (fun w hw' => by
      unfold va_wsS at hw'
      rcases List.mem_append.mp hw' with h | h
      · simp only [List.mem_cons, List.not_mem_nil, or_false] at h
        rcases h with rfl | rfl | rfl
        · exact j_gw hw.1
        · exact j_gw hw.2.1
        · exact j_gw hw.2.2
      · exact j_goodM hcd w h) rfl rfl rfl hx hR) ⟨j_blind, fun U hU hW => j_calls C h1 h2 hU hW⟩ rfl (by simp) h3.1 (by simp) (lv_room (by rw [j_catl]; exact hW)) hd hf
theorem J_callSN {md' : j_Md} {d' i : Nat} {mcs' : Nat × Nat} {as rest stk : List Value} {Po' : Option Value → j_M → Prop} (hd : decode md.2.1 pc = .ok (.invokestatic i, 3)) (hp : pc + 3 = pc') (hlk : j_lkSN md.1.cls i md' as.length) (hstk : stk = as.reverse ++ rest) (hM : j_Sp l G md' d' mcs' as M Po') (hR : d' + 1 ≤ R.frames ∧ 8 + (md'.2.2.1 + 11) + 40 * d' ≤ R.locals) (hW : (rest.map fun v => v.category).sum ≤ 8) (hf : cs.1 + mcs'.1 ≤ R.cells ∧ cs.2 + mcs'.2 ≤ R.slots) (kk : ∀ (v : Option Value) (M' : j_M), Po' v M' → JJ l G md R (cs.1 + mcs'.1, cs.2 + mcs'.2) mcs Po pc' lv (v.toList ++ rest) M') : JJ l G md R cs mcs Po pc lv stk M := by
  refine J_run (as := as) hp ?_ kk
  intro p e s m args below meth c H locs ls F C h1 h2 h3
  subst hstk
  have hts := F.2.2.2.2.2.2.1
  obtain ⟨hw, hcd, hx⟩ := hlk
  exact va_runSN (host := "SwimLanes") (Ts := j_gt) (own := md.1.cls) (nL := md.2.2.1) (As := as.map (j_tv G)) ⟨F.1, F.2.1, F.2.2.1, F.2.2.2.2.2.1, F.2.2.2.2.2.2.1⟩ hM ⟨va_cnB as.length hts (j_goodM hcd) rfl rfl rfl (C.2.1 _ hw.1 rfl) (hts _ hw.2.2) hx hR, hts _ hw.2.1, trivial⟩ ⟨j_blind, fun U hU hW => j_calls C h1 h2 hU hW⟩ rfl (by simp) h3.1 (by simp) (lv_room (by rw [j_catl]; exact hW)) hd hf
theorem J_callI {md' : j_Md} {d' i : Nat} {mcs' : Nat × Nat} {as rest stk : List Value} {Po' : Option Value → j_M → Prop} {b : Nat} (hd : decode md.2.1 pc = .ok (.invokespecial i, 3)) (hp : pc + 3 = pc') (hlk : j_lkI md.1.cls i md' as.length) (hstk : stk = as.reverse ++ .ref b :: rest) (hM : j_Sp l G md' d' mcs' (.ref b :: as) M Po') (hR : d' + 1 ≤ R.frames ∧ 8 + (md'.2.2.1 + 11) + 40 * d' ≤ R.locals) (hW : (rest.map fun v => v.category).sum ≤ 8) (hf : cs.1 + mcs'.1 ≤ R.cells ∧ cs.2 + mcs'.2 ≤ R.slots) (kk : ∀ (v : Option Value) (M' : j_M), Po' v M' → JJ l G md R (cs.1 + mcs'.1, cs.2 + mcs'.2) mcs Po pc' lv (v.toList ++ rest) M') : JJ l G md R cs mcs Po pc lv stk M := by
  refine J_run (as := .ref b :: as) hp ?_ kk
  intro p e s m args below meth c H locs ls F C h1 h2 h3
  subst hstk
  have hts := F.2.2.2.2.2.2.1
  obtain ⟨hw, hcd, hx⟩ := hlk
  have hcw : j_wm md' = Cond.code md'.1 md'.2.1 md'.2.2.1 none :: j_gt := by rw [← hw.2.2.2.2]; rfl
  exact va_runI (Ts := j_gt) (own := md.1.cls) (nL := md.2.2.1) (As := as.map (j_tv G)) (b := j_rho G b) ⟨F.1, F.2.1, F.2.2.1, F.2.2.2.2.2.1, F.2.2.2.2.2.2.1⟩ hM (cwI as.length hts (j_goodM hcd) hcw rfl rfl (hts _ hw.2.2.1) (hts _ hw.1) (hts _ hw.2.1) hw.2.2.2.1 hx hR) ⟨j_blind, fun U hU hW => j_calls (as := .ref b :: as) C h1 h2 hU hW⟩ rfl (by simp) h3.1 (by simp [j_tv]) (lv_room (by rw [j_catl]; exact hW)) hd hf
theorem J_callIN {md' : j_Md} {d' i : Nat} {mcs' : Nat × Nat} {as rest stk : List Value} {Po' : Option Value → j_M → Prop} {b : Nat} (hd : decode md.2.1 pc = .ok (.invokespecial i, 3)) (hp : pc + 3 = pc') (hlk : j_lkIN md.1.cls i md' as.length) (hstk : stk = as.reverse ++ .ref b :: rest) (hM : j_Sp l G md' d' mcs' (.ref b :: as) M Po') (hR : d' + 1 ≤ R.frames ∧ 8 + (md'.2.2.1 + 11) + 40 * d' ≤ R.locals) (hW : (rest.map fun v => v.category).sum ≤ 8) (hf : cs.1 + mcs'.1 ≤ R.cells ∧ cs.2 + mcs'.2 ≤ R.slots) (kk : ∀ (v : Option Value) (M' : j_M), Po' v M' → JJ l G md R (cs.1 + mcs'.1, cs.2 + mcs'.2) mcs Po pc' lv (v.toList ++ rest) M') : JJ l G md R cs mcs Po pc lv stk M := by
  refine J_run (as := .ref b :: as) hp ?_ kk
  intro p e s m args below meth c H locs ls F C h1 h2 h3
  subst hstk
  have hts := F.2.2.2.2.2.2.1
  obtain ⟨hw, hcd, hx⟩ := hlk
  have hcw : j_wm md' = Cond.code md'.1 md'.2.1 md'.2.2.1 none :: j_gt := by rw [← hw.2.2.2.2]; rfl
  exact va_runIN (host := "SwimLanes") (Ts := j_gt) (own := md.1.cls) (nL := md.2.2.1) (As := as.map (j_tv G)) (b := j_rho G b) ⟨F.1, F.2.1, F.2.2.1, F.2.2.2.2.2.1, F.2.2.2.2.2.2.1⟩ hM ⟨va_cnB as.length hts (j_goodM hcd) hcw rfl rfl (C.2.1 _ hw.1 rfl) (hts _ hw.2.2.1) hx hR, hw.2.2.2.1, hts _ hw.2.1⟩ ⟨j_blind, fun U hU hW => j_calls (as := .ref b :: as) C h1 h2 hU hW⟩ rfl (by simp) h3.1 (by simp [j_tv]) (lv_room (by rw [j_catl]; exact hW)) hd hf
theorem J_callU {md' : j_Md} {d' i : Nat} {mcs' : Nat × Nat} {as rest stk : List Value} {Po' : Option Value → j_M → Prop} {b ci : Nat} {x : MethodName} (hd : decode md.2.1 pc = .ok (.invokevirtual i, 3)) (hp : pc + 3 = pc') (hci : ci < 11) (hlk : j_lkU md.1.cls i ci x md' as.length) (hstk : stk = as.reverse ++ .ref b :: rest) (hs : (j_S M b).1 = 10 + ci) (hb : b < j_N M) (hM : j_Sp l G md' d' mcs' (.ref b :: as) M Po') (hR : d' + 1 ≤ R.frames ∧ 8 + (md'.2.2.1 + 11) + 40 * d' ≤ R.locals) (hW : (rest.map fun v => v.category).sum ≤ 8) (hf : cs.1 + mcs'.1 ≤ R.cells ∧ cs.2 + mcs'.2 ≤ R.slots) (kk : ∀ (v : Option Value) (M' : j_M), Po' v M' → JJ l G md R (cs.1 + mcs'.1, cs.2 + mcs'.2) mcs Po pc' lv (v.toList ++ rest) M') : JJ l G md R cs mcs Po pc lv stk M := by
  refine J_run (as := .ref b :: as) hp ?_ kk
  intro p e s m args below meth c H locs ls F C h1 h2 h3
  subst hstk
  have hts := F.2.2.2.2.2.2.1
  obtain ⟨hw, hcd, hx⟩ := hlk
  obtain ⟨c1, c2, -⟩ := j_kf ci hci
  obtain ⟨b0, m0, r0, h0⟩ := hw.2.2.2.2.2.2
  have hrc : ∃ cell : Cell, H[j_rho G b]? = some cell ∧ cell.vm.isStatics = false ∧ s.vm.findClass (j_vc ci).1 = some cell.cls := by
    rw [j_ro h1 hb]
    exact va_recv C.1 h1.1 c1 (j_at hb (j_c_obj hs))
  exact va_runU (Ts := j_gt) (own := md.1.cls) (nL := md.2.2.1) (As := as.map (j_tv G)) (b := j_rho G b) (x := x) (C := (j_vc ci).1) (owner := x.cls) ⟨F.1, F.2.1, F.2.2.1, F.2.2.2.2.2.1, F.2.2.2.2.2.2.1⟩ hM (va_cwO (b0 := b0) (m0 := m0) (r0 := r0) as.length hts (fun w hw' => by
      unfold va_wsO at hw'
      rcases List.mem_append.mp hw' with h | h
      · simp only [List.mem_cons, List.not_mem_nil, or_false] at h
        rcases h with rfl | rfl | rfl | rfl | rfl | rfl
        · exact j_gw hw.1
        · exact j_gw hw.2.1
        · exact j_gw hw.2.2.1
        · exact j_gw hw.2.2.2.1
        · exact j_gw hw.2.2.2.2.1
        · exact j_gw hw.2.2.2.2.2.1
      · exact j_goodM hcd w h) rfl rfl rfl h0 hx hR) ⟨j_blind, hrc, fun U hU hW => j_calls C h1 h2 hU hW⟩ rfl (by simp) h3.1 (by simp [j_tv]) (lv_room (by rw [j_catl]; exact hW)) hd hf
theorem J_callSU {md' : j_Md} {d' i : Nat} {mcs' : Nat × Nat} {as rest stk : List Value} {Po' : Option Value → j_M → Prop} {b : Nat} (ci : Nat) (hci : ci < 11) (hd : decode md.2.1 pc = .ok (.invokespecial i, 3)) (hp : pc + 3 = pc') (hlk : j_lkSU md.1.cls i md' as.length) (hstk : stk = as.reverse ++ .ref b :: rest) (hs : (j_S M b).1 = 10 + ci) (hb : b < j_N M) (hM : j_Sp l G md' d' mcs' (.ref b :: as) M Po') (hR : d' + 1 ≤ R.frames ∧ 8 + (md'.2.2.1 + 11) + 40 * d' ≤ R.locals) (hW : (rest.map fun v => v.category).sum ≤ 8) (hf : cs.1 + mcs'.1 ≤ R.cells ∧ cs.2 + mcs'.2 ≤ R.slots) (kk : ∀ (v : Option Value) (M' : j_M), Po' v M' → JJ l G md R (cs.1 + mcs'.1, cs.2 + mcs'.2) mcs Po pc' lv (v.toList ++ rest) M') : JJ l G md R cs mcs Po pc lv stk M := by
  refine J_run (as := .ref b :: as) hp ?_ kk
  intro p e s m args below meth c H locs ls F C h1 h2 h3
  subst hstk
  have hts := F.2.2.2.2.2.2.1
  obtain ⟨hw, hcd, hx⟩ := hlk
  obtain ⟨c1, c2, -⟩ := j_kf ci hci
  have hrc : ∃ cell : Cell, H[j_rho G b]? = some cell ∧ cell.vm.isStatics = false ∧ s.vm.findClass (j_vc ci).1 = some cell.cls := by
    rw [j_ro h1 hb]
    exact va_recv C.1 h1.1 c1 (j_at hb (j_c_obj hs))
  exact va_runSU (Ts := j_gt) (own := md.1.cls) (nL := md.2.2.1) (As := as.map (j_tv G)) (b := j_rho G b) (C := (j_vc ci).1) (C.1.1 ci _ c1).2 ⟨F.1, F.2.1, F.2.2.1, F.2.2.2.2.2.1, F.2.2.2.2.2.2.1⟩ hM (va_cwSU as.length hts (fun w hw' => by
      unfold va_wsSU at hw'
      rcases List.mem_append.mp hw' with h | h
      · simp only [List.mem_cons, List.not_mem_nil, or_false] at h
        rcases h with rfl | rfl | rfl | rfl | rfl
        · exact j_gw hw.1
        · exact j_gw hw.2.1
        · exact j_gw hw.2.2.1
        · exact j_gw hw.2.2.2.1
        · exact j_gw hw.2.2.2.2
      · exact j_goodM hcd w h) rfl rfl rfl hx hR) ⟨j_blind, hrc, fun U hU hW => j_calls C h1 h2 hU hW⟩ rfl (by simp) h3.1 (by simp [j_tv]) (lv_room (by rw [j_catl]; exact hW)) hd hf
theorem J_mmax {i : Nat} {x y : Int32} (hd : decode md.2.1 pc = .ok (.invokestatic i, 3)) (hp : pc + 3 = pc') (hlk : Cond.methodLink md.1.cls i Lib.Math.max.name ∈ j_gt ∧ Cond.static Lib.Math.max.name ∈ j_gt ∧ Cond.initialized "java/lang/Math" ∈ j_gt ∧ Cond.code Lib.Math.max.name Lib.Math.max.code 2 (some .int) ∈ j_gt) (hR : 1 ≤ R.frames ∧ (st.map fun v => v.category).sum + 13 ≤ R.locals ∧ cs.1 ≤ R.cells ∧ cs.2 ≤ R.slots) (kk : JJ l G md R cs mcs Po pc' lv (.int (if x < y then y else x) :: st) M) : JJ l G md R cs mcs Po pc lv (.int y :: .int x :: st) M := by
  subst hp
  intro p e s m args below meth c H locs ls F C h1 h2 h3 hz
  have hts := F.2.2.2.2.2.2.1
  exact va_mmax F.1 F.2.1 (F.2.2.1.trans h3.1.symm) F.2.2.2.2.2.1 (hts _ hlk.1) (hts _ hlk.2.1) (hts _ hlk.2.2.1) (hts _ hlk.2.2.2) hR.1 (by rw [j_catl]; exact hR.2.1) hR.2.2.1 hR.2.2.2 hd (kk p e s m args below meth c H locs ls F C h1 h2 h3 hz)
theorem J_oini {i a : Nat} (hd : decode md.2.1 pc = .ok (.invokespecial i, 3)) (hp : pc + 3 = pc') (hlk : Cond.methodLink md.1.cls i Lib.objectInit ∈ j_gt ∧ Cond.instanceMethod Lib.objectInit ∈ j_gt ∧ Cond.code Lib.objectInit ⟨#[0xb1]⟩ 1 none ∈ j_gt) (hR : 1 ≤ R.frames ∧ (st.map fun v => v.category).sum + 12 ≤ R.locals) (kk : JJ l G md R cs mcs Po pc' lv st M) : JJ l G md R cs mcs Po pc lv (.ref a :: st) M := by
  subst hp
  intro p e s m args below meth c H locs ls F C h1 h2 h3 hz
  have hts := F.2.2.2.2.2.2.1
  refine W.objInit (rest := st.map (j_tv G)) (a := j_rho G a) F.1 F.2.1 F.2.2.2.2.2.1 (hts _ hlk.1) (hts _ hlk.2.1) (hts _ hlk.2.2) rfl (h3.1.trans F.2.2.1.symm) rfl hd hR.1 ?_ (kk p e s m args below meth c H locs ls F C h1 h2 h3 hz)
  rw [j_catl]
  show 2 * 0 + _ + 12 ≤ _
  have := hR.2
  omega
end
