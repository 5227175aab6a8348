/-! the context of a method's run, and the judgement -/
def j_isN : Cond → Bool
  | .fieldLinkNest .. => true
  | .methodLinkNest .. => true
  | .castable .. => true
  | .declares _ => true
  | _ => false
theorem j_nw_warm {w : Cond} {s U : State} (h : j_isN w = true) (hW : s.WarmedH U.vm) (hZ : va_Nw w s) : va_Nw w U := by
  cases w <;> first | exact va_Nw.warmF hW hZ | exact va_Nw.warmM hW hZ | exact va_Nw.warmC hW hZ | exact va_Nw.warmD hW hZ | (simp [j_isN] at h)
def j_gt : List Cond := lw_tbl.filter goodWord
theorem j_gt_good : GoodIn j_gt j_gt := fun w h => ⟨h, good_of_word (List.mem_filter.mp h).2⟩
/-- the bytes of the four words -/
def j_byt : List (List Int32) := [[98, 97, 116, 104], [115, 105, 103, 110], [115, 104, 117, 116], [111, 110, 101]]
def j_len : List Nat := [4, 4, 4, 3]
def j_sig : Nat → Int32 := fun j => ([0, 1, 1, 2] : List Int32).getD j 0
def j_CS (G : j_G) (s : State) : Prop :=
  (va_Z "SwimLanes" "SIGNS_AT_FIRST" "[I" (.ref (G.2.2.2 0)) (j_A G) s s.heap ∧ va_T .int (G.2.2.2 0) 4 (fun j => .int (j_sig j)) (j_A G) s s.heap) ∧
  (va_Z "java/lang/String" "COMPACT_STRINGS" "Z" (.int 1) (j_A G) s s.heap ∧ vk_S 4 j_len j_byt (fun i => G.2.2.2 (1 + i)) (fun i => G.2.2.2 (11 + i)) (j_A G) s s.heap) ∧
  (vk_R RX7 33 "bath" (G.2.2.2 1) s ∧ vk_R RX7 47 "sign" (G.2.2.2 2) s ∧ vk_R RX7 52 "shut" (G.2.2.2 3) s ∧ vk_R RX7 57 "one" (G.2.2.2 4) s) ∧
  (va_AO "SwimLanes$Bath" s ∧ va_AO "SwimLanes$Plain" s) ∧
  ∃ w : Value, (w = .null ∨ w = .ref (G.2.2.2 20)) ∧ va_Z "jdk/internal/util/Preconditions" "SIOOBE_FORMATTER" "Ljava/util/function/BiFunction;" w (j_A G) s s.heap ∧ va_X (G.2.2.2 30) (G.2.2.2 40) (fun j => Int32.ofNat (G.2.2.2 (100 + j))) s s.heap ∧ G.2.2.2 30 < G.2.1
def j_C (G : j_G) (s : State) : Prop := va_K G.1 vwCl (j_tys G) s ∧ (∀ w ∈ lw_tbl, j_isN w = true → va_Nw w s) ∧ j_CS G s ∧ G.2.1 ≤ s.heap.size
theorem j_CS.to {G : j_G} {s U : State} (h : j_CS G s) (hW : s.WarmedH U.vm) (hq : ∀ q : Nat, q < s.heap.size → ¬ j_A G q → U.heap[q]? = s.heap[q]?) : j_CS G U := by
  obtain ⟨⟨a1, a2⟩, ⟨b1, b2⟩, ⟨c1, c2, c3, c4⟩, ⟨d1, d2⟩, w, hw, d3, d4, d5⟩ := h
  exact ⟨⟨(a1.moved hW.alike).kept hq, (a2.moved hW.alike).kept hq⟩, ⟨(b1.moved hW.alike).kept hq, (b2.moved hW.alike).kept hq⟩, ⟨c1.warm hW, c2.warm hW, c3.warm hW, c4.warm hW⟩, ⟨d1.moved hW.alike, d2.moved hW.alike⟩, w, hw, (d3.moved hW.alike).kept hq, (d4.moved hW.alike).kept (hq _ (by obtain ⟨scr, h1, -⟩ := d4; exact (Array.getElem?_eq_some_iff.mp h1).1) (by show ¬ G.2.1 ≤ _; omega)), d5⟩
theorem j_C.to {G : j_G} {s U : State} (h : j_C G s) (hW : s.WarmedH U.vm) (hq : ∀ q : Nat, q < s.heap.size → ¬ j_A G q → U.heap[q]? = s.heap[q]?) (hz : s.heap.size ≤ U.heap.size) : j_C G U :=
  ⟨h.1.moved hW.alike, fun w hw hn => j_nw_warm hn hW (h.2.1 w hw hn), h.2.2.1.to hW hq, Nat.le_trans h.2.2.2 hz⟩
abbrev j_Md : Type := MethodName × ByteArray × Nat × Option FieldType
def j_F (md : j_Md) (p : Program) (s : State) (m : MethodId) (args : Array Value) (meth : Method) (c : Code) : Prop :=
  p.tables.exec = Jvm.exec ∧ c.code = md.2.1 ∧ c.maxLocals = md.2.2.1 ∧ meth.sig.returnType = md.2.2.2 ∧ meth.locks = false ∧ s.vm.findClass md.1.cls = some m.cls ∧ (∀ w ∈ j_gt, w.before args s = true) ∧ meth.name = md.1.name
def j_Q (G : j_G) (mc : Nat) (Po : Option Value → j_M → Prop) : Array Value → State → Outcome → State → Prop := fun _ st oc t => (∃ (v : Option Value) (M' : j_M), oc = .returned (v.map (j_tv G)) ∧ Po v M' ∧ j_H G M' t.heap) ∧ va_F (j_A G) st t ∧ t.heap.size = st.heap.size + mc
def j_lm (G : j_G) (lv : List (Nat × Value)) : List (Nat × Value) := lv.map (fun q => (q.1, j_tv G q.2))
def JJ (l : Launch) (G : j_G) (md : j_Md) (R : Room) (cs mcs : Nat × Nat) (Po : Option Value → j_M → Prop) (pc : Nat) (lv : List (Nat × Value)) (st : List Value) (M : j_M) : Prop :=
  ∀ (p : Program) (e : Env) (s : State) (m : MethodId) (args : Array Value) (below : List Frame) (meth : Method) (c : Code) (H : Heap) (locs : List Loc) (ls : Array Slot), j_F md p s m args meth c → j_C G s → j_H G M H → va_S (j_A G) s.heap H locs → lv_has ls md.2.2.1 (j_lm G lv) → s.heap.size + cs.1 = G.2.1 + j_N M →
    W p l e R s m args below meth c H locs cs.1 cs.2 (MQ below (j_Q G mcs.1 Po) args s mcs.1 mcs.2 (j_A G)) (F0 m pc ls (st.map (j_tv G)))
def j_rm (d : Nat) (mcs : Nat × Nat) : Room := { frames := d, cells := mcs.1, slots := mcs.2, locals := 40 * d }
def j_Pc (G : j_G) (as : List Value) (M : j_M) : Array Value → State → Prop := va_Pc (as.map (j_tv G)) (fun U => j_C G U ∧ j_H G M U.heap)
def j_wm (md : j_Md) : List Cond := .code md.1 md.2.1 md.2.2.1 md.2.2.2 :: j_gt
def j_Sp (l : Launch) (G : j_G) (md : j_Md) (d : Nat) (mcs : Nat × Nat) (as : List Value) (M : j_M) (Po : Option Value → j_M → Prop) : Prop :=
  Met l md.1 (j_wm md) (j_rm d mcs) (j_Pc G as M) (j_Q G mcs.1 Po) mcs.1 mcs.2 (j_A G)
theorem j_cat (G : j_G) (v : Value) : (j_tv G v).category = v.category := by cases v <;> rfl
theorem j_args (G : j_G) (as : List Value) : ∀ i, lv_args i (as.map (j_tv G)) = j_lm G (lv_args i as) := by
  induction as with
  | nil => intro i; rfl
  | cons v t ih =>
    intro i
    show (i, j_tv G v) :: lv_args (if (j_tv G v).category = 2 then i + 2 else i + 1) (t.map (j_tv G)) = _
    rw [j_cat, ih]
    rfl
theorem j_slen (G : j_G) (as : List Value) : (lg_sl (as.map (j_tv G))).length = (lg_sl as).length := by
  induction as with
  | nil => rfl
  | cons v t ih =>
    have e : ∀ (w : Value) (u : List Value), lg_sl (w :: u) = (if w.category = 2 then [Slot.val w, Slot.second] else [Slot.val w]) ++ lg_sl u := fun w u => by simp [lg_sl]
    rw [List.map_cons, e, e, List.length_append, List.length_append, ih, j_cat]
    by_cases h : v.category = 2 <;> simp [h]
theorem j_blind {G : j_G} {as : List Value} {M : j_M} : FrameBlind (j_Pc G as M) := by
  intro a U g mk h
  obtain ⟨h1, h2, h3⟩ := h
  exact ⟨h1, h2.to (U := U.calling g mk a) (State.WarmedH.refl U) (fun _ _ _ => rfl) (Nat.le_refl _), h3⟩
/-- a contract out of a walk of the body -/
theorem j_Sp.of {l : Launch} {G : j_G} {md : j_Md} {d : Nat} {mcs : Nat × Nat} {as : List Value} {M : j_M} {Po : Option Value → j_M → Prop} (hy : plainName md.1.cls = true) (hl : (lg_sl as).length ≤ md.2.2.1) (k : JJ l G md (j_rm d mcs) (0, 0) mcs Po 0 (lv_args 0 as) [] M) : j_Sp l G md d mcs as M Po := by
  refine Met.ofW (cc := md.2.1) (maxL := md.2.2.1) (ret := md.2.2.2) hy rfl ?_
  intro p e s m args below meth c s₁ B hml hv
  obtain ⟨rfl, hC, hH⟩ := hv
  have hts := atoms_spec (ws := j_wm md) B.pre
  rw [lg_entry_eq]
  refine k p e s m _ below meth c s.heap [] _ ⟨B.exec, B.bytes, hml, B.returns, B.notSynchronized, findClass_of_methodNamed B.named, fun w hw => hts w (List.mem_cons_of_mem _ hw), (name_of_methodNamed B.named B.method).1⟩ hC hH va_S.rf ?_ hH.2.1
  have h := lv_entry (as.map (j_tv G)) (n := md.2.2.1) (by rw [j_slen]; exact hl)
  rw [j_args] at h
  exact h
theorem j_lvat {G : j_G} {ls : Array Slot} {nL : Nat} {lv : List (Nat × Value)} (h : lv_has ls nL (j_lm G lv)) {n i : Nat} {v : Value} (hl : lv[n]? = some (i, v)) : ls[i]? = some (.val (j_tv G v)) := by
  refine lv_at h n ?_
  rw [j_lm, List.getElem?_map, hl]; rfl
def j_k1 (i : Nat) : Nat × Value → Bool := fun q => !(q.1 == i) && !(q.1 + 1 == i && q.2.category == 2)
def j_k2 (i : Nat) : Nat × Value → Bool := fun q => !(q.1 == i) && (!(q.1 == i + 1) && !(q.1 + 1 == i && q.2.category == 2))
theorem j_fl1 (G : j_G) (lv : List (Nat × Value)) (i : Nat) : (j_lm G lv).filter (fun q => !(q.1 == i) && !(q.1 + 1 == i && q.2.category == 2)) = j_lm G (lv.filter (j_k1 i)) := by
  induction lv with
  | nil => rfl
  | cons a t ih =>
    have h : j_lm G (a :: t) = (a.1, j_tv G a.2) :: j_lm G t := rfl
    have hk : (!(a.1 == i) && !(a.1 + 1 == i && (j_tv G a.2).category == 2)) = j_k1 i a := by rw [j_cat]; rfl
    rcases Bool.eq_false_or_eq_true (j_k1 i a) with hb | hb
    · rw [h, List.filter_cons_of_pos (by exact hk.trans hb), List.filter_cons_of_pos hb, ih]; rfl
    · rw [h, List.filter_cons_of_neg (by rw [hk, hb]; decide), List.filter_cons_of_neg (by rw [hb]; decide), ih]
theorem j_fl2 (G : j_G) (lv : List (Nat × Value)) (i : Nat) : (j_lm G lv).filter (fun q => !(q.1 == i) && (!(q.1 == i + 1) && !(q.1 + 1 == i && q.2.category == 2))) = j_lm G (lv.filter (j_k2 i)) := by
  induction lv with
  | nil => rfl
  | cons a t ih =>
    have h : j_lm G (a :: t) = (a.1, j_tv G a.2) :: j_lm G t := rfl
    have hk : (!(a.1 == i) && (!(a.1 == i + 1) && !(a.1 + 1 == i && (j_tv G a.2).category == 2))) = j_k2 i a := by rw [j_cat]; rfl
    rcases Bool.eq_false_or_eq_true (j_k2 i a) with hb | hb
    · rw [h, List.filter_cons_of_pos (by exact hk.trans hb), List.filter_cons_of_pos hb, ih]; rfl
    · rw [h, List.filter_cons_of_neg (by rw [hk, hb]; decide), List.filter_cons_of_neg (by rw [hb]; decide), ih]
section
variable {l : Launch} {G : j_G} {md : j_Md} {R : Room} {cs mcs : Nat × Nat} {Po : Option Value → j_M → Prop} {pc pc' : Nat} {lv lv' : List (Nat × Value)} {st : List Value} {M : j_M}
/-- fewer locals -/
theorem J_sub (ks : List Nat) (hl : ks.filterMap (fun k => lv[k]?) = lv') (k : JJ l G md R cs mcs Po pc lv' st M) : JJ l G md R cs mcs Po pc lv st M := by
  intro p e s m args below meth c H locs ls F C h1 h2 h3 hz
  refine k p e s m args below meth c H locs ls F C h1 h2 ⟨h3.1, h3.2.1, fun q hq => ?_⟩ hz
  subst hl
  obtain ⟨q0, hq0, rfl⟩ := List.mem_map.mp hq
  obtain ⟨i, -, hi⟩ := List.mem_filterMap.mp hq0
  exact h3.2.2 _ (List.mem_map.mpr ⟨q0, List.mem_of_getElem? hi, rfl⟩)
theorem J_iadd {x y : Int32} (hd : decode md.2.1 pc = .ok (.iadd, 1)) (hp : pc + 1 = pc') (k : JJ l G md R cs mcs Po pc' lv (.int (x + y) :: st) M) : JJ l G md R cs mcs Po pc lv (.int y :: .int x :: st) M := by
  subst hp
  intro p e s m args below meth c H locs ls F C h1 h2 h3 hz
  exact lv_iadd F.1 F.2.1 hd  (k p e s m args below meth c H locs ls F C h1 h2 h3 hz)
theorem J_isub {x y : Int32} (hd : decode md.2.1 pc = .ok (.isub, 1)) (hp : pc + 1 = pc') (k : JJ l G md R cs mcs Po pc' lv (.int (x - y) :: st) M) : JJ l G md R cs mcs Po pc lv (.int y :: .int x :: st) M := by
  subst hp
  intro p e s m args below meth c H locs ls F C h1 h2 h3 hz
  exact lv_isub F.1 F.2.1 hd  (k p e s m args below meth c H locs ls F C h1 h2 h3 hz)
theorem J_imul {x y : Int32} (hd : decode md.2.1 pc = .ok (.imul, 1)) (hp : pc + 1 = pc') (k : JJ l G md R cs mcs Po pc' lv (.int (x * y) :: st) M) : JJ l G md R cs mcs Po pc lv (.int y :: .int x :: st) M := by
  subst hp
  intro p e s m args below meth c H locs ls F C h1 h2 h3 hz
  exact lv_imul F.1 F.2.1 hd  (k p e s m args below meth c H locs ls F C h1 h2 h3 hz)
theorem J_iand {x y : Int32} (hd : decode md.2.1 pc = .ok (.iand, 1)) (hp : pc + 1 = pc') (k : JJ l G md R cs mcs Po pc' lv (.int (x &&& y) :: st) M) : JJ l G md R cs mcs Po pc lv (.int y :: .int x :: st) M := by
  subst hp
  intro p e s m args below meth c H locs ls F C h1 h2 h3 hz
  exact lv_iand F.1 F.2.1 hd  (k p e s m args below meth c H locs ls F C h1 h2 h3 hz)
theorem J_ior {x y : Int32} (hd : decode md.2.1 pc = .ok (.ior, 1)) (hp : pc + 1 = pc') (k : JJ l G md R cs mcs Po pc' lv (.int (x ||| y) :: st) M) : JJ l G md R cs mcs Po pc lv (.int y :: .int x :: st) M := by
  subst hp
  intro p e s m args below meth c H locs ls F C h1 h2 h3 hz
  exact lv_ior F.1 F.2.1 hd  (k p e s m args below meth c H locs ls F C h1 h2 h3 hz)
theorem J_ixor {x y : Int32} (hd : decode md.2.1 pc = .ok (.ixor, 1)) (hp : pc + 1 = pc') (k : JJ l G md R cs mcs Po pc' lv (.int (x ^^^ y) :: st) M) : JJ l G md R cs mcs Po pc lv (.int y :: .int x :: st) M := by
  subst hp
  intro p e s m args below meth c H locs ls F C h1 h2 h3 hz
  exact lv_ixor F.1 F.2.1 hd  (k p e s m args below meth c H locs ls F C h1 h2 h3 hz)
theorem J_ishl {x y : Int32} (hd : decode md.2.1 pc = .ok (.ishl, 1)) (hp : pc + 1 = pc') (k : JJ l G md R cs mcs Po pc' lv (.int (x <<< (y &&& 31)) :: st) M) : JJ l G md R cs mcs Po pc lv (.int y :: .int x :: st) M := by
  subst hp
  intro p e s m args below meth c H locs ls F C h1 h2 h3 hz
  exact lv_ishl F.1 F.2.1 hd  (k p e s m args below meth c H locs ls F C h1 h2 h3 hz)
theorem J_ishr {x y : Int32} (hd : decode md.2.1 pc = .ok (.ishr, 1)) (hp : pc + 1 = pc') (k : JJ l G md R cs mcs Po pc' lv (.int (x >>> (y &&& 31)) :: st) M) : JJ l G md R cs mcs Po pc lv (.int y :: .int x :: st) M := by
  subst hp
  intro p e s m args below meth c H locs ls F C h1 h2 h3 hz
  exact lv_ishr F.1 F.2.1 hd  (k p e s m args below meth c H locs ls F C h1 h2 h3 hz)
theorem J_ladd {x y : Int64} (hd : decode md.2.1 pc = .ok (.ladd, 1)) (hp : pc + 1 = pc') (k : JJ l G md R cs mcs Po pc' lv (.long (x + y) :: st) M) : JJ l G md R cs mcs Po pc lv (.long y :: .long x :: st) M := by
  subst hp
  intro p e s m args below meth c H locs ls F C h1 h2 h3 hz
  exact lv_ladd F.1 F.2.1 hd  (k p e s m args below meth c H locs ls F C h1 h2 h3 hz)
theorem J_lmul {x y : Int64} (hd : decode md.2.1 pc = .ok (.lmul, 1)) (hp : pc + 1 = pc') (k : JJ l G md R cs mcs Po pc' lv (.long (x * y) :: st) M) : JJ l G md R cs mcs Po pc lv (.long y :: .long x :: st) M := by
  subst hp
  intro p e s m args below meth c H locs ls F C h1 h2 h3 hz
  exact lv_lmul F.1 F.2.1 hd  (k p e s m args below meth c H locs ls F C h1 h2 h3 hz)
theorem J_idiv {x y : Int32} (hd : decode md.2.1 pc = .ok (.idiv, 1)) (hp : pc + 1 = pc') (hne : ¬ y = 0) (k : JJ l G md R cs mcs Po pc' lv (.int (x / y) :: st) M) : JJ l G md R cs mcs Po pc lv (.int y :: .int x :: st) M := by
  subst hp
  intro p e s m args below meth c H locs ls F C h1 h2 h3 hz
  exact lv_idiv F.1 F.2.1 hd hne (k p e s m args below meth c H locs ls F C h1 h2 h3 hz)
theorem J_irem {x y : Int32} (hd : decode md.2.1 pc = .ok (.irem, 1)) (hp : pc + 1 = pc') (hne : ¬ y = 0) (k : JJ l G md R cs mcs Po pc' lv (.int (x - x / y * y) :: st) M) : JJ l G md R cs mcs Po pc lv (.int y :: .int x :: st) M := by
  subst hp
  intro p e s m args below meth c H locs ls F C h1 h2 h3 hz
  exact lv_irem F.1 F.2.1 hd hne (k p e s m args below meth c H locs ls F C h1 h2 h3 hz)
theorem J_ldiv {x y : Int64} (hd : decode md.2.1 pc = .ok (.ldiv, 1)) (hp : pc + 1 = pc') (hne : ¬ y = 0) (k : JJ l G md R cs mcs Po pc' lv (.long (x / y) :: st) M) : JJ l G md R cs mcs Po pc lv (.long y :: .long x :: st) M := by
  subst hp
  intro p e s m args below meth c H locs ls F C h1 h2 h3 hz
  exact lv_ldiv F.1 F.2.1 hd hne (k p e s m args below meth c H locs ls F C h1 h2 h3 hz)
theorem J_lrem {x y : Int64} (hd : decode md.2.1 pc = .ok (.lrem, 1)) (hp : pc + 1 = pc') (hne : ¬ y = 0) (k : JJ l G md R cs mcs Po pc' lv (.long (x - x / y * y) :: st) M) : JJ l G md R cs mcs Po pc lv (.long y :: .long x :: st) M := by
  subst hp
  intro p e s m args below meth c H locs ls F C h1 h2 h3 hz
  exact lv_lrem F.1 F.2.1 hd hne (k p e s m args below meth c H locs ls F C h1 h2 h3 hz)
theorem J_i2l {x : Int32} (hd : decode md.2.1 pc = .ok (.i2l, 1)) (hp : pc + 1 = pc') (k : JJ l G md R cs mcs Po pc' lv (.long x.toInt64 :: st) M) : JJ l G md R cs mcs Po pc lv (.int x :: st) M := by
  subst hp
  intro p e s m args below meth c H locs ls F C h1 h2 h3 hz
  exact lv_i2l F.1 F.2.1 hd rfl (k p e s m args below meth c H locs ls F C h1 h2 h3 hz)
theorem J_l2i {x : Int64} (hd : decode md.2.1 pc = .ok (.l2i, 1)) (hp : pc + 1 = pc') (k : JJ l G md R cs mcs Po pc' lv (.int x.toInt32 :: st) M) : JJ l G md R cs mcs Po pc lv (.long x :: st) M := by
  subst hp
  intro p e s m args below meth c H locs ls F C h1 h2 h3 hz
  exact lv_l2i F.1 F.2.1 hd rfl (k p e s m args below meth c H locs ls F C h1 h2 h3 hz)
theorem J_i2c {x : Int32} (hd : decode md.2.1 pc = .ok (.i2c, 1)) (hp : pc + 1 = pc') (k : JJ l G md R cs mcs Po pc' lv (.int (x.toUInt32 % 65536).toInt32 :: st) M) : JJ l G md R cs mcs Po pc lv (.int x :: st) M := by
  subst hp
  intro p e s m args below meth c H locs ls F C h1 h2 h3 hz
  exact lv_i2c F.1 F.2.1 hd rfl (k p e s m args below meth c H locs ls F C h1 h2 h3 hz)
theorem J_iushr {x y : Int32} (hd : decode md.2.1 pc = .ok (.iushr, 1)) (hp : pc + 1 = pc') (k : JJ l G md R cs mcs Po pc' lv (.int (x.toUInt32 >>> (y.toUInt32 &&& Int32.toUInt32 31)).toInt32 :: st) M) : JJ l G md R cs mcs Po pc lv (.int y :: .int x :: st) M := by
  subst hp
  intro p e s m args below meth c H locs ls F C h1 h2 h3 hz
  exact lv_iushr F.1 F.2.1 hd rfl (k p e s m args below meth c H locs ls F C h1 h2 h3 hz)
theorem J_lcmp {x y : Int64} (hd : decode md.2.1 pc = .ok (.lcmp, 1)) (hp : pc + 1 = pc') (k : JJ l G md R cs mcs Po pc' lv (.int (lg_cmp x y) :: st) M) : JJ l G md R cs mcs Po pc lv (.long y :: .long x :: st) M := by
  subst hp
  intro p e s m args below meth c H locs ls F C h1 h2 h3 hz
  exact W.lcmp F.1 F.2.1 hd  (k p e s m args below meth c H locs ls F C h1 h2 h3 hz)
theorem J_iconst {n : Int} {v : Int32} (hd : decode md.2.1 pc = .ok (.iconst n, 1)) (hp : pc + 1 = pc') (hv : Int32.ofInt n = v) (k : JJ l G md R cs mcs Po pc' lv (.int v :: st) M) : JJ l G md R cs mcs Po pc lv (st) M := by
  subst hp
  intro p e s m args below meth c H locs ls F C h1 h2 h3 hz
  exact lv_iconst F.1 F.2.1 hd hv (k p e s m args below meth c H locs ls F C h1 h2 h3 hz)
theorem J_bipush {n : Int} {v : Int32} (hd : decode md.2.1 pc = .ok (.bipush n, 2)) (hp : pc + 2 = pc') (hv : (Int8.ofInt n).toInt32 = v) (k : JJ l G md R cs mcs Po pc' lv (.int v :: st) M) : JJ l G md R cs mcs Po pc lv (st) M := by
  subst hp
  intro p e s m args below meth c H locs ls F C h1 h2 h3 hz
  exact lv_bipush F.1 F.2.1 hd hv (k p e s m args below meth c H locs ls F C h1 h2 h3 hz)
theorem J_sipush {n : Int} {v : Int32} (hd : decode md.2.1 pc = .ok (.sipush n, 3)) (hp : pc + 3 = pc') (hv : (Int16.ofInt n).toInt32 = v) (k : JJ l G md R cs mcs Po pc' lv (.int v :: st) M) : JJ l G md R cs mcs Po pc lv (st) M := by
  subst hp
  intro p e s m args below meth c H locs ls F C h1 h2 h3 hz
  exact lv_sipush F.1 F.2.1 hd hv (k p e s m args below meth c H locs ls F C h1 h2 h3 hz)
theorem J_lconst {n : Fin 2} {v : Int64} (hd : decode md.2.1 pc = .ok (.lconst n, 1)) (hp : pc + 1 = pc') (hv : Int64.ofNat (n : Nat) = v) (k : JJ l G md R cs mcs Po pc' lv (.long v :: st) M) : JJ l G md R cs mcs Po pc lv (st) M := by
  subst hp
  intro p e s m args below meth c H locs ls F C h1 h2 h3 hz
  exact lv_lconst F.1 F.2.1 hd hv (k p e s m args below meth c H locs ls F C h1 h2 h3 hz)
theorem J_dup {v : Value} (hd : decode md.2.1 pc = .ok (.dup, 1)) (hp : pc + 1 = pc') (hc : v.category = 1) (k : JJ l G md R cs mcs Po pc' lv (v :: v :: st) M) : JJ l G md R cs mcs Po pc lv (v :: st) M := by
  subst hp
  intro p e s m args below meth c H locs ls F C h1 h2 h3 hz
  exact lv_dup F.1 F.2.1 hd (by rw [j_cat]; exact hc) (k p e s m args below meth c H locs ls F C h1 h2 h3 hz)
theorem J_pop {v : Value} (hd : decode md.2.1 pc = .ok (.pop, 1)) (hp : pc + 1 = pc') (hc : v.category = 1) (k : JJ l G md R cs mcs Po pc' lv (st) M) : JJ l G md R cs mcs Po pc lv (v :: st) M := by
  subst hp
  intro p e s m args below meth c H locs ls F C h1 h2 h3 hz
  exact lv_pop F.1 F.2.1 hd (by rw [j_cat]; exact hc) (k p e s m args below meth c H locs ls F C h1 h2 h3 hz)
theorem J_dup2 {v w : Value} (hd : decode md.2.1 pc = .ok (.dup2, 1)) (hp : pc + 1 = pc') (hc : v.category = 1) (hc2 : w.category = 1) (k : JJ l G md R cs mcs Po pc' lv (v :: w :: v :: w :: st) M) : JJ l G md R cs mcs Po pc lv (v :: w :: st) M := by
  subst hp
  intro p e s m args below meth c H locs ls F C h1 h2 h3 hz
  exact lv_dup2_11 F.1 F.2.1 hd (by rw [j_cat]; exact hc) (by rw [j_cat]; exact hc2) (k p e s m args below meth c H locs ls F C h1 h2 h3 hz)
theorem J_dup2L {v : Value} (hd : decode md.2.1 pc = .ok (.dup2, 1)) (hp : pc + 1 = pc') (hc : v.category = 2) (k : JJ l G md R cs mcs Po pc' lv (v :: v :: st) M) : JJ l G md R cs mcs Po pc lv (v :: st) M := by
  subst hp
  intro p e s m args below meth c H locs ls F C h1 h2 h3 hz
  exact lv_dup2_2 F.1 F.2.1 hd (by rw [j_cat]; exact hc) (k p e s m args below meth c H locs ls F C h1 h2 h3 hz)
theorem J_ldc {i : Nat} {v : Int32} (hd : decode md.2.1 pc = .ok (.ldc i, 2)) (hp : pc + 2 = pc') (hw : Cond.constant md.1.cls i v ∈ j_gt) (k : JJ l G md R cs mcs Po pc' lv (.int v :: st) M) : JJ l G md R cs mcs Po pc lv (st) M := by
  subst hp
  intro p e s m args below meth c H locs ls F C h1 h2 h3 hz
  exact lv_ldc F.1 F.2.1 F.2.2.2.2.2.1 (F.2.2.2.2.2.2.1 _ hw) hd (k p e s m args below meth c H locs ls F C h1 h2 h3 hz)
theorem J_ldcw {i : Nat} {v : Int32} (hd : decode md.2.1 pc = .ok (.ldc_w i, 3)) (hp : pc + 3 = pc') (hw : Cond.constant md.1.cls i v ∈ j_gt) (k : JJ l G md R cs mcs Po pc' lv (.int v :: st) M) : JJ l G md R cs mcs Po pc lv (st) M := by
  subst hp
  intro p e s m args below meth c H locs ls F C h1 h2 h3 hz
  exact lv_ldcw F.1 F.2.1 F.2.2.2.2.2.1 (F.2.2.2.2.2.2.1 _ hw) hd (k p e s m args below meth c H locs ls F C h1 h2 h3 hz)
theorem J_ldc2 {i : Nat} {v : Int64} (hd : decode md.2.1 pc = .ok (.ldc2_w i, 3)) (hp : pc + 3 = pc') (hw : Cond.constantLong md.1.cls i v ∈ j_gt) (k : JJ l G md R cs mcs Po pc' lv (.long v :: st) M) : JJ l G md R cs mcs Po pc lv (st) M := by
  subst hp
  intro p e s m args below meth c H locs ls F C h1 h2 h3 hz
  exact lv_ldc2 F.1 F.2.1 F.2.2.2.2.2.1 (F.2.2.2.2.2.2.1 _ hw) hd (k p e s m args below meth c H locs ls F C h1 h2 h3 hz)
theorem J_iload_n {k : Fin 4} {i n : Nat} {x : Int32} (hd : decode md.2.1 pc = .ok (.iload_n k, 1)) (hp : pc + 1 = pc') (hi : (k : Nat) = i) (hl : lv[n]? = some (i, .int x)) (kk : JJ l G md R cs mcs Po pc' lv (.int x :: st) M) : JJ l G md R cs mcs Po pc lv st M := by
  subst hp
  intro p e s m args below meth c H locs ls F C h1 h2 h3 hz
  exact lv_iload_n F.1 F.2.1 hd hi (j_lvat h3 hl) (kk p e s m args below meth c H locs ls F C h1 h2 h3 hz)
theorem J_iload {i n : Nat} {x : Int32} (hd : decode md.2.1 pc = .ok (.iload i, 2)) (hp : pc + 2 = pc') (hl : lv[n]? = some (i, .int x)) (kk : JJ l G md R cs mcs Po pc' lv (.int x :: st) M) : JJ l G md R cs mcs Po pc lv st M := by
  subst hp
  intro p e s m args below meth c H locs ls F C h1 h2 h3 hz
  exact lv_iload F.1 F.2.1 hd (j_lvat h3 hl) (kk p e s m args below meth c H locs ls F C h1 h2 h3 hz)
theorem J_lload_n {k : Fin 4} {i n : Nat} {x : Int64} (hd : decode md.2.1 pc = .ok (.lload_n k, 1)) (hp : pc + 1 = pc') (hi : (k : Nat) = i) (hl : lv[n]? = some (i, .long x)) (kk : JJ l G md R cs mcs Po pc' lv (.long x :: st) M) : JJ l G md R cs mcs Po pc lv st M := by
  subst hp
  intro p e s m args below meth c H locs ls F C h1 h2 h3 hz
  exact lv_lload_n F.1 F.2.1 hd hi (j_lvat h3 hl) (kk p e s m args below meth c H locs ls F C h1 h2 h3 hz)
theorem J_lload {i n : Nat} {x : Int64} (hd : decode md.2.1 pc = .ok (.lload i, 2)) (hp : pc + 2 = pc') (hl : lv[n]? = some (i, .long x)) (kk : JJ l G md R cs mcs Po pc' lv (.long x :: st) M) : JJ l G md R cs mcs Po pc lv st M := by
  subst hp
  intro p e s m args below meth c H locs ls F C h1 h2 h3 hz
  exact lv_lload F.1 F.2.1 hd (j_lvat h3 hl) (kk p e s m args below meth c H locs ls F C h1 h2 h3 hz)
theorem J_aload_n {k : Fin 4} {i n : Nat} {x : Nat} (hd : decode md.2.1 pc = .ok (.aload_n k, 1)) (hp : pc + 1 = pc') (hi : (k : Nat) = i) (hl : lv[n]? = some (i, .ref x)) (kk : JJ l G md R cs mcs Po pc' lv (.ref x :: st) M) : JJ l G md R cs mcs Po pc lv st M := by
  subst hp
  intro p e s m args below meth c H locs ls F C h1 h2 h3 hz
  exact lv_aload_n F.1 F.2.1 hd hi (j_lvat h3 hl) (kk p e s m args below meth c H locs ls F C h1 h2 h3 hz)
theorem J_aload {i n : Nat} {x : Nat} (hd : decode md.2.1 pc = .ok (.aload i, 2)) (hp : pc + 2 = pc') (hl : lv[n]? = some (i, .ref x)) (kk : JJ l G md R cs mcs Po pc' lv (.ref x :: st) M) : JJ l G md R cs mcs Po pc lv st M := by
  subst hp
  intro p e s m args below meth c H locs ls F C h1 h2 h3 hz
  exact lv_aload F.1 F.2.1 hd (j_lvat h3 hl) (kk p e s m args below meth c H locs ls F C h1 h2 h3 hz)
theorem J_istore_n {k : Fin 4} {i : Nat} {x : Int32} (hd : decode md.2.1 pc = .ok (.istore_n k, 1)) (hp : pc + 1 = pc') (hi : (k : Nat) = i) (hn : i < md.2.2.1) (hl : (i, Value.int x) :: lv.filter (j_k1 i) = lv') (kk : JJ l G md R cs mcs Po pc' lv' st M) : JJ l G md R cs mcs Po pc lv (.int x :: st) M := by
  subst hp
  intro p e s m args below meth c H locs ls F C h1 h2 h3 hz
  refine lv_istore_n (lv' := j_lm G lv') F.1 F.2.1 hd hi h3 hn ?_ (fun ls' h' => kk p e s m args below meth c H locs ls' F C h1 h2 h' hz)
  rw [j_fl1, ← hl]; rfl
theorem J_istore {i : Nat} {x : Int32} (hd : decode md.2.1 pc = .ok (.istore i, 2)) (hp : pc + 2 = pc') (hn : i < md.2.2.1) (hl : (i, Value.int x) :: lv.filter (j_k1 i) = lv') (kk : JJ l G md R cs mcs Po pc' lv' st M) : JJ l G md R cs mcs Po pc lv (.int x :: st) M := by
  subst hp
  intro p e s m args below meth c H locs ls F C h1 h2 h3 hz
  refine lv_istore (lv' := j_lm G lv') F.1 F.2.1 hd h3 hn ?_ (fun ls' h' => kk p e s m args below meth c H locs ls' F C h1 h2 h' hz)
  rw [j_fl1, ← hl]; rfl
theorem J_lstore_n {k : Fin 4} {i : Nat} {x : Int64} (hd : decode md.2.1 pc = .ok (.lstore_n k, 1)) (hp : pc + 1 = pc') (hi : (k : Nat) = i) (hn : i + 1 < md.2.2.1) (hl : (i, Value.long x) :: lv.filter (j_k2 i) = lv') (kk : JJ l G md R cs mcs Po pc' lv' st M) : JJ l G md R cs mcs Po pc lv (.long x :: st) M := by
  subst hp
  intro p e s m args below meth c H locs ls F C h1 h2 h3 hz
  refine lv_lstore_n (lv' := j_lm G lv') F.1 F.2.1 hd hi h3 hn ?_ (fun ls' h' => kk p e s m args below meth c H locs ls' F C h1 h2 h' hz)
  rw [j_fl2, ← hl]; rfl
theorem J_lstore {i : Nat} {x : Int64} (hd : decode md.2.1 pc = .ok (.lstore i, 2)) (hp : pc + 2 = pc') (hn : i + 1 < md.2.2.1) (hl : (i, Value.long x) :: lv.filter (j_k2 i) = lv') (kk : JJ l G md R cs mcs Po pc' lv' st M) : JJ l G md R cs mcs Po pc lv (.long x :: st) M := by
  subst hp
  intro p e s m args below meth c H locs ls F C h1 h2 h3 hz
  refine lv_lstore (lv' := j_lm G lv') F.1 F.2.1 hd h3 hn ?_ (fun ls' h' => kk p e s m args below meth c H locs ls' F C h1 h2 h' hz)
  rw [j_fl2, ← hl]; rfl
theorem J_astore_n {k : Fin 4} {i : Nat} {x : Nat} (hd : decode md.2.1 pc = .ok (.astore_n k, 1)) (hp : pc + 1 = pc') (hi : (k : Nat) = i) (hn : i < md.2.2.1) (hl : (i, Value.ref x) :: lv.filter (j_k1 i) = lv') (kk : JJ l G md R cs mcs Po pc' lv' st M) : JJ l G md R cs mcs Po pc lv (.ref x :: st) M := by
  subst hp
  intro p e s m args below meth c H locs ls F C h1 h2 h3 hz
  refine lv_astore_n (lv' := j_lm G lv') F.1 F.2.1 hd hi h3 hn ?_ (fun ls' h' => kk p e s m args below meth c H locs ls' F C h1 h2 h' hz)
  rw [j_fl1, ← hl]; rfl
theorem J_astore {i : Nat} {x : Nat} (hd : decode md.2.1 pc = .ok (.astore i, 2)) (hp : pc + 2 = pc') (hn : i < md.2.2.1) (hl : (i, Value.ref x) :: lv.filter (j_k1 i) = lv') (kk : JJ l G md R cs mcs Po pc' lv' st M) : JJ l G md R cs mcs Po pc lv (.ref x :: st) M := by
  subst hp
  intro p e s m args below meth c H locs ls F C h1 h2 h3 hz
  refine lv_astore (lv' := j_lm G lv') F.1 F.2.1 hd h3 hn ?_ (fun ls' h' => kk p e s m args below meth c H locs ls' F C h1 h2 h' hz)
  rw [j_fl1, ← hl]; rfl
theorem J_iinc {i n : Nat} {d : Int} {x v : Int32} (hd : decode md.2.1 pc = .ok (.iinc i d, 3)) (hp : pc + 3 = pc') (hk : lv[n]? = some (i, .int x)) (hv : x + Int32.ofInt d = v) (hn : i < md.2.2.1) (hl : (i, Value.int v) :: lv.filter (j_k1 i) = lv') (kk : JJ l G md R cs mcs Po pc' lv' st M) : JJ l G md R cs mcs Po pc lv st M := by
  subst hp
  intro p e s m args below meth c H locs ls F C h1 h2 h3 hz
  refine lv_iinc (lv' := j_lm G lv') F.1 F.2.1 hd h3 (k := n) (x := x) (v := v) ?_ hv hn ?_ (fun ls' h' => kk p e s m args below meth c H locs ls' F C h1 h2 h' hz)
  · rw [j_lm, List.getElem?_map, hk]; rfl
  · rw [j_fl1, ← hl]; rfl
theorem J_goto {off : Int} (hd : decode md.2.1 pc = .ok (.goto off, 3)) (ht : (pc : Int) + off = (pc' : Int)) (k : JJ l G md R cs mcs Po pc' lv st M) : JJ l G md R cs mcs Po pc lv st M := by
  intro p e s m args below meth c H locs ls F C h1 h2 h3 hz
  exact lv_goto F.1 F.2.1 hd ht (k p e s m args below meth c H locs ls F C h1 h2 h3 hz)
theorem J_icmp_eq {x y : Int32} {off : Int} {tgt : Nat} (hd : decode md.2.1 pc = .ok (.if_icmp .eq off, 3)) (hp : pc + 3 = pc') (ht : (pc : Int) + off = (tgt : Int)) (kt : x = y → JJ l G md R cs mcs Po tgt lv st M) (kf : ¬ (x = y) → JJ l G md R cs mcs Po pc' lv st M) : JJ l G md R cs mcs Po pc lv (.int y :: .int x :: st) M := by
  subst hp
  intro p e s m args below meth c H locs ls F C h1 h2 h3 hz
  exact lv_icmp_eq F.1 F.2.1 hd ht (fun h => kt h p e s m args below meth c H locs ls F C h1 h2 h3 hz) (fun h => kf h p e s m args below meth c H locs ls F C h1 h2 h3 hz)
theorem J_if_eq {x : Int32} {off : Int} {tgt : Nat} (hd : decode md.2.1 pc = .ok (.ifCond .eq off, 3)) (hp : pc + 3 = pc') (ht : (pc : Int) + off = (tgt : Int)) (kt : x = 0 → JJ l G md R cs mcs Po tgt lv st M) (kf : ¬ (x = 0) → JJ l G md R cs mcs Po pc' lv st M) : JJ l G md R cs mcs Po pc lv (.int x :: st) M := by
  subst hp
  intro p e s m args below meth c H locs ls F C h1 h2 h3 hz
  exact lv_if_eq F.1 F.2.1 hd ht (fun h => kt h p e s m args below meth c H locs ls F C h1 h2 h3 hz) (fun h => kf h p e s m args below meth c H locs ls F C h1 h2 h3 hz)
theorem J_icmp_ne {x y : Int32} {off : Int} {tgt : Nat} (hd : decode md.2.1 pc = .ok (.if_icmp .ne off, 3)) (hp : pc + 3 = pc') (ht : (pc : Int) + off = (tgt : Int)) (kt : ¬ x = y → JJ l G md R cs mcs Po tgt lv st M) (kf : x = y → JJ l G md R cs mcs Po pc' lv st M) : JJ l G md R cs mcs Po pc lv (.int y :: .int x :: st) M := by
  subst hp
  intro p e s m args below meth c H locs ls F C h1 h2 h3 hz
  exact lv_icmp_ne F.1 F.2.1 hd ht (fun h => kt h p e s m args below meth c H locs ls F C h1 h2 h3 hz) (fun h => kf h p e s m args below meth c H locs ls F C h1 h2 h3 hz)
theorem J_if_ne {x : Int32} {off : Int} {tgt : Nat} (hd : decode md.2.1 pc = .ok (.ifCond .ne off, 3)) (hp : pc + 3 = pc') (ht : (pc : Int) + off = (tgt : Int)) (kt : ¬ x = 0 → JJ l G md R cs mcs Po tgt lv st M) (kf : x = 0 → JJ l G md R cs mcs Po pc' lv st M) : JJ l G md R cs mcs Po pc lv (.int x :: st) M := by
  subst hp
  intro p e s m args below meth c H locs ls F C h1 h2 h3 hz
  exact lv_if_ne F.1 F.2.1 hd ht (fun h => kt h p e s m args below meth c H locs ls F C h1 h2 h3 hz) (fun h => kf h p e s m args below meth c H locs ls F C h1 h2 h3 hz)
theorem J_icmp_lt {x y : Int32} {off : Int} {tgt : Nat} (hd : decode md.2.1 pc = .ok (.if_icmp .lt off, 3)) (hp : pc + 3 = pc') (ht : (pc : Int) + off = (tgt : Int)) (kt : x < y → JJ l G md R cs mcs Po tgt lv st M) (kf : ¬ (x < y) → JJ l G md R cs mcs Po pc' lv st M) : JJ l G md R cs mcs Po pc lv (.int y :: .int x :: st) M := by
  subst hp
  intro p e s m args below meth c H locs ls F C h1 h2 h3 hz
  exact lv_icmp_lt F.1 F.2.1 hd ht (fun h => kt h p e s m args below meth c H locs ls F C h1 h2 h3 hz) (fun h => kf h p e s m args below meth c H locs ls F C h1 h2 h3 hz)
theorem J_if_lt {x : Int32} {off : Int} {tgt : Nat} (hd : decode md.2.1 pc = .ok (.ifCond .lt off, 3)) (hp : pc + 3 = pc') (ht : (pc : Int) + off = (tgt : Int)) (kt : x < 0 → JJ l G md R cs mcs Po tgt lv st M) (kf : ¬ (x < 0) → JJ l G md R cs mcs Po pc' lv st M) : JJ l G md R cs mcs Po pc lv (.int x :: st) M := by
  subst hp
  intro p e s m args below meth c H locs ls F C h1 h2 h3 hz
  exact lv_if_lt F.1 F.2.1 hd ht (fun h => kt h p e s m args below meth c H locs ls F C h1 h2 h3 hz) (fun h => kf h p e s m args below meth c H locs ls F C h1 h2 h3 hz)
theorem J_icmp_ge {x y : Int32} {off : Int} {tgt : Nat} (hd : decode md.2.1 pc = .ok (.if_icmp .ge off, 3)) (hp : pc + 3 = pc') (ht : (pc : Int) + off = (tgt : Int)) (kt : y ≤ x → JJ l G md R cs mcs Po tgt lv st M) (kf : ¬ (y ≤ x) → JJ l G md R cs mcs Po pc' lv st M) : JJ l G md R cs mcs Po pc lv (.int y :: .int x :: st) M := by
  subst hp
  intro p e s m args below meth c H locs ls F C h1 h2 h3 hz
  exact lv_icmp_ge F.1 F.2.1 hd ht (fun h => kt h p e s m args below meth c H locs ls F C h1 h2 h3 hz) (fun h => kf h p e s m args below meth c H locs ls F C h1 h2 h3 hz)
theorem J_if_ge {x : Int32} {off : Int} {tgt : Nat} (hd : decode md.2.1 pc = .ok (.ifCond .ge off, 3)) (hp : pc + 3 = pc') (ht : (pc : Int) + off = (tgt : Int)) (kt : 0 ≤ x → JJ l G md R cs mcs Po tgt lv st M) (kf : ¬ (0 ≤ x) → JJ l G md R cs mcs Po pc' lv st M) : JJ l G md R cs mcs Po pc lv (.int x :: st) M := by
  subst hp
  intro p e s m args below meth c H locs ls F C h1 h2 h3 hz
  exact lv_if_ge F.1 F.2.1 hd ht (fun h => kt h p e s m args below meth c H locs ls F C h1 h2 h3 hz) (fun h => kf h p e s m args below meth c H locs ls F C h1 h2 h3 hz)
theorem J_icmp_gt {x y : Int32} {off : Int} {tgt : Nat} (hd : decode md.2.1 pc = .ok (.if_icmp .gt off, 3)) (hp : pc + 3 = pc') (ht : (pc : Int) + off = (tgt : Int)) (kt : y < x → JJ l G md R cs mcs Po tgt lv st M) (kf : ¬ (y < x) → JJ l G md R cs mcs Po pc' lv st M) : JJ l G md R cs mcs Po pc lv (.int y :: .int x :: st) M := by
  subst hp
  intro p e s m args below meth c H locs ls F C h1 h2 h3 hz
  exact lv_icmp_gt F.1 F.2.1 hd ht (fun h => kt h p e s m args below meth c H locs ls F C h1 h2 h3 hz) (fun h => kf h p e s m args below meth c H locs ls F C h1 h2 h3 hz)
theorem J_if_gt {x : Int32} {off : Int} {tgt : Nat} (hd : decode md.2.1 pc = .ok (.ifCond .gt off, 3)) (hp : pc + 3 = pc') (ht : (pc : Int) + off = (tgt : Int)) (kt : 0 < x → JJ l G md R cs mcs Po tgt lv st M) (kf : ¬ (0 < x) → JJ l G md R cs mcs Po pc' lv st M) : JJ l G md R cs mcs Po pc lv (.int x :: st) M := by
  subst hp
  intro p e s m args below meth c H locs ls F C h1 h2 h3 hz
  exact lv_if_gt F.1 F.2.1 hd ht (fun h => kt h p e s m args below meth c H locs ls F C h1 h2 h3 hz) (fun h => kf h p e s m args below meth c H locs ls F C h1 h2 h3 hz)
theorem J_icmp_le {x y : Int32} {off : Int} {tgt : Nat} (hd : decode md.2.1 pc = .ok (.if_icmp .le off, 3)) (hp : pc + 3 = pc') (ht : (pc : Int) + off = (tgt : Int)) (kt : x ≤ y → JJ l G md R cs mcs Po tgt lv st M) (kf : ¬ (x ≤ y) → JJ l G md R cs mcs Po pc' lv st M) : JJ l G md R cs mcs Po pc lv (.int y :: .int x :: st) M := by
  subst hp
  intro p e s m args below meth c H locs ls F C h1 h2 h3 hz
  exact lv_icmp_le F.1 F.2.1 hd ht (fun h => kt h p e s m args below meth c H locs ls F C h1 h2 h3 hz) (fun h => kf h p e s m args below meth c H locs ls F C h1 h2 h3 hz)
theorem J_if_le {x : Int32} {off : Int} {tgt : Nat} (hd : decode md.2.1 pc = .ok (.ifCond .le off, 3)) (hp : pc + 3 = pc') (ht : (pc : Int) + off = (tgt : Int)) (kt : x ≤ 0 → JJ l G md R cs mcs Po tgt lv st M) (kf : ¬ (x ≤ 0) → JJ l G md R cs mcs Po pc' lv st M) : JJ l G md R cs mcs Po pc lv (.int x :: st) M := by
  subst hp
  intro p e s m args below meth c H locs ls F C h1 h2 h3 hz
  exact lv_if_le F.1 F.2.1 hd ht (fun h => kt h p e s m args below meth c H locs ls F C h1 h2 h3 hz) (fun h => kf h p e s m args below meth c H locs ls F C h1 h2 h3 hz)
theorem J_iret {v : Int32} (hr : md.2.2.2 = some .int) (hd : decode md.2.1 pc = .ok (.ireturn, 1)) (hc : cs.1 = mcs.1 ∧ cs.2 ≤ mcs.2) (hq : Po (some (.int v)) M) : JJ l G md R cs mcs Po pc lv [.int v] M := by
  intro p e s m args below meth c H locs ls F C h1 h2 h3 hz
  refine W.widen (k := mcs.1) (n := mcs.2) (Nat.le_of_eq hc.1) hc.2 ?_
  exact W.iret F.1 F.2.1 (F.2.2.2.1.trans hr) (fun t ht hW => ⟨⟨some (.int v), M, rfl, hq, by rw [ht]; exact h1⟩, h2.F ht, by rw [ht, h1.2.1, ← hz, hc.1]⟩) h2.2.2 hd F.2.2.2.2.1
theorem J_lret {v : Int64} (hr : md.2.2.2 = some .long) (hd : decode md.2.1 pc = .ok (.lreturn, 1)) (hc : cs.1 = mcs.1 ∧ cs.2 ≤ mcs.2) (hq : Po (some (.long v)) M) : JJ l G md R cs mcs Po pc lv [.long v] M := by
  intro p e s m args below meth c H locs ls F C h1 h2 h3 hz
  refine W.widen (k := mcs.1) (n := mcs.2) (Nat.le_of_eq hc.1) hc.2 ?_
  exact W.lret F.1 F.2.1 (F.2.2.2.1.trans hr) (fun t ht hW => ⟨⟨some (.long v), M, rfl, hq, by rw [ht]; exact h1⟩, h2.F ht, by rw [ht, h1.2.1, ← hz, hc.1]⟩) h2.2.2 hd F.2.2.2.2.1
theorem J_zret {v : Int32} {ty : FieldType} (hr : md.2.2.2 = some ty) (hn : narrow ty (.int v) = .int v) (hd : decode md.2.1 pc = .ok (.ireturn, 1)) (hc : cs.1 = mcs.1 ∧ cs.2 ≤ mcs.2) (hq : Po (some (.int v)) M) : JJ l G md R cs mcs Po pc lv [.int v] M := by
  intro p e s m args below meth c H locs ls F C h1 h2 h3 hz
  refine W.widen (k := mcs.1) (n := mcs.2) (Nat.le_of_eq hc.1) hc.2 ?_
  exact W.zret F.1 F.2.1 (F.2.2.2.1.trans hr) hn (fun t ht hW => ⟨⟨some (.int v), M, rfl, hq, by rw [ht]; exact h1⟩, h2.F ht, by rw [ht, h1.2.1, ← hz, hc.1]⟩) h2.2.2 hd F.2.2.2.2.1
theorem J_vret (hr : md.2.2.2 = none) (hd : decode md.2.1 pc = .ok (.return_, 1)) (hc : cs.1 = mcs.1 ∧ cs.2 ≤ mcs.2) (hq : Po none M) : JJ l G md R cs mcs Po pc lv [] M := by
  intro p e s m args below meth c H locs ls F C h1 h2 h3 hz
  refine W.widen (k := mcs.1) (n := mcs.2) (Nat.le_of_eq hc.1) hc.2 ?_
  exact W.vret F.1 F.2.1 (F.2.2.2.1.trans hr) (fun t ht hW => ⟨⟨none, M, rfl, hq, by rw [ht]; exact h1⟩, h2.F ht, by rw [ht, h1.2.1, ← hz, hc.1]⟩) h2.2.2 hd F.2.2.2.2.1
/-- a switch by a table -/
theorem J_tin {dflt lo hi : Int} {offs : Array Int} {len : Nat} {x : Int32} {off : Int} {tgt : Nat} (hd : decode md.2.1 pc = .ok (.tableswitch dflt lo hi offs, len)) (v : Int32) (hx : x = v) (hc : ¬ v.toInt < lo ∧ ¬ hi < v.toInt ∧ offs[(v.toInt - lo).toNat]? = some off ∧ (pc : Int) + off = (tgt : Int)) (k : JJ l G md R cs mcs Po tgt lv st M) : JJ l G md R cs mcs Po pc lv (.int x :: st) M := by
  subst hx
  intro p e s m args below meth c H locs ls F C h1 h2 h3 hz
  exact lv_tableIn F.1 F.2.1 hd hc.1 hc.2.1 hc.2.2.1 hc.2.2.2 (k p e s m args below meth c H locs ls F C h1 h2 h3 hz)
theorem J_tout {dflt lo hi : Int} {offs : Array Int} {len : Nat} {x : Int32} {tgt : Nat} (hd : decode md.2.1 pc = .ok (.tableswitch dflt lo hi offs, len)) (hx : x.toInt < lo ∨ hi < x.toInt) (ht : (pc : Int) + dflt = (tgt : Int)) (k : JJ l G md R cs mcs Po tgt lv st M) : JJ l G md R cs mcs Po pc lv (.int x :: st) M := by
  intro p e s m args below meth c H locs ls F C h1 h2 h3 hz
  exact lv_tableOut F.1 F.2.1 hd hx ht (k p e s m args below meth c H locs ls F C h1 h2 h3 hz)
theorem J_lsw {dflt : Int} {ps : Array (Int × Int)} {len : Nat} {x : Int32} {off : Int} {tgt : Nat} (hd : decode md.2.1 pc = .ok (.lookupswitch dflt ps, len)) (hp : (ps.toList.zip (ps.toList.drop 1)).all (fun (a, next) => a.1 < next.1) = true) (ho : Op.lookupswitch.offset ps.toList dflt x.toInt = off) (ht : (pc : Int) + off = (tgt : Int)) (k : JJ l G md R cs mcs Po tgt lv st M) : JJ l G md R cs mcs Po pc lv (.int x :: st) M := by
  intro p e s m args below meth c H locs ls F C h1 h2 h3 hz
  exact lv_lookup F.1 F.2.1 hd hp ho ht (k p e s m args below meth c H locs ls F C h1 h2 h3 hz)
end
