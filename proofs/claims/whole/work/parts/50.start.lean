/-! THE CLAIM OUT OF ONE WALK OF THE LAW'S BODY. Your part is whole_start (and what it stands on); all else here is the same for every law, but numbers. -/
def R_law : String := "SwimLanesLaw"
def lw_P (b : Addr) (xs : List Int32) (args : Array Value) (s : State) : Prop := args = #[.ref b] ∧ s.IntsAt b xs ∧ xs.length ≤ 384 ∧ (Jvm.Cond.and given_1 narrow_1).before args s = true
def lw_Q (_ : Array Value) (s : State) (o : Outcome) (t : State) : Prop := o = .returned (some (.int 1)) ∧ Framed s o t [] 600000 room_1.slots
def lw_Z (below : List Frame) (a : Array Value) (s : State) : State → Prop := fun t => ∃ o, t.status = .running ∧ Ended t below o ∧ lw_Q a s o t
/-- the law's own end, with 1 on the stack, nothing written that was there before, its room as the claim has it -/
theorem lw_ret {p : Program} {l : Launch} {e : Env} {s : State} {m : MethodId} {below : List Frame} {meth : Method} {c : Code} {b : Nat} (hx : p.tables.exec = Jvm.exec) (hb : c.code = code) (hr : meth.sig.returnType = ret) (hlocks : meth.locks = false) {pc : Nat} {H : Heap} {ls : Array Slot} (hdg : decode code pc = .ok (.ireturn, 1)) : W p l e room_1 s m #[Value.ref b] below meth c H [] 600000 room_1.slots (lw_Z below #[Value.ref b] s) (F0 m pc ls [.int 1]) := by
  intro T hT X
  obtain ⟨fs, hret, hrun, hended, hW, hframe⟩ := X.leave (v := some (.int 1)) (hlocks := hlocks) (fun h => by rw [hr] at h; cases h)
  have hmeth' : T.vm.method? m = some meth := X.method'
  refine ⟨T.setFrames fs, ?_, .returned (some (.int 1)), hrun, hended, rfl, ⟨_, rfl⟩, hW, hframe⟩
  jvm_step X.here [X.here.top, hx, hb, hdg, hmeth', hr, ret, narrow_b1]
  (try refine ⟨rfl, ?_⟩); (try refine ⟨rfl, ?_⟩)
  first | (intro acts; rw [hret _ acts rfl rfl rfl]) | rw [hret _ _ rfl rfl rfl]
  exact Steps.refl _
/-- what holds at the law's entry: the machine, the code, the tables' words (any of lw_tbl by 'hts w (by decide +kernel)'), the script of L ints xs at the cell b, what the Statement gives of the start (any of its parts by flat_of_before) -/
def lw_At (p : Program) (s : State) (m : MethodId) (meth : Method) (c : Code) (b L : Nat) (xs : Nat → Int32) : Prop :=
  p.tables.exec = Jvm.exec ∧ c.code = code ∧ meth.sig.returnType = ret ∧ c.maxLocals = 4 ∧ s.vm.findClass R_law = some m.cls ∧ (∀ w ∈ lw_tbl, w.before #[Value.ref b] s = true) ∧ va_X b L xs s s.heap ∧ b < s.heap.size ∧ meth.locks = false ∧ (Jvm.Cond.and given_1 narrow_1).before #[Value.ref b] s = true
def lw_F : List Cond := flatC (Jvm.Cond.and given_1 narrow_1)
theorem lw_inst (ci : Nat) (h : ci < 11) : Cond.instantiable (j_vc ci).1 (j_nf ci) ∈ lw_tbl := by
  match ci, h with
  | 0, _ => exact (j_inN 217 (by decide +kernel))
  | 1, _ => exact (j_inN 204 (by decide +kernel))
  | 2, _ => exact (j_inN 183 (by decide +kernel))
  | 3, _ => exact (j_inN 175 (by decide +kernel))
  | 4, _ => exact (j_inN 130 (by decide +kernel))
  | 5, _ => exact (j_inN 190 (by decide +kernel))
  | 6, _ => exact (j_inN 211 (by decide +kernel))
  | 7, _ => exact (j_inN 152 (by decide +kernel))
  | 8, _ => exact (j_inN 197 (by decide +kernel))
  | 9, _ => exact (j_inN 120 (by decide +kernel))
  | 10, _ => exact (j_inN 890 (by decide +kernel))
theorem lw_cls {s : State} {args : Array Value} (hts : ∀ w ∈ lw_tbl, w.before args s = true) (ci : Nat) (h : ci < 11) : ∃ q : ClassId × (Nat → Nat), u_Kn s (j_vc ci).1 (j_vc ci).2.1 (j_vc ci).2.2 q.1 q.2 := by
  obtain ⟨c1, c2, c3, -⟩ := j_kf ci h
  obtain ⟨cC, iS, hk⟩ := u_known (ws := j_gt) (fun w hw => hts w (List.mem_filter.mp hw).1) c3 (hts _ (lw_inst ci h))
  exact ⟨(cC, iS), by rw [c2]; exact hk⟩
theorem lw_arr {s : State} {args : Array Value} {ty : FieldType} (h : (Cond.arrayClass ty).before args s = true) : ∃ cA : ClassId, (∀ (n : Nat) (z : Nat → Value), ∃ kA comp, s.vm.classes[(arrV cA n z).cls]? = some kA ∧ kA.kind = .array comp ty) ∧ s.vm.findClass ("[" ++ ty.toString) = some cA := by
  obtain ⟨cA, kA, comp, h1, h2, h3⟩ := Cond.arrayClass_spec h
  exact ⟨cA, fun n z => ⟨kA, comp, h2, h3⟩, h1⟩
theorem lw_arq {s : State} {args : Array Value} {C : String} (h : (Cond.arrayOver (.object C)).before args s = true) : ∃ cA : ClassId, ArrOfT s cA (.object C) ∧ va_RA s cA (.object C) := by
  obtain ⟨comp, cA, kA, h1, -, h2, h3, h4⟩ := Cond.arrayOver_spec h
  exact ⟨cA, fun n z => ⟨fun k h => (by cases h), kA, h2, comp, h3⟩, kA, comp, h2, h3, h1, h4⟩
def lw_tm : Nat → Term := fun i => .string RX7 (([33, 47, 52, 57] : List Nat).getD i 0)
theorem lw_sx {x : Int32} : Int32.ofNat x.toBitVec.toNat = x := by
  apply Int32.toBitVec.inj
  simp
/-- what the law's context holds, out of what is given at the start -/
theorem lw_ctx {p : Program} {s : State} {m : MethodId} {meth : Method} {c : Code} {b L : Nat} {xs : Nat → Int32} (C0 : lw_At p s m meth c b L xs) : ∃ G : j_G, j_C G s ∧ G.2.1 = s.heap.size ∧ G.2.2.2 30 = b ∧ G.2.2.2 40 = L := by
  obtain ⟨hx, hb, hr, hml, hown, hts, hX, hbl, hlocks, hgv⟩ := C0
  have hs := flat_of_before _ hgv
  have hA : ∀ a : Nat, a < s.heap.size → ¬ (fun q : Nat => s.heap.size ≤ q) a := fun a h => Nat.not_le.mpr h
  have hcl : ∀ ci : Nat, ∃ q : ClassId × (Nat → Nat), ci < 11 → u_Kn s (j_vc ci).1 (j_vc ci).2.1 (j_vc ci).2.2 q.1 q.2 := fun ci => by
    by_cases h : ci < 11
    · obtain ⟨q, hq⟩ := lw_cls hts ci h
      exact ⟨q, fun _ => hq⟩
    · exact ⟨(0, fun _ => 0), fun h' => absurd h' h⟩
  obtain ⟨D, hD⟩ := Classical.axiomOfChoice hcl

  obtain ⟨a1, a1t, a1n⟩ := lw_arr (hts (Cond.arrayClass .int) (j_inN 150 (by decide +kernel)))
  obtain ⟨a2, a2t, a2n⟩ := lw_arr (hts (Cond.arrayClass .long) (j_inN 181 (by decide +kernel)))
  obtain ⟨a3, a3t, a3n⟩ := lw_arr (hts (Cond.arrayClass .boolean) (j_inN 977 (by decide +kernel)))
  obtain ⟨a4, a4t, a4n⟩ := lw_arr (hts (Cond.arrayClass .char) (j_inN 172 (by decide +kernel)))
  have o5 := hts (Cond.arrayOver (.object "SwimLanes$Bath")) (j_inN 128 (by decide +kernel))
  obtain ⟨a5, a5t, a5n⟩ := lw_arq o5
  have o6 := hts (Cond.arrayOver (.object "SwimLanes$Plain")) (j_inN 174 (by decide +kernel))
  obtain ⟨a6, a6t, a6n⟩ := lw_arq o6
  obtain ⟨t0, ht0, hT0⟩ := va_Tof (tm := .static "SwimLanes" "SIGNS_AT_FIRST" "[I") (ty := .int) (N := 4) (f := fun j => .int (j_sig j)) (A := fun q : Nat => s.heap.size ≤ q) (by decide) (hs _ (by decide +kernel)) (va_eqt (hs _ (by decide +kernel))) (fun j hj => va_eqt (hs _ ((by decide +kernel : ∀ j, j < 4 → Cond.eq (.elem (.static "SwimLanes" "SIGNS_AT_FIRST" "[I") (.int (Int32.ofNat j))) (.int (j_sig j)) ∈ lw_F) j hj))) hA
  have hZ0 := va_Zof (A := fun q : Nat => s.heap.size ≤ q) (hts (Cond.laysStatic "SwimLanes" "SIGNS_AT_FIRST" "[I") (j_inN 227 (by decide +kernel))) (hts (Cond.initialized "SwimLanes") (j_inN 100 (by decide +kernel))) ht0 hA
  have hZ1 := va_Zof (A := fun q : Nat => s.heap.size ≤ q) (v := .int 1) (hts (Cond.laysStatic "java/lang/String" "COMPACT_STRINGS" "Z") (j_inN 419 (by decide +kernel))) (hts (Cond.initialized "java/lang/String") (j_inN 113 (by decide +kernel))) (va_eqi (hs _ (by decide +kernel))) hA
  obtain ⟨v2, hv2, hr2⟩ := Cond.isRef_spec (hs (Cond.isRef (.static "jdk/internal/util/Preconditions" "SIOOBE_FORMATTER" "Ljava/util/function/BiFunction;")) (by decide +kernel))
  have hZ2 := va_Zof (A := fun q : Nat => s.heap.size ≤ q) (hts (Cond.laysStatic "jdk/internal/util/Preconditions" "SIOOBE_FORMATTER" "Ljava/util/function/BiFunction;") (j_inN 435 (by decide +kernel))) (hts (Cond.initialized "jdk/internal/util/Preconditions") (j_inN 115 (by decide +kernel))) hv2 hA
  obtain ⟨o2, ho2⟩ : ∃ o : Nat, v2 = .null ∨ v2 = .ref o := by
    cases v2 with
    | null => exact ⟨0, Or.inl rfl⟩
    | ref o => exact ⟨o, Or.inr rfl⟩
    | _ => cases hr2
  obtain ⟨adK, adV, hSt, hEv⟩ := vk_Sof (args := #[Value.ref b]) (s := s) (N := 4) (tm := lw_tm) (len := j_len) (byt := j_byt) (A := fun q : Nat => s.heap.size ≤ q) (by decide)
    (fun i hi => hs _ ((by decide +kernel : ∀ i, i < 4 → Cond.exactly (lw_tm i) "java/lang/String" ∈ lw_F) i hi))
    (fun i hi => hs _ ((by decide +kernel : ∀ i, i < 4 → Cond.eq (.field (lw_tm i) "java/lang/String" "coder" "B") (.int 0) ∈ lw_F) i hi))
    (fun i hi => hs _ ((by decide +kernel : ∀ i, i < 4 → Cond.arrayOf (.field (lw_tm i) "java/lang/String" "value" "[B") .byte ∈ lw_F) i hi))
    (fun i hi => hs _ ((by decide +kernel : ∀ i, i < 4 → Cond.eq (.length (.field (lw_tm i) "java/lang/String" "value" "[B")) (.int (Int32.ofNat (j_len.getD i 0))) ∈ lw_F) i hi))
    (fun i hi j hj => hs _ ((by decide +kernel : ∀ i, i < 4 → ∀ j, j < j_len.getD i 0 → Cond.eq (.elem (.field (lw_tm i) "java/lang/String" "value" "[B") (.int (Int32.ofNat j))) (.int ((j_byt.getD i []).getD j 0)) ∈ lw_F) i hi j hj))
    (fun i j hi hj hij => ((by decide +kernel : ∀ i, i < 4 → ∀ j, j < 4 → i ≠ j → Cond.not (Cond.eq (lw_tm i) (lw_tm j)) ∈ lw_F ∨ Cond.not (Cond.eq (lw_tm j) (lw_tm i)) ∈ lw_F) i hi j hj hij).elim (fun h => Or.inl (hs _ h)) (fun h => Or.inr (hs _ h))) hA
  let T : Nat → Nat := fun k => if k = 0 then t0 else if k < 11 then adK (k - 1) else if k < 20 then adV (k - 11) else if k = 20 then o2 else if k = 30 then b else if k = 40 then L else (xs (k - 100)).toBitVec.toNat
  have k1 : ∀ i, i < 4 → T (1 + i) = adK i := fun i hi => by
    show (if 1 + i = 0 then t0 else if 1 + i < 11 then adK (1 + i - 1) else _) = _
    rw [if_neg (by omega), if_pos (by omega), Nat.add_sub_cancel_left]
  have k2 : ∀ i, i < 4 → T (11 + i) = adV i := fun i hi => by
    show (if 11 + i = 0 then t0 else if 11 + i < 11 then adK (11 + i - 1) else if 11 + i < 20 then adV (11 + i - 11) else _) = _
    rw [if_neg (by omega), if_neg (by omega), if_pos (by omega), Nat.add_sub_cancel_left]
  have k3 : ∀ j, Int32.ofNat (T (100 + j)) = xs j := fun j => by
    show Int32.ofNat (if 100 + j = 0 then t0 else if 100 + j < 11 then adK (100 + j - 1) else if 100 + j < 20 then adV (100 + j - 11) else if 100 + j = 20 then o2 else if 100 + j = 30 then b else if 100 + j = 40 then L else (xs (100 + j - 100)).toBitVec.toNat) = _
    rw [if_neg (by omega), if_neg (by omega), if_neg (by omega), if_neg (by omega), if_neg (by omega), if_neg (by omega), Nat.add_sub_cancel_left]
    exact lw_sx
  let aC : Nat → ClassId := fun k => if k = 1 then a1 else if k = 2 then a2 else if k = 3 then a3 else if k = 4 then a4 else if k = 5 then a5 else a6
  refine ⟨((fun ci => (D ci).1, fun ci => (D ci).2), s.heap.size, aC, T), ⟨⟨?_, ?_⟩, ?_, ⟨⟨hZ0, hT0⟩, ⟨hZ1, ?_⟩, ⟨?_, ?_, ?_, ?_⟩, ⟨va_AO.of o5, va_AO.of o6⟩, v2, ho2, hZ2, ?_, hbl⟩, Nat.le_refl _⟩, rfl, rfl, rfl⟩
  · intro ci q hq
    have hci : ci < 11 := (List.getElem?_eq_some_iff.mp hq).1
    have h1 := (j_kf ci hci).1
    rw [h1] at hq
    cases hq
    exact hD ci hci
  · intro k q hq
    match k, hq with
    | 0, hq => cases hq; exact ⟨fun n z => ⟨fun k h => (by cases h), by obtain ⟨kA, comp, h1, h2⟩ := a1t n z; exact ⟨kA, h1, comp, h2⟩⟩, a1n⟩
    | 1, hq => cases hq; exact ⟨fun n z => ⟨fun k h => (by cases h), by obtain ⟨kA, comp, h1, h2⟩ := a2t n z; exact ⟨kA, h1, comp, h2⟩⟩, a2n⟩
    | 2, hq => cases hq; exact ⟨fun n z => ⟨fun k h => (by cases h), by obtain ⟨kA, comp, h1, h2⟩ := a3t n z; exact ⟨kA, h1, comp, h2⟩⟩, a3n⟩
    | 3, hq => cases hq; exact ⟨fun n z => ⟨fun k h => (by cases h), by obtain ⟨kA, comp, h1, h2⟩ := a4t n z; exact ⟨kA, h1, comp, h2⟩⟩, a4n⟩
    | 4, hq => cases hq; exact ⟨a5t, a5n⟩
    | 5, hq => cases hq; exact ⟨a6t, a6n⟩
    | k + 6, hq => simp [j_tys] at hq
  · intro w hw hn
    have h := hts w hw
    cases w <;> first | exact va_Nw.of rfl h | (simp [j_isN] at hn)
  · refine ⟨fun i hi => ?_, fun i j hi hj e => ?_⟩
    · have h := hSt.1 i hi
      show va_O "java/lang/String" (T (1 + i)) _ s s.heap ∧ va_OF "java/lang/String" "coder" "B" (.int 0) (T (1 + i)) _ s s.heap ∧ va_OF "java/lang/String" "value" "[B" (.ref (T (11 + i))) (T (1 + i)) _ s s.heap ∧ va_T .byte (T (11 + i)) _ _ _ s s.heap
      rw [k1 i hi, k2 i hi]
      exact h
    · have e' : T (1 + i) = T (1 + j) := e
      rw [k1 i hi, k1 j hj] at e'
      exact hSt.2 i j hi hj e'
  · exact vk_R.of (hts (Cond.stringRef RX7 33 "bath") (by decide +kernel)) (hEv 0 (by decide))
  · exact vk_R.of (hts (Cond.stringRef RX7 47 "sign") (by decide +kernel)) (hEv 1 (by decide))
  · exact vk_R.of (hts (Cond.stringRef RX7 52 "shut") (by decide +kernel)) (hEv 2 (by decide))
  · exact vk_R.of (hts (Cond.stringRef RX7 57 "one") (by decide +kernel)) (hEv 3 (by decide))
  · show va_X b L (fun j => Int32.ofNat (T (100 + j))) s s.heap
    rw [show (fun j => Int32.ofNat (T (100 + j))) = xs from funext k3]
    exact hX
/-- places on cells that are new count for nothing -/
theorem lw_sift {s s' : State} {L : List Loc} {k n : Nat} (h : s.sameButNew s' L k n) (hL : ∀ x, x ∈ L → s.heap.size ≤ x.base) : s.sameButNew s' [] k n := by
  obtain ⟨g1, g2, g3, g4, g5, g6⟩ := h
  refine ⟨g1, g2, g3, g4, g5, fun a c hc => ?_⟩
  have ha := (Array.getElem?_eq_some_iff.mp hc).1
  obtain ⟨c', y1, y2, y3, y4⟩ := g6 a c hc
  exact ⟨c', y1, y2, y3, fun i _ => y4 i (fun hm => absurd (hL _ hm) (Nat.not_le.mpr ha))⟩
/-- the law from its entry, open in the invariant -/
theorem lw_start {p : Program} {e : Env} {s : State} {m : MethodId} {below : List Frame} {meth : Method} {c : Code} (l : Launch) {b L : Nat} {xs : Nat → Int32} (hL : L ≤ 384) (C0 : lw_At p s m meth c b L xs) {Inv : j_M → Prop} (hbs : lw_bs Inv) (ho : lw_ops Inv) {r : j_M} (h : f_X10_begin k_77 36 250 = some r) (hI : Inv r) (hN : j_N r = 51) : W p l e room_1 s m #[Value.ref b] below meth c s.heap [] 0 0 (lw_Z below #[Value.ref b] s) (entryFrame m ([Value.ref b] : List Value).toArray 4) := by
  obtain ⟨G, C, e1, e2, e3⟩ := lw_ctx C0
  obtain ⟨hx, hb, hr, hml, hown, hts, hX, hbl, hlocks, hgv⟩ := C0
  obtain ⟨mc, hmc, kJ⟩ := lw_body (l := l) (G := G) (nm := meth.name) hbs ho (by rw [e3]; exact hL) h hI hN
  have hl := lv_entry ([.ref b]) (n := 4) (Nat.le_of_ble_eq_true rfl)
  rw [lg_entry_eq]
  generalize (lg_sl ([.ref b]) ++ List.replicate (4 - (lg_sl ([.ref b])).length) Slot.unset).toArray = ls at hl ⊢
  have hl' : lv_has ls 4 (j_lm G [(0, .ref 1000030)]) := by
    show lv_has ls 4 [(0, .ref (G.2.2.2 30))]
    rw [e2]
    exact hl
  have hF : j_F (md_law meth.name) p s m #[Value.ref b] meth c := ⟨hx, hb, hml, hr, hlocks, hown, fun w hw => hts w (List.mem_filter.mp hw).1, rfl⟩
  have hH : j_H G k_e s.heap := ⟨fun k q h => by simp [j_ws, k_e, j_N] at h, by rw [e1]; rfl, by decide⟩
  have K := kJ p e s m #[Value.ref b] below meth c s.heap [] ls hF C hH va_S.rf hl' (by rw [e1]; rfl)
  intro T hT X
  obtain ⟨t, s1, o, b1, b2, ⟨⟨v, M', hv, hpo, -⟩, -, -⟩, L', ⟨f1, f2, f3⟩, hfr⟩ := K T hT X
  have hv1 : v = some (.int 1) := hpo
  subst hv1
  have hv2 : o = .returned (some (.int 1)) := hv
  subst hv2
  have f4 := (lw_sift f3 (fun x hx => by have := hfr x hx; show s.heap.size ≤ _; rw [← e1]; exact this)).mono (c' := 600000) (n' := room_1.slots) (by omega) (show 7000000 ≤ room_1.slots by decide)
  exact ⟨t, s1, _, b1, b2, rfl, ⟨_, rfl⟩, f2, f4⟩
