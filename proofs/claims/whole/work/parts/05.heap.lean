def j_vc (ci : Nat) : vw_C := vwCl.getD ci ("", fun _ => ("", "", "", false), 0)
def j_ty (ci : Nat) : Nat → FieldType := ([tyX0, tyX1, tyX2, tyX3, tyX4, tyX5, tyX6, tyX7, tyX8, tyX9, tyX10] : List (Nat → FieldType)).getD ci (fun _ => .int)
theorem j_in {w : Cond} (i : Nat) (h : lw_tbl[i]? = some w) (hg : goodWord w = true) : w ∈ j_gt := List.mem_filter.mpr ⟨List.mem_of_getElem? h, hg⟩
theorem j_inN {w : Cond} (i : Nat) (h : lw_tbl[i]? = some w) : w ∈ lw_tbl := List.mem_of_getElem? h
def j_cfs (ci : Nat) : Prop := vwCl[ci]? = some (j_vc ci) ∧ (j_vc ci).2.2 = j_nf ci ∧ (∀ w ∈ u_ws (j_vc ci).1 (j_vc ci).2.1 (j_nf ci), w ∈ j_gt) ∧ (∀ k, k < j_nf ci → parseFieldDescriptor ((j_vc ci).2.1 k).2.2.1 = some (j_ty ci k)) ∧ (∀ a, a < j_nf ci → ∀ b, b < j_nf ci → a ≠ b → ((j_vc ci).2.1 a).2.1 ≠ ((j_vc ci).2.1 b).2.1)
theorem j_kf0 : j_cfs 0 := ⟨rfl, rfl, by decide +kernel, by decide +kernel, by decide +kernel⟩
theorem j_kf1 : j_cfs 1 := ⟨rfl, rfl, by decide +kernel, by decide +kernel, by decide +kernel⟩
theorem j_kf2 : j_cfs 2 := ⟨rfl, rfl, by decide +kernel, by decide +kernel, by decide +kernel⟩
theorem j_kf3 : j_cfs 3 := ⟨rfl, rfl, by decide +kernel, by decide +kernel, by decide +kernel⟩
theorem j_kf4 : j_cfs 4 := ⟨rfl, rfl, by decide +kernel, by decide +kernel, by decide +kernel⟩
theorem j_kf5 : j_cfs 5 := ⟨rfl, rfl, by decide +kernel, by decide +kernel, by decide +kernel⟩
theorem j_kf6 : j_cfs 6 := ⟨rfl, rfl, by decide +kernel, by decide +kernel, by decide +kernel⟩
theorem j_kf7 : j_cfs 7 := ⟨rfl, rfl, by decide +kernel, by decide +kernel, by decide +kernel⟩
theorem j_kf8 : j_cfs 8 := ⟨rfl, rfl, by decide +kernel, by decide +kernel, by decide +kernel⟩
theorem j_kf9 : j_cfs 9 := ⟨rfl, rfl, by decide +kernel, by decide +kernel, by decide +kernel⟩
theorem j_kf10 : j_cfs 10 := ⟨rfl, rfl, by decide +kernel, by decide +kernel, by decide +kernel⟩
theorem j_kf (ci : Nat) (h : ci < 11) : j_cfs ci := by
  match ci, h with
  | 0, _ => exact j_kf0
  | 1, _ => exact j_kf1
  | 2, _ => exact j_kf2
  | 3, _ => exact j_kf3
  | 4, _ => exact j_kf4
  | 5, _ => exact j_kf5
  | 6, _ => exact j_kf6
  | 7, _ => exact j_kf7
  | 8, _ => exact j_kf8
  | 9, _ => exact j_kf9
  | 10, _ => exact j_kf10
/-- a field entry of the pool of class own, number i: field k of class ci -/
def j_fln (own : String) (i ci k : Nat) : Prop := ci < 11 ∧ k < j_nf ci ∧ ((j_vc ci).2.1 k).1 = (j_vc ci).1 ∧ (Cond.fieldLink own i (j_vc ci).1 ((j_vc ci).2.1 k).2.1 ((j_vc ci).2.1 k).2.2.1 ∈ j_gt ∨ Cond.fieldLinkNest own i (j_vc ci).1 ((j_vc ci).2.1 k).2.1 ((j_vc ci).2.1 k).2.2.1 "SwimLanes" ∈ lw_tbl)
theorem j_ro {M : j_M} {G : j_G} {H : Heap} {a : Nat} (h : j_H G M H) (ha : a < j_N M) : j_rho G a = G.2.1 + a := if_pos (Nat.lt_of_lt_of_le ha h.2.2)
theorem j_c_obj {G : j_G} {M : j_M} {a ci : Nat} (hs : (j_S M a).1 = 10 + ci) : j_c G M a = .inr (ci, (List.range (j_nf ci)).map (j_fv G M ci a)) := by
  unfold j_c j_cel
  rw [hs, if_neg (by omega), if_neg (by omega), if_neg (by omega), if_neg (by omega), if_neg (by omega), if_neg (by omega), show 10 + ci - 10 = ci by omega]
theorem j_c_1 {G : j_G} {M : j_M} {a n : Nat} (hs : j_S M a = (1, n)) : j_c G M a = .inl (G.2.2.1 1, n, .inl (j_I M a)) := by simp [j_c, j_cel, hs]
theorem j_c_2 {G : j_G} {M : j_M} {a n : Nat} (hs : j_S M a = (2, n)) : j_c G M a = .inl (G.2.2.1 2, n, .inr (.inl (j_L M a))) := by simp [j_c, j_cel, hs]
theorem j_c_3 {G : j_G} {M : j_M} {a n : Nat} (hs : j_S M a = (3, n)) : j_c G M a = .inl (G.2.2.1 3, n, .inl (j_I M a)) := by simp [j_c, j_cel, hs]
theorem j_c_4 {G : j_G} {M : j_M} {a n : Nat} (hs : j_S M a = (4, n)) : j_c G M a = .inl (G.2.2.1 4, n, .inl (j_I M a)) := by simp [j_c, j_cel, hs]
theorem j_c_5 {G : j_G} {M : j_M} {a n : Nat} (hs : j_S M a = (5, n)) : j_c G M a = .inl (G.2.2.1 5, n, .inr (.inr (.inr (.inr (j_rq G M a))))) := by simp [j_c, j_cel, hs]
theorem j_c_6 {G : j_G} {M : j_M} {a n : Nat} (hs : j_S M a = (6, n)) : j_c G M a = .inl (G.2.2.1 6, n, .inr (.inr (.inr (.inr (j_rq G M a))))) := by simp [j_c, j_cel, hs]
theorem j_at {G : j_G} {M : j_M} {a : Nat} {e : va_E} (ha : a < j_N M) (hc : j_c G M a = e) : (j_ws G M)[a]? = some (G.2.1 + a, e) := by rw [j_ws_at ha, hc]
theorem j_fat {G : j_G} {M : j_M} {ci a k : Nat} (hk : k < j_nf ci) : ((List.range (j_nf ci)).map (j_fv G M ci a))[k]? = some (j_fv G M ci a k) := by simp [hk]
section
variable {l : Launch} {G : j_G} {md : j_Md} {R : Room} {cs mcs : Nat × Nat} {Po : Option Value → j_M → Prop} {pc pc' : Nat} {lv lv' : List (Nat × Value)} {st : List Value} {M : j_M}
theorem J_getv {i ci k a : Nat} {v : Value} (hd : decode md.2.1 pc = .ok (.getfield i, 3)) (hp : pc + 3 = pc') (hf : j_fln md.1.cls i ci k) (hs : (j_S M a).1 = 10 + ci) (ha : a < j_N M) (hv : j_fv G M ci a k = j_tv G v) (kk : JJ l G md R cs mcs Po pc' lv (v :: st) M) : JJ l G md R cs mcs Po pc lv (.ref a :: st) M := by
  subst hp
  intro p e s m args below meth c H locs ls F C h1 h2 h3 hz
  obtain ⟨hci, hk, hdc, hlink⟩ := hf
  obtain ⟨c1, c2, c3, c4, c5⟩ := j_kf ci hci
  have kk' := kk p e s m args below meth c H locs ls F C h1 h2 h3 hz
  show W p l e R s m args below meth c H locs cs.1 cs.2 _ (F0 m pc ls (.ref (j_rho G a) :: st.map (j_tv G)))
  rw [j_ro h1 ha]
  rcases hlink with hlink | hlink
  · exact va_get (D := G.1) (cl := vwCl) (tys := j_tys G) (ws := j_ws G M) (ref := (j_vc ci).1) (C := (j_vc ci).1) (T := (j_vc ci).2.1) (N := j_nf ci) (ci := ci) (v := j_tv G v) F.1 F.2.1 F.2.2.2.2.2.2.1 c3 F.2.2.2.2.2.1 C.1 h1.1 a (j_at ha (j_c_obj hs)) (by rw [c1]; exact congrArg some (by rw [← c2])) k hk (F.2.2.2.2.2.2.1 _ hlink) (fun x hx => by rw [← hdc]; exact hx) (by rw [j_fat hk, hv]) hd kk'
  · exact va_getN (D := G.1) (cl := vwCl) (tys := j_tys G) (ws := j_ws G M) (ref := (j_vc ci).1) (C := (j_vc ci).1) (T := (j_vc ci).2.1) (N := j_nf ci) (ci := ci) (v := j_tv G v) F.1 F.2.1 F.2.2.2.2.2.2.1 c3 F.2.2.2.2.2.1 C.1 h1.1 a (j_at ha (j_c_obj hs)) (by rw [c1]; exact congrArg some (by rw [← c2])) k hk (va_Nw.use rfl (C.2.1 _ hlink rfl)) (fun x hx => by rw [← hdc]; exact hx) (by rw [j_fat hk, hv]) hd kk'
theorem J_getI {i ci k a : Nat} (hd : decode md.2.1 pc = .ok (.getfield i, 3)) (hp : pc + 3 = pc') (hf : j_fln md.1.cls i ci k) (hk : j_fk ci k = 0) (hs : (j_S M a).1 = 10 + ci) (ha : a < j_N M) (kk : JJ l G md R cs mcs Po pc' lv (.int (j_I M a k) :: st) M) : JJ l G md R cs mcs Po pc lv (.ref a :: st) M :=
  J_getv hd hp hf hs ha (by simp [j_fv, hk]; rfl) kk
theorem J_getL {i ci k a : Nat} (hd : decode md.2.1 pc = .ok (.getfield i, 3)) (hp : pc + 3 = pc') (hf : j_fln md.1.cls i ci k) (hk : j_fk ci k = 1) (hs : (j_S M a).1 = 10 + ci) (ha : a < j_N M) (kk : JJ l G md R cs mcs Po pc' lv (.long (j_L M a k) :: st) M) : JJ l G md R cs mcs Po pc lv (.ref a :: st) M :=
  J_getv hd hp hf hs ha (by simp [j_fv, hk]; rfl) kk
theorem J_getR {i ci k a b : Nat} (hd : decode md.2.1 pc = .ok (.getfield i, 3)) (hp : pc + 3 = pc') (hf : j_fln md.1.cls i ci k) (hk : j_fk ci k = 2) (hs : (j_S M a).1 = 10 + ci) (ha : a < j_N M) (hr : j_R M a k = some b) (kk : JJ l G md R cs mcs Po pc' lv (.ref b :: st) M) : JJ l G md R cs mcs Po pc lv (.ref a :: st) M :=
  J_getv hd hp hf hs ha (by simp [j_fv, hk, hr]; rfl) kk
theorem j_mkH {p : Program} {e : Env} {s : State} {m : MethodId} {args : Array Value} {below : List Frame} {meth : Method} {c : Code} {T : State} {H1 : Heap} {locs1 : List Loc} {cells slots : Nat} {M' : j_M} (X : Stand p l e R s m args below meth c T locs1 cells slots) (hT : T.heap = H1) (hB : G.2.1 ≤ s.heap.size) (hS : va_S (j_A G) s.heap H1 locs1) (hz : s.heap.size + cells = G.2.1 + j_N M') (hP : va_P G.1 vwCl (j_ws G M') H1) (hN : j_N M' ≤ 1000000) : j_H G M' H1 := by
  refine ⟨hP, ?_, hN⟩
  have h1 : T.heap.size ≤ s.heap.size + cells := X.same.2.2.1
  have h2 : s.heap.size ≤ H1.size := hS.1
  rw [hT] at h1
  have h3 : 0 < j_N M' → G.2.1 + (j_N M' - 1) < H1.size := fun h => (hP (j_N M' - 1) _ (j_ws_at (by omega))).lt
  by_cases h : 0 < j_N M'
  · have := h3 h
    omega
  · omega
theorem J_putv {i ci k a : Nat} {v : Value} {ty : FieldType} {M' : j_M} (hd : decode md.2.1 pc = .ok (.putfield i, 3)) (hp : pc + 3 = pc') (hf : j_fln md.1.cls i ci k) (hfin : ((j_vc ci).2.1 k).2.2.2 = false) (hty : j_ty ci k = ty) (hn : narrow ty (j_tv G v) = j_tv G v) (hfit : fits ty (j_tv G v) = true) (hs : (j_S M a).1 = 10 + ci) (ha : a < j_N M) (hN : j_N M' = j_N M) (hc : ∀ b, b ≠ a → j_c G M' b = j_c G M b) (he : j_c G M' a = .inr (ci, ((List.range (j_nf ci)).map (j_fv G M ci a)).set k (j_tv G v))) (kk : JJ l G md R cs mcs Po pc' lv st M') : JJ l G md R cs mcs Po pc lv (v :: .ref a :: st) M := by
  subst hp
  intro p e s m args below meth c H locs ls F C h1 h2 h3 hz
  obtain ⟨hci, hk, hdc, hlink⟩ := hf
  obtain ⟨c1, c2, c3, c4, c5⟩ := j_kf ci hci
  have c1' : vwCl[ci]? = some ((j_vc ci).1, (j_vc ci).2.1, j_nf ci) := by rw [c1]; exact congrArg some (by rw [← c2])
  show W p l e R s m args below meth c H locs cs.1 cs.2 _ (F0 m pc ls (j_tv G v :: .ref (j_rho G a) :: st.map (j_tv G)))
  rw [j_ro h1 ha]
  have fin : ∀ (H1 : Heap) (locs1 : List Loc), va_P G.1 vwCl ((j_ws G M).set a (G.2.1 + a, .inr (ci, ((List.range (j_nf ci)).map (j_fv G M ci a)).set k (j_tv G v)))) H1 → va_D (j_A G) ((j_ws G M).set a (G.2.1 + a, .inr (ci, ((List.range (j_nf ci)).map (j_fv G M ci a)).set k (j_tv G v)))) → va_S (j_A G) s.heap H1 locs1 → W p l e R s m args below meth c H1 locs1 cs.1 cs.2 (MQ below (j_Q G mcs.1 Po) args s mcs.1 mcs.2 (j_A G)) (F0 m (pc + 3) ls (st.map (j_tv G))) := by
    intro H1 locs1 hP _ hS T hT X
    rw [j_ws_set hN hc he] at hP
    have hz' : s.heap.size + cs.1 = G.2.1 + j_N M' := by rw [hN]; exact hz
    exact kk p e s m args below meth c H1 locs1 ls F C (j_mkH X hT C.2.2.2 hS hz' hP (by rw [hN]; exact h1.2.2)) hS h3 hz' T hT X
  rcases hlink with hlink | hlink
  · exact va_put (D := G.1) (cl := vwCl) (tys := j_tys G) (ws := j_ws G M) (ref := (j_vc ci).1) (C := (j_vc ci).1) (T := (j_vc ci).2.1) (N := j_nf ci) (ci := ci) (v := j_tv G v) (ty := ty) F.1 F.2.1 F.2.2.2.2.2.2.1 c3 (j_ty ci) c4 c5 F.2.2.2.2.2.1 C.1 h1.1 j_ws_D h2 a (j_at ha (j_c_obj hs)) c1' k hk (F.2.2.2.2.2.2.1 _ hlink) (fun x hx => by rw [← hdc]; exact hx) hfin (by rw [c4 k hk, hty]) hn hfit (by simp [hk]) hd fin
  · exact va_putN (D := G.1) (cl := vwCl) (tys := j_tys G) (ws := j_ws G M) (ref := (j_vc ci).1) (C := (j_vc ci).1) (T := (j_vc ci).2.1) (N := j_nf ci) (ci := ci) (v := j_tv G v) (ty := ty) F.1 F.2.1 F.2.2.2.2.2.2.1 c3 (j_ty ci) c4 c5 F.2.2.2.2.2.1 C.1 h1.1 j_ws_D h2 a (j_at ha (j_c_obj hs)) c1' k hk (va_Nw.use rfl (C.2.1 _ hlink rfl)) (fun x hx => by rw [← hdc]; exact hx) hfin (by rw [c4 k hk, hty]) hn hfit (by simp [hk]) hd fin
theorem J_putFv {i ci k a : Nat} {v : Value} {ty : FieldType} {M' : j_M} (hd : decode md.2.1 pc = .ok (.putfield i, 3)) (hp : pc + 3 = pc') (hci : ci < 11) (hk : k < j_nf ci) (hdc : ((j_vc ci).2.1 k).1 = (j_vc ci).1) (hlink : Cond.fieldLink md.1.cls i (j_vc ci).1 ((j_vc ci).2.1 k).2.1 ((j_vc ci).2.1 k).2.2.1 ∈ j_gt) (hown : (j_vc ci).1 = md.1.cls) (hini : md.1.name = "<init>") (hfin : ((j_vc ci).2.1 k).2.2.2 = true) (hty : j_ty ci k = ty) (hn : narrow ty (j_tv G v) = j_tv G v) (hfit : fits ty (j_tv G v) = true) (hs : (j_S M a).1 = 10 + ci) (ha : a < j_N M) (hN : j_N M' = j_N M) (hc : ∀ b, b ≠ a → j_c G M' b = j_c G M b) (he : j_c G M' a = .inr (ci, ((List.range (j_nf ci)).map (j_fv G M ci a)).set k (j_tv G v))) (kk : JJ l G md R cs mcs Po pc' lv st M') : JJ l G md R cs mcs Po pc lv (v :: .ref a :: st) M := by
  subst hp
  intro p e s m args below meth c H locs ls F C h1 h2 h3 hz
  obtain ⟨c1, c2, c3, c4, c5⟩ := j_kf ci hci
  have c1' : vwCl[ci]? = some ((j_vc ci).1, (j_vc ci).2.1, j_nf ci) := by rw [c1]; exact congrArg some (by rw [← c2])
  show W p l e R s m args below meth c H locs cs.1 cs.2 _ (F0 m pc ls (j_tv G v :: .ref (j_rho G a) :: st.map (j_tv G)))
  rw [j_ro h1 ha]
  refine va_putF (D := G.1) (cl := vwCl) (tys := j_tys G) (ws := j_ws G M) (ref := (j_vc ci).1) (C := (j_vc ci).1) (T := (j_vc ci).2.1) (N := j_nf ci) (ci := ci) (v := j_tv G v) (ty := ty) F.1 F.2.1 F.2.2.2.2.2.2.1 c3 (j_ty ci) c4 c5 F.2.2.2.2.2.1 C.1 h1.1 j_ws_D h2 a (j_at ha (j_c_obj hs)) c1' k hk (F.2.2.2.2.2.2.1 _ hlink) (fun x hx => by rw [← hdc]; exact hx) hfin (F.2.2.2.2.2.2.2.trans hini) (hdc.trans hown) (by rw [c4 k hk, hty]) hn hfit (by simp [hk]) hd ?_
  intro H1 locs1 hP _ hS T hT X
  rw [j_ws_set hN hc he] at hP
  have hz' : s.heap.size + cs.1 = G.2.1 + j_N M' := by rw [hN]; exact hz
  exact kk p e s m args below meth c H1 locs1 ls F C (j_mkH X hT C.2.2.2 hS hz' hP (by rw [hN]; exact h1.2.2)) hS h3 hz' T hT X
theorem j_e_I {M : j_M} {G : j_G} {ci a k : Nat} {x : Int32} (hk : j_fk ci k = 0) (hs : (j_S M a).1 = 10 + ci) : j_c G (j_sI M a k x) a = .inr (ci, ((List.range (j_nf ci)).map (j_fv G M ci a)).set k (j_tv G (.int x))) := by
  rw [j_c_obj (M := j_sI M a k x) hs]
  refine congrArg (fun z => Sum.inr (ci, z)) (j_fset ?_ (fun j hj => ?_)).symm
  · simp [j_fv, hk, j_I, j_sI]; rfl
  · simp [j_fv, j_I, j_sI, hj]; rfl
theorem j_e_L {M : j_M} {G : j_G} {ci a k : Nat} {x : Int64} (hk : j_fk ci k = 1) (hs : (j_S M a).1 = 10 + ci) : j_c G (j_sL M a k x) a = .inr (ci, ((List.range (j_nf ci)).map (j_fv G M ci a)).set k (j_tv G (.long x))) := by
  rw [j_c_obj (M := j_sL M a k x) hs]
  refine congrArg (fun z => Sum.inr (ci, z)) (j_fset ?_ (fun j hj => ?_)).symm
  · simp [j_fv, hk, j_L, j_sL]; rfl
  · simp [j_fv, j_L, j_sL, hj]; rfl
theorem j_e_R {M : j_M} {G : j_G} {ci a k b : Nat} (hk : j_fk ci k = 2) (hs : (j_S M a).1 = 10 + ci) : j_c G (j_sR M a k (some b)) a = .inr (ci, ((List.range (j_nf ci)).map (j_fv G M ci a)).set k (j_tv G (.ref b))) := by
  rw [j_c_obj (M := j_sR M a k (some b)) hs]
  refine congrArg (fun z => Sum.inr (ci, z)) (j_fset ?_ (fun j hj => ?_)).symm
  · simp [j_fv, hk, j_R, j_sR]; rfl
  · simp [j_fv, j_R, j_sR, hj]; rfl
theorem J_putI {i ci k a : Nat} {x : Int32} (hd : decode md.2.1 pc = .ok (.putfield i, 3)) (hp : pc + 3 = pc') (hf : j_fln md.1.cls i ci k) (hq : ((j_vc ci).2.1 k).2.2.2 = false ∧ j_ty ci k = .int ∧ j_fk ci k = 0) (hs : (j_S M a).1 = 10 + ci) (ha : a < j_N M) (kk : JJ l G md R cs mcs Po pc' lv st (j_sI M a k x)) : JJ l G md R cs mcs Po pc lv (.int x :: .ref a :: st) M :=
  J_putv (M' := j_sI M a k x) hd hp hf hq.1 hq.2.1 rfl rfl hs ha rfl (fun _ h => j_c_sI_ne h) (j_e_I hq.2.2 hs) kk
theorem J_putL {i ci k a : Nat} {x : Int64} (hd : decode md.2.1 pc = .ok (.putfield i, 3)) (hp : pc + 3 = pc') (hf : j_fln md.1.cls i ci k) (hq : ((j_vc ci).2.1 k).2.2.2 = false ∧ j_ty ci k = .long ∧ j_fk ci k = 1) (hs : (j_S M a).1 = 10 + ci) (ha : a < j_N M) (kk : JJ l G md R cs mcs Po pc' lv st (j_sL M a k x)) : JJ l G md R cs mcs Po pc lv (.long x :: .ref a :: st) M :=
  J_putv (M' := j_sL M a k x) hd hp hf hq.1 hq.2.1 rfl rfl hs ha rfl (fun _ h => j_c_sL_ne h) (j_e_L hq.2.2 hs) kk
theorem J_iald {a n : Nat} {i : Int32} (hd : decode md.2.1 pc = .ok (.iaload, 1)) (hp : pc + 1 = pc') (hs : j_S M a = (1, n)) (ha : a < j_N M) (hin : vp_in i n) (kk : JJ l G md R cs mcs Po pc' lv (.int (j_I M a i.toNatClampNeg) :: st) M) : JJ l G md R cs mcs Po pc lv (.int i :: .ref a :: st) M := by
  subst hp
  intro p e s m args below meth c H locs ls F C h1 h2 h3 hz
  show W p l e R s m args below meth c H locs cs.1 cs.2 _ (F0 m pc ls (.int i :: .ref (j_rho G a) :: st.map (j_tv G)))
  rw [j_ro h1 ha]
  exact va_iald F.1 F.2.1 C.1 h1.1 a 0 (j_at ha (j_c_1 hs)) rfl hin hd (kk p e s m args below meth c H locs ls F C h1 h2 h3 hz)
theorem J_zald {a n : Nat} {i : Int32} (hd : decode md.2.1 pc = .ok (.baload, 1)) (hp : pc + 1 = pc') (hs : j_S M a = (3, n)) (ha : a < j_N M) (hin : vp_in i n) (kk : JJ l G md R cs mcs Po pc' lv (.int (j_I M a i.toNatClampNeg) :: st) M) : JJ l G md R cs mcs Po pc lv (.int i :: .ref a :: st) M := by
  subst hp
  intro p e s m args below meth c H locs ls F C h1 h2 h3 hz
  show W p l e R s m args below meth c H locs cs.1 cs.2 _ (F0 m pc ls (.int i :: .ref (j_rho G a) :: st.map (j_tv G)))
  rw [j_ro h1 ha]
  exact va_zald F.1 F.2.1 C.1 h1.1 a 2 (j_at ha (j_c_3 hs)) rfl hin hd (kk p e s m args below meth c H locs ls F C h1 h2 h3 hz)
theorem J_cald {a n : Nat} {i : Int32} (hd : decode md.2.1 pc = .ok (.caload, 1)) (hp : pc + 1 = pc') (hs : j_S M a = (4, n)) (ha : a < j_N M) (hin : vp_in i n) (kk : JJ l G md R cs mcs Po pc' lv (.int (j_I M a i.toNatClampNeg) :: st) M) : JJ l G md R cs mcs Po pc lv (.int i :: .ref a :: st) M := by
  subst hp
  intro p e s m args below meth c H locs ls F C h1 h2 h3 hz
  show W p l e R s m args below meth c H locs cs.1 cs.2 _ (F0 m pc ls (.int i :: .ref (j_rho G a) :: st.map (j_tv G)))
  rw [j_ro h1 ha]
  exact va_cald F.1 F.2.1 C.1 h1.1 a 3 (j_at ha (j_c_4 hs)) rfl hin hd (kk p e s m args below meth c H locs ls F C h1 h2 h3 hz)
theorem J_lald {a n : Nat} {i : Int32} (hd : decode md.2.1 pc = .ok (.laload, 1)) (hp : pc + 1 = pc') (hs : j_S M a = (2, n)) (ha : a < j_N M) (hin : vp_in i n) (kk : JJ l G md R cs mcs Po pc' lv (.long (j_L M a i.toNatClampNeg) :: st) M) : JJ l G md R cs mcs Po pc lv (.int i :: .ref a :: st) M := by
  subst hp
  intro p e s m args below meth c H locs ls F C h1 h2 h3 hz
  show W p l e R s m args below meth c H locs cs.1 cs.2 _ (F0 m pc ls (.int i :: .ref (j_rho G a) :: st.map (j_tv G)))
  rw [j_ro h1 ha]
  exact va_lald F.1 F.2.1 C.1 h1.1 a 1 (j_at ha (j_c_2 hs)) rfl hin hd (kk p e s m args below meth c H locs ls F C h1 h2 h3 hz)
theorem J_aald5 {a n b : Nat} {i : Int32} (hd : decode md.2.1 pc = .ok (.aaload, 1)) (hp : pc + 1 = pc') (hs : j_S M a = (5, n)) (ha : a < j_N M) (hin : vp_in i n) (hr : j_R M a i.toNatClampNeg = some b) (kk : JJ l G md R cs mcs Po pc' lv (.ref b :: st) M) : JJ l G md R cs mcs Po pc lv (.int i :: .ref a :: st) M := by
  subst hp
  intro p e s m args below meth c H locs ls F C h1 h2 h3 hz
  show W p l e R s m args below meth c H locs cs.1 cs.2 _ (F0 m pc ls (.int i :: .ref (j_rho G a) :: st.map (j_tv G)))
  rw [j_ro h1 ha]
  refine va_aldq F.1 F.2.1 C.1 h1.1 a 4 (j_at ha (j_c_5 hs)) rfl hin hd ?_
  rw [show va_rf (j_rq G M a i.toNatClampNeg) = j_tv G (.ref b) by simp [j_rq, hr]; rfl]
  exact kk p e s m args below meth c H locs ls F C h1 h2 h3 hz
theorem J_aald5N {a n : Nat} {i : Int32} (hd : decode md.2.1 pc = .ok (.aaload, 1)) (hp : pc + 1 = pc') (hs : j_S M a = (5, n)) (ha : a < j_N M) (hin : vp_in i n) (hr : j_R M a i.toNatClampNeg = none) (kk : JJ l G md R cs mcs Po pc' lv (.null :: st) M) : JJ l G md R cs mcs Po pc lv (.int i :: .ref a :: st) M := by
  subst hp
  intro p e s m args below meth c H locs ls F C h1 h2 h3 hz
  show W p l e R s m args below meth c H locs cs.1 cs.2 _ (F0 m pc ls (.int i :: .ref (j_rho G a) :: st.map (j_tv G)))
  rw [j_ro h1 ha]
  refine va_aldq F.1 F.2.1 C.1 h1.1 a 4 (j_at ha (j_c_5 hs)) rfl hin hd ?_
  rw [show va_rf (j_rq G M a i.toNatClampNeg) = j_tv G .null by simp [j_rq, hr]; rfl]
  exact kk p e s m args below meth c H locs ls F C h1 h2 h3 hz
theorem J_aald6 {a n b : Nat} {i : Int32} (hd : decode md.2.1 pc = .ok (.aaload, 1)) (hp : pc + 1 = pc') (hs : j_S M a = (6, n)) (ha : a < j_N M) (hin : vp_in i n) (hr : j_R M a i.toNatClampNeg = some b) (kk : JJ l G md R cs mcs Po pc' lv (.ref b :: st) M) : JJ l G md R cs mcs Po pc lv (.int i :: .ref a :: st) M := by
  subst hp
  intro p e s m args below meth c H locs ls F C h1 h2 h3 hz
  show W p l e R s m args below meth c H locs cs.1 cs.2 _ (F0 m pc ls (.int i :: .ref (j_rho G a) :: st.map (j_tv G)))
  rw [j_ro h1 ha]
  refine va_aldq F.1 F.2.1 C.1 h1.1 a 5 (j_at ha (j_c_6 hs)) rfl hin hd ?_
  rw [show va_rf (j_rq G M a i.toNatClampNeg) = j_tv G (.ref b) by simp [j_rq, hr]; rfl]
  exact kk p e s m args below meth c H locs ls F C h1 h2 h3 hz
theorem J_alen {a n : Nat} {e0 : va_E} {cA : ClassId} {x : vp_A} {t0 : Nat} {ty : FieldType} (hd : decode md.2.1 pc = .ok (.arraylength, 1)) (hp : pc + 1 = pc') (ha : a < j_N M) (hc : j_c G M a = .inl (cA, x)) (ht : (j_tys G)[t0]? = some (cA, ty)) (hx : x.1 = n) (kk : JJ l G md R cs mcs Po pc' lv (.int (Int32.ofNat n) :: st) M) : JJ l G md R cs mcs Po pc lv (.ref a :: st) M := by
  subst hp
  intro p e s m args below meth c H locs ls F C h1 h2 h3 hz
  show W p l e R s m args below meth c H locs cs.1 cs.2 _ (F0 m pc ls (.ref (j_rho G a) :: st.map (j_tv G)))
  rw [j_ro h1 ha]
  exact va_alen F.1 F.2.1 C.1 h1.1 a t0 (j_at ha hc) ht (by rw [hx]) hd (kk p e s m args below meth c H locs ls F C h1 h2 h3 hz)
/-- behind a write: the memory is M', the rest stands -/
theorem j_fin {p : Program} {e : Env} {s : State} {m : MethodId} {args : Array Value} {below : List Frame} {meth : Method} {c : Code} {H : Heap} {ls : Array Slot} {M' : j_M} {a : Nat} {e0 : va_E} (F : j_F md p s m args meth c) (C : j_C G s) (h1 : j_H G M H) (h3 : lv_has ls md.2.2.1 (j_lm G lv)) (hz : s.heap.size + cs.1 = G.2.1 + j_N M) (hN : j_N M' = j_N M) (hc : ∀ b, b ≠ a → j_c G M' b = j_c G M b) (he : j_c G M' a = e0) (kk : JJ l G md R cs mcs Po pc lv st M') :
    ∀ (H1 : Heap) (locs1 : List Loc), va_P G.1 vwCl ((j_ws G M).set a (G.2.1 + a, e0)) H1 → va_D (j_A G) ((j_ws G M).set a (G.2.1 + a, e0)) → va_S (j_A G) s.heap H1 locs1 → W p l e R s m args below meth c H1 locs1 cs.1 cs.2 (MQ below (j_Q G mcs.1 Po) args s mcs.1 mcs.2 (j_A G)) (F0 m pc ls (st.map (j_tv G))) := by
  intro H1 locs1 hP _ hS T hT X
  rw [j_ws_set hN hc he] at hP
  have hz' : s.heap.size + cs.1 = G.2.1 + j_N M' := by rw [hN]; exact hz
  exact kk p e s m args below meth c H1 locs1 ls F C (j_mkH X hT C.2.2.2 hS hz' hP (by rw [hN]; exact h1.2.2)) hS h3 hz' T hT X
theorem j_upI {M : j_M} {a k : Nat} {x : Int32} : j_I (j_sI M a k x) a = upd (j_I M a) k x := by
  funext j; simp [j_I, j_sI, upd]
theorem j_upL {M : j_M} {a k : Nat} {x : Int64} : j_L (j_sL M a k x) a = vp_updL (j_L M a) k x := by
  funext j; simp [j_L, j_sL, vp_updL]
theorem J_iast {a n : Nat} {i x : Int32} (hd : decode md.2.1 pc = .ok (.iastore, 1)) (hp : pc + 1 = pc') (hs : j_S M a = (1, n)) (ha : a < j_N M) (hin : vp_in i n) (kk : JJ l G md R cs mcs Po pc' lv st (j_sI M a i.toNatClampNeg x)) : JJ l G md R cs mcs Po pc lv (.int x :: .int i :: .ref a :: st) M := by
  subst hp
  intro p e s m args below meth c H locs ls F C h1 h2 h3 hz
  show W p l e R s m args below meth c H locs cs.1 cs.2 _ (F0 m pc ls (.int x :: .int i :: .ref (j_rho G a) :: st.map (j_tv G)))
  rw [j_ro h1 ha]
  exact va_iast F.1 F.2.1 C.1 h1.1 j_ws_D h2 a 0 (j_at ha (j_c_1 hs)) rfl hin hd (j_fin (M' := j_sI M a i.toNatClampNeg x) F C h1 h3 hz rfl (fun _ h => j_c_sI_ne h) (by rw [j_c_1 (M := j_sI M a i.toNatClampNeg x) hs, j_upI]) kk)
theorem J_zast {a n : Nat} {i x : Int32} (hd : decode md.2.1 pc = .ok (.bastore, 1)) (hp : pc + 1 = pc') (hs : j_S M a = (3, n)) (ha : a < j_N M) (hin : vp_in i n) (kk : JJ l G md R cs mcs Po pc' lv st (j_sI M a i.toNatClampNeg (vp_nar .boolean x))) : JJ l G md R cs mcs Po pc lv (.int x :: .int i :: .ref a :: st) M := by
  subst hp
  intro p e s m args below meth c H locs ls F C h1 h2 h3 hz
  show W p l e R s m args below meth c H locs cs.1 cs.2 _ (F0 m pc ls (.int x :: .int i :: .ref (j_rho G a) :: st.map (j_tv G)))
  rw [j_ro h1 ha]
  exact va_zast F.1 F.2.1 C.1 h1.1 j_ws_D h2 a 2 (j_at ha (j_c_3 hs)) rfl hin hd (j_fin (M' := j_sI M a i.toNatClampNeg (vp_nar .boolean x)) F C h1 h3 hz rfl (fun _ h => j_c_sI_ne h) (by rw [j_c_3 (M := j_sI M a i.toNatClampNeg (vp_nar .boolean x)) hs, j_upI]) kk)
theorem J_cast {a n : Nat} {i x : Int32} (hd : decode md.2.1 pc = .ok (.castore, 1)) (hp : pc + 1 = pc') (hs : j_S M a = (4, n)) (ha : a < j_N M) (hin : vp_in i n) (kk : JJ l G md R cs mcs Po pc' lv st (j_sI M a i.toNatClampNeg (vp_nar .char x))) : JJ l G md R cs mcs Po pc lv (.int x :: .int i :: .ref a :: st) M := by
  subst hp
  intro p e s m args below meth c H locs ls F C h1 h2 h3 hz
  show W p l e R s m args below meth c H locs cs.1 cs.2 _ (F0 m pc ls (.int x :: .int i :: .ref (j_rho G a) :: st.map (j_tv G)))
  rw [j_ro h1 ha]
  exact va_cast F.1 F.2.1 C.1 h1.1 j_ws_D h2 a 3 (j_at ha (j_c_4 hs)) rfl hin hd (j_fin (M' := j_sI M a i.toNatClampNeg (vp_nar .char x)) F C h1 h3 hz rfl (fun _ h => j_c_sI_ne h) (by rw [j_c_4 (M := j_sI M a i.toNatClampNeg (vp_nar .char x)) hs, j_upI]) kk)
theorem J_last {a n : Nat} {i : Int32} {x : Int64} (hd : decode md.2.1 pc = .ok (.lastore, 1)) (hp : pc + 1 = pc') (hs : j_S M a = (2, n)) (ha : a < j_N M) (hin : vp_in i n) (kk : JJ l G md R cs mcs Po pc' lv st (j_sL M a i.toNatClampNeg x)) : JJ l G md R cs mcs Po pc lv (.long x :: .int i :: .ref a :: st) M := by
  subst hp
  intro p e s m args below meth c H locs ls F C h1 h2 h3 hz
  show W p l e R s m args below meth c H locs cs.1 cs.2 _ (F0 m pc ls (.long x :: .int i :: .ref (j_rho G a) :: st.map (j_tv G)))
  rw [j_ro h1 ha]
  exact va_last F.1 F.2.1 C.1 h1.1 j_ws_D h2 a 1 (j_at ha (j_c_2 hs)) rfl hin hd (j_fin (M' := j_sL M a i.toNatClampNeg x) F C h1 h3 hz rfl (fun _ h => j_c_sL_ne h) (by rw [j_c_2 (M := j_sL M a i.toNatClampNeg x) hs, j_upL]) kk)
end
