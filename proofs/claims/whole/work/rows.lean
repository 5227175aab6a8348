section
-- ===== PART A: goes FIRST, ahead of the names: the tables' words, and 'selects' of the private methods out of them =====
/-- a private method of a class that the tables say can be made, by its rows of tables_1 -/
def lw_okq (q : MethodName × Nat) : Prop := (q.1.cls ≠ "java/lang/invoke/MethodHandle" ∧ q.1.cls ≠ "java/lang/invoke/VarHandle") ∧ Cond.instantiable q.1.cls q.2 ∈ tables_1 ∧ Cond.privateMethod q.1 ∈ tables_1 ∧ Cond.instanceMethod q.1 ∈ tables_1
theorem lw_p0 : lw_okq (⟨"SwimLanes$Bath", "begin", "()V"⟩, 12) := ⟨⟨by decide +kernel, by decide +kernel⟩, List.mem_of_getElem? (i := 118) (by decide +kernel), List.mem_of_getElem? (i := 124) (by decide +kernel), List.mem_of_getElem? (i := 125) (by decide +kernel)⟩
theorem lw_p1 : lw_okq (⟨"SwimLanes", "bad", "()I"⟩, 12) := ⟨⟨by decide +kernel, by decide +kernel⟩, List.mem_of_getElem? (i := 21) (by decide +kernel), List.mem_of_getElem? (i := 240) (by decide +kernel), List.mem_of_getElem? (i := 241) (by decide +kernel)⟩
theorem lw_p2 : lw_okq (⟨"SwimLanes$Bath", "members", "([II)I"⟩, 12) := ⟨⟨by decide +kernel, by decide +kernel⟩, List.mem_of_getElem? (i := 118) (by decide +kernel), List.mem_of_getElem? (i := 248) (by decide +kernel), List.mem_of_getElem? (i := 249) (by decide +kernel)⟩
theorem lw_p3 : lw_okq (⟨"SwimLanes", "no", "()I"⟩, 12) := ⟨⟨by decide +kernel, by decide +kernel⟩, List.mem_of_getElem? (i := 21) (by decide +kernel), List.mem_of_getElem? (i := 252) (by decide +kernel), List.mem_of_getElem? (i := 253) (by decide +kernel)⟩
theorem lw_p4 : lw_okq (⟨"SwimLanes$Bath", "isOpen", "(I)Z"⟩, 12) := ⟨⟨by decide +kernel, by decide +kernel⟩, List.mem_of_getElem? (i := 118) (by decide +kernel), List.mem_of_getElem? (i := 266) (by decide +kernel), List.mem_of_getElem? (i := 267) (by decide +kernel)⟩
theorem lw_p5 : lw_okq (⟨"SwimLanes", "full", "()I"⟩, 12) := ⟨⟨by decide +kernel, by decide +kernel⟩, List.mem_of_getElem? (i := 21) (by decide +kernel), List.mem_of_getElem? (i := 270) (by decide +kernel), List.mem_of_getElem? (i := 271) (by decide +kernel)⟩
theorem lw_p6 : lw_okq (⟨"SwimLanes$Bath", "comes", "(III)I"⟩, 12) := ⟨⟨by decide +kernel, by decide +kernel⟩, List.mem_of_getElem? (i := 118) (by decide +kernel), List.mem_of_getElem? (i := 274) (by decide +kernel), List.mem_of_getElem? (i := 275) (by decide +kernel)⟩
theorem lw_p7 : lw_okq (⟨"SwimLanes$Text", "add", "(I)I"⟩, 4) := ⟨⟨by decide +kernel, by decide +kernel⟩, List.mem_of_getElem? (i := 53) (by decide +kernel), List.mem_of_getElem? (i := 282) (by decide +kernel), List.mem_of_getElem? (i := 283) (by decide +kernel)⟩
theorem lw_p8 : lw_okq (⟨"SwimLanes$Text", "tellTo", "(LSwimLanes$Bath;)I"⟩, 4) := ⟨⟨by decide +kernel, by decide +kernel⟩, List.mem_of_getElem? (i := 53) (by decide +kernel), List.mem_of_getElem? (i := 294) (by decide +kernel), List.mem_of_getElem? (i := 295) (by decide +kernel)⟩
theorem lw_p9 : lw_okq (⟨"SwimLanes$Text", "next", "()V"⟩, 4) := ⟨⟨by decide +kernel, by decide +kernel⟩, List.mem_of_getElem? (i := 53) (by decide +kernel), List.mem_of_getElem? (i := 299) (by decide +kernel), List.mem_of_getElem? (i := 300) (by decide +kernel)⟩
theorem lw_p10 : lw_okq (⟨"SwimLanes$Text", "sortAt", "(I)I"⟩, 4) := ⟨⟨by decide +kernel, by decide +kernel⟩, List.mem_of_getElem? (i := 53) (by decide +kernel), List.mem_of_getElem? (i := 303) (by decide +kernel), List.mem_of_getElem? (i := 304) (by decide +kernel)⟩
theorem lw_p11 : lw_okq (⟨"SwimLanes$Text", "isWord", "(Ljava/lang/String;)Z"⟩, 4) := ⟨⟨by decide +kernel, by decide +kernel⟩, List.mem_of_getElem? (i := 53) (by decide +kernel), List.mem_of_getElem? (i := 308) (by decide +kernel), List.mem_of_getElem? (i := 309) (by decide +kernel)⟩
theorem lw_p12 : lw_okq (⟨"SwimLanes$Text", "nextEndsItem", "()Z"⟩, 4) := ⟨⟨by decide +kernel, by decide +kernel⟩, List.mem_of_getElem? (i := 53) (by decide +kernel), List.mem_of_getElem? (i := 360) (by decide +kernel), List.mem_of_getElem? (i := 361) (by decide +kernel)⟩
theorem lw_p13 : lw_okq (⟨"SwimLanes$Text", "tellItem", "(LSwimLanes$Bath;)Z"⟩, 4) := ⟨⟨by decide +kernel, by decide +kernel⟩, List.mem_of_getElem? (i := 53) (by decide +kernel), List.mem_of_getElem? (i := 364) (by decide +kernel), List.mem_of_getElem? (i := 365) (by decide +kernel)⟩
theorem lw_p14 : lw_okq (⟨"SwimLanes$Text", "tellSign", "(LSwimLanes$Bath;)Z"⟩, 4) := ⟨⟨by decide +kernel, by decide +kernel⟩, List.mem_of_getElem? (i := 53) (by decide +kernel), List.mem_of_getElem? (i := 369) (by decide +kernel), List.mem_of_getElem? (i := 370) (by decide +kernel)⟩
theorem lw_p15 : lw_okq (⟨"SwimLanes$Text", "nextNumber", "()I"⟩, 4) := ⟨⟨by decide +kernel, by decide +kernel⟩, List.mem_of_getElem? (i := 53) (by decide +kernel), List.mem_of_getElem? (i := 373) (by decide +kernel), List.mem_of_getElem? (i := 374) (by decide +kernel)⟩
def lw_privs_1 : List (MethodName × Nat) := [(⟨"SwimLanes$Bath", "begin", "()V"⟩, 12), (⟨"SwimLanes", "bad", "()I"⟩, 12), (⟨"SwimLanes$Bath", "members", "([II)I"⟩, 12), (⟨"SwimLanes", "no", "()I"⟩, 12), (⟨"SwimLanes$Bath", "isOpen", "(I)Z"⟩, 12), (⟨"SwimLanes", "full", "()I"⟩, 12), (⟨"SwimLanes$Bath", "comes", "(III)I"⟩, 12), (⟨"SwimLanes$Text", "add", "(I)I"⟩, 4), (⟨"SwimLanes$Text", "tellTo", "(LSwimLanes$Bath;)I"⟩, 4), (⟨"SwimLanes$Text", "next", "()V"⟩, 4), (⟨"SwimLanes$Text", "sortAt", "(I)I"⟩, 4), (⟨"SwimLanes$Text", "isWord", "(Ljava/lang/String;)Z"⟩, 4), (⟨"SwimLanes$Text", "nextEndsItem", "()Z"⟩, 4), (⟨"SwimLanes$Text", "tellItem", "(LSwimLanes$Bath;)Z"⟩, 4), (⟨"SwimLanes$Text", "tellSign", "(LSwimLanes$Bath;)Z"⟩, 4), (⟨"SwimLanes$Text", "nextNumber", "()I"⟩, 4)]
theorem lw_r1 : ∀ q ∈ lw_privs_1, lw_okq q := List.forall_mem_cons.mpr ⟨lw_p0, List.forall_mem_cons.mpr ⟨lw_p1, List.forall_mem_cons.mpr ⟨lw_p2, List.forall_mem_cons.mpr ⟨lw_p3, List.forall_mem_cons.mpr ⟨lw_p4, List.forall_mem_cons.mpr ⟨lw_p5, List.forall_mem_cons.mpr ⟨lw_p6, List.forall_mem_cons.mpr ⟨lw_p7, List.forall_mem_cons.mpr ⟨lw_p8, List.forall_mem_cons.mpr ⟨lw_p9, List.forall_mem_cons.mpr ⟨lw_p10, List.forall_mem_cons.mpr ⟨lw_p11, List.forall_mem_cons.mpr ⟨lw_p12, List.forall_mem_cons.mpr ⟨lw_p13, List.forall_mem_cons.mpr ⟨lw_p14, List.forall_mem_cons.mpr ⟨lw_p15, fun _ h => absurd h List.not_mem_nil⟩⟩⟩⟩⟩⟩⟩⟩⟩⟩⟩⟩⟩⟩⟩⟩
theorem lw_p16 : lw_okq (⟨"SwimLanes$Text", "tellShut", "(LSwimLanes$Bath;)Z"⟩, 4) := ⟨⟨by decide +kernel, by decide +kernel⟩, List.mem_of_getElem? (i := 53) (by decide +kernel), List.mem_of_getElem? (i := 380) (by decide +kernel), List.mem_of_getElem? (i := 381) (by decide +kernel)⟩
theorem lw_p17 : lw_okq (⟨"SwimLanes$Text", "tellOne", "(LSwimLanes$Bath;)Z"⟩, 4) := ⟨⟨by decide +kernel, by decide +kernel⟩, List.mem_of_getElem? (i := 53) (by decide +kernel), List.mem_of_getElem? (i := 386) (by decide +kernel), List.mem_of_getElem? (i := 387) (by decide +kernel)⟩
theorem lw_p18 : lw_okq (⟨"SwimLanes$Bath", "becomes", "(LSwimLanes$Bath;)V"⟩, 12) := ⟨⟨by decide +kernel, by decide +kernel⟩, List.mem_of_getElem? (i := 118) (by decide +kernel), List.mem_of_getElem? (i := 394) (by decide +kernel), List.mem_of_getElem? (i := 395) (by decide +kernel)⟩
theorem lw_p19 : lw_okq (⟨"SwimLanes", "isOne", "(I)Z"⟩, 12) := ⟨⟨by decide +kernel, by decide +kernel⟩, List.mem_of_getElem? (i := 21) (by decide +kernel), List.mem_of_getElem? (i := 403) (by decide +kernel), List.mem_of_getElem? (i := 404) (by decide +kernel)⟩
theorem lw_p20 : lw_okq (⟨"SwimLanes$Bath", "laneOf", "(I)I"⟩, 12) := ⟨⟨by decide +kernel, by decide +kernel⟩, List.mem_of_getElem? (i := 118) (by decide +kernel), List.mem_of_getElem? (i := 407) (by decide +kernel), List.mem_of_getElem? (i := 408) (by decide +kernel)⟩
theorem lw_p21 : lw_okq (⟨"SwimLanes$Bath", "keepForUndo", "()V"⟩, 12) := ⟨⟨by decide +kernel, by decide +kernel⟩, List.mem_of_getElem? (i := 118) (by decide +kernel), List.mem_of_getElem? (i := 411) (by decide +kernel), List.mem_of_getElem? (i := 412) (by decide +kernel)⟩
theorem lw_p22 : lw_okq (⟨"SwimLanes$Bath", "minuteGoesBy", "([I)I"⟩, 12) := ⟨⟨by decide +kernel, by decide +kernel⟩, List.mem_of_getElem? (i := 118) (by decide +kernel), List.mem_of_getElem? (i := 419) (by decide +kernel), List.mem_of_getElem? (i := 420) (by decide +kernel)⟩
theorem lw_p23 : lw_okq (⟨"SwimLanes$Bath", "swimsAMinute", "([II)I"⟩, 12) := ⟨⟨by decide +kernel, by decide +kernel⟩, List.mem_of_getElem? (i := 118) (by decide +kernel), List.mem_of_getElem? (i := 423) (by decide +kernel), List.mem_of_getElem? (i := 424) (by decide +kernel)⟩
theorem lw_p24 : lw_okq (⟨"SwimLanes$Bath", "takesIn", "([III)I"⟩, 12) := ⟨⟨by decide +kernel, by decide +kernel⟩, List.mem_of_getElem? (i := 118) (by decide +kernel), List.mem_of_getElem? (i := 427) (by decide +kernel), List.mem_of_getElem? (i := 428) (by decide +kernel)⟩
theorem lw_p25 : lw_okq (⟨"SwimLanes$Bath", "others", "([III)I"⟩, 12) := ⟨⟨by decide +kernel, by decide +kernel⟩, List.mem_of_getElem? (i := 118) (by decide +kernel), List.mem_of_getElem? (i := 431) (by decide +kernel), List.mem_of_getElem? (i := 432) (by decide +kernel)⟩
theorem lw_p26 : lw_okq (⟨"SwimLanes$Bath", "takesAs", "(III)I"⟩, 12) := ⟨⟨by decide +kernel, by decide +kernel⟩, List.mem_of_getElem? (i := 118) (by decide +kernel), List.mem_of_getElem? (i := 436) (by decide +kernel), List.mem_of_getElem? (i := 437) (by decide +kernel)⟩
theorem lw_p27 : lw_okq (⟨"SwimLanes$Bath", "greatestPace", "(I)I"⟩, 12) := ⟨⟨by decide +kernel, by decide +kernel⟩, List.mem_of_getElem? (i := 118) (by decide +kernel), List.mem_of_getElem? (i := 440) (by decide +kernel), List.mem_of_getElem? (i := 441) (by decide +kernel)⟩
theorem lw_p28 : lw_okq (⟨"SwimLanes$Bath", "slowerThan", "(II)I"⟩, 12) := ⟨⟨by decide +kernel, by decide +kernel⟩, List.mem_of_getElem? (i := 118) (by decide +kernel), List.mem_of_getElem? (i := 450) (by decide +kernel), List.mem_of_getElem? (i := 451) (by decide +kernel)⟩
theorem lw_p29 : lw_okq (⟨"SwimLanes$Bath", "takeBack", "()V"⟩, 12) := ⟨⟨by decide +kernel, by decide +kernel⟩, List.mem_of_getElem? (i := 118) (by decide +kernel), List.mem_of_getElem? (i := 487) (by decide +kernel), List.mem_of_getElem? (i := 488) (by decide +kernel)⟩
theorem lw_p30 : lw_okq (⟨"SwimLanes$Bath", "believedBy", "(I)I"⟩, 12) := ⟨⟨by decide +kernel, by decide +kernel⟩, List.mem_of_getElem? (i := 118) (by decide +kernel), List.mem_of_getElem? (i := 495) (by decide +kernel), List.mem_of_getElem? (i := 496) (by decide +kernel)⟩
theorem lw_p31 : lw_okq (⟨"SwimLanes$Bath", "takes", "(II)I"⟩, 12) := ⟨⟨by decide +kernel, by decide +kernel⟩, List.mem_of_getElem? (i := 118) (by decide +kernel), List.mem_of_getElem? (i := 526) (by decide +kernel), List.mem_of_getElem? (i := 527) (by decide +kernel)⟩
def lw_privs_2 : List (MethodName × Nat) := [(⟨"SwimLanes$Text", "tellShut", "(LSwimLanes$Bath;)Z"⟩, 4), (⟨"SwimLanes$Text", "tellOne", "(LSwimLanes$Bath;)Z"⟩, 4), (⟨"SwimLanes$Bath", "becomes", "(LSwimLanes$Bath;)V"⟩, 12), (⟨"SwimLanes", "isOne", "(I)Z"⟩, 12), (⟨"SwimLanes$Bath", "laneOf", "(I)I"⟩, 12), (⟨"SwimLanes$Bath", "keepForUndo", "()V"⟩, 12), (⟨"SwimLanes$Bath", "minuteGoesBy", "([I)I"⟩, 12), (⟨"SwimLanes$Bath", "swimsAMinute", "([II)I"⟩, 12), (⟨"SwimLanes$Bath", "takesIn", "([III)I"⟩, 12), (⟨"SwimLanes$Bath", "others", "([III)I"⟩, 12), (⟨"SwimLanes$Bath", "takesAs", "(III)I"⟩, 12), (⟨"SwimLanes$Bath", "greatestPace", "(I)I"⟩, 12), (⟨"SwimLanes$Bath", "slowerThan", "(II)I"⟩, 12), (⟨"SwimLanes$Bath", "takeBack", "()V"⟩, 12), (⟨"SwimLanes$Bath", "believedBy", "(I)I"⟩, 12), (⟨"SwimLanes$Bath", "takes", "(II)I"⟩, 12)]
theorem lw_r2 : ∀ q ∈ lw_privs_2, lw_okq q := List.forall_mem_cons.mpr ⟨lw_p16, List.forall_mem_cons.mpr ⟨lw_p17, List.forall_mem_cons.mpr ⟨lw_p18, List.forall_mem_cons.mpr ⟨lw_p19, List.forall_mem_cons.mpr ⟨lw_p20, List.forall_mem_cons.mpr ⟨lw_p21, List.forall_mem_cons.mpr ⟨lw_p22, List.forall_mem_cons.mpr ⟨lw_p23, List.forall_mem_cons.mpr ⟨lw_p24, List.forall_mem_cons.mpr ⟨lw_p25, List.forall_mem_cons.mpr ⟨lw_p26, List.forall_mem_cons.mpr ⟨lw_p27, List.forall_mem_cons.mpr ⟨lw_p28, List.forall_mem_cons.mpr ⟨lw_p29, List.forall_mem_cons.mpr ⟨lw_p30, List.forall_mem_cons.mpr ⟨lw_p31, fun _ h => absurd h List.not_mem_nil⟩⟩⟩⟩⟩⟩⟩⟩⟩⟩⟩⟩⟩⟩⟩⟩
theorem lw_p32 : lw_okq (⟨"SwimLanes", "lengthsToCome", "(II)I"⟩, 12) := ⟨⟨by decide +kernel, by decide +kernel⟩, List.mem_of_getElem? (i := 21) (by decide +kernel), List.mem_of_getElem? (i := 536) (by decide +kernel), List.mem_of_getElem? (i := 537) (by decide +kernel)⟩
theorem lw_p33 : lw_okq (⟨"SwimLanes$Bath", "quickestLane", "([II)I"⟩, 12) := ⟨⟨by decide +kernel, by decide +kernel⟩, List.mem_of_getElem? (i := 118) (by decide +kernel), List.mem_of_getElem? (i := 545) (by decide +kernel), List.mem_of_getElem? (i := 546) (by decide +kernel)⟩
theorem lw_p34 : lw_okq (⟨"SwimLanes$Bath", "leastOpenLane", "()I"⟩, 12) := ⟨⟨by decide +kernel, by decide +kernel⟩, List.mem_of_getElem? (i := 118) (by decide +kernel), List.mem_of_getElem? (i := 549) (by decide +kernel), List.mem_of_getElem? (i := 550) (by decide +kernel)⟩
theorem lw_p35 : lw_okq (⟨"SwimLanes$Bath", "costTo", "(II)I"⟩, 12) := ⟨⟨by decide +kernel, by decide +kernel⟩, List.mem_of_getElem? (i := 118) (by decide +kernel), List.mem_of_getElem? (i := 558) (by decide +kernel), List.mem_of_getElem? (i := 559) (by decide +kernel)⟩
theorem lw_p36 : lw_okq (⟨"SwimLanes", "cheapestLane", "(I)I"⟩, 12) := ⟨⟨by decide +kernel, by decide +kernel⟩, List.mem_of_getElem? (i := 21) (by decide +kernel), List.mem_of_getElem? (i := 567) (by decide +kernel), List.mem_of_getElem? (i := 568) (by decide +kernel)⟩
theorem lw_p37 : lw_okq (⟨"SwimLanes", "badAsTen", "()I"⟩, 12) := ⟨⟨by decide +kernel, by decide +kernel⟩, List.mem_of_getElem? (i := 21) (by decide +kernel), List.mem_of_getElem? (i := 583) (by decide +kernel), List.mem_of_getElem? (i := 584) (by decide +kernel)⟩
theorem lw_p38 : lw_okq (⟨"SwimLanes$Plan", "begin", "()V"⟩, 4) := ⟨⟨by decide +kernel, by decide +kernel⟩, List.mem_of_getElem? (i := 31) (by decide +kernel), List.mem_of_getElem? (i := 587) (by decide +kernel), List.mem_of_getElem? (i := 588) (by decide +kernel)⟩
theorem lw_p39 : lw_okq (⟨"SwimLanes$Plan", "place", "(LSwimLanes$Bath;II)V"⟩, 4) := ⟨⟨by decide +kernel, by decide +kernel⟩, List.mem_of_getElem? (i := 31) (by decide +kernel), List.mem_of_getElem? (i := 593) (by decide +kernel), List.mem_of_getElem? (i := 594) (by decide +kernel)⟩
theorem lw_p40 : lw_okq (⟨"SwimLanes", "changeTillNobodyWould", "([I)I"⟩, 12) := ⟨⟨by decide +kernel, by decide +kernel⟩, List.mem_of_getElem? (i := 21) (by decide +kernel), List.mem_of_getElem? (i := 607) (by decide +kernel), List.mem_of_getElem? (i := 608) (by decide +kernel)⟩
theorem lw_p41 : lw_okq (⟨"SwimLanes", "ordersOf", "(III)I"⟩, 12) := ⟨⟨by decide +kernel, by decide +kernel⟩, List.mem_of_getElem? (i := 21) (by decide +kernel), List.mem_of_getElem? (i := 615) (by decide +kernel), List.mem_of_getElem? (i := 616) (by decide +kernel)⟩
theorem lw_p42 : lw_okq (⟨"SwimLanes", "placesFor", "(IIII)I"⟩, 12) := ⟨⟨by decide +kernel, by decide +kernel⟩, List.mem_of_getElem? (i := 21) (by decide +kernel), List.mem_of_getElem? (i := 620) (by decide +kernel), List.mem_of_getElem? (i := 621) (by decide +kernel)⟩
theorem lw_p43 : lw_okq (⟨"SwimLanes", "ranksBelow", "(II)Z"⟩, 12) := ⟨⟨by decide +kernel, by decide +kernel⟩, List.mem_of_getElem? (i := 21) (by decide +kernel), List.mem_of_getElem? (i := 624) (by decide +kernel), List.mem_of_getElem? (i := 625) (by decide +kernel)⟩
theorem lw_p44 : lw_okq (⟨"SwimLanes", "mayFollow", "(IIII)Z"⟩, 12) := ⟨⟨by decide +kernel, by decide +kernel⟩, List.mem_of_getElem? (i := 21) (by decide +kernel), List.mem_of_getElem? (i := 628) (by decide +kernel), List.mem_of_getElem? (i := 629) (by decide +kernel)⟩
theorem lw_p45 : lw_okq (⟨"SwimLanes", "starter", "(IIII)I"⟩, 12) := ⟨⟨by decide +kernel, by decide +kernel⟩, List.mem_of_getElem? (i := 21) (by decide +kernel), List.mem_of_getElem? (i := 632) (by decide +kernel), List.mem_of_getElem? (i := 633) (by decide +kernel)⟩
theorem lw_p46 : lw_okq (⟨"SwimLanes", "nextStarter", "(IIII)I"⟩, 12) := ⟨⟨by decide +kernel, by decide +kernel⟩, List.mem_of_getElem? (i := 21) (by decide +kernel), List.mem_of_getElem? (i := 636) (by decide +kernel), List.mem_of_getElem? (i := 637) (by decide +kernel)⟩
theorem lw_p47 : lw_okq (⟨"SwimLanes", "restMayFollow", "(IIII)Z"⟩, 12) := ⟨⟨by decide +kernel, by decide +kernel⟩, List.mem_of_getElem? (i := 21) (by decide +kernel), List.mem_of_getElem? (i := 640) (by decide +kernel), List.mem_of_getElem? (i := 641) (by decide +kernel)⟩
def lw_privs_3 : List (MethodName × Nat) := [(⟨"SwimLanes", "lengthsToCome", "(II)I"⟩, 12), (⟨"SwimLanes$Bath", "quickestLane", "([II)I"⟩, 12), (⟨"SwimLanes$Bath", "leastOpenLane", "()I"⟩, 12), (⟨"SwimLanes$Bath", "costTo", "(II)I"⟩, 12), (⟨"SwimLanes", "cheapestLane", "(I)I"⟩, 12), (⟨"SwimLanes", "badAsTen", "()I"⟩, 12), (⟨"SwimLanes$Plan", "begin", "()V"⟩, 4), (⟨"SwimLanes$Plan", "place", "(LSwimLanes$Bath;II)V"⟩, 4), (⟨"SwimLanes", "changeTillNobodyWould", "([I)I"⟩, 12), (⟨"SwimLanes", "ordersOf", "(III)I"⟩, 12), (⟨"SwimLanes", "placesFor", "(IIII)I"⟩, 12), (⟨"SwimLanes", "ranksBelow", "(II)Z"⟩, 12), (⟨"SwimLanes", "mayFollow", "(IIII)Z"⟩, 12), (⟨"SwimLanes", "starter", "(IIII)I"⟩, 12), (⟨"SwimLanes", "nextStarter", "(IIII)I"⟩, 12), (⟨"SwimLanes", "restMayFollow", "(IIII)Z"⟩, 12)]
theorem lw_r3 : ∀ q ∈ lw_privs_3, lw_okq q := List.forall_mem_cons.mpr ⟨lw_p32, List.forall_mem_cons.mpr ⟨lw_p33, List.forall_mem_cons.mpr ⟨lw_p34, List.forall_mem_cons.mpr ⟨lw_p35, List.forall_mem_cons.mpr ⟨lw_p36, List.forall_mem_cons.mpr ⟨lw_p37, List.forall_mem_cons.mpr ⟨lw_p38, List.forall_mem_cons.mpr ⟨lw_p39, List.forall_mem_cons.mpr ⟨lw_p40, List.forall_mem_cons.mpr ⟨lw_p41, List.forall_mem_cons.mpr ⟨lw_p42, List.forall_mem_cons.mpr ⟨lw_p43, List.forall_mem_cons.mpr ⟨lw_p44, List.forall_mem_cons.mpr ⟨lw_p45, List.forall_mem_cons.mpr ⟨lw_p46, List.forall_mem_cons.mpr ⟨lw_p47, fun _ h => absurd h List.not_mem_nil⟩⟩⟩⟩⟩⟩⟩⟩⟩⟩⟩⟩⟩⟩⟩⟩
theorem lw_p48 : lw_okq (⟨"SwimLanes", "hasStepAbove", "(IIIII)Z"⟩, 12) := ⟨⟨by decide +kernel, by decide +kernel⟩, List.mem_of_getElem? (i := 21) (by decide +kernel), List.mem_of_getElem? (i := 644) (by decide +kernel), List.mem_of_getElem? (i := 645) (by decide +kernel)⟩
theorem lw_p49 : lw_okq (⟨"SwimLanes", "leastApart", "(II)I"⟩, 12) := ⟨⟨by decide +kernel, by decide +kernel⟩, List.mem_of_getElem? (i := 21) (by decide +kernel), List.mem_of_getElem? (i := 652) (by decide +kernel), List.mem_of_getElem? (i := 653) (by decide +kernel)⟩
theorem lw_p50 : lw_okq (⟨"SwimLanes$Bath", "writeDown", "(IIIII)I"⟩, 12) := ⟨⟨by decide +kernel, by decide +kernel⟩, List.mem_of_getElem? (i := 118) (by decide +kernel), List.mem_of_getElem? (i := 661) (by decide +kernel), List.mem_of_getElem? (i := 662) (by decide +kernel)⟩
theorem lw_p51 : lw_okq (⟨"SwimLanes", "kindsThatFit", "(I)I"⟩, 12) := ⟨⟨by decide +kernel, by decide +kernel⟩, List.mem_of_getElem? (i := 21) (by decide +kernel), List.mem_of_getElem? (i := 673) (by decide +kernel), List.mem_of_getElem? (i := 674) (by decide +kernel)⟩
theorem lw_p52 : lw_okq (⟨"SwimLanes$Bath", "notesFit", "(III)Z"⟩, 12) := ⟨⟨by decide +kernel, by decide +kernel⟩, List.mem_of_getElem? (i := 118) (by decide +kernel), List.mem_of_getElem? (i := 677) (by decide +kernel), List.mem_of_getElem? (i := 678) (by decide +kernel)⟩
theorem lw_p53 : lw_okq (⟨"SwimLanes", "pacesThatFit", "(I)I"⟩, 12) := ⟨⟨by decide +kernel, by decide +kernel⟩, List.mem_of_getElem? (i := 21) (by decide +kernel), List.mem_of_getElem? (i := 681) (by decide +kernel), List.mem_of_getElem? (i := 682) (by decide +kernel)⟩
theorem lw_p54 : lw_okq (⟨"SwimLanes", "tellingLane", "(II)I"⟩, 12) := ⟨⟨by decide +kernel, by decide +kernel⟩, List.mem_of_getElem? (i := 21) (by decide +kernel), List.mem_of_getElem? (i := 689) (by decide +kernel), List.mem_of_getElem? (i := 690) (by decide +kernel)⟩
theorem lw_p55 : lw_okq (⟨"SwimLanes", "mostAlike", "(III)I"⟩, 12) := ⟨⟨by decide +kernel, by decide +kernel⟩, List.mem_of_getElem? (i := 21) (by decide +kernel), List.mem_of_getElem? (i := 693) (by decide +kernel), List.mem_of_getElem? (i := 694) (by decide +kernel)⟩
theorem lw_p56 : lw_okq (⟨"SwimLanes", "howManyAlike", "(IIII)I"⟩, 12) := ⟨⟨by decide +kernel, by decide +kernel⟩, List.mem_of_getElem? (i := 21) (by decide +kernel), List.mem_of_getElem? (i := 698) (by decide +kernel), List.mem_of_getElem? (i := 699) (by decide +kernel)⟩
theorem lw_p57 : lw_okq (⟨"SwimLanes", "countWays", "(II)V"⟩, 12) := ⟨⟨by decide +kernel, by decide +kernel⟩, List.mem_of_getElem? (i := 21) (by decide +kernel), List.mem_of_getElem? (i := 719) (by decide +kernel), List.mem_of_getElem? (i := 720) (by decide +kernel)⟩
theorem lw_p58 : lw_okq (⟨"SwimLanes", "lowerTerms", "(I)V"⟩, 12) := ⟨⟨by decide +kernel, by decide +kernel⟩, List.mem_of_getElem? (i := 21) (by decide +kernel), List.mem_of_getElem? (i := 726) (by decide +kernel), List.mem_of_getElem? (i := 727) (by decide +kernel)⟩
theorem lw_p59 : lw_okq (⟨"SwimLanes", "lowerBy", "(I)V"⟩, 12) := ⟨⟨by decide +kernel, by decide +kernel⟩, List.mem_of_getElem? (i := 21) (by decide +kernel), List.mem_of_getElem? (i := 731) (by decide +kernel), List.mem_of_getElem? (i := 732) (by decide +kernel)⟩
theorem lw_p60 : lw_okq (⟨"SwimLanes", "howMany", "(I)I"⟩, 12) := ⟨⟨by decide +kernel, by decide +kernel⟩, List.mem_of_getElem? (i := 21) (by decide +kernel), List.mem_of_getElem? (i := 768) (by decide +kernel), List.mem_of_getElem? (i := 769) (by decide +kernel)⟩
theorem lw_p61 : lw_okq (⟨"SwimLanes$Bath", "openLanes", "()I"⟩, 12) := ⟨⟨by decide +kernel, by decide +kernel⟩, List.mem_of_getElem? (i := 118) (by decide +kernel), List.mem_of_getElem? (i := 772) (by decide +kernel), List.mem_of_getElem? (i := 773) (by decide +kernel)⟩
theorem lw_p62 : lw_okq (⟨"SwimLanes$Bath", "lengthsOfAll", "()I"⟩, 12) := ⟨⟨by decide +kernel, by decide +kernel⟩, List.mem_of_getElem? (i := 118) (by decide +kernel), List.mem_of_getElem? (i := 776) (by decide +kernel), List.mem_of_getElem? (i := 777) (by decide +kernel)⟩
theorem lw_p63 : lw_okq (⟨"SwimLanes$Bath", "digestFrom", "(J)J"⟩, 12) := ⟨⟨by decide +kernel, by decide +kernel⟩, List.mem_of_getElem? (i := 118) (by decide +kernel), List.mem_of_getElem? (i := 786) (by decide +kernel), List.mem_of_getElem? (i := 787) (by decide +kernel)⟩
def lw_privs_4 : List (MethodName × Nat) := [(⟨"SwimLanes", "hasStepAbove", "(IIIII)Z"⟩, 12), (⟨"SwimLanes", "leastApart", "(II)I"⟩, 12), (⟨"SwimLanes$Bath", "writeDown", "(IIIII)I"⟩, 12), (⟨"SwimLanes", "kindsThatFit", "(I)I"⟩, 12), (⟨"SwimLanes$Bath", "notesFit", "(III)Z"⟩, 12), (⟨"SwimLanes", "pacesThatFit", "(I)I"⟩, 12), (⟨"SwimLanes", "tellingLane", "(II)I"⟩, 12), (⟨"SwimLanes", "mostAlike", "(III)I"⟩, 12), (⟨"SwimLanes", "howManyAlike", "(IIII)I"⟩, 12), (⟨"SwimLanes", "countWays", "(II)V"⟩, 12), (⟨"SwimLanes", "lowerTerms", "(I)V"⟩, 12), (⟨"SwimLanes", "lowerBy", "(I)V"⟩, 12), (⟨"SwimLanes", "howMany", "(I)I"⟩, 12), (⟨"SwimLanes$Bath", "openLanes", "()I"⟩, 12), (⟨"SwimLanes$Bath", "lengthsOfAll", "()I"⟩, 12), (⟨"SwimLanes$Bath", "digestFrom", "(J)J"⟩, 12)]
theorem lw_r4 : ∀ q ∈ lw_privs_4, lw_okq q := List.forall_mem_cons.mpr ⟨lw_p48, List.forall_mem_cons.mpr ⟨lw_p49, List.forall_mem_cons.mpr ⟨lw_p50, List.forall_mem_cons.mpr ⟨lw_p51, List.forall_mem_cons.mpr ⟨lw_p52, List.forall_mem_cons.mpr ⟨lw_p53, List.forall_mem_cons.mpr ⟨lw_p54, List.forall_mem_cons.mpr ⟨lw_p55, List.forall_mem_cons.mpr ⟨lw_p56, List.forall_mem_cons.mpr ⟨lw_p57, List.forall_mem_cons.mpr ⟨lw_p58, List.forall_mem_cons.mpr ⟨lw_p59, List.forall_mem_cons.mpr ⟨lw_p60, List.forall_mem_cons.mpr ⟨lw_p61, List.forall_mem_cons.mpr ⟨lw_p62, List.forall_mem_cons.mpr ⟨lw_p63, fun _ h => absurd h List.not_mem_nil⟩⟩⟩⟩⟩⟩⟩⟩⟩⟩⟩⟩⟩⟩⟩⟩
theorem lw_p64 : lw_okq (⟨"SwimLanesModel", "many", "()I"⟩, 26) := ⟨⟨by decide +kernel, by decide +kernel⟩, List.mem_of_getElem? (i := 791) (by decide +kernel), List.mem_of_getElem? (i := 884) (by decide +kernel), List.mem_of_getElem? (i := 885) (by decide +kernel)⟩
theorem lw_p65 : lw_okq (⟨"SwimLanesModel", "bad", "(I)I"⟩, 26) := ⟨⟨by decide +kernel, by decide +kernel⟩, List.mem_of_getElem? (i := 791) (by decide +kernel), List.mem_of_getElem? (i := 900) (by decide +kernel), List.mem_of_getElem? (i := 901) (by decide +kernel)⟩
theorem lw_p66 : lw_okq (⟨"SwimLanesModel", "no", "()I"⟩, 26) := ⟨⟨by decide +kernel, by decide +kernel⟩, List.mem_of_getElem? (i := 791) (by decide +kernel), List.mem_of_getElem? (i := 911) (by decide +kernel), List.mem_of_getElem? (i := 912) (by decide +kernel)⟩
theorem lw_p67 : lw_okq (⟨"SwimLanesModel", "isOpen", "(I)Z"⟩, 26) := ⟨⟨by decide +kernel, by decide +kernel⟩, List.mem_of_getElem? (i := 791) (by decide +kernel), List.mem_of_getElem? (i := 922) (by decide +kernel), List.mem_of_getElem? (i := 923) (by decide +kernel)⟩
theorem lw_p68 : lw_okq (⟨"SwimLanesModel", "full", "()I"⟩, 26) := ⟨⟨by decide +kernel, by decide +kernel⟩, List.mem_of_getElem? (i := 791) (by decide +kernel), List.mem_of_getElem? (i := 929) (by decide +kernel), List.mem_of_getElem? (i := 930) (by decide +kernel)⟩
theorem lw_p69 : lw_okq (⟨"SwimLanesModel", "isOne", "(I)Z"⟩, 26) := ⟨⟨by decide +kernel, by decide +kernel⟩, List.mem_of_getElem? (i := 791) (by decide +kernel), List.mem_of_getElem? (i := 940) (by decide +kernel), List.mem_of_getElem? (i := 941) (by decide +kernel)⟩
theorem lw_p70 : lw_okq (⟨"SwimLanesModel", "keep", "()V"⟩, 26) := ⟨⟨by decide +kernel, by decide +kernel⟩, List.mem_of_getElem? (i := 791) (by decide +kernel), List.mem_of_getElem? (i := 944) (by decide +kernel), List.mem_of_getElem? (i := 945) (by decide +kernel)⟩
theorem lw_p71 : lw_okq (⟨"SwimLanesModel", "layHand", "()V"⟩, 26) := ⟨⟨by decide +kernel, by decide +kernel⟩, List.mem_of_getElem? (i := 791) (by decide +kernel), List.mem_of_getElem? (i := 953) (by decide +kernel), List.mem_of_getElem? (i := 954) (by decide +kernel)⟩
theorem lw_p72 : lw_okq (⟨"SwimLanesModel", "secondsIn", "(II)I"⟩, 26) := ⟨⟨by decide +kernel, by decide +kernel⟩, List.mem_of_getElem? (i := 791) (by decide +kernel), List.mem_of_getElem? (i := 957) (by decide +kernel), List.mem_of_getElem? (i := 958) (by decide +kernel)⟩
theorem lw_p73 : lw_okq (⟨"SwimLanesModel", "layOthers", "(II)V"⟩, 26) := ⟨⟨by decide +kernel, by decide +kernel⟩, List.mem_of_getElem? (i := 791) (by decide +kernel), List.mem_of_getElem? (i := 961) (by decide +kernel), List.mem_of_getElem? (i := 962) (by decide +kernel)⟩
theorem lw_p74 : lw_okq (⟨"SwimLanesModel", "paceOf", "(I)I"⟩, 26) := ⟨⟨by decide +kernel, by decide +kernel⟩, List.mem_of_getElem? (i := 791) (by decide +kernel), List.mem_of_getElem? (i := 965) (by decide +kernel), List.mem_of_getElem? (i := 966) (by decide +kernel)⟩
theorem lw_p75 : lw_okq (⟨"SwimLanesModel", "bestOf", "(I)I"⟩, 26) := ⟨⟨by decide +kernel, by decide +kernel⟩, List.mem_of_getElem? (i := 791) (by decide +kernel), List.mem_of_getElem? (i := 999) (by decide +kernel), List.mem_of_getElem? (i := 1000) (by decide +kernel)⟩
theorem lw_p76 : lw_okq (⟨"SwimLanesModel", "costOf", "(II)I"⟩, 26) := ⟨⟨by decide +kernel, by decide +kernel⟩, List.mem_of_getElem? (i := 791) (by decide +kernel), List.mem_of_getElem? (i := 1008) (by decide +kernel), List.mem_of_getElem? (i := 1009) (by decide +kernel)⟩
theorem lw_p77 : lw_okq (⟨"SwimLanesModel", "sumOthers", "(II)I"⟩, 26) := ⟨⟨by decide +kernel, by decide +kernel⟩, List.mem_of_getElem? (i := 791) (by decide +kernel), List.mem_of_getElem? (i := 1012) (by decide +kernel), List.mem_of_getElem? (i := 1013) (by decide +kernel)⟩
theorem lw_p78 : lw_okq (⟨"SwimLanesModel", "layLies", "(I)Z"⟩, 26) := ⟨⟨by decide +kernel, by decide +kernel⟩, List.mem_of_getElem? (i := 791) (by decide +kernel), List.mem_of_getElem? (i := 1032) (by decide +kernel), List.mem_of_getElem? (i := 1033) (by decide +kernel)⟩
theorem lw_p79 : lw_okq (⟨"SwimLanesModel", "sumAll", "()I"⟩, 26) := ⟨⟨by decide +kernel, by decide +kernel⟩, List.mem_of_getElem? (i := 791) (by decide +kernel), List.mem_of_getElem? (i := 1036) (by decide +kernel), List.mem_of_getElem? (i := 1037) (by decide +kernel)⟩
def lw_privs_5 : List (MethodName × Nat) := [(⟨"SwimLanesModel", "many", "()I"⟩, 26), (⟨"SwimLanesModel", "bad", "(I)I"⟩, 26), (⟨"SwimLanesModel", "no", "()I"⟩, 26), (⟨"SwimLanesModel", "isOpen", "(I)Z"⟩, 26), (⟨"SwimLanesModel", "full", "()I"⟩, 26), (⟨"SwimLanesModel", "isOne", "(I)Z"⟩, 26), (⟨"SwimLanesModel", "keep", "()V"⟩, 26), (⟨"SwimLanesModel", "layHand", "()V"⟩, 26), (⟨"SwimLanesModel", "secondsIn", "(II)I"⟩, 26), (⟨"SwimLanesModel", "layOthers", "(II)V"⟩, 26), (⟨"SwimLanesModel", "paceOf", "(I)I"⟩, 26), (⟨"SwimLanesModel", "bestOf", "(I)I"⟩, 26), (⟨"SwimLanesModel", "costOf", "(II)I"⟩, 26), (⟨"SwimLanesModel", "sumOthers", "(II)I"⟩, 26), (⟨"SwimLanesModel", "layLies", "(I)Z"⟩, 26), (⟨"SwimLanesModel", "sumAll", "()I"⟩, 26)]
theorem lw_r5 : ∀ q ∈ lw_privs_5, lw_okq q := List.forall_mem_cons.mpr ⟨lw_p64, List.forall_mem_cons.mpr ⟨lw_p65, List.forall_mem_cons.mpr ⟨lw_p66, List.forall_mem_cons.mpr ⟨lw_p67, List.forall_mem_cons.mpr ⟨lw_p68, List.forall_mem_cons.mpr ⟨lw_p69, List.forall_mem_cons.mpr ⟨lw_p70, List.forall_mem_cons.mpr ⟨lw_p71, List.forall_mem_cons.mpr ⟨lw_p72, List.forall_mem_cons.mpr ⟨lw_p73, List.forall_mem_cons.mpr ⟨lw_p74, List.forall_mem_cons.mpr ⟨lw_p75, List.forall_mem_cons.mpr ⟨lw_p76, List.forall_mem_cons.mpr ⟨lw_p77, List.forall_mem_cons.mpr ⟨lw_p78, List.forall_mem_cons.mpr ⟨lw_p79, fun _ h => absurd h List.not_mem_nil⟩⟩⟩⟩⟩⟩⟩⟩⟩⟩⟩⟩⟩⟩⟩⟩
theorem lw_p80 : lw_okq (⟨"SwimLanesModel", "layStart", "(I)V"⟩, 26) := ⟨⟨by decide +kernel, by decide +kernel⟩, List.mem_of_getElem? (i := 791) (by decide +kernel), List.mem_of_getElem? (i := 1049) (by decide +kernel), List.mem_of_getElem? (i := 1050) (by decide +kernel)⟩
theorem lw_p81 : lw_okq (⟨"SwimLanesModel", "layRow", "(II)V"⟩, 26) := ⟨⟨by decide +kernel, by decide +kernel⟩, List.mem_of_getElem? (i := 791) (by decide +kernel), List.mem_of_getElem? (i := 1053) (by decide +kernel), List.mem_of_getElem? (i := 1054) (by decide +kernel)⟩
theorem lw_p82 : lw_okq (⟨"SwimLanesModel", "isRowWell", "(II)Z"⟩, 26) := ⟨⟨by decide +kernel, by decide +kernel⟩, List.mem_of_getElem? (i := 791) (by decide +kernel), List.mem_of_getElem? (i := 1057) (by decide +kernel), List.mem_of_getElem? (i := 1058) (by decide +kernel)⟩
theorem lw_p83 : lw_okq (⟨"SwimLanesModel", "canBe", "(III)Z"⟩, 26) := ⟨⟨by decide +kernel, by decide +kernel⟩, List.mem_of_getElem? (i := 791) (by decide +kernel), List.mem_of_getElem? (i := 1079) (by decide +kernel), List.mem_of_getElem? (i := 1080) (by decide +kernel)⟩
theorem lw_p84 : lw_okq (⟨"SwimLanesModel", "kindsOf", "(I)I"⟩, 26) := ⟨⟨by decide +kernel, by decide +kernel⟩, List.mem_of_getElem? (i := 791) (by decide +kernel), List.mem_of_getElem? (i := 1083) (by decide +kernel), List.mem_of_getElem? (i := 1084) (by decide +kernel)⟩
theorem lw_p85 : lw_okq (⟨"SwimLanesModel", "mostAlike", "(III)I"⟩, 26) := ⟨⟨by decide +kernel, by decide +kernel⟩, List.mem_of_getElem? (i := 791) (by decide +kernel), List.mem_of_getElem? (i := 1091) (by decide +kernel), List.mem_of_getElem? (i := 1092) (by decide +kernel)⟩
theorem lw_p86 : lw_okq (⟨"SwimLanesModel", "fraction", "(JJ)V"⟩, 26) := ⟨⟨by decide +kernel, by decide +kernel⟩, List.mem_of_getElem? (i := 791) (by decide +kernel), List.mem_of_getElem? (i := 1107) (by decide +kernel), List.mem_of_getElem? (i := 1108) (by decide +kernel)⟩
theorem lw_p87 : lw_okq (⟨"SwimLanesModel", "goMinute", "()I"⟩, 26) := ⟨⟨by decide +kernel, by decide +kernel⟩, List.mem_of_getElem? (i := 791) (by decide +kernel), List.mem_of_getElem? (i := 1121) (by decide +kernel), List.mem_of_getElem? (i := 1122) (by decide +kernel)⟩
theorem lw_p88 : lw_okq (⟨"SwimLanesModel", "lookAt", "(I)V"⟩, 26) := ⟨⟨by decide +kernel, by decide +kernel⟩, List.mem_of_getElem? (i := 791) (by decide +kernel), List.mem_of_getElem? (i := 1138) (by decide +kernel), List.mem_of_getElem? (i := 1139) (by decide +kernel)⟩
theorem lw_p89 : lw_okq (⟨"SwimLanesModel", "spells", "(IIIII)Z"⟩, 26) := ⟨⟨by decide +kernel, by decide +kernel⟩, List.mem_of_getElem? (i := 791) (by decide +kernel), List.mem_of_getElem? (i := 1152) (by decide +kernel), List.mem_of_getElem? (i := 1153) (by decide +kernel)⟩
theorem lw_p90 : lw_okq (⟨"SwimLanesModel", "goBehind", "()V"⟩, 26) := ⟨⟨by decide +kernel, by decide +kernel⟩, List.mem_of_getElem? (i := 791) (by decide +kernel), List.mem_of_getElem? (i := 1156) (by decide +kernel), List.mem_of_getElem? (i := 1157) (by decide +kernel)⟩
theorem lw_p91 : lw_okq (⟨"SwimLanesModel", "takesItem", "()Z"⟩, 26) := ⟨⟨by decide +kernel, by decide +kernel⟩, List.mem_of_getElem? (i := 791) (by decide +kernel), List.mem_of_getElem? (i := 1160) (by decide +kernel), List.mem_of_getElem? (i := 1161) (by decide +kernel)⟩
theorem lw_p92 : lw_okq (⟨"SwimLanesModel", "takesSign", "()Z"⟩, 26) := ⟨⟨by decide +kernel, by decide +kernel⟩, List.mem_of_getElem? (i := 791) (by decide +kernel), List.mem_of_getElem? (i := 1164) (by decide +kernel), List.mem_of_getElem? (i := 1165) (by decide +kernel)⟩
theorem lw_p93 : lw_okq (⟨"SwimLanesModel", "takes", "(III)Z"⟩, 26) := ⟨⟨by decide +kernel, by decide +kernel⟩, List.mem_of_getElem? (i := 791) (by decide +kernel), List.mem_of_getElem? (i := 1168) (by decide +kernel), List.mem_of_getElem? (i := 1169) (by decide +kernel)⟩
theorem lw_p94 : lw_okq (⟨"SwimLanesModel", "takesShut", "()Z"⟩, 26) := ⟨⟨by decide +kernel, by decide +kernel⟩, List.mem_of_getElem? (i := 791) (by decide +kernel), List.mem_of_getElem? (i := 1172) (by decide +kernel), List.mem_of_getElem? (i := 1173) (by decide +kernel)⟩
theorem lw_p95 : lw_okq (⟨"SwimLanesModel", "takesOne", "()Z"⟩, 26) := ⟨⟨by decide +kernel, by decide +kernel⟩, List.mem_of_getElem? (i := 791) (by decide +kernel), List.mem_of_getElem? (i := 1176) (by decide +kernel), List.mem_of_getElem? (i := 1177) (by decide +kernel)⟩
def lw_privs_6 : List (MethodName × Nat) := [(⟨"SwimLanesModel", "layStart", "(I)V"⟩, 26), (⟨"SwimLanesModel", "layRow", "(II)V"⟩, 26), (⟨"SwimLanesModel", "isRowWell", "(II)Z"⟩, 26), (⟨"SwimLanesModel", "canBe", "(III)Z"⟩, 26), (⟨"SwimLanesModel", "kindsOf", "(I)I"⟩, 26), (⟨"SwimLanesModel", "mostAlike", "(III)I"⟩, 26), (⟨"SwimLanesModel", "fraction", "(JJ)V"⟩, 26), (⟨"SwimLanesModel", "goMinute", "()I"⟩, 26), (⟨"SwimLanesModel", "lookAt", "(I)V"⟩, 26), (⟨"SwimLanesModel", "spells", "(IIIII)Z"⟩, 26), (⟨"SwimLanesModel", "goBehind", "()V"⟩, 26), (⟨"SwimLanesModel", "takesItem", "()Z"⟩, 26), (⟨"SwimLanesModel", "takesSign", "()Z"⟩, 26), (⟨"SwimLanesModel", "takes", "(III)Z"⟩, 26), (⟨"SwimLanesModel", "takesShut", "()Z"⟩, 26), (⟨"SwimLanesModel", "takesOne", "()Z"⟩, 26)]
theorem lw_r6 : ∀ q ∈ lw_privs_6, lw_okq q := List.forall_mem_cons.mpr ⟨lw_p80, List.forall_mem_cons.mpr ⟨lw_p81, List.forall_mem_cons.mpr ⟨lw_p82, List.forall_mem_cons.mpr ⟨lw_p83, List.forall_mem_cons.mpr ⟨lw_p84, List.forall_mem_cons.mpr ⟨lw_p85, List.forall_mem_cons.mpr ⟨lw_p86, List.forall_mem_cons.mpr ⟨lw_p87, List.forall_mem_cons.mpr ⟨lw_p88, List.forall_mem_cons.mpr ⟨lw_p89, List.forall_mem_cons.mpr ⟨lw_p90, List.forall_mem_cons.mpr ⟨lw_p91, List.forall_mem_cons.mpr ⟨lw_p92, List.forall_mem_cons.mpr ⟨lw_p93, List.forall_mem_cons.mpr ⟨lw_p94, List.forall_mem_cons.mpr ⟨lw_p95, fun _ h => absurd h List.not_mem_nil⟩⟩⟩⟩⟩⟩⟩⟩⟩⟩⟩⟩⟩⟩⟩⟩
theorem lw_p96 : lw_okq (⟨"SwimLanesModel", "counted", "(I)I"⟩, 26) := ⟨⟨by decide +kernel, by decide +kernel⟩, List.mem_of_getElem? (i := 791) (by decide +kernel), List.mem_of_getElem? (i := 1200) (by decide +kernel), List.mem_of_getElem? (i := 1201) (by decide +kernel)⟩
theorem lw_p97 : lw_okq (⟨"SwimLanesModel", "allLengths", "()I"⟩, 26) := ⟨⟨by decide +kernel, by decide +kernel⟩, List.mem_of_getElem? (i := 791) (by decide +kernel), List.mem_of_getElem? (i := 1204) (by decide +kernel), List.mem_of_getElem? (i := 1205) (by decide +kernel)⟩
theorem lw_p98 : lw_okq (⟨"SwimLanesModel", "sums", "(JII)J"⟩, 26) := ⟨⟨by decide +kernel, by decide +kernel⟩, List.mem_of_getElem? (i := 791) (by decide +kernel), List.mem_of_getElem? (i := 1214) (by decide +kernel), List.mem_of_getElem? (i := 1215) (by decide +kernel)⟩
def lw_privs_7 : List (MethodName × Nat) := [(⟨"SwimLanesModel", "counted", "(I)I"⟩, 26), (⟨"SwimLanesModel", "allLengths", "()I"⟩, 26), (⟨"SwimLanesModel", "sums", "(JII)J"⟩, 26)]
theorem lw_r7 : ∀ q ∈ lw_privs_7, lw_okq q := List.forall_mem_cons.mpr ⟨lw_p96, List.forall_mem_cons.mpr ⟨lw_p97, List.forall_mem_cons.mpr ⟨lw_p98, fun _ h => absurd h List.not_mem_nil⟩⟩⟩
def lw_privs : List (MethodName × Nat) := lw_privs_1 ++ (lw_privs_2 ++ (lw_privs_3 ++ (lw_privs_4 ++ (lw_privs_5 ++ (lw_privs_6 ++ (lw_privs_7))))))
def lw_tbl : List Cond := k2_sels lw_privs ++ tables_1
theorem lw_privs_ok : ∀ q ∈ lw_privs, lw_okq q := by
  show ∀ q ∈ lw_privs_1 ++ (lw_privs_2 ++ (lw_privs_3 ++ (lw_privs_4 ++ (lw_privs_5 ++ (lw_privs_6 ++ (lw_privs_7)))))), lw_okq q
  exact List.forall_mem_append.mpr ⟨lw_r1, List.forall_mem_append.mpr ⟨lw_r2, List.forall_mem_append.mpr ⟨lw_r3, List.forall_mem_append.mpr ⟨lw_r4, List.forall_mem_append.mpr ⟨lw_r5, List.forall_mem_append.mpr ⟨lw_r6, lw_r7⟩⟩⟩⟩⟩⟩
-- ===== end of PART A; then your names; then what follows =====
end
section
def RX0 : String := "SwimLanes$Bath"
def TX0 : u_T := fun k => match k with
  | 0 => ("SwimLanes$Bath", "kinds", "[LSwimLanes$Plain;", true)
  | 1 => ("SwimLanes$Bath", "signs", "[I", true)
  | 2 => ("SwimLanes$Bath", "shuts", "[I", true)
  | 3 => ("SwimLanes$Bath", "kindOf", "[I", true)
  | 4 => ("SwimLanes$Bath", "paceOf", "[I", true)
  | 5 => ("SwimLanes$Bath", "now", "[I", true)
  | 6 => ("SwimLanes$Bath", "past", "[I", true)
  | 7 => ("SwimLanes$Bath", "notes", "[I", true)
  | 8 => ("SwimLanes$Bath", "perLane", "[I", true)
  | 9 => ("SwimLanes$Bath", "swimmers", "I", false)
  | 10 => ("SwimLanes$Bath", "undoable", "I", false)
  | _ => ("SwimLanes$Bath", "noted", "I", false)
def tyX0 : Nat → FieldType := fun k => match k with
  | 0 => .array (.object "SwimLanes$Plain")
  | 1 => .array .int
  | 2 => .array .int
  | 3 => .array .int
  | 4 => .array .int
  | 5 => .array .int
  | 6 => .array .int
  | 7 => .array .int
  | 8 => .array .int
  | 9 => .int
  | 10 => .int
  | _ => .int
theorem nmX0 : ∀ a, a < 12 → ∀ b, b < 12 → a ≠ b → (TX0 a).2.1 ≠ (TX0 b).2.1 := by decide +kernel
theorem tyX0_ok : ∀ k, k < 12 → parseFieldDescriptor (TX0 k).2.2.1 = some (tyX0 k) := by decide +kernel
abbrev cX0_init : ByteArray := prog_2_method_1_code
def yX0_init : MethodName := ⟨RX0, "<init>", "([LSwimLanes$Plain;)V"⟩
abbrev cX0_begin : ByteArray := prog_2_method_2_code
def yX0_begin : MethodName := ⟨RX0, "begin", "()V"⟩
abbrev cX0_becomes : ByteArray := prog_2_method_3_code
def yX0_becomes : MethodName := ⟨RX0, "becomes", "(LSwimLanes$Bath;)V"⟩
abbrev cX0_comes : ByteArray := prog_2_method_4_code
def yX0_comes : MethodName := ⟨RX0, "comes", "(III)I"⟩
abbrev cX0_keepForUndo : ByteArray := prog_2_method_5_code
def yX0_keepForUndo : MethodName := ⟨RX0, "keepForUndo", "()V"⟩
abbrev cX0_takeBack : ByteArray := prog_2_method_6_code
def yX0_takeBack : MethodName := ⟨RX0, "takeBack", "()V"⟩
abbrev cX0_isOpen : ByteArray := prog_2_method_7_code
def yX0_isOpen : MethodName := ⟨RX0, "isOpen", "(I)Z"⟩
abbrev cX0_openLanes : ByteArray := prog_2_method_8_code
def yX0_openLanes : MethodName := ⟨RX0, "openLanes", "()I"⟩
abbrev cX0_laneOf : ByteArray := prog_2_method_9_code
def yX0_laneOf : MethodName := ⟨RX0, "laneOf", "(I)I"⟩
abbrev cX0_lengthsOfAll : ByteArray := prog_2_method_10_code
def yX0_lengthsOfAll : MethodName := ⟨RX0, "lengthsOfAll", "()I"⟩
abbrev cX0_believedBy : ByteArray := prog_2_method_11_code
def yX0_believedBy : MethodName := ⟨RX0, "believedBy", "(I)I"⟩
abbrev cX0_members : ByteArray := prog_2_method_12_code
def yX0_members : MethodName := ⟨RX0, "members", "([II)I"⟩
abbrev cX0_others : ByteArray := prog_2_method_13_code
def yX0_others : MethodName := ⟨RX0, "others", "([III)I"⟩
abbrev cX0_takesIn : ByteArray := prog_2_method_14_code
def yX0_takesIn : MethodName := ⟨RX0, "takesIn", "([III)I"⟩
abbrev cX0_takes : ByteArray := prog_2_method_15_code
def yX0_takes : MethodName := ⟨RX0, "takes", "(II)I"⟩
abbrev cX0_takesAs : ByteArray := prog_2_method_16_code
def yX0_takesAs : MethodName := ⟨RX0, "takesAs", "(III)I"⟩
abbrev cX0_greatestPace : ByteArray := prog_2_method_17_code
def yX0_greatestPace : MethodName := ⟨RX0, "greatestPace", "(I)I"⟩
abbrev cX0_slowerThan : ByteArray := prog_2_method_18_code
def yX0_slowerThan : MethodName := ⟨RX0, "slowerThan", "(II)I"⟩
abbrev cX0_costTo : ByteArray := prog_2_method_19_code
def yX0_costTo : MethodName := ⟨RX0, "costTo", "(II)I"⟩
abbrev cX0_quickestLane : ByteArray := prog_2_method_20_code
def yX0_quickestLane : MethodName := ⟨RX0, "quickestLane", "([II)I"⟩
abbrev cX0_leastOpenLane : ByteArray := prog_2_method_21_code
def yX0_leastOpenLane : MethodName := ⟨RX0, "leastOpenLane", "()I"⟩
abbrev cX0_minuteGoesBy : ByteArray := prog_2_method_22_code
def yX0_minuteGoesBy : MethodName := ⟨RX0, "minuteGoesBy", "([I)I"⟩
abbrev cX0_swimsAMinute : ByteArray := prog_2_method_23_code
def yX0_swimsAMinute : MethodName := ⟨RX0, "swimsAMinute", "([II)I"⟩
abbrev cX0_writeDown : ByteArray := prog_2_method_24_code
def yX0_writeDown : MethodName := ⟨RX0, "writeDown", "(IIIII)I"⟩
abbrev cX0_notesFit : ByteArray := prog_2_method_25_code
def yX0_notesFit : MethodName := ⟨RX0, "notesFit", "(III)Z"⟩
abbrev cX0_digestFrom : ByteArray := prog_2_method_26_code
def yX0_digestFrom : MethodName := ⟨RX0, "digestFrom", "(J)J"⟩
def RX1 : String := "SwimLanes$Chats"
def TX1 : u_T := fun k => match k with
  | _ => ("", "", "", false)
def tyX1 : Nat → FieldType := fun k => match k with
  | _ => .int
theorem nmX1 : ∀ a, a < 0 → ∀ b, b < 0 → a ≠ b → (TX1 a).2.1 ≠ (TX1 b).2.1 := by decide +kernel
theorem tyX1_ok : ∀ k, k < 0 → parseFieldDescriptor (TX1 k).2.2.1 = some (tyX1 k) := by decide +kernel
abbrev cX1_init : ByteArray := prog_3_method_1_code
def yX1_init : MethodName := ⟨RX1, "<init>", "()V"⟩
abbrev cX1_takes : ByteArray := prog_3_method_2_code
def yX1_takes : MethodName := ⟨RX1, "takes", "(IIII)I"⟩
def RX2 : String := "SwimLanes$Overtakes"
def TX2 : u_T := fun k => match k with
  | _ => ("", "", "", false)
def tyX2 : Nat → FieldType := fun k => match k with
  | _ => .int
theorem nmX2 : ∀ a, a < 0 → ∀ b, b < 0 → a ≠ b → (TX2 a).2.1 ≠ (TX2 b).2.1 := by decide +kernel
theorem tyX2_ok : ∀ k, k < 0 → parseFieldDescriptor (TX2 k).2.2.1 = some (tyX2 k) := by decide +kernel
abbrev cX2_init : ByteArray := prog_4_method_1_code
def yX2_init : MethodName := ⟨RX2, "<init>", "()V"⟩
abbrev cX2_takes : ByteArray := prog_4_method_2_code
def yX2_takes : MethodName := ⟨RX2, "takes", "(IIII)I"⟩
def RX3 : String := "SwimLanes$Plain"
def TX3 : u_T := fun k => match k with
  | _ => ("", "", "", false)
def tyX3 : Nat → FieldType := fun k => match k with
  | _ => .int
theorem nmX3 : ∀ a, a < 0 → ∀ b, b < 0 → a ≠ b → (TX3 a).2.1 ≠ (TX3 b).2.1 := by decide +kernel
theorem tyX3_ok : ∀ k, k < 0 → parseFieldDescriptor (TX3 k).2.2.1 = some (tyX3 k) := by decide +kernel
abbrev cX3_init : ByteArray := prog_5_method_1_code
def yX3_init : MethodName := ⟨RX3, "<init>", "()V"⟩
abbrev cX3_takes : ByteArray := prog_5_method_2_code
def yX3_takes : MethodName := ⟨RX3, "takes", "(IIII)I"⟩
abbrev cX3_believes : ByteArray := prog_5_method_3_code
def yX3_believes : MethodName := ⟨RX3, "believes", "(I)I"⟩
def RX4 : String := "SwimLanes$Plan"
def TX4 : u_T := fun k => match k with
  | 0 => ("SwimLanes$Plan", "members", "[I", true)
  | 1 => ("SwimLanes$Plan", "tried", "[I", true)
  | 2 => ("SwimLanes$Plan", "first", "[I", true)
  | _ => ("SwimLanes$Plan", "least", "I", false)
def tyX4 : Nat → FieldType := fun k => match k with
  | 0 => .array .int
  | 1 => .array .int
  | 2 => .array .int
  | _ => .int
theorem nmX4 : ∀ a, a < 4 → ∀ b, b < 4 → a ≠ b → (TX4 a).2.1 ≠ (TX4 b).2.1 := by decide +kernel
theorem tyX4_ok : ∀ k, k < 4 → parseFieldDescriptor (TX4 k).2.2.1 = some (tyX4 k) := by decide +kernel
abbrev cX4_init : ByteArray := prog_6_method_1_code
def yX4_init : MethodName := ⟨RX4, "<init>", "()V"⟩
abbrev cX4_begin : ByteArray := prog_6_method_2_code
def yX4_begin : MethodName := ⟨RX4, "begin", "()V"⟩
abbrev cX4_place : ByteArray := prog_6_method_3_code
def yX4_place : MethodName := ⟨RX4, "place", "(LSwimLanes$Bath;II)V"⟩
def RX5 : String := "SwimLanes$Proud"
def TX5 : u_T := fun k => match k with
  | _ => ("", "", "", false)
def tyX5 : Nat → FieldType := fun k => match k with
  | _ => .int
theorem nmX5 : ∀ a, a < 0 → ∀ b, b < 0 → a ≠ b → (TX5 a).2.1 ≠ (TX5 b).2.1 := by decide +kernel
theorem tyX5_ok : ∀ k, k < 0 → parseFieldDescriptor (TX5 k).2.2.1 = some (tyX5 k) := by decide +kernel
abbrev cX5_init : ByteArray := prog_7_method_1_code
def yX5_init : MethodName := ⟨RX5, "<init>", "()V"⟩
abbrev cX5_believes : ByteArray := prog_7_method_2_code
def yX5_believes : MethodName := ⟨RX5, "believes", "(I)I"⟩
def RX6 : String := "SwimLanes$Sprints"
def TX6 : u_T := fun k => match k with
  | _ => ("", "", "", false)
def tyX6 : Nat → FieldType := fun k => match k with
  | _ => .int
theorem nmX6 : ∀ a, a < 0 → ∀ b, b < 0 → a ≠ b → (TX6 a).2.1 ≠ (TX6 b).2.1 := by decide +kernel
theorem tyX6_ok : ∀ k, k < 0 → parseFieldDescriptor (TX6 k).2.2.1 = some (tyX6 k) := by decide +kernel
abbrev cX6_init : ByteArray := prog_8_method_1_code
def yX6_init : MethodName := ⟨RX6, "<init>", "()V"⟩
abbrev cX6_takes : ByteArray := prog_8_method_2_code
def yX6_takes : MethodName := ⟨RX6, "takes", "(IIII)I"⟩
abbrev cX6_believes : ByteArray := prog_8_method_3_code
def yX6_believes : MethodName := ⟨RX6, "believes", "(I)I"⟩
def RX7 : String := "SwimLanes$Text"
def TX7 : u_T := fun k => match k with
  | 0 => ("SwimLanes$Text", "bytes", "[C", true)
  | 1 => ("SwimLanes$Text", "size", "I", false)
  | 2 => ("SwimLanes$Text", "start", "I", false)
  | _ => ("SwimLanes$Text", "end", "I", false)
def tyX7 : Nat → FieldType := fun k => match k with
  | 0 => .array .char
  | 1 => .int
  | 2 => .int
  | _ => .int
theorem nmX7 : ∀ a, a < 4 → ∀ b, b < 4 → a ≠ b → (TX7 a).2.1 ≠ (TX7 b).2.1 := by decide +kernel
theorem tyX7_ok : ∀ k, k < 4 → parseFieldDescriptor (TX7 k).2.2.1 = some (tyX7 k) := by decide +kernel
abbrev cX7_init : ByteArray := prog_9_method_1_code
def yX7_init : MethodName := ⟨RX7, "<init>", "()V"⟩
abbrev cX7_add : ByteArray := prog_9_method_2_code
def yX7_add : MethodName := ⟨RX7, "add", "(I)I"⟩
abbrev cX7_tellTo : ByteArray := prog_9_method_3_code
def yX7_tellTo : MethodName := ⟨RX7, "tellTo", "(LSwimLanes$Bath;)I"⟩
abbrev cX7_tellItem : ByteArray := prog_9_method_4_code
def yX7_tellItem : MethodName := ⟨RX7, "tellItem", "(LSwimLanes$Bath;)Z"⟩
abbrev cX7_tellSign : ByteArray := prog_9_method_5_code
def yX7_tellSign : MethodName := ⟨RX7, "tellSign", "(LSwimLanes$Bath;)Z"⟩
abbrev cX7_tellShut : ByteArray := prog_9_method_6_code
def yX7_tellShut : MethodName := ⟨RX7, "tellShut", "(LSwimLanes$Bath;)Z"⟩
abbrev cX7_tellOne : ByteArray := prog_9_method_7_code
def yX7_tellOne : MethodName := ⟨RX7, "tellOne", "(LSwimLanes$Bath;)Z"⟩
abbrev cX7_next : ByteArray := prog_9_method_8_code
def yX7_next : MethodName := ⟨RX7, "next", "()V"⟩
abbrev cX7_sortAt : ByteArray := prog_9_method_9_code
def yX7_sortAt : MethodName := ⟨RX7, "sortAt", "(I)I"⟩
abbrev cX7_isWord : ByteArray := prog_9_method_10_code
def yX7_isWord : MethodName := ⟨RX7, "isWord", "(Ljava/lang/String;)Z"⟩
abbrev cX7_nextEndsItem : ByteArray := prog_9_method_11_code
def yX7_nextEndsItem : MethodName := ⟨RX7, "nextEndsItem", "()Z"⟩
abbrev cX7_nextNumber : ByteArray := prog_9_method_12_code
def yX7_nextNumber : MethodName := ⟨RX7, "nextNumber", "()I"⟩
def RX8 : String := "SwimLanes$Wall"
def TX8 : u_T := fun k => match k with
  | _ => ("", "", "", false)
def tyX8 : Nat → FieldType := fun k => match k with
  | _ => .int
theorem nmX8 : ∀ a, a < 0 → ∀ b, b < 0 → a ≠ b → (TX8 a).2.1 ≠ (TX8 b).2.1 := by decide +kernel
theorem tyX8_ok : ∀ k, k < 0 → parseFieldDescriptor (TX8 k).2.2.1 = some (tyX8 k) := by decide +kernel
abbrev cX8_init : ByteArray := prog_10_method_1_code
def yX8_init : MethodName := ⟨RX8, "<init>", "()V"⟩
abbrev cX8_takes : ByteArray := prog_10_method_2_code
def yX8_takes : MethodName := ⟨RX8, "takes", "(IIII)I"⟩
def RX9 : String := "SwimLanes"
def TX9 : u_T := fun k => match k with
  | 0 => ("SwimLanes", "bath", "LSwimLanes$Bath;", true)
  | 1 => ("SwimLanes", "draft", "LSwimLanes$Bath;", true)
  | 2 => ("SwimLanes", "images", "[LSwimLanes$Bath;", true)
  | 3 => ("SwimLanes", "trial", "[I", true)
  | 4 => ("SwimLanes", "plan", "LSwimLanes$Plan;", true)
  | 5 => ("SwimLanes", "text", "LSwimLanes$Text;", true)
  | 6 => ("SwimLanes", "ways", "[J", true)
  | 7 => ("SwimLanes", "above", "J", false)
  | 8 => ("SwimLanes", "below", "J", false)
  | 9 => ("SwimLanes", "bads", "I", false)
  | 10 => ("SwimLanes", "noes", "I", false)
  | _ => ("SwimLanes", "fulls", "I", false)
def tyX9 : Nat → FieldType := fun k => match k with
  | 0 => .object "SwimLanes$Bath"
  | 1 => .object "SwimLanes$Bath"
  | 2 => .array (.object "SwimLanes$Bath")
  | 3 => .array .int
  | 4 => .object "SwimLanes$Plan"
  | 5 => .object "SwimLanes$Text"
  | 6 => .array .long
  | 7 => .long
  | 8 => .long
  | 9 => .int
  | 10 => .int
  | _ => .int
theorem nmX9 : ∀ a, a < 12 → ∀ b, b < 12 → a ≠ b → (TX9 a).2.1 ≠ (TX9 b).2.1 := by decide +kernel
theorem tyX9_ok : ∀ k, k < 12 → parseFieldDescriptor (TX9 k).2.2.1 = some (tyX9 k) := by decide +kernel
abbrev cX9_init : ByteArray := prog_1_method_1_code
def yX9_init : MethodName := ⟨RX9, "<init>", "()V"⟩
abbrev cX9_bath : ByteArray := prog_1_method_2_code
def yX9_bath : MethodName := ⟨RX9, "bath", "()I"⟩
abbrev cX9_sign : ByteArray := prog_1_method_3_code
def yX9_sign : MethodName := ⟨RX9, "sign", "(II)I"⟩
abbrev cX9_shut : ByteArray := prog_1_method_4_code
def yX9_shut : MethodName := ⟨RX9, "shut", "(II)I"⟩
abbrev cX9_one : ByteArray := prog_1_method_5_code
def yX9_one : MethodName := ⟨RX9, "one", "(III)I"⟩
abbrev cX9_type : ByteArray := prog_1_method_6_code
def yX9_type : MethodName := ⟨RX9, "type", "(I)I"⟩
abbrev cX9_clear : ByteArray := prog_1_method_7_code
def yX9_clear : MethodName := ⟨RX9, "clear", "()I"⟩
abbrev cX9_read : ByteArray := prog_1_method_8_code
def yX9_read : MethodName := ⟨RX9, "read", "()I"⟩
abbrev cX9_goes : ByteArray := prog_1_method_9_code
def yX9_goes : MethodName := ⟨RX9, "goes", "(II)I"⟩
abbrev cX9_minute : ByteArray := prog_1_method_10_code
def yX9_minute : MethodName := ⟨RX9, "minute", "(I)I"⟩
abbrev cX9_undo : ByteArray := prog_1_method_11_code
def yX9_undo : MethodName := ⟨RX9, "undo", "()I"⟩
abbrev cX9_of : ByteArray := prog_1_method_12_code
def yX9_of : MethodName := ⟨RX9, "of", "(II)I"⟩
abbrev cX9_lane : ByteArray := prog_1_method_13_code
def yX9_lane : MethodName := ⟨RX9, "lane", "(II)I"⟩
abbrev cX9_seconds : ByteArray := prog_1_method_14_code
def yX9_seconds : MethodName := ⟨RX9, "seconds", "(III)I"⟩
abbrev cX9_lengths : ByteArray := prog_1_method_15_code
def yX9_lengths : MethodName := ⟨RX9, "lengths", "(II)I"⟩
abbrev cX9_best : ByteArray := prog_1_method_16_code
def yX9_best : MethodName := ⟨RX9, "best", "(I)I"⟩
abbrev cX9_cost : ByteArray := prog_1_method_17_code
def yX9_cost : MethodName := ⟨RX9, "cost", "(II)I"⟩
abbrev cX9_where : ByteArray := prog_1_method_18_code
def yX9_where : MethodName := ⟨RX9, "where", "(I)I"⟩
abbrev cX9_obey : ByteArray := prog_1_method_19_code
def yX9_obey : MethodName := ⟨RX9, "obey", "(I)I"⟩
abbrev cX9_all : ByteArray := prog_1_method_20_code
def yX9_all : MethodName := ⟨RX9, "all", "(I)I"⟩
abbrev cX9_changes : ByteArray := prog_1_method_21_code
def yX9_changes : MethodName := ⟨RX9, "changes", "(I)I"⟩
abbrev cX9_order : ByteArray := prog_1_method_22_code
def yX9_order : MethodName := ⟨RX9, "order", "(IIII)I"⟩
abbrev cX9_apart : ByteArray := prog_1_method_23_code
def yX9_apart : MethodName := ⟨RX9, "apart", "(II)I"⟩
abbrev cX9_note : ByteArray := prog_1_method_24_code
def yX9_note : MethodName := ⟨RX9, "note", "(IIIII)I"⟩
abbrev cX9_forget : ByteArray := prog_1_method_25_code
def yX9_forget : MethodName := ⟨RX9, "forget", "()I"⟩
abbrev cX9_is : ByteArray := prog_1_method_26_code
def yX9_is : MethodName := ⟨RX9, "is", "(II)I"⟩
abbrev cX9_look : ByteArray := prog_1_method_27_code
def yX9_look : MethodName := ⟨RX9, "look", "(I)I"⟩
abbrev cX9_touch : ByteArray := prog_1_method_28_code
def yX9_touch : MethodName := ⟨RX9, "touch", "(II)I"⟩
abbrev cX9_counts : ByteArray := prog_1_method_29_code
def yX9_counts : MethodName := ⟨RX9, "counts", "(III)I"⟩
abbrev cX9_mornings : ByteArray := prog_1_method_30_code
def yX9_mornings : MethodName := ⟨RX9, "mornings", "(II)I"⟩
abbrev cX9_part : ByteArray := prog_1_method_31_code
def yX9_part : MethodName := ⟨RX9, "part", "(I)J"⟩
abbrev cX9_image : ByteArray := prog_1_method_32_code
def yX9_image : MethodName := ⟨RX9, "image", "(I)I"⟩
abbrev cX9_from : ByteArray := prog_1_method_33_code
def yX9_from : MethodName := ⟨RX9, "from", "(I)I"⟩
abbrev cX9_status : ByteArray := prog_1_method_34_code
def yX9_status : MethodName := ⟨RX9, "status", "(I)I"⟩
abbrev cX9_count : ByteArray := prog_1_method_35_code
def yX9_count : MethodName := ⟨RX9, "count", "(I)I"⟩
abbrev cX9_digest : ByteArray := prog_1_method_36_code
def yX9_digest : MethodName := ⟨RX9, "digest", "()J"⟩
abbrev cX9_bad : ByteArray := prog_1_method_37_code
def yX9_bad : MethodName := ⟨RX9, "bad", "()I"⟩
abbrev cX9_badAsTen : ByteArray := prog_1_method_38_code
def yX9_badAsTen : MethodName := ⟨RX9, "badAsTen", "()I"⟩
abbrev cX9_no : ByteArray := prog_1_method_39_code
def yX9_no : MethodName := ⟨RX9, "no", "()I"⟩
abbrev cX9_full : ByteArray := prog_1_method_40_code
def yX9_full : MethodName := ⟨RX9, "full", "()I"⟩
abbrev cX9_isOne : ByteArray := prog_1_method_41_code
def yX9_isOne : MethodName := ⟨RX9, "isOne", "(I)Z"⟩
abbrev cX9_isLane : ByteArray := prog_1_method_42_code
def yX9_isLane : MethodName := ⟨RX9, "isLane", "(I)Z"⟩
abbrev cX9_isKind : ByteArray := prog_1_method_43_code
def yX9_isKind : MethodName := ⟨RX9, "isKind", "(I)Z"⟩
abbrev cX9_isPace : ByteArray := prog_1_method_44_code
def yX9_isPace : MethodName := ⟨RX9, "isPace", "(I)Z"⟩
abbrev cX9_within : ByteArray := prog_1_method_45_code
def yX9_within : MethodName := ⟨RX9, "within", "(III)Z"⟩
abbrev cX9_has : ByteArray := prog_1_method_46_code
def yX9_has : MethodName := ⟨RX9, "has", "(II)Z"⟩
abbrev cX9_howMany : ByteArray := prog_1_method_47_code
def yX9_howMany : MethodName := ⟨RX9, "howMany", "(I)I"⟩
abbrev cX9_signOf : ByteArray := prog_1_method_48_code
def yX9_signOf : MethodName := ⟨RX9, "signOf", "(I)I"⟩
abbrev cX9_lengthsToCome : ByteArray := prog_1_method_49_code
def yX9_lengthsToCome : MethodName := ⟨RX9, "lengthsToCome", "(II)I"⟩
abbrev cX9_cheapestLane : ByteArray := prog_1_method_50_code
def yX9_cheapestLane : MethodName := ⟨RX9, "cheapestLane", "(I)I"⟩
abbrev cX9_changeTillNobodyWould : ByteArray := prog_1_method_51_code
def yX9_changeTillNobodyWould : MethodName := ⟨RX9, "changeTillNobodyWould", "([I)I"⟩
abbrev cX9_afterwards : ByteArray := prog_1_method_52_code
def yX9_afterwards : MethodName := ⟨RX9, "afterwards", "(J)J"⟩
abbrev cX9_ordersOf : ByteArray := prog_1_method_53_code
def yX9_ordersOf : MethodName := ⟨RX9, "ordersOf", "(III)I"⟩
abbrev cX9_placesFor : ByteArray := prog_1_method_54_code
def yX9_placesFor : MethodName := ⟨RX9, "placesFor", "(IIII)I"⟩
abbrev cX9_ranksBelow : ByteArray := prog_1_method_55_code
def yX9_ranksBelow : MethodName := ⟨RX9, "ranksBelow", "(II)Z"⟩
abbrev cX9_mayFollow : ByteArray := prog_1_method_56_code
def yX9_mayFollow : MethodName := ⟨RX9, "mayFollow", "(IIII)Z"⟩
abbrev cX9_starter : ByteArray := prog_1_method_57_code
def yX9_starter : MethodName := ⟨RX9, "starter", "(IIII)I"⟩
abbrev cX9_nextStarter : ByteArray := prog_1_method_58_code
def yX9_nextStarter : MethodName := ⟨RX9, "nextStarter", "(IIII)I"⟩
abbrev cX9_restMayFollow : ByteArray := prog_1_method_59_code
def yX9_restMayFollow : MethodName := ⟨RX9, "restMayFollow", "(IIII)Z"⟩
abbrev cX9_hasStepAbove : ByteArray := prog_1_method_60_code
def yX9_hasStepAbove : MethodName := ⟨RX9, "hasStepAbove", "(IIIII)Z"⟩
abbrev cX9_leastApart : ByteArray := prog_1_method_61_code
def yX9_leastApart : MethodName := ⟨RX9, "leastApart", "(II)I"⟩
abbrev cX9_kindsThatFit : ByteArray := prog_1_method_62_code
def yX9_kindsThatFit : MethodName := ⟨RX9, "kindsThatFit", "(I)I"⟩
abbrev cX9_pacesThatFit : ByteArray := prog_1_method_63_code
def yX9_pacesThatFit : MethodName := ⟨RX9, "pacesThatFit", "(I)I"⟩
abbrev cX9_tellingLane : ByteArray := prog_1_method_64_code
def yX9_tellingLane : MethodName := ⟨RX9, "tellingLane", "(II)I"⟩
abbrev cX9_mostAlike : ByteArray := prog_1_method_65_code
def yX9_mostAlike : MethodName := ⟨RX9, "mostAlike", "(III)I"⟩
abbrev cX9_howManyAlike : ByteArray := prog_1_method_66_code
def yX9_howManyAlike : MethodName := ⟨RX9, "howManyAlike", "(IIII)I"⟩
abbrev cX9_rests : ByteArray := prog_1_method_67_code
def yX9_rests : MethodName := ⟨RX9, "rests", "(ZZZ)Z"⟩
abbrev cX9_toToucher : ByteArray := prog_1_method_68_code
def yX9_toToucher : MethodName := ⟨RX9, "toToucher", "(ZZ)I"⟩
abbrev cX9_toTouched : ByteArray := prog_1_method_69_code
def yX9_toTouched : MethodName := ⟨RX9, "toTouched", "(ZZZ)I"⟩
abbrev cX9_countWays : ByteArray := prog_1_method_70_code
def yX9_countWays : MethodName := ⟨RX9, "countWays", "(II)V"⟩
abbrev cX9_lowerTerms : ByteArray := prog_1_method_71_code
def yX9_lowerTerms : MethodName := ⟨RX9, "lowerTerms", "(I)V"⟩
abbrev cX9_lowerBy : ByteArray := prog_1_method_72_code
def yX9_lowerBy : MethodName := ⟨RX9, "lowerBy", "(I)V"⟩
def RX10 : String := "SwimLanesModel"
def TX10 : u_T := fun k => match k with
  | 0 => ("SwimLanesModel", "now", "[I", true)
  | 1 => ("SwimLanesModel", "kept", "[I", true)
  | 2 => ("SwimLanesModel", "isKept", "[Z", true)
  | 3 => ("SwimLanesModel", "refused", "[I", true)
  | 4 => ("SwimLanesModel", "above", "J", false)
  | 5 => ("SwimLanesModel", "below", "J", false)
  | 6 => ("SwimLanesModel", "lies", "[I", true)
  | 7 => ("SwimLanesModel", "greatest", "I", false)
  | 8 => ("SwimLanesModel", "slower", "I", false)
  | 9 => ("SwimLanesModel", "others", "I", false)
  | 10 => ("SwimLanesModel", "bestLies", "[I", true)
  | 11 => ("SwimLanesModel", "whoStarts", "[I", true)
  | 12 => ("SwimLanesModel", "row", "[I", true)
  | 13 => ("SwimLanesModel", "firstRow", "[I", true)
  | 14 => ("SwimLanesModel", "manyStart", "I", false)
  | 15 => ("SwimLanesModel", "his", "[I", true)
  | 16 => ("SwimLanesModel", "theirs", "[I", true)
  | 17 => ("SwimLanesModel", "overs", "[I", true)
  | 18 => ("SwimLanesModel", "bytes", "[I", true)
  | 19 => ("SwimLanesModel", "bytesLong", "I", false)
  | 20 => ("SwimLanesModel", "tokenAt", "I", false)
  | 21 => ("SwimLanesModel", "tokenLong", "I", false)
  | 22 => ("SwimLanesModel", "token", "I", false)
  | 23 => ("SwimLanesModel", "value", "I", false)
  | 24 => ("SwimLanesModel", "anew", "[I", true)
  | _ => ("SwimLanesModel", "values", "[I", true)
def tyX10 : Nat → FieldType := fun k => match k with
  | 0 => .array .int
  | 1 => .array .int
  | 2 => .array .boolean
  | 3 => .array .int
  | 4 => .long
  | 5 => .long
  | 6 => .array .int
  | 7 => .int
  | 8 => .int
  | 9 => .int
  | 10 => .array .int
  | 11 => .array .int
  | 12 => .array .int
  | 13 => .array .int
  | 14 => .int
  | 15 => .array .int
  | 16 => .array .int
  | 17 => .array .int
  | 18 => .array .int
  | 19 => .int
  | 20 => .int
  | 21 => .int
  | 22 => .int
  | 23 => .int
  | 24 => .array .int
  | _ => .array .int
theorem nmX10 : ∀ a, a < 26 → ∀ b, b < 26 → a ≠ b → (TX10 a).2.1 ≠ (TX10 b).2.1 := by decide +kernel
theorem tyX10_ok : ∀ k, k < 26 → parseFieldDescriptor (TX10 k).2.2.1 = some (tyX10 k) := by decide +kernel
abbrev cX10_init : ByteArray := prog_12_method_1_code
def yX10_init : MethodName := ⟨RX10, "<init>", "()V"⟩
abbrev cX10_in : ByteArray := prog_12_method_3_code
def yX10_in : MethodName := ⟨RX10, "in", "(JJJ)Z"⟩
abbrev cX10_bad : ByteArray := prog_12_method_4_code
def yX10_bad : MethodName := ⟨RX10, "bad", "(I)I"⟩
abbrev cX10_no : ByteArray := prog_12_method_5_code
def yX10_no : MethodName := ⟨RX10, "no", "()I"⟩
abbrev cX10_full : ByteArray := prog_12_method_6_code
def yX10_full : MethodName := ⟨RX10, "full", "()I"⟩
abbrev cX10_bits : ByteArray := prog_12_method_7_code
def yX10_bits : MethodName := ⟨RX10, "bits", "(I)I"⟩
abbrev cX10_has : ByteArray := prog_12_method_8_code
def yX10_has : MethodName := ⟨RX10, "has", "(II)Z"⟩
abbrev cX10_begin : ByteArray := prog_12_method_9_code
def yX10_begin : MethodName := ⟨RX10, "begin", "([I)V"⟩
abbrev cX10_many : ByteArray := prog_12_method_10_code
def yX10_many : MethodName := ⟨RX10, "many", "()I"⟩
abbrev cX10_isOne : ByteArray := prog_12_method_11_code
def yX10_isOne : MethodName := ⟨RX10, "isOne", "(I)Z"⟩
abbrev cX10_isLane : ByteArray := prog_12_method_12_code
def yX10_isLane : MethodName := ⟨RX10, "isLane", "(I)Z"⟩
abbrev cX10_isOpen : ByteArray := prog_12_method_13_code
def yX10_isOpen : MethodName := ⟨RX10, "isOpen", "(I)Z"⟩
abbrev cX10_whoIsIn : ByteArray := prog_12_method_14_code
def yX10_whoIsIn : MethodName := ⟨RX10, "whoIsIn", "([II)I"⟩
abbrev cX10_bath : ByteArray := prog_12_method_15_code
def yX10_bath : MethodName := ⟨RX10, "bath", "()I"⟩
abbrev cX10_sign : ByteArray := prog_12_method_16_code
def yX10_sign : MethodName := ⟨RX10, "sign", "(II)I"⟩
abbrev cX10_shut : ByteArray := prog_12_method_17_code
def yX10_shut : MethodName := ⟨RX10, "shut", "(II)I"⟩
abbrev cX10_layOne : ByteArray := prog_12_method_18_code
def yX10_layOne : MethodName := ⟨RX10, "layOne", "([IIII)V"⟩
abbrev cX10_one : ByteArray := prog_12_method_19_code
def yX10_one : MethodName := ⟨RX10, "one", "(III)I"⟩
abbrev cX10_secondsAs : ByteArray := prog_12_method_20_code
def yX10_secondsAs : MethodName := ⟨RX10, "secondsAs", "(IIIII)I"⟩
abbrev cX10_believesAs : ByteArray := prog_12_method_21_code
def yX10_believesAs : MethodName := ⟨RX10, "believesAs", "(II)I"⟩
abbrev cX10_signOf : ByteArray := prog_12_method_22_code
def yX10_signOf : MethodName := ⟨RX10, "signOf", "(I)I"⟩
abbrev cX10_paceOf : ByteArray := prog_12_method_23_code
def yX10_paceOf : MethodName := ⟨RX10, "paceOf", "(I)I"⟩
abbrev cX10_layHand : ByteArray := prog_12_method_24_code
def yX10_layHand : MethodName := ⟨RX10, "layHand", "()V"⟩
abbrev cX10_layOthers : ByteArray := prog_12_method_25_code
def yX10_layOthers : MethodName := ⟨RX10, "layOthers", "(II)V"⟩
abbrev cX10_secondsIn : ByteArray := prog_12_method_26_code
def yX10_secondsIn : MethodName := ⟨RX10, "secondsIn", "(II)I"⟩
abbrev cX10_keep : ByteArray := prog_12_method_27_code
def yX10_keep : MethodName := ⟨RX10, "keep", "()V"⟩
abbrev cX10_goes : ByteArray := prog_12_method_28_code
def yX10_goes : MethodName := ⟨RX10, "goes", "(II)I"⟩
abbrev cX10_minute : ByteArray := prog_12_method_29_code
def yX10_minute : MethodName := ⟨RX10, "minute", "(I)I"⟩
abbrev cX10_undo : ByteArray := prog_12_method_30_code
def yX10_undo : MethodName := ⟨RX10, "undo", "()I"⟩
abbrev cX10_of : ByteArray := prog_12_method_31_code
def yX10_of : MethodName := ⟨RX10, "of", "(II)I"⟩
abbrev cX10_lane : ByteArray := prog_12_method_32_code
def yX10_lane : MethodName := ⟨RX10, "lane", "(II)I"⟩
abbrev cX10_seconds : ByteArray := prog_12_method_33_code
def yX10_seconds : MethodName := ⟨RX10, "seconds", "(III)I"⟩
abbrev cX10_lengths : ByteArray := prog_12_method_34_code
def yX10_lengths : MethodName := ⟨RX10, "lengths", "(II)I"⟩
abbrev cX10_bestOf : ByteArray := prog_12_method_35_code
def yX10_bestOf : MethodName := ⟨RX10, "bestOf", "(I)I"⟩
abbrev cX10_best : ByteArray := prog_12_method_36_code
def yX10_best : MethodName := ⟨RX10, "best", "(I)I"⟩
abbrev cX10_sumOthers : ByteArray := prog_12_method_37_code
def yX10_sumOthers : MethodName := ⟨RX10, "sumOthers", "(II)I"⟩
abbrev cX10_costOf : ByteArray := prog_12_method_38_code
def yX10_costOf : MethodName := ⟨RX10, "costOf", "(II)I"⟩
abbrev cX10_cost : ByteArray := prog_12_method_39_code
def yX10_cost : MethodName := ⟨RX10, "cost", "(II)I"⟩
abbrev cX10_where : ByteArray := prog_12_method_40_code
def yX10_where : MethodName := ⟨RX10, "where", "(I)I"⟩
abbrev cX10_obey : ByteArray := prog_12_method_41_code
def yX10_obey : MethodName := ⟨RX10, "obey", "(I)I"⟩
abbrev cX10_sumAll : ByteArray := prog_12_method_42_code
def yX10_sumAll : MethodName := ⟨RX10, "sumAll", "()I"⟩
abbrev cX10_layLies : ByteArray := prog_12_method_43_code
def yX10_layLies : MethodName := ⟨RX10, "layLies", "(I)Z"⟩
abbrev cX10_all : ByteArray := prog_12_method_44_code
def yX10_all : MethodName := ⟨RX10, "all", "(I)I"⟩
abbrev cX10_changes : ByteArray := prog_12_method_45_code
def yX10_changes : MethodName := ⟨RX10, "changes", "(I)I"⟩
abbrev cX10_layStart : ByteArray := prog_12_method_46_code
def yX10_layStart : MethodName := ⟨RX10, "layStart", "(I)V"⟩
abbrev cX10_isRowWell : ByteArray := prog_12_method_47_code
def yX10_isRowWell : MethodName := ⟨RX10, "isRowWell", "(II)Z"⟩
abbrev cX10_layRow : ByteArray := prog_12_method_48_code
def yX10_layRow : MethodName := ⟨RX10, "layRow", "(II)V"⟩
abbrev cX10_order : ByteArray := prog_12_method_49_code
def yX10_order : MethodName := ⟨RX10, "order", "(IIII)I"⟩
abbrev cX10_apart : ByteArray := prog_12_method_50_code
def yX10_apart : MethodName := ⟨RX10, "apart", "(II)I"⟩
abbrev cX10_note : ByteArray := prog_12_method_51_code
def yX10_note : MethodName := ⟨RX10, "note", "(IIIII)I"⟩
abbrev cX10_forget : ByteArray := prog_12_method_52_code
def yX10_forget : MethodName := ⟨RX10, "forget", "()I"⟩
abbrev cX10_canBe : ByteArray := prog_12_method_53_code
def yX10_canBe : MethodName := ⟨RX10, "canBe", "(III)Z"⟩
abbrev cX10_kindsOf : ByteArray := prog_12_method_54_code
def yX10_kindsOf : MethodName := ⟨RX10, "kindsOf", "(I)I"⟩
abbrev cX10_is : ByteArray := prog_12_method_55_code
def yX10_is : MethodName := ⟨RX10, "is", "(II)I"⟩
abbrev cX10_mostAlike : ByteArray := prog_12_method_56_code
def yX10_mostAlike : MethodName := ⟨RX10, "mostAlike", "(III)I"⟩
abbrev cX10_look : ByteArray := prog_12_method_57_code
def yX10_look : MethodName := ⟨RX10, "look", "(I)I"⟩
abbrev cX10_touch : ByteArray := prog_12_method_58_code
def yX10_touch : MethodName := ⟨RX10, "touch", "(II)I"⟩
abbrev cX10_fraction : ByteArray := prog_12_method_59_code
def yX10_fraction : MethodName := ⟨RX10, "fraction", "(JJ)V"⟩
abbrev cX10_counts : ByteArray := prog_12_method_60_code
def yX10_counts : MethodName := ⟨RX10, "counts", "(III)I"⟩
abbrev cX10_goMinute : ByteArray := prog_12_method_61_code
def yX10_goMinute : MethodName := ⟨RX10, "goMinute", "()I"⟩
abbrev cX10_mornings : ByteArray := prog_12_method_62_code
def yX10_mornings : MethodName := ⟨RX10, "mornings", "(II)I"⟩
abbrev cX10_type : ByteArray := prog_12_method_63_code
def yX10_type : MethodName := ⟨RX10, "type", "(I)I"⟩
abbrev cX10_clear : ByteArray := prog_12_method_64_code
def yX10_clear : MethodName := ⟨RX10, "clear", "()I"⟩
abbrev cX10_isSmall : ByteArray := prog_12_method_65_code
def yX10_isSmall : MethodName := ⟨RX10, "isSmall", "(I)Z"⟩
abbrev cX10_isFigure : ByteArray := prog_12_method_66_code
def yX10_isFigure : MethodName := ⟨RX10, "isFigure", "(I)Z"⟩
abbrev cX10_lookAt : ByteArray := prog_12_method_67_code
def yX10_lookAt : MethodName := ⟨RX10, "lookAt", "(I)V"⟩
abbrev cX10_goBehind : ByteArray := prog_12_method_68_code
def yX10_goBehind : MethodName := ⟨RX10, "goBehind", "()V"⟩
abbrev cX10_spells : ByteArray := prog_12_method_69_code
def yX10_spells : MethodName := ⟨RX10, "spells", "(IIIII)Z"⟩
abbrev cX10_takes : ByteArray := prog_12_method_70_code
def yX10_takes : MethodName := ⟨RX10, "takes", "(III)Z"⟩
abbrev cX10_takesSign : ByteArray := prog_12_method_71_code
def yX10_takesSign : MethodName := ⟨RX10, "takesSign", "()Z"⟩
abbrev cX10_takesShut : ByteArray := prog_12_method_72_code
def yX10_takesShut : MethodName := ⟨RX10, "takesShut", "()Z"⟩
abbrev cX10_takesOne : ByteArray := prog_12_method_73_code
def yX10_takesOne : MethodName := ⟨RX10, "takesOne", "()Z"⟩
abbrev cX10_takesItem : ByteArray := prog_12_method_74_code
def yX10_takesItem : MethodName := ⟨RX10, "takesItem", "()Z"⟩
abbrev cX10_read : ByteArray := prog_12_method_75_code
def yX10_read : MethodName := ⟨RX10, "read", "()I"⟩
abbrev cX10_part : ByteArray := prog_12_method_76_code
def yX10_part : MethodName := ⟨RX10, "part", "(I)J"⟩
abbrev cX10_image : ByteArray := prog_12_method_77_code
def yX10_image : MethodName := ⟨RX10, "image", "(I)I"⟩
abbrev cX10_from : ByteArray := prog_12_method_78_code
def yX10_from : MethodName := ⟨RX10, "from", "(I)I"⟩
abbrev cX10_status : ByteArray := prog_12_method_79_code
def yX10_status : MethodName := ⟨RX10, "status", "(I)I"⟩
abbrev cX10_allLengths : ByteArray := prog_12_method_80_code
def yX10_allLengths : MethodName := ⟨RX10, "allLengths", "()I"⟩
abbrev cX10_counted : ByteArray := prog_12_method_81_code
def yX10_counted : MethodName := ⟨RX10, "counted", "(I)I"⟩
abbrev cX10_count : ByteArray := prog_12_method_82_code
def yX10_count : MethodName := ⟨RX10, "count", "(I)I"⟩
abbrev cX10_sums : ByteArray := prog_12_method_83_code
def yX10_sums : MethodName := ⟨RX10, "sums", "(JII)J"⟩
abbrev cX10_digest : ByteArray := prog_12_method_84_code
def yX10_digest : MethodName := ⟨RX10, "digest", "()J"⟩
def RL : String := "SwimLanesLaw"
abbrev cL_law : ByteArray := code
def yL_law : MethodName := ⟨RL, "law", "([I)Z"⟩
theorem dX0_init_0 : decode cX0_init 0 = .ok (.aload_n 0, 1) := by decide +kernel
theorem dX0_init_1 : decode cX0_init 1 = .ok (.invokespecial 5, 3) := by decide +kernel
theorem dX0_init_4 : decode cX0_init 4 = .ok (.aload_n 0, 1) := by decide +kernel
theorem dX0_init_5 : decode cX0_init 5 = .ok (.iconst 4, 1) := by decide +kernel
theorem dX0_init_6 : decode cX0_init 6 = .ok (.newarray .int, 2) := by decide +kernel
theorem dX0_init_8 : decode cX0_init 8 = .ok (.putfield 11, 3) := by decide +kernel
theorem dX0_init_11 : decode cX0_init 11 = .ok (.aload_n 0, 1) := by decide +kernel
theorem dX0_init_12 : decode cX0_init 12 = .ok (.iconst 4, 1) := by decide +kernel
theorem dX0_init_13 : decode cX0_init 13 = .ok (.newarray .int, 2) := by decide +kernel
theorem dX0_init_15 : decode cX0_init 15 = .ok (.putfield 15, 3) := by decide +kernel
theorem dX0_init_18 : decode cX0_init 18 = .ok (.aload_n 0, 1) := by decide +kernel
theorem dX0_init_19 : decode cX0_init 19 = .ok (.bipush 7, 2) := by decide +kernel
theorem dX0_init_21 : decode cX0_init 21 = .ok (.newarray .int, 2) := by decide +kernel
theorem dX0_init_23 : decode cX0_init 23 = .ok (.putfield 18, 3) := by decide +kernel
theorem dX0_init_26 : decode cX0_init 26 = .ok (.aload_n 0, 1) := by decide +kernel
theorem dX0_init_27 : decode cX0_init 27 = .ok (.bipush 7, 2) := by decide +kernel
theorem dX0_init_29 : decode cX0_init 29 = .ok (.newarray .int, 2) := by decide +kernel
theorem dX0_init_31 : decode cX0_init 31 = .ok (.putfield 21, 3) := by decide +kernel
theorem dX0_init_34 : decode cX0_init 34 = .ok (.aload_n 0, 1) := by decide +kernel
theorem dX0_init_35 : decode cX0_init 35 = .ok (.bipush 22, 2) := by decide +kernel
theorem dX0_init_37 : decode cX0_init 37 = .ok (.newarray .int, 2) := by decide +kernel
theorem dX0_init_39 : decode cX0_init 39 = .ok (.putfield 24, 3) := by decide +kernel
theorem dX0_init_42 : decode cX0_init 42 = .ok (.aload_n 0, 1) := by decide +kernel
theorem dX0_init_43 : decode cX0_init 43 = .ok (.sipush 176, 3) := by decide +kernel
theorem dX0_init_46 : decode cX0_init 46 = .ok (.newarray .int, 2) := by decide +kernel
theorem dX0_init_48 : decode cX0_init 48 = .ok (.putfield 27, 3) := by decide +kernel
theorem dX0_init_51 : decode cX0_init 51 = .ok (.aload_n 0, 1) := by decide +kernel
theorem dX0_init_52 : decode cX0_init 52 = .ok (.bipush 30, 2) := by decide +kernel
theorem dX0_init_54 : decode cX0_init 54 = .ok (.newarray .int, 2) := by decide +kernel
theorem dX0_init_56 : decode cX0_init 56 = .ok (.putfield 30, 3) := by decide +kernel
theorem dX0_init_59 : decode cX0_init 59 = .ok (.aload_n 0, 1) := by decide +kernel
theorem dX0_init_60 : decode cX0_init 60 = .ok (.iconst 4, 1) := by decide +kernel
theorem dX0_init_61 : decode cX0_init 61 = .ok (.newarray .int, 2) := by decide +kernel
theorem dX0_init_63 : decode cX0_init 63 = .ok (.putfield 33, 3) := by decide +kernel
theorem dX0_init_66 : decode cX0_init 66 = .ok (.aload_n 0, 1) := by decide +kernel
theorem dX0_init_67 : decode cX0_init 67 = .ok (.aload_n 1, 1) := by decide +kernel
theorem dX0_init_68 : decode cX0_init 68 = .ok (.putfield 36, 3) := by decide +kernel
theorem dX0_init_71 : decode cX0_init 71 = .ok (.aload_n 0, 1) := by decide +kernel
theorem dX0_init_72 : decode cX0_init 72 = .ok (.invokevirtual 40, 3) := by decide +kernel
theorem dX0_init_75 : decode cX0_init 75 = .ok (.return_, 1) := by decide +kernel
theorem dX0_begin_0 : decode cX0_begin 0 = .ok (.getstatic 43, 3) := by decide +kernel
theorem dX0_begin_3 : decode cX0_begin 3 = .ok (.iconst 0, 1) := by decide +kernel
theorem dX0_begin_4 : decode cX0_begin 4 = .ok (.aload_n 0, 1) := by decide +kernel
theorem dX0_begin_5 : decode cX0_begin 5 = .ok (.getfield 11, 3) := by decide +kernel
theorem dX0_begin_8 : decode cX0_begin 8 = .ok (.iconst 0, 1) := by decide +kernel
theorem dX0_begin_9 : decode cX0_begin 9 = .ok (.iconst 4, 1) := by decide +kernel
theorem dX0_begin_10 : decode cX0_begin 10 = .ok (.invokestatic 46, 3) := by decide +kernel
theorem dX0_begin_13 : decode cX0_begin 13 = .ok (.aload_n 0, 1) := by decide +kernel
theorem dX0_begin_14 : decode cX0_begin 14 = .ok (.getfield 15, 3) := by decide +kernel
theorem dX0_begin_17 : decode cX0_begin 17 = .ok (.iconst 0, 1) := by decide +kernel
theorem dX0_begin_18 : decode cX0_begin 18 = .ok (.invokestatic 52, 3) := by decide +kernel
theorem dX0_begin_21 : decode cX0_begin 21 = .ok (.aload_n 0, 1) := by decide +kernel
theorem dX0_begin_22 : decode cX0_begin 22 = .ok (.getfield 24, 3) := by decide +kernel
theorem dX0_begin_25 : decode cX0_begin 25 = .ok (.iconst 0, 1) := by decide +kernel
theorem dX0_begin_26 : decode cX0_begin 26 = .ok (.invokestatic 52, 3) := by decide +kernel
theorem dX0_begin_29 : decode cX0_begin 29 = .ok (.aload_n 0, 1) := by decide +kernel
theorem dX0_begin_30 : decode cX0_begin 30 = .ok (.iconst 0, 1) := by decide +kernel
theorem dX0_begin_31 : decode cX0_begin 31 = .ok (.putfield 58, 3) := by decide +kernel
theorem dX0_begin_34 : decode cX0_begin 34 = .ok (.aload_n 0, 1) := by decide +kernel
theorem dX0_begin_35 : decode cX0_begin 35 = .ok (.iconst 0, 1) := by decide +kernel
theorem dX0_begin_36 : decode cX0_begin 36 = .ok (.putfield 62, 3) := by decide +kernel
theorem dX0_begin_39 : decode cX0_begin 39 = .ok (.aload_n 0, 1) := by decide +kernel
theorem dX0_begin_40 : decode cX0_begin 40 = .ok (.iconst 0, 1) := by decide +kernel
theorem dX0_begin_41 : decode cX0_begin 41 = .ok (.putfield 65, 3) := by decide +kernel
theorem dX0_begin_44 : decode cX0_begin 44 = .ok (.return_, 1) := by decide +kernel
theorem dX0_becomes_0 : decode cX0_becomes 0 = .ok (.aload_n 1, 1) := by decide +kernel
theorem dX0_becomes_1 : decode cX0_becomes 1 = .ok (.getfield 11, 3) := by decide +kernel
theorem dX0_becomes_4 : decode cX0_becomes 4 = .ok (.iconst 0, 1) := by decide +kernel
theorem dX0_becomes_5 : decode cX0_becomes 5 = .ok (.aload_n 0, 1) := by decide +kernel
theorem dX0_becomes_6 : decode cX0_becomes 6 = .ok (.getfield 11, 3) := by decide +kernel
theorem dX0_becomes_9 : decode cX0_becomes 9 = .ok (.iconst 0, 1) := by decide +kernel
theorem dX0_becomes_10 : decode cX0_becomes 10 = .ok (.iconst 4, 1) := by decide +kernel
theorem dX0_becomes_11 : decode cX0_becomes 11 = .ok (.invokestatic 46, 3) := by decide +kernel
theorem dX0_becomes_14 : decode cX0_becomes 14 = .ok (.aload_n 1, 1) := by decide +kernel
theorem dX0_becomes_15 : decode cX0_becomes 15 = .ok (.getfield 15, 3) := by decide +kernel
theorem dX0_becomes_18 : decode cX0_becomes 18 = .ok (.iconst 0, 1) := by decide +kernel
theorem dX0_becomes_19 : decode cX0_becomes 19 = .ok (.aload_n 0, 1) := by decide +kernel
theorem dX0_becomes_20 : decode cX0_becomes 20 = .ok (.getfield 15, 3) := by decide +kernel
theorem dX0_becomes_23 : decode cX0_becomes 23 = .ok (.iconst 0, 1) := by decide +kernel
theorem dX0_becomes_24 : decode cX0_becomes 24 = .ok (.iconst 4, 1) := by decide +kernel
theorem dX0_becomes_25 : decode cX0_becomes 25 = .ok (.invokestatic 46, 3) := by decide +kernel
theorem dX0_becomes_28 : decode cX0_becomes 28 = .ok (.aload_n 1, 1) := by decide +kernel
theorem dX0_becomes_29 : decode cX0_becomes 29 = .ok (.getfield 18, 3) := by decide +kernel
theorem dX0_becomes_32 : decode cX0_becomes 32 = .ok (.iconst 0, 1) := by decide +kernel
theorem dX0_becomes_33 : decode cX0_becomes 33 = .ok (.aload_n 0, 1) := by decide +kernel
theorem dX0_becomes_34 : decode cX0_becomes 34 = .ok (.getfield 18, 3) := by decide +kernel
theorem dX0_becomes_37 : decode cX0_becomes 37 = .ok (.iconst 0, 1) := by decide +kernel
theorem dX0_becomes_38 : decode cX0_becomes 38 = .ok (.bipush 7, 2) := by decide +kernel
theorem dX0_becomes_40 : decode cX0_becomes 40 = .ok (.invokestatic 46, 3) := by decide +kernel
theorem dX0_becomes_43 : decode cX0_becomes 43 = .ok (.aload_n 1, 1) := by decide +kernel
theorem dX0_becomes_44 : decode cX0_becomes 44 = .ok (.getfield 21, 3) := by decide +kernel
theorem dX0_becomes_47 : decode cX0_becomes 47 = .ok (.iconst 0, 1) := by decide +kernel
theorem dX0_becomes_48 : decode cX0_becomes 48 = .ok (.aload_n 0, 1) := by decide +kernel
theorem dX0_becomes_49 : decode cX0_becomes 49 = .ok (.getfield 21, 3) := by decide +kernel
theorem dX0_becomes_52 : decode cX0_becomes 52 = .ok (.iconst 0, 1) := by decide +kernel
theorem dX0_becomes_53 : decode cX0_becomes 53 = .ok (.bipush 7, 2) := by decide +kernel
theorem dX0_becomes_55 : decode cX0_becomes 55 = .ok (.invokestatic 46, 3) := by decide +kernel
theorem dX0_becomes_58 : decode cX0_becomes 58 = .ok (.aload_n 1, 1) := by decide +kernel
theorem dX0_becomes_59 : decode cX0_becomes 59 = .ok (.getfield 24, 3) := by decide +kernel
theorem dX0_becomes_62 : decode cX0_becomes 62 = .ok (.iconst 0, 1) := by decide +kernel
theorem dX0_becomes_63 : decode cX0_becomes 63 = .ok (.aload_n 0, 1) := by decide +kernel
theorem dX0_becomes_64 : decode cX0_becomes 64 = .ok (.getfield 24, 3) := by decide +kernel
theorem dX0_becomes_67 : decode cX0_becomes 67 = .ok (.iconst 0, 1) := by decide +kernel
theorem dX0_becomes_68 : decode cX0_becomes 68 = .ok (.bipush 22, 2) := by decide +kernel
theorem dX0_becomes_70 : decode cX0_becomes 70 = .ok (.invokestatic 46, 3) := by decide +kernel
theorem dX0_becomes_73 : decode cX0_becomes 73 = .ok (.aload_n 1, 1) := by decide +kernel
theorem dX0_becomes_74 : decode cX0_becomes 74 = .ok (.getfield 27, 3) := by decide +kernel
theorem dX0_becomes_77 : decode cX0_becomes 77 = .ok (.iconst 0, 1) := by decide +kernel
theorem dX0_becomes_78 : decode cX0_becomes 78 = .ok (.aload_n 0, 1) := by decide +kernel
theorem dX0_becomes_79 : decode cX0_becomes 79 = .ok (.getfield 27, 3) := by decide +kernel
theorem dX0_becomes_82 : decode cX0_becomes 82 = .ok (.iconst 0, 1) := by decide +kernel
theorem dX0_becomes_83 : decode cX0_becomes 83 = .ok (.sipush 176, 3) := by decide +kernel
theorem dX0_becomes_86 : decode cX0_becomes 86 = .ok (.invokestatic 46, 3) := by decide +kernel
theorem dX0_becomes_89 : decode cX0_becomes 89 = .ok (.aload_n 1, 1) := by decide +kernel
theorem dX0_becomes_90 : decode cX0_becomes 90 = .ok (.getfield 30, 3) := by decide +kernel
theorem dX0_becomes_93 : decode cX0_becomes 93 = .ok (.iconst 0, 1) := by decide +kernel
theorem dX0_becomes_94 : decode cX0_becomes 94 = .ok (.aload_n 0, 1) := by decide +kernel
theorem dX0_becomes_95 : decode cX0_becomes 95 = .ok (.getfield 30, 3) := by decide +kernel
theorem dX0_becomes_98 : decode cX0_becomes 98 = .ok (.iconst 0, 1) := by decide +kernel
theorem dX0_becomes_99 : decode cX0_becomes 99 = .ok (.bipush 30, 2) := by decide +kernel
theorem dX0_becomes_101 : decode cX0_becomes 101 = .ok (.invokestatic 46, 3) := by decide +kernel
theorem dX0_becomes_104 : decode cX0_becomes 104 = .ok (.aload_n 0, 1) := by decide +kernel
theorem dX0_becomes_105 : decode cX0_becomes 105 = .ok (.aload_n 1, 1) := by decide +kernel
theorem dX0_becomes_106 : decode cX0_becomes 106 = .ok (.getfield 58, 3) := by decide +kernel
theorem dX0_becomes_109 : decode cX0_becomes 109 = .ok (.putfield 58, 3) := by decide +kernel
theorem dX0_becomes_112 : decode cX0_becomes 112 = .ok (.aload_n 0, 1) := by decide +kernel
theorem dX0_becomes_113 : decode cX0_becomes 113 = .ok (.aload_n 1, 1) := by decide +kernel
theorem dX0_becomes_114 : decode cX0_becomes 114 = .ok (.getfield 62, 3) := by decide +kernel
theorem dX0_becomes_117 : decode cX0_becomes 117 = .ok (.putfield 62, 3) := by decide +kernel
theorem dX0_becomes_120 : decode cX0_becomes 120 = .ok (.aload_n 0, 1) := by decide +kernel
theorem dX0_becomes_121 : decode cX0_becomes 121 = .ok (.aload_n 1, 1) := by decide +kernel
theorem dX0_becomes_122 : decode cX0_becomes 122 = .ok (.getfield 65, 3) := by decide +kernel
theorem dX0_becomes_125 : decode cX0_becomes 125 = .ok (.putfield 65, 3) := by decide +kernel
theorem dX0_becomes_128 : decode cX0_becomes 128 = .ok (.return_, 1) := by decide +kernel
theorem dX0_comes_0 : decode cX0_comes 0 = .ok (.aload_n 0, 1) := by decide +kernel
theorem dX0_comes_1 : decode cX0_comes 1 = .ok (.getfield 58, 3) := by decide +kernel
theorem dX0_comes_4 : decode cX0_comes 4 = .ok (.istore 4, 2) := by decide +kernel
theorem dX0_comes_6 : decode cX0_comes 6 = .ok (.iload 4, 2) := by decide +kernel
theorem dX0_comes_8 : decode cX0_comes 8 = .ok (.bipush 7, 2) := by decide +kernel
theorem dX0_comes_10 : decode cX0_comes 10 = .ok (.if_icmp .lt 5, 3) := by decide +kernel
theorem dX0_comes_13 : decode cX0_comes 13 = .ok (.iconst (-1), 1) := by decide +kernel
theorem dX0_comes_14 : decode cX0_comes 14 = .ok (.ireturn, 1) := by decide +kernel
theorem dX0_comes_15 : decode cX0_comes 15 = .ok (.aload_n 0, 1) := by decide +kernel
theorem dX0_comes_16 : decode cX0_comes 16 = .ok (.getfield 18, 3) := by decide +kernel
theorem dX0_comes_19 : decode cX0_comes 19 = .ok (.iload 4, 2) := by decide +kernel
theorem dX0_comes_21 : decode cX0_comes 21 = .ok (.iload_n 1, 1) := by decide +kernel
theorem dX0_comes_22 : decode cX0_comes 22 = .ok (.iastore, 1) := by decide +kernel
theorem dX0_comes_23 : decode cX0_comes 23 = .ok (.aload_n 0, 1) := by decide +kernel
theorem dX0_comes_24 : decode cX0_comes 24 = .ok (.getfield 21, 3) := by decide +kernel
theorem dX0_comes_27 : decode cX0_comes 27 = .ok (.iload 4, 2) := by decide +kernel
theorem dX0_comes_29 : decode cX0_comes 29 = .ok (.iload_n 2, 1) := by decide +kernel
theorem dX0_comes_30 : decode cX0_comes 30 = .ok (.iastore, 1) := by decide +kernel
theorem dX0_comes_31 : decode cX0_comes 31 = .ok (.aload_n 0, 1) := by decide +kernel
theorem dX0_comes_32 : decode cX0_comes 32 = .ok (.getfield 24, 3) := by decide +kernel
theorem dX0_comes_35 : decode cX0_comes 35 = .ok (.iconst 1, 1) := by decide +kernel
theorem dX0_comes_36 : decode cX0_comes 36 = .ok (.iload 4, 2) := by decide +kernel
theorem dX0_comes_38 : decode cX0_comes 38 = .ok (.iadd, 1) := by decide +kernel
theorem dX0_comes_39 : decode cX0_comes 39 = .ok (.iload_n 3, 1) := by decide +kernel
theorem dX0_comes_40 : decode cX0_comes 40 = .ok (.iastore, 1) := by decide +kernel
theorem dX0_comes_41 : decode cX0_comes 41 = .ok (.aload_n 0, 1) := by decide +kernel
theorem dX0_comes_42 : decode cX0_comes 42 = .ok (.iload 4, 2) := by decide +kernel
theorem dX0_comes_44 : decode cX0_comes 44 = .ok (.iconst 1, 1) := by decide +kernel
theorem dX0_comes_45 : decode cX0_comes 45 = .ok (.iadd, 1) := by decide +kernel
theorem dX0_comes_46 : decode cX0_comes 46 = .ok (.putfield 58, 3) := by decide +kernel
theorem dX0_comes_49 : decode cX0_comes 49 = .ok (.aload_n 0, 1) := by decide +kernel
theorem dX0_comes_50 : decode cX0_comes 50 = .ok (.iconst 0, 1) := by decide +kernel
theorem dX0_comes_51 : decode cX0_comes 51 = .ok (.putfield 62, 3) := by decide +kernel
theorem dX0_comes_54 : decode cX0_comes 54 = .ok (.iload 4, 2) := by decide +kernel
theorem dX0_comes_56 : decode cX0_comes 56 = .ok (.ireturn, 1) := by decide +kernel
theorem dX0_keepForUndo_0 : decode cX0_keepForUndo 0 = .ok (.aload_n 0, 1) := by decide +kernel
theorem dX0_keepForUndo_1 : decode cX0_keepForUndo 1 = .ok (.getfield 62, 3) := by decide +kernel
theorem dX0_keepForUndo_4 : decode cX0_keepForUndo 4 = .ok (.bipush 8, 2) := by decide +kernel
theorem dX0_keepForUndo_6 : decode cX0_keepForUndo 6 = .ok (.if_icmp .lt 26, 3) := by decide +kernel
theorem dX0_keepForUndo_9 : decode cX0_keepForUndo 9 = .ok (.aload_n 0, 1) := by decide +kernel
theorem dX0_keepForUndo_10 : decode cX0_keepForUndo 10 = .ok (.getfield 27, 3) := by decide +kernel
theorem dX0_keepForUndo_13 : decode cX0_keepForUndo 13 = .ok (.bipush 22, 2) := by decide +kernel
theorem dX0_keepForUndo_15 : decode cX0_keepForUndo 15 = .ok (.aload_n 0, 1) := by decide +kernel
theorem dX0_keepForUndo_16 : decode cX0_keepForUndo 16 = .ok (.getfield 27, 3) := by decide +kernel
theorem dX0_keepForUndo_19 : decode cX0_keepForUndo 19 = .ok (.iconst 0, 1) := by decide +kernel
theorem dX0_keepForUndo_20 : decode cX0_keepForUndo 20 = .ok (.sipush 154, 3) := by decide +kernel
theorem dX0_keepForUndo_23 : decode cX0_keepForUndo 23 = .ok (.invokestatic 46, 3) := by decide +kernel
theorem dX0_keepForUndo_26 : decode cX0_keepForUndo 26 = .ok (.aload_n 0, 1) := by decide +kernel
theorem dX0_keepForUndo_27 : decode cX0_keepForUndo 27 = .ok (.bipush 7, 2) := by decide +kernel
theorem dX0_keepForUndo_29 : decode cX0_keepForUndo 29 = .ok (.putfield 62, 3) := by decide +kernel
theorem dX0_keepForUndo_32 : decode cX0_keepForUndo 32 = .ok (.aload_n 0, 1) := by decide +kernel
theorem dX0_keepForUndo_33 : decode cX0_keepForUndo 33 = .ok (.getfield 24, 3) := by decide +kernel
theorem dX0_keepForUndo_36 : decode cX0_keepForUndo 36 = .ok (.iconst 0, 1) := by decide +kernel
theorem dX0_keepForUndo_37 : decode cX0_keepForUndo 37 = .ok (.aload_n 0, 1) := by decide +kernel
theorem dX0_keepForUndo_38 : decode cX0_keepForUndo 38 = .ok (.getfield 27, 3) := by decide +kernel
theorem dX0_keepForUndo_41 : decode cX0_keepForUndo 41 = .ok (.aload_n 0, 1) := by decide +kernel
theorem dX0_keepForUndo_42 : decode cX0_keepForUndo 42 = .ok (.getfield 62, 3) := by decide +kernel
theorem dX0_keepForUndo_45 : decode cX0_keepForUndo 45 = .ok (.bipush 22, 2) := by decide +kernel
theorem dX0_keepForUndo_47 : decode cX0_keepForUndo 47 = .ok (.imul, 1) := by decide +kernel
theorem dX0_keepForUndo_48 : decode cX0_keepForUndo 48 = .ok (.bipush 22, 2) := by decide +kernel
theorem dX0_keepForUndo_50 : decode cX0_keepForUndo 50 = .ok (.invokestatic 46, 3) := by decide +kernel
theorem dX0_keepForUndo_53 : decode cX0_keepForUndo 53 = .ok (.aload_n 0, 1) := by decide +kernel
theorem dX0_keepForUndo_54 : decode cX0_keepForUndo 54 = .ok (.dup, 1) := by decide +kernel
theorem dX0_keepForUndo_55 : decode cX0_keepForUndo 55 = .ok (.getfield 62, 3) := by decide +kernel
theorem dX0_keepForUndo_58 : decode cX0_keepForUndo 58 = .ok (.iconst 1, 1) := by decide +kernel
theorem dX0_keepForUndo_59 : decode cX0_keepForUndo 59 = .ok (.iadd, 1) := by decide +kernel
theorem dX0_keepForUndo_60 : decode cX0_keepForUndo 60 = .ok (.putfield 62, 3) := by decide +kernel
theorem dX0_keepForUndo_63 : decode cX0_keepForUndo 63 = .ok (.return_, 1) := by decide +kernel
theorem dX0_takeBack_0 : decode cX0_takeBack 0 = .ok (.aload_n 0, 1) := by decide +kernel
theorem dX0_takeBack_1 : decode cX0_takeBack 1 = .ok (.getfield 62, 3) := by decide +kernel
theorem dX0_takeBack_4 : decode cX0_takeBack 4 = .ok (.ifCond .le 34, 3) := by decide +kernel
theorem dX0_takeBack_7 : decode cX0_takeBack 7 = .ok (.aload_n 0, 1) := by decide +kernel
theorem dX0_takeBack_8 : decode cX0_takeBack 8 = .ok (.dup, 1) := by decide +kernel
theorem dX0_takeBack_9 : decode cX0_takeBack 9 = .ok (.getfield 62, 3) := by decide +kernel
theorem dX0_takeBack_12 : decode cX0_takeBack 12 = .ok (.iconst 1, 1) := by decide +kernel
theorem dX0_takeBack_13 : decode cX0_takeBack 13 = .ok (.isub, 1) := by decide +kernel
theorem dX0_takeBack_14 : decode cX0_takeBack 14 = .ok (.putfield 62, 3) := by decide +kernel
theorem dX0_takeBack_17 : decode cX0_takeBack 17 = .ok (.aload_n 0, 1) := by decide +kernel
theorem dX0_takeBack_18 : decode cX0_takeBack 18 = .ok (.getfield 27, 3) := by decide +kernel
theorem dX0_takeBack_21 : decode cX0_takeBack 21 = .ok (.aload_n 0, 1) := by decide +kernel
theorem dX0_takeBack_22 : decode cX0_takeBack 22 = .ok (.getfield 62, 3) := by decide +kernel
theorem dX0_takeBack_25 : decode cX0_takeBack 25 = .ok (.bipush 22, 2) := by decide +kernel
theorem dX0_takeBack_27 : decode cX0_takeBack 27 = .ok (.imul, 1) := by decide +kernel
theorem dX0_takeBack_28 : decode cX0_takeBack 28 = .ok (.aload_n 0, 1) := by decide +kernel
theorem dX0_takeBack_29 : decode cX0_takeBack 29 = .ok (.getfield 24, 3) := by decide +kernel
theorem dX0_takeBack_32 : decode cX0_takeBack 32 = .ok (.iconst 0, 1) := by decide +kernel
theorem dX0_takeBack_33 : decode cX0_takeBack 33 = .ok (.bipush 22, 2) := by decide +kernel
theorem dX0_takeBack_35 : decode cX0_takeBack 35 = .ok (.invokestatic 46, 3) := by decide +kernel
theorem dX0_takeBack_38 : decode cX0_takeBack 38 = .ok (.return_, 1) := by decide +kernel
theorem dX0_isOpen_0 : decode cX0_isOpen 0 = .ok (.aload_n 0, 1) := by decide +kernel
theorem dX0_isOpen_1 : decode cX0_isOpen 1 = .ok (.getfield 15, 3) := by decide +kernel
theorem dX0_isOpen_4 : decode cX0_isOpen 4 = .ok (.iload_n 1, 1) := by decide +kernel
theorem dX0_isOpen_5 : decode cX0_isOpen 5 = .ok (.iaload, 1) := by decide +kernel
theorem dX0_isOpen_6 : decode cX0_isOpen 6 = .ok (.ifCond .ne 7, 3) := by decide +kernel
theorem dX0_isOpen_9 : decode cX0_isOpen 9 = .ok (.iconst 1, 1) := by decide +kernel
theorem dX0_isOpen_10 : decode cX0_isOpen 10 = .ok (.goto 4, 3) := by decide +kernel
theorem dX0_isOpen_13 : decode cX0_isOpen 13 = .ok (.iconst 0, 1) := by decide +kernel
theorem dX0_isOpen_14 : decode cX0_isOpen 14 = .ok (.ireturn, 1) := by decide +kernel
theorem dX0_openLanes_0 : decode cX0_openLanes 0 = .ok (.iconst 0, 1) := by decide +kernel
theorem dX0_openLanes_1 : decode cX0_openLanes 1 = .ok (.istore_n 1, 1) := by decide +kernel
theorem dX0_openLanes_2 : decode cX0_openLanes 2 = .ok (.iconst 0, 1) := by decide +kernel
theorem dX0_openLanes_3 : decode cX0_openLanes 3 = .ok (.istore_n 2, 1) := by decide +kernel
theorem dX0_openLanes_4 : decode cX0_openLanes 4 = .ok (.iload_n 2, 1) := by decide +kernel
theorem dX0_openLanes_5 : decode cX0_openLanes 5 = .ok (.iconst 4, 1) := by decide +kernel
theorem dX0_openLanes_6 : decode cX0_openLanes 6 = .ok (.if_icmp .ge 20, 3) := by decide +kernel
theorem dX0_openLanes_9 : decode cX0_openLanes 9 = .ok (.aload_n 0, 1) := by decide +kernel
theorem dX0_openLanes_10 : decode cX0_openLanes 10 = .ok (.iload_n 2, 1) := by decide +kernel
theorem dX0_openLanes_11 : decode cX0_openLanes 11 = .ok (.invokevirtual 68, 3) := by decide +kernel
theorem dX0_openLanes_14 : decode cX0_openLanes 14 = .ok (.ifCond .eq 6, 3) := by decide +kernel
theorem dX0_openLanes_17 : decode cX0_openLanes 17 = .ok (.iinc 1 1, 3) := by decide +kernel
theorem dX0_openLanes_20 : decode cX0_openLanes 20 = .ok (.iinc 2 1, 3) := by decide +kernel
theorem dX0_openLanes_23 : decode cX0_openLanes 23 = .ok (.goto (-19), 3) := by decide +kernel
theorem dX0_openLanes_26 : decode cX0_openLanes 26 = .ok (.iload_n 1, 1) := by decide +kernel
theorem dX0_openLanes_27 : decode cX0_openLanes 27 = .ok (.ireturn, 1) := by decide +kernel
theorem dX0_laneOf_0 : decode cX0_laneOf 0 = .ok (.aload_n 0, 1) := by decide +kernel
theorem dX0_laneOf_1 : decode cX0_laneOf 1 = .ok (.getfield 24, 3) := by decide +kernel
theorem dX0_laneOf_4 : decode cX0_laneOf 4 = .ok (.iconst 1, 1) := by decide +kernel
theorem dX0_laneOf_5 : decode cX0_laneOf 5 = .ok (.iload_n 1, 1) := by decide +kernel
theorem dX0_laneOf_6 : decode cX0_laneOf 6 = .ok (.iadd, 1) := by decide +kernel
theorem dX0_laneOf_7 : decode cX0_laneOf 7 = .ok (.iaload, 1) := by decide +kernel
theorem dX0_laneOf_8 : decode cX0_laneOf 8 = .ok (.ireturn, 1) := by decide +kernel
theorem dX0_lengthsOfAll_0 : decode cX0_lengthsOfAll 0 = .ok (.iconst 0, 1) := by decide +kernel
theorem dX0_lengthsOfAll_1 : decode cX0_lengthsOfAll 1 = .ok (.istore_n 1, 1) := by decide +kernel
theorem dX0_lengthsOfAll_2 : decode cX0_lengthsOfAll 2 = .ok (.iconst 0, 1) := by decide +kernel
theorem dX0_lengthsOfAll_3 : decode cX0_lengthsOfAll 3 = .ok (.istore_n 2, 1) := by decide +kernel
theorem dX0_lengthsOfAll_4 : decode cX0_lengthsOfAll 4 = .ok (.iload_n 2, 1) := by decide +kernel
theorem dX0_lengthsOfAll_5 : decode cX0_lengthsOfAll 5 = .ok (.aload_n 0, 1) := by decide +kernel
theorem dX0_lengthsOfAll_6 : decode cX0_lengthsOfAll 6 = .ok (.getfield 58, 3) := by decide +kernel
theorem dX0_lengthsOfAll_9 : decode cX0_lengthsOfAll 9 = .ok (.if_icmp .ge 21, 3) := by decide +kernel
theorem dX0_lengthsOfAll_12 : decode cX0_lengthsOfAll 12 = .ok (.iload_n 1, 1) := by decide +kernel
theorem dX0_lengthsOfAll_13 : decode cX0_lengthsOfAll 13 = .ok (.aload_n 0, 1) := by decide +kernel
theorem dX0_lengthsOfAll_14 : decode cX0_lengthsOfAll 14 = .ok (.getfield 24, 3) := by decide +kernel
theorem dX0_lengthsOfAll_17 : decode cX0_lengthsOfAll 17 = .ok (.bipush 8, 2) := by decide +kernel
theorem dX0_lengthsOfAll_19 : decode cX0_lengthsOfAll 19 = .ok (.iload_n 2, 1) := by decide +kernel
theorem dX0_lengthsOfAll_20 : decode cX0_lengthsOfAll 20 = .ok (.iadd, 1) := by decide +kernel
theorem dX0_lengthsOfAll_21 : decode cX0_lengthsOfAll 21 = .ok (.iaload, 1) := by decide +kernel
theorem dX0_lengthsOfAll_22 : decode cX0_lengthsOfAll 22 = .ok (.iadd, 1) := by decide +kernel
theorem dX0_lengthsOfAll_23 : decode cX0_lengthsOfAll 23 = .ok (.istore_n 1, 1) := by decide +kernel
theorem dX0_lengthsOfAll_24 : decode cX0_lengthsOfAll 24 = .ok (.iinc 2 1, 3) := by decide +kernel
theorem dX0_lengthsOfAll_27 : decode cX0_lengthsOfAll 27 = .ok (.goto (-23), 3) := by decide +kernel
theorem dX0_lengthsOfAll_30 : decode cX0_lengthsOfAll 30 = .ok (.iload_n 1, 1) := by decide +kernel
theorem dX0_lengthsOfAll_31 : decode cX0_lengthsOfAll 31 = .ok (.ireturn, 1) := by decide +kernel
theorem dX0_believedBy_0 : decode cX0_believedBy 0 = .ok (.aload_n 0, 1) := by decide +kernel
theorem dX0_believedBy_1 : decode cX0_believedBy 1 = .ok (.getfield 36, 3) := by decide +kernel
theorem dX0_believedBy_4 : decode cX0_believedBy 4 = .ok (.aload_n 0, 1) := by decide +kernel
theorem dX0_believedBy_5 : decode cX0_believedBy 5 = .ok (.getfield 18, 3) := by decide +kernel
theorem dX0_believedBy_8 : decode cX0_believedBy 8 = .ok (.iload_n 1, 1) := by decide +kernel
theorem dX0_believedBy_9 : decode cX0_believedBy 9 = .ok (.iaload, 1) := by decide +kernel
theorem dX0_believedBy_10 : decode cX0_believedBy 10 = .ok (.aaload, 1) := by decide +kernel
theorem dX0_believedBy_11 : decode cX0_believedBy 11 = .ok (.aload_n 0, 1) := by decide +kernel
theorem dX0_believedBy_12 : decode cX0_believedBy 12 = .ok (.getfield 21, 3) := by decide +kernel
theorem dX0_believedBy_15 : decode cX0_believedBy 15 = .ok (.iload_n 1, 1) := by decide +kernel
theorem dX0_believedBy_16 : decode cX0_believedBy 16 = .ok (.iaload, 1) := by decide +kernel
theorem dX0_believedBy_17 : decode cX0_believedBy 17 = .ok (.invokevirtual 72, 3) := by decide +kernel
theorem dX0_believedBy_20 : decode cX0_believedBy 20 = .ok (.ireturn, 1) := by decide +kernel
theorem dX0_members_0 : decode cX0_members 0 = .ok (.iconst 0, 1) := by decide +kernel
theorem dX0_members_1 : decode cX0_members 1 = .ok (.istore_n 3, 1) := by decide +kernel
theorem dX0_members_2 : decode cX0_members 2 = .ok (.iconst 0, 1) := by decide +kernel
theorem dX0_members_3 : decode cX0_members 3 = .ok (.istore 4, 2) := by decide +kernel
theorem dX0_members_5 : decode cX0_members 5 = .ok (.iload 4, 2) := by decide +kernel
theorem dX0_members_7 : decode cX0_members 7 = .ok (.aload_n 0, 1) := by decide +kernel
theorem dX0_members_8 : decode cX0_members 8 = .ok (.getfield 58, 3) := by decide +kernel
theorem dX0_members_11 : decode cX0_members 11 = .ok (.if_icmp .ge 26, 3) := by decide +kernel
theorem dX0_members_14 : decode cX0_members 14 = .ok (.aload_n 1, 1) := by decide +kernel
theorem dX0_members_15 : decode cX0_members 15 = .ok (.iconst 1, 1) := by decide +kernel
theorem dX0_members_16 : decode cX0_members 16 = .ok (.iload 4, 2) := by decide +kernel
theorem dX0_members_18 : decode cX0_members 18 = .ok (.iadd, 1) := by decide +kernel
theorem dX0_members_19 : decode cX0_members 19 = .ok (.iaload, 1) := by decide +kernel
theorem dX0_members_20 : decode cX0_members 20 = .ok (.iload_n 2, 1) := by decide +kernel
theorem dX0_members_21 : decode cX0_members 21 = .ok (.if_icmp .ne 10, 3) := by decide +kernel
theorem dX0_members_24 : decode cX0_members 24 = .ok (.iload_n 3, 1) := by decide +kernel
theorem dX0_members_25 : decode cX0_members 25 = .ok (.iconst 1, 1) := by decide +kernel
theorem dX0_members_26 : decode cX0_members 26 = .ok (.iload 4, 2) := by decide +kernel
theorem dX0_members_28 : decode cX0_members 28 = .ok (.ishl, 1) := by decide +kernel
theorem dX0_members_29 : decode cX0_members 29 = .ok (.ior, 1) := by decide +kernel
theorem dX0_members_30 : decode cX0_members 30 = .ok (.istore_n 3, 1) := by decide +kernel
theorem dX0_members_31 : decode cX0_members 31 = .ok (.iinc 4 1, 3) := by decide +kernel
theorem dX0_members_34 : decode cX0_members 34 = .ok (.goto (-29), 3) := by decide +kernel
theorem dX0_members_37 : decode cX0_members 37 = .ok (.iload_n 3, 1) := by decide +kernel
theorem dX0_members_38 : decode cX0_members 38 = .ok (.ireturn, 1) := by decide +kernel
theorem dX0_others_0 : decode cX0_others 0 = .ok (.aload_n 0, 1) := by decide +kernel
theorem dX0_others_1 : decode cX0_others 1 = .ok (.aload_n 1, 1) := by decide +kernel
theorem dX0_others_2 : decode cX0_others 2 = .ok (.iload_n 3, 1) := by decide +kernel
theorem dX0_others_3 : decode cX0_others 3 = .ok (.invokevirtual 78, 3) := by decide +kernel
theorem dX0_others_6 : decode cX0_others 6 = .ok (.iconst 1, 1) := by decide +kernel
theorem dX0_others_7 : decode cX0_others 7 = .ok (.iload_n 2, 1) := by decide +kernel
theorem dX0_others_8 : decode cX0_others 8 = .ok (.ishl, 1) := by decide +kernel
theorem dX0_others_9 : decode cX0_others 9 = .ok (.iconst (-1), 1) := by decide +kernel
theorem dX0_others_10 : decode cX0_others 10 = .ok (.ixor, 1) := by decide +kernel
theorem dX0_others_11 : decode cX0_others 11 = .ok (.iand, 1) := by decide +kernel
theorem dX0_others_12 : decode cX0_others 12 = .ok (.ireturn, 1) := by decide +kernel
theorem dX0_takesIn_0 : decode cX0_takesIn 0 = .ok (.aload_n 0, 1) := by decide +kernel
theorem dX0_takesIn_1 : decode cX0_takesIn 1 = .ok (.aload_n 0, 1) := by decide +kernel
theorem dX0_takesIn_2 : decode cX0_takesIn 2 = .ok (.getfield 18, 3) := by decide +kernel
theorem dX0_takesIn_5 : decode cX0_takesIn 5 = .ok (.iload_n 2, 1) := by decide +kernel
theorem dX0_takesIn_6 : decode cX0_takesIn 6 = .ok (.iaload, 1) := by decide +kernel
theorem dX0_takesIn_7 : decode cX0_takesIn 7 = .ok (.iload_n 2, 1) := by decide +kernel
theorem dX0_takesIn_8 : decode cX0_takesIn 8 = .ok (.aload_n 0, 1) := by decide +kernel
theorem dX0_takesIn_9 : decode cX0_takesIn 9 = .ok (.aload_n 1, 1) := by decide +kernel
theorem dX0_takesIn_10 : decode cX0_takesIn 10 = .ok (.iload_n 2, 1) := by decide +kernel
theorem dX0_takesIn_11 : decode cX0_takesIn 11 = .ok (.iload_n 3, 1) := by decide +kernel
theorem dX0_takesIn_12 : decode cX0_takesIn 12 = .ok (.invokevirtual 82, 3) := by decide +kernel
theorem dX0_takesIn_15 : decode cX0_takesIn 15 = .ok (.invokevirtual 86, 3) := by decide +kernel
theorem dX0_takesIn_18 : decode cX0_takesIn 18 = .ok (.ireturn, 1) := by decide +kernel
theorem dX0_takes_0 : decode cX0_takes 0 = .ok (.aload_n 0, 1) := by decide +kernel
theorem dX0_takes_1 : decode cX0_takes 1 = .ok (.aload_n 0, 1) := by decide +kernel
theorem dX0_takes_2 : decode cX0_takes 2 = .ok (.getfield 18, 3) := by decide +kernel
theorem dX0_takes_5 : decode cX0_takes 5 = .ok (.iload_n 1, 1) := by decide +kernel
theorem dX0_takes_6 : decode cX0_takes 6 = .ok (.iaload, 1) := by decide +kernel
theorem dX0_takes_7 : decode cX0_takes 7 = .ok (.iload_n 1, 1) := by decide +kernel
theorem dX0_takes_8 : decode cX0_takes 8 = .ok (.iload_n 2, 1) := by decide +kernel
theorem dX0_takes_9 : decode cX0_takes 9 = .ok (.invokevirtual 86, 3) := by decide +kernel
theorem dX0_takes_12 : decode cX0_takes 12 = .ok (.ireturn, 1) := by decide +kernel
theorem dX0_takesAs_0 : decode cX0_takesAs 0 = .ok (.aload_n 0, 1) := by decide +kernel
theorem dX0_takesAs_1 : decode cX0_takesAs 1 = .ok (.getfield 36, 3) := by decide +kernel
theorem dX0_takesAs_4 : decode cX0_takesAs 4 = .ok (.iload_n 1, 1) := by decide +kernel
theorem dX0_takesAs_5 : decode cX0_takesAs 5 = .ok (.aaload, 1) := by decide +kernel
theorem dX0_takesAs_6 : decode cX0_takesAs 6 = .ok (.aload_n 0, 1) := by decide +kernel
theorem dX0_takesAs_7 : decode cX0_takesAs 7 = .ok (.getfield 21, 3) := by decide +kernel
theorem dX0_takesAs_10 : decode cX0_takesAs 10 = .ok (.iload_n 2, 1) := by decide +kernel
theorem dX0_takesAs_11 : decode cX0_takesAs 11 = .ok (.iaload, 1) := by decide +kernel
theorem dX0_takesAs_12 : decode cX0_takesAs 12 = .ok (.aload_n 0, 1) := by decide +kernel
theorem dX0_takesAs_13 : decode cX0_takesAs 13 = .ok (.iload_n 3, 1) := by decide +kernel
theorem dX0_takesAs_14 : decode cX0_takesAs 14 = .ok (.invokevirtual 90, 3) := by decide +kernel
theorem dX0_takesAs_17 : decode cX0_takesAs 17 = .ok (.aload_n 0, 1) := by decide +kernel
theorem dX0_takesAs_18 : decode cX0_takesAs 18 = .ok (.iload_n 2, 1) := by decide +kernel
theorem dX0_takesAs_19 : decode cX0_takesAs 19 = .ok (.iload_n 3, 1) := by decide +kernel
theorem dX0_takesAs_20 : decode cX0_takesAs 20 = .ok (.invokevirtual 93, 3) := by decide +kernel
theorem dX0_takesAs_23 : decode cX0_takesAs 23 = .ok (.iload_n 3, 1) := by decide +kernel
theorem dX0_takesAs_24 : decode cX0_takesAs 24 = .ok (.invokestatic 97, 3) := by decide +kernel
theorem dX0_takesAs_27 : decode cX0_takesAs 27 = .ok (.invokevirtual 102, 3) := by decide +kernel
theorem dX0_takesAs_30 : decode cX0_takesAs 30 = .ok (.ireturn, 1) := by decide +kernel
theorem dX0_greatestPace_0 : decode cX0_greatestPace 0 = .ok (.iconst 0, 1) := by decide +kernel
theorem dX0_greatestPace_1 : decode cX0_greatestPace 1 = .ok (.istore_n 2, 1) := by decide +kernel
theorem dX0_greatestPace_2 : decode cX0_greatestPace 2 = .ok (.iconst 0, 1) := by decide +kernel
theorem dX0_greatestPace_3 : decode cX0_greatestPace 3 = .ok (.istore_n 3, 1) := by decide +kernel
theorem dX0_greatestPace_4 : decode cX0_greatestPace 4 = .ok (.iload_n 3, 1) := by decide +kernel
theorem dX0_greatestPace_5 : decode cX0_greatestPace 5 = .ok (.aload_n 0, 1) := by decide +kernel
theorem dX0_greatestPace_6 : decode cX0_greatestPace 6 = .ok (.getfield 58, 3) := by decide +kernel
theorem dX0_greatestPace_9 : decode cX0_greatestPace 9 = .ok (.if_icmp .ge 28, 3) := by decide +kernel
theorem dX0_greatestPace_12 : decode cX0_greatestPace 12 = .ok (.iload_n 1, 1) := by decide +kernel
theorem dX0_greatestPace_13 : decode cX0_greatestPace 13 = .ok (.iload_n 3, 1) := by decide +kernel
theorem dX0_greatestPace_14 : decode cX0_greatestPace 14 = .ok (.invokestatic 106, 3) := by decide +kernel
theorem dX0_greatestPace_17 : decode cX0_greatestPace 17 = .ok (.ifCond .eq 14, 3) := by decide +kernel
theorem dX0_greatestPace_20 : decode cX0_greatestPace 20 = .ok (.iload_n 2, 1) := by decide +kernel
theorem dX0_greatestPace_21 : decode cX0_greatestPace 21 = .ok (.aload_n 0, 1) := by decide +kernel
theorem dX0_greatestPace_22 : decode cX0_greatestPace 22 = .ok (.getfield 21, 3) := by decide +kernel
theorem dX0_greatestPace_25 : decode cX0_greatestPace 25 = .ok (.iload_n 3, 1) := by decide +kernel
theorem dX0_greatestPace_26 : decode cX0_greatestPace 26 = .ok (.iaload, 1) := by decide +kernel
theorem dX0_greatestPace_27 : decode cX0_greatestPace 27 = .ok (.invokestatic 110, 3) := by decide +kernel
theorem dX0_greatestPace_30 : decode cX0_greatestPace 30 = .ok (.istore_n 2, 1) := by decide +kernel
theorem dX0_greatestPace_31 : decode cX0_greatestPace 31 = .ok (.iinc 3 1, 3) := by decide +kernel
theorem dX0_greatestPace_34 : decode cX0_greatestPace 34 = .ok (.goto (-30), 3) := by decide +kernel
theorem dX0_greatestPace_37 : decode cX0_greatestPace 37 = .ok (.iload_n 2, 1) := by decide +kernel
theorem dX0_greatestPace_38 : decode cX0_greatestPace 38 = .ok (.ireturn, 1) := by decide +kernel
theorem dX0_slowerThan_0 : decode cX0_slowerThan 0 = .ok (.iconst 0, 1) := by decide +kernel
theorem dX0_slowerThan_1 : decode cX0_slowerThan 1 = .ok (.istore_n 3, 1) := by decide +kernel
theorem dX0_slowerThan_2 : decode cX0_slowerThan 2 = .ok (.iconst 0, 1) := by decide +kernel
theorem dX0_slowerThan_3 : decode cX0_slowerThan 3 = .ok (.istore 4, 2) := by decide +kernel
theorem dX0_slowerThan_5 : decode cX0_slowerThan 5 = .ok (.iload 4, 2) := by decide +kernel
theorem dX0_slowerThan_7 : decode cX0_slowerThan 7 = .ok (.aload_n 0, 1) := by decide +kernel
theorem dX0_slowerThan_8 : decode cX0_slowerThan 8 = .ok (.getfield 58, 3) := by decide +kernel
theorem dX0_slowerThan_11 : decode cX0_slowerThan 11 = .ok (.if_icmp .ge 37, 3) := by decide +kernel
theorem dX0_slowerThan_14 : decode cX0_slowerThan 14 = .ok (.iload_n 2, 1) := by decide +kernel
theorem dX0_slowerThan_15 : decode cX0_slowerThan 15 = .ok (.iload 4, 2) := by decide +kernel
theorem dX0_slowerThan_17 : decode cX0_slowerThan 17 = .ok (.invokestatic 106, 3) := by decide +kernel
theorem dX0_slowerThan_20 : decode cX0_slowerThan 20 = .ok (.ifCond .eq 22, 3) := by decide +kernel
theorem dX0_slowerThan_23 : decode cX0_slowerThan 23 = .ok (.aload_n 0, 1) := by decide +kernel
theorem dX0_slowerThan_24 : decode cX0_slowerThan 24 = .ok (.getfield 21, 3) := by decide +kernel
theorem dX0_slowerThan_27 : decode cX0_slowerThan 27 = .ok (.iload 4, 2) := by decide +kernel
theorem dX0_slowerThan_29 : decode cX0_slowerThan 29 = .ok (.iaload, 1) := by decide +kernel
theorem dX0_slowerThan_30 : decode cX0_slowerThan 30 = .ok (.aload_n 0, 1) := by decide +kernel
theorem dX0_slowerThan_31 : decode cX0_slowerThan 31 = .ok (.getfield 21, 3) := by decide +kernel
theorem dX0_slowerThan_34 : decode cX0_slowerThan 34 = .ok (.iload_n 1, 1) := by decide +kernel
theorem dX0_slowerThan_35 : decode cX0_slowerThan 35 = .ok (.iaload, 1) := by decide +kernel
theorem dX0_slowerThan_36 : decode cX0_slowerThan 36 = .ok (.if_icmp .le 6, 3) := by decide +kernel
theorem dX0_slowerThan_39 : decode cX0_slowerThan 39 = .ok (.iinc 3 1, 3) := by decide +kernel
theorem dX0_slowerThan_42 : decode cX0_slowerThan 42 = .ok (.iinc 4 1, 3) := by decide +kernel
theorem dX0_slowerThan_45 : decode cX0_slowerThan 45 = .ok (.goto (-40), 3) := by decide +kernel
theorem dX0_slowerThan_48 : decode cX0_slowerThan 48 = .ok (.iload_n 3, 1) := by decide +kernel
theorem dX0_slowerThan_49 : decode cX0_slowerThan 49 = .ok (.ireturn, 1) := by decide +kernel
theorem dX0_costTo_0 : decode cX0_costTo 0 = .ok (.iconst 0, 1) := by decide +kernel
theorem dX0_costTo_1 : decode cX0_costTo 1 = .ok (.istore_n 3, 1) := by decide +kernel
theorem dX0_costTo_2 : decode cX0_costTo 2 = .ok (.iconst 0, 1) := by decide +kernel
theorem dX0_costTo_3 : decode cX0_costTo 3 = .ok (.istore 4, 2) := by decide +kernel
theorem dX0_costTo_5 : decode cX0_costTo 5 = .ok (.iload 4, 2) := by decide +kernel
theorem dX0_costTo_7 : decode cX0_costTo 7 = .ok (.aload_n 0, 1) := by decide +kernel
theorem dX0_costTo_8 : decode cX0_costTo 8 = .ok (.getfield 58, 3) := by decide +kernel
theorem dX0_costTo_11 : decode cX0_costTo 11 = .ok (.if_icmp .ge 52, 3) := by decide +kernel
theorem dX0_costTo_14 : decode cX0_costTo 14 = .ok (.iload_n 1, 1) := by decide +kernel
theorem dX0_costTo_15 : decode cX0_costTo 15 = .ok (.iload 4, 2) := by decide +kernel
theorem dX0_costTo_17 : decode cX0_costTo 17 = .ok (.invokestatic 106, 3) := by decide +kernel
theorem dX0_costTo_20 : decode cX0_costTo 20 = .ok (.ifCond .eq 37, 3) := by decide +kernel
theorem dX0_costTo_23 : decode cX0_costTo 23 = .ok (.iload_n 1, 1) := by decide +kernel
theorem dX0_costTo_24 : decode cX0_costTo 24 = .ok (.iconst 1, 1) := by decide +kernel
theorem dX0_costTo_25 : decode cX0_costTo 25 = .ok (.iload 4, 2) := by decide +kernel
theorem dX0_costTo_27 : decode cX0_costTo 27 = .ok (.ishl, 1) := by decide +kernel
theorem dX0_costTo_28 : decode cX0_costTo 28 = .ok (.iconst (-1), 1) := by decide +kernel
theorem dX0_costTo_29 : decode cX0_costTo 29 = .ok (.ixor, 1) := by decide +kernel
theorem dX0_costTo_30 : decode cX0_costTo 30 = .ok (.iand, 1) := by decide +kernel
theorem dX0_costTo_31 : decode cX0_costTo 31 = .ok (.istore 5, 2) := by decide +kernel
theorem dX0_costTo_33 : decode cX0_costTo 33 = .ok (.iload_n 3, 1) := by decide +kernel
theorem dX0_costTo_34 : decode cX0_costTo 34 = .ok (.aload_n 0, 1) := by decide +kernel
theorem dX0_costTo_35 : decode cX0_costTo 35 = .ok (.iload 4, 2) := by decide +kernel
theorem dX0_costTo_37 : decode cX0_costTo 37 = .ok (.iload 5, 2) := by decide +kernel
theorem dX0_costTo_39 : decode cX0_costTo 39 = .ok (.iconst 1, 1) := by decide +kernel
theorem dX0_costTo_40 : decode cX0_costTo 40 = .ok (.iload_n 2, 1) := by decide +kernel
theorem dX0_costTo_41 : decode cX0_costTo 41 = .ok (.ishl, 1) := by decide +kernel
theorem dX0_costTo_42 : decode cX0_costTo 42 = .ok (.ior, 1) := by decide +kernel
theorem dX0_costTo_43 : decode cX0_costTo 43 = .ok (.invokevirtual 115, 3) := by decide +kernel
theorem dX0_costTo_46 : decode cX0_costTo 46 = .ok (.aload_n 0, 1) := by decide +kernel
theorem dX0_costTo_47 : decode cX0_costTo 47 = .ok (.iload 4, 2) := by decide +kernel
theorem dX0_costTo_49 : decode cX0_costTo 49 = .ok (.iload 5, 2) := by decide +kernel
theorem dX0_costTo_51 : decode cX0_costTo 51 = .ok (.invokevirtual 115, 3) := by decide +kernel
theorem dX0_costTo_54 : decode cX0_costTo 54 = .ok (.isub, 1) := by decide +kernel
theorem dX0_costTo_55 : decode cX0_costTo 55 = .ok (.iadd, 1) := by decide +kernel
theorem dX0_costTo_56 : decode cX0_costTo 56 = .ok (.istore_n 3, 1) := by decide +kernel
theorem dX0_costTo_57 : decode cX0_costTo 57 = .ok (.iinc 4 1, 3) := by decide +kernel
theorem dX0_costTo_60 : decode cX0_costTo 60 = .ok (.goto (-55), 3) := by decide +kernel
theorem dX0_costTo_63 : decode cX0_costTo 63 = .ok (.iload_n 3, 1) := by decide +kernel
theorem dX0_costTo_64 : decode cX0_costTo 64 = .ok (.ireturn, 1) := by decide +kernel
theorem dX0_quickestLane_0 : decode cX0_quickestLane 0 = .ok (.iconst 0, 1) := by decide +kernel
theorem dX0_quickestLane_1 : decode cX0_quickestLane 1 = .ok (.istore_n 3, 1) := by decide +kernel
theorem dX0_quickestLane_2 : decode cX0_quickestLane 2 = .ok (.iload_n 3, 1) := by decide +kernel
theorem dX0_quickestLane_3 : decode cX0_quickestLane 3 = .ok (.iconst 4, 1) := by decide +kernel
theorem dX0_quickestLane_4 : decode cX0_quickestLane 4 = .ok (.if_icmp .ge 22, 3) := by decide +kernel
theorem dX0_quickestLane_7 : decode cX0_quickestLane 7 = .ok (.aload_n 0, 1) := by decide +kernel
theorem dX0_quickestLane_8 : decode cX0_quickestLane 8 = .ok (.getfield 33, 3) := by decide +kernel
theorem dX0_quickestLane_11 : decode cX0_quickestLane 11 = .ok (.iload_n 3, 1) := by decide +kernel
theorem dX0_quickestLane_12 : decode cX0_quickestLane 12 = .ok (.aload_n 0, 1) := by decide +kernel
theorem dX0_quickestLane_13 : decode cX0_quickestLane 13 = .ok (.aload_n 1, 1) := by decide +kernel
theorem dX0_quickestLane_14 : decode cX0_quickestLane 14 = .ok (.iload_n 2, 1) := by decide +kernel
theorem dX0_quickestLane_15 : decode cX0_quickestLane 15 = .ok (.iload_n 3, 1) := by decide +kernel
theorem dX0_quickestLane_16 : decode cX0_quickestLane 16 = .ok (.invokevirtual 117, 3) := by decide +kernel
theorem dX0_quickestLane_19 : decode cX0_quickestLane 19 = .ok (.iastore, 1) := by decide +kernel
theorem dX0_quickestLane_20 : decode cX0_quickestLane 20 = .ok (.iinc 3 1, 3) := by decide +kernel
theorem dX0_quickestLane_23 : decode cX0_quickestLane 23 = .ok (.goto (-21), 3) := by decide +kernel
theorem dX0_quickestLane_26 : decode cX0_quickestLane 26 = .ok (.aload_n 0, 1) := by decide +kernel
theorem dX0_quickestLane_27 : decode cX0_quickestLane 27 = .ok (.invokevirtual 120, 3) := by decide +kernel
theorem dX0_quickestLane_30 : decode cX0_quickestLane 30 = .ok (.ireturn, 1) := by decide +kernel
theorem dX0_leastOpenLane_0 : decode cX0_leastOpenLane 0 = .ok (.iconst (-1), 1) := by decide +kernel
theorem dX0_leastOpenLane_1 : decode cX0_leastOpenLane 1 = .ok (.istore_n 1, 1) := by decide +kernel
theorem dX0_leastOpenLane_2 : decode cX0_leastOpenLane 2 = .ok (.iconst 0, 1) := by decide +kernel
theorem dX0_leastOpenLane_3 : decode cX0_leastOpenLane 3 = .ok (.istore_n 2, 1) := by decide +kernel
theorem dX0_leastOpenLane_4 : decode cX0_leastOpenLane 4 = .ok (.iload_n 2, 1) := by decide +kernel
theorem dX0_leastOpenLane_5 : decode cX0_leastOpenLane 5 = .ok (.iconst 4, 1) := by decide +kernel
theorem dX0_leastOpenLane_6 : decode cX0_leastOpenLane 6 = .ok (.if_icmp .ge 39, 3) := by decide +kernel
theorem dX0_leastOpenLane_9 : decode cX0_leastOpenLane 9 = .ok (.aload_n 0, 1) := by decide +kernel
theorem dX0_leastOpenLane_10 : decode cX0_leastOpenLane 10 = .ok (.iload_n 2, 1) := by decide +kernel
theorem dX0_leastOpenLane_11 : decode cX0_leastOpenLane 11 = .ok (.invokevirtual 68, 3) := by decide +kernel
theorem dX0_leastOpenLane_14 : decode cX0_leastOpenLane 14 = .ok (.ifCond .eq 25, 3) := by decide +kernel
theorem dX0_leastOpenLane_17 : decode cX0_leastOpenLane 17 = .ok (.iload_n 1, 1) := by decide +kernel
theorem dX0_leastOpenLane_18 : decode cX0_leastOpenLane 18 = .ok (.iconst (-1), 1) := by decide +kernel
theorem dX0_leastOpenLane_19 : decode cX0_leastOpenLane 19 = .ok (.if_icmp .eq 18, 3) := by decide +kernel
theorem dX0_leastOpenLane_22 : decode cX0_leastOpenLane 22 = .ok (.aload_n 0, 1) := by decide +kernel
theorem dX0_leastOpenLane_23 : decode cX0_leastOpenLane 23 = .ok (.getfield 33, 3) := by decide +kernel
theorem dX0_leastOpenLane_26 : decode cX0_leastOpenLane 26 = .ok (.iload_n 2, 1) := by decide +kernel
theorem dX0_leastOpenLane_27 : decode cX0_leastOpenLane 27 = .ok (.iaload, 1) := by decide +kernel
theorem dX0_leastOpenLane_28 : decode cX0_leastOpenLane 28 = .ok (.aload_n 0, 1) := by decide +kernel
theorem dX0_leastOpenLane_29 : decode cX0_leastOpenLane 29 = .ok (.getfield 33, 3) := by decide +kernel
theorem dX0_leastOpenLane_32 : decode cX0_leastOpenLane 32 = .ok (.iload_n 1, 1) := by decide +kernel
theorem dX0_leastOpenLane_33 : decode cX0_leastOpenLane 33 = .ok (.iaload, 1) := by decide +kernel
theorem dX0_leastOpenLane_34 : decode cX0_leastOpenLane 34 = .ok (.if_icmp .ge 5, 3) := by decide +kernel
theorem dX0_leastOpenLane_37 : decode cX0_leastOpenLane 37 = .ok (.iload_n 2, 1) := by decide +kernel
theorem dX0_leastOpenLane_38 : decode cX0_leastOpenLane 38 = .ok (.istore_n 1, 1) := by decide +kernel
theorem dX0_leastOpenLane_39 : decode cX0_leastOpenLane 39 = .ok (.iinc 2 1, 3) := by decide +kernel
theorem dX0_leastOpenLane_42 : decode cX0_leastOpenLane 42 = .ok (.goto (-38), 3) := by decide +kernel
theorem dX0_leastOpenLane_45 : decode cX0_leastOpenLane 45 = .ok (.iload_n 1, 1) := by decide +kernel
theorem dX0_leastOpenLane_46 : decode cX0_leastOpenLane 46 = .ok (.ireturn, 1) := by decide +kernel
theorem dX0_minuteGoesBy_0 : decode cX0_minuteGoesBy 0 = .ok (.aload_n 1, 1) := by decide +kernel
theorem dX0_minuteGoesBy_1 : decode cX0_minuteGoesBy 1 = .ok (.iconst 0, 1) := by decide +kernel
theorem dX0_minuteGoesBy_2 : decode cX0_minuteGoesBy 2 = .ok (.iaload, 1) := by decide +kernel
theorem dX0_minuteGoesBy_3 : decode cX0_minuteGoesBy 3 = .ok (.sipush 999, 3) := by decide +kernel
theorem dX0_minuteGoesBy_6 : decode cX0_minuteGoesBy 6 = .ok (.if_icmp .lt 5, 3) := by decide +kernel
theorem dX0_minuteGoesBy_9 : decode cX0_minuteGoesBy 9 = .ok (.iconst 0, 1) := by decide +kernel
theorem dX0_minuteGoesBy_10 : decode cX0_minuteGoesBy 10 = .ok (.ireturn, 1) := by decide +kernel
theorem dX0_minuteGoesBy_11 : decode cX0_minuteGoesBy 11 = .ok (.aload_n 1, 1) := by decide +kernel
theorem dX0_minuteGoesBy_12 : decode cX0_minuteGoesBy 12 = .ok (.iconst 0, 1) := by decide +kernel
theorem dX0_minuteGoesBy_13 : decode cX0_minuteGoesBy 13 = .ok (.dup2, 1) := by decide +kernel
theorem dX0_minuteGoesBy_14 : decode cX0_minuteGoesBy 14 = .ok (.iaload, 1) := by decide +kernel
theorem dX0_minuteGoesBy_15 : decode cX0_minuteGoesBy 15 = .ok (.iconst 1, 1) := by decide +kernel
theorem dX0_minuteGoesBy_16 : decode cX0_minuteGoesBy 16 = .ok (.iadd, 1) := by decide +kernel
theorem dX0_minuteGoesBy_17 : decode cX0_minuteGoesBy 17 = .ok (.iastore, 1) := by decide +kernel
theorem dX0_minuteGoesBy_18 : decode cX0_minuteGoesBy 18 = .ok (.iconst 0, 1) := by decide +kernel
theorem dX0_minuteGoesBy_19 : decode cX0_minuteGoesBy 19 = .ok (.istore_n 2, 1) := by decide +kernel
theorem dX0_minuteGoesBy_20 : decode cX0_minuteGoesBy 20 = .ok (.iconst 0, 1) := by decide +kernel
theorem dX0_minuteGoesBy_21 : decode cX0_minuteGoesBy 21 = .ok (.istore_n 3, 1) := by decide +kernel
theorem dX0_minuteGoesBy_22 : decode cX0_minuteGoesBy 22 = .ok (.iload_n 3, 1) := by decide +kernel
theorem dX0_minuteGoesBy_23 : decode cX0_minuteGoesBy 23 = .ok (.aload_n 0, 1) := by decide +kernel
theorem dX0_minuteGoesBy_24 : decode cX0_minuteGoesBy 24 = .ok (.getfield 58, 3) := by decide +kernel
theorem dX0_minuteGoesBy_27 : decode cX0_minuteGoesBy 27 = .ok (.if_icmp .ge 18, 3) := by decide +kernel
theorem dX0_minuteGoesBy_30 : decode cX0_minuteGoesBy 30 = .ok (.iload_n 2, 1) := by decide +kernel
theorem dX0_minuteGoesBy_31 : decode cX0_minuteGoesBy 31 = .ok (.aload_n 0, 1) := by decide +kernel
theorem dX0_minuteGoesBy_32 : decode cX0_minuteGoesBy 32 = .ok (.aload_n 1, 1) := by decide +kernel
theorem dX0_minuteGoesBy_33 : decode cX0_minuteGoesBy 33 = .ok (.iload_n 3, 1) := by decide +kernel
theorem dX0_minuteGoesBy_34 : decode cX0_minuteGoesBy 34 = .ok (.invokevirtual 124, 3) := by decide +kernel
theorem dX0_minuteGoesBy_37 : decode cX0_minuteGoesBy 37 = .ok (.iadd, 1) := by decide +kernel
theorem dX0_minuteGoesBy_38 : decode cX0_minuteGoesBy 38 = .ok (.istore_n 2, 1) := by decide +kernel
theorem dX0_minuteGoesBy_39 : decode cX0_minuteGoesBy 39 = .ok (.iinc 3 1, 3) := by decide +kernel
theorem dX0_minuteGoesBy_42 : decode cX0_minuteGoesBy 42 = .ok (.goto (-20), 3) := by decide +kernel
theorem dX0_minuteGoesBy_45 : decode cX0_minuteGoesBy 45 = .ok (.iload_n 2, 1) := by decide +kernel
theorem dX0_minuteGoesBy_46 : decode cX0_minuteGoesBy 46 = .ok (.ireturn, 1) := by decide +kernel
theorem dX0_swimsAMinute_0 : decode cX0_swimsAMinute 0 = .ok (.aload_n 0, 1) := by decide +kernel
theorem dX0_swimsAMinute_1 : decode cX0_swimsAMinute 1 = .ok (.aload_n 1, 1) := by decide +kernel
theorem dX0_swimsAMinute_2 : decode cX0_swimsAMinute 2 = .ok (.iload_n 2, 1) := by decide +kernel
theorem dX0_swimsAMinute_3 : decode cX0_swimsAMinute 3 = .ok (.aload_n 1, 1) := by decide +kernel
theorem dX0_swimsAMinute_4 : decode cX0_swimsAMinute 4 = .ok (.iconst 1, 1) := by decide +kernel
theorem dX0_swimsAMinute_5 : decode cX0_swimsAMinute 5 = .ok (.iload_n 2, 1) := by decide +kernel
theorem dX0_swimsAMinute_6 : decode cX0_swimsAMinute 6 = .ok (.iadd, 1) := by decide +kernel
theorem dX0_swimsAMinute_7 : decode cX0_swimsAMinute 7 = .ok (.iaload, 1) := by decide +kernel
theorem dX0_swimsAMinute_8 : decode cX0_swimsAMinute 8 = .ok (.invokevirtual 117, 3) := by decide +kernel
theorem dX0_swimsAMinute_11 : decode cX0_swimsAMinute 11 = .ok (.istore_n 3, 1) := by decide +kernel
theorem dX0_swimsAMinute_12 : decode cX0_swimsAMinute 12 = .ok (.aload_n 1, 1) := by decide +kernel
theorem dX0_swimsAMinute_13 : decode cX0_swimsAMinute 13 = .ok (.bipush 15, 2) := by decide +kernel
theorem dX0_swimsAMinute_15 : decode cX0_swimsAMinute 15 = .ok (.iload_n 2, 1) := by decide +kernel
theorem dX0_swimsAMinute_16 : decode cX0_swimsAMinute 16 = .ok (.iadd, 1) := by decide +kernel
theorem dX0_swimsAMinute_17 : decode cX0_swimsAMinute 17 = .ok (.iaload, 1) := by decide +kernel
theorem dX0_swimsAMinute_18 : decode cX0_swimsAMinute 18 = .ok (.bipush 60, 2) := by decide +kernel
theorem dX0_swimsAMinute_20 : decode cX0_swimsAMinute 20 = .ok (.iadd, 1) := by decide +kernel
theorem dX0_swimsAMinute_21 : decode cX0_swimsAMinute 21 = .ok (.istore 4, 2) := by decide +kernel
theorem dX0_swimsAMinute_23 : decode cX0_swimsAMinute 23 = .ok (.iload_n 3, 1) := by decide +kernel
theorem dX0_swimsAMinute_24 : decode cX0_swimsAMinute 24 = .ok (.ifCond .le 10, 3) := by decide +kernel
theorem dX0_swimsAMinute_27 : decode cX0_swimsAMinute 27 = .ok (.iload 4, 2) := by decide +kernel
theorem dX0_swimsAMinute_29 : decode cX0_swimsAMinute 29 = .ok (.iload_n 3, 1) := by decide +kernel
theorem dX0_swimsAMinute_30 : decode cX0_swimsAMinute 30 = .ok (.idiv, 1) := by decide +kernel
theorem dX0_swimsAMinute_31 : decode cX0_swimsAMinute 31 = .ok (.goto 4, 3) := by decide +kernel
theorem dX0_swimsAMinute_34 : decode cX0_swimsAMinute 34 = .ok (.iconst 0, 1) := by decide +kernel
theorem dX0_swimsAMinute_35 : decode cX0_swimsAMinute 35 = .ok (.istore 5, 2) := by decide +kernel
theorem dX0_swimsAMinute_37 : decode cX0_swimsAMinute 37 = .ok (.aload_n 1, 1) := by decide +kernel
theorem dX0_swimsAMinute_38 : decode cX0_swimsAMinute 38 = .ok (.bipush 8, 2) := by decide +kernel
theorem dX0_swimsAMinute_40 : decode cX0_swimsAMinute 40 = .ok (.iload_n 2, 1) := by decide +kernel
theorem dX0_swimsAMinute_41 : decode cX0_swimsAMinute 41 = .ok (.iadd, 1) := by decide +kernel
theorem dX0_swimsAMinute_42 : decode cX0_swimsAMinute 42 = .ok (.dup2, 1) := by decide +kernel
theorem dX0_swimsAMinute_43 : decode cX0_swimsAMinute 43 = .ok (.iaload, 1) := by decide +kernel
theorem dX0_swimsAMinute_44 : decode cX0_swimsAMinute 44 = .ok (.iload 5, 2) := by decide +kernel
theorem dX0_swimsAMinute_46 : decode cX0_swimsAMinute 46 = .ok (.iadd, 1) := by decide +kernel
theorem dX0_swimsAMinute_47 : decode cX0_swimsAMinute 47 = .ok (.iastore, 1) := by decide +kernel
theorem dX0_swimsAMinute_48 : decode cX0_swimsAMinute 48 = .ok (.aload_n 1, 1) := by decide +kernel
theorem dX0_swimsAMinute_49 : decode cX0_swimsAMinute 49 = .ok (.bipush 15, 2) := by decide +kernel
theorem dX0_swimsAMinute_51 : decode cX0_swimsAMinute 51 = .ok (.iload_n 2, 1) := by decide +kernel
theorem dX0_swimsAMinute_52 : decode cX0_swimsAMinute 52 = .ok (.iadd, 1) := by decide +kernel
theorem dX0_swimsAMinute_53 : decode cX0_swimsAMinute 53 = .ok (.iload 4, 2) := by decide +kernel
theorem dX0_swimsAMinute_55 : decode cX0_swimsAMinute 55 = .ok (.iload 5, 2) := by decide +kernel
theorem dX0_swimsAMinute_57 : decode cX0_swimsAMinute 57 = .ok (.iload_n 3, 1) := by decide +kernel
theorem dX0_swimsAMinute_58 : decode cX0_swimsAMinute 58 = .ok (.imul, 1) := by decide +kernel
theorem dX0_swimsAMinute_59 : decode cX0_swimsAMinute 59 = .ok (.isub, 1) := by decide +kernel
theorem dX0_swimsAMinute_60 : decode cX0_swimsAMinute 60 = .ok (.iastore, 1) := by decide +kernel
theorem dX0_swimsAMinute_61 : decode cX0_swimsAMinute 61 = .ok (.iload 5, 2) := by decide +kernel
theorem dX0_swimsAMinute_63 : decode cX0_swimsAMinute 63 = .ok (.ireturn, 1) := by decide +kernel
theorem dX0_writeDown_0 : decode cX0_writeDown 0 = .ok (.aload_n 0, 1) := by decide +kernel
theorem dX0_writeDown_1 : decode cX0_writeDown 1 = .ok (.getfield 65, 3) := by decide +kernel
theorem dX0_writeDown_4 : decode cX0_writeDown 4 = .ok (.bipush 6, 2) := by decide +kernel
theorem dX0_writeDown_6 : decode cX0_writeDown 6 = .ok (.if_icmp .lt 5, 3) := by decide +kernel
theorem dX0_writeDown_9 : decode cX0_writeDown 9 = .ok (.iconst (-1), 1) := by decide +kernel
theorem dX0_writeDown_10 : decode cX0_writeDown 10 = .ok (.ireturn, 1) := by decide +kernel
theorem dX0_writeDown_11 : decode cX0_writeDown 11 = .ok (.aload_n 0, 1) := by decide +kernel
theorem dX0_writeDown_12 : decode cX0_writeDown 12 = .ok (.getfield 65, 3) := by decide +kernel
theorem dX0_writeDown_15 : decode cX0_writeDown 15 = .ok (.iconst 5, 1) := by decide +kernel
theorem dX0_writeDown_16 : decode cX0_writeDown 16 = .ok (.imul, 1) := by decide +kernel
theorem dX0_writeDown_17 : decode cX0_writeDown 17 = .ok (.istore 6, 2) := by decide +kernel
theorem dX0_writeDown_19 : decode cX0_writeDown 19 = .ok (.aload_n 0, 1) := by decide +kernel
theorem dX0_writeDown_20 : decode cX0_writeDown 20 = .ok (.getfield 30, 3) := by decide +kernel
theorem dX0_writeDown_23 : decode cX0_writeDown 23 = .ok (.iload 6, 2) := by decide +kernel
theorem dX0_writeDown_25 : decode cX0_writeDown 25 = .ok (.iload_n 1, 1) := by decide +kernel
theorem dX0_writeDown_26 : decode cX0_writeDown 26 = .ok (.iastore, 1) := by decide +kernel
theorem dX0_writeDown_27 : decode cX0_writeDown 27 = .ok (.aload_n 0, 1) := by decide +kernel
theorem dX0_writeDown_28 : decode cX0_writeDown 28 = .ok (.getfield 30, 3) := by decide +kernel
theorem dX0_writeDown_31 : decode cX0_writeDown 31 = .ok (.iload 6, 2) := by decide +kernel
theorem dX0_writeDown_33 : decode cX0_writeDown 33 = .ok (.iconst 1, 1) := by decide +kernel
theorem dX0_writeDown_34 : decode cX0_writeDown 34 = .ok (.iadd, 1) := by decide +kernel
theorem dX0_writeDown_35 : decode cX0_writeDown 35 = .ok (.iload_n 2, 1) := by decide +kernel
theorem dX0_writeDown_36 : decode cX0_writeDown 36 = .ok (.iastore, 1) := by decide +kernel
theorem dX0_writeDown_37 : decode cX0_writeDown 37 = .ok (.aload_n 0, 1) := by decide +kernel
theorem dX0_writeDown_38 : decode cX0_writeDown 38 = .ok (.getfield 30, 3) := by decide +kernel
theorem dX0_writeDown_41 : decode cX0_writeDown 41 = .ok (.iload 6, 2) := by decide +kernel
theorem dX0_writeDown_43 : decode cX0_writeDown 43 = .ok (.iconst 2, 1) := by decide +kernel
theorem dX0_writeDown_44 : decode cX0_writeDown 44 = .ok (.iadd, 1) := by decide +kernel
theorem dX0_writeDown_45 : decode cX0_writeDown 45 = .ok (.iload_n 3, 1) := by decide +kernel
theorem dX0_writeDown_46 : decode cX0_writeDown 46 = .ok (.iastore, 1) := by decide +kernel
theorem dX0_writeDown_47 : decode cX0_writeDown 47 = .ok (.aload_n 0, 1) := by decide +kernel
theorem dX0_writeDown_48 : decode cX0_writeDown 48 = .ok (.getfield 30, 3) := by decide +kernel
theorem dX0_writeDown_51 : decode cX0_writeDown 51 = .ok (.iload 6, 2) := by decide +kernel
theorem dX0_writeDown_53 : decode cX0_writeDown 53 = .ok (.iconst 3, 1) := by decide +kernel
theorem dX0_writeDown_54 : decode cX0_writeDown 54 = .ok (.iadd, 1) := by decide +kernel
theorem dX0_writeDown_55 : decode cX0_writeDown 55 = .ok (.iload 4, 2) := by decide +kernel
theorem dX0_writeDown_57 : decode cX0_writeDown 57 = .ok (.iastore, 1) := by decide +kernel
theorem dX0_writeDown_58 : decode cX0_writeDown 58 = .ok (.aload_n 0, 1) := by decide +kernel
theorem dX0_writeDown_59 : decode cX0_writeDown 59 = .ok (.getfield 30, 3) := by decide +kernel
theorem dX0_writeDown_62 : decode cX0_writeDown 62 = .ok (.iload 6, 2) := by decide +kernel
theorem dX0_writeDown_64 : decode cX0_writeDown 64 = .ok (.iconst 4, 1) := by decide +kernel
theorem dX0_writeDown_65 : decode cX0_writeDown 65 = .ok (.iadd, 1) := by decide +kernel
theorem dX0_writeDown_66 : decode cX0_writeDown 66 = .ok (.iload 5, 2) := by decide +kernel
theorem dX0_writeDown_68 : decode cX0_writeDown 68 = .ok (.iastore, 1) := by decide +kernel
theorem dX0_writeDown_69 : decode cX0_writeDown 69 = .ok (.aload_n 0, 1) := by decide +kernel
theorem dX0_writeDown_70 : decode cX0_writeDown 70 = .ok (.dup, 1) := by decide +kernel
theorem dX0_writeDown_71 : decode cX0_writeDown 71 = .ok (.getfield 65, 3) := by decide +kernel
theorem dX0_writeDown_74 : decode cX0_writeDown 74 = .ok (.iconst 1, 1) := by decide +kernel
theorem dX0_writeDown_75 : decode cX0_writeDown 75 = .ok (.iadd, 1) := by decide +kernel
theorem dX0_writeDown_76 : decode cX0_writeDown 76 = .ok (.putfield 65, 3) := by decide +kernel
theorem dX0_writeDown_79 : decode cX0_writeDown 79 = .ok (.aload_n 0, 1) := by decide +kernel
theorem dX0_writeDown_80 : decode cX0_writeDown 80 = .ok (.getfield 65, 3) := by decide +kernel
theorem dX0_writeDown_83 : decode cX0_writeDown 83 = .ok (.ireturn, 1) := by decide +kernel
theorem dX0_notesFit_0 : decode cX0_notesFit 0 = .ok (.iconst 0, 1) := by decide +kernel
theorem dX0_notesFit_1 : decode cX0_notesFit 1 = .ok (.istore 4, 2) := by decide +kernel
theorem dX0_notesFit_3 : decode cX0_notesFit 3 = .ok (.iload 4, 2) := by decide +kernel
theorem dX0_notesFit_5 : decode cX0_notesFit 5 = .ok (.aload_n 0, 1) := by decide +kernel
theorem dX0_notesFit_6 : decode cX0_notesFit 6 = .ok (.getfield 65, 3) := by decide +kernel
theorem dX0_notesFit_9 : decode cX0_notesFit 9 = .ok (.if_icmp .ge 81, 3) := by decide +kernel
theorem dX0_notesFit_12 : decode cX0_notesFit 12 = .ok (.iload 4, 2) := by decide +kernel
theorem dX0_notesFit_14 : decode cX0_notesFit 14 = .ok (.iconst 5, 1) := by decide +kernel
theorem dX0_notesFit_15 : decode cX0_notesFit 15 = .ok (.imul, 1) := by decide +kernel
theorem dX0_notesFit_16 : decode cX0_notesFit 16 = .ok (.istore 5, 2) := by decide +kernel
theorem dX0_notesFit_18 : decode cX0_notesFit 18 = .ok (.aload_n 0, 1) := by decide +kernel
theorem dX0_notesFit_19 : decode cX0_notesFit 19 = .ok (.getfield 36, 3) := by decide +kernel
theorem dX0_notesFit_22 : decode cX0_notesFit 22 = .ok (.iload_n 2, 1) := by decide +kernel
theorem dX0_notesFit_23 : decode cX0_notesFit 23 = .ok (.aaload, 1) := by decide +kernel
theorem dX0_notesFit_24 : decode cX0_notesFit 24 = .ok (.iload_n 3, 1) := by decide +kernel
theorem dX0_notesFit_25 : decode cX0_notesFit 25 = .ok (.aload_n 0, 1) := by decide +kernel
theorem dX0_notesFit_26 : decode cX0_notesFit 26 = .ok (.getfield 30, 3) := by decide +kernel
theorem dX0_notesFit_29 : decode cX0_notesFit 29 = .ok (.iload 5, 2) := by decide +kernel
theorem dX0_notesFit_31 : decode cX0_notesFit 31 = .ok (.iconst 2, 1) := by decide +kernel
theorem dX0_notesFit_32 : decode cX0_notesFit 32 = .ok (.iadd, 1) := by decide +kernel
theorem dX0_notesFit_33 : decode cX0_notesFit 33 = .ok (.iaload, 1) := by decide +kernel
theorem dX0_notesFit_34 : decode cX0_notesFit 34 = .ok (.aload_n 0, 1) := by decide +kernel
theorem dX0_notesFit_35 : decode cX0_notesFit 35 = .ok (.getfield 30, 3) := by decide +kernel
theorem dX0_notesFit_38 : decode cX0_notesFit 38 = .ok (.iload 5, 2) := by decide +kernel
theorem dX0_notesFit_40 : decode cX0_notesFit 40 = .ok (.iconst 3, 1) := by decide +kernel
theorem dX0_notesFit_41 : decode cX0_notesFit 41 = .ok (.iadd, 1) := by decide +kernel
theorem dX0_notesFit_42 : decode cX0_notesFit 42 = .ok (.iaload, 1) := by decide +kernel
theorem dX0_notesFit_43 : decode cX0_notesFit 43 = .ok (.aload_n 0, 1) := by decide +kernel
theorem dX0_notesFit_44 : decode cX0_notesFit 44 = .ok (.getfield 30, 3) := by decide +kernel
theorem dX0_notesFit_47 : decode cX0_notesFit 47 = .ok (.iload 5, 2) := by decide +kernel
theorem dX0_notesFit_49 : decode cX0_notesFit 49 = .ok (.iconst 4, 1) := by decide +kernel
theorem dX0_notesFit_50 : decode cX0_notesFit 50 = .ok (.iadd, 1) := by decide +kernel
theorem dX0_notesFit_51 : decode cX0_notesFit 51 = .ok (.iaload, 1) := by decide +kernel
theorem dX0_notesFit_52 : decode cX0_notesFit 52 = .ok (.invokevirtual 102, 3) := by decide +kernel
theorem dX0_notesFit_55 : decode cX0_notesFit 55 = .ok (.istore 6, 2) := by decide +kernel
theorem dX0_notesFit_57 : decode cX0_notesFit 57 = .ok (.aload_n 0, 1) := by decide +kernel
theorem dX0_notesFit_58 : decode cX0_notesFit 58 = .ok (.getfield 30, 3) := by decide +kernel
theorem dX0_notesFit_61 : decode cX0_notesFit 61 = .ok (.iload 5, 2) := by decide +kernel
theorem dX0_notesFit_63 : decode cX0_notesFit 63 = .ok (.iaload, 1) := by decide +kernel
theorem dX0_notesFit_64 : decode cX0_notesFit 64 = .ok (.iload_n 1, 1) := by decide +kernel
theorem dX0_notesFit_65 : decode cX0_notesFit 65 = .ok (.if_icmp .ne 19, 3) := by decide +kernel
theorem dX0_notesFit_68 : decode cX0_notesFit 68 = .ok (.aload_n 0, 1) := by decide +kernel
theorem dX0_notesFit_69 : decode cX0_notesFit 69 = .ok (.getfield 30, 3) := by decide +kernel
theorem dX0_notesFit_72 : decode cX0_notesFit 72 = .ok (.iload 5, 2) := by decide +kernel
theorem dX0_notesFit_74 : decode cX0_notesFit 74 = .ok (.iconst 1, 1) := by decide +kernel
theorem dX0_notesFit_75 : decode cX0_notesFit 75 = .ok (.iadd, 1) := by decide +kernel
theorem dX0_notesFit_76 : decode cX0_notesFit 76 = .ok (.iaload, 1) := by decide +kernel
theorem dX0_notesFit_77 : decode cX0_notesFit 77 = .ok (.iload 6, 2) := by decide +kernel
theorem dX0_notesFit_79 : decode cX0_notesFit 79 = .ok (.if_icmp .eq 5, 3) := by decide +kernel
theorem dX0_notesFit_82 : decode cX0_notesFit 82 = .ok (.iconst 0, 1) := by decide +kernel
theorem dX0_notesFit_83 : decode cX0_notesFit 83 = .ok (.ireturn, 1) := by decide +kernel
theorem dX0_notesFit_84 : decode cX0_notesFit 84 = .ok (.iinc 4 1, 3) := by decide +kernel
theorem dX0_notesFit_87 : decode cX0_notesFit 87 = .ok (.goto (-84), 3) := by decide +kernel
theorem dX0_notesFit_90 : decode cX0_notesFit 90 = .ok (.iconst 1, 1) := by decide +kernel
theorem dX0_notesFit_91 : decode cX0_notesFit 91 = .ok (.ireturn, 1) := by decide +kernel
theorem dX0_digestFrom_0 : decode cX0_digestFrom 0 = .ok (.lload_n 1, 1) := by decide +kernel
theorem dX0_digestFrom_1 : decode cX0_digestFrom 1 = .ok (.lstore_n 3, 1) := by decide +kernel
theorem dX0_digestFrom_2 : decode cX0_digestFrom 2 = .ok (.iconst 0, 1) := by decide +kernel
theorem dX0_digestFrom_3 : decode cX0_digestFrom 3 = .ok (.istore 5, 2) := by decide +kernel
theorem dX0_digestFrom_5 : decode cX0_digestFrom 5 = .ok (.iload 5, 2) := by decide +kernel
theorem dX0_digestFrom_7 : decode cX0_digestFrom 7 = .ok (.iconst 4, 1) := by decide +kernel
theorem dX0_digestFrom_8 : decode cX0_digestFrom 8 = .ok (.if_icmp .ge 39, 3) := by decide +kernel
theorem dX0_digestFrom_11 : decode cX0_digestFrom 11 = .ok (.ldc2_w 127, 3) := by decide +kernel
theorem dX0_digestFrom_14 : decode cX0_digestFrom 14 = .ok (.lload_n 3, 1) := by decide +kernel
theorem dX0_digestFrom_15 : decode cX0_digestFrom 15 = .ok (.lmul, 1) := by decide +kernel
theorem dX0_digestFrom_16 : decode cX0_digestFrom 16 = .ok (.aload_n 0, 1) := by decide +kernel
theorem dX0_digestFrom_17 : decode cX0_digestFrom 17 = .ok (.getfield 11, 3) := by decide +kernel
theorem dX0_digestFrom_20 : decode cX0_digestFrom 20 = .ok (.iload 5, 2) := by decide +kernel
theorem dX0_digestFrom_22 : decode cX0_digestFrom 22 = .ok (.iaload, 1) := by decide +kernel
theorem dX0_digestFrom_23 : decode cX0_digestFrom 23 = .ok (.i2l, 1) := by decide +kernel
theorem dX0_digestFrom_24 : decode cX0_digestFrom 24 = .ok (.ladd, 1) := by decide +kernel
theorem dX0_digestFrom_25 : decode cX0_digestFrom 25 = .ok (.lstore_n 3, 1) := by decide +kernel
theorem dX0_digestFrom_26 : decode cX0_digestFrom 26 = .ok (.ldc2_w 127, 3) := by decide +kernel
theorem dX0_digestFrom_29 : decode cX0_digestFrom 29 = .ok (.lload_n 3, 1) := by decide +kernel
theorem dX0_digestFrom_30 : decode cX0_digestFrom 30 = .ok (.lmul, 1) := by decide +kernel
theorem dX0_digestFrom_31 : decode cX0_digestFrom 31 = .ok (.aload_n 0, 1) := by decide +kernel
theorem dX0_digestFrom_32 : decode cX0_digestFrom 32 = .ok (.getfield 15, 3) := by decide +kernel
theorem dX0_digestFrom_35 : decode cX0_digestFrom 35 = .ok (.iload 5, 2) := by decide +kernel
theorem dX0_digestFrom_37 : decode cX0_digestFrom 37 = .ok (.iaload, 1) := by decide +kernel
theorem dX0_digestFrom_38 : decode cX0_digestFrom 38 = .ok (.i2l, 1) := by decide +kernel
theorem dX0_digestFrom_39 : decode cX0_digestFrom 39 = .ok (.ladd, 1) := by decide +kernel
theorem dX0_digestFrom_40 : decode cX0_digestFrom 40 = .ok (.lstore_n 3, 1) := by decide +kernel
theorem dX0_digestFrom_41 : decode cX0_digestFrom 41 = .ok (.iinc 5 1, 3) := by decide +kernel
theorem dX0_digestFrom_44 : decode cX0_digestFrom 44 = .ok (.goto (-39), 3) := by decide +kernel
theorem dX0_digestFrom_47 : decode cX0_digestFrom 47 = .ok (.iconst 0, 1) := by decide +kernel
theorem dX0_digestFrom_48 : decode cX0_digestFrom 48 = .ok (.istore 5, 2) := by decide +kernel
theorem dX0_digestFrom_50 : decode cX0_digestFrom 50 = .ok (.iload 5, 2) := by decide +kernel
theorem dX0_digestFrom_52 : decode cX0_digestFrom 52 = .ok (.aload_n 0, 1) := by decide +kernel
theorem dX0_digestFrom_53 : decode cX0_digestFrom 53 = .ok (.getfield 58, 3) := by decide +kernel
theorem dX0_digestFrom_56 : decode cX0_digestFrom 56 = .ok (.if_icmp .ge 92, 3) := by decide +kernel
theorem dX0_digestFrom_59 : decode cX0_digestFrom 59 = .ok (.ldc2_w 127, 3) := by decide +kernel
theorem dX0_digestFrom_62 : decode cX0_digestFrom 62 = .ok (.lload_n 3, 1) := by decide +kernel
theorem dX0_digestFrom_63 : decode cX0_digestFrom 63 = .ok (.lmul, 1) := by decide +kernel
theorem dX0_digestFrom_64 : decode cX0_digestFrom 64 = .ok (.aload_n 0, 1) := by decide +kernel
theorem dX0_digestFrom_65 : decode cX0_digestFrom 65 = .ok (.getfield 18, 3) := by decide +kernel
theorem dX0_digestFrom_68 : decode cX0_digestFrom 68 = .ok (.iload 5, 2) := by decide +kernel
theorem dX0_digestFrom_70 : decode cX0_digestFrom 70 = .ok (.iaload, 1) := by decide +kernel
theorem dX0_digestFrom_71 : decode cX0_digestFrom 71 = .ok (.i2l, 1) := by decide +kernel
theorem dX0_digestFrom_72 : decode cX0_digestFrom 72 = .ok (.ladd, 1) := by decide +kernel
theorem dX0_digestFrom_73 : decode cX0_digestFrom 73 = .ok (.lstore_n 3, 1) := by decide +kernel
theorem dX0_digestFrom_74 : decode cX0_digestFrom 74 = .ok (.ldc2_w 127, 3) := by decide +kernel
theorem dX0_digestFrom_77 : decode cX0_digestFrom 77 = .ok (.lload_n 3, 1) := by decide +kernel
theorem dX0_digestFrom_78 : decode cX0_digestFrom 78 = .ok (.lmul, 1) := by decide +kernel
theorem dX0_digestFrom_79 : decode cX0_digestFrom 79 = .ok (.aload_n 0, 1) := by decide +kernel
theorem dX0_digestFrom_80 : decode cX0_digestFrom 80 = .ok (.getfield 21, 3) := by decide +kernel
theorem dX0_digestFrom_83 : decode cX0_digestFrom 83 = .ok (.iload 5, 2) := by decide +kernel
theorem dX0_digestFrom_85 : decode cX0_digestFrom 85 = .ok (.iaload, 1) := by decide +kernel
theorem dX0_digestFrom_86 : decode cX0_digestFrom 86 = .ok (.i2l, 1) := by decide +kernel
theorem dX0_digestFrom_87 : decode cX0_digestFrom 87 = .ok (.ladd, 1) := by decide +kernel
theorem dX0_digestFrom_88 : decode cX0_digestFrom 88 = .ok (.lstore_n 3, 1) := by decide +kernel
theorem dX0_digestFrom_89 : decode cX0_digestFrom 89 = .ok (.ldc2_w 127, 3) := by decide +kernel
theorem dX0_digestFrom_92 : decode cX0_digestFrom 92 = .ok (.lload_n 3, 1) := by decide +kernel
theorem dX0_digestFrom_93 : decode cX0_digestFrom 93 = .ok (.lmul, 1) := by decide +kernel
theorem dX0_digestFrom_94 : decode cX0_digestFrom 94 = .ok (.aload_n 0, 1) := by decide +kernel
theorem dX0_digestFrom_95 : decode cX0_digestFrom 95 = .ok (.getfield 24, 3) := by decide +kernel
theorem dX0_digestFrom_98 : decode cX0_digestFrom 98 = .ok (.iconst 1, 1) := by decide +kernel
theorem dX0_digestFrom_99 : decode cX0_digestFrom 99 = .ok (.iload 5, 2) := by decide +kernel
theorem dX0_digestFrom_101 : decode cX0_digestFrom 101 = .ok (.iadd, 1) := by decide +kernel
theorem dX0_digestFrom_102 : decode cX0_digestFrom 102 = .ok (.iaload, 1) := by decide +kernel
theorem dX0_digestFrom_103 : decode cX0_digestFrom 103 = .ok (.i2l, 1) := by decide +kernel
theorem dX0_digestFrom_104 : decode cX0_digestFrom 104 = .ok (.ladd, 1) := by decide +kernel
theorem dX0_digestFrom_105 : decode cX0_digestFrom 105 = .ok (.lstore_n 3, 1) := by decide +kernel
theorem dX0_digestFrom_106 : decode cX0_digestFrom 106 = .ok (.ldc2_w 127, 3) := by decide +kernel
theorem dX0_digestFrom_109 : decode cX0_digestFrom 109 = .ok (.lload_n 3, 1) := by decide +kernel
theorem dX0_digestFrom_110 : decode cX0_digestFrom 110 = .ok (.lmul, 1) := by decide +kernel
theorem dX0_digestFrom_111 : decode cX0_digestFrom 111 = .ok (.aload_n 0, 1) := by decide +kernel
theorem dX0_digestFrom_112 : decode cX0_digestFrom 112 = .ok (.getfield 24, 3) := by decide +kernel
theorem dX0_digestFrom_115 : decode cX0_digestFrom 115 = .ok (.bipush 8, 2) := by decide +kernel
theorem dX0_digestFrom_117 : decode cX0_digestFrom 117 = .ok (.iload 5, 2) := by decide +kernel
theorem dX0_digestFrom_119 : decode cX0_digestFrom 119 = .ok (.iadd, 1) := by decide +kernel
theorem dX0_digestFrom_120 : decode cX0_digestFrom 120 = .ok (.iaload, 1) := by decide +kernel
theorem dX0_digestFrom_121 : decode cX0_digestFrom 121 = .ok (.i2l, 1) := by decide +kernel
theorem dX0_digestFrom_122 : decode cX0_digestFrom 122 = .ok (.ladd, 1) := by decide +kernel
theorem dX0_digestFrom_123 : decode cX0_digestFrom 123 = .ok (.lstore_n 3, 1) := by decide +kernel
theorem dX0_digestFrom_124 : decode cX0_digestFrom 124 = .ok (.ldc2_w 127, 3) := by decide +kernel
theorem dX0_digestFrom_127 : decode cX0_digestFrom 127 = .ok (.lload_n 3, 1) := by decide +kernel
theorem dX0_digestFrom_128 : decode cX0_digestFrom 128 = .ok (.lmul, 1) := by decide +kernel
theorem dX0_digestFrom_129 : decode cX0_digestFrom 129 = .ok (.aload_n 0, 1) := by decide +kernel
theorem dX0_digestFrom_130 : decode cX0_digestFrom 130 = .ok (.getfield 24, 3) := by decide +kernel
theorem dX0_digestFrom_133 : decode cX0_digestFrom 133 = .ok (.bipush 15, 2) := by decide +kernel
theorem dX0_digestFrom_135 : decode cX0_digestFrom 135 = .ok (.iload 5, 2) := by decide +kernel
theorem dX0_digestFrom_137 : decode cX0_digestFrom 137 = .ok (.iadd, 1) := by decide +kernel
theorem dX0_digestFrom_138 : decode cX0_digestFrom 138 = .ok (.iaload, 1) := by decide +kernel
theorem dX0_digestFrom_139 : decode cX0_digestFrom 139 = .ok (.i2l, 1) := by decide +kernel
theorem dX0_digestFrom_140 : decode cX0_digestFrom 140 = .ok (.ladd, 1) := by decide +kernel
theorem dX0_digestFrom_141 : decode cX0_digestFrom 141 = .ok (.lstore_n 3, 1) := by decide +kernel
theorem dX0_digestFrom_142 : decode cX0_digestFrom 142 = .ok (.iinc 5 1, 3) := by decide +kernel
theorem dX0_digestFrom_145 : decode cX0_digestFrom 145 = .ok (.goto (-95), 3) := by decide +kernel
theorem dX0_digestFrom_148 : decode cX0_digestFrom 148 = .ok (.iconst 0, 1) := by decide +kernel
theorem dX0_digestFrom_149 : decode cX0_digestFrom 149 = .ok (.istore 5, 2) := by decide +kernel
theorem dX0_digestFrom_151 : decode cX0_digestFrom 151 = .ok (.iload 5, 2) := by decide +kernel
theorem dX0_digestFrom_153 : decode cX0_digestFrom 153 = .ok (.aload_n 0, 1) := by decide +kernel
theorem dX0_digestFrom_154 : decode cX0_digestFrom 154 = .ok (.getfield 65, 3) := by decide +kernel
theorem dX0_digestFrom_157 : decode cX0_digestFrom 157 = .ok (.iconst 5, 1) := by decide +kernel
theorem dX0_digestFrom_158 : decode cX0_digestFrom 158 = .ok (.imul, 1) := by decide +kernel
theorem dX0_digestFrom_159 : decode cX0_digestFrom 159 = .ok (.if_icmp .ge 24, 3) := by decide +kernel
theorem dX0_digestFrom_162 : decode cX0_digestFrom 162 = .ok (.ldc2_w 127, 3) := by decide +kernel
theorem dX0_digestFrom_165 : decode cX0_digestFrom 165 = .ok (.lload_n 3, 1) := by decide +kernel
theorem dX0_digestFrom_166 : decode cX0_digestFrom 166 = .ok (.lmul, 1) := by decide +kernel
theorem dX0_digestFrom_167 : decode cX0_digestFrom 167 = .ok (.aload_n 0, 1) := by decide +kernel
theorem dX0_digestFrom_168 : decode cX0_digestFrom 168 = .ok (.getfield 30, 3) := by decide +kernel
theorem dX0_digestFrom_171 : decode cX0_digestFrom 171 = .ok (.iload 5, 2) := by decide +kernel
theorem dX0_digestFrom_173 : decode cX0_digestFrom 173 = .ok (.iaload, 1) := by decide +kernel
theorem dX0_digestFrom_174 : decode cX0_digestFrom 174 = .ok (.i2l, 1) := by decide +kernel
theorem dX0_digestFrom_175 : decode cX0_digestFrom 175 = .ok (.ladd, 1) := by decide +kernel
theorem dX0_digestFrom_176 : decode cX0_digestFrom 176 = .ok (.lstore_n 3, 1) := by decide +kernel
theorem dX0_digestFrom_177 : decode cX0_digestFrom 177 = .ok (.iinc 5 1, 3) := by decide +kernel
theorem dX0_digestFrom_180 : decode cX0_digestFrom 180 = .ok (.goto (-29), 3) := by decide +kernel
theorem dX0_digestFrom_183 : decode cX0_digestFrom 183 = .ok (.lload_n 3, 1) := by decide +kernel
theorem dX0_digestFrom_184 : decode cX0_digestFrom 184 = .ok (.lreturn, 1) := by decide +kernel
theorem dX1_init_0 : decode cX1_init 0 = .ok (.aload_n 0, 1) := by decide +kernel
theorem dX1_init_1 : decode cX1_init 1 = .ok (.invokespecial 1, 3) := by decide +kernel
theorem dX1_init_4 : decode cX1_init 4 = .ok (.return_, 1) := by decide +kernel
theorem dX1_takes_0 : decode cX1_takes 0 = .ok (.aload_n 0, 1) := by decide +kernel
theorem dX1_takes_1 : decode cX1_takes 1 = .ok (.iload_n 1, 1) := by decide +kernel
theorem dX1_takes_2 : decode cX1_takes 2 = .ok (.iload_n 2, 1) := by decide +kernel
theorem dX1_takes_3 : decode cX1_takes 3 = .ok (.iload_n 3, 1) := by decide +kernel
theorem dX1_takes_4 : decode cX1_takes 4 = .ok (.iload 4, 2) := by decide +kernel
theorem dX1_takes_6 : decode cX1_takes 6 = .ok (.invokespecial 7, 3) := by decide +kernel
theorem dX1_takes_9 : decode cX1_takes 9 = .ok (.iload 4, 2) := by decide +kernel
theorem dX1_takes_11 : decode cX1_takes 11 = .ok (.iconst 1, 1) := by decide +kernel
theorem dX1_takes_12 : decode cX1_takes 12 = .ok (.if_icmp .lt 7, 3) := by decide +kernel
theorem dX1_takes_15 : decode cX1_takes 15 = .ok (.iconst 5, 1) := by decide +kernel
theorem dX1_takes_16 : decode cX1_takes 16 = .ok (.goto 4, 3) := by decide +kernel
theorem dX1_takes_19 : decode cX1_takes 19 = .ok (.iconst 0, 1) := by decide +kernel
theorem dX1_takes_20 : decode cX1_takes 20 = .ok (.iadd, 1) := by decide +kernel
theorem dX1_takes_21 : decode cX1_takes 21 = .ok (.ireturn, 1) := by decide +kernel
theorem dX2_init_0 : decode cX2_init 0 = .ok (.aload_n 0, 1) := by decide +kernel
theorem dX2_init_1 : decode cX2_init 1 = .ok (.invokespecial 1, 3) := by decide +kernel
theorem dX2_init_4 : decode cX2_init 4 = .ok (.return_, 1) := by decide +kernel
theorem dX2_takes_0 : decode cX2_takes 0 = .ok (.iload_n 1, 1) := by decide +kernel
theorem dX2_takes_1 : decode cX2_takes 1 = .ok (.iconst 3, 1) := by decide +kernel
theorem dX2_takes_2 : decode cX2_takes 2 = .ok (.iload_n 3, 1) := by decide +kernel
theorem dX2_takes_3 : decode cX2_takes 3 = .ok (.imul, 1) := by decide +kernel
theorem dX2_takes_4 : decode cX2_takes 4 = .ok (.iadd, 1) := by decide +kernel
theorem dX2_takes_5 : decode cX2_takes 5 = .ok (.ireturn, 1) := by decide +kernel
theorem dX3_init_0 : decode cX3_init 0 = .ok (.aload_n 0, 1) := by decide +kernel
theorem dX3_init_1 : decode cX3_init 1 = .ok (.invokespecial 1, 3) := by decide +kernel
theorem dX3_init_4 : decode cX3_init 4 = .ok (.return_, 1) := by decide +kernel
theorem dX3_takes_0 : decode cX3_takes 0 = .ok (.iload_n 1, 1) := by decide +kernel
theorem dX3_takes_1 : decode cX3_takes 1 = .ok (.iload_n 2, 1) := by decide +kernel
theorem dX3_takes_2 : decode cX3_takes 2 = .ok (.invokestatic 7, 3) := by decide +kernel
theorem dX3_takes_5 : decode cX3_takes 5 = .ok (.iload 4, 2) := by decide +kernel
theorem dX3_takes_7 : decode cX3_takes 7 = .ok (.iadd, 1) := by decide +kernel
theorem dX3_takes_8 : decode cX3_takes 8 = .ok (.ireturn, 1) := by decide +kernel
theorem dX3_believes_0 : decode cX3_believes 0 = .ok (.iload_n 1, 1) := by decide +kernel
theorem dX3_believes_1 : decode cX3_believes 1 = .ok (.ireturn, 1) := by decide +kernel
theorem dX4_init_0 : decode cX4_init 0 = .ok (.aload_n 0, 1) := by decide +kernel
theorem dX4_init_1 : decode cX4_init 1 = .ok (.invokespecial 3, 3) := by decide +kernel
theorem dX4_init_4 : decode cX4_init 4 = .ok (.aload_n 0, 1) := by decide +kernel
theorem dX4_init_5 : decode cX4_init 5 = .ok (.iconst 4, 1) := by decide +kernel
theorem dX4_init_6 : decode cX4_init 6 = .ok (.newarray .int, 2) := by decide +kernel
theorem dX4_init_8 : decode cX4_init 8 = .ok (.putfield 9, 3) := by decide +kernel
theorem dX4_init_11 : decode cX4_init 11 = .ok (.aload_n 0, 1) := by decide +kernel
theorem dX4_init_12 : decode cX4_init 12 = .ok (.bipush 7, 2) := by decide +kernel
theorem dX4_init_14 : decode cX4_init 14 = .ok (.newarray .int, 2) := by decide +kernel
theorem dX4_init_16 : decode cX4_init 16 = .ok (.putfield 15, 3) := by decide +kernel
theorem dX4_init_19 : decode cX4_init 19 = .ok (.aload_n 0, 1) := by decide +kernel
theorem dX4_init_20 : decode cX4_init 20 = .ok (.bipush 7, 2) := by decide +kernel
theorem dX4_init_22 : decode cX4_init 22 = .ok (.newarray .int, 2) := by decide +kernel
theorem dX4_init_24 : decode cX4_init 24 = .ok (.putfield 18, 3) := by decide +kernel
theorem dX4_init_27 : decode cX4_init 27 = .ok (.return_, 1) := by decide +kernel
theorem dX4_begin_0 : decode cX4_begin 0 = .ok (.aload_n 0, 1) := by decide +kernel
theorem dX4_begin_1 : decode cX4_begin 1 = .ok (.getfield 9, 3) := by decide +kernel
theorem dX4_begin_4 : decode cX4_begin 4 = .ok (.iconst 0, 1) := by decide +kernel
theorem dX4_begin_5 : decode cX4_begin 5 = .ok (.invokestatic 21, 3) := by decide +kernel
theorem dX4_begin_8 : decode cX4_begin 8 = .ok (.aload_n 0, 1) := by decide +kernel
theorem dX4_begin_9 : decode cX4_begin 9 = .ok (.ldc 27, 2) := by decide +kernel
theorem dX4_begin_11 : decode cX4_begin 11 = .ok (.putfield 28, 3) := by decide +kernel
theorem dX4_begin_14 : decode cX4_begin 14 = .ok (.return_, 1) := by decide +kernel
theorem dX4_place_0 : decode cX4_place 0 = .ok (.iload_n 3, 1) := by decide +kernel
theorem dX4_place_1 : decode cX4_place 1 = .ok (.aload_n 0, 1) := by decide +kernel
theorem dX4_place_2 : decode cX4_place 2 = .ok (.getfield 28, 3) := by decide +kernel
theorem dX4_place_5 : decode cX4_place 5 = .ok (.if_icmp .lt 4, 3) := by decide +kernel
theorem dX4_place_8 : decode cX4_place 8 = .ok (.return_, 1) := by decide +kernel
theorem dX4_place_9 : decode cX4_place 9 = .ok (.iload_n 2, 1) := by decide +kernel
theorem dX4_place_10 : decode cX4_place 10 = .ok (.aload_n 1, 1) := by decide +kernel
theorem dX4_place_11 : decode cX4_place 11 = .ok (.getfield 32, 3) := by decide +kernel
theorem dX4_place_14 : decode cX4_place 14 = .ok (.if_icmp .ge 9, 3) := by decide +kernel
theorem dX4_place_17 : decode cX4_place 17 = .ok (.iload_n 2, 1) := by decide +kernel
theorem dX4_place_18 : decode cX4_place 18 = .ok (.bipush 7, 2) := by decide +kernel
theorem dX4_place_20 : decode cX4_place 20 = .ok (.if_icmp .lt 24, 3) := by decide +kernel
theorem dX4_place_23 : decode cX4_place 23 = .ok (.aload_n 0, 1) := by decide +kernel
theorem dX4_place_24 : decode cX4_place 24 = .ok (.iload_n 3, 1) := by decide +kernel
theorem dX4_place_25 : decode cX4_place 25 = .ok (.putfield 28, 3) := by decide +kernel
theorem dX4_place_28 : decode cX4_place 28 = .ok (.aload_n 0, 1) := by decide +kernel
theorem dX4_place_29 : decode cX4_place 29 = .ok (.getfield 15, 3) := by decide +kernel
theorem dX4_place_32 : decode cX4_place 32 = .ok (.iconst 0, 1) := by decide +kernel
theorem dX4_place_33 : decode cX4_place 33 = .ok (.aload_n 0, 1) := by decide +kernel
theorem dX4_place_34 : decode cX4_place 34 = .ok (.getfield 18, 3) := by decide +kernel
theorem dX4_place_37 : decode cX4_place 37 = .ok (.iconst 0, 1) := by decide +kernel
theorem dX4_place_38 : decode cX4_place 38 = .ok (.bipush 7, 2) := by decide +kernel
theorem dX4_place_40 : decode cX4_place 40 = .ok (.invokestatic 37, 3) := by decide +kernel
theorem dX4_place_43 : decode cX4_place 43 = .ok (.return_, 1) := by decide +kernel
theorem dX4_place_44 : decode cX4_place 44 = .ok (.iconst 0, 1) := by decide +kernel
theorem dX4_place_45 : decode cX4_place 45 = .ok (.istore 4, 2) := by decide +kernel
theorem dX4_place_47 : decode cX4_place 47 = .ok (.iconst 0, 1) := by decide +kernel
theorem dX4_place_48 : decode cX4_place 48 = .ok (.istore 5, 2) := by decide +kernel
theorem dX4_place_50 : decode cX4_place 50 = .ok (.iload 5, 2) := by decide +kernel
theorem dX4_place_52 : decode cX4_place 52 = .ok (.iconst 4, 1) := by decide +kernel
theorem dX4_place_53 : decode cX4_place 53 = .ok (.if_icmp .ge 99, 3) := by decide +kernel
theorem dX4_place_56 : decode cX4_place 56 = .ok (.iload 4, 2) := by decide +kernel
theorem dX4_place_58 : decode cX4_place 58 = .ok (.ifCond .ne 94, 3) := by decide +kernel
theorem dX4_place_61 : decode cX4_place 61 = .ok (.aload_n 1, 1) := by decide +kernel
theorem dX4_place_62 : decode cX4_place 62 = .ok (.iload 5, 2) := by decide +kernel
theorem dX4_place_64 : decode cX4_place 64 = .ok (.invokevirtual 43, 3) := by decide +kernel
theorem dX4_place_67 : decode cX4_place 67 = .ok (.ifCond .eq 79, 3) := by decide +kernel
theorem dX4_place_70 : decode cX4_place 70 = .ok (.aload_n 0, 1) := by decide +kernel
theorem dX4_place_71 : decode cX4_place 71 = .ok (.getfield 9, 3) := by decide +kernel
theorem dX4_place_74 : decode cX4_place 74 = .ok (.iload 5, 2) := by decide +kernel
theorem dX4_place_76 : decode cX4_place 76 = .ok (.iaload, 1) := by decide +kernel
theorem dX4_place_77 : decode cX4_place 77 = .ok (.istore 6, 2) := by decide +kernel
theorem dX4_place_79 : decode cX4_place 79 = .ok (.iload 6, 2) := by decide +kernel
theorem dX4_place_81 : decode cX4_place 81 = .ok (.ifCond .ne 7, 3) := by decide +kernel
theorem dX4_place_84 : decode cX4_place 84 = .ok (.iconst 1, 1) := by decide +kernel
theorem dX4_place_85 : decode cX4_place 85 = .ok (.goto 4, 3) := by decide +kernel
theorem dX4_place_88 : decode cX4_place 88 = .ok (.iconst 0, 1) := by decide +kernel
theorem dX4_place_89 : decode cX4_place 89 = .ok (.istore 4, 2) := by decide +kernel
theorem dX4_place_91 : decode cX4_place 91 = .ok (.aload_n 0, 1) := by decide +kernel
theorem dX4_place_92 : decode cX4_place 92 = .ok (.getfield 15, 3) := by decide +kernel
theorem dX4_place_95 : decode cX4_place 95 = .ok (.iload_n 2, 1) := by decide +kernel
theorem dX4_place_96 : decode cX4_place 96 = .ok (.iload 5, 2) := by decide +kernel
theorem dX4_place_98 : decode cX4_place 98 = .ok (.iastore, 1) := by decide +kernel
theorem dX4_place_99 : decode cX4_place 99 = .ok (.aload_n 0, 1) := by decide +kernel
theorem dX4_place_100 : decode cX4_place 100 = .ok (.getfield 9, 3) := by decide +kernel
theorem dX4_place_103 : decode cX4_place 103 = .ok (.iload 5, 2) := by decide +kernel
theorem dX4_place_105 : decode cX4_place 105 = .ok (.iload 6, 2) := by decide +kernel
theorem dX4_place_107 : decode cX4_place 107 = .ok (.iconst 1, 1) := by decide +kernel
theorem dX4_place_108 : decode cX4_place 108 = .ok (.iload_n 2, 1) := by decide +kernel
theorem dX4_place_109 : decode cX4_place 109 = .ok (.ishl, 1) := by decide +kernel
theorem dX4_place_110 : decode cX4_place 110 = .ok (.ior, 1) := by decide +kernel
theorem dX4_place_111 : decode cX4_place 111 = .ok (.iastore, 1) := by decide +kernel
theorem dX4_place_112 : decode cX4_place 112 = .ok (.aload_n 0, 1) := by decide +kernel
theorem dX4_place_113 : decode cX4_place 113 = .ok (.aload_n 1, 1) := by decide +kernel
theorem dX4_place_114 : decode cX4_place 114 = .ok (.iload_n 2, 1) := by decide +kernel
theorem dX4_place_115 : decode cX4_place 115 = .ok (.iconst 1, 1) := by decide +kernel
theorem dX4_place_116 : decode cX4_place 116 = .ok (.iadd, 1) := by decide +kernel
theorem dX4_place_117 : decode cX4_place 117 = .ok (.iload_n 3, 1) := by decide +kernel
theorem dX4_place_118 : decode cX4_place 118 = .ok (.aload_n 1, 1) := by decide +kernel
theorem dX4_place_119 : decode cX4_place 119 = .ok (.iload_n 2, 1) := by decide +kernel
theorem dX4_place_120 : decode cX4_place 120 = .ok (.iload 6, 2) := by decide +kernel
theorem dX4_place_122 : decode cX4_place 122 = .ok (.invokevirtual 47, 3) := by decide +kernel
theorem dX4_place_125 : decode cX4_place 125 = .ok (.iadd, 1) := by decide +kernel
theorem dX4_place_126 : decode cX4_place 126 = .ok (.aload_n 1, 1) := by decide +kernel
theorem dX4_place_127 : decode cX4_place 127 = .ok (.iload 6, 2) := by decide +kernel
theorem dX4_place_129 : decode cX4_place 129 = .ok (.iload_n 2, 1) := by decide +kernel
theorem dX4_place_130 : decode cX4_place 130 = .ok (.invokevirtual 51, 3) := by decide +kernel
theorem dX4_place_133 : decode cX4_place 133 = .ok (.iadd, 1) := by decide +kernel
theorem dX4_place_134 : decode cX4_place 134 = .ok (.invokevirtual 54, 3) := by decide +kernel
theorem dX4_place_137 : decode cX4_place 137 = .ok (.aload_n 0, 1) := by decide +kernel
theorem dX4_place_138 : decode cX4_place 138 = .ok (.getfield 9, 3) := by decide +kernel
theorem dX4_place_141 : decode cX4_place 141 = .ok (.iload 5, 2) := by decide +kernel
theorem dX4_place_143 : decode cX4_place 143 = .ok (.iload 6, 2) := by decide +kernel
theorem dX4_place_145 : decode cX4_place 145 = .ok (.iastore, 1) := by decide +kernel
theorem dX4_place_146 : decode cX4_place 146 = .ok (.iinc 5 1, 3) := by decide +kernel
theorem dX4_place_149 : decode cX4_place 149 = .ok (.goto (-99), 3) := by decide +kernel
theorem dX4_place_152 : decode cX4_place 152 = .ok (.return_, 1) := by decide +kernel
theorem dX5_init_0 : decode cX5_init 0 = .ok (.aload_n 0, 1) := by decide +kernel
theorem dX5_init_1 : decode cX5_init 1 = .ok (.invokespecial 1, 3) := by decide +kernel
theorem dX5_init_4 : decode cX5_init 4 = .ok (.return_, 1) := by decide +kernel
theorem dX5_believes_0 : decode cX5_believes 0 = .ok (.aload_n 0, 1) := by decide +kernel
theorem dX5_believes_1 : decode cX5_believes 1 = .ok (.iload_n 1, 1) := by decide +kernel
theorem dX5_believes_2 : decode cX5_believes 2 = .ok (.invokespecial 7, 3) := by decide +kernel
theorem dX5_believes_5 : decode cX5_believes 5 = .ok (.bipush 15, 2) := by decide +kernel
theorem dX5_believes_7 : decode cX5_believes 7 = .ok (.isub, 1) := by decide +kernel
theorem dX5_believes_8 : decode cX5_believes 8 = .ok (.ireturn, 1) := by decide +kernel
theorem dX6_init_0 : decode cX6_init 0 = .ok (.aload_n 0, 1) := by decide +kernel
theorem dX6_init_1 : decode cX6_init 1 = .ok (.invokespecial 1, 3) := by decide +kernel
theorem dX6_init_4 : decode cX6_init 4 = .ok (.return_, 1) := by decide +kernel
theorem dX6_takes_0 : decode cX6_takes 0 = .ok (.iload_n 1, 1) := by decide +kernel
theorem dX6_takes_1 : decode cX6_takes 1 = .ok (.aload_n 0, 1) := by decide +kernel
theorem dX6_takes_2 : decode cX6_takes 2 = .ok (.iload_n 1, 1) := by decide +kernel
theorem dX6_takes_3 : decode cX6_takes 3 = .ok (.iload_n 2, 1) := by decide +kernel
theorem dX6_takes_4 : decode cX6_takes 4 = .ok (.iload_n 3, 1) := by decide +kernel
theorem dX6_takes_5 : decode cX6_takes 5 = .ok (.iload 4, 2) := by decide +kernel
theorem dX6_takes_7 : decode cX6_takes 7 = .ok (.invokespecial 7, 3) := by decide +kernel
theorem dX6_takes_10 : decode cX6_takes 10 = .ok (.iload_n 1, 1) := by decide +kernel
theorem dX6_takes_11 : decode cX6_takes 11 = .ok (.isub, 1) := by decide +kernel
theorem dX6_takes_12 : decode cX6_takes 12 = .ok (.iconst 2, 1) := by decide +kernel
theorem dX6_takes_13 : decode cX6_takes 13 = .ok (.idiv, 1) := by decide +kernel
theorem dX6_takes_14 : decode cX6_takes 14 = .ok (.iadd, 1) := by decide +kernel
theorem dX6_takes_15 : decode cX6_takes 15 = .ok (.ireturn, 1) := by decide +kernel
theorem dX6_believes_0 : decode cX6_believes 0 = .ok (.aload_n 0, 1) := by decide +kernel
theorem dX6_believes_1 : decode cX6_believes 1 = .ok (.iload_n 1, 1) := by decide +kernel
theorem dX6_believes_2 : decode cX6_believes 2 = .ok (.invokespecial 11, 3) := by decide +kernel
theorem dX6_believes_5 : decode cX6_believes 5 = .ok (.iconst 5, 1) := by decide +kernel
theorem dX6_believes_6 : decode cX6_believes 6 = .ok (.isub, 1) := by decide +kernel
theorem dX6_believes_7 : decode cX6_believes 7 = .ok (.ireturn, 1) := by decide +kernel
theorem dX7_init_0 : decode cX7_init 0 = .ok (.aload_n 0, 1) := by decide +kernel
theorem dX7_init_1 : decode cX7_init 1 = .ok (.invokespecial 3, 3) := by decide +kernel
theorem dX7_init_4 : decode cX7_init 4 = .ok (.aload_n 0, 1) := by decide +kernel
theorem dX7_init_5 : decode cX7_init 5 = .ok (.sipush 150, 3) := by decide +kernel
theorem dX7_init_8 : decode cX7_init 8 = .ok (.newarray .char, 2) := by decide +kernel
theorem dX7_init_10 : decode cX7_init 10 = .ok (.putfield 11, 3) := by decide +kernel
theorem dX7_init_13 : decode cX7_init 13 = .ok (.aload_n 0, 1) := by decide +kernel
theorem dX7_init_14 : decode cX7_init 14 = .ok (.iconst 0, 1) := by decide +kernel
theorem dX7_init_15 : decode cX7_init 15 = .ok (.putfield 15, 3) := by decide +kernel
theorem dX7_init_18 : decode cX7_init 18 = .ok (.aload_n 0, 1) := by decide +kernel
theorem dX7_init_19 : decode cX7_init 19 = .ok (.iconst 0, 1) := by decide +kernel
theorem dX7_init_20 : decode cX7_init 20 = .ok (.putfield 19, 3) := by decide +kernel
theorem dX7_init_23 : decode cX7_init 23 = .ok (.aload_n 0, 1) := by decide +kernel
theorem dX7_init_24 : decode cX7_init 24 = .ok (.iconst 0, 1) := by decide +kernel
theorem dX7_init_25 : decode cX7_init 25 = .ok (.putfield 22, 3) := by decide +kernel
theorem dX7_init_28 : decode cX7_init 28 = .ok (.return_, 1) := by decide +kernel
theorem dX7_add_0 : decode cX7_add 0 = .ok (.aload_n 0, 1) := by decide +kernel
theorem dX7_add_1 : decode cX7_add 1 = .ok (.getfield 15, 3) := by decide +kernel
theorem dX7_add_4 : decode cX7_add 4 = .ok (.sipush 150, 3) := by decide +kernel
theorem dX7_add_7 : decode cX7_add 7 = .ok (.if_icmp .ge 24, 3) := by decide +kernel
theorem dX7_add_10 : decode cX7_add 10 = .ok (.aload_n 0, 1) := by decide +kernel
theorem dX7_add_11 : decode cX7_add 11 = .ok (.getfield 11, 3) := by decide +kernel
theorem dX7_add_14 : decode cX7_add 14 = .ok (.aload_n 0, 1) := by decide +kernel
theorem dX7_add_15 : decode cX7_add 15 = .ok (.getfield 15, 3) := by decide +kernel
theorem dX7_add_18 : decode cX7_add 18 = .ok (.iload_n 1, 1) := by decide +kernel
theorem dX7_add_19 : decode cX7_add 19 = .ok (.i2c, 1) := by decide +kernel
theorem dX7_add_20 : decode cX7_add 20 = .ok (.castore, 1) := by decide +kernel
theorem dX7_add_21 : decode cX7_add 21 = .ok (.aload_n 0, 1) := by decide +kernel
theorem dX7_add_22 : decode cX7_add 22 = .ok (.dup, 1) := by decide +kernel
theorem dX7_add_23 : decode cX7_add 23 = .ok (.getfield 15, 3) := by decide +kernel
theorem dX7_add_26 : decode cX7_add 26 = .ok (.iconst 1, 1) := by decide +kernel
theorem dX7_add_27 : decode cX7_add 27 = .ok (.iadd, 1) := by decide +kernel
theorem dX7_add_28 : decode cX7_add 28 = .ok (.putfield 15, 3) := by decide +kernel
theorem dX7_add_31 : decode cX7_add 31 = .ok (.aload_n 0, 1) := by decide +kernel
theorem dX7_add_32 : decode cX7_add 32 = .ok (.getfield 15, 3) := by decide +kernel
theorem dX7_add_35 : decode cX7_add 35 = .ok (.ireturn, 1) := by decide +kernel
theorem dX7_tellTo_0 : decode cX7_tellTo 0 = .ok (.aload_n 1, 1) := by decide +kernel
theorem dX7_tellTo_1 : decode cX7_tellTo 1 = .ok (.invokevirtual 25, 3) := by decide +kernel
theorem dX7_tellTo_4 : decode cX7_tellTo 4 = .ok (.aload_n 0, 1) := by decide +kernel
theorem dX7_tellTo_5 : decode cX7_tellTo 5 = .ok (.iconst 0, 1) := by decide +kernel
theorem dX7_tellTo_6 : decode cX7_tellTo 6 = .ok (.putfield 22, 3) := by decide +kernel
theorem dX7_tellTo_9 : decode cX7_tellTo 9 = .ok (.aload_n 0, 1) := by decide +kernel
theorem dX7_tellTo_10 : decode cX7_tellTo 10 = .ok (.invokevirtual 30, 3) := by decide +kernel
theorem dX7_tellTo_13 : decode cX7_tellTo 13 = .ok (.aload_n 0, 1) := by decide +kernel
theorem dX7_tellTo_14 : decode cX7_tellTo 14 = .ok (.ldc 33, 2) := by decide +kernel
theorem dX7_tellTo_16 : decode cX7_tellTo 16 = .ok (.invokevirtual 35, 3) := by decide +kernel
theorem dX7_tellTo_19 : decode cX7_tellTo 19 = .ok (.ifCond .eq 10, 3) := by decide +kernel
theorem dX7_tellTo_22 : decode cX7_tellTo 22 = .ok (.aload_n 0, 1) := by decide +kernel
theorem dX7_tellTo_23 : decode cX7_tellTo 23 = .ok (.invokevirtual 39, 3) := by decide +kernel
theorem dX7_tellTo_26 : decode cX7_tellTo 26 = .ok (.ifCond .ne 5, 3) := by decide +kernel
theorem dX7_tellTo_29 : decode cX7_tellTo 29 = .ok (.iconst (-1), 1) := by decide +kernel
theorem dX7_tellTo_30 : decode cX7_tellTo 30 = .ok (.ireturn, 1) := by decide +kernel
theorem dX7_tellTo_31 : decode cX7_tellTo 31 = .ok (.iconst 1, 1) := by decide +kernel
theorem dX7_tellTo_32 : decode cX7_tellTo 32 = .ok (.istore_n 2, 1) := by decide +kernel
theorem dX7_tellTo_33 : decode cX7_tellTo 33 = .ok (.iload_n 2, 1) := by decide +kernel
theorem dX7_tellTo_34 : decode cX7_tellTo 34 = .ok (.sipush 150, 3) := by decide +kernel
theorem dX7_tellTo_37 : decode cX7_tellTo 37 = .ok (.if_icmp .gt 43, 3) := by decide +kernel
theorem dX7_tellTo_40 : decode cX7_tellTo 40 = .ok (.aload_n 0, 1) := by decide +kernel
theorem dX7_tellTo_41 : decode cX7_tellTo 41 = .ok (.invokevirtual 30, 3) := by decide +kernel
theorem dX7_tellTo_44 : decode cX7_tellTo 44 = .ok (.aload_n 0, 1) := by decide +kernel
theorem dX7_tellTo_45 : decode cX7_tellTo 45 = .ok (.getfield 19, 3) := by decide +kernel
theorem dX7_tellTo_48 : decode cX7_tellTo 48 = .ok (.aload_n 0, 1) := by decide +kernel
theorem dX7_tellTo_49 : decode cX7_tellTo 49 = .ok (.getfield 15, 3) := by decide +kernel
theorem dX7_tellTo_52 : decode cX7_tellTo 52 = .ok (.if_icmp .lt 5, 3) := by decide +kernel
theorem dX7_tellTo_55 : decode cX7_tellTo 55 = .ok (.iload_n 2, 1) := by decide +kernel
theorem dX7_tellTo_56 : decode cX7_tellTo 56 = .ok (.ireturn, 1) := by decide +kernel
theorem dX7_tellTo_57 : decode cX7_tellTo 57 = .ok (.aload_n 0, 1) := by decide +kernel
theorem dX7_tellTo_58 : decode cX7_tellTo 58 = .ok (.aload_n 1, 1) := by decide +kernel
theorem dX7_tellTo_59 : decode cX7_tellTo 59 = .ok (.invokevirtual 43, 3) := by decide +kernel
theorem dX7_tellTo_62 : decode cX7_tellTo 62 = .ok (.ifCond .eq 10, 3) := by decide +kernel
theorem dX7_tellTo_65 : decode cX7_tellTo 65 = .ok (.aload_n 0, 1) := by decide +kernel
theorem dX7_tellTo_66 : decode cX7_tellTo 66 = .ok (.invokevirtual 39, 3) := by decide +kernel
theorem dX7_tellTo_69 : decode cX7_tellTo 69 = .ok (.ifCond .ne 5, 3) := by decide +kernel
theorem dX7_tellTo_72 : decode cX7_tellTo 72 = .ok (.iconst (-1), 1) := by decide +kernel
theorem dX7_tellTo_73 : decode cX7_tellTo 73 = .ok (.ireturn, 1) := by decide +kernel
theorem dX7_tellTo_74 : decode cX7_tellTo 74 = .ok (.iinc 2 1, 3) := by decide +kernel
theorem dX7_tellTo_77 : decode cX7_tellTo 77 = .ok (.goto (-44), 3) := by decide +kernel
theorem dX7_tellTo_80 : decode cX7_tellTo 80 = .ok (.iconst (-1), 1) := by decide +kernel
theorem dX7_tellTo_81 : decode cX7_tellTo 81 = .ok (.ireturn, 1) := by decide +kernel
theorem dX7_tellItem_0 : decode cX7_tellItem 0 = .ok (.aload_n 0, 1) := by decide +kernel
theorem dX7_tellItem_1 : decode cX7_tellItem 1 = .ok (.ldc 47, 2) := by decide +kernel
theorem dX7_tellItem_3 : decode cX7_tellItem 3 = .ok (.invokevirtual 35, 3) := by decide +kernel
theorem dX7_tellItem_6 : decode cX7_tellItem 6 = .ok (.ifCond .eq 9, 3) := by decide +kernel
theorem dX7_tellItem_9 : decode cX7_tellItem 9 = .ok (.aload_n 0, 1) := by decide +kernel
theorem dX7_tellItem_10 : decode cX7_tellItem 10 = .ok (.aload_n 1, 1) := by decide +kernel
theorem dX7_tellItem_11 : decode cX7_tellItem 11 = .ok (.invokevirtual 49, 3) := by decide +kernel
theorem dX7_tellItem_14 : decode cX7_tellItem 14 = .ok (.ireturn, 1) := by decide +kernel
theorem dX7_tellItem_15 : decode cX7_tellItem 15 = .ok (.aload_n 0, 1) := by decide +kernel
theorem dX7_tellItem_16 : decode cX7_tellItem 16 = .ok (.ldc 52, 2) := by decide +kernel
theorem dX7_tellItem_18 : decode cX7_tellItem 18 = .ok (.invokevirtual 35, 3) := by decide +kernel
theorem dX7_tellItem_21 : decode cX7_tellItem 21 = .ok (.ifCond .eq 9, 3) := by decide +kernel
theorem dX7_tellItem_24 : decode cX7_tellItem 24 = .ok (.aload_n 0, 1) := by decide +kernel
theorem dX7_tellItem_25 : decode cX7_tellItem 25 = .ok (.aload_n 1, 1) := by decide +kernel
theorem dX7_tellItem_26 : decode cX7_tellItem 26 = .ok (.invokevirtual 54, 3) := by decide +kernel
theorem dX7_tellItem_29 : decode cX7_tellItem 29 = .ok (.ireturn, 1) := by decide +kernel
theorem dX7_tellItem_30 : decode cX7_tellItem 30 = .ok (.aload_n 0, 1) := by decide +kernel
theorem dX7_tellItem_31 : decode cX7_tellItem 31 = .ok (.ldc 57, 2) := by decide +kernel
theorem dX7_tellItem_33 : decode cX7_tellItem 33 = .ok (.invokevirtual 35, 3) := by decide +kernel
theorem dX7_tellItem_36 : decode cX7_tellItem 36 = .ok (.ifCond .eq 24, 3) := by decide +kernel
theorem dX7_tellItem_39 : decode cX7_tellItem 39 = .ok (.aload_n 1, 1) := by decide +kernel
theorem dX7_tellItem_40 : decode cX7_tellItem 40 = .ok (.getfield 59, 3) := by decide +kernel
theorem dX7_tellItem_43 : decode cX7_tellItem 43 = .ok (.bipush 7, 2) := by decide +kernel
theorem dX7_tellItem_45 : decode cX7_tellItem 45 = .ok (.if_icmp .ge 15, 3) := by decide +kernel
theorem dX7_tellItem_48 : decode cX7_tellItem 48 = .ok (.aload_n 0, 1) := by decide +kernel
theorem dX7_tellItem_49 : decode cX7_tellItem 49 = .ok (.aload_n 1, 1) := by decide +kernel
theorem dX7_tellItem_50 : decode cX7_tellItem 50 = .ok (.invokevirtual 62, 3) := by decide +kernel
theorem dX7_tellItem_53 : decode cX7_tellItem 53 = .ok (.ifCond .eq 7, 3) := by decide +kernel
theorem dX7_tellItem_56 : decode cX7_tellItem 56 = .ok (.iconst 1, 1) := by decide +kernel
theorem dX7_tellItem_57 : decode cX7_tellItem 57 = .ok (.goto 4, 3) := by decide +kernel
theorem dX7_tellItem_60 : decode cX7_tellItem 60 = .ok (.iconst 0, 1) := by decide +kernel
theorem dX7_tellItem_61 : decode cX7_tellItem 61 = .ok (.ireturn, 1) := by decide +kernel
theorem dX7_tellSign_0 : decode cX7_tellSign 0 = .ok (.aload_n 0, 1) := by decide +kernel
theorem dX7_tellSign_1 : decode cX7_tellSign 1 = .ok (.invokevirtual 65, 3) := by decide +kernel
theorem dX7_tellSign_4 : decode cX7_tellSign 4 = .ok (.istore_n 2, 1) := by decide +kernel
theorem dX7_tellSign_5 : decode cX7_tellSign 5 = .ok (.iload_n 2, 1) := by decide +kernel
theorem dX7_tellSign_6 : decode cX7_tellSign 6 = .ok (.invokestatic 69, 3) := by decide +kernel
theorem dX7_tellSign_9 : decode cX7_tellSign 9 = .ok (.ifCond .ne 5, 3) := by decide +kernel
theorem dX7_tellSign_12 : decode cX7_tellSign 12 = .ok (.iconst 0, 1) := by decide +kernel
theorem dX7_tellSign_13 : decode cX7_tellSign 13 = .ok (.ireturn, 1) := by decide +kernel
theorem dX7_tellSign_14 : decode cX7_tellSign 14 = .ok (.aload_n 0, 1) := by decide +kernel
theorem dX7_tellSign_15 : decode cX7_tellSign 15 = .ok (.invokevirtual 65, 3) := by decide +kernel
theorem dX7_tellSign_18 : decode cX7_tellSign 18 = .ok (.istore_n 3, 1) := by decide +kernel
theorem dX7_tellSign_19 : decode cX7_tellSign 19 = .ok (.iload_n 3, 1) := by decide +kernel
theorem dX7_tellSign_20 : decode cX7_tellSign 20 = .ok (.iconst 0, 1) := by decide +kernel
theorem dX7_tellSign_21 : decode cX7_tellSign 21 = .ok (.iconst 2, 1) := by decide +kernel
theorem dX7_tellSign_22 : decode cX7_tellSign 22 = .ok (.invokestatic 73, 3) := by decide +kernel
theorem dX7_tellSign_25 : decode cX7_tellSign 25 = .ok (.ifCond .ne 5, 3) := by decide +kernel
theorem dX7_tellSign_28 : decode cX7_tellSign 28 = .ok (.iconst 0, 1) := by decide +kernel
theorem dX7_tellSign_29 : decode cX7_tellSign 29 = .ok (.ireturn, 1) := by decide +kernel
theorem dX7_tellSign_30 : decode cX7_tellSign 30 = .ok (.aload_n 1, 1) := by decide +kernel
theorem dX7_tellSign_31 : decode cX7_tellSign 31 = .ok (.getfield 77, 3) := by decide +kernel
theorem dX7_tellSign_34 : decode cX7_tellSign 34 = .ok (.iload_n 2, 1) := by decide +kernel
theorem dX7_tellSign_35 : decode cX7_tellSign 35 = .ok (.iload_n 3, 1) := by decide +kernel
theorem dX7_tellSign_36 : decode cX7_tellSign 36 = .ok (.iastore, 1) := by decide +kernel
theorem dX7_tellSign_37 : decode cX7_tellSign 37 = .ok (.iconst 1, 1) := by decide +kernel
theorem dX7_tellSign_38 : decode cX7_tellSign 38 = .ok (.ireturn, 1) := by decide +kernel
theorem dX7_tellShut_0 : decode cX7_tellShut 0 = .ok (.aload_n 0, 1) := by decide +kernel
theorem dX7_tellShut_1 : decode cX7_tellShut 1 = .ok (.invokevirtual 65, 3) := by decide +kernel
theorem dX7_tellShut_4 : decode cX7_tellShut 4 = .ok (.istore_n 2, 1) := by decide +kernel
theorem dX7_tellShut_5 : decode cX7_tellShut 5 = .ok (.iload_n 2, 1) := by decide +kernel
theorem dX7_tellShut_6 : decode cX7_tellShut 6 = .ok (.invokestatic 69, 3) := by decide +kernel
theorem dX7_tellShut_9 : decode cX7_tellShut 9 = .ok (.ifCond .eq 15, 3) := by decide +kernel
theorem dX7_tellShut_12 : decode cX7_tellShut 12 = .ok (.aload_n 1, 1) := by decide +kernel
theorem dX7_tellShut_13 : decode cX7_tellShut 13 = .ok (.aload_n 1, 1) := by decide +kernel
theorem dX7_tellShut_14 : decode cX7_tellShut 14 = .ok (.getfield 81, 3) := by decide +kernel
theorem dX7_tellShut_17 : decode cX7_tellShut 17 = .ok (.iload_n 2, 1) := by decide +kernel
theorem dX7_tellShut_18 : decode cX7_tellShut 18 = .ok (.invokevirtual 84, 3) := by decide +kernel
theorem dX7_tellShut_21 : decode cX7_tellShut 21 = .ok (.ifCond .eq 5, 3) := by decide +kernel
theorem dX7_tellShut_24 : decode cX7_tellShut 24 = .ok (.iconst 0, 1) := by decide +kernel
theorem dX7_tellShut_25 : decode cX7_tellShut 25 = .ok (.ireturn, 1) := by decide +kernel
theorem dX7_tellShut_26 : decode cX7_tellShut 26 = .ok (.aload_n 1, 1) := by decide +kernel
theorem dX7_tellShut_27 : decode cX7_tellShut 27 = .ok (.getfield 88, 3) := by decide +kernel
theorem dX7_tellShut_30 : decode cX7_tellShut 30 = .ok (.iload_n 2, 1) := by decide +kernel
theorem dX7_tellShut_31 : decode cX7_tellShut 31 = .ok (.iconst 1, 1) := by decide +kernel
theorem dX7_tellShut_32 : decode cX7_tellShut 32 = .ok (.iastore, 1) := by decide +kernel
theorem dX7_tellShut_33 : decode cX7_tellShut 33 = .ok (.iconst 1, 1) := by decide +kernel
theorem dX7_tellShut_34 : decode cX7_tellShut 34 = .ok (.ireturn, 1) := by decide +kernel
theorem dX7_tellOne_0 : decode cX7_tellOne 0 = .ok (.aload_n 0, 1) := by decide +kernel
theorem dX7_tellOne_1 : decode cX7_tellOne 1 = .ok (.invokevirtual 65, 3) := by decide +kernel
theorem dX7_tellOne_4 : decode cX7_tellOne 4 = .ok (.istore_n 2, 1) := by decide +kernel
theorem dX7_tellOne_5 : decode cX7_tellOne 5 = .ok (.iload_n 2, 1) := by decide +kernel
theorem dX7_tellOne_6 : decode cX7_tellOne 6 = .ok (.invokestatic 91, 3) := by decide +kernel
theorem dX7_tellOne_9 : decode cX7_tellOne 9 = .ok (.ifCond .ne 5, 3) := by decide +kernel
theorem dX7_tellOne_12 : decode cX7_tellOne 12 = .ok (.iconst 0, 1) := by decide +kernel
theorem dX7_tellOne_13 : decode cX7_tellOne 13 = .ok (.ireturn, 1) := by decide +kernel
theorem dX7_tellOne_14 : decode cX7_tellOne 14 = .ok (.aload_n 0, 1) := by decide +kernel
theorem dX7_tellOne_15 : decode cX7_tellOne 15 = .ok (.invokevirtual 65, 3) := by decide +kernel
theorem dX7_tellOne_18 : decode cX7_tellOne 18 = .ok (.istore_n 3, 1) := by decide +kernel
theorem dX7_tellOne_19 : decode cX7_tellOne 19 = .ok (.iload_n 3, 1) := by decide +kernel
theorem dX7_tellOne_20 : decode cX7_tellOne 20 = .ok (.invokestatic 94, 3) := by decide +kernel
theorem dX7_tellOne_23 : decode cX7_tellOne 23 = .ok (.ifCond .ne 5, 3) := by decide +kernel
theorem dX7_tellOne_26 : decode cX7_tellOne 26 = .ok (.iconst 0, 1) := by decide +kernel
theorem dX7_tellOne_27 : decode cX7_tellOne 27 = .ok (.ireturn, 1) := by decide +kernel
theorem dX7_tellOne_28 : decode cX7_tellOne 28 = .ok (.aload_n 0, 1) := by decide +kernel
theorem dX7_tellOne_29 : decode cX7_tellOne 29 = .ok (.invokevirtual 65, 3) := by decide +kernel
theorem dX7_tellOne_32 : decode cX7_tellOne 32 = .ok (.istore 4, 2) := by decide +kernel
theorem dX7_tellOne_34 : decode cX7_tellOne 34 = .ok (.iload 4, 2) := by decide +kernel
theorem dX7_tellOne_36 : decode cX7_tellOne 36 = .ok (.invokestatic 69, 3) := by decide +kernel
theorem dX7_tellOne_39 : decode cX7_tellOne 39 = .ok (.ifCond .eq 28, 3) := by decide +kernel
theorem dX7_tellOne_42 : decode cX7_tellOne 42 = .ok (.aload_n 1, 1) := by decide +kernel
theorem dX7_tellOne_43 : decode cX7_tellOne 43 = .ok (.iload 4, 2) := by decide +kernel
theorem dX7_tellOne_45 : decode cX7_tellOne 45 = .ok (.invokevirtual 97, 3) := by decide +kernel
theorem dX7_tellOne_48 : decode cX7_tellOne 48 = .ok (.ifCond .eq 19, 3) := by decide +kernel
theorem dX7_tellOne_51 : decode cX7_tellOne 51 = .ok (.aload_n 1, 1) := by decide +kernel
theorem dX7_tellOne_52 : decode cX7_tellOne 52 = .ok (.iload_n 2, 1) := by decide +kernel
theorem dX7_tellOne_53 : decode cX7_tellOne 53 = .ok (.iload_n 3, 1) := by decide +kernel
theorem dX7_tellOne_54 : decode cX7_tellOne 54 = .ok (.iload 4, 2) := by decide +kernel
theorem dX7_tellOne_56 : decode cX7_tellOne 56 = .ok (.invokevirtual 100, 3) := by decide +kernel
theorem dX7_tellOne_59 : decode cX7_tellOne 59 = .ok (.iconst (-1), 1) := by decide +kernel
theorem dX7_tellOne_60 : decode cX7_tellOne 60 = .ok (.if_icmp .eq 7, 3) := by decide +kernel
theorem dX7_tellOne_63 : decode cX7_tellOne 63 = .ok (.iconst 1, 1) := by decide +kernel
theorem dX7_tellOne_64 : decode cX7_tellOne 64 = .ok (.goto 4, 3) := by decide +kernel
theorem dX7_tellOne_67 : decode cX7_tellOne 67 = .ok (.iconst 0, 1) := by decide +kernel
theorem dX7_tellOne_68 : decode cX7_tellOne 68 = .ok (.ireturn, 1) := by decide +kernel
theorem dX7_next_0 : decode cX7_next 0 = .ok (.aload_n 0, 1) := by decide +kernel
theorem dX7_next_1 : decode cX7_next 1 = .ok (.aload_n 0, 1) := by decide +kernel
theorem dX7_next_2 : decode cX7_next 2 = .ok (.getfield 22, 3) := by decide +kernel
theorem dX7_next_5 : decode cX7_next 5 = .ok (.putfield 19, 3) := by decide +kernel
theorem dX7_next_8 : decode cX7_next 8 = .ok (.aload_n 0, 1) := by decide +kernel
theorem dX7_next_9 : decode cX7_next 9 = .ok (.getfield 19, 3) := by decide +kernel
theorem dX7_next_12 : decode cX7_next 12 = .ok (.aload_n 0, 1) := by decide +kernel
theorem dX7_next_13 : decode cX7_next 13 = .ok (.getfield 15, 3) := by decide +kernel
theorem dX7_next_16 : decode cX7_next 16 = .ok (.if_icmp .ge 30, 3) := by decide +kernel
theorem dX7_next_19 : decode cX7_next 19 = .ok (.aload_n 0, 1) := by decide +kernel
theorem dX7_next_20 : decode cX7_next 20 = .ok (.getfield 11, 3) := by decide +kernel
theorem dX7_next_23 : decode cX7_next 23 = .ok (.aload_n 0, 1) := by decide +kernel
theorem dX7_next_24 : decode cX7_next 24 = .ok (.getfield 19, 3) := by decide +kernel
theorem dX7_next_27 : decode cX7_next 27 = .ok (.caload, 1) := by decide +kernel
theorem dX7_next_28 : decode cX7_next 28 = .ok (.bipush 32, 2) := by decide +kernel
theorem dX7_next_30 : decode cX7_next 30 = .ok (.if_icmp .ne 16, 3) := by decide +kernel
theorem dX7_next_33 : decode cX7_next 33 = .ok (.aload_n 0, 1) := by decide +kernel
theorem dX7_next_34 : decode cX7_next 34 = .ok (.dup, 1) := by decide +kernel
theorem dX7_next_35 : decode cX7_next 35 = .ok (.getfield 19, 3) := by decide +kernel
theorem dX7_next_38 : decode cX7_next 38 = .ok (.iconst 1, 1) := by decide +kernel
theorem dX7_next_39 : decode cX7_next 39 = .ok (.iadd, 1) := by decide +kernel
theorem dX7_next_40 : decode cX7_next 40 = .ok (.putfield 19, 3) := by decide +kernel
theorem dX7_next_43 : decode cX7_next 43 = .ok (.goto (-35), 3) := by decide +kernel
theorem dX7_next_46 : decode cX7_next 46 = .ok (.aload_n 0, 1) := by decide +kernel
theorem dX7_next_47 : decode cX7_next 47 = .ok (.aload_n 0, 1) := by decide +kernel
theorem dX7_next_48 : decode cX7_next 48 = .ok (.getfield 19, 3) := by decide +kernel
theorem dX7_next_51 : decode cX7_next 51 = .ok (.putfield 22, 3) := by decide +kernel
theorem dX7_next_54 : decode cX7_next 54 = .ok (.aload_n 0, 1) := by decide +kernel
theorem dX7_next_55 : decode cX7_next 55 = .ok (.getfield 22, 3) := by decide +kernel
theorem dX7_next_58 : decode cX7_next 58 = .ok (.aload_n 0, 1) := by decide +kernel
theorem dX7_next_59 : decode cX7_next 59 = .ok (.getfield 15, 3) := by decide +kernel
theorem dX7_next_62 : decode cX7_next 62 = .ok (.if_icmp .ge 63, 3) := by decide +kernel
theorem dX7_next_65 : decode cX7_next 65 = .ok (.aload_n 0, 1) := by decide +kernel
theorem dX7_next_66 : decode cX7_next 66 = .ok (.aload_n 0, 1) := by decide +kernel
theorem dX7_next_67 : decode cX7_next 67 = .ok (.getfield 22, 3) := by decide +kernel
theorem dX7_next_70 : decode cX7_next 70 = .ok (.invokevirtual 104, 3) := by decide +kernel
theorem dX7_next_73 : decode cX7_next 73 = .ok (.istore_n 1, 1) := by decide +kernel
theorem dX7_next_74 : decode cX7_next 74 = .ok (.aload_n 0, 1) := by decide +kernel
theorem dX7_next_75 : decode cX7_next 75 = .ok (.dup, 1) := by decide +kernel
theorem dX7_next_76 : decode cX7_next 76 = .ok (.getfield 22, 3) := by decide +kernel
theorem dX7_next_79 : decode cX7_next 79 = .ok (.iconst 1, 1) := by decide +kernel
theorem dX7_next_80 : decode cX7_next 80 = .ok (.iadd, 1) := by decide +kernel
theorem dX7_next_81 : decode cX7_next 81 = .ok (.putfield 22, 3) := by decide +kernel
theorem dX7_next_84 : decode cX7_next 84 = .ok (.aload_n 0, 1) := by decide +kernel
theorem dX7_next_85 : decode cX7_next 85 = .ok (.getfield 22, 3) := by decide +kernel
theorem dX7_next_88 : decode cX7_next 88 = .ok (.aload_n 0, 1) := by decide +kernel
theorem dX7_next_89 : decode cX7_next 89 = .ok (.getfield 15, 3) := by decide +kernel
theorem dX7_next_92 : decode cX7_next 92 = .ok (.if_icmp .ge 33, 3) := by decide +kernel
theorem dX7_next_95 : decode cX7_next 95 = .ok (.iload_n 1, 1) := by decide +kernel
theorem dX7_next_96 : decode cX7_next 96 = .ok (.iconst 3, 1) := by decide +kernel
theorem dX7_next_97 : decode cX7_next 97 = .ok (.if_icmp .eq 28, 3) := by decide +kernel
theorem dX7_next_100 : decode cX7_next 100 = .ok (.aload_n 0, 1) := by decide +kernel
theorem dX7_next_101 : decode cX7_next 101 = .ok (.aload_n 0, 1) := by decide +kernel
theorem dX7_next_102 : decode cX7_next 102 = .ok (.getfield 22, 3) := by decide +kernel
theorem dX7_next_105 : decode cX7_next 105 = .ok (.invokevirtual 104, 3) := by decide +kernel
theorem dX7_next_108 : decode cX7_next 108 = .ok (.iload_n 1, 1) := by decide +kernel
theorem dX7_next_109 : decode cX7_next 109 = .ok (.if_icmp .ne 16, 3) := by decide +kernel
theorem dX7_next_112 : decode cX7_next 112 = .ok (.aload_n 0, 1) := by decide +kernel
theorem dX7_next_113 : decode cX7_next 113 = .ok (.dup, 1) := by decide +kernel
theorem dX7_next_114 : decode cX7_next 114 = .ok (.getfield 22, 3) := by decide +kernel
theorem dX7_next_117 : decode cX7_next 117 = .ok (.iconst 1, 1) := by decide +kernel
theorem dX7_next_118 : decode cX7_next 118 = .ok (.iadd, 1) := by decide +kernel
theorem dX7_next_119 : decode cX7_next 119 = .ok (.putfield 22, 3) := by decide +kernel
theorem dX7_next_122 : decode cX7_next 122 = .ok (.goto (-38), 3) := by decide +kernel
theorem dX7_next_125 : decode cX7_next 125 = .ok (.return_, 1) := by decide +kernel
theorem dX7_sortAt_0 : decode cX7_sortAt 0 = .ok (.aload_n 0, 1) := by decide +kernel
theorem dX7_sortAt_1 : decode cX7_sortAt 1 = .ok (.getfield 11, 3) := by decide +kernel
theorem dX7_sortAt_4 : decode cX7_sortAt 4 = .ok (.iload_n 1, 1) := by decide +kernel
theorem dX7_sortAt_5 : decode cX7_sortAt 5 = .ok (.caload, 1) := by decide +kernel
theorem dX7_sortAt_6 : decode cX7_sortAt 6 = .ok (.istore_n 2, 1) := by decide +kernel
theorem dX7_sortAt_7 : decode cX7_sortAt 7 = .ok (.iload_n 2, 1) := by decide +kernel
theorem dX7_sortAt_8 : decode cX7_sortAt 8 = .ok (.bipush 97, 2) := by decide +kernel
theorem dX7_sortAt_10 : decode cX7_sortAt 10 = .ok (.if_icmp .lt 11, 3) := by decide +kernel
theorem dX7_sortAt_13 : decode cX7_sortAt 13 = .ok (.iload_n 2, 1) := by decide +kernel
theorem dX7_sortAt_14 : decode cX7_sortAt 14 = .ok (.bipush 122, 2) := by decide +kernel
theorem dX7_sortAt_16 : decode cX7_sortAt 16 = .ok (.if_icmp .gt 5, 3) := by decide +kernel
theorem dX7_sortAt_19 : decode cX7_sortAt 19 = .ok (.iconst 1, 1) := by decide +kernel
theorem dX7_sortAt_20 : decode cX7_sortAt 20 = .ok (.ireturn, 1) := by decide +kernel
theorem dX7_sortAt_21 : decode cX7_sortAt 21 = .ok (.iload_n 2, 1) := by decide +kernel
theorem dX7_sortAt_22 : decode cX7_sortAt 22 = .ok (.bipush 48, 2) := by decide +kernel
theorem dX7_sortAt_24 : decode cX7_sortAt 24 = .ok (.if_icmp .lt 13, 3) := by decide +kernel
theorem dX7_sortAt_27 : decode cX7_sortAt 27 = .ok (.iload_n 2, 1) := by decide +kernel
theorem dX7_sortAt_28 : decode cX7_sortAt 28 = .ok (.bipush 57, 2) := by decide +kernel
theorem dX7_sortAt_30 : decode cX7_sortAt 30 = .ok (.if_icmp .gt 7, 3) := by decide +kernel
theorem dX7_sortAt_33 : decode cX7_sortAt 33 = .ok (.iconst 2, 1) := by decide +kernel
theorem dX7_sortAt_34 : decode cX7_sortAt 34 = .ok (.goto 4, 3) := by decide +kernel
theorem dX7_sortAt_37 : decode cX7_sortAt 37 = .ok (.iconst 3, 1) := by decide +kernel
theorem dX7_sortAt_38 : decode cX7_sortAt 38 = .ok (.ireturn, 1) := by decide +kernel
theorem dX7_isWord_0 : decode cX7_isWord 0 = .ok (.aload_n 0, 1) := by decide +kernel
theorem dX7_isWord_1 : decode cX7_isWord 1 = .ok (.getfield 22, 3) := by decide +kernel
theorem dX7_isWord_4 : decode cX7_isWord 4 = .ok (.aload_n 0, 1) := by decide +kernel
theorem dX7_isWord_5 : decode cX7_isWord 5 = .ok (.getfield 19, 3) := by decide +kernel
theorem dX7_isWord_8 : decode cX7_isWord 8 = .ok (.isub, 1) := by decide +kernel
theorem dX7_isWord_9 : decode cX7_isWord 9 = .ok (.aload_n 1, 1) := by decide +kernel
theorem dX7_isWord_10 : decode cX7_isWord 10 = .ok (.invokevirtual 108, 3) := by decide +kernel
theorem dX7_isWord_13 : decode cX7_isWord 13 = .ok (.if_icmp .eq 5, 3) := by decide +kernel
theorem dX7_isWord_16 : decode cX7_isWord 16 = .ok (.iconst 0, 1) := by decide +kernel
theorem dX7_isWord_17 : decode cX7_isWord 17 = .ok (.ireturn, 1) := by decide +kernel
theorem dX7_isWord_18 : decode cX7_isWord 18 = .ok (.iconst 0, 1) := by decide +kernel
theorem dX7_isWord_19 : decode cX7_isWord 19 = .ok (.istore_n 2, 1) := by decide +kernel
theorem dX7_isWord_20 : decode cX7_isWord 20 = .ok (.iload_n 2, 1) := by decide +kernel
theorem dX7_isWord_21 : decode cX7_isWord 21 = .ok (.aload_n 1, 1) := by decide +kernel
theorem dX7_isWord_22 : decode cX7_isWord 22 = .ok (.invokevirtual 108, 3) := by decide +kernel
theorem dX7_isWord_25 : decode cX7_isWord 25 = .ok (.if_icmp .ge 30, 3) := by decide +kernel
theorem dX7_isWord_28 : decode cX7_isWord 28 = .ok (.aload_n 0, 1) := by decide +kernel
theorem dX7_isWord_29 : decode cX7_isWord 29 = .ok (.getfield 11, 3) := by decide +kernel
theorem dX7_isWord_32 : decode cX7_isWord 32 = .ok (.aload_n 0, 1) := by decide +kernel
theorem dX7_isWord_33 : decode cX7_isWord 33 = .ok (.getfield 19, 3) := by decide +kernel
theorem dX7_isWord_36 : decode cX7_isWord 36 = .ok (.iload_n 2, 1) := by decide +kernel
theorem dX7_isWord_37 : decode cX7_isWord 37 = .ok (.iadd, 1) := by decide +kernel
theorem dX7_isWord_38 : decode cX7_isWord 38 = .ok (.caload, 1) := by decide +kernel
theorem dX7_isWord_39 : decode cX7_isWord 39 = .ok (.aload_n 1, 1) := by decide +kernel
theorem dX7_isWord_40 : decode cX7_isWord 40 = .ok (.iload_n 2, 1) := by decide +kernel
theorem dX7_isWord_41 : decode cX7_isWord 41 = .ok (.invokevirtual 113, 3) := by decide +kernel
theorem dX7_isWord_44 : decode cX7_isWord 44 = .ok (.if_icmp .eq 5, 3) := by decide +kernel
theorem dX7_isWord_47 : decode cX7_isWord 47 = .ok (.iconst 0, 1) := by decide +kernel
theorem dX7_isWord_48 : decode cX7_isWord 48 = .ok (.ireturn, 1) := by decide +kernel
theorem dX7_isWord_49 : decode cX7_isWord 49 = .ok (.iinc 2 1, 3) := by decide +kernel
theorem dX7_isWord_52 : decode cX7_isWord 52 = .ok (.goto (-32), 3) := by decide +kernel
theorem dX7_isWord_55 : decode cX7_isWord 55 = .ok (.iconst 1, 1) := by decide +kernel
theorem dX7_isWord_56 : decode cX7_isWord 56 = .ok (.ireturn, 1) := by decide +kernel
theorem dX7_nextEndsItem_0 : decode cX7_nextEndsItem 0 = .ok (.aload_n 0, 1) := by decide +kernel
theorem dX7_nextEndsItem_1 : decode cX7_nextEndsItem 1 = .ok (.invokevirtual 30, 3) := by decide +kernel
theorem dX7_nextEndsItem_4 : decode cX7_nextEndsItem 4 = .ok (.aload_n 0, 1) := by decide +kernel
theorem dX7_nextEndsItem_5 : decode cX7_nextEndsItem 5 = .ok (.getfield 19, 3) := by decide +kernel
theorem dX7_nextEndsItem_8 : decode cX7_nextEndsItem 8 = .ok (.aload_n 0, 1) := by decide +kernel
theorem dX7_nextEndsItem_9 : decode cX7_nextEndsItem 9 = .ok (.getfield 15, 3) := by decide +kernel
theorem dX7_nextEndsItem_12 : decode cX7_nextEndsItem 12 = .ok (.if_icmp .ge 21, 3) := by decide +kernel
theorem dX7_nextEndsItem_15 : decode cX7_nextEndsItem 15 = .ok (.aload_n 0, 1) := by decide +kernel
theorem dX7_nextEndsItem_16 : decode cX7_nextEndsItem 16 = .ok (.getfield 11, 3) := by decide +kernel
theorem dX7_nextEndsItem_19 : decode cX7_nextEndsItem 19 = .ok (.aload_n 0, 1) := by decide +kernel
theorem dX7_nextEndsItem_20 : decode cX7_nextEndsItem 20 = .ok (.getfield 19, 3) := by decide +kernel
theorem dX7_nextEndsItem_23 : decode cX7_nextEndsItem 23 = .ok (.caload, 1) := by decide +kernel
theorem dX7_nextEndsItem_24 : decode cX7_nextEndsItem 24 = .ok (.bipush 59, 2) := by decide +kernel
theorem dX7_nextEndsItem_26 : decode cX7_nextEndsItem 26 = .ok (.if_icmp .ne 7, 3) := by decide +kernel
theorem dX7_nextEndsItem_29 : decode cX7_nextEndsItem 29 = .ok (.iconst 1, 1) := by decide +kernel
theorem dX7_nextEndsItem_30 : decode cX7_nextEndsItem 30 = .ok (.goto 4, 3) := by decide +kernel
theorem dX7_nextEndsItem_33 : decode cX7_nextEndsItem 33 = .ok (.iconst 0, 1) := by decide +kernel
theorem dX7_nextEndsItem_34 : decode cX7_nextEndsItem 34 = .ok (.ireturn, 1) := by decide +kernel
theorem dX7_nextNumber_0 : decode cX7_nextNumber 0 = .ok (.aload_n 0, 1) := by decide +kernel
theorem dX7_nextNumber_1 : decode cX7_nextNumber 1 = .ok (.invokevirtual 30, 3) := by decide +kernel
theorem dX7_nextNumber_4 : decode cX7_nextNumber 4 = .ok (.aload_n 0, 1) := by decide +kernel
theorem dX7_nextNumber_5 : decode cX7_nextNumber 5 = .ok (.getfield 22, 3) := by decide +kernel
theorem dX7_nextNumber_8 : decode cX7_nextNumber 8 = .ok (.aload_n 0, 1) := by decide +kernel
theorem dX7_nextNumber_9 : decode cX7_nextNumber 9 = .ok (.getfield 19, 3) := by decide +kernel
theorem dX7_nextNumber_12 : decode cX7_nextNumber 12 = .ok (.isub, 1) := by decide +kernel
theorem dX7_nextNumber_13 : decode cX7_nextNumber 13 = .ok (.istore_n 1, 1) := by decide +kernel
theorem dX7_nextNumber_14 : decode cX7_nextNumber 14 = .ok (.iload_n 1, 1) := by decide +kernel
theorem dX7_nextNumber_15 : decode cX7_nextNumber 15 = .ok (.iconst 1, 1) := by decide +kernel
theorem dX7_nextNumber_16 : decode cX7_nextNumber 16 = .ok (.if_icmp .lt 20, 3) := by decide +kernel
theorem dX7_nextNumber_19 : decode cX7_nextNumber 19 = .ok (.iload_n 1, 1) := by decide +kernel
theorem dX7_nextNumber_20 : decode cX7_nextNumber 20 = .ok (.iconst 2, 1) := by decide +kernel
theorem dX7_nextNumber_21 : decode cX7_nextNumber 21 = .ok (.if_icmp .gt 15, 3) := by decide +kernel
theorem dX7_nextNumber_24 : decode cX7_nextNumber 24 = .ok (.aload_n 0, 1) := by decide +kernel
theorem dX7_nextNumber_25 : decode cX7_nextNumber 25 = .ok (.aload_n 0, 1) := by decide +kernel
theorem dX7_nextNumber_26 : decode cX7_nextNumber 26 = .ok (.getfield 19, 3) := by decide +kernel
theorem dX7_nextNumber_29 : decode cX7_nextNumber 29 = .ok (.invokevirtual 104, 3) := by decide +kernel
theorem dX7_nextNumber_32 : decode cX7_nextNumber 32 = .ok (.iconst 2, 1) := by decide +kernel
theorem dX7_nextNumber_33 : decode cX7_nextNumber 33 = .ok (.if_icmp .eq 5, 3) := by decide +kernel
theorem dX7_nextNumber_36 : decode cX7_nextNumber 36 = .ok (.iconst (-1), 1) := by decide +kernel
theorem dX7_nextNumber_37 : decode cX7_nextNumber 37 = .ok (.ireturn, 1) := by decide +kernel
theorem dX7_nextNumber_38 : decode cX7_nextNumber 38 = .ok (.iconst 0, 1) := by decide +kernel
theorem dX7_nextNumber_39 : decode cX7_nextNumber 39 = .ok (.istore_n 2, 1) := by decide +kernel
theorem dX7_nextNumber_40 : decode cX7_nextNumber 40 = .ok (.aload_n 0, 1) := by decide +kernel
theorem dX7_nextNumber_41 : decode cX7_nextNumber 41 = .ok (.getfield 19, 3) := by decide +kernel
theorem dX7_nextNumber_44 : decode cX7_nextNumber 44 = .ok (.istore_n 3, 1) := by decide +kernel
theorem dX7_nextNumber_45 : decode cX7_nextNumber 45 = .ok (.iload_n 3, 1) := by decide +kernel
theorem dX7_nextNumber_46 : decode cX7_nextNumber 46 = .ok (.aload_n 0, 1) := by decide +kernel
theorem dX7_nextNumber_47 : decode cX7_nextNumber 47 = .ok (.getfield 22, 3) := by decide +kernel
theorem dX7_nextNumber_50 : decode cX7_nextNumber 50 = .ok (.if_icmp .ge 24, 3) := by decide +kernel
theorem dX7_nextNumber_53 : decode cX7_nextNumber 53 = .ok (.bipush 10, 2) := by decide +kernel
theorem dX7_nextNumber_55 : decode cX7_nextNumber 55 = .ok (.iload_n 2, 1) := by decide +kernel
theorem dX7_nextNumber_56 : decode cX7_nextNumber 56 = .ok (.imul, 1) := by decide +kernel
theorem dX7_nextNumber_57 : decode cX7_nextNumber 57 = .ok (.aload_n 0, 1) := by decide +kernel
theorem dX7_nextNumber_58 : decode cX7_nextNumber 58 = .ok (.getfield 11, 3) := by decide +kernel
theorem dX7_nextNumber_61 : decode cX7_nextNumber 61 = .ok (.iload_n 3, 1) := by decide +kernel
theorem dX7_nextNumber_62 : decode cX7_nextNumber 62 = .ok (.caload, 1) := by decide +kernel
theorem dX7_nextNumber_63 : decode cX7_nextNumber 63 = .ok (.bipush 48, 2) := by decide +kernel
theorem dX7_nextNumber_65 : decode cX7_nextNumber 65 = .ok (.isub, 1) := by decide +kernel
theorem dX7_nextNumber_66 : decode cX7_nextNumber 66 = .ok (.iadd, 1) := by decide +kernel
theorem dX7_nextNumber_67 : decode cX7_nextNumber 67 = .ok (.istore_n 2, 1) := by decide +kernel
theorem dX7_nextNumber_68 : decode cX7_nextNumber 68 = .ok (.iinc 3 1, 3) := by decide +kernel
theorem dX7_nextNumber_71 : decode cX7_nextNumber 71 = .ok (.goto (-26), 3) := by decide +kernel
theorem dX7_nextNumber_74 : decode cX7_nextNumber 74 = .ok (.iload_n 2, 1) := by decide +kernel
theorem dX7_nextNumber_75 : decode cX7_nextNumber 75 = .ok (.ireturn, 1) := by decide +kernel
theorem dX8_init_0 : decode cX8_init 0 = .ok (.aload_n 0, 1) := by decide +kernel
theorem dX8_init_1 : decode cX8_init 1 = .ok (.invokespecial 1, 3) := by decide +kernel
theorem dX8_init_4 : decode cX8_init 4 = .ok (.return_, 1) := by decide +kernel
theorem dX8_takes_0 : decode cX8_takes 0 = .ok (.iload_n 1, 1) := by decide +kernel
theorem dX8_takes_1 : decode cX8_takes 1 = .ok (.ireturn, 1) := by decide +kernel
theorem dX9_init_0 : decode cX9_init 0 = .ok (.aload_n 0, 1) := by decide +kernel
theorem dX9_init_1 : decode cX9_init 1 = .ok (.invokespecial 1, 3) := by decide +kernel
theorem dX9_init_4 : decode cX9_init 4 = .ok (.aload_n 0, 1) := by decide +kernel
theorem dX9_init_5 : decode cX9_init 5 = .ok (.iconst 2, 1) := by decide +kernel
theorem dX9_init_6 : decode cX9_init 6 = .ok (.anewarray 9, 3) := by decide +kernel
theorem dX9_init_9 : decode cX9_init 9 = .ok (.putfield 11, 3) := by decide +kernel
theorem dX9_init_12 : decode cX9_init 12 = .ok (.aload_n 0, 1) := by decide +kernel
theorem dX9_init_13 : decode cX9_init 13 = .ok (.bipush 22, 2) := by decide +kernel
theorem dX9_init_15 : decode cX9_init 15 = .ok (.newarray .int, 2) := by decide +kernel
theorem dX9_init_17 : decode cX9_init 17 = .ok (.putfield 15, 3) := by decide +kernel
theorem dX9_init_20 : decode cX9_init 20 = .ok (.aload_n 0, 1) := by decide +kernel
theorem dX9_init_21 : decode cX9_init 21 = .ok (.new 19, 3) := by decide +kernel
theorem dX9_init_24 : decode cX9_init 24 = .ok (.dup, 1) := by decide +kernel
theorem dX9_init_25 : decode cX9_init 25 = .ok (.invokespecial 21, 3) := by decide +kernel
theorem dX9_init_28 : decode cX9_init 28 = .ok (.putfield 22, 3) := by decide +kernel
theorem dX9_init_31 : decode cX9_init 31 = .ok (.aload_n 0, 1) := by decide +kernel
theorem dX9_init_32 : decode cX9_init 32 = .ok (.new 26, 3) := by decide +kernel
theorem dX9_init_35 : decode cX9_init 35 = .ok (.dup, 1) := by decide +kernel
theorem dX9_init_36 : decode cX9_init 36 = .ok (.invokespecial 28, 3) := by decide +kernel
theorem dX9_init_39 : decode cX9_init 39 = .ok (.putfield 29, 3) := by decide +kernel
theorem dX9_init_42 : decode cX9_init 42 = .ok (.aload_n 0, 1) := by decide +kernel
theorem dX9_init_43 : decode cX9_init 43 = .ok (.bipush 10, 2) := by decide +kernel
theorem dX9_init_45 : decode cX9_init 45 = .ok (.newarray .long, 2) := by decide +kernel
theorem dX9_init_47 : decode cX9_init 47 = .ok (.putfield 33, 3) := by decide +kernel
theorem dX9_init_50 : decode cX9_init 50 = .ok (.aload_n 0, 1) := by decide +kernel
theorem dX9_init_51 : decode cX9_init 51 = .ok (.lconst 0, 1) := by decide +kernel
theorem dX9_init_52 : decode cX9_init 52 = .ok (.putfield 37, 3) := by decide +kernel
theorem dX9_init_55 : decode cX9_init 55 = .ok (.aload_n 0, 1) := by decide +kernel
theorem dX9_init_56 : decode cX9_init 56 = .ok (.lconst 1, 1) := by decide +kernel
theorem dX9_init_57 : decode cX9_init 57 = .ok (.putfield 41, 3) := by decide +kernel
theorem dX9_init_60 : decode cX9_init 60 = .ok (.aload_n 0, 1) := by decide +kernel
theorem dX9_init_61 : decode cX9_init 61 = .ok (.iconst 0, 1) := by decide +kernel
theorem dX9_init_62 : decode cX9_init 62 = .ok (.putfield 44, 3) := by decide +kernel
theorem dX9_init_65 : decode cX9_init 65 = .ok (.aload_n 0, 1) := by decide +kernel
theorem dX9_init_66 : decode cX9_init 66 = .ok (.iconst 0, 1) := by decide +kernel
theorem dX9_init_67 : decode cX9_init 67 = .ok (.putfield 48, 3) := by decide +kernel
theorem dX9_init_70 : decode cX9_init 70 = .ok (.aload_n 0, 1) := by decide +kernel
theorem dX9_init_71 : decode cX9_init 71 = .ok (.iconst 0, 1) := by decide +kernel
theorem dX9_init_72 : decode cX9_init 72 = .ok (.putfield 51, 3) := by decide +kernel
theorem dX9_init_75 : decode cX9_init 75 = .ok (.bipush 6, 2) := by decide +kernel
theorem dX9_init_77 : decode cX9_init 77 = .ok (.anewarray 54, 3) := by decide +kernel
theorem dX9_init_80 : decode cX9_init 80 = .ok (.dup, 1) := by decide +kernel
theorem dX9_init_81 : decode cX9_init 81 = .ok (.iconst 0, 1) := by decide +kernel
theorem dX9_init_82 : decode cX9_init 82 = .ok (.new 54, 3) := by decide +kernel
theorem dX9_init_85 : decode cX9_init 85 = .ok (.dup, 1) := by decide +kernel
theorem dX9_init_86 : decode cX9_init 86 = .ok (.invokespecial 56, 3) := by decide +kernel
theorem dX9_init_89 : decode cX9_init 89 = .ok (.aastore, 1) := by decide +kernel
theorem dX9_init_90 : decode cX9_init 90 = .ok (.dup, 1) := by decide +kernel
theorem dX9_init_91 : decode cX9_init 91 = .ok (.iconst 1, 1) := by decide +kernel
theorem dX9_init_92 : decode cX9_init 92 = .ok (.new 57, 3) := by decide +kernel
theorem dX9_init_95 : decode cX9_init 95 = .ok (.dup, 1) := by decide +kernel
theorem dX9_init_96 : decode cX9_init 96 = .ok (.invokespecial 59, 3) := by decide +kernel
theorem dX9_init_99 : decode cX9_init 99 = .ok (.aastore, 1) := by decide +kernel
theorem dX9_init_100 : decode cX9_init 100 = .ok (.dup, 1) := by decide +kernel
theorem dX9_init_101 : decode cX9_init 101 = .ok (.iconst 2, 1) := by decide +kernel
theorem dX9_init_102 : decode cX9_init 102 = .ok (.new 60, 3) := by decide +kernel
theorem dX9_init_105 : decode cX9_init 105 = .ok (.dup, 1) := by decide +kernel
theorem dX9_init_106 : decode cX9_init 106 = .ok (.invokespecial 62, 3) := by decide +kernel
theorem dX9_init_109 : decode cX9_init 109 = .ok (.aastore, 1) := by decide +kernel
theorem dX9_init_110 : decode cX9_init 110 = .ok (.dup, 1) := by decide +kernel
theorem dX9_init_111 : decode cX9_init 111 = .ok (.iconst 3, 1) := by decide +kernel
theorem dX9_init_112 : decode cX9_init 112 = .ok (.new 63, 3) := by decide +kernel
theorem dX9_init_115 : decode cX9_init 115 = .ok (.dup, 1) := by decide +kernel
theorem dX9_init_116 : decode cX9_init 116 = .ok (.invokespecial 65, 3) := by decide +kernel
theorem dX9_init_119 : decode cX9_init 119 = .ok (.aastore, 1) := by decide +kernel
theorem dX9_init_120 : decode cX9_init 120 = .ok (.dup, 1) := by decide +kernel
theorem dX9_init_121 : decode cX9_init 121 = .ok (.iconst 4, 1) := by decide +kernel
theorem dX9_init_122 : decode cX9_init 122 = .ok (.new 66, 3) := by decide +kernel
theorem dX9_init_125 : decode cX9_init 125 = .ok (.dup, 1) := by decide +kernel
theorem dX9_init_126 : decode cX9_init 126 = .ok (.invokespecial 68, 3) := by decide +kernel
theorem dX9_init_129 : decode cX9_init 129 = .ok (.aastore, 1) := by decide +kernel
theorem dX9_init_130 : decode cX9_init 130 = .ok (.dup, 1) := by decide +kernel
theorem dX9_init_131 : decode cX9_init 131 = .ok (.iconst 5, 1) := by decide +kernel
theorem dX9_init_132 : decode cX9_init 132 = .ok (.new 69, 3) := by decide +kernel
theorem dX9_init_135 : decode cX9_init 135 = .ok (.dup, 1) := by decide +kernel
theorem dX9_init_136 : decode cX9_init 136 = .ok (.invokespecial 71, 3) := by decide +kernel
theorem dX9_init_139 : decode cX9_init 139 = .ok (.aastore, 1) := by decide +kernel
theorem dX9_init_140 : decode cX9_init 140 = .ok (.astore_n 1, 1) := by decide +kernel
theorem dX9_init_141 : decode cX9_init 141 = .ok (.aload_n 0, 1) := by decide +kernel
theorem dX9_init_142 : decode cX9_init 142 = .ok (.new 9, 3) := by decide +kernel
theorem dX9_init_145 : decode cX9_init 145 = .ok (.dup, 1) := by decide +kernel
theorem dX9_init_146 : decode cX9_init 146 = .ok (.aload_n 1, 1) := by decide +kernel
theorem dX9_init_147 : decode cX9_init 147 = .ok (.invokespecial 72, 3) := by decide +kernel
theorem dX9_init_150 : decode cX9_init 150 = .ok (.putfield 75, 3) := by decide +kernel
theorem dX9_init_153 : decode cX9_init 153 = .ok (.aload_n 0, 1) := by decide +kernel
theorem dX9_init_154 : decode cX9_init 154 = .ok (.new 9, 3) := by decide +kernel
theorem dX9_init_157 : decode cX9_init 157 = .ok (.dup, 1) := by decide +kernel
theorem dX9_init_158 : decode cX9_init 158 = .ok (.aload_n 1, 1) := by decide +kernel
theorem dX9_init_159 : decode cX9_init 159 = .ok (.invokespecial 72, 3) := by decide +kernel
theorem dX9_init_162 : decode cX9_init 162 = .ok (.putfield 79, 3) := by decide +kernel
theorem dX9_init_165 : decode cX9_init 165 = .ok (.return_, 1) := by decide +kernel
theorem dX9_bath_0 : decode cX9_bath 0 = .ok (.aload_n 0, 1) := by decide +kernel
theorem dX9_bath_1 : decode cX9_bath 1 = .ok (.getfield 75, 3) := by decide +kernel
theorem dX9_bath_4 : decode cX9_bath 4 = .ok (.getfield 82, 3) := by decide +kernel
theorem dX9_bath_7 : decode cX9_bath 7 = .ok (.istore_n 1, 1) := by decide +kernel
theorem dX9_bath_8 : decode cX9_bath 8 = .ok (.aload_n 0, 1) := by decide +kernel
theorem dX9_bath_9 : decode cX9_bath 9 = .ok (.getfield 75, 3) := by decide +kernel
theorem dX9_bath_12 : decode cX9_bath 12 = .ok (.invokevirtual 85, 3) := by decide +kernel
theorem dX9_bath_15 : decode cX9_bath 15 = .ok (.iload_n 1, 1) := by decide +kernel
theorem dX9_bath_16 : decode cX9_bath 16 = .ok (.ireturn, 1) := by decide +kernel
theorem dX9_sign_0 : decode cX9_sign 0 = .ok (.iload_n 1, 1) := by decide +kernel
theorem dX9_sign_1 : decode cX9_sign 1 = .ok (.invokestatic 88, 3) := by decide +kernel
theorem dX9_sign_4 : decode cX9_sign 4 = .ok (.ifCond .eq 12, 3) := by decide +kernel
theorem dX9_sign_7 : decode cX9_sign 7 = .ok (.iload_n 2, 1) := by decide +kernel
theorem dX9_sign_8 : decode cX9_sign 8 = .ok (.iconst 0, 1) := by decide +kernel
theorem dX9_sign_9 : decode cX9_sign 9 = .ok (.iconst 2, 1) := by decide +kernel
theorem dX9_sign_10 : decode cX9_sign 10 = .ok (.invokestatic 92, 3) := by decide +kernel
theorem dX9_sign_13 : decode cX9_sign 13 = .ok (.ifCond .ne 8, 3) := by decide +kernel
theorem dX9_sign_16 : decode cX9_sign 16 = .ok (.aload_n 0, 1) := by decide +kernel
theorem dX9_sign_17 : decode cX9_sign 17 = .ok (.invokevirtual 96, 3) := by decide +kernel
theorem dX9_sign_20 : decode cX9_sign 20 = .ok (.ireturn, 1) := by decide +kernel
theorem dX9_sign_21 : decode cX9_sign 21 = .ok (.aload_n 0, 1) := by decide +kernel
theorem dX9_sign_22 : decode cX9_sign 22 = .ok (.getfield 75, 3) := by decide +kernel
theorem dX9_sign_25 : decode cX9_sign 25 = .ok (.getfield 100, 3) := by decide +kernel
theorem dX9_sign_28 : decode cX9_sign 28 = .ok (.iload_n 1, 1) := by decide +kernel
theorem dX9_sign_29 : decode cX9_sign 29 = .ok (.iaload, 1) := by decide +kernel
theorem dX9_sign_30 : decode cX9_sign 30 = .ok (.istore_n 3, 1) := by decide +kernel
theorem dX9_sign_31 : decode cX9_sign 31 = .ok (.aload_n 0, 1) := by decide +kernel
theorem dX9_sign_32 : decode cX9_sign 32 = .ok (.getfield 75, 3) := by decide +kernel
theorem dX9_sign_35 : decode cX9_sign 35 = .ok (.getfield 100, 3) := by decide +kernel
theorem dX9_sign_38 : decode cX9_sign 38 = .ok (.iload_n 1, 1) := by decide +kernel
theorem dX9_sign_39 : decode cX9_sign 39 = .ok (.iload_n 2, 1) := by decide +kernel
theorem dX9_sign_40 : decode cX9_sign 40 = .ok (.iastore, 1) := by decide +kernel
theorem dX9_sign_41 : decode cX9_sign 41 = .ok (.iload_n 3, 1) := by decide +kernel
theorem dX9_sign_42 : decode cX9_sign 42 = .ok (.ireturn, 1) := by decide +kernel
theorem dX9_shut_0 : decode cX9_shut 0 = .ok (.iload_n 1, 1) := by decide +kernel
theorem dX9_shut_1 : decode cX9_shut 1 = .ok (.invokestatic 88, 3) := by decide +kernel
theorem dX9_shut_4 : decode cX9_shut 4 = .ok (.ifCond .eq 12, 3) := by decide +kernel
theorem dX9_shut_7 : decode cX9_shut 7 = .ok (.iload_n 2, 1) := by decide +kernel
theorem dX9_shut_8 : decode cX9_shut 8 = .ok (.iconst 0, 1) := by decide +kernel
theorem dX9_shut_9 : decode cX9_shut 9 = .ok (.iconst 1, 1) := by decide +kernel
theorem dX9_shut_10 : decode cX9_shut 10 = .ok (.invokestatic 92, 3) := by decide +kernel
theorem dX9_shut_13 : decode cX9_shut 13 = .ok (.ifCond .ne 8, 3) := by decide +kernel
theorem dX9_shut_16 : decode cX9_shut 16 = .ok (.aload_n 0, 1) := by decide +kernel
theorem dX9_shut_17 : decode cX9_shut 17 = .ok (.invokevirtual 96, 3) := by decide +kernel
theorem dX9_shut_20 : decode cX9_shut 20 = .ok (.ireturn, 1) := by decide +kernel
theorem dX9_shut_21 : decode cX9_shut 21 = .ok (.iload_n 2, 1) := by decide +kernel
theorem dX9_shut_22 : decode cX9_shut 22 = .ok (.iconst 1, 1) := by decide +kernel
theorem dX9_shut_23 : decode cX9_shut 23 = .ok (.if_icmp .ne 26, 3) := by decide +kernel
theorem dX9_shut_26 : decode cX9_shut 26 = .ok (.aload_n 0, 1) := by decide +kernel
theorem dX9_shut_27 : decode cX9_shut 27 = .ok (.getfield 75, 3) := by decide +kernel
theorem dX9_shut_30 : decode cX9_shut 30 = .ok (.aload_n 0, 1) := by decide +kernel
theorem dX9_shut_31 : decode cX9_shut 31 = .ok (.getfield 75, 3) := by decide +kernel
theorem dX9_shut_34 : decode cX9_shut 34 = .ok (.getfield 103, 3) := by decide +kernel
theorem dX9_shut_37 : decode cX9_shut 37 = .ok (.iload_n 1, 1) := by decide +kernel
theorem dX9_shut_38 : decode cX9_shut 38 = .ok (.invokevirtual 106, 3) := by decide +kernel
theorem dX9_shut_41 : decode cX9_shut 41 = .ok (.ifCond .eq 8, 3) := by decide +kernel
theorem dX9_shut_44 : decode cX9_shut 44 = .ok (.aload_n 0, 1) := by decide +kernel
theorem dX9_shut_45 : decode cX9_shut 45 = .ok (.invokevirtual 110, 3) := by decide +kernel
theorem dX9_shut_48 : decode cX9_shut 48 = .ok (.ireturn, 1) := by decide +kernel
theorem dX9_shut_49 : decode cX9_shut 49 = .ok (.aload_n 0, 1) := by decide +kernel
theorem dX9_shut_50 : decode cX9_shut 50 = .ok (.getfield 75, 3) := by decide +kernel
theorem dX9_shut_53 : decode cX9_shut 53 = .ok (.getfield 113, 3) := by decide +kernel
theorem dX9_shut_56 : decode cX9_shut 56 = .ok (.iload_n 1, 1) := by decide +kernel
theorem dX9_shut_57 : decode cX9_shut 57 = .ok (.iaload, 1) := by decide +kernel
theorem dX9_shut_58 : decode cX9_shut 58 = .ok (.istore_n 3, 1) := by decide +kernel
theorem dX9_shut_59 : decode cX9_shut 59 = .ok (.aload_n 0, 1) := by decide +kernel
theorem dX9_shut_60 : decode cX9_shut 60 = .ok (.getfield 75, 3) := by decide +kernel
theorem dX9_shut_63 : decode cX9_shut 63 = .ok (.getfield 113, 3) := by decide +kernel
theorem dX9_shut_66 : decode cX9_shut 66 = .ok (.iload_n 1, 1) := by decide +kernel
theorem dX9_shut_67 : decode cX9_shut 67 = .ok (.iload_n 2, 1) := by decide +kernel
theorem dX9_shut_68 : decode cX9_shut 68 = .ok (.iastore, 1) := by decide +kernel
theorem dX9_shut_69 : decode cX9_shut 69 = .ok (.aload_n 0, 1) := by decide +kernel
theorem dX9_shut_70 : decode cX9_shut 70 = .ok (.getfield 75, 3) := by decide +kernel
theorem dX9_shut_73 : decode cX9_shut 73 = .ok (.iconst 0, 1) := by decide +kernel
theorem dX9_shut_74 : decode cX9_shut 74 = .ok (.putfield 116, 3) := by decide +kernel
theorem dX9_shut_77 : decode cX9_shut 77 = .ok (.iload_n 3, 1) := by decide +kernel
theorem dX9_shut_78 : decode cX9_shut 78 = .ok (.ireturn, 1) := by decide +kernel
theorem dX9_one_0 : decode cX9_one 0 = .ok (.iload_n 1, 1) := by decide +kernel
theorem dX9_one_1 : decode cX9_one 1 = .ok (.invokestatic 119, 3) := by decide +kernel
theorem dX9_one_4 : decode cX9_one 4 = .ok (.ifCond .eq 17, 3) := by decide +kernel
theorem dX9_one_7 : decode cX9_one 7 = .ok (.iload_n 2, 1) := by decide +kernel
theorem dX9_one_8 : decode cX9_one 8 = .ok (.invokestatic 122, 3) := by decide +kernel
theorem dX9_one_11 : decode cX9_one 11 = .ok (.ifCond .eq 10, 3) := by decide +kernel
theorem dX9_one_14 : decode cX9_one 14 = .ok (.iload_n 3, 1) := by decide +kernel
theorem dX9_one_15 : decode cX9_one 15 = .ok (.invokestatic 88, 3) := by decide +kernel
theorem dX9_one_18 : decode cX9_one 18 = .ok (.ifCond .ne 8, 3) := by decide +kernel
theorem dX9_one_21 : decode cX9_one 21 = .ok (.aload_n 0, 1) := by decide +kernel
theorem dX9_one_22 : decode cX9_one 22 = .ok (.invokevirtual 96, 3) := by decide +kernel
theorem dX9_one_25 : decode cX9_one 25 = .ok (.ireturn, 1) := by decide +kernel
theorem dX9_one_26 : decode cX9_one 26 = .ok (.aload_n 0, 1) := by decide +kernel
theorem dX9_one_27 : decode cX9_one 27 = .ok (.getfield 75, 3) := by decide +kernel
theorem dX9_one_30 : decode cX9_one 30 = .ok (.iload_n 3, 1) := by decide +kernel
theorem dX9_one_31 : decode cX9_one 31 = .ok (.invokevirtual 125, 3) := by decide +kernel
theorem dX9_one_34 : decode cX9_one 34 = .ok (.ifCond .ne 8, 3) := by decide +kernel
theorem dX9_one_37 : decode cX9_one 37 = .ok (.aload_n 0, 1) := by decide +kernel
theorem dX9_one_38 : decode cX9_one 38 = .ok (.invokevirtual 110, 3) := by decide +kernel
theorem dX9_one_41 : decode cX9_one 41 = .ok (.ireturn, 1) := by decide +kernel
theorem dX9_one_42 : decode cX9_one 42 = .ok (.aload_n 0, 1) := by decide +kernel
theorem dX9_one_43 : decode cX9_one 43 = .ok (.getfield 75, 3) := by decide +kernel
theorem dX9_one_46 : decode cX9_one 46 = .ok (.getfield 82, 3) := by decide +kernel
theorem dX9_one_49 : decode cX9_one 49 = .ok (.bipush 7, 2) := by decide +kernel
theorem dX9_one_51 : decode cX9_one 51 = .ok (.if_icmp .lt 8, 3) := by decide +kernel
theorem dX9_one_54 : decode cX9_one 54 = .ok (.aload_n 0, 1) := by decide +kernel
theorem dX9_one_55 : decode cX9_one 55 = .ok (.invokevirtual 128, 3) := by decide +kernel
theorem dX9_one_58 : decode cX9_one 58 = .ok (.ireturn, 1) := by decide +kernel
theorem dX9_one_59 : decode cX9_one 59 = .ok (.aload_n 0, 1) := by decide +kernel
theorem dX9_one_60 : decode cX9_one 60 = .ok (.getfield 75, 3) := by decide +kernel
theorem dX9_one_63 : decode cX9_one 63 = .ok (.iload_n 1, 1) := by decide +kernel
theorem dX9_one_64 : decode cX9_one 64 = .ok (.iload_n 2, 1) := by decide +kernel
theorem dX9_one_65 : decode cX9_one 65 = .ok (.iload_n 3, 1) := by decide +kernel
theorem dX9_one_66 : decode cX9_one 66 = .ok (.invokevirtual 131, 3) := by decide +kernel
theorem dX9_one_69 : decode cX9_one 69 = .ok (.ireturn, 1) := by decide +kernel
theorem dX9_type_0 : decode cX9_type 0 = .ok (.iload_n 1, 1) := by decide +kernel
theorem dX9_type_1 : decode cX9_type 1 = .ok (.iconst 0, 1) := by decide +kernel
theorem dX9_type_2 : decode cX9_type 2 = .ok (.bipush 127, 2) := by decide +kernel
theorem dX9_type_4 : decode cX9_type 4 = .ok (.invokestatic 92, 3) := by decide +kernel
theorem dX9_type_7 : decode cX9_type 7 = .ok (.ifCond .ne 8, 3) := by decide +kernel
theorem dX9_type_10 : decode cX9_type 10 = .ok (.aload_n 0, 1) := by decide +kernel
theorem dX9_type_11 : decode cX9_type 11 = .ok (.invokevirtual 96, 3) := by decide +kernel
theorem dX9_type_14 : decode cX9_type 14 = .ok (.ireturn, 1) := by decide +kernel
theorem dX9_type_15 : decode cX9_type 15 = .ok (.aload_n 0, 1) := by decide +kernel
theorem dX9_type_16 : decode cX9_type 16 = .ok (.getfield 29, 3) := by decide +kernel
theorem dX9_type_19 : decode cX9_type 19 = .ok (.getfield 135, 3) := by decide +kernel
theorem dX9_type_22 : decode cX9_type 22 = .ok (.sipush 150, 3) := by decide +kernel
theorem dX9_type_25 : decode cX9_type 25 = .ok (.if_icmp .lt 8, 3) := by decide +kernel
theorem dX9_type_28 : decode cX9_type 28 = .ok (.aload_n 0, 1) := by decide +kernel
theorem dX9_type_29 : decode cX9_type 29 = .ok (.invokevirtual 128, 3) := by decide +kernel
theorem dX9_type_32 : decode cX9_type 32 = .ok (.ireturn, 1) := by decide +kernel
theorem dX9_type_33 : decode cX9_type 33 = .ok (.aload_n 0, 1) := by decide +kernel
theorem dX9_type_34 : decode cX9_type 34 = .ok (.getfield 29, 3) := by decide +kernel
theorem dX9_type_37 : decode cX9_type 37 = .ok (.iload_n 1, 1) := by decide +kernel
theorem dX9_type_38 : decode cX9_type 38 = .ok (.invokevirtual 138, 3) := by decide +kernel
theorem dX9_type_41 : decode cX9_type 41 = .ok (.ireturn, 1) := by decide +kernel
theorem dX9_clear_0 : decode cX9_clear 0 = .ok (.aload_n 0, 1) := by decide +kernel
theorem dX9_clear_1 : decode cX9_clear 1 = .ok (.getfield 29, 3) := by decide +kernel
theorem dX9_clear_4 : decode cX9_clear 4 = .ok (.getfield 135, 3) := by decide +kernel
theorem dX9_clear_7 : decode cX9_clear 7 = .ok (.istore_n 1, 1) := by decide +kernel
theorem dX9_clear_8 : decode cX9_clear 8 = .ok (.aload_n 0, 1) := by decide +kernel
theorem dX9_clear_9 : decode cX9_clear 9 = .ok (.getfield 29, 3) := by decide +kernel
theorem dX9_clear_12 : decode cX9_clear 12 = .ok (.iconst 0, 1) := by decide +kernel
theorem dX9_clear_13 : decode cX9_clear 13 = .ok (.putfield 135, 3) := by decide +kernel
theorem dX9_clear_16 : decode cX9_clear 16 = .ok (.iload_n 1, 1) := by decide +kernel
theorem dX9_clear_17 : decode cX9_clear 17 = .ok (.ireturn, 1) := by decide +kernel
theorem dX9_read_0 : decode cX9_read 0 = .ok (.aload_n 0, 1) := by decide +kernel
theorem dX9_read_1 : decode cX9_read 1 = .ok (.getfield 29, 3) := by decide +kernel
theorem dX9_read_4 : decode cX9_read 4 = .ok (.aload_n 0, 1) := by decide +kernel
theorem dX9_read_5 : decode cX9_read 5 = .ok (.getfield 79, 3) := by decide +kernel
theorem dX9_read_8 : decode cX9_read 8 = .ok (.invokevirtual 142, 3) := by decide +kernel
theorem dX9_read_11 : decode cX9_read 11 = .ok (.istore_n 1, 1) := by decide +kernel
theorem dX9_read_12 : decode cX9_read 12 = .ok (.iload_n 1, 1) := by decide +kernel
theorem dX9_read_13 : decode cX9_read 13 = .ok (.iconst (-1), 1) := by decide +kernel
theorem dX9_read_14 : decode cX9_read 14 = .ok (.if_icmp .ne 14, 3) := by decide +kernel
theorem dX9_read_17 : decode cX9_read 17 = .ok (.bipush (-10), 2) := by decide +kernel
theorem dX9_read_19 : decode cX9_read 19 = .ok (.aload_n 0, 1) := by decide +kernel
theorem dX9_read_20 : decode cX9_read 20 = .ok (.getfield 29, 3) := by decide +kernel
theorem dX9_read_23 : decode cX9_read 23 = .ok (.getfield 146, 3) := by decide +kernel
theorem dX9_read_26 : decode cX9_read 26 = .ok (.isub, 1) := by decide +kernel
theorem dX9_read_27 : decode cX9_read 27 = .ok (.ireturn, 1) := by decide +kernel
theorem dX9_read_28 : decode cX9_read 28 = .ok (.aload_n 0, 1) := by decide +kernel
theorem dX9_read_29 : decode cX9_read 29 = .ok (.getfield 75, 3) := by decide +kernel
theorem dX9_read_32 : decode cX9_read 32 = .ok (.aload_n 0, 1) := by decide +kernel
theorem dX9_read_33 : decode cX9_read 33 = .ok (.getfield 79, 3) := by decide +kernel
theorem dX9_read_36 : decode cX9_read 36 = .ok (.invokevirtual 149, 3) := by decide +kernel
theorem dX9_read_39 : decode cX9_read 39 = .ok (.iload_n 1, 1) := by decide +kernel
theorem dX9_read_40 : decode cX9_read 40 = .ok (.ireturn, 1) := by decide +kernel
theorem dX9_goes_0 : decode cX9_goes 0 = .ok (.aload_n 0, 1) := by decide +kernel
theorem dX9_goes_1 : decode cX9_goes 1 = .ok (.iload_n 1, 1) := by decide +kernel
theorem dX9_goes_2 : decode cX9_goes 2 = .ok (.invokevirtual 153, 3) := by decide +kernel
theorem dX9_goes_5 : decode cX9_goes 5 = .ok (.ifCond .eq 10, 3) := by decide +kernel
theorem dX9_goes_8 : decode cX9_goes 8 = .ok (.iload_n 2, 1) := by decide +kernel
theorem dX9_goes_9 : decode cX9_goes 9 = .ok (.invokestatic 88, 3) := by decide +kernel
theorem dX9_goes_12 : decode cX9_goes 12 = .ok (.ifCond .ne 8, 3) := by decide +kernel
theorem dX9_goes_15 : decode cX9_goes 15 = .ok (.aload_n 0, 1) := by decide +kernel
theorem dX9_goes_16 : decode cX9_goes 16 = .ok (.invokevirtual 96, 3) := by decide +kernel
theorem dX9_goes_19 : decode cX9_goes 19 = .ok (.ireturn, 1) := by decide +kernel
theorem dX9_goes_20 : decode cX9_goes 20 = .ok (.aload_n 0, 1) := by decide +kernel
theorem dX9_goes_21 : decode cX9_goes 21 = .ok (.getfield 75, 3) := by decide +kernel
theorem dX9_goes_24 : decode cX9_goes 24 = .ok (.iload_n 2, 1) := by decide +kernel
theorem dX9_goes_25 : decode cX9_goes 25 = .ok (.invokevirtual 125, 3) := by decide +kernel
theorem dX9_goes_28 : decode cX9_goes 28 = .ok (.ifCond .ne 8, 3) := by decide +kernel
theorem dX9_goes_31 : decode cX9_goes 31 = .ok (.aload_n 0, 1) := by decide +kernel
theorem dX9_goes_32 : decode cX9_goes 32 = .ok (.invokevirtual 110, 3) := by decide +kernel
theorem dX9_goes_35 : decode cX9_goes 35 = .ok (.ireturn, 1) := by decide +kernel
theorem dX9_goes_36 : decode cX9_goes 36 = .ok (.aload_n 0, 1) := by decide +kernel
theorem dX9_goes_37 : decode cX9_goes 37 = .ok (.getfield 75, 3) := by decide +kernel
theorem dX9_goes_40 : decode cX9_goes 40 = .ok (.iload_n 1, 1) := by decide +kernel
theorem dX9_goes_41 : decode cX9_goes 41 = .ok (.invokevirtual 156, 3) := by decide +kernel
theorem dX9_goes_44 : decode cX9_goes 44 = .ok (.istore_n 3, 1) := by decide +kernel
theorem dX9_goes_45 : decode cX9_goes 45 = .ok (.aload_n 0, 1) := by decide +kernel
theorem dX9_goes_46 : decode cX9_goes 46 = .ok (.getfield 75, 3) := by decide +kernel
theorem dX9_goes_49 : decode cX9_goes 49 = .ok (.invokevirtual 159, 3) := by decide +kernel
theorem dX9_goes_52 : decode cX9_goes 52 = .ok (.aload_n 0, 1) := by decide +kernel
theorem dX9_goes_53 : decode cX9_goes 53 = .ok (.getfield 75, 3) := by decide +kernel
theorem dX9_goes_56 : decode cX9_goes 56 = .ok (.getfield 103, 3) := by decide +kernel
theorem dX9_goes_59 : decode cX9_goes 59 = .ok (.iconst 1, 1) := by decide +kernel
theorem dX9_goes_60 : decode cX9_goes 60 = .ok (.iload_n 1, 1) := by decide +kernel
theorem dX9_goes_61 : decode cX9_goes 61 = .ok (.iadd, 1) := by decide +kernel
theorem dX9_goes_62 : decode cX9_goes 62 = .ok (.iload_n 2, 1) := by decide +kernel
theorem dX9_goes_63 : decode cX9_goes 63 = .ok (.iastore, 1) := by decide +kernel
theorem dX9_goes_64 : decode cX9_goes 64 = .ok (.iload_n 3, 1) := by decide +kernel
theorem dX9_goes_65 : decode cX9_goes 65 = .ok (.ireturn, 1) := by decide +kernel
theorem dX9_minute_0 : decode cX9_minute 0 = .ok (.iload_n 1, 1) := by decide +kernel
theorem dX9_minute_1 : decode cX9_minute 1 = .ok (.iconst 1, 1) := by decide +kernel
theorem dX9_minute_2 : decode cX9_minute 2 = .ok (.bipush 60, 2) := by decide +kernel
theorem dX9_minute_4 : decode cX9_minute 4 = .ok (.invokestatic 92, 3) := by decide +kernel
theorem dX9_minute_7 : decode cX9_minute 7 = .ok (.ifCond .ne 8, 3) := by decide +kernel
theorem dX9_minute_10 : decode cX9_minute 10 = .ok (.aload_n 0, 1) := by decide +kernel
theorem dX9_minute_11 : decode cX9_minute 11 = .ok (.invokevirtual 96, 3) := by decide +kernel
theorem dX9_minute_14 : decode cX9_minute 14 = .ok (.ireturn, 1) := by decide +kernel
theorem dX9_minute_15 : decode cX9_minute 15 = .ok (.aload_n 0, 1) := by decide +kernel
theorem dX9_minute_16 : decode cX9_minute 16 = .ok (.getfield 75, 3) := by decide +kernel
theorem dX9_minute_19 : decode cX9_minute 19 = .ok (.invokevirtual 159, 3) := by decide +kernel
theorem dX9_minute_22 : decode cX9_minute 22 = .ok (.iconst 0, 1) := by decide +kernel
theorem dX9_minute_23 : decode cX9_minute 23 = .ok (.istore_n 2, 1) := by decide +kernel
theorem dX9_minute_24 : decode cX9_minute 24 = .ok (.iconst 0, 1) := by decide +kernel
theorem dX9_minute_25 : decode cX9_minute 25 = .ok (.istore_n 3, 1) := by decide +kernel
theorem dX9_minute_26 : decode cX9_minute 26 = .ok (.iload_n 3, 1) := by decide +kernel
theorem dX9_minute_27 : decode cX9_minute 27 = .ok (.iload_n 1, 1) := by decide +kernel
theorem dX9_minute_28 : decode cX9_minute 28 = .ok (.if_icmp .ge 26, 3) := by decide +kernel
theorem dX9_minute_31 : decode cX9_minute 31 = .ok (.iload_n 2, 1) := by decide +kernel
theorem dX9_minute_32 : decode cX9_minute 32 = .ok (.aload_n 0, 1) := by decide +kernel
theorem dX9_minute_33 : decode cX9_minute 33 = .ok (.getfield 75, 3) := by decide +kernel
theorem dX9_minute_36 : decode cX9_minute 36 = .ok (.aload_n 0, 1) := by decide +kernel
theorem dX9_minute_37 : decode cX9_minute 37 = .ok (.getfield 75, 3) := by decide +kernel
theorem dX9_minute_40 : decode cX9_minute 40 = .ok (.getfield 103, 3) := by decide +kernel
theorem dX9_minute_43 : decode cX9_minute 43 = .ok (.invokevirtual 162, 3) := by decide +kernel
theorem dX9_minute_46 : decode cX9_minute 46 = .ok (.iadd, 1) := by decide +kernel
theorem dX9_minute_47 : decode cX9_minute 47 = .ok (.istore_n 2, 1) := by decide +kernel
theorem dX9_minute_48 : decode cX9_minute 48 = .ok (.iinc 3 1, 3) := by decide +kernel
theorem dX9_minute_51 : decode cX9_minute 51 = .ok (.goto (-25), 3) := by decide +kernel
theorem dX9_minute_54 : decode cX9_minute 54 = .ok (.iload_n 2, 1) := by decide +kernel
theorem dX9_minute_55 : decode cX9_minute 55 = .ok (.ireturn, 1) := by decide +kernel
theorem dX9_undo_0 : decode cX9_undo 0 = .ok (.aload_n 0, 1) := by decide +kernel
theorem dX9_undo_1 : decode cX9_undo 1 = .ok (.getfield 75, 3) := by decide +kernel
theorem dX9_undo_4 : decode cX9_undo 4 = .ok (.getfield 116, 3) := by decide +kernel
theorem dX9_undo_7 : decode cX9_undo 7 = .ok (.ifCond .gt 8, 3) := by decide +kernel
theorem dX9_undo_10 : decode cX9_undo 10 = .ok (.aload_n 0, 1) := by decide +kernel
theorem dX9_undo_11 : decode cX9_undo 11 = .ok (.invokevirtual 110, 3) := by decide +kernel
theorem dX9_undo_14 : decode cX9_undo 14 = .ok (.ireturn, 1) := by decide +kernel
theorem dX9_undo_15 : decode cX9_undo 15 = .ok (.aload_n 0, 1) := by decide +kernel
theorem dX9_undo_16 : decode cX9_undo 16 = .ok (.getfield 75, 3) := by decide +kernel
theorem dX9_undo_19 : decode cX9_undo 19 = .ok (.invokevirtual 166, 3) := by decide +kernel
theorem dX9_undo_22 : decode cX9_undo 22 = .ok (.aload_n 0, 1) := by decide +kernel
theorem dX9_undo_23 : decode cX9_undo 23 = .ok (.getfield 75, 3) := by decide +kernel
theorem dX9_undo_26 : decode cX9_undo 26 = .ok (.getfield 103, 3) := by decide +kernel
theorem dX9_undo_29 : decode cX9_undo 29 = .ok (.iconst 0, 1) := by decide +kernel
theorem dX9_undo_30 : decode cX9_undo 30 = .ok (.iaload, 1) := by decide +kernel
theorem dX9_undo_31 : decode cX9_undo 31 = .ok (.ireturn, 1) := by decide +kernel
theorem dX9_of_0 : decode cX9_of 0 = .ok (.aload_n 0, 1) := by decide +kernel
theorem dX9_of_1 : decode cX9_of 1 = .ok (.iload_n 1, 1) := by decide +kernel
theorem dX9_of_2 : decode cX9_of 2 = .ok (.invokevirtual 153, 3) := by decide +kernel
theorem dX9_of_5 : decode cX9_of 5 = .ok (.ifCond .ne 8, 3) := by decide +kernel
theorem dX9_of_8 : decode cX9_of 8 = .ok (.aload_n 0, 1) := by decide +kernel
theorem dX9_of_9 : decode cX9_of 9 = .ok (.invokevirtual 96, 3) := by decide +kernel
theorem dX9_of_12 : decode cX9_of 12 = .ok (.ireturn, 1) := by decide +kernel
theorem dX9_of_13 : decode cX9_of 13 = .ok (.iload_n 2, 1) := by decide +kernel
theorem dX9_of_14 : decode cX9_of 14 = .ok (.tableswitch 102 0 5 #[38, 48, 58, 67, 80, 93], 38) := by decide +kernel
theorem dX9_of_52 : decode cX9_of 52 = .ok (.aload_n 0, 1) := by decide +kernel
theorem dX9_of_53 : decode cX9_of 53 = .ok (.getfield 75, 3) := by decide +kernel
theorem dX9_of_56 : decode cX9_of 56 = .ok (.getfield 169, 3) := by decide +kernel
theorem dX9_of_59 : decode cX9_of 59 = .ok (.iload_n 1, 1) := by decide +kernel
theorem dX9_of_60 : decode cX9_of 60 = .ok (.iaload, 1) := by decide +kernel
theorem dX9_of_61 : decode cX9_of 61 = .ok (.ireturn, 1) := by decide +kernel
theorem dX9_of_62 : decode cX9_of 62 = .ok (.aload_n 0, 1) := by decide +kernel
theorem dX9_of_63 : decode cX9_of 63 = .ok (.getfield 75, 3) := by decide +kernel
theorem dX9_of_66 : decode cX9_of 66 = .ok (.getfield 172, 3) := by decide +kernel
theorem dX9_of_69 : decode cX9_of 69 = .ok (.iload_n 1, 1) := by decide +kernel
theorem dX9_of_70 : decode cX9_of 70 = .ok (.iaload, 1) := by decide +kernel
theorem dX9_of_71 : decode cX9_of 71 = .ok (.ireturn, 1) := by decide +kernel
theorem dX9_of_72 : decode cX9_of 72 = .ok (.aload_n 0, 1) := by decide +kernel
theorem dX9_of_73 : decode cX9_of 73 = .ok (.getfield 75, 3) := by decide +kernel
theorem dX9_of_76 : decode cX9_of 76 = .ok (.iload_n 1, 1) := by decide +kernel
theorem dX9_of_77 : decode cX9_of 77 = .ok (.invokevirtual 156, 3) := by decide +kernel
theorem dX9_of_80 : decode cX9_of 80 = .ok (.ireturn, 1) := by decide +kernel
theorem dX9_of_81 : decode cX9_of 81 = .ok (.aload_n 0, 1) := by decide +kernel
theorem dX9_of_82 : decode cX9_of 82 = .ok (.getfield 75, 3) := by decide +kernel
theorem dX9_of_85 : decode cX9_of 85 = .ok (.getfield 103, 3) := by decide +kernel
theorem dX9_of_88 : decode cX9_of 88 = .ok (.bipush 8, 2) := by decide +kernel
theorem dX9_of_90 : decode cX9_of 90 = .ok (.iload_n 1, 1) := by decide +kernel
theorem dX9_of_91 : decode cX9_of 91 = .ok (.iadd, 1) := by decide +kernel
theorem dX9_of_92 : decode cX9_of 92 = .ok (.iaload, 1) := by decide +kernel
theorem dX9_of_93 : decode cX9_of 93 = .ok (.ireturn, 1) := by decide +kernel
theorem dX9_of_94 : decode cX9_of 94 = .ok (.aload_n 0, 1) := by decide +kernel
theorem dX9_of_95 : decode cX9_of 95 = .ok (.getfield 75, 3) := by decide +kernel
theorem dX9_of_98 : decode cX9_of 98 = .ok (.getfield 103, 3) := by decide +kernel
theorem dX9_of_101 : decode cX9_of 101 = .ok (.bipush 15, 2) := by decide +kernel
theorem dX9_of_103 : decode cX9_of 103 = .ok (.iload_n 1, 1) := by decide +kernel
theorem dX9_of_104 : decode cX9_of 104 = .ok (.iadd, 1) := by decide +kernel
theorem dX9_of_105 : decode cX9_of 105 = .ok (.iaload, 1) := by decide +kernel
theorem dX9_of_106 : decode cX9_of 106 = .ok (.ireturn, 1) := by decide +kernel
theorem dX9_of_107 : decode cX9_of 107 = .ok (.aload_n 0, 1) := by decide +kernel
theorem dX9_of_108 : decode cX9_of 108 = .ok (.getfield 75, 3) := by decide +kernel
theorem dX9_of_111 : decode cX9_of 111 = .ok (.iload_n 1, 1) := by decide +kernel
theorem dX9_of_112 : decode cX9_of 112 = .ok (.invokevirtual 175, 3) := by decide +kernel
theorem dX9_of_115 : decode cX9_of 115 = .ok (.ireturn, 1) := by decide +kernel
theorem dX9_of_116 : decode cX9_of 116 = .ok (.aload_n 0, 1) := by decide +kernel
theorem dX9_of_117 : decode cX9_of 117 = .ok (.invokevirtual 96, 3) := by decide +kernel
theorem dX9_of_120 : decode cX9_of 120 = .ok (.ireturn, 1) := by decide +kernel
theorem dX9_lane_0 : decode cX9_lane 0 = .ok (.iload_n 1, 1) := by decide +kernel
theorem dX9_lane_1 : decode cX9_lane 1 = .ok (.invokestatic 88, 3) := by decide +kernel
theorem dX9_lane_4 : decode cX9_lane 4 = .ok (.ifCond .ne 8, 3) := by decide +kernel
theorem dX9_lane_7 : decode cX9_lane 7 = .ok (.aload_n 0, 1) := by decide +kernel
theorem dX9_lane_8 : decode cX9_lane 8 = .ok (.invokevirtual 96, 3) := by decide +kernel
theorem dX9_lane_11 : decode cX9_lane 11 = .ok (.ireturn, 1) := by decide +kernel
theorem dX9_lane_12 : decode cX9_lane 12 = .ok (.iload_n 2, 1) := by decide +kernel
theorem dX9_lane_13 : decode cX9_lane 13 = .ok (.tableswitch 63 0 2 #[27, 37, 47], 27) := by decide +kernel
theorem dX9_lane_40 : decode cX9_lane 40 = .ok (.aload_n 0, 1) := by decide +kernel
theorem dX9_lane_41 : decode cX9_lane 41 = .ok (.getfield 75, 3) := by decide +kernel
theorem dX9_lane_44 : decode cX9_lane 44 = .ok (.getfield 100, 3) := by decide +kernel
theorem dX9_lane_47 : decode cX9_lane 47 = .ok (.iload_n 1, 1) := by decide +kernel
theorem dX9_lane_48 : decode cX9_lane 48 = .ok (.iaload, 1) := by decide +kernel
theorem dX9_lane_49 : decode cX9_lane 49 = .ok (.ireturn, 1) := by decide +kernel
theorem dX9_lane_50 : decode cX9_lane 50 = .ok (.aload_n 0, 1) := by decide +kernel
theorem dX9_lane_51 : decode cX9_lane 51 = .ok (.getfield 75, 3) := by decide +kernel
theorem dX9_lane_54 : decode cX9_lane 54 = .ok (.getfield 113, 3) := by decide +kernel
theorem dX9_lane_57 : decode cX9_lane 57 = .ok (.iload_n 1, 1) := by decide +kernel
theorem dX9_lane_58 : decode cX9_lane 58 = .ok (.iaload, 1) := by decide +kernel
theorem dX9_lane_59 : decode cX9_lane 59 = .ok (.ireturn, 1) := by decide +kernel
theorem dX9_lane_60 : decode cX9_lane 60 = .ok (.aload_n 0, 1) := by decide +kernel
theorem dX9_lane_61 : decode cX9_lane 61 = .ok (.getfield 75, 3) := by decide +kernel
theorem dX9_lane_64 : decode cX9_lane 64 = .ok (.aload_n 0, 1) := by decide +kernel
theorem dX9_lane_65 : decode cX9_lane 65 = .ok (.getfield 75, 3) := by decide +kernel
theorem dX9_lane_68 : decode cX9_lane 68 = .ok (.getfield 103, 3) := by decide +kernel
theorem dX9_lane_71 : decode cX9_lane 71 = .ok (.iload_n 1, 1) := by decide +kernel
theorem dX9_lane_72 : decode cX9_lane 72 = .ok (.invokevirtual 106, 3) := by decide +kernel
theorem dX9_lane_75 : decode cX9_lane 75 = .ok (.ireturn, 1) := by decide +kernel
theorem dX9_lane_76 : decode cX9_lane 76 = .ok (.aload_n 0, 1) := by decide +kernel
theorem dX9_lane_77 : decode cX9_lane 77 = .ok (.invokevirtual 96, 3) := by decide +kernel
theorem dX9_lane_80 : decode cX9_lane 80 = .ok (.ireturn, 1) := by decide +kernel
theorem dX9_seconds_0 : decode cX9_seconds 0 = .ok (.aload_n 0, 1) := by decide +kernel
theorem dX9_seconds_1 : decode cX9_seconds 1 = .ok (.iload_n 1, 1) := by decide +kernel
theorem dX9_seconds_2 : decode cX9_seconds 2 = .ok (.invokevirtual 153, 3) := by decide +kernel
theorem dX9_seconds_5 : decode cX9_seconds 5 = .ok (.ifCond .eq 10, 3) := by decide +kernel
theorem dX9_seconds_8 : decode cX9_seconds 8 = .ok (.iload_n 2, 1) := by decide +kernel
theorem dX9_seconds_9 : decode cX9_seconds 9 = .ok (.invokestatic 88, 3) := by decide +kernel
theorem dX9_seconds_12 : decode cX9_seconds 12 = .ok (.ifCond .ne 8, 3) := by decide +kernel
theorem dX9_seconds_15 : decode cX9_seconds 15 = .ok (.aload_n 0, 1) := by decide +kernel
theorem dX9_seconds_16 : decode cX9_seconds 16 = .ok (.invokevirtual 96, 3) := by decide +kernel
theorem dX9_seconds_19 : decode cX9_seconds 19 = .ok (.ireturn, 1) := by decide +kernel
theorem dX9_seconds_20 : decode cX9_seconds 20 = .ok (.aload_n 0, 1) := by decide +kernel
theorem dX9_seconds_21 : decode cX9_seconds 21 = .ok (.getfield 75, 3) := by decide +kernel
theorem dX9_seconds_24 : decode cX9_seconds 24 = .ok (.aload_n 0, 1) := by decide +kernel
theorem dX9_seconds_25 : decode cX9_seconds 25 = .ok (.getfield 75, 3) := by decide +kernel
theorem dX9_seconds_28 : decode cX9_seconds 28 = .ok (.getfield 103, 3) := by decide +kernel
theorem dX9_seconds_31 : decode cX9_seconds 31 = .ok (.iload_n 1, 1) := by decide +kernel
theorem dX9_seconds_32 : decode cX9_seconds 32 = .ok (.iload_n 2, 1) := by decide +kernel
theorem dX9_seconds_33 : decode cX9_seconds 33 = .ok (.invokevirtual 178, 3) := by decide +kernel
theorem dX9_seconds_36 : decode cX9_seconds 36 = .ok (.istore 4, 2) := by decide +kernel
theorem dX9_seconds_38 : decode cX9_seconds 38 = .ok (.iload_n 3, 1) := by decide +kernel
theorem dX9_seconds_39 : decode cX9_seconds 39 = .ok (.tableswitch 53 0 2 #[25, 36, 47], 25) := by decide +kernel
theorem dX9_seconds_64 : decode cX9_seconds 64 = .ok (.aload_n 0, 1) := by decide +kernel
theorem dX9_seconds_65 : decode cX9_seconds 65 = .ok (.getfield 75, 3) := by decide +kernel
theorem dX9_seconds_68 : decode cX9_seconds 68 = .ok (.iload_n 1, 1) := by decide +kernel
theorem dX9_seconds_69 : decode cX9_seconds 69 = .ok (.iload 4, 2) := by decide +kernel
theorem dX9_seconds_71 : decode cX9_seconds 71 = .ok (.invokevirtual 182, 3) := by decide +kernel
theorem dX9_seconds_74 : decode cX9_seconds 74 = .ok (.ireturn, 1) := by decide +kernel
theorem dX9_seconds_75 : decode cX9_seconds 75 = .ok (.aload_n 0, 1) := by decide +kernel
theorem dX9_seconds_76 : decode cX9_seconds 76 = .ok (.getfield 75, 3) := by decide +kernel
theorem dX9_seconds_79 : decode cX9_seconds 79 = .ok (.iload_n 1, 1) := by decide +kernel
theorem dX9_seconds_80 : decode cX9_seconds 80 = .ok (.iload 4, 2) := by decide +kernel
theorem dX9_seconds_82 : decode cX9_seconds 82 = .ok (.invokevirtual 186, 3) := by decide +kernel
theorem dX9_seconds_85 : decode cX9_seconds 85 = .ok (.ireturn, 1) := by decide +kernel
theorem dX9_seconds_86 : decode cX9_seconds 86 = .ok (.iload 4, 2) := by decide +kernel
theorem dX9_seconds_88 : decode cX9_seconds 88 = .ok (.invokestatic 189, 3) := by decide +kernel
theorem dX9_seconds_91 : decode cX9_seconds 91 = .ok (.ireturn, 1) := by decide +kernel
theorem dX9_seconds_92 : decode cX9_seconds 92 = .ok (.aload_n 0, 1) := by decide +kernel
theorem dX9_seconds_93 : decode cX9_seconds 93 = .ok (.invokevirtual 96, 3) := by decide +kernel
theorem dX9_seconds_96 : decode cX9_seconds 96 = .ok (.ireturn, 1) := by decide +kernel
theorem dX9_lengths_0 : decode cX9_lengths 0 = .ok (.aload_n 0, 1) := by decide +kernel
theorem dX9_lengths_1 : decode cX9_lengths 1 = .ok (.iload_n 1, 1) := by decide +kernel
theorem dX9_lengths_2 : decode cX9_lengths 2 = .ok (.invokevirtual 153, 3) := by decide +kernel
theorem dX9_lengths_5 : decode cX9_lengths 5 = .ok (.ifCond .eq 13, 3) := by decide +kernel
theorem dX9_lengths_8 : decode cX9_lengths 8 = .ok (.iload_n 2, 1) := by decide +kernel
theorem dX9_lengths_9 : decode cX9_lengths 9 = .ok (.iconst 0, 1) := by decide +kernel
theorem dX9_lengths_10 : decode cX9_lengths 10 = .ok (.bipush 60, 2) := by decide +kernel
theorem dX9_lengths_12 : decode cX9_lengths 12 = .ok (.invokestatic 92, 3) := by decide +kernel
theorem dX9_lengths_15 : decode cX9_lengths 15 = .ok (.ifCond .ne 8, 3) := by decide +kernel
theorem dX9_lengths_18 : decode cX9_lengths 18 = .ok (.aload_n 0, 1) := by decide +kernel
theorem dX9_lengths_19 : decode cX9_lengths 19 = .ok (.invokevirtual 96, 3) := by decide +kernel
theorem dX9_lengths_22 : decode cX9_lengths 22 = .ok (.ireturn, 1) := by decide +kernel
theorem dX9_lengths_23 : decode cX9_lengths 23 = .ok (.aload_n 0, 1) := by decide +kernel
theorem dX9_lengths_24 : decode cX9_lengths 24 = .ok (.getfield 75, 3) := by decide +kernel
theorem dX9_lengths_27 : decode cX9_lengths 27 = .ok (.getfield 103, 3) := by decide +kernel
theorem dX9_lengths_30 : decode cX9_lengths 30 = .ok (.bipush 8, 2) := by decide +kernel
theorem dX9_lengths_32 : decode cX9_lengths 32 = .ok (.iload_n 1, 1) := by decide +kernel
theorem dX9_lengths_33 : decode cX9_lengths 33 = .ok (.iadd, 1) := by decide +kernel
theorem dX9_lengths_34 : decode cX9_lengths 34 = .ok (.iaload, 1) := by decide +kernel
theorem dX9_lengths_35 : decode cX9_lengths 35 = .ok (.aload_n 0, 1) := by decide +kernel
theorem dX9_lengths_36 : decode cX9_lengths 36 = .ok (.iload_n 1, 1) := by decide +kernel
theorem dX9_lengths_37 : decode cX9_lengths 37 = .ok (.iload_n 2, 1) := by decide +kernel
theorem dX9_lengths_38 : decode cX9_lengths 38 = .ok (.invokevirtual 194, 3) := by decide +kernel
theorem dX9_lengths_41 : decode cX9_lengths 41 = .ok (.iadd, 1) := by decide +kernel
theorem dX9_lengths_42 : decode cX9_lengths 42 = .ok (.ireturn, 1) := by decide +kernel
theorem dX9_best_0 : decode cX9_best 0 = .ok (.aload_n 0, 1) := by decide +kernel
theorem dX9_best_1 : decode cX9_best 1 = .ok (.iload_n 1, 1) := by decide +kernel
theorem dX9_best_2 : decode cX9_best 2 = .ok (.invokevirtual 153, 3) := by decide +kernel
theorem dX9_best_5 : decode cX9_best 5 = .ok (.ifCond .eq 21, 3) := by decide +kernel
theorem dX9_best_8 : decode cX9_best 8 = .ok (.aload_n 0, 1) := by decide +kernel
theorem dX9_best_9 : decode cX9_best 9 = .ok (.getfield 75, 3) := by decide +kernel
theorem dX9_best_12 : decode cX9_best 12 = .ok (.aload_n 0, 1) := by decide +kernel
theorem dX9_best_13 : decode cX9_best 13 = .ok (.getfield 75, 3) := by decide +kernel
theorem dX9_best_16 : decode cX9_best 16 = .ok (.getfield 103, 3) := by decide +kernel
theorem dX9_best_19 : decode cX9_best 19 = .ok (.iload_n 1, 1) := by decide +kernel
theorem dX9_best_20 : decode cX9_best 20 = .ok (.invokevirtual 197, 3) := by decide +kernel
theorem dX9_best_23 : decode cX9_best 23 = .ok (.goto 7, 3) := by decide +kernel
theorem dX9_best_26 : decode cX9_best 26 = .ok (.aload_n 0, 1) := by decide +kernel
theorem dX9_best_27 : decode cX9_best 27 = .ok (.invokevirtual 96, 3) := by decide +kernel
theorem dX9_best_30 : decode cX9_best 30 = .ok (.ireturn, 1) := by decide +kernel
theorem dX9_cost_0 : decode cX9_cost 0 = .ok (.aload_n 0, 1) := by decide +kernel
theorem dX9_cost_1 : decode cX9_cost 1 = .ok (.iload_n 1, 1) := by decide +kernel
theorem dX9_cost_2 : decode cX9_cost 2 = .ok (.invokevirtual 153, 3) := by decide +kernel
theorem dX9_cost_5 : decode cX9_cost 5 = .ok (.ifCond .eq 10, 3) := by decide +kernel
theorem dX9_cost_8 : decode cX9_cost 8 = .ok (.iload_n 2, 1) := by decide +kernel
theorem dX9_cost_9 : decode cX9_cost 9 = .ok (.invokestatic 88, 3) := by decide +kernel
theorem dX9_cost_12 : decode cX9_cost 12 = .ok (.ifCond .ne 8, 3) := by decide +kernel
theorem dX9_cost_15 : decode cX9_cost 15 = .ok (.aload_n 0, 1) := by decide +kernel
theorem dX9_cost_16 : decode cX9_cost 16 = .ok (.invokevirtual 96, 3) := by decide +kernel
theorem dX9_cost_19 : decode cX9_cost 19 = .ok (.ireturn, 1) := by decide +kernel
theorem dX9_cost_20 : decode cX9_cost 20 = .ok (.aload_n 0, 1) := by decide +kernel
theorem dX9_cost_21 : decode cX9_cost 21 = .ok (.getfield 75, 3) := by decide +kernel
theorem dX9_cost_24 : decode cX9_cost 24 = .ok (.iload_n 2, 1) := by decide +kernel
theorem dX9_cost_25 : decode cX9_cost 25 = .ok (.invokevirtual 125, 3) := by decide +kernel
theorem dX9_cost_28 : decode cX9_cost 28 = .ok (.ifCond .ne 8, 3) := by decide +kernel
theorem dX9_cost_31 : decode cX9_cost 31 = .ok (.aload_n 0, 1) := by decide +kernel
theorem dX9_cost_32 : decode cX9_cost 32 = .ok (.invokevirtual 110, 3) := by decide +kernel
theorem dX9_cost_35 : decode cX9_cost 35 = .ok (.ireturn, 1) := by decide +kernel
theorem dX9_cost_36 : decode cX9_cost 36 = .ok (.aload_n 0, 1) := by decide +kernel
theorem dX9_cost_37 : decode cX9_cost 37 = .ok (.getfield 75, 3) := by decide +kernel
theorem dX9_cost_40 : decode cX9_cost 40 = .ok (.aload_n 0, 1) := by decide +kernel
theorem dX9_cost_41 : decode cX9_cost 41 = .ok (.getfield 75, 3) := by decide +kernel
theorem dX9_cost_44 : decode cX9_cost 44 = .ok (.aload_n 0, 1) := by decide +kernel
theorem dX9_cost_45 : decode cX9_cost 45 = .ok (.getfield 75, 3) := by decide +kernel
theorem dX9_cost_48 : decode cX9_cost 48 = .ok (.getfield 103, 3) := by decide +kernel
theorem dX9_cost_51 : decode cX9_cost 51 = .ok (.iload_n 1, 1) := by decide +kernel
theorem dX9_cost_52 : decode cX9_cost 52 = .ok (.iload_n 2, 1) := by decide +kernel
theorem dX9_cost_53 : decode cX9_cost 53 = .ok (.invokevirtual 178, 3) := by decide +kernel
theorem dX9_cost_56 : decode cX9_cost 56 = .ok (.iload_n 1, 1) := by decide +kernel
theorem dX9_cost_57 : decode cX9_cost 57 = .ok (.invokevirtual 200, 3) := by decide +kernel
theorem dX9_cost_60 : decode cX9_cost 60 = .ok (.ireturn, 1) := by decide +kernel
theorem dX9_where_0 : decode cX9_where 0 = .ok (.aload_n 0, 1) := by decide +kernel
theorem dX9_where_1 : decode cX9_where 1 = .ok (.iload_n 1, 1) := by decide +kernel
theorem dX9_where_2 : decode cX9_where 2 = .ok (.invokevirtual 153, 3) := by decide +kernel
theorem dX9_where_5 : decode cX9_where 5 = .ok (.ifCond .eq 11, 3) := by decide +kernel
theorem dX9_where_8 : decode cX9_where 8 = .ok (.aload_n 0, 1) := by decide +kernel
theorem dX9_where_9 : decode cX9_where 9 = .ok (.iload_n 1, 1) := by decide +kernel
theorem dX9_where_10 : decode cX9_where 10 = .ok (.invokevirtual 203, 3) := by decide +kernel
theorem dX9_where_13 : decode cX9_where 13 = .ok (.goto 7, 3) := by decide +kernel
theorem dX9_where_16 : decode cX9_where 16 = .ok (.aload_n 0, 1) := by decide +kernel
theorem dX9_where_17 : decode cX9_where 17 = .ok (.invokevirtual 96, 3) := by decide +kernel
theorem dX9_where_20 : decode cX9_where 20 = .ok (.ireturn, 1) := by decide +kernel
theorem dX9_obey_0 : decode cX9_obey 0 = .ok (.iload_n 1, 1) := by decide +kernel
theorem dX9_obey_1 : decode cX9_obey 1 = .ok (.iconst 0, 1) := by decide +kernel
theorem dX9_obey_2 : decode cX9_obey 2 = .ok (.iconst 1, 1) := by decide +kernel
theorem dX9_obey_3 : decode cX9_obey 3 = .ok (.invokestatic 92, 3) := by decide +kernel
theorem dX9_obey_6 : decode cX9_obey 6 = .ok (.ifCond .ne 8, 3) := by decide +kernel
theorem dX9_obey_9 : decode cX9_obey 9 = .ok (.aload_n 0, 1) := by decide +kernel
theorem dX9_obey_10 : decode cX9_obey 10 = .ok (.invokevirtual 96, 3) := by decide +kernel
theorem dX9_obey_13 : decode cX9_obey 13 = .ok (.ireturn, 1) := by decide +kernel
theorem dX9_obey_14 : decode cX9_obey 14 = .ok (.iconst 0, 1) := by decide +kernel
theorem dX9_obey_15 : decode cX9_obey 15 = .ok (.istore_n 2, 1) := by decide +kernel
theorem dX9_obey_16 : decode cX9_obey 16 = .ok (.iconst 0, 1) := by decide +kernel
theorem dX9_obey_17 : decode cX9_obey 17 = .ok (.istore_n 3, 1) := by decide +kernel
theorem dX9_obey_18 : decode cX9_obey 18 = .ok (.iload_n 3, 1) := by decide +kernel
theorem dX9_obey_19 : decode cX9_obey 19 = .ok (.aload_n 0, 1) := by decide +kernel
theorem dX9_obey_20 : decode cX9_obey 20 = .ok (.getfield 75, 3) := by decide +kernel
theorem dX9_obey_23 : decode cX9_obey 23 = .ok (.getfield 82, 3) := by decide +kernel
theorem dX9_obey_26 : decode cX9_obey 26 = .ok (.if_icmp .ge 65, 3) := by decide +kernel
theorem dX9_obey_29 : decode cX9_obey 29 = .ok (.iload_n 1, 1) := by decide +kernel
theorem dX9_obey_30 : decode cX9_obey 30 = .ok (.ifCond .ne 15, 3) := by decide +kernel
theorem dX9_obey_33 : decode cX9_obey 33 = .ok (.aload_n 0, 1) := by decide +kernel
theorem dX9_obey_34 : decode cX9_obey 34 = .ok (.getfield 75, 3) := by decide +kernel
theorem dX9_obey_37 : decode cX9_obey 37 = .ok (.getfield 172, 3) := by decide +kernel
theorem dX9_obey_40 : decode cX9_obey 40 = .ok (.iload_n 3, 1) := by decide +kernel
theorem dX9_obey_41 : decode cX9_obey 41 = .ok (.iaload, 1) := by decide +kernel
theorem dX9_obey_42 : decode cX9_obey 42 = .ok (.goto 11, 3) := by decide +kernel
theorem dX9_obey_45 : decode cX9_obey 45 = .ok (.aload_n 0, 1) := by decide +kernel
theorem dX9_obey_46 : decode cX9_obey 46 = .ok (.getfield 75, 3) := by decide +kernel
theorem dX9_obey_49 : decode cX9_obey 49 = .ok (.iload_n 3, 1) := by decide +kernel
theorem dX9_obey_50 : decode cX9_obey 50 = .ok (.invokevirtual 175, 3) := by decide +kernel
theorem dX9_obey_53 : decode cX9_obey 53 = .ok (.istore 4, 2) := by decide +kernel
theorem dX9_obey_55 : decode cX9_obey 55 = .ok (.aload_n 0, 1) := by decide +kernel
theorem dX9_obey_56 : decode cX9_obey 56 = .ok (.getfield 75, 3) := by decide +kernel
theorem dX9_obey_59 : decode cX9_obey 59 = .ok (.getfield 100, 3) := by decide +kernel
theorem dX9_obey_62 : decode cX9_obey 62 = .ok (.aload_n 0, 1) := by decide +kernel
theorem dX9_obey_63 : decode cX9_obey 63 = .ok (.getfield 75, 3) := by decide +kernel
theorem dX9_obey_66 : decode cX9_obey 66 = .ok (.iload_n 3, 1) := by decide +kernel
theorem dX9_obey_67 : decode cX9_obey 67 = .ok (.invokevirtual 156, 3) := by decide +kernel
theorem dX9_obey_70 : decode cX9_obey 70 = .ok (.iaload, 1) := by decide +kernel
theorem dX9_obey_71 : decode cX9_obey 71 = .ok (.iload 4, 2) := by decide +kernel
theorem dX9_obey_73 : decode cX9_obey 73 = .ok (.invokestatic 206, 3) := by decide +kernel
theorem dX9_obey_76 : decode cX9_obey 76 = .ok (.if_icmp .ne 9, 3) := by decide +kernel
theorem dX9_obey_79 : decode cX9_obey 79 = .ok (.iload_n 2, 1) := by decide +kernel
theorem dX9_obey_80 : decode cX9_obey 80 = .ok (.iconst 1, 1) := by decide +kernel
theorem dX9_obey_81 : decode cX9_obey 81 = .ok (.iload_n 3, 1) := by decide +kernel
theorem dX9_obey_82 : decode cX9_obey 82 = .ok (.ishl, 1) := by decide +kernel
theorem dX9_obey_83 : decode cX9_obey 83 = .ok (.ior, 1) := by decide +kernel
theorem dX9_obey_84 : decode cX9_obey 84 = .ok (.istore_n 2, 1) := by decide +kernel
theorem dX9_obey_85 : decode cX9_obey 85 = .ok (.iinc 3 1, 3) := by decide +kernel
theorem dX9_obey_88 : decode cX9_obey 88 = .ok (.goto (-70), 3) := by decide +kernel
theorem dX9_obey_91 : decode cX9_obey 91 = .ok (.iload_n 2, 1) := by decide +kernel
theorem dX9_obey_92 : decode cX9_obey 92 = .ok (.ireturn, 1) := by decide +kernel
theorem dX9_all_0 : decode cX9_all 0 = .ok (.iload_n 1, 1) := by decide +kernel
theorem dX9_all_1 : decode cX9_all 1 = .ok (.iconst (-1), 1) := by decide +kernel
theorem dX9_all_2 : decode cX9_all 2 = .ok (.if_icmp .eq 16, 3) := by decide +kernel
theorem dX9_all_5 : decode cX9_all 5 = .ok (.aload_n 0, 1) := by decide +kernel
theorem dX9_all_6 : decode cX9_all 6 = .ok (.iload_n 1, 1) := by decide +kernel
theorem dX9_all_7 : decode cX9_all 7 = .ok (.invokevirtual 153, 3) := by decide +kernel
theorem dX9_all_10 : decode cX9_all 10 = .ok (.ifCond .ne 8, 3) := by decide +kernel
theorem dX9_all_13 : decode cX9_all 13 = .ok (.aload_n 0, 1) := by decide +kernel
theorem dX9_all_14 : decode cX9_all 14 = .ok (.invokevirtual 209, 3) := by decide +kernel
theorem dX9_all_17 : decode cX9_all 17 = .ok (.ireturn, 1) := by decide +kernel
theorem dX9_all_18 : decode cX9_all 18 = .ok (.aload_n 0, 1) := by decide +kernel
theorem dX9_all_19 : decode cX9_all 19 = .ok (.getfield 22, 3) := by decide +kernel
theorem dX9_all_22 : decode cX9_all 22 = .ok (.invokevirtual 212, 3) := by decide +kernel
theorem dX9_all_25 : decode cX9_all 25 = .ok (.aload_n 0, 1) := by decide +kernel
theorem dX9_all_26 : decode cX9_all 26 = .ok (.getfield 22, 3) := by decide +kernel
theorem dX9_all_29 : decode cX9_all 29 = .ok (.aload_n 0, 1) := by decide +kernel
theorem dX9_all_30 : decode cX9_all 30 = .ok (.getfield 75, 3) := by decide +kernel
theorem dX9_all_33 : decode cX9_all 33 = .ok (.iconst 0, 1) := by decide +kernel
theorem dX9_all_34 : decode cX9_all 34 = .ok (.iconst 0, 1) := by decide +kernel
theorem dX9_all_35 : decode cX9_all 35 = .ok (.invokevirtual 213, 3) := by decide +kernel
theorem dX9_all_38 : decode cX9_all 38 = .ok (.iload_n 1, 1) := by decide +kernel
theorem dX9_all_39 : decode cX9_all 39 = .ok (.iconst (-1), 1) := by decide +kernel
theorem dX9_all_40 : decode cX9_all 40 = .ok (.if_icmp .ne 13, 3) := by decide +kernel
theorem dX9_all_43 : decode cX9_all 43 = .ok (.aload_n 0, 1) := by decide +kernel
theorem dX9_all_44 : decode cX9_all 44 = .ok (.getfield 22, 3) := by decide +kernel
theorem dX9_all_47 : decode cX9_all 47 = .ok (.getfield 217, 3) := by decide +kernel
theorem dX9_all_50 : decode cX9_all 50 = .ok (.goto 12, 3) := by decide +kernel
theorem dX9_all_53 : decode cX9_all 53 = .ok (.aload_n 0, 1) := by decide +kernel
theorem dX9_all_54 : decode cX9_all 54 = .ok (.getfield 22, 3) := by decide +kernel
theorem dX9_all_57 : decode cX9_all 57 = .ok (.getfield 220, 3) := by decide +kernel
theorem dX9_all_60 : decode cX9_all 60 = .ok (.iload_n 1, 1) := by decide +kernel
theorem dX9_all_61 : decode cX9_all 61 = .ok (.iaload, 1) := by decide +kernel
theorem dX9_all_62 : decode cX9_all 62 = .ok (.ireturn, 1) := by decide +kernel
theorem dX9_changes_0 : decode cX9_changes 0 = .ok (.iload_n 1, 1) := by decide +kernel
theorem dX9_changes_1 : decode cX9_changes 1 = .ok (.iconst (-1), 1) := by decide +kernel
theorem dX9_changes_2 : decode cX9_changes 2 = .ok (.if_icmp .eq 16, 3) := by decide +kernel
theorem dX9_changes_5 : decode cX9_changes 5 = .ok (.aload_n 0, 1) := by decide +kernel
theorem dX9_changes_6 : decode cX9_changes 6 = .ok (.iload_n 1, 1) := by decide +kernel
theorem dX9_changes_7 : decode cX9_changes 7 = .ok (.invokevirtual 153, 3) := by decide +kernel
theorem dX9_changes_10 : decode cX9_changes 10 = .ok (.ifCond .ne 8, 3) := by decide +kernel
theorem dX9_changes_13 : decode cX9_changes 13 = .ok (.aload_n 0, 1) := by decide +kernel
theorem dX9_changes_14 : decode cX9_changes 14 = .ok (.invokevirtual 209, 3) := by decide +kernel
theorem dX9_changes_17 : decode cX9_changes 17 = .ok (.ireturn, 1) := by decide +kernel
theorem dX9_changes_18 : decode cX9_changes 18 = .ok (.aload_n 0, 1) := by decide +kernel
theorem dX9_changes_19 : decode cX9_changes 19 = .ok (.getfield 75, 3) := by decide +kernel
theorem dX9_changes_22 : decode cX9_changes 22 = .ok (.getfield 103, 3) := by decide +kernel
theorem dX9_changes_25 : decode cX9_changes 25 = .ok (.iconst 0, 1) := by decide +kernel
theorem dX9_changes_26 : decode cX9_changes 26 = .ok (.aload_n 0, 1) := by decide +kernel
theorem dX9_changes_27 : decode cX9_changes 27 = .ok (.getfield 15, 3) := by decide +kernel
theorem dX9_changes_30 : decode cX9_changes 30 = .ok (.iconst 0, 1) := by decide +kernel
theorem dX9_changes_31 : decode cX9_changes 31 = .ok (.bipush 22, 2) := by decide +kernel
theorem dX9_changes_33 : decode cX9_changes 33 = .ok (.invokestatic 223, 3) := by decide +kernel
theorem dX9_changes_36 : decode cX9_changes 36 = .ok (.aload_n 0, 1) := by decide +kernel
theorem dX9_changes_37 : decode cX9_changes 37 = .ok (.aload_n 0, 1) := by decide +kernel
theorem dX9_changes_38 : decode cX9_changes 38 = .ok (.getfield 15, 3) := by decide +kernel
theorem dX9_changes_41 : decode cX9_changes 41 = .ok (.invokevirtual 229, 3) := by decide +kernel
theorem dX9_changes_44 : decode cX9_changes 44 = .ok (.istore_n 2, 1) := by decide +kernel
theorem dX9_changes_45 : decode cX9_changes 45 = .ok (.iload_n 1, 1) := by decide +kernel
theorem dX9_changes_46 : decode cX9_changes 46 = .ok (.iconst (-1), 1) := by decide +kernel
theorem dX9_changes_47 : decode cX9_changes 47 = .ok (.if_icmp .ne 7, 3) := by decide +kernel
theorem dX9_changes_50 : decode cX9_changes 50 = .ok (.iload_n 2, 1) := by decide +kernel
theorem dX9_changes_51 : decode cX9_changes 51 = .ok (.goto 11, 3) := by decide +kernel
theorem dX9_changes_54 : decode cX9_changes 54 = .ok (.aload_n 0, 1) := by decide +kernel
theorem dX9_changes_55 : decode cX9_changes 55 = .ok (.getfield 15, 3) := by decide +kernel
theorem dX9_changes_58 : decode cX9_changes 58 = .ok (.iconst 1, 1) := by decide +kernel
theorem dX9_changes_59 : decode cX9_changes 59 = .ok (.iload_n 1, 1) := by decide +kernel
theorem dX9_changes_60 : decode cX9_changes 60 = .ok (.iadd, 1) := by decide +kernel
theorem dX9_changes_61 : decode cX9_changes 61 = .ok (.iaload, 1) := by decide +kernel
theorem dX9_changes_62 : decode cX9_changes 62 = .ok (.ireturn, 1) := by decide +kernel
theorem dX9_order_0 : decode cX9_order 0 = .ok (.iload_n 1, 1) := by decide +kernel
theorem dX9_order_1 : decode cX9_order 1 = .ok (.invokestatic 88, 3) := by decide +kernel
theorem dX9_order_4 : decode cX9_order 4 = .ok (.ifCond .eq 29, 3) := by decide +kernel
theorem dX9_order_7 : decode cX9_order 7 = .ok (.iload_n 2, 1) := by decide +kernel
theorem dX9_order_8 : decode cX9_order 8 = .ok (.iconst 0, 1) := by decide +kernel
theorem dX9_order_9 : decode cX9_order 9 = .ok (.bipush 60, 2) := by decide +kernel
theorem dX9_order_11 : decode cX9_order 11 = .ok (.invokestatic 92, 3) := by decide +kernel
theorem dX9_order_14 : decode cX9_order 14 = .ok (.ifCond .eq 19, 3) := by decide +kernel
theorem dX9_order_17 : decode cX9_order 17 = .ok (.iload_n 3, 1) := by decide +kernel
theorem dX9_order_18 : decode cX9_order 18 = .ok (.iconst 1, 1) := by decide +kernel
theorem dX9_order_19 : decode cX9_order 19 = .ok (.bipush 9, 2) := by decide +kernel
theorem dX9_order_21 : decode cX9_order 21 = .ok (.invokestatic 92, 3) := by decide +kernel
theorem dX9_order_24 : decode cX9_order 24 = .ok (.ifCond .eq 9, 3) := by decide +kernel
theorem dX9_order_27 : decode cX9_order 27 = .ok (.iload 4, 2) := by decide +kernel
theorem dX9_order_29 : decode cX9_order 29 = .ok (.iconst (-1), 1) := by decide +kernel
theorem dX9_order_30 : decode cX9_order 30 = .ok (.if_icmp .ge 8, 3) := by decide +kernel
theorem dX9_order_33 : decode cX9_order 33 = .ok (.aload_n 0, 1) := by decide +kernel
theorem dX9_order_34 : decode cX9_order 34 = .ok (.invokevirtual 209, 3) := by decide +kernel
theorem dX9_order_37 : decode cX9_order 37 = .ok (.ireturn, 1) := by decide +kernel
theorem dX9_order_38 : decode cX9_order 38 = .ok (.aload_n 0, 1) := by decide +kernel
theorem dX9_order_39 : decode cX9_order 39 = .ok (.getfield 75, 3) := by decide +kernel
theorem dX9_order_42 : decode cX9_order 42 = .ok (.aload_n 0, 1) := by decide +kernel
theorem dX9_order_43 : decode cX9_order 43 = .ok (.getfield 75, 3) := by decide +kernel
theorem dX9_order_46 : decode cX9_order 46 = .ok (.getfield 103, 3) := by decide +kernel
theorem dX9_order_49 : decode cX9_order 49 = .ok (.iload_n 1, 1) := by decide +kernel
theorem dX9_order_50 : decode cX9_order 50 = .ok (.invokevirtual 106, 3) := by decide +kernel
theorem dX9_order_53 : decode cX9_order 53 = .ok (.istore 5, 2) := by decide +kernel
theorem dX9_order_55 : decode cX9_order 55 = .ok (.iload 4, 2) := by decide +kernel
theorem dX9_order_57 : decode cX9_order 57 = .ok (.iconst (-1), 1) := by decide +kernel
theorem dX9_order_58 : decode cX9_order 58 = .ok (.if_icmp .ne 12, 3) := by decide +kernel
theorem dX9_order_61 : decode cX9_order 61 = .ok (.aload_n 0, 1) := by decide +kernel
theorem dX9_order_62 : decode cX9_order 62 = .ok (.iload 5, 2) := by decide +kernel
theorem dX9_order_64 : decode cX9_order 64 = .ok (.iload_n 2, 1) := by decide +kernel
theorem dX9_order_65 : decode cX9_order 65 = .ok (.iload_n 3, 1) := by decide +kernel
theorem dX9_order_66 : decode cX9_order 66 = .ok (.invokevirtual 232, 3) := by decide +kernel
theorem dX9_order_69 : decode cX9_order 69 = .ok (.ireturn, 1) := by decide +kernel
theorem dX9_order_70 : decode cX9_order 70 = .ok (.iload 4, 2) := by decide +kernel
theorem dX9_order_72 : decode cX9_order 72 = .ok (.iload 5, 2) := by decide +kernel
theorem dX9_order_74 : decode cX9_order 74 = .ok (.invokestatic 189, 3) := by decide +kernel
theorem dX9_order_77 : decode cX9_order 77 = .ok (.if_icmp .lt 6, 3) := by decide +kernel
theorem dX9_order_80 : decode cX9_order 80 = .ok (.bipush (-5), 2) := by decide +kernel
theorem dX9_order_82 : decode cX9_order 82 = .ok (.ireturn, 1) := by decide +kernel
theorem dX9_order_83 : decode cX9_order 83 = .ok (.aload_n 0, 1) := by decide +kernel
theorem dX9_order_84 : decode cX9_order 84 = .ok (.iload 5, 2) := by decide +kernel
theorem dX9_order_86 : decode cX9_order 86 = .ok (.iload_n 2, 1) := by decide +kernel
theorem dX9_order_87 : decode cX9_order 87 = .ok (.iload_n 3, 1) := by decide +kernel
theorem dX9_order_88 : decode cX9_order 88 = .ok (.iload 4, 2) := by decide +kernel
theorem dX9_order_90 : decode cX9_order 90 = .ok (.invokevirtual 235, 3) := by decide +kernel
theorem dX9_order_93 : decode cX9_order 93 = .ok (.ireturn, 1) := by decide +kernel
theorem dX9_apart_0 : decode cX9_apart 0 = .ok (.iload_n 1, 1) := by decide +kernel
theorem dX9_apart_1 : decode cX9_apart 1 = .ok (.invokestatic 88, 3) := by decide +kernel
theorem dX9_apart_4 : decode cX9_apart 4 = .ok (.ifCond .eq 13, 3) := by decide +kernel
theorem dX9_apart_7 : decode cX9_apart 7 = .ok (.iload_n 2, 1) := by decide +kernel
theorem dX9_apart_8 : decode cX9_apart 8 = .ok (.iconst 1, 1) := by decide +kernel
theorem dX9_apart_9 : decode cX9_apart 9 = .ok (.bipush 9, 2) := by decide +kernel
theorem dX9_apart_11 : decode cX9_apart 11 = .ok (.invokestatic 92, 3) := by decide +kernel
theorem dX9_apart_14 : decode cX9_apart 14 = .ok (.ifCond .ne 8, 3) := by decide +kernel
theorem dX9_apart_17 : decode cX9_apart 17 = .ok (.aload_n 0, 1) := by decide +kernel
theorem dX9_apart_18 : decode cX9_apart 18 = .ok (.invokevirtual 96, 3) := by decide +kernel
theorem dX9_apart_21 : decode cX9_apart 21 = .ok (.ireturn, 1) := by decide +kernel
theorem dX9_apart_22 : decode cX9_apart 22 = .ok (.aload_n 0, 1) := by decide +kernel
theorem dX9_apart_23 : decode cX9_apart 23 = .ok (.aload_n 0, 1) := by decide +kernel
theorem dX9_apart_24 : decode cX9_apart 24 = .ok (.getfield 75, 3) := by decide +kernel
theorem dX9_apart_27 : decode cX9_apart 27 = .ok (.aload_n 0, 1) := by decide +kernel
theorem dX9_apart_28 : decode cX9_apart 28 = .ok (.getfield 75, 3) := by decide +kernel
theorem dX9_apart_31 : decode cX9_apart 31 = .ok (.getfield 103, 3) := by decide +kernel
theorem dX9_apart_34 : decode cX9_apart 34 = .ok (.iload_n 1, 1) := by decide +kernel
theorem dX9_apart_35 : decode cX9_apart 35 = .ok (.invokevirtual 106, 3) := by decide +kernel
theorem dX9_apart_38 : decode cX9_apart 38 = .ok (.iload_n 2, 1) := by decide +kernel
theorem dX9_apart_39 : decode cX9_apart 39 = .ok (.invokevirtual 239, 3) := by decide +kernel
theorem dX9_apart_42 : decode cX9_apart 42 = .ok (.istore_n 3, 1) := by decide +kernel
theorem dX9_apart_43 : decode cX9_apart 43 = .ok (.iload_n 3, 1) := by decide +kernel
theorem dX9_apart_44 : decode cX9_apart 44 = .ok (.sipush 600, 3) := by decide +kernel
theorem dX9_apart_47 : decode cX9_apart 47 = .ok (.if_icmp .le 7, 3) := by decide +kernel
theorem dX9_apart_50 : decode cX9_apart 50 = .ok (.iconst (-1), 1) := by decide +kernel
theorem dX9_apart_51 : decode cX9_apart 51 = .ok (.goto 4, 3) := by decide +kernel
theorem dX9_apart_54 : decode cX9_apart 54 = .ok (.iload_n 3, 1) := by decide +kernel
theorem dX9_apart_55 : decode cX9_apart 55 = .ok (.ireturn, 1) := by decide +kernel
theorem dX9_note_0 : decode cX9_note 0 = .ok (.aload_n 0, 1) := by decide +kernel
theorem dX9_note_1 : decode cX9_note 1 = .ok (.iload_n 1, 1) := by decide +kernel
theorem dX9_note_2 : decode cX9_note 2 = .ok (.invokevirtual 153, 3) := by decide +kernel
theorem dX9_note_5 : decode cX9_note 5 = .ok (.ifCond .eq 24, 3) := by decide +kernel
theorem dX9_note_8 : decode cX9_note 8 = .ok (.iload_n 2, 1) := by decide +kernel
theorem dX9_note_9 : decode cX9_note 9 = .ok (.iconst 1, 1) := by decide +kernel
theorem dX9_note_10 : decode cX9_note 10 = .ok (.sipush 200, 3) := by decide +kernel
theorem dX9_note_13 : decode cX9_note 13 = .ok (.invokestatic 92, 3) := by decide +kernel
theorem dX9_note_16 : decode cX9_note 16 = .ok (.ifCond .eq 13, 3) := by decide +kernel
theorem dX9_note_19 : decode cX9_note 19 = .ok (.iload_n 3, 1) := by decide +kernel
theorem dX9_note_20 : decode cX9_note 20 = .ok (.iconst 0, 1) := by decide +kernel
theorem dX9_note_21 : decode cX9_note 21 = .ok (.bipush 90, 2) := by decide +kernel
theorem dX9_note_23 : decode cX9_note 23 = .ok (.invokestatic 92, 3) := by decide +kernel
theorem dX9_note_26 : decode cX9_note 26 = .ok (.ifCond .ne 8, 3) := by decide +kernel
theorem dX9_note_29 : decode cX9_note 29 = .ok (.aload_n 0, 1) := by decide +kernel
theorem dX9_note_30 : decode cX9_note 30 = .ok (.invokevirtual 96, 3) := by decide +kernel
theorem dX9_note_33 : decode cX9_note 33 = .ok (.ireturn, 1) := by decide +kernel
theorem dX9_note_34 : decode cX9_note 34 = .ok (.iload 4, 2) := by decide +kernel
theorem dX9_note_36 : decode cX9_note 36 = .ok (.iconst 0, 1) := by decide +kernel
theorem dX9_note_37 : decode cX9_note 37 = .ok (.bipush 6, 2) := by decide +kernel
theorem dX9_note_39 : decode cX9_note 39 = .ok (.invokestatic 92, 3) := by decide +kernel
theorem dX9_note_42 : decode cX9_note 42 = .ok (.ifCond .eq 14, 3) := by decide +kernel
theorem dX9_note_45 : decode cX9_note 45 = .ok (.iload 5, 2) := by decide +kernel
theorem dX9_note_47 : decode cX9_note 47 = .ok (.iconst 0, 1) := by decide +kernel
theorem dX9_note_48 : decode cX9_note 48 = .ok (.bipush 6, 2) := by decide +kernel
theorem dX9_note_50 : decode cX9_note 50 = .ok (.invokestatic 92, 3) := by decide +kernel
theorem dX9_note_53 : decode cX9_note 53 = .ok (.ifCond .ne 8, 3) := by decide +kernel
theorem dX9_note_56 : decode cX9_note 56 = .ok (.aload_n 0, 1) := by decide +kernel
theorem dX9_note_57 : decode cX9_note 57 = .ok (.invokevirtual 96, 3) := by decide +kernel
theorem dX9_note_60 : decode cX9_note 60 = .ok (.ireturn, 1) := by decide +kernel
theorem dX9_note_61 : decode cX9_note 61 = .ok (.aload_n 0, 1) := by decide +kernel
theorem dX9_note_62 : decode cX9_note 62 = .ok (.getfield 75, 3) := by decide +kernel
theorem dX9_note_65 : decode cX9_note 65 = .ok (.getfield 242, 3) := by decide +kernel
theorem dX9_note_68 : decode cX9_note 68 = .ok (.bipush 6, 2) := by decide +kernel
theorem dX9_note_70 : decode cX9_note 70 = .ok (.if_icmp .lt 8, 3) := by decide +kernel
theorem dX9_note_73 : decode cX9_note 73 = .ok (.aload_n 0, 1) := by decide +kernel
theorem dX9_note_74 : decode cX9_note 74 = .ok (.invokevirtual 128, 3) := by decide +kernel
theorem dX9_note_77 : decode cX9_note 77 = .ok (.ireturn, 1) := by decide +kernel
theorem dX9_note_78 : decode cX9_note 78 = .ok (.aload_n 0, 1) := by decide +kernel
theorem dX9_note_79 : decode cX9_note 79 = .ok (.getfield 75, 3) := by decide +kernel
theorem dX9_note_82 : decode cX9_note 82 = .ok (.iload_n 1, 1) := by decide +kernel
theorem dX9_note_83 : decode cX9_note 83 = .ok (.iload_n 2, 1) := by decide +kernel
theorem dX9_note_84 : decode cX9_note 84 = .ok (.iload_n 3, 1) := by decide +kernel
theorem dX9_note_85 : decode cX9_note 85 = .ok (.iload 4, 2) := by decide +kernel
theorem dX9_note_87 : decode cX9_note 87 = .ok (.iload 5, 2) := by decide +kernel
theorem dX9_note_89 : decode cX9_note 89 = .ok (.invokevirtual 245, 3) := by decide +kernel
theorem dX9_note_92 : decode cX9_note 92 = .ok (.ireturn, 1) := by decide +kernel
theorem dX9_forget_0 : decode cX9_forget 0 = .ok (.aload_n 0, 1) := by decide +kernel
theorem dX9_forget_1 : decode cX9_forget 1 = .ok (.getfield 75, 3) := by decide +kernel
theorem dX9_forget_4 : decode cX9_forget 4 = .ok (.getfield 242, 3) := by decide +kernel
theorem dX9_forget_7 : decode cX9_forget 7 = .ok (.istore_n 1, 1) := by decide +kernel
theorem dX9_forget_8 : decode cX9_forget 8 = .ok (.aload_n 0, 1) := by decide +kernel
theorem dX9_forget_9 : decode cX9_forget 9 = .ok (.getfield 75, 3) := by decide +kernel
theorem dX9_forget_12 : decode cX9_forget 12 = .ok (.iconst 0, 1) := by decide +kernel
theorem dX9_forget_13 : decode cX9_forget 13 = .ok (.putfield 242, 3) := by decide +kernel
theorem dX9_forget_16 : decode cX9_forget 16 = .ok (.iload_n 1, 1) := by decide +kernel
theorem dX9_forget_17 : decode cX9_forget 17 = .ok (.ireturn, 1) := by decide +kernel
theorem dX9_is_0 : decode cX9_is 0 = .ok (.aload_n 0, 1) := by decide +kernel
theorem dX9_is_1 : decode cX9_is 1 = .ok (.iload_n 1, 1) := by decide +kernel
theorem dX9_is_2 : decode cX9_is 2 = .ok (.invokevirtual 153, 3) := by decide +kernel
theorem dX9_is_5 : decode cX9_is 5 = .ok (.ifCond .eq 12, 3) := by decide +kernel
theorem dX9_is_8 : decode cX9_is 8 = .ok (.iload_n 2, 1) := by decide +kernel
theorem dX9_is_9 : decode cX9_is 9 = .ok (.iconst 0, 1) := by decide +kernel
theorem dX9_is_10 : decode cX9_is 10 = .ok (.iconst 1, 1) := by decide +kernel
theorem dX9_is_11 : decode cX9_is 11 = .ok (.invokestatic 92, 3) := by decide +kernel
theorem dX9_is_14 : decode cX9_is 14 = .ok (.ifCond .ne 8, 3) := by decide +kernel
theorem dX9_is_17 : decode cX9_is 17 = .ok (.aload_n 0, 1) := by decide +kernel
theorem dX9_is_18 : decode cX9_is 18 = .ok (.invokevirtual 96, 3) := by decide +kernel
theorem dX9_is_21 : decode cX9_is 21 = .ok (.ireturn, 1) := by decide +kernel
theorem dX9_is_22 : decode cX9_is 22 = .ok (.iload_n 2, 1) := by decide +kernel
theorem dX9_is_23 : decode cX9_is 23 = .ok (.ifCond .ne 11, 3) := by decide +kernel
theorem dX9_is_26 : decode cX9_is 26 = .ok (.aload_n 0, 1) := by decide +kernel
theorem dX9_is_27 : decode cX9_is 27 = .ok (.iload_n 1, 1) := by decide +kernel
theorem dX9_is_28 : decode cX9_is 28 = .ok (.invokevirtual 249, 3) := by decide +kernel
theorem dX9_is_31 : decode cX9_is 31 = .ok (.goto 8, 3) := by decide +kernel
theorem dX9_is_34 : decode cX9_is 34 = .ok (.aload_n 0, 1) := by decide +kernel
theorem dX9_is_35 : decode cX9_is 35 = .ok (.iload_n 1, 1) := by decide +kernel
theorem dX9_is_36 : decode cX9_is 36 = .ok (.invokevirtual 252, 3) := by decide +kernel
theorem dX9_is_39 : decode cX9_is 39 = .ok (.ireturn, 1) := by decide +kernel
theorem dX9_look_0 : decode cX9_look 0 = .ok (.aload_n 0, 1) := by decide +kernel
theorem dX9_look_1 : decode cX9_look 1 = .ok (.iload_n 1, 1) := by decide +kernel
theorem dX9_look_2 : decode cX9_look 2 = .ok (.invokevirtual 153, 3) := by decide +kernel
theorem dX9_look_5 : decode cX9_look 5 = .ok (.ifCond .eq 16, 3) := by decide +kernel
theorem dX9_look_8 : decode cX9_look 8 = .ok (.aload_n 0, 1) := by decide +kernel
theorem dX9_look_9 : decode cX9_look 9 = .ok (.iload_n 1, 1) := by decide +kernel
theorem dX9_look_10 : decode cX9_look 10 = .ok (.aload_n 0, 1) := by decide +kernel
theorem dX9_look_11 : decode cX9_look 11 = .ok (.iload_n 1, 1) := by decide +kernel
theorem dX9_look_12 : decode cX9_look 12 = .ok (.invokevirtual 249, 3) := by decide +kernel
theorem dX9_look_15 : decode cX9_look 15 = .ok (.invokevirtual 255, 3) := by decide +kernel
theorem dX9_look_18 : decode cX9_look 18 = .ok (.goto 7, 3) := by decide +kernel
theorem dX9_look_21 : decode cX9_look 21 = .ok (.aload_n 0, 1) := by decide +kernel
theorem dX9_look_22 : decode cX9_look 22 = .ok (.invokevirtual 96, 3) := by decide +kernel
theorem dX9_look_25 : decode cX9_look 25 = .ok (.ireturn, 1) := by decide +kernel
theorem dX9_touch_0 : decode cX9_touch 0 = .ok (.aload_n 0, 1) := by decide +kernel
theorem dX9_touch_1 : decode cX9_touch 1 = .ok (.iload_n 1, 1) := by decide +kernel
theorem dX9_touch_2 : decode cX9_touch 2 = .ok (.invokevirtual 153, 3) := by decide +kernel
theorem dX9_touch_5 : decode cX9_touch 5 = .ok (.ifCond .eq 16, 3) := by decide +kernel
theorem dX9_touch_8 : decode cX9_touch 8 = .ok (.aload_n 0, 1) := by decide +kernel
theorem dX9_touch_9 : decode cX9_touch 9 = .ok (.iload_n 2, 1) := by decide +kernel
theorem dX9_touch_10 : decode cX9_touch 10 = .ok (.invokevirtual 153, 3) := by decide +kernel
theorem dX9_touch_13 : decode cX9_touch 13 = .ok (.ifCond .eq 8, 3) := by decide +kernel
theorem dX9_touch_16 : decode cX9_touch 16 = .ok (.iload_n 1, 1) := by decide +kernel
theorem dX9_touch_17 : decode cX9_touch 17 = .ok (.iload_n 2, 1) := by decide +kernel
theorem dX9_touch_18 : decode cX9_touch 18 = .ok (.if_icmp .ne 8, 3) := by decide +kernel
theorem dX9_touch_21 : decode cX9_touch 21 = .ok (.aload_n 0, 1) := by decide +kernel
theorem dX9_touch_22 : decode cX9_touch 22 = .ok (.invokevirtual 96, 3) := by decide +kernel
theorem dX9_touch_25 : decode cX9_touch 25 = .ok (.ireturn, 1) := by decide +kernel
theorem dX9_touch_26 : decode cX9_touch 26 = .ok (.aload_n 0, 1) := by decide +kernel
theorem dX9_touch_27 : decode cX9_touch 27 = .ok (.getfield 75, 3) := by decide +kernel
theorem dX9_touch_30 : decode cX9_touch 30 = .ok (.iload_n 1, 1) := by decide +kernel
theorem dX9_touch_31 : decode cX9_touch 31 = .ok (.invokevirtual 156, 3) := by decide +kernel
theorem dX9_touch_34 : decode cX9_touch 34 = .ok (.aload_n 0, 1) := by decide +kernel
theorem dX9_touch_35 : decode cX9_touch 35 = .ok (.getfield 75, 3) := by decide +kernel
theorem dX9_touch_38 : decode cX9_touch 38 = .ok (.iload_n 2, 1) := by decide +kernel
theorem dX9_touch_39 : decode cX9_touch 39 = .ok (.invokevirtual 156, 3) := by decide +kernel
theorem dX9_touch_42 : decode cX9_touch 42 = .ok (.if_icmp .eq 8, 3) := by decide +kernel
theorem dX9_touch_45 : decode cX9_touch 45 = .ok (.aload_n 0, 1) := by decide +kernel
theorem dX9_touch_46 : decode cX9_touch 46 = .ok (.invokevirtual 110, 3) := by decide +kernel
theorem dX9_touch_49 : decode cX9_touch 49 = .ok (.ireturn, 1) := by decide +kernel
theorem dX9_touch_50 : decode cX9_touch 50 = .ok (.aload_n 0, 1) := by decide +kernel
theorem dX9_touch_51 : decode cX9_touch 51 = .ok (.getfield 75, 3) := by decide +kernel
theorem dX9_touch_54 : decode cX9_touch 54 = .ok (.getfield 172, 3) := by decide +kernel
theorem dX9_touch_57 : decode cX9_touch 57 = .ok (.iload_n 2, 1) := by decide +kernel
theorem dX9_touch_58 : decode cX9_touch 58 = .ok (.iaload, 1) := by decide +kernel
theorem dX9_touch_59 : decode cX9_touch 59 = .ok (.aload_n 0, 1) := by decide +kernel
theorem dX9_touch_60 : decode cX9_touch 60 = .ok (.getfield 75, 3) := by decide +kernel
theorem dX9_touch_63 : decode cX9_touch 63 = .ok (.getfield 172, 3) := by decide +kernel
theorem dX9_touch_66 : decode cX9_touch 66 = .ok (.iload_n 1, 1) := by decide +kernel
theorem dX9_touch_67 : decode cX9_touch 67 = .ok (.iaload, 1) := by decide +kernel
theorem dX9_touch_68 : decode cX9_touch 68 = .ok (.if_icmp .ge 7, 3) := by decide +kernel
theorem dX9_touch_71 : decode cX9_touch 71 = .ok (.iconst 1, 1) := by decide +kernel
theorem dX9_touch_72 : decode cX9_touch 72 = .ok (.goto 4, 3) := by decide +kernel
theorem dX9_touch_75 : decode cX9_touch 75 = .ok (.iconst 0, 1) := by decide +kernel
theorem dX9_touch_76 : decode cX9_touch 76 = .ok (.istore_n 3, 1) := by decide +kernel
theorem dX9_touch_77 : decode cX9_touch 77 = .ok (.iconst 0, 1) := by decide +kernel
theorem dX9_touch_78 : decode cX9_touch 78 = .ok (.istore 4, 2) := by decide +kernel
theorem dX9_touch_80 : decode cX9_touch 80 = .ok (.iconst 0, 1) := by decide +kernel
theorem dX9_touch_81 : decode cX9_touch 81 = .ok (.istore 5, 2) := by decide +kernel
theorem dX9_touch_83 : decode cX9_touch 83 = .ok (.iload 5, 2) := by decide +kernel
theorem dX9_touch_85 : decode cX9_touch 85 = .ok (.iconst 4, 1) := by decide +kernel
theorem dX9_touch_86 : decode cX9_touch 86 = .ok (.if_icmp .ge 49, 3) := by decide +kernel
theorem dX9_touch_89 : decode cX9_touch 89 = .ok (.iload 5, 2) := by decide +kernel
theorem dX9_touch_91 : decode cX9_touch 91 = .ok (.iconst 1, 1) := by decide +kernel
theorem dX9_touch_92 : decode cX9_touch 92 = .ok (.iand, 1) := by decide +kernel
theorem dX9_touch_93 : decode cX9_touch 93 = .ok (.ifCond .eq 7, 3) := by decide +kernel
theorem dX9_touch_96 : decode cX9_touch 96 = .ok (.iconst 1, 1) := by decide +kernel
theorem dX9_touch_97 : decode cX9_touch 97 = .ok (.goto 4, 3) := by decide +kernel
theorem dX9_touch_100 : decode cX9_touch 100 = .ok (.iconst 0, 1) := by decide +kernel
theorem dX9_touch_101 : decode cX9_touch 101 = .ok (.iload 5, 2) := by decide +kernel
theorem dX9_touch_103 : decode cX9_touch 103 = .ok (.iconst 2, 1) := by decide +kernel
theorem dX9_touch_104 : decode cX9_touch 104 = .ok (.iand, 1) := by decide +kernel
theorem dX9_touch_105 : decode cX9_touch 105 = .ok (.ifCond .eq 7, 3) := by decide +kernel
theorem dX9_touch_108 : decode cX9_touch 108 = .ok (.iconst 1, 1) := by decide +kernel
theorem dX9_touch_109 : decode cX9_touch 109 = .ok (.goto 4, 3) := by decide +kernel
theorem dX9_touch_112 : decode cX9_touch 112 = .ok (.iconst 0, 1) := by decide +kernel
theorem dX9_touch_113 : decode cX9_touch 113 = .ok (.iload_n 3, 1) := by decide +kernel
theorem dX9_touch_114 : decode cX9_touch 114 = .ok (.invokestatic 258, 3) := by decide +kernel
theorem dX9_touch_117 : decode cX9_touch 117 = .ok (.ifCond .eq 12, 3) := by decide +kernel
theorem dX9_touch_120 : decode cX9_touch 120 = .ok (.iload 4, 2) := by decide +kernel
theorem dX9_touch_122 : decode cX9_touch 122 = .ok (.iconst 1, 1) := by decide +kernel
theorem dX9_touch_123 : decode cX9_touch 123 = .ok (.iload 5, 2) := by decide +kernel
theorem dX9_touch_125 : decode cX9_touch 125 = .ok (.ishl, 1) := by decide +kernel
theorem dX9_touch_126 : decode cX9_touch 126 = .ok (.ior, 1) := by decide +kernel
theorem dX9_touch_127 : decode cX9_touch 127 = .ok (.istore 4, 2) := by decide +kernel
theorem dX9_touch_129 : decode cX9_touch 129 = .ok (.iinc 5 1, 3) := by decide +kernel
theorem dX9_touch_132 : decode cX9_touch 132 = .ok (.goto (-49), 3) := by decide +kernel
theorem dX9_touch_135 : decode cX9_touch 135 = .ok (.iload 4, 2) := by decide +kernel
theorem dX9_touch_137 : decode cX9_touch 137 = .ok (.ireturn, 1) := by decide +kernel
theorem dX9_counts_0 : decode cX9_counts 0 = .ok (.iload_n 1, 1) := by decide +kernel
theorem dX9_counts_1 : decode cX9_counts 1 = .ok (.iconst 0, 1) := by decide +kernel
theorem dX9_counts_2 : decode cX9_counts 2 = .ok (.bipush 9, 2) := by decide +kernel
theorem dX9_counts_4 : decode cX9_counts 4 = .ok (.invokestatic 92, 3) := by decide +kernel
theorem dX9_counts_7 : decode cX9_counts 7 = .ok (.ifCond .eq 23, 3) := by decide +kernel
theorem dX9_counts_10 : decode cX9_counts 10 = .ok (.iload_n 2, 1) := by decide +kernel
theorem dX9_counts_11 : decode cX9_counts 11 = .ok (.iconst 0, 1) := by decide +kernel
theorem dX9_counts_12 : decode cX9_counts 12 = .ok (.bipush 9, 2) := by decide +kernel
theorem dX9_counts_14 : decode cX9_counts 14 = .ok (.invokestatic 92, 3) := by decide +kernel
theorem dX9_counts_17 : decode cX9_counts 17 = .ok (.ifCond .eq 13, 3) := by decide +kernel
theorem dX9_counts_20 : decode cX9_counts 20 = .ok (.iload_n 3, 1) := by decide +kernel
theorem dX9_counts_21 : decode cX9_counts 21 = .ok (.iconst 0, 1) := by decide +kernel
theorem dX9_counts_22 : decode cX9_counts 22 = .ok (.bipush 10, 2) := by decide +kernel
theorem dX9_counts_24 : decode cX9_counts 24 = .ok (.invokestatic 92, 3) := by decide +kernel
theorem dX9_counts_27 : decode cX9_counts 27 = .ok (.ifCond .ne 8, 3) := by decide +kernel
theorem dX9_counts_30 : decode cX9_counts 30 = .ok (.aload_n 0, 1) := by decide +kernel
theorem dX9_counts_31 : decode cX9_counts 31 = .ok (.invokevirtual 96, 3) := by decide +kernel
theorem dX9_counts_34 : decode cX9_counts 34 = .ok (.ireturn, 1) := by decide +kernel
theorem dX9_counts_35 : decode cX9_counts 35 = .ok (.aload_n 0, 1) := by decide +kernel
theorem dX9_counts_36 : decode cX9_counts 36 = .ok (.iload_n 1, 1) := by decide +kernel
theorem dX9_counts_37 : decode cX9_counts 37 = .ok (.iload_n 3, 1) := by decide +kernel
theorem dX9_counts_38 : decode cX9_counts 38 = .ok (.invokevirtual 262, 3) := by decide +kernel
theorem dX9_counts_41 : decode cX9_counts 41 = .ok (.aload_n 0, 1) := by decide +kernel
theorem dX9_counts_42 : decode cX9_counts 42 = .ok (.lconst 0, 1) := by decide +kernel
theorem dX9_counts_43 : decode cX9_counts 43 = .ok (.putfield 37, 3) := by decide +kernel
theorem dX9_counts_46 : decode cX9_counts 46 = .ok (.iload_n 2, 1) := by decide +kernel
theorem dX9_counts_47 : decode cX9_counts 47 = .ok (.istore 4, 2) := by decide +kernel
theorem dX9_counts_49 : decode cX9_counts 49 = .ok (.iload 4, 2) := by decide +kernel
theorem dX9_counts_51 : decode cX9_counts 51 = .ok (.iload_n 1, 1) := by decide +kernel
theorem dX9_counts_52 : decode cX9_counts 52 = .ok (.if_icmp .gt 25, 3) := by decide +kernel
theorem dX9_counts_55 : decode cX9_counts 55 = .ok (.aload_n 0, 1) := by decide +kernel
theorem dX9_counts_56 : decode cX9_counts 56 = .ok (.dup, 1) := by decide +kernel
theorem dX9_counts_57 : decode cX9_counts 57 = .ok (.getfield 37, 3) := by decide +kernel
theorem dX9_counts_60 : decode cX9_counts 60 = .ok (.aload_n 0, 1) := by decide +kernel
theorem dX9_counts_61 : decode cX9_counts 61 = .ok (.getfield 33, 3) := by decide +kernel
theorem dX9_counts_64 : decode cX9_counts 64 = .ok (.iload 4, 2) := by decide +kernel
theorem dX9_counts_66 : decode cX9_counts 66 = .ok (.laload, 1) := by decide +kernel
theorem dX9_counts_67 : decode cX9_counts 67 = .ok (.ladd, 1) := by decide +kernel
theorem dX9_counts_68 : decode cX9_counts 68 = .ok (.putfield 37, 3) := by decide +kernel
theorem dX9_counts_71 : decode cX9_counts 71 = .ok (.iinc 4 1, 3) := by decide +kernel
theorem dX9_counts_74 : decode cX9_counts 74 = .ok (.goto (-25), 3) := by decide +kernel
theorem dX9_counts_77 : decode cX9_counts 77 = .ok (.aload_n 0, 1) := by decide +kernel
theorem dX9_counts_78 : decode cX9_counts 78 = .ok (.iload_n 1, 1) := by decide +kernel
theorem dX9_counts_79 : decode cX9_counts 79 = .ok (.invokevirtual 266, 3) := by decide +kernel
theorem dX9_counts_82 : decode cX9_counts 82 = .ok (.iconst 1, 1) := by decide +kernel
theorem dX9_counts_83 : decode cX9_counts 83 = .ok (.ireturn, 1) := by decide +kernel
theorem dX9_mornings_0 : decode cX9_mornings 0 = .ok (.iload_n 1, 1) := by decide +kernel
theorem dX9_mornings_1 : decode cX9_mornings 1 = .ok (.iconst 0, 1) := by decide +kernel
theorem dX9_mornings_2 : decode cX9_mornings 2 = .ok (.ldc_w 270, 3) := by decide +kernel
theorem dX9_mornings_5 : decode cX9_mornings 5 = .ok (.invokestatic 92, 3) := by decide +kernel
theorem dX9_mornings_8 : decode cX9_mornings 8 = .ok (.ifCond .eq 13, 3) := by decide +kernel
theorem dX9_mornings_11 : decode cX9_mornings 11 = .ok (.iload_n 2, 1) := by decide +kernel
theorem dX9_mornings_12 : decode cX9_mornings 12 = .ok (.iconst 0, 1) := by decide +kernel
theorem dX9_mornings_13 : decode cX9_mornings 13 = .ok (.bipush 60, 2) := by decide +kernel
theorem dX9_mornings_15 : decode cX9_mornings 15 = .ok (.invokestatic 92, 3) := by decide +kernel
theorem dX9_mornings_18 : decode cX9_mornings 18 = .ok (.ifCond .ne 8, 3) := by decide +kernel
theorem dX9_mornings_21 : decode cX9_mornings 21 = .ok (.aload_n 0, 1) := by decide +kernel
theorem dX9_mornings_22 : decode cX9_mornings 22 = .ok (.invokevirtual 96, 3) := by decide +kernel
theorem dX9_mornings_25 : decode cX9_mornings 25 = .ok (.ireturn, 1) := by decide +kernel
theorem dX9_mornings_26 : decode cX9_mornings 26 = .ok (.aload_n 0, 1) := by decide +kernel
theorem dX9_mornings_27 : decode cX9_mornings 27 = .ok (.getfield 75, 3) := by decide +kernel
theorem dX9_mornings_30 : decode cX9_mornings 30 = .ok (.getfield 82, 3) := by decide +kernel
theorem dX9_mornings_33 : decode cX9_mornings 33 = .ok (.ifCond .gt 8, 3) := by decide +kernel
theorem dX9_mornings_36 : decode cX9_mornings 36 = .ok (.aload_n 0, 1) := by decide +kernel
theorem dX9_mornings_37 : decode cX9_mornings 37 = .ok (.invokevirtual 110, 3) := by decide +kernel
theorem dX9_mornings_40 : decode cX9_mornings 40 = .ok (.ireturn, 1) := by decide +kernel
theorem dX9_mornings_41 : decode cX9_mornings 41 = .ok (.aload_n 0, 1) := by decide +kernel
theorem dX9_mornings_42 : decode cX9_mornings 42 = .ok (.getfield 75, 3) := by decide +kernel
theorem dX9_mornings_45 : decode cX9_mornings 45 = .ok (.getfield 103, 3) := by decide +kernel
theorem dX9_mornings_48 : decode cX9_mornings 48 = .ok (.iconst 0, 1) := by decide +kernel
theorem dX9_mornings_49 : decode cX9_mornings 49 = .ok (.aload_n 0, 1) := by decide +kernel
theorem dX9_mornings_50 : decode cX9_mornings 50 = .ok (.getfield 15, 3) := by decide +kernel
theorem dX9_mornings_53 : decode cX9_mornings 53 = .ok (.iconst 0, 1) := by decide +kernel
theorem dX9_mornings_54 : decode cX9_mornings 54 = .ok (.bipush 22, 2) := by decide +kernel
theorem dX9_mornings_56 : decode cX9_mornings 56 = .ok (.invokestatic 223, 3) := by decide +kernel
theorem dX9_mornings_59 : decode cX9_mornings 59 = .ok (.iload_n 1, 1) := by decide +kernel
theorem dX9_mornings_60 : decode cX9_mornings 60 = .ok (.i2l, 1) := by decide +kernel
theorem dX9_mornings_61 : decode cX9_mornings 61 = .ok (.lstore_n 3, 1) := by decide +kernel
theorem dX9_mornings_62 : decode cX9_mornings 62 = .ok (.iconst 0, 1) := by decide +kernel
theorem dX9_mornings_63 : decode cX9_mornings 63 = .ok (.istore 5, 2) := by decide +kernel
theorem dX9_mornings_65 : decode cX9_mornings 65 = .ok (.iconst 0, 1) := by decide +kernel
theorem dX9_mornings_66 : decode cX9_mornings 66 = .ok (.istore 6, 2) := by decide +kernel
theorem dX9_mornings_68 : decode cX9_mornings 68 = .ok (.iload 6, 2) := by decide +kernel
theorem dX9_mornings_70 : decode cX9_mornings 70 = .ok (.iload_n 2, 1) := by decide +kernel
theorem dX9_mornings_71 : decode cX9_mornings 71 = .ok (.if_icmp .ge 87, 3) := by decide +kernel
theorem dX9_mornings_74 : decode cX9_mornings 74 = .ok (.lload_n 3, 1) := by decide +kernel
theorem dX9_mornings_75 : decode cX9_mornings 75 = .ok (.invokestatic 271, 3) := by decide +kernel
theorem dX9_mornings_78 : decode cX9_mornings 78 = .ok (.lstore_n 3, 1) := by decide +kernel
theorem dX9_mornings_79 : decode cX9_mornings 79 = .ok (.lload_n 3, 1) := by decide +kernel
theorem dX9_mornings_80 : decode cX9_mornings 80 = .ok (.ldc2_w 275, 3) := by decide +kernel
theorem dX9_mornings_83 : decode cX9_mornings 83 = .ok (.ldiv, 1) := by decide +kernel
theorem dX9_mornings_84 : decode cX9_mornings 84 = .ok (.aload_n 0, 1) := by decide +kernel
theorem dX9_mornings_85 : decode cX9_mornings 85 = .ok (.getfield 75, 3) := by decide +kernel
theorem dX9_mornings_88 : decode cX9_mornings 88 = .ok (.getfield 82, 3) := by decide +kernel
theorem dX9_mornings_91 : decode cX9_mornings 91 = .ok (.i2l, 1) := by decide +kernel
theorem dX9_mornings_92 : decode cX9_mornings 92 = .ok (.lrem, 1) := by decide +kernel
theorem dX9_mornings_93 : decode cX9_mornings 93 = .ok (.l2i, 1) := by decide +kernel
theorem dX9_mornings_94 : decode cX9_mornings 94 = .ok (.istore 7, 2) := by decide +kernel
theorem dX9_mornings_96 : decode cX9_mornings 96 = .ok (.lload_n 3, 1) := by decide +kernel
theorem dX9_mornings_97 : decode cX9_mornings 97 = .ok (.invokestatic 271, 3) := by decide +kernel
theorem dX9_mornings_100 : decode cX9_mornings 100 = .ok (.lstore_n 3, 1) := by decide +kernel
theorem dX9_mornings_101 : decode cX9_mornings 101 = .ok (.lload_n 3, 1) := by decide +kernel
theorem dX9_mornings_102 : decode cX9_mornings 102 = .ok (.ldc2_w 275, 3) := by decide +kernel
theorem dX9_mornings_105 : decode cX9_mornings 105 = .ok (.ldiv, 1) := by decide +kernel
theorem dX9_mornings_106 : decode cX9_mornings 106 = .ok (.ldc2_w 277, 3) := by decide +kernel
theorem dX9_mornings_109 : decode cX9_mornings 109 = .ok (.lrem, 1) := by decide +kernel
theorem dX9_mornings_110 : decode cX9_mornings 110 = .ok (.l2i, 1) := by decide +kernel
theorem dX9_mornings_111 : decode cX9_mornings 111 = .ok (.istore 8, 2) := by decide +kernel
theorem dX9_mornings_113 : decode cX9_mornings 113 = .ok (.aload_n 0, 1) := by decide +kernel
theorem dX9_mornings_114 : decode cX9_mornings 114 = .ok (.getfield 75, 3) := by decide +kernel
theorem dX9_mornings_117 : decode cX9_mornings 117 = .ok (.iload 8, 2) := by decide +kernel
theorem dX9_mornings_119 : decode cX9_mornings 119 = .ok (.invokevirtual 125, 3) := by decide +kernel
theorem dX9_mornings_122 : decode cX9_mornings 122 = .ok (.ifCond .eq 14, 3) := by decide +kernel
theorem dX9_mornings_125 : decode cX9_mornings 125 = .ok (.aload_n 0, 1) := by decide +kernel
theorem dX9_mornings_126 : decode cX9_mornings 126 = .ok (.getfield 15, 3) := by decide +kernel
theorem dX9_mornings_129 : decode cX9_mornings 129 = .ok (.iconst 1, 1) := by decide +kernel
theorem dX9_mornings_130 : decode cX9_mornings 130 = .ok (.iload 7, 2) := by decide +kernel
theorem dX9_mornings_132 : decode cX9_mornings 132 = .ok (.iadd, 1) := by decide +kernel
theorem dX9_mornings_133 : decode cX9_mornings 133 = .ok (.iload 8, 2) := by decide +kernel
theorem dX9_mornings_135 : decode cX9_mornings 135 = .ok (.iastore, 1) := by decide +kernel
theorem dX9_mornings_136 : decode cX9_mornings 136 = .ok (.iload 5, 2) := by decide +kernel
theorem dX9_mornings_138 : decode cX9_mornings 138 = .ok (.aload_n 0, 1) := by decide +kernel
theorem dX9_mornings_139 : decode cX9_mornings 139 = .ok (.getfield 75, 3) := by decide +kernel
theorem dX9_mornings_142 : decode cX9_mornings 142 = .ok (.aload_n 0, 1) := by decide +kernel
theorem dX9_mornings_143 : decode cX9_mornings 143 = .ok (.getfield 15, 3) := by decide +kernel
theorem dX9_mornings_146 : decode cX9_mornings 146 = .ok (.invokevirtual 162, 3) := by decide +kernel
theorem dX9_mornings_149 : decode cX9_mornings 149 = .ok (.iadd, 1) := by decide +kernel
theorem dX9_mornings_150 : decode cX9_mornings 150 = .ok (.istore 5, 2) := by decide +kernel
theorem dX9_mornings_152 : decode cX9_mornings 152 = .ok (.iinc 6 1, 3) := by decide +kernel
theorem dX9_mornings_155 : decode cX9_mornings 155 = .ok (.goto (-87), 3) := by decide +kernel
theorem dX9_mornings_158 : decode cX9_mornings 158 = .ok (.iload 5, 2) := by decide +kernel
theorem dX9_mornings_160 : decode cX9_mornings 160 = .ok (.ireturn, 1) := by decide +kernel
theorem dX9_part_0 : decode cX9_part 0 = .ok (.iload_n 1, 1) := by decide +kernel
theorem dX9_part_1 : decode cX9_part 1 = .ok (.lookupswitch 37 #[(0, 27), (1, 32)], 27) := by decide +kernel
theorem dX9_part_28 : decode cX9_part 28 = .ok (.aload_n 0, 1) := by decide +kernel
theorem dX9_part_29 : decode cX9_part 29 = .ok (.getfield 37, 3) := by decide +kernel
theorem dX9_part_32 : decode cX9_part 32 = .ok (.lreturn, 1) := by decide +kernel
theorem dX9_part_33 : decode cX9_part 33 = .ok (.aload_n 0, 1) := by decide +kernel
theorem dX9_part_34 : decode cX9_part 34 = .ok (.getfield 41, 3) := by decide +kernel
theorem dX9_part_37 : decode cX9_part 37 = .ok (.lreturn, 1) := by decide +kernel
theorem dX9_part_38 : decode cX9_part 38 = .ok (.aload_n 0, 1) := by decide +kernel
theorem dX9_part_39 : decode cX9_part 39 = .ok (.invokevirtual 96, 3) := by decide +kernel
theorem dX9_part_42 : decode cX9_part 42 = .ok (.i2l, 1) := by decide +kernel
theorem dX9_part_43 : decode cX9_part 43 = .ok (.lreturn, 1) := by decide +kernel
theorem dX9_image_0 : decode cX9_image 0 = .ok (.iload_n 1, 1) := by decide +kernel
theorem dX9_image_1 : decode cX9_image 1 = .ok (.iconst 0, 1) := by decide +kernel
theorem dX9_image_2 : decode cX9_image 2 = .ok (.iconst 1, 1) := by decide +kernel
theorem dX9_image_3 : decode cX9_image 3 = .ok (.invokestatic 92, 3) := by decide +kernel
theorem dX9_image_6 : decode cX9_image 6 = .ok (.ifCond .ne 8, 3) := by decide +kernel
theorem dX9_image_9 : decode cX9_image 9 = .ok (.aload_n 0, 1) := by decide +kernel
theorem dX9_image_10 : decode cX9_image 10 = .ok (.invokevirtual 96, 3) := by decide +kernel
theorem dX9_image_13 : decode cX9_image 13 = .ok (.ireturn, 1) := by decide +kernel
theorem dX9_image_14 : decode cX9_image 14 = .ok (.aload_n 0, 1) := by decide +kernel
theorem dX9_image_15 : decode cX9_image 15 = .ok (.getfield 11, 3) := by decide +kernel
theorem dX9_image_18 : decode cX9_image 18 = .ok (.iload_n 1, 1) := by decide +kernel
theorem dX9_image_19 : decode cX9_image 19 = .ok (.aaload, 1) := by decide +kernel
theorem dX9_image_20 : decode cX9_image 20 = .ok (.ifnonnull 23, 3) := by decide +kernel
theorem dX9_image_23 : decode cX9_image 23 = .ok (.aload_n 0, 1) := by decide +kernel
theorem dX9_image_24 : decode cX9_image 24 = .ok (.getfield 11, 3) := by decide +kernel
theorem dX9_image_27 : decode cX9_image 27 = .ok (.iload_n 1, 1) := by decide +kernel
theorem dX9_image_28 : decode cX9_image 28 = .ok (.new 9, 3) := by decide +kernel
theorem dX9_image_31 : decode cX9_image 31 = .ok (.dup, 1) := by decide +kernel
theorem dX9_image_32 : decode cX9_image 32 = .ok (.aload_n 0, 1) := by decide +kernel
theorem dX9_image_33 : decode cX9_image 33 = .ok (.getfield 75, 3) := by decide +kernel
theorem dX9_image_36 : decode cX9_image 36 = .ok (.getfield 279, 3) := by decide +kernel
theorem dX9_image_39 : decode cX9_image 39 = .ok (.invokespecial 72, 3) := by decide +kernel
theorem dX9_image_42 : decode cX9_image 42 = .ok (.aastore, 1) := by decide +kernel
theorem dX9_image_43 : decode cX9_image 43 = .ok (.aload_n 0, 1) := by decide +kernel
theorem dX9_image_44 : decode cX9_image 44 = .ok (.getfield 11, 3) := by decide +kernel
theorem dX9_image_47 : decode cX9_image 47 = .ok (.iload_n 1, 1) := by decide +kernel
theorem dX9_image_48 : decode cX9_image 48 = .ok (.aaload, 1) := by decide +kernel
theorem dX9_image_49 : decode cX9_image 49 = .ok (.aload_n 0, 1) := by decide +kernel
theorem dX9_image_50 : decode cX9_image 50 = .ok (.getfield 75, 3) := by decide +kernel
theorem dX9_image_53 : decode cX9_image 53 = .ok (.invokevirtual 149, 3) := by decide +kernel
theorem dX9_image_56 : decode cX9_image 56 = .ok (.iconst 1, 1) := by decide +kernel
theorem dX9_image_57 : decode cX9_image 57 = .ok (.ireturn, 1) := by decide +kernel
theorem dX9_from_0 : decode cX9_from 0 = .ok (.iload_n 1, 1) := by decide +kernel
theorem dX9_from_1 : decode cX9_from 1 = .ok (.iconst 0, 1) := by decide +kernel
theorem dX9_from_2 : decode cX9_from 2 = .ok (.iconst 1, 1) := by decide +kernel
theorem dX9_from_3 : decode cX9_from 3 = .ok (.invokestatic 92, 3) := by decide +kernel
theorem dX9_from_6 : decode cX9_from 6 = .ok (.ifCond .ne 8, 3) := by decide +kernel
theorem dX9_from_9 : decode cX9_from 9 = .ok (.aload_n 0, 1) := by decide +kernel
theorem dX9_from_10 : decode cX9_from 10 = .ok (.invokevirtual 96, 3) := by decide +kernel
theorem dX9_from_13 : decode cX9_from 13 = .ok (.ireturn, 1) := by decide +kernel
theorem dX9_from_14 : decode cX9_from 14 = .ok (.aload_n 0, 1) := by decide +kernel
theorem dX9_from_15 : decode cX9_from 15 = .ok (.getfield 11, 3) := by decide +kernel
theorem dX9_from_18 : decode cX9_from 18 = .ok (.iload_n 1, 1) := by decide +kernel
theorem dX9_from_19 : decode cX9_from 19 = .ok (.aaload, 1) := by decide +kernel
theorem dX9_from_20 : decode cX9_from 20 = .ok (.ifnonnull 8, 3) := by decide +kernel
theorem dX9_from_23 : decode cX9_from 23 = .ok (.aload_n 0, 1) := by decide +kernel
theorem dX9_from_24 : decode cX9_from 24 = .ok (.invokevirtual 110, 3) := by decide +kernel
theorem dX9_from_27 : decode cX9_from 27 = .ok (.ireturn, 1) := by decide +kernel
theorem dX9_from_28 : decode cX9_from 28 = .ok (.aload_n 0, 1) := by decide +kernel
theorem dX9_from_29 : decode cX9_from 29 = .ok (.getfield 75, 3) := by decide +kernel
theorem dX9_from_32 : decode cX9_from 32 = .ok (.aload_n 0, 1) := by decide +kernel
theorem dX9_from_33 : decode cX9_from 33 = .ok (.getfield 11, 3) := by decide +kernel
theorem dX9_from_36 : decode cX9_from 36 = .ok (.iload_n 1, 1) := by decide +kernel
theorem dX9_from_37 : decode cX9_from 37 = .ok (.aaload, 1) := by decide +kernel
theorem dX9_from_38 : decode cX9_from 38 = .ok (.invokevirtual 149, 3) := by decide +kernel
theorem dX9_from_41 : decode cX9_from 41 = .ok (.iconst 1, 1) := by decide +kernel
theorem dX9_from_42 : decode cX9_from 42 = .ok (.ireturn, 1) := by decide +kernel
theorem dX9_status_0 : decode cX9_status 0 = .ok (.iload_n 1, 1) := by decide +kernel
theorem dX9_status_1 : decode cX9_status 1 = .ok (.tableswitch 42 0 2 #[27, 32, 37], 27) := by decide +kernel
theorem dX9_status_28 : decode cX9_status 28 = .ok (.aload_n 0, 1) := by decide +kernel
theorem dX9_status_29 : decode cX9_status 29 = .ok (.getfield 44, 3) := by decide +kernel
theorem dX9_status_32 : decode cX9_status 32 = .ok (.ireturn, 1) := by decide +kernel
theorem dX9_status_33 : decode cX9_status 33 = .ok (.aload_n 0, 1) := by decide +kernel
theorem dX9_status_34 : decode cX9_status 34 = .ok (.getfield 48, 3) := by decide +kernel
theorem dX9_status_37 : decode cX9_status 37 = .ok (.ireturn, 1) := by decide +kernel
theorem dX9_status_38 : decode cX9_status 38 = .ok (.aload_n 0, 1) := by decide +kernel
theorem dX9_status_39 : decode cX9_status 39 = .ok (.getfield 51, 3) := by decide +kernel
theorem dX9_status_42 : decode cX9_status 42 = .ok (.ireturn, 1) := by decide +kernel
theorem dX9_status_43 : decode cX9_status 43 = .ok (.aload_n 0, 1) := by decide +kernel
theorem dX9_status_44 : decode cX9_status 44 = .ok (.invokevirtual 96, 3) := by decide +kernel
theorem dX9_status_47 : decode cX9_status 47 = .ok (.pop, 1) := by decide +kernel
theorem dX9_status_48 : decode cX9_status 48 = .ok (.iconst (-1), 1) := by decide +kernel
theorem dX9_status_49 : decode cX9_status 49 = .ok (.ireturn, 1) := by decide +kernel
theorem dX9_count_0 : decode cX9_count 0 = .ok (.iload_n 1, 1) := by decide +kernel
theorem dX9_count_1 : decode cX9_count 1 = .ok (.iconst 0, 1) := by decide +kernel
theorem dX9_count_2 : decode cX9_count 2 = .ok (.bipush 6, 2) := by decide +kernel
theorem dX9_count_4 : decode cX9_count 4 = .ok (.invokestatic 92, 3) := by decide +kernel
theorem dX9_count_7 : decode cX9_count 7 = .ok (.ifCond .eq 11, 3) := by decide +kernel
theorem dX9_count_10 : decode cX9_count 10 = .ok (.aload_n 0, 1) := by decide +kernel
theorem dX9_count_11 : decode cX9_count 11 = .ok (.iload_n 1, 1) := by decide +kernel
theorem dX9_count_12 : decode cX9_count 12 = .ok (.invokevirtual 283, 3) := by decide +kernel
theorem dX9_count_15 : decode cX9_count 15 = .ok (.goto 7, 3) := by decide +kernel
theorem dX9_count_18 : decode cX9_count 18 = .ok (.aload_n 0, 1) := by decide +kernel
theorem dX9_count_19 : decode cX9_count 19 = .ok (.invokevirtual 96, 3) := by decide +kernel
theorem dX9_count_22 : decode cX9_count 22 = .ok (.ireturn, 1) := by decide +kernel
theorem dX9_digest_0 : decode cX9_digest 0 = .ok (.ldc2_w 286, 3) := by decide +kernel
theorem dX9_digest_3 : decode cX9_digest 3 = .ok (.lstore_n 1, 1) := by decide +kernel
theorem dX9_digest_4 : decode cX9_digest 4 = .ok (.iconst 0, 1) := by decide +kernel
theorem dX9_digest_5 : decode cX9_digest 5 = .ok (.istore_n 3, 1) := by decide +kernel
theorem dX9_digest_6 : decode cX9_digest 6 = .ok (.iload_n 3, 1) := by decide +kernel
theorem dX9_digest_7 : decode cX9_digest 7 = .ok (.bipush 6, 2) := by decide +kernel
theorem dX9_digest_9 : decode cX9_digest 9 = .ok (.if_icmp .gt 22, 3) := by decide +kernel
theorem dX9_digest_12 : decode cX9_digest 12 = .ok (.ldc2_w 288, 3) := by decide +kernel
theorem dX9_digest_15 : decode cX9_digest 15 = .ok (.lload_n 1, 1) := by decide +kernel
theorem dX9_digest_16 : decode cX9_digest 16 = .ok (.lmul, 1) := by decide +kernel
theorem dX9_digest_17 : decode cX9_digest 17 = .ok (.aload_n 0, 1) := by decide +kernel
theorem dX9_digest_18 : decode cX9_digest 18 = .ok (.iload_n 3, 1) := by decide +kernel
theorem dX9_digest_19 : decode cX9_digest 19 = .ok (.invokevirtual 283, 3) := by decide +kernel
theorem dX9_digest_22 : decode cX9_digest 22 = .ok (.i2l, 1) := by decide +kernel
theorem dX9_digest_23 : decode cX9_digest 23 = .ok (.ladd, 1) := by decide +kernel
theorem dX9_digest_24 : decode cX9_digest 24 = .ok (.lstore_n 1, 1) := by decide +kernel
theorem dX9_digest_25 : decode cX9_digest 25 = .ok (.iinc 3 1, 3) := by decide +kernel
theorem dX9_digest_28 : decode cX9_digest 28 = .ok (.goto (-22), 3) := by decide +kernel
theorem dX9_digest_31 : decode cX9_digest 31 = .ok (.aload_n 0, 1) := by decide +kernel
theorem dX9_digest_32 : decode cX9_digest 32 = .ok (.getfield 75, 3) := by decide +kernel
theorem dX9_digest_35 : decode cX9_digest 35 = .ok (.lload_n 1, 1) := by decide +kernel
theorem dX9_digest_36 : decode cX9_digest 36 = .ok (.invokevirtual 290, 3) := by decide +kernel
theorem dX9_digest_39 : decode cX9_digest 39 = .ok (.lstore_n 1, 1) := by decide +kernel
theorem dX9_digest_40 : decode cX9_digest 40 = .ok (.ldc2_w 288, 3) := by decide +kernel
theorem dX9_digest_43 : decode cX9_digest 43 = .ok (.lload_n 1, 1) := by decide +kernel
theorem dX9_digest_44 : decode cX9_digest 44 = .ok (.lmul, 1) := by decide +kernel
theorem dX9_digest_45 : decode cX9_digest 45 = .ok (.aload_n 0, 1) := by decide +kernel
theorem dX9_digest_46 : decode cX9_digest 46 = .ok (.getfield 37, 3) := by decide +kernel
theorem dX9_digest_49 : decode cX9_digest 49 = .ok (.ladd, 1) := by decide +kernel
theorem dX9_digest_50 : decode cX9_digest 50 = .ok (.lstore_n 1, 1) := by decide +kernel
theorem dX9_digest_51 : decode cX9_digest 51 = .ok (.ldc2_w 288, 3) := by decide +kernel
theorem dX9_digest_54 : decode cX9_digest 54 = .ok (.lload_n 1, 1) := by decide +kernel
theorem dX9_digest_55 : decode cX9_digest 55 = .ok (.lmul, 1) := by decide +kernel
theorem dX9_digest_56 : decode cX9_digest 56 = .ok (.aload_n 0, 1) := by decide +kernel
theorem dX9_digest_57 : decode cX9_digest 57 = .ok (.getfield 41, 3) := by decide +kernel
theorem dX9_digest_60 : decode cX9_digest 60 = .ok (.ladd, 1) := by decide +kernel
theorem dX9_digest_61 : decode cX9_digest 61 = .ok (.lreturn, 1) := by decide +kernel
theorem dX9_bad_0 : decode cX9_bad 0 = .ok (.aload_n 0, 1) := by decide +kernel
theorem dX9_bad_1 : decode cX9_bad 1 = .ok (.dup, 1) := by decide +kernel
theorem dX9_bad_2 : decode cX9_bad 2 = .ok (.getfield 44, 3) := by decide +kernel
theorem dX9_bad_5 : decode cX9_bad 5 = .ok (.iconst 1, 1) := by decide +kernel
theorem dX9_bad_6 : decode cX9_bad 6 = .ok (.iadd, 1) := by decide +kernel
theorem dX9_bad_7 : decode cX9_bad 7 = .ok (.putfield 44, 3) := by decide +kernel
theorem dX9_bad_10 : decode cX9_bad 10 = .ok (.bipush (-2), 2) := by decide +kernel
theorem dX9_bad_12 : decode cX9_bad 12 = .ok (.ireturn, 1) := by decide +kernel
theorem dX9_badAsTen_0 : decode cX9_badAsTen 0 = .ok (.aload_n 0, 1) := by decide +kernel
theorem dX9_badAsTen_1 : decode cX9_badAsTen 1 = .ok (.invokevirtual 96, 3) := by decide +kernel
theorem dX9_badAsTen_4 : decode cX9_badAsTen 4 = .ok (.pop, 1) := by decide +kernel
theorem dX9_badAsTen_5 : decode cX9_badAsTen 5 = .ok (.bipush (-10), 2) := by decide +kernel
theorem dX9_badAsTen_7 : decode cX9_badAsTen 7 = .ok (.ireturn, 1) := by decide +kernel
theorem dX9_no_0 : decode cX9_no 0 = .ok (.aload_n 0, 1) := by decide +kernel
theorem dX9_no_1 : decode cX9_no 1 = .ok (.dup, 1) := by decide +kernel
theorem dX9_no_2 : decode cX9_no 2 = .ok (.getfield 48, 3) := by decide +kernel
theorem dX9_no_5 : decode cX9_no 5 = .ok (.iconst 1, 1) := by decide +kernel
theorem dX9_no_6 : decode cX9_no 6 = .ok (.iadd, 1) := by decide +kernel
theorem dX9_no_7 : decode cX9_no 7 = .ok (.putfield 48, 3) := by decide +kernel
theorem dX9_no_10 : decode cX9_no 10 = .ok (.bipush (-3), 2) := by decide +kernel
theorem dX9_no_12 : decode cX9_no 12 = .ok (.ireturn, 1) := by decide +kernel
theorem dX9_full_0 : decode cX9_full 0 = .ok (.aload_n 0, 1) := by decide +kernel
theorem dX9_full_1 : decode cX9_full 1 = .ok (.dup, 1) := by decide +kernel
theorem dX9_full_2 : decode cX9_full 2 = .ok (.getfield 51, 3) := by decide +kernel
theorem dX9_full_5 : decode cX9_full 5 = .ok (.iconst 1, 1) := by decide +kernel
theorem dX9_full_6 : decode cX9_full 6 = .ok (.iadd, 1) := by decide +kernel
theorem dX9_full_7 : decode cX9_full 7 = .ok (.putfield 51, 3) := by decide +kernel
theorem dX9_full_10 : decode cX9_full 10 = .ok (.bipush (-4), 2) := by decide +kernel
theorem dX9_full_12 : decode cX9_full 12 = .ok (.ireturn, 1) := by decide +kernel
theorem dX9_isOne_0 : decode cX9_isOne 0 = .ok (.iload_n 1, 1) := by decide +kernel
theorem dX9_isOne_1 : decode cX9_isOne 1 = .ok (.ifCond .lt 18, 3) := by decide +kernel
theorem dX9_isOne_4 : decode cX9_isOne 4 = .ok (.iload_n 1, 1) := by decide +kernel
theorem dX9_isOne_5 : decode cX9_isOne 5 = .ok (.aload_n 0, 1) := by decide +kernel
theorem dX9_isOne_6 : decode cX9_isOne 6 = .ok (.getfield 75, 3) := by decide +kernel
theorem dX9_isOne_9 : decode cX9_isOne 9 = .ok (.getfield 82, 3) := by decide +kernel
theorem dX9_isOne_12 : decode cX9_isOne 12 = .ok (.if_icmp .ge 7, 3) := by decide +kernel
theorem dX9_isOne_15 : decode cX9_isOne 15 = .ok (.iconst 1, 1) := by decide +kernel
theorem dX9_isOne_16 : decode cX9_isOne 16 = .ok (.goto 4, 3) := by decide +kernel
theorem dX9_isOne_19 : decode cX9_isOne 19 = .ok (.iconst 0, 1) := by decide +kernel
theorem dX9_isOne_20 : decode cX9_isOne 20 = .ok (.ireturn, 1) := by decide +kernel
theorem dX9_isLane_0 : decode cX9_isLane 0 = .ok (.iload_n 0, 1) := by decide +kernel
theorem dX9_isLane_1 : decode cX9_isLane 1 = .ok (.iconst 0, 1) := by decide +kernel
theorem dX9_isLane_2 : decode cX9_isLane 2 = .ok (.iconst 3, 1) := by decide +kernel
theorem dX9_isLane_3 : decode cX9_isLane 3 = .ok (.invokestatic 92, 3) := by decide +kernel
theorem dX9_isLane_6 : decode cX9_isLane 6 = .ok (.ireturn, 1) := by decide +kernel
theorem dX9_isKind_0 : decode cX9_isKind 0 = .ok (.iload_n 0, 1) := by decide +kernel
theorem dX9_isKind_1 : decode cX9_isKind 1 = .ok (.iconst 0, 1) := by decide +kernel
theorem dX9_isKind_2 : decode cX9_isKind 2 = .ok (.iconst 5, 1) := by decide +kernel
theorem dX9_isKind_3 : decode cX9_isKind 3 = .ok (.invokestatic 92, 3) := by decide +kernel
theorem dX9_isKind_6 : decode cX9_isKind 6 = .ok (.ireturn, 1) := by decide +kernel
theorem dX9_isPace_0 : decode cX9_isPace 0 = .ok (.iload_n 0, 1) := by decide +kernel
theorem dX9_isPace_1 : decode cX9_isPace 1 = .ok (.bipush 20, 2) := by decide +kernel
theorem dX9_isPace_3 : decode cX9_isPace 3 = .ok (.bipush 90, 2) := by decide +kernel
theorem dX9_isPace_5 : decode cX9_isPace 5 = .ok (.invokestatic 92, 3) := by decide +kernel
theorem dX9_isPace_8 : decode cX9_isPace 8 = .ok (.ireturn, 1) := by decide +kernel
theorem dX9_within_0 : decode cX9_within 0 = .ok (.iload_n 0, 1) := by decide +kernel
theorem dX9_within_1 : decode cX9_within 1 = .ok (.iload_n 1, 1) := by decide +kernel
theorem dX9_within_2 : decode cX9_within 2 = .ok (.if_icmp .lt 12, 3) := by decide +kernel
theorem dX9_within_5 : decode cX9_within 5 = .ok (.iload_n 0, 1) := by decide +kernel
theorem dX9_within_6 : decode cX9_within 6 = .ok (.iload_n 2, 1) := by decide +kernel
theorem dX9_within_7 : decode cX9_within 7 = .ok (.if_icmp .gt 7, 3) := by decide +kernel
theorem dX9_within_10 : decode cX9_within 10 = .ok (.iconst 1, 1) := by decide +kernel
theorem dX9_within_11 : decode cX9_within 11 = .ok (.goto 4, 3) := by decide +kernel
theorem dX9_within_14 : decode cX9_within 14 = .ok (.iconst 0, 1) := by decide +kernel
theorem dX9_within_15 : decode cX9_within 15 = .ok (.ireturn, 1) := by decide +kernel
theorem dX9_has_0 : decode cX9_has 0 = .ok (.iload_n 0, 1) := by decide +kernel
theorem dX9_has_1 : decode cX9_has 1 = .ok (.iload_n 1, 1) := by decide +kernel
theorem dX9_has_2 : decode cX9_has 2 = .ok (.ishr, 1) := by decide +kernel
theorem dX9_has_3 : decode cX9_has 3 = .ok (.iconst 1, 1) := by decide +kernel
theorem dX9_has_4 : decode cX9_has 4 = .ok (.iand, 1) := by decide +kernel
theorem dX9_has_5 : decode cX9_has 5 = .ok (.ifCond .eq 7, 3) := by decide +kernel
theorem dX9_has_8 : decode cX9_has 8 = .ok (.iconst 1, 1) := by decide +kernel
theorem dX9_has_9 : decode cX9_has 9 = .ok (.goto 4, 3) := by decide +kernel
theorem dX9_has_12 : decode cX9_has 12 = .ok (.iconst 0, 1) := by decide +kernel
theorem dX9_has_13 : decode cX9_has 13 = .ok (.ireturn, 1) := by decide +kernel
theorem dX9_howMany_0 : decode cX9_howMany 0 = .ok (.iload_n 1, 1) := by decide +kernel
theorem dX9_howMany_1 : decode cX9_howMany 1 = .ok (.tableswitch 89 0 5 #[39, 47, 57, 65, 73, 81], 39) := by decide +kernel
theorem dX9_howMany_40 : decode cX9_howMany 40 = .ok (.aload_n 0, 1) := by decide +kernel
theorem dX9_howMany_41 : decode cX9_howMany 41 = .ok (.getfield 75, 3) := by decide +kernel
theorem dX9_howMany_44 : decode cX9_howMany 44 = .ok (.getfield 82, 3) := by decide +kernel
theorem dX9_howMany_47 : decode cX9_howMany 47 = .ok (.ireturn, 1) := by decide +kernel
theorem dX9_howMany_48 : decode cX9_howMany 48 = .ok (.aload_n 0, 1) := by decide +kernel
theorem dX9_howMany_49 : decode cX9_howMany 49 = .ok (.getfield 75, 3) := by decide +kernel
theorem dX9_howMany_52 : decode cX9_howMany 52 = .ok (.getfield 103, 3) := by decide +kernel
theorem dX9_howMany_55 : decode cX9_howMany 55 = .ok (.iconst 0, 1) := by decide +kernel
theorem dX9_howMany_56 : decode cX9_howMany 56 = .ok (.iaload, 1) := by decide +kernel
theorem dX9_howMany_57 : decode cX9_howMany 57 = .ok (.ireturn, 1) := by decide +kernel
theorem dX9_howMany_58 : decode cX9_howMany 58 = .ok (.aload_n 0, 1) := by decide +kernel
theorem dX9_howMany_59 : decode cX9_howMany 59 = .ok (.getfield 75, 3) := by decide +kernel
theorem dX9_howMany_62 : decode cX9_howMany 62 = .ok (.invokevirtual 293, 3) := by decide +kernel
theorem dX9_howMany_65 : decode cX9_howMany 65 = .ok (.ireturn, 1) := by decide +kernel
theorem dX9_howMany_66 : decode cX9_howMany 66 = .ok (.aload_n 0, 1) := by decide +kernel
theorem dX9_howMany_67 : decode cX9_howMany 67 = .ok (.getfield 75, 3) := by decide +kernel
theorem dX9_howMany_70 : decode cX9_howMany 70 = .ok (.invokevirtual 296, 3) := by decide +kernel
theorem dX9_howMany_73 : decode cX9_howMany 73 = .ok (.ireturn, 1) := by decide +kernel
theorem dX9_howMany_74 : decode cX9_howMany 74 = .ok (.aload_n 0, 1) := by decide +kernel
theorem dX9_howMany_75 : decode cX9_howMany 75 = .ok (.getfield 75, 3) := by decide +kernel
theorem dX9_howMany_78 : decode cX9_howMany 78 = .ok (.getfield 242, 3) := by decide +kernel
theorem dX9_howMany_81 : decode cX9_howMany 81 = .ok (.ireturn, 1) := by decide +kernel
theorem dX9_howMany_82 : decode cX9_howMany 82 = .ok (.aload_n 0, 1) := by decide +kernel
theorem dX9_howMany_83 : decode cX9_howMany 83 = .ok (.getfield 75, 3) := by decide +kernel
theorem dX9_howMany_86 : decode cX9_howMany 86 = .ok (.getfield 116, 3) := by decide +kernel
theorem dX9_howMany_89 : decode cX9_howMany 89 = .ok (.ireturn, 1) := by decide +kernel
theorem dX9_howMany_90 : decode cX9_howMany 90 = .ok (.aload_n 0, 1) := by decide +kernel
theorem dX9_howMany_91 : decode cX9_howMany 91 = .ok (.getfield 29, 3) := by decide +kernel
theorem dX9_howMany_94 : decode cX9_howMany 94 = .ok (.getfield 135, 3) := by decide +kernel
theorem dX9_howMany_97 : decode cX9_howMany 97 = .ok (.ireturn, 1) := by decide +kernel
theorem dX9_signOf_0 : decode cX9_signOf 0 = .ok (.iload_n 0, 1) := by decide +kernel
theorem dX9_signOf_1 : decode cX9_signOf 1 = .ok (.bipush 60, 2) := by decide +kernel
theorem dX9_signOf_3 : decode cX9_signOf 3 = .ok (.if_icmp .lt 5, 3) := by decide +kernel
theorem dX9_signOf_6 : decode cX9_signOf 6 = .ok (.iconst 0, 1) := by decide +kernel
theorem dX9_signOf_7 : decode cX9_signOf 7 = .ok (.ireturn, 1) := by decide +kernel
theorem dX9_signOf_8 : decode cX9_signOf 8 = .ok (.iload_n 0, 1) := by decide +kernel
theorem dX9_signOf_9 : decode cX9_signOf 9 = .ok (.bipush 40, 2) := by decide +kernel
theorem dX9_signOf_11 : decode cX9_signOf 11 = .ok (.if_icmp .ge 7, 3) := by decide +kernel
theorem dX9_signOf_14 : decode cX9_signOf 14 = .ok (.iconst 2, 1) := by decide +kernel
theorem dX9_signOf_15 : decode cX9_signOf 15 = .ok (.goto 4, 3) := by decide +kernel
theorem dX9_signOf_18 : decode cX9_signOf 18 = .ok (.iconst 1, 1) := by decide +kernel
theorem dX9_signOf_19 : decode cX9_signOf 19 = .ok (.ireturn, 1) := by decide +kernel
theorem dX9_lengthsToCome_0 : decode cX9_lengthsToCome 0 = .ok (.aload_n 0, 1) := by decide +kernel
theorem dX9_lengthsToCome_1 : decode cX9_lengthsToCome 1 = .ok (.getfield 75, 3) := by decide +kernel
theorem dX9_lengthsToCome_4 : decode cX9_lengthsToCome 4 = .ok (.aload_n 0, 1) := by decide +kernel
theorem dX9_lengthsToCome_5 : decode cX9_lengthsToCome 5 = .ok (.getfield 75, 3) := by decide +kernel
theorem dX9_lengthsToCome_8 : decode cX9_lengthsToCome 8 = .ok (.getfield 103, 3) := by decide +kernel
theorem dX9_lengthsToCome_11 : decode cX9_lengthsToCome 11 = .ok (.iload_n 1, 1) := by decide +kernel
theorem dX9_lengthsToCome_12 : decode cX9_lengthsToCome 12 = .ok (.aload_n 0, 1) := by decide +kernel
theorem dX9_lengthsToCome_13 : decode cX9_lengthsToCome 13 = .ok (.getfield 75, 3) := by decide +kernel
theorem dX9_lengthsToCome_16 : decode cX9_lengthsToCome 16 = .ok (.iload_n 1, 1) := by decide +kernel
theorem dX9_lengthsToCome_17 : decode cX9_lengthsToCome 17 = .ok (.invokevirtual 156, 3) := by decide +kernel
theorem dX9_lengthsToCome_20 : decode cX9_lengthsToCome 20 = .ok (.invokevirtual 299, 3) := by decide +kernel
theorem dX9_lengthsToCome_23 : decode cX9_lengthsToCome 23 = .ok (.istore_n 3, 1) := by decide +kernel
theorem dX9_lengthsToCome_24 : decode cX9_lengthsToCome 24 = .ok (.iload_n 2, 1) := by decide +kernel
theorem dX9_lengthsToCome_25 : decode cX9_lengthsToCome 25 = .ok (.ifCond .eq 7, 3) := by decide +kernel
theorem dX9_lengthsToCome_28 : decode cX9_lengthsToCome 28 = .ok (.iload_n 3, 1) := by decide +kernel
theorem dX9_lengthsToCome_29 : decode cX9_lengthsToCome 29 = .ok (.ifCond .gt 7, 3) := by decide +kernel
theorem dX9_lengthsToCome_32 : decode cX9_lengthsToCome 32 = .ok (.iconst 0, 1) := by decide +kernel
theorem dX9_lengthsToCome_33 : decode cX9_lengthsToCome 33 = .ok (.goto 22, 3) := by decide +kernel
theorem dX9_lengthsToCome_36 : decode cX9_lengthsToCome 36 = .ok (.aload_n 0, 1) := by decide +kernel
theorem dX9_lengthsToCome_37 : decode cX9_lengthsToCome 37 = .ok (.getfield 75, 3) := by decide +kernel
theorem dX9_lengthsToCome_40 : decode cX9_lengthsToCome 40 = .ok (.getfield 103, 3) := by decide +kernel
theorem dX9_lengthsToCome_43 : decode cX9_lengthsToCome 43 = .ok (.bipush 15, 2) := by decide +kernel
theorem dX9_lengthsToCome_45 : decode cX9_lengthsToCome 45 = .ok (.iload_n 1, 1) := by decide +kernel
theorem dX9_lengthsToCome_46 : decode cX9_lengthsToCome 46 = .ok (.iadd, 1) := by decide +kernel
theorem dX9_lengthsToCome_47 : decode cX9_lengthsToCome 47 = .ok (.iaload, 1) := by decide +kernel
theorem dX9_lengthsToCome_48 : decode cX9_lengthsToCome 48 = .ok (.bipush 60, 2) := by decide +kernel
theorem dX9_lengthsToCome_50 : decode cX9_lengthsToCome 50 = .ok (.iload_n 2, 1) := by decide +kernel
theorem dX9_lengthsToCome_51 : decode cX9_lengthsToCome 51 = .ok (.imul, 1) := by decide +kernel
theorem dX9_lengthsToCome_52 : decode cX9_lengthsToCome 52 = .ok (.iadd, 1) := by decide +kernel
theorem dX9_lengthsToCome_53 : decode cX9_lengthsToCome 53 = .ok (.iload_n 3, 1) := by decide +kernel
theorem dX9_lengthsToCome_54 : decode cX9_lengthsToCome 54 = .ok (.idiv, 1) := by decide +kernel
theorem dX9_lengthsToCome_55 : decode cX9_lengthsToCome 55 = .ok (.ireturn, 1) := by decide +kernel
theorem dX9_cheapestLane_0 : decode cX9_cheapestLane 0 = .ok (.iconst 0, 1) := by decide +kernel
theorem dX9_cheapestLane_1 : decode cX9_cheapestLane 1 = .ok (.istore_n 2, 1) := by decide +kernel
theorem dX9_cheapestLane_2 : decode cX9_cheapestLane 2 = .ok (.iload_n 2, 1) := by decide +kernel
theorem dX9_cheapestLane_3 : decode cX9_cheapestLane 3 = .ok (.iconst 4, 1) := by decide +kernel
theorem dX9_cheapestLane_4 : decode cX9_cheapestLane 4 = .ok (.if_icmp .ge 42, 3) := by decide +kernel
theorem dX9_cheapestLane_7 : decode cX9_cheapestLane 7 = .ok (.aload_n 0, 1) := by decide +kernel
theorem dX9_cheapestLane_8 : decode cX9_cheapestLane 8 = .ok (.getfield 75, 3) := by decide +kernel
theorem dX9_cheapestLane_11 : decode cX9_cheapestLane 11 = .ok (.getfield 302, 3) := by decide +kernel
theorem dX9_cheapestLane_14 : decode cX9_cheapestLane 14 = .ok (.iload_n 2, 1) := by decide +kernel
theorem dX9_cheapestLane_15 : decode cX9_cheapestLane 15 = .ok (.aload_n 0, 1) := by decide +kernel
theorem dX9_cheapestLane_16 : decode cX9_cheapestLane 16 = .ok (.getfield 75, 3) := by decide +kernel
theorem dX9_cheapestLane_19 : decode cX9_cheapestLane 19 = .ok (.aload_n 0, 1) := by decide +kernel
theorem dX9_cheapestLane_20 : decode cX9_cheapestLane 20 = .ok (.getfield 75, 3) := by decide +kernel
theorem dX9_cheapestLane_23 : decode cX9_cheapestLane 23 = .ok (.aload_n 0, 1) := by decide +kernel
theorem dX9_cheapestLane_24 : decode cX9_cheapestLane 24 = .ok (.getfield 75, 3) := by decide +kernel
theorem dX9_cheapestLane_27 : decode cX9_cheapestLane 27 = .ok (.getfield 103, 3) := by decide +kernel
theorem dX9_cheapestLane_30 : decode cX9_cheapestLane 30 = .ok (.iload_n 1, 1) := by decide +kernel
theorem dX9_cheapestLane_31 : decode cX9_cheapestLane 31 = .ok (.iload_n 2, 1) := by decide +kernel
theorem dX9_cheapestLane_32 : decode cX9_cheapestLane 32 = .ok (.invokevirtual 178, 3) := by decide +kernel
theorem dX9_cheapestLane_35 : decode cX9_cheapestLane 35 = .ok (.iload_n 1, 1) := by decide +kernel
theorem dX9_cheapestLane_36 : decode cX9_cheapestLane 36 = .ok (.invokevirtual 200, 3) := by decide +kernel
theorem dX9_cheapestLane_39 : decode cX9_cheapestLane 39 = .ok (.iastore, 1) := by decide +kernel
theorem dX9_cheapestLane_40 : decode cX9_cheapestLane 40 = .ok (.iinc 2 1, 3) := by decide +kernel
theorem dX9_cheapestLane_43 : decode cX9_cheapestLane 43 = .ok (.goto (-41), 3) := by decide +kernel
theorem dX9_cheapestLane_46 : decode cX9_cheapestLane 46 = .ok (.aload_n 0, 1) := by decide +kernel
theorem dX9_cheapestLane_47 : decode cX9_cheapestLane 47 = .ok (.getfield 75, 3) := by decide +kernel
theorem dX9_cheapestLane_50 : decode cX9_cheapestLane 50 = .ok (.invokevirtual 305, 3) := by decide +kernel
theorem dX9_cheapestLane_53 : decode cX9_cheapestLane 53 = .ok (.ireturn, 1) := by decide +kernel
theorem dX9_changeTillNobodyWould_0 : decode cX9_changeTillNobodyWould 0 = .ok (.iconst 0, 1) := by decide +kernel
theorem dX9_changeTillNobodyWould_1 : decode cX9_changeTillNobodyWould 1 = .ok (.istore_n 2, 1) := by decide +kernel
theorem dX9_changeTillNobodyWould_2 : decode cX9_changeTillNobodyWould 2 = .ok (.iconst 0, 1) := by decide +kernel
theorem dX9_changeTillNobodyWould_3 : decode cX9_changeTillNobodyWould 3 = .ok (.istore_n 3, 1) := by decide +kernel
theorem dX9_changeTillNobodyWould_4 : decode cX9_changeTillNobodyWould 4 = .ok (.iconst 0, 1) := by decide +kernel
theorem dX9_changeTillNobodyWould_5 : decode cX9_changeTillNobodyWould 5 = .ok (.istore 4, 2) := by decide +kernel
theorem dX9_changeTillNobodyWould_7 : decode cX9_changeTillNobodyWould 7 = .ok (.sipush 427, 3) := by decide +kernel
theorem dX9_changeTillNobodyWould_10 : decode cX9_changeTillNobodyWould 10 = .ok (.istore 5, 2) := by decide +kernel
theorem dX9_changeTillNobodyWould_12 : decode cX9_changeTillNobodyWould 12 = .ok (.iconst 0, 1) := by decide +kernel
theorem dX9_changeTillNobodyWould_13 : decode cX9_changeTillNobodyWould 13 = .ok (.istore 6, 2) := by decide +kernel
theorem dX9_changeTillNobodyWould_15 : decode cX9_changeTillNobodyWould 15 = .ok (.iload 6, 2) := by decide +kernel
theorem dX9_changeTillNobodyWould_17 : decode cX9_changeTillNobodyWould 17 = .ok (.iload 5, 2) := by decide +kernel
theorem dX9_changeTillNobodyWould_19 : decode cX9_changeTillNobodyWould 19 = .ok (.if_icmp .ge 115, 3) := by decide +kernel
theorem dX9_changeTillNobodyWould_22 : decode cX9_changeTillNobodyWould 22 = .ok (.iload_n 3, 1) := by decide +kernel
theorem dX9_changeTillNobodyWould_23 : decode cX9_changeTillNobodyWould 23 = .ok (.aload_n 0, 1) := by decide +kernel
theorem dX9_changeTillNobodyWould_24 : decode cX9_changeTillNobodyWould 24 = .ok (.getfield 75, 3) := by decide +kernel
theorem dX9_changeTillNobodyWould_27 : decode cX9_changeTillNobodyWould 27 = .ok (.getfield 82, 3) := by decide +kernel
theorem dX9_changeTillNobodyWould_30 : decode cX9_changeTillNobodyWould 30 = .ok (.if_icmp .ge 104, 3) := by decide +kernel
theorem dX9_changeTillNobodyWould_33 : decode cX9_changeTillNobodyWould 33 = .ok (.iload_n 2, 1) := by decide +kernel
theorem dX9_changeTillNobodyWould_34 : decode cX9_changeTillNobodyWould 34 = .ok (.bipush 60, 2) := by decide +kernel
theorem dX9_changeTillNobodyWould_36 : decode cX9_changeTillNobodyWould 36 = .ok (.if_icmp .ge 98, 3) := by decide +kernel
theorem dX9_changeTillNobodyWould_39 : decode cX9_changeTillNobodyWould 39 = .ok (.aload_n 0, 1) := by decide +kernel
theorem dX9_changeTillNobodyWould_40 : decode cX9_changeTillNobodyWould 40 = .ok (.getfield 75, 3) := by decide +kernel
theorem dX9_changeTillNobodyWould_43 : decode cX9_changeTillNobodyWould 43 = .ok (.aload_n 1, 1) := by decide +kernel
theorem dX9_changeTillNobodyWould_44 : decode cX9_changeTillNobodyWould 44 = .ok (.iload 4, 2) := by decide +kernel
theorem dX9_changeTillNobodyWould_46 : decode cX9_changeTillNobodyWould 46 = .ok (.invokevirtual 197, 3) := by decide +kernel
theorem dX9_changeTillNobodyWould_49 : decode cX9_changeTillNobodyWould 49 = .ok (.istore 7, 2) := by decide +kernel
theorem dX9_changeTillNobodyWould_51 : decode cX9_changeTillNobodyWould 51 = .ok (.iinc 3 1, 3) := by decide +kernel
theorem dX9_changeTillNobodyWould_54 : decode cX9_changeTillNobodyWould 54 = .ok (.iload 7, 2) := by decide +kernel
theorem dX9_changeTillNobodyWould_56 : decode cX9_changeTillNobodyWould 56 = .ok (.iconst (-1), 1) := by decide +kernel
theorem dX9_changeTillNobodyWould_57 : decode cX9_changeTillNobodyWould 57 = .ok (.if_icmp .eq 47, 3) := by decide +kernel
theorem dX9_changeTillNobodyWould_60 : decode cX9_changeTillNobodyWould 60 = .ok (.aload_n 0, 1) := by decide +kernel
theorem dX9_changeTillNobodyWould_61 : decode cX9_changeTillNobodyWould 61 = .ok (.getfield 75, 3) := by decide +kernel
theorem dX9_changeTillNobodyWould_64 : decode cX9_changeTillNobodyWould 64 = .ok (.aload_n 1, 1) := by decide +kernel
theorem dX9_changeTillNobodyWould_65 : decode cX9_changeTillNobodyWould 65 = .ok (.iload 4, 2) := by decide +kernel
theorem dX9_changeTillNobodyWould_67 : decode cX9_changeTillNobodyWould 67 = .ok (.iload 7, 2) := by decide +kernel
theorem dX9_changeTillNobodyWould_69 : decode cX9_changeTillNobodyWould 69 = .ok (.invokevirtual 299, 3) := by decide +kernel
theorem dX9_changeTillNobodyWould_72 : decode cX9_changeTillNobodyWould 72 = .ok (.aload_n 0, 1) := by decide +kernel
theorem dX9_changeTillNobodyWould_73 : decode cX9_changeTillNobodyWould 73 = .ok (.getfield 75, 3) := by decide +kernel
theorem dX9_changeTillNobodyWould_76 : decode cX9_changeTillNobodyWould 76 = .ok (.aload_n 1, 1) := by decide +kernel
theorem dX9_changeTillNobodyWould_77 : decode cX9_changeTillNobodyWould 77 = .ok (.iload 4, 2) := by decide +kernel
theorem dX9_changeTillNobodyWould_79 : decode cX9_changeTillNobodyWould 79 = .ok (.aload_n 1, 1) := by decide +kernel
theorem dX9_changeTillNobodyWould_80 : decode cX9_changeTillNobodyWould 80 = .ok (.iconst 1, 1) := by decide +kernel
theorem dX9_changeTillNobodyWould_81 : decode cX9_changeTillNobodyWould 81 = .ok (.iload 4, 2) := by decide +kernel
theorem dX9_changeTillNobodyWould_83 : decode cX9_changeTillNobodyWould 83 = .ok (.iadd, 1) := by decide +kernel
theorem dX9_changeTillNobodyWould_84 : decode cX9_changeTillNobodyWould 84 = .ok (.iaload, 1) := by decide +kernel
theorem dX9_changeTillNobodyWould_85 : decode cX9_changeTillNobodyWould 85 = .ok (.invokevirtual 299, 3) := by decide +kernel
theorem dX9_changeTillNobodyWould_88 : decode cX9_changeTillNobodyWould 88 = .ok (.if_icmp .ge 16, 3) := by decide +kernel
theorem dX9_changeTillNobodyWould_91 : decode cX9_changeTillNobodyWould 91 = .ok (.aload_n 1, 1) := by decide +kernel
theorem dX9_changeTillNobodyWould_92 : decode cX9_changeTillNobodyWould 92 = .ok (.iconst 1, 1) := by decide +kernel
theorem dX9_changeTillNobodyWould_93 : decode cX9_changeTillNobodyWould 93 = .ok (.iload 4, 2) := by decide +kernel
theorem dX9_changeTillNobodyWould_95 : decode cX9_changeTillNobodyWould 95 = .ok (.iadd, 1) := by decide +kernel
theorem dX9_changeTillNobodyWould_96 : decode cX9_changeTillNobodyWould 96 = .ok (.iload 7, 2) := by decide +kernel
theorem dX9_changeTillNobodyWould_98 : decode cX9_changeTillNobodyWould 98 = .ok (.iastore, 1) := by decide +kernel
theorem dX9_changeTillNobodyWould_99 : decode cX9_changeTillNobodyWould 99 = .ok (.iinc 2 1, 3) := by decide +kernel
theorem dX9_changeTillNobodyWould_102 : decode cX9_changeTillNobodyWould 102 = .ok (.iconst 0, 1) := by decide +kernel
theorem dX9_changeTillNobodyWould_103 : decode cX9_changeTillNobodyWould 103 = .ok (.istore_n 3, 1) := by decide +kernel
theorem dX9_changeTillNobodyWould_104 : decode cX9_changeTillNobodyWould 104 = .ok (.iload 4, 2) := by decide +kernel
theorem dX9_changeTillNobodyWould_106 : decode cX9_changeTillNobodyWould 106 = .ok (.iconst 1, 1) := by decide +kernel
theorem dX9_changeTillNobodyWould_107 : decode cX9_changeTillNobodyWould 107 = .ok (.iadd, 1) := by decide +kernel
theorem dX9_changeTillNobodyWould_108 : decode cX9_changeTillNobodyWould 108 = .ok (.aload_n 0, 1) := by decide +kernel
theorem dX9_changeTillNobodyWould_109 : decode cX9_changeTillNobodyWould 109 = .ok (.getfield 75, 3) := by decide +kernel
theorem dX9_changeTillNobodyWould_112 : decode cX9_changeTillNobodyWould 112 = .ok (.getfield 82, 3) := by decide +kernel
theorem dX9_changeTillNobodyWould_115 : decode cX9_changeTillNobodyWould 115 = .ok (.if_icmp .ge 10, 3) := by decide +kernel
theorem dX9_changeTillNobodyWould_118 : decode cX9_changeTillNobodyWould 118 = .ok (.iload 4, 2) := by decide +kernel
theorem dX9_changeTillNobodyWould_120 : decode cX9_changeTillNobodyWould 120 = .ok (.iconst 1, 1) := by decide +kernel
theorem dX9_changeTillNobodyWould_121 : decode cX9_changeTillNobodyWould 121 = .ok (.iadd, 1) := by decide +kernel
theorem dX9_changeTillNobodyWould_122 : decode cX9_changeTillNobodyWould 122 = .ok (.goto 4, 3) := by decide +kernel
theorem dX9_changeTillNobodyWould_125 : decode cX9_changeTillNobodyWould 125 = .ok (.iconst 0, 1) := by decide +kernel
theorem dX9_changeTillNobodyWould_126 : decode cX9_changeTillNobodyWould 126 = .ok (.istore 4, 2) := by decide +kernel
theorem dX9_changeTillNobodyWould_128 : decode cX9_changeTillNobodyWould 128 = .ok (.iinc 6 1, 3) := by decide +kernel
theorem dX9_changeTillNobodyWould_131 : decode cX9_changeTillNobodyWould 131 = .ok (.goto (-116), 3) := by decide +kernel
theorem dX9_changeTillNobodyWould_134 : decode cX9_changeTillNobodyWould 134 = .ok (.iload_n 2, 1) := by decide +kernel
theorem dX9_changeTillNobodyWould_135 : decode cX9_changeTillNobodyWould 135 = .ok (.ireturn, 1) := by decide +kernel
theorem dX9_afterwards_0 : decode cX9_afterwards 0 = .ok (.lload_n 0, 1) := by decide +kernel
theorem dX9_afterwards_1 : decode cX9_afterwards 1 = .ok (.ldc2_w 308, 3) := by decide +kernel
theorem dX9_afterwards_4 : decode cX9_afterwards 4 = .ok (.lmul, 1) := by decide +kernel
theorem dX9_afterwards_5 : decode cX9_afterwards 5 = .ok (.ldc2_w 310, 3) := by decide +kernel
theorem dX9_afterwards_8 : decode cX9_afterwards 8 = .ok (.ladd, 1) := by decide +kernel
theorem dX9_afterwards_9 : decode cX9_afterwards 9 = .ok (.ldc2_w 312, 3) := by decide +kernel
theorem dX9_afterwards_12 : decode cX9_afterwards 12 = .ok (.lrem, 1) := by decide +kernel
theorem dX9_afterwards_13 : decode cX9_afterwards 13 = .ok (.lreturn, 1) := by decide +kernel
theorem dX9_ordersOf_0 : decode cX9_ordersOf 0 = .ok (.iconst 1, 1) := by decide +kernel
theorem dX9_ordersOf_1 : decode cX9_ordersOf 1 = .ok (.istore 4, 2) := by decide +kernel
theorem dX9_ordersOf_3 : decode cX9_ordersOf 3 = .ok (.iconst 0, 1) := by decide +kernel
theorem dX9_ordersOf_4 : decode cX9_ordersOf 4 = .ok (.istore 5, 2) := by decide +kernel
theorem dX9_ordersOf_6 : decode cX9_ordersOf 6 = .ok (.iload 5, 2) := by decide +kernel
theorem dX9_ordersOf_8 : decode cX9_ordersOf 8 = .ok (.aload_n 0, 1) := by decide +kernel
theorem dX9_ordersOf_9 : decode cX9_ordersOf 9 = .ok (.getfield 75, 3) := by decide +kernel
theorem dX9_ordersOf_12 : decode cX9_ordersOf 12 = .ok (.getfield 82, 3) := by decide +kernel
theorem dX9_ordersOf_15 : decode cX9_ordersOf 15 = .ok (.if_icmp .ge 32, 3) := by decide +kernel
theorem dX9_ordersOf_18 : decode cX9_ordersOf 18 = .ok (.iload_n 1, 1) := by decide +kernel
theorem dX9_ordersOf_19 : decode cX9_ordersOf 19 = .ok (.iload 5, 2) := by decide +kernel
theorem dX9_ordersOf_21 : decode cX9_ordersOf 21 = .ok (.invokestatic 314, 3) := by decide +kernel
theorem dX9_ordersOf_24 : decode cX9_ordersOf 24 = .ok (.ifCond .eq 17, 3) := by decide +kernel
theorem dX9_ordersOf_27 : decode cX9_ordersOf 27 = .ok (.iload 4, 2) := by decide +kernel
theorem dX9_ordersOf_29 : decode cX9_ordersOf 29 = .ok (.aload_n 0, 1) := by decide +kernel
theorem dX9_ordersOf_30 : decode cX9_ordersOf 30 = .ok (.iload 5, 2) := by decide +kernel
theorem dX9_ordersOf_32 : decode cX9_ordersOf 32 = .ok (.iload_n 1, 1) := by decide +kernel
theorem dX9_ordersOf_33 : decode cX9_ordersOf 33 = .ok (.iload_n 2, 1) := by decide +kernel
theorem dX9_ordersOf_34 : decode cX9_ordersOf 34 = .ok (.iload_n 3, 1) := by decide +kernel
theorem dX9_ordersOf_35 : decode cX9_ordersOf 35 = .ok (.invokevirtual 318, 3) := by decide +kernel
theorem dX9_ordersOf_38 : decode cX9_ordersOf 38 = .ok (.imul, 1) := by decide +kernel
theorem dX9_ordersOf_39 : decode cX9_ordersOf 39 = .ok (.istore 4, 2) := by decide +kernel
theorem dX9_ordersOf_41 : decode cX9_ordersOf 41 = .ok (.iinc 5 1, 3) := by decide +kernel
theorem dX9_ordersOf_44 : decode cX9_ordersOf 44 = .ok (.goto (-38), 3) := by decide +kernel
theorem dX9_ordersOf_47 : decode cX9_ordersOf 47 = .ok (.iload 4, 2) := by decide +kernel
theorem dX9_ordersOf_49 : decode cX9_ordersOf 49 = .ok (.ireturn, 1) := by decide +kernel
theorem dX9_placesFor_0 : decode cX9_placesFor 0 = .ok (.iconst 1, 1) := by decide +kernel
theorem dX9_placesFor_1 : decode cX9_placesFor 1 = .ok (.istore 5, 2) := by decide +kernel
theorem dX9_placesFor_3 : decode cX9_placesFor 3 = .ok (.iconst 0, 1) := by decide +kernel
theorem dX9_placesFor_4 : decode cX9_placesFor 4 = .ok (.istore 6, 2) := by decide +kernel
theorem dX9_placesFor_6 : decode cX9_placesFor 6 = .ok (.iload 6, 2) := by decide +kernel
theorem dX9_placesFor_8 : decode cX9_placesFor 8 = .ok (.aload_n 0, 1) := by decide +kernel
theorem dX9_placesFor_9 : decode cX9_placesFor 9 = .ok (.getfield 75, 3) := by decide +kernel
theorem dX9_placesFor_12 : decode cX9_placesFor 12 = .ok (.getfield 82, 3) := by decide +kernel
theorem dX9_placesFor_15 : decode cX9_placesFor 15 = .ok (.if_icmp .ge 44, 3) := by decide +kernel
theorem dX9_placesFor_18 : decode cX9_placesFor 18 = .ok (.iload_n 2, 1) := by decide +kernel
theorem dX9_placesFor_19 : decode cX9_placesFor 19 = .ok (.iload 6, 2) := by decide +kernel
theorem dX9_placesFor_21 : decode cX9_placesFor 21 = .ok (.invokestatic 314, 3) := by decide +kernel
theorem dX9_placesFor_24 : decode cX9_placesFor 24 = .ok (.ifCond .eq 29, 3) := by decide +kernel
theorem dX9_placesFor_27 : decode cX9_placesFor 27 = .ok (.aload_n 0, 1) := by decide +kernel
theorem dX9_placesFor_28 : decode cX9_placesFor 28 = .ok (.iload 6, 2) := by decide +kernel
theorem dX9_placesFor_30 : decode cX9_placesFor 30 = .ok (.iload_n 1, 1) := by decide +kernel
theorem dX9_placesFor_31 : decode cX9_placesFor 31 = .ok (.invokevirtual 321, 3) := by decide +kernel
theorem dX9_placesFor_34 : decode cX9_placesFor 34 = .ok (.ifCond .eq 19, 3) := by decide +kernel
theorem dX9_placesFor_37 : decode cX9_placesFor 37 = .ok (.aload_n 0, 1) := by decide +kernel
theorem dX9_placesFor_38 : decode cX9_placesFor 38 = .ok (.iload 6, 2) := by decide +kernel
theorem dX9_placesFor_40 : decode cX9_placesFor 40 = .ok (.iload_n 1, 1) := by decide +kernel
theorem dX9_placesFor_41 : decode cX9_placesFor 41 = .ok (.iload_n 3, 1) := by decide +kernel
theorem dX9_placesFor_42 : decode cX9_placesFor 42 = .ok (.iload 4, 2) := by decide +kernel
theorem dX9_placesFor_44 : decode cX9_placesFor 44 = .ok (.invokevirtual 324, 3) := by decide +kernel
theorem dX9_placesFor_47 : decode cX9_placesFor 47 = .ok (.ifCond .eq 6, 3) := by decide +kernel
theorem dX9_placesFor_50 : decode cX9_placesFor 50 = .ok (.iinc 5 1, 3) := by decide +kernel
theorem dX9_placesFor_53 : decode cX9_placesFor 53 = .ok (.iinc 6 1, 3) := by decide +kernel
theorem dX9_placesFor_56 : decode cX9_placesFor 56 = .ok (.goto (-50), 3) := by decide +kernel
theorem dX9_placesFor_59 : decode cX9_placesFor 59 = .ok (.iload 5, 2) := by decide +kernel
theorem dX9_placesFor_61 : decode cX9_placesFor 61 = .ok (.ireturn, 1) := by decide +kernel
theorem dX9_ranksBelow_0 : decode cX9_ranksBelow 0 = .ok (.aload_n 0, 1) := by decide +kernel
theorem dX9_ranksBelow_1 : decode cX9_ranksBelow 1 = .ok (.getfield 75, 3) := by decide +kernel
theorem dX9_ranksBelow_4 : decode cX9_ranksBelow 4 = .ok (.getfield 172, 3) := by decide +kernel
theorem dX9_ranksBelow_7 : decode cX9_ranksBelow 7 = .ok (.iload_n 1, 1) := by decide +kernel
theorem dX9_ranksBelow_8 : decode cX9_ranksBelow 8 = .ok (.iaload, 1) := by decide +kernel
theorem dX9_ranksBelow_9 : decode cX9_ranksBelow 9 = .ok (.aload_n 0, 1) := by decide +kernel
theorem dX9_ranksBelow_10 : decode cX9_ranksBelow 10 = .ok (.getfield 75, 3) := by decide +kernel
theorem dX9_ranksBelow_13 : decode cX9_ranksBelow 13 = .ok (.getfield 172, 3) := by decide +kernel
theorem dX9_ranksBelow_16 : decode cX9_ranksBelow 16 = .ok (.iload_n 2, 1) := by decide +kernel
theorem dX9_ranksBelow_17 : decode cX9_ranksBelow 17 = .ok (.iaload, 1) := by decide +kernel
theorem dX9_ranksBelow_18 : decode cX9_ranksBelow 18 = .ok (.isub, 1) := by decide +kernel
theorem dX9_ranksBelow_19 : decode cX9_ranksBelow 19 = .ok (.istore_n 3, 1) := by decide +kernel
theorem dX9_ranksBelow_20 : decode cX9_ranksBelow 20 = .ok (.iload_n 3, 1) := by decide +kernel
theorem dX9_ranksBelow_21 : decode cX9_ranksBelow 21 = .ok (.ifCond .lt 12, 3) := by decide +kernel
theorem dX9_ranksBelow_24 : decode cX9_ranksBelow 24 = .ok (.iload_n 3, 1) := by decide +kernel
theorem dX9_ranksBelow_25 : decode cX9_ranksBelow 25 = .ok (.ifCond .ne 12, 3) := by decide +kernel
theorem dX9_ranksBelow_28 : decode cX9_ranksBelow 28 = .ok (.iload_n 1, 1) := by decide +kernel
theorem dX9_ranksBelow_29 : decode cX9_ranksBelow 29 = .ok (.iload_n 2, 1) := by decide +kernel
theorem dX9_ranksBelow_30 : decode cX9_ranksBelow 30 = .ok (.if_icmp .ge 7, 3) := by decide +kernel
theorem dX9_ranksBelow_33 : decode cX9_ranksBelow 33 = .ok (.iconst 1, 1) := by decide +kernel
theorem dX9_ranksBelow_34 : decode cX9_ranksBelow 34 = .ok (.goto 4, 3) := by decide +kernel
theorem dX9_ranksBelow_37 : decode cX9_ranksBelow 37 = .ok (.iconst 0, 1) := by decide +kernel
theorem dX9_ranksBelow_38 : decode cX9_ranksBelow 38 = .ok (.ireturn, 1) := by decide +kernel
theorem dX9_mayFollow_0 : decode cX9_mayFollow 0 = .ok (.iload 4, 2) := by decide +kernel
theorem dX9_mayFollow_2 : decode cX9_mayFollow 2 = .ok (.aload_n 0, 1) := by decide +kernel
theorem dX9_mayFollow_3 : decode cX9_mayFollow 3 = .ok (.getfield 75, 3) := by decide +kernel
theorem dX9_mayFollow_6 : decode cX9_mayFollow 6 = .ok (.getfield 172, 3) := by decide +kernel
theorem dX9_mayFollow_9 : decode cX9_mayFollow 9 = .ok (.iload_n 2, 1) := by decide +kernel
theorem dX9_mayFollow_10 : decode cX9_mayFollow 10 = .ok (.iaload, 1) := by decide +kernel
theorem dX9_mayFollow_11 : decode cX9_mayFollow 11 = .ok (.aload_n 0, 1) := by decide +kernel
theorem dX9_mayFollow_12 : decode cX9_mayFollow 12 = .ok (.getfield 75, 3) := by decide +kernel
theorem dX9_mayFollow_15 : decode cX9_mayFollow 15 = .ok (.getfield 172, 3) := by decide +kernel
theorem dX9_mayFollow_18 : decode cX9_mayFollow 18 = .ok (.iload_n 1, 1) := by decide +kernel
theorem dX9_mayFollow_19 : decode cX9_mayFollow 19 = .ok (.iaload, 1) := by decide +kernel
theorem dX9_mayFollow_20 : decode cX9_mayFollow 20 = .ok (.isub, 1) := by decide +kernel
theorem dX9_mayFollow_21 : decode cX9_mayFollow 21 = .ok (.imul, 1) := by decide +kernel
theorem dX9_mayFollow_22 : decode cX9_mayFollow 22 = .ok (.iload_n 3, 1) := by decide +kernel
theorem dX9_mayFollow_23 : decode cX9_mayFollow 23 = .ok (.if_icmp .gt 7, 3) := by decide +kernel
theorem dX9_mayFollow_26 : decode cX9_mayFollow 26 = .ok (.iconst 1, 1) := by decide +kernel
theorem dX9_mayFollow_27 : decode cX9_mayFollow 27 = .ok (.goto 4, 3) := by decide +kernel
theorem dX9_mayFollow_30 : decode cX9_mayFollow 30 = .ok (.iconst 0, 1) := by decide +kernel
theorem dX9_mayFollow_31 : decode cX9_mayFollow 31 = .ok (.ireturn, 1) := by decide +kernel
theorem dX9_starter_0 : decode cX9_starter 0 = .ok (.iload_n 1, 1) := by decide +kernel
theorem dX9_starter_1 : decode cX9_starter 1 = .ok (.istore 5, 2) := by decide +kernel
theorem dX9_starter_3 : decode cX9_starter 3 = .ok (.iconst (-1), 1) := by decide +kernel
theorem dX9_starter_4 : decode cX9_starter 4 = .ok (.istore 6, 2) := by decide +kernel
theorem dX9_starter_6 : decode cX9_starter 6 = .ok (.iconst 0, 1) := by decide +kernel
theorem dX9_starter_7 : decode cX9_starter 7 = .ok (.istore 7, 2) := by decide +kernel
theorem dX9_starter_9 : decode cX9_starter 9 = .ok (.iload 7, 2) := by decide +kernel
theorem dX9_starter_11 : decode cX9_starter 11 = .ok (.iload 4, 2) := by decide +kernel
theorem dX9_starter_13 : decode cX9_starter 13 = .ok (.if_icmp .gt 47, 3) := by decide +kernel
theorem dX9_starter_16 : decode cX9_starter 16 = .ok (.iload 7, 2) := by decide +kernel
theorem dX9_starter_18 : decode cX9_starter 18 = .ok (.bipush 7, 2) := by decide +kernel
theorem dX9_starter_20 : decode cX9_starter 20 = .ok (.if_icmp .ge 40, 3) := by decide +kernel
theorem dX9_starter_23 : decode cX9_starter 23 = .ok (.aload_n 0, 1) := by decide +kernel
theorem dX9_starter_24 : decode cX9_starter 24 = .ok (.iload 5, 2) := by decide +kernel
theorem dX9_starter_26 : decode cX9_starter 26 = .ok (.iload 6, 2) := by decide +kernel
theorem dX9_starter_28 : decode cX9_starter 28 = .ok (.iload_n 2, 1) := by decide +kernel
theorem dX9_starter_29 : decode cX9_starter 29 = .ok (.iload_n 3, 1) := by decide +kernel
theorem dX9_starter_30 : decode cX9_starter 30 = .ok (.invokevirtual 328, 3) := by decide +kernel
theorem dX9_starter_33 : decode cX9_starter 33 = .ok (.istore 6, 2) := by decide +kernel
theorem dX9_starter_35 : decode cX9_starter 35 = .ok (.iload 6, 2) := by decide +kernel
theorem dX9_starter_37 : decode cX9_starter 37 = .ok (.iconst (-1), 1) := by decide +kernel
theorem dX9_starter_38 : decode cX9_starter 38 = .ok (.if_icmp .ne 5, 3) := by decide +kernel
theorem dX9_starter_41 : decode cX9_starter 41 = .ok (.iconst (-1), 1) := by decide +kernel
theorem dX9_starter_42 : decode cX9_starter 42 = .ok (.ireturn, 1) := by decide +kernel
theorem dX9_starter_43 : decode cX9_starter 43 = .ok (.iload 5, 2) := by decide +kernel
theorem dX9_starter_45 : decode cX9_starter 45 = .ok (.iconst 1, 1) := by decide +kernel
theorem dX9_starter_46 : decode cX9_starter 46 = .ok (.iload 6, 2) := by decide +kernel
theorem dX9_starter_48 : decode cX9_starter 48 = .ok (.ishl, 1) := by decide +kernel
theorem dX9_starter_49 : decode cX9_starter 49 = .ok (.iconst (-1), 1) := by decide +kernel
theorem dX9_starter_50 : decode cX9_starter 50 = .ok (.ixor, 1) := by decide +kernel
theorem dX9_starter_51 : decode cX9_starter 51 = .ok (.iand, 1) := by decide +kernel
theorem dX9_starter_52 : decode cX9_starter 52 = .ok (.istore 5, 2) := by decide +kernel
theorem dX9_starter_54 : decode cX9_starter 54 = .ok (.iinc 7 1, 3) := by decide +kernel
theorem dX9_starter_57 : decode cX9_starter 57 = .ok (.goto (-48), 3) := by decide +kernel
theorem dX9_starter_60 : decode cX9_starter 60 = .ok (.iload 6, 2) := by decide +kernel
theorem dX9_starter_62 : decode cX9_starter 62 = .ok (.ireturn, 1) := by decide +kernel
theorem dX9_nextStarter_0 : decode cX9_nextStarter 0 = .ok (.iconst 0, 1) := by decide +kernel
theorem dX9_nextStarter_1 : decode cX9_nextStarter 1 = .ok (.istore 5, 2) := by decide +kernel
theorem dX9_nextStarter_3 : decode cX9_nextStarter 3 = .ok (.iload 5, 2) := by decide +kernel
theorem dX9_nextStarter_5 : decode cX9_nextStarter 5 = .ok (.aload_n 0, 1) := by decide +kernel
theorem dX9_nextStarter_6 : decode cX9_nextStarter 6 = .ok (.getfield 75, 3) := by decide +kernel
theorem dX9_nextStarter_9 : decode cX9_nextStarter 9 = .ok (.getfield 82, 3) := by decide +kernel
theorem dX9_nextStarter_12 : decode cX9_nextStarter 12 = .ok (.if_icmp .ge 64, 3) := by decide +kernel
theorem dX9_nextStarter_15 : decode cX9_nextStarter 15 = .ok (.iload_n 1, 1) := by decide +kernel
theorem dX9_nextStarter_16 : decode cX9_nextStarter 16 = .ok (.iload 5, 2) := by decide +kernel
theorem dX9_nextStarter_18 : decode cX9_nextStarter 18 = .ok (.invokestatic 314, 3) := by decide +kernel
theorem dX9_nextStarter_21 : decode cX9_nextStarter 21 = .ok (.ifCond .eq 25, 3) := by decide +kernel
theorem dX9_nextStarter_24 : decode cX9_nextStarter 24 = .ok (.iload_n 2, 1) := by decide +kernel
theorem dX9_nextStarter_25 : decode cX9_nextStarter 25 = .ok (.iconst (-1), 1) := by decide +kernel
theorem dX9_nextStarter_26 : decode cX9_nextStarter 26 = .ok (.if_icmp .eq 16, 3) := by decide +kernel
theorem dX9_nextStarter_29 : decode cX9_nextStarter 29 = .ok (.aload_n 0, 1) := by decide +kernel
theorem dX9_nextStarter_30 : decode cX9_nextStarter 30 = .ok (.iload 5, 2) := by decide +kernel
theorem dX9_nextStarter_32 : decode cX9_nextStarter 32 = .ok (.iload_n 2, 1) := by decide +kernel
theorem dX9_nextStarter_33 : decode cX9_nextStarter 33 = .ok (.iload_n 3, 1) := by decide +kernel
theorem dX9_nextStarter_34 : decode cX9_nextStarter 34 = .ok (.iload 4, 2) := by decide +kernel
theorem dX9_nextStarter_36 : decode cX9_nextStarter 36 = .ok (.invokevirtual 324, 3) := by decide +kernel
theorem dX9_nextStarter_39 : decode cX9_nextStarter 39 = .ok (.ifCond .eq 7, 3) := by decide +kernel
theorem dX9_nextStarter_42 : decode cX9_nextStarter 42 = .ok (.iconst 1, 1) := by decide +kernel
theorem dX9_nextStarter_43 : decode cX9_nextStarter 43 = .ok (.goto 4, 3) := by decide +kernel
theorem dX9_nextStarter_46 : decode cX9_nextStarter 46 = .ok (.iconst 0, 1) := by decide +kernel
theorem dX9_nextStarter_47 : decode cX9_nextStarter 47 = .ok (.istore 6, 2) := by decide +kernel
theorem dX9_nextStarter_49 : decode cX9_nextStarter 49 = .ok (.iload 6, 2) := by decide +kernel
theorem dX9_nextStarter_51 : decode cX9_nextStarter 51 = .ok (.ifCond .eq 19, 3) := by decide +kernel
theorem dX9_nextStarter_54 : decode cX9_nextStarter 54 = .ok (.aload_n 0, 1) := by decide +kernel
theorem dX9_nextStarter_55 : decode cX9_nextStarter 55 = .ok (.iload 5, 2) := by decide +kernel
theorem dX9_nextStarter_57 : decode cX9_nextStarter 57 = .ok (.iload_n 1, 1) := by decide +kernel
theorem dX9_nextStarter_58 : decode cX9_nextStarter 58 = .ok (.iload_n 3, 1) := by decide +kernel
theorem dX9_nextStarter_59 : decode cX9_nextStarter 59 = .ok (.iload 4, 2) := by decide +kernel
theorem dX9_nextStarter_61 : decode cX9_nextStarter 61 = .ok (.invokevirtual 331, 3) := by decide +kernel
theorem dX9_nextStarter_64 : decode cX9_nextStarter 64 = .ok (.ifCond .eq 6, 3) := by decide +kernel
theorem dX9_nextStarter_67 : decode cX9_nextStarter 67 = .ok (.iload 5, 2) := by decide +kernel
theorem dX9_nextStarter_69 : decode cX9_nextStarter 69 = .ok (.ireturn, 1) := by decide +kernel
theorem dX9_nextStarter_70 : decode cX9_nextStarter 70 = .ok (.iinc 5 1, 3) := by decide +kernel
theorem dX9_nextStarter_73 : decode cX9_nextStarter 73 = .ok (.goto (-70), 3) := by decide +kernel
theorem dX9_nextStarter_76 : decode cX9_nextStarter 76 = .ok (.iconst (-1), 1) := by decide +kernel
theorem dX9_nextStarter_77 : decode cX9_nextStarter 77 = .ok (.ireturn, 1) := by decide +kernel
theorem dX9_restMayFollow_0 : decode cX9_restMayFollow 0 = .ok (.iconst 0, 1) := by decide +kernel
theorem dX9_restMayFollow_1 : decode cX9_restMayFollow 1 = .ok (.istore 5, 2) := by decide +kernel
theorem dX9_restMayFollow_3 : decode cX9_restMayFollow 3 = .ok (.iload 5, 2) := by decide +kernel
theorem dX9_restMayFollow_5 : decode cX9_restMayFollow 5 = .ok (.aload_n 0, 1) := by decide +kernel
theorem dX9_restMayFollow_6 : decode cX9_restMayFollow 6 = .ok (.getfield 75, 3) := by decide +kernel
theorem dX9_restMayFollow_9 : decode cX9_restMayFollow 9 = .ok (.getfield 82, 3) := by decide +kernel
theorem dX9_restMayFollow_12 : decode cX9_restMayFollow 12 = .ok (.if_icmp .ge 56, 3) := by decide +kernel
theorem dX9_restMayFollow_15 : decode cX9_restMayFollow 15 = .ok (.iload_n 2, 1) := by decide +kernel
theorem dX9_restMayFollow_16 : decode cX9_restMayFollow 16 = .ok (.iload 5, 2) := by decide +kernel
theorem dX9_restMayFollow_18 : decode cX9_restMayFollow 18 = .ok (.invokestatic 314, 3) := by decide +kernel
theorem dX9_restMayFollow_21 : decode cX9_restMayFollow 21 = .ok (.ifCond .eq 41, 3) := by decide +kernel
theorem dX9_restMayFollow_24 : decode cX9_restMayFollow 24 = .ok (.aload_n 0, 1) := by decide +kernel
theorem dX9_restMayFollow_25 : decode cX9_restMayFollow 25 = .ok (.getfield 75, 3) := by decide +kernel
theorem dX9_restMayFollow_28 : decode cX9_restMayFollow 28 = .ok (.getfield 172, 3) := by decide +kernel
theorem dX9_restMayFollow_31 : decode cX9_restMayFollow 31 = .ok (.iload 5, 2) := by decide +kernel
theorem dX9_restMayFollow_33 : decode cX9_restMayFollow 33 = .ok (.iaload, 1) := by decide +kernel
theorem dX9_restMayFollow_34 : decode cX9_restMayFollow 34 = .ok (.aload_n 0, 1) := by decide +kernel
theorem dX9_restMayFollow_35 : decode cX9_restMayFollow 35 = .ok (.getfield 75, 3) := by decide +kernel
theorem dX9_restMayFollow_38 : decode cX9_restMayFollow 38 = .ok (.getfield 172, 3) := by decide +kernel
theorem dX9_restMayFollow_41 : decode cX9_restMayFollow 41 = .ok (.iload_n 1, 1) := by decide +kernel
theorem dX9_restMayFollow_42 : decode cX9_restMayFollow 42 = .ok (.iaload, 1) := by decide +kernel
theorem dX9_restMayFollow_43 : decode cX9_restMayFollow 43 = .ok (.if_icmp .ge 19, 3) := by decide +kernel
theorem dX9_restMayFollow_46 : decode cX9_restMayFollow 46 = .ok (.aload_n 0, 1) := by decide +kernel
theorem dX9_restMayFollow_47 : decode cX9_restMayFollow 47 = .ok (.iload 5, 2) := by decide +kernel
theorem dX9_restMayFollow_49 : decode cX9_restMayFollow 49 = .ok (.iload_n 1, 1) := by decide +kernel
theorem dX9_restMayFollow_50 : decode cX9_restMayFollow 50 = .ok (.iload_n 2, 1) := by decide +kernel
theorem dX9_restMayFollow_51 : decode cX9_restMayFollow 51 = .ok (.iload_n 3, 1) := by decide +kernel
theorem dX9_restMayFollow_52 : decode cX9_restMayFollow 52 = .ok (.iload 4, 2) := by decide +kernel
theorem dX9_restMayFollow_54 : decode cX9_restMayFollow 54 = .ok (.invokevirtual 334, 3) := by decide +kernel
theorem dX9_restMayFollow_57 : decode cX9_restMayFollow 57 = .ok (.ifCond .ne 5, 3) := by decide +kernel
theorem dX9_restMayFollow_60 : decode cX9_restMayFollow 60 = .ok (.iconst 0, 1) := by decide +kernel
theorem dX9_restMayFollow_61 : decode cX9_restMayFollow 61 = .ok (.ireturn, 1) := by decide +kernel
theorem dX9_restMayFollow_62 : decode cX9_restMayFollow 62 = .ok (.iinc 5 1, 3) := by decide +kernel
theorem dX9_restMayFollow_65 : decode cX9_restMayFollow 65 = .ok (.goto (-62), 3) := by decide +kernel
theorem dX9_restMayFollow_68 : decode cX9_restMayFollow 68 = .ok (.iconst 1, 1) := by decide +kernel
theorem dX9_restMayFollow_69 : decode cX9_restMayFollow 69 = .ok (.ireturn, 1) := by decide +kernel
theorem dX9_hasStepAbove_0 : decode cX9_hasStepAbove 0 = .ok (.iconst 0, 1) := by decide +kernel
theorem dX9_hasStepAbove_1 : decode cX9_hasStepAbove 1 = .ok (.istore 6, 2) := by decide +kernel
theorem dX9_hasStepAbove_3 : decode cX9_hasStepAbove 3 = .ok (.iload 6, 2) := by decide +kernel
theorem dX9_hasStepAbove_5 : decode cX9_hasStepAbove 5 = .ok (.aload_n 0, 1) := by decide +kernel
theorem dX9_hasStepAbove_6 : decode cX9_hasStepAbove 6 = .ok (.getfield 75, 3) := by decide +kernel
theorem dX9_hasStepAbove_9 : decode cX9_hasStepAbove 9 = .ok (.getfield 82, 3) := by decide +kernel
theorem dX9_hasStepAbove_12 : decode cX9_hasStepAbove 12 = .ok (.if_icmp .ge 90, 3) := by decide +kernel
theorem dX9_hasStepAbove_15 : decode cX9_hasStepAbove 15 = .ok (.aload_n 0, 1) := by decide +kernel
theorem dX9_hasStepAbove_16 : decode cX9_hasStepAbove 16 = .ok (.getfield 75, 3) := by decide +kernel
theorem dX9_hasStepAbove_19 : decode cX9_hasStepAbove 19 = .ok (.getfield 172, 3) := by decide +kernel
theorem dX9_hasStepAbove_22 : decode cX9_hasStepAbove 22 = .ok (.iload 6, 2) := by decide +kernel
theorem dX9_hasStepAbove_24 : decode cX9_hasStepAbove 24 = .ok (.iaload, 1) := by decide +kernel
theorem dX9_hasStepAbove_25 : decode cX9_hasStepAbove 25 = .ok (.aload_n 0, 1) := by decide +kernel
theorem dX9_hasStepAbove_26 : decode cX9_hasStepAbove 26 = .ok (.getfield 75, 3) := by decide +kernel
theorem dX9_hasStepAbove_29 : decode cX9_hasStepAbove 29 = .ok (.getfield 172, 3) := by decide +kernel
theorem dX9_hasStepAbove_32 : decode cX9_hasStepAbove 32 = .ok (.iload_n 1, 1) := by decide +kernel
theorem dX9_hasStepAbove_33 : decode cX9_hasStepAbove 33 = .ok (.iaload, 1) := by decide +kernel
theorem dX9_hasStepAbove_34 : decode cX9_hasStepAbove 34 = .ok (.if_icmp .le 29, 3) := by decide +kernel
theorem dX9_hasStepAbove_37 : decode cX9_hasStepAbove 37 = .ok (.aload_n 0, 1) := by decide +kernel
theorem dX9_hasStepAbove_38 : decode cX9_hasStepAbove 38 = .ok (.getfield 75, 3) := by decide +kernel
theorem dX9_hasStepAbove_41 : decode cX9_hasStepAbove 41 = .ok (.getfield 172, 3) := by decide +kernel
theorem dX9_hasStepAbove_44 : decode cX9_hasStepAbove 44 = .ok (.iload 6, 2) := by decide +kernel
theorem dX9_hasStepAbove_46 : decode cX9_hasStepAbove 46 = .ok (.iaload, 1) := by decide +kernel
theorem dX9_hasStepAbove_47 : decode cX9_hasStepAbove 47 = .ok (.aload_n 0, 1) := by decide +kernel
theorem dX9_hasStepAbove_48 : decode cX9_hasStepAbove 48 = .ok (.getfield 75, 3) := by decide +kernel
theorem dX9_hasStepAbove_51 : decode cX9_hasStepAbove 51 = .ok (.getfield 172, 3) := by decide +kernel
theorem dX9_hasStepAbove_54 : decode cX9_hasStepAbove 54 = .ok (.iload_n 2, 1) := by decide +kernel
theorem dX9_hasStepAbove_55 : decode cX9_hasStepAbove 55 = .ok (.iaload, 1) := by decide +kernel
theorem dX9_hasStepAbove_56 : decode cX9_hasStepAbove 56 = .ok (.if_icmp .gt 7, 3) := by decide +kernel
theorem dX9_hasStepAbove_59 : decode cX9_hasStepAbove 59 = .ok (.iconst 1, 1) := by decide +kernel
theorem dX9_hasStepAbove_60 : decode cX9_hasStepAbove 60 = .ok (.goto 4, 3) := by decide +kernel
theorem dX9_hasStepAbove_63 : decode cX9_hasStepAbove 63 = .ok (.iconst 0, 1) := by decide +kernel
theorem dX9_hasStepAbove_64 : decode cX9_hasStepAbove 64 = .ok (.istore 7, 2) := by decide +kernel
theorem dX9_hasStepAbove_66 : decode cX9_hasStepAbove 66 = .ok (.iload_n 3, 1) := by decide +kernel
theorem dX9_hasStepAbove_67 : decode cX9_hasStepAbove 67 = .ok (.iload 6, 2) := by decide +kernel
theorem dX9_hasStepAbove_69 : decode cX9_hasStepAbove 69 = .ok (.invokestatic 314, 3) := by decide +kernel
theorem dX9_hasStepAbove_72 : decode cX9_hasStepAbove 72 = .ok (.ifCond .eq 24, 3) := by decide +kernel
theorem dX9_hasStepAbove_75 : decode cX9_hasStepAbove 75 = .ok (.iload 7, 2) := by decide +kernel
theorem dX9_hasStepAbove_77 : decode cX9_hasStepAbove 77 = .ok (.ifCond .eq 19, 3) := by decide +kernel
theorem dX9_hasStepAbove_80 : decode cX9_hasStepAbove 80 = .ok (.aload_n 0, 1) := by decide +kernel
theorem dX9_hasStepAbove_81 : decode cX9_hasStepAbove 81 = .ok (.iload_n 1, 1) := by decide +kernel
theorem dX9_hasStepAbove_82 : decode cX9_hasStepAbove 82 = .ok (.iload 6, 2) := by decide +kernel
theorem dX9_hasStepAbove_84 : decode cX9_hasStepAbove 84 = .ok (.iload 4, 2) := by decide +kernel
theorem dX9_hasStepAbove_86 : decode cX9_hasStepAbove 86 = .ok (.iload 5, 2) := by decide +kernel
theorem dX9_hasStepAbove_88 : decode cX9_hasStepAbove 88 = .ok (.invokevirtual 324, 3) := by decide +kernel
theorem dX9_hasStepAbove_91 : decode cX9_hasStepAbove 91 = .ok (.ifCond .eq 5, 3) := by decide +kernel
theorem dX9_hasStepAbove_94 : decode cX9_hasStepAbove 94 = .ok (.iconst 1, 1) := by decide +kernel
theorem dX9_hasStepAbove_95 : decode cX9_hasStepAbove 95 = .ok (.ireturn, 1) := by decide +kernel
theorem dX9_hasStepAbove_96 : decode cX9_hasStepAbove 96 = .ok (.iinc 6 1, 3) := by decide +kernel
theorem dX9_hasStepAbove_99 : decode cX9_hasStepAbove 99 = .ok (.goto (-96), 3) := by decide +kernel
theorem dX9_hasStepAbove_102 : decode cX9_hasStepAbove 102 = .ok (.iconst 0, 1) := by decide +kernel
theorem dX9_hasStepAbove_103 : decode cX9_hasStepAbove 103 = .ok (.ireturn, 1) := by decide +kernel
theorem dX9_leastApart_0 : decode cX9_leastApart 0 = .ok (.iconst 0, 1) := by decide +kernel
theorem dX9_leastApart_1 : decode cX9_leastApart 1 = .ok (.istore_n 3, 1) := by decide +kernel
theorem dX9_leastApart_2 : decode cX9_leastApart 2 = .ok (.iconst (-1), 1) := by decide +kernel
theorem dX9_leastApart_3 : decode cX9_leastApart 3 = .ok (.istore 4, 2) := by decide +kernel
theorem dX9_leastApart_5 : decode cX9_leastApart 5 = .ok (.iconst 0, 1) := by decide +kernel
theorem dX9_leastApart_6 : decode cX9_leastApart 6 = .ok (.istore 5, 2) := by decide +kernel
theorem dX9_leastApart_8 : decode cX9_leastApart 8 = .ok (.iload 5, 2) := by decide +kernel
theorem dX9_leastApart_10 : decode cX9_leastApart 10 = .ok (.aload_n 0, 1) := by decide +kernel
theorem dX9_leastApart_11 : decode cX9_leastApart 11 = .ok (.getfield 75, 3) := by decide +kernel
theorem dX9_leastApart_14 : decode cX9_leastApart 14 = .ok (.getfield 82, 3) := by decide +kernel
theorem dX9_leastApart_17 : decode cX9_leastApart 17 = .ok (.if_icmp .ge 56, 3) := by decide +kernel
theorem dX9_leastApart_20 : decode cX9_leastApart 20 = .ok (.iload_n 1, 1) := by decide +kernel
theorem dX9_leastApart_21 : decode cX9_leastApart 21 = .ok (.iload 5, 2) := by decide +kernel
theorem dX9_leastApart_23 : decode cX9_leastApart 23 = .ok (.invokestatic 314, 3) := by decide +kernel
theorem dX9_leastApart_26 : decode cX9_leastApart 26 = .ok (.ifCond .eq 41, 3) := by decide +kernel
theorem dX9_leastApart_29 : decode cX9_leastApart 29 = .ok (.iload 4, 2) := by decide +kernel
theorem dX9_leastApart_31 : decode cX9_leastApart 31 = .ok (.iconst (-1), 1) := by decide +kernel
theorem dX9_leastApart_32 : decode cX9_leastApart 32 = .ok (.if_icmp .eq 31, 3) := by decide +kernel
theorem dX9_leastApart_35 : decode cX9_leastApart 35 = .ok (.iload_n 3, 1) := by decide +kernel
theorem dX9_leastApart_36 : decode cX9_leastApart 36 = .ok (.iload_n 2, 1) := by decide +kernel
theorem dX9_leastApart_37 : decode cX9_leastApart 37 = .ok (.aload_n 0, 1) := by decide +kernel
theorem dX9_leastApart_38 : decode cX9_leastApart 38 = .ok (.getfield 75, 3) := by decide +kernel
theorem dX9_leastApart_41 : decode cX9_leastApart 41 = .ok (.getfield 172, 3) := by decide +kernel
theorem dX9_leastApart_44 : decode cX9_leastApart 44 = .ok (.iload 4, 2) := by decide +kernel
theorem dX9_leastApart_46 : decode cX9_leastApart 46 = .ok (.iaload, 1) := by decide +kernel
theorem dX9_leastApart_47 : decode cX9_leastApart 47 = .ok (.aload_n 0, 1) := by decide +kernel
theorem dX9_leastApart_48 : decode cX9_leastApart 48 = .ok (.getfield 75, 3) := by decide +kernel
theorem dX9_leastApart_51 : decode cX9_leastApart 51 = .ok (.getfield 172, 3) := by decide +kernel
theorem dX9_leastApart_54 : decode cX9_leastApart 54 = .ok (.iload 5, 2) := by decide +kernel
theorem dX9_leastApart_56 : decode cX9_leastApart 56 = .ok (.iaload, 1) := by decide +kernel
theorem dX9_leastApart_57 : decode cX9_leastApart 57 = .ok (.isub, 1) := by decide +kernel
theorem dX9_leastApart_58 : decode cX9_leastApart 58 = .ok (.imul, 1) := by decide +kernel
theorem dX9_leastApart_59 : decode cX9_leastApart 59 = .ok (.invokestatic 338, 3) := by decide +kernel
theorem dX9_leastApart_62 : decode cX9_leastApart 62 = .ok (.istore_n 3, 1) := by decide +kernel
theorem dX9_leastApart_63 : decode cX9_leastApart 63 = .ok (.iload 5, 2) := by decide +kernel
theorem dX9_leastApart_65 : decode cX9_leastApart 65 = .ok (.istore 4, 2) := by decide +kernel
theorem dX9_leastApart_67 : decode cX9_leastApart 67 = .ok (.iinc 5 1, 3) := by decide +kernel
theorem dX9_leastApart_70 : decode cX9_leastApart 70 = .ok (.goto (-62), 3) := by decide +kernel
theorem dX9_leastApart_73 : decode cX9_leastApart 73 = .ok (.iload_n 3, 1) := by decide +kernel
theorem dX9_leastApart_74 : decode cX9_leastApart 74 = .ok (.ireturn, 1) := by decide +kernel
theorem dX9_kindsThatFit_0 : decode cX9_kindsThatFit 0 = .ok (.iconst 0, 1) := by decide +kernel
theorem dX9_kindsThatFit_1 : decode cX9_kindsThatFit 1 = .ok (.istore_n 2, 1) := by decide +kernel
theorem dX9_kindsThatFit_2 : decode cX9_kindsThatFit 2 = .ok (.iconst 0, 1) := by decide +kernel
theorem dX9_kindsThatFit_3 : decode cX9_kindsThatFit 3 = .ok (.istore_n 3, 1) := by decide +kernel
theorem dX9_kindsThatFit_4 : decode cX9_kindsThatFit 4 = .ok (.iload_n 3, 1) := by decide +kernel
theorem dX9_kindsThatFit_5 : decode cX9_kindsThatFit 5 = .ok (.bipush 6, 2) := by decide +kernel
theorem dX9_kindsThatFit_7 : decode cX9_kindsThatFit 7 = .ok (.if_icmp .ge 36, 3) := by decide +kernel
theorem dX9_kindsThatFit_10 : decode cX9_kindsThatFit 10 = .ok (.aload_n 0, 1) := by decide +kernel
theorem dX9_kindsThatFit_11 : decode cX9_kindsThatFit 11 = .ok (.getfield 75, 3) := by decide +kernel
theorem dX9_kindsThatFit_14 : decode cX9_kindsThatFit 14 = .ok (.iload_n 1, 1) := by decide +kernel
theorem dX9_kindsThatFit_15 : decode cX9_kindsThatFit 15 = .ok (.iload_n 3, 1) := by decide +kernel
theorem dX9_kindsThatFit_16 : decode cX9_kindsThatFit 16 = .ok (.aload_n 0, 1) := by decide +kernel
theorem dX9_kindsThatFit_17 : decode cX9_kindsThatFit 17 = .ok (.getfield 75, 3) := by decide +kernel
theorem dX9_kindsThatFit_20 : decode cX9_kindsThatFit 20 = .ok (.getfield 172, 3) := by decide +kernel
theorem dX9_kindsThatFit_23 : decode cX9_kindsThatFit 23 = .ok (.iload_n 1, 1) := by decide +kernel
theorem dX9_kindsThatFit_24 : decode cX9_kindsThatFit 24 = .ok (.iaload, 1) := by decide +kernel
theorem dX9_kindsThatFit_25 : decode cX9_kindsThatFit 25 = .ok (.invokevirtual 343, 3) := by decide +kernel
theorem dX9_kindsThatFit_28 : decode cX9_kindsThatFit 28 = .ok (.ifCond .eq 9, 3) := by decide +kernel
theorem dX9_kindsThatFit_31 : decode cX9_kindsThatFit 31 = .ok (.iload_n 2, 1) := by decide +kernel
theorem dX9_kindsThatFit_32 : decode cX9_kindsThatFit 32 = .ok (.iconst 1, 1) := by decide +kernel
theorem dX9_kindsThatFit_33 : decode cX9_kindsThatFit 33 = .ok (.iload_n 3, 1) := by decide +kernel
theorem dX9_kindsThatFit_34 : decode cX9_kindsThatFit 34 = .ok (.ishl, 1) := by decide +kernel
theorem dX9_kindsThatFit_35 : decode cX9_kindsThatFit 35 = .ok (.ior, 1) := by decide +kernel
theorem dX9_kindsThatFit_36 : decode cX9_kindsThatFit 36 = .ok (.istore_n 2, 1) := by decide +kernel
theorem dX9_kindsThatFit_37 : decode cX9_kindsThatFit 37 = .ok (.iinc 3 1, 3) := by decide +kernel
theorem dX9_kindsThatFit_40 : decode cX9_kindsThatFit 40 = .ok (.goto (-36), 3) := by decide +kernel
theorem dX9_kindsThatFit_43 : decode cX9_kindsThatFit 43 = .ok (.iload_n 2, 1) := by decide +kernel
theorem dX9_kindsThatFit_44 : decode cX9_kindsThatFit 44 = .ok (.ireturn, 1) := by decide +kernel
theorem dX9_pacesThatFit_0 : decode cX9_pacesThatFit 0 = .ok (.iconst 0, 1) := by decide +kernel
theorem dX9_pacesThatFit_1 : decode cX9_pacesThatFit 1 = .ok (.istore_n 2, 1) := by decide +kernel
theorem dX9_pacesThatFit_2 : decode cX9_pacesThatFit 2 = .ok (.bipush 20, 2) := by decide +kernel
theorem dX9_pacesThatFit_4 : decode cX9_pacesThatFit 4 = .ok (.istore_n 3, 1) := by decide +kernel
theorem dX9_pacesThatFit_5 : decode cX9_pacesThatFit 5 = .ok (.iload_n 3, 1) := by decide +kernel
theorem dX9_pacesThatFit_6 : decode cX9_pacesThatFit 6 = .ok (.bipush 90, 2) := by decide +kernel
theorem dX9_pacesThatFit_8 : decode cX9_pacesThatFit 8 = .ok (.if_icmp .gt 33, 3) := by decide +kernel
theorem dX9_pacesThatFit_11 : decode cX9_pacesThatFit 11 = .ok (.aload_n 0, 1) := by decide +kernel
theorem dX9_pacesThatFit_12 : decode cX9_pacesThatFit 12 = .ok (.getfield 75, 3) := by decide +kernel
theorem dX9_pacesThatFit_15 : decode cX9_pacesThatFit 15 = .ok (.iload_n 1, 1) := by decide +kernel
theorem dX9_pacesThatFit_16 : decode cX9_pacesThatFit 16 = .ok (.aload_n 0, 1) := by decide +kernel
theorem dX9_pacesThatFit_17 : decode cX9_pacesThatFit 17 = .ok (.getfield 75, 3) := by decide +kernel
theorem dX9_pacesThatFit_20 : decode cX9_pacesThatFit 20 = .ok (.getfield 169, 3) := by decide +kernel
theorem dX9_pacesThatFit_23 : decode cX9_pacesThatFit 23 = .ok (.iload_n 1, 1) := by decide +kernel
theorem dX9_pacesThatFit_24 : decode cX9_pacesThatFit 24 = .ok (.iaload, 1) := by decide +kernel
theorem dX9_pacesThatFit_25 : decode cX9_pacesThatFit 25 = .ok (.iload_n 3, 1) := by decide +kernel
theorem dX9_pacesThatFit_26 : decode cX9_pacesThatFit 26 = .ok (.invokevirtual 343, 3) := by decide +kernel
theorem dX9_pacesThatFit_29 : decode cX9_pacesThatFit 29 = .ok (.ifCond .eq 6, 3) := by decide +kernel
theorem dX9_pacesThatFit_32 : decode cX9_pacesThatFit 32 = .ok (.iinc 2 1, 3) := by decide +kernel
theorem dX9_pacesThatFit_35 : decode cX9_pacesThatFit 35 = .ok (.iinc 3 1, 3) := by decide +kernel
theorem dX9_pacesThatFit_38 : decode cX9_pacesThatFit 38 = .ok (.goto (-33), 3) := by decide +kernel
theorem dX9_pacesThatFit_41 : decode cX9_pacesThatFit 41 = .ok (.iload_n 2, 1) := by decide +kernel
theorem dX9_pacesThatFit_42 : decode cX9_pacesThatFit 42 = .ok (.ireturn, 1) := by decide +kernel
theorem dX9_tellingLane_0 : decode cX9_tellingLane 0 = .ok (.iload_n 2, 1) := by decide +kernel
theorem dX9_tellingLane_1 : decode cX9_tellingLane 1 = .ok (.ifCond .ne 5, 3) := by decide +kernel
theorem dX9_tellingLane_4 : decode cX9_tellingLane 4 = .ok (.iconst (-1), 1) := by decide +kernel
theorem dX9_tellingLane_5 : decode cX9_tellingLane 5 = .ok (.ireturn, 1) := by decide +kernel
theorem dX9_tellingLane_6 : decode cX9_tellingLane 6 = .ok (.iconst 0, 1) := by decide +kernel
theorem dX9_tellingLane_7 : decode cX9_tellingLane 7 = .ok (.istore_n 3, 1) := by decide +kernel
theorem dX9_tellingLane_8 : decode cX9_tellingLane 8 = .ok (.iload_n 3, 1) := by decide +kernel
theorem dX9_tellingLane_9 : decode cX9_tellingLane 9 = .ok (.iconst 4, 1) := by decide +kernel
theorem dX9_tellingLane_10 : decode cX9_tellingLane 10 = .ok (.if_icmp .ge 40, 3) := by decide +kernel
theorem dX9_tellingLane_13 : decode cX9_tellingLane 13 = .ok (.aload_n 0, 1) := by decide +kernel
theorem dX9_tellingLane_14 : decode cX9_tellingLane 14 = .ok (.getfield 75, 3) := by decide +kernel
theorem dX9_tellingLane_17 : decode cX9_tellingLane 17 = .ok (.getfield 302, 3) := by decide +kernel
theorem dX9_tellingLane_20 : decode cX9_tellingLane 20 = .ok (.iload_n 3, 1) := by decide +kernel
theorem dX9_tellingLane_21 : decode cX9_tellingLane 21 = .ok (.aload_n 0, 1) := by decide +kernel
theorem dX9_tellingLane_22 : decode cX9_tellingLane 22 = .ok (.iload_n 1, 1) := by decide +kernel
theorem dX9_tellingLane_23 : decode cX9_tellingLane 23 = .ok (.iload_n 2, 1) := by decide +kernel
theorem dX9_tellingLane_24 : decode cX9_tellingLane 24 = .ok (.aload_n 0, 1) := by decide +kernel
theorem dX9_tellingLane_25 : decode cX9_tellingLane 25 = .ok (.getfield 75, 3) := by decide +kernel
theorem dX9_tellingLane_28 : decode cX9_tellingLane 28 = .ok (.aload_n 0, 1) := by decide +kernel
theorem dX9_tellingLane_29 : decode cX9_tellingLane 29 = .ok (.getfield 75, 3) := by decide +kernel
theorem dX9_tellingLane_32 : decode cX9_tellingLane 32 = .ok (.getfield 103, 3) := by decide +kernel
theorem dX9_tellingLane_35 : decode cX9_tellingLane 35 = .ok (.iload_n 1, 1) := by decide +kernel
theorem dX9_tellingLane_36 : decode cX9_tellingLane 36 = .ok (.iload_n 3, 1) := by decide +kernel
theorem dX9_tellingLane_37 : decode cX9_tellingLane 37 = .ok (.invokevirtual 178, 3) := by decide +kernel
theorem dX9_tellingLane_40 : decode cX9_tellingLane 40 = .ok (.invokevirtual 346, 3) := by decide +kernel
theorem dX9_tellingLane_43 : decode cX9_tellingLane 43 = .ok (.iastore, 1) := by decide +kernel
theorem dX9_tellingLane_44 : decode cX9_tellingLane 44 = .ok (.iinc 3 1, 3) := by decide +kernel
theorem dX9_tellingLane_47 : decode cX9_tellingLane 47 = .ok (.goto (-39), 3) := by decide +kernel
theorem dX9_tellingLane_50 : decode cX9_tellingLane 50 = .ok (.aload_n 0, 1) := by decide +kernel
theorem dX9_tellingLane_51 : decode cX9_tellingLane 51 = .ok (.getfield 75, 3) := by decide +kernel
theorem dX9_tellingLane_54 : decode cX9_tellingLane 54 = .ok (.invokevirtual 305, 3) := by decide +kernel
theorem dX9_tellingLane_57 : decode cX9_tellingLane 57 = .ok (.ireturn, 1) := by decide +kernel
theorem dX9_mostAlike_0 : decode cX9_mostAlike 0 = .ok (.iconst 0, 1) := by decide +kernel
theorem dX9_mostAlike_1 : decode cX9_mostAlike 1 = .ok (.istore 4, 2) := by decide +kernel
theorem dX9_mostAlike_3 : decode cX9_mostAlike 3 = .ok (.iconst 0, 1) := by decide +kernel
theorem dX9_mostAlike_4 : decode cX9_mostAlike 4 = .ok (.istore 5, 2) := by decide +kernel
theorem dX9_mostAlike_6 : decode cX9_mostAlike 6 = .ok (.iload 5, 2) := by decide +kernel
theorem dX9_mostAlike_8 : decode cX9_mostAlike 8 = .ok (.bipush 6, 2) := by decide +kernel
theorem dX9_mostAlike_10 : decode cX9_mostAlike 10 = .ok (.if_icmp .ge 43, 3) := by decide +kernel
theorem dX9_mostAlike_13 : decode cX9_mostAlike 13 = .ok (.iload_n 2, 1) := by decide +kernel
theorem dX9_mostAlike_14 : decode cX9_mostAlike 14 = .ok (.iload 5, 2) := by decide +kernel
theorem dX9_mostAlike_16 : decode cX9_mostAlike 16 = .ok (.invokestatic 314, 3) := by decide +kernel
theorem dX9_mostAlike_19 : decode cX9_mostAlike 19 = .ok (.ifCond .eq 28, 3) := by decide +kernel
theorem dX9_mostAlike_22 : decode cX9_mostAlike 22 = .ok (.iload 4, 2) := by decide +kernel
theorem dX9_mostAlike_24 : decode cX9_mostAlike 24 = .ok (.aload_n 0, 1) := by decide +kernel
theorem dX9_mostAlike_25 : decode cX9_mostAlike 25 = .ok (.iload_n 1, 1) := by decide +kernel
theorem dX9_mostAlike_26 : decode cX9_mostAlike 26 = .ok (.iload_n 2, 1) := by decide +kernel
theorem dX9_mostAlike_27 : decode cX9_mostAlike 27 = .ok (.iload_n 3, 1) := by decide +kernel
theorem dX9_mostAlike_28 : decode cX9_mostAlike 28 = .ok (.aload_n 0, 1) := by decide +kernel
theorem dX9_mostAlike_29 : decode cX9_mostAlike 29 = .ok (.getfield 75, 3) := by decide +kernel
theorem dX9_mostAlike_32 : decode cX9_mostAlike 32 = .ok (.iload 5, 2) := by decide +kernel
theorem dX9_mostAlike_34 : decode cX9_mostAlike 34 = .ok (.iload_n 1, 1) := by decide +kernel
theorem dX9_mostAlike_35 : decode cX9_mostAlike 35 = .ok (.iload_n 3, 1) := by decide +kernel
theorem dX9_mostAlike_36 : decode cX9_mostAlike 36 = .ok (.invokevirtual 349, 3) := by decide +kernel
theorem dX9_mostAlike_39 : decode cX9_mostAlike 39 = .ok (.invokevirtual 352, 3) := by decide +kernel
theorem dX9_mostAlike_42 : decode cX9_mostAlike 42 = .ok (.invokestatic 338, 3) := by decide +kernel
theorem dX9_mostAlike_45 : decode cX9_mostAlike 45 = .ok (.istore 4, 2) := by decide +kernel
theorem dX9_mostAlike_47 : decode cX9_mostAlike 47 = .ok (.iinc 5 1, 3) := by decide +kernel
theorem dX9_mostAlike_50 : decode cX9_mostAlike 50 = .ok (.goto (-44), 3) := by decide +kernel
theorem dX9_mostAlike_53 : decode cX9_mostAlike 53 = .ok (.iload 4, 2) := by decide +kernel
theorem dX9_mostAlike_55 : decode cX9_mostAlike 55 = .ok (.ireturn, 1) := by decide +kernel
theorem dX9_howManyAlike_0 : decode cX9_howManyAlike 0 = .ok (.iconst 0, 1) := by decide +kernel
theorem dX9_howManyAlike_1 : decode cX9_howManyAlike 1 = .ok (.istore 5, 2) := by decide +kernel
theorem dX9_howManyAlike_3 : decode cX9_howManyAlike 3 = .ok (.iconst 0, 1) := by decide +kernel
theorem dX9_howManyAlike_4 : decode cX9_howManyAlike 4 = .ok (.istore 6, 2) := by decide +kernel
theorem dX9_howManyAlike_6 : decode cX9_howManyAlike 6 = .ok (.iload 6, 2) := by decide +kernel
theorem dX9_howManyAlike_8 : decode cX9_howManyAlike 8 = .ok (.bipush 6, 2) := by decide +kernel
theorem dX9_howManyAlike_10 : decode cX9_howManyAlike 10 = .ok (.if_icmp .ge 37, 3) := by decide +kernel
theorem dX9_howManyAlike_13 : decode cX9_howManyAlike 13 = .ok (.iload_n 2, 1) := by decide +kernel
theorem dX9_howManyAlike_14 : decode cX9_howManyAlike 14 = .ok (.iload 6, 2) := by decide +kernel
theorem dX9_howManyAlike_16 : decode cX9_howManyAlike 16 = .ok (.invokestatic 314, 3) := by decide +kernel
theorem dX9_howManyAlike_19 : decode cX9_howManyAlike 19 = .ok (.ifCond .eq 22, 3) := by decide +kernel
theorem dX9_howManyAlike_22 : decode cX9_howManyAlike 22 = .ok (.aload_n 0, 1) := by decide +kernel
theorem dX9_howManyAlike_23 : decode cX9_howManyAlike 23 = .ok (.getfield 75, 3) := by decide +kernel
theorem dX9_howManyAlike_26 : decode cX9_howManyAlike 26 = .ok (.iload 6, 2) := by decide +kernel
theorem dX9_howManyAlike_28 : decode cX9_howManyAlike 28 = .ok (.iload_n 1, 1) := by decide +kernel
theorem dX9_howManyAlike_29 : decode cX9_howManyAlike 29 = .ok (.iload_n 3, 1) := by decide +kernel
theorem dX9_howManyAlike_30 : decode cX9_howManyAlike 30 = .ok (.invokevirtual 349, 3) := by decide +kernel
theorem dX9_howManyAlike_33 : decode cX9_howManyAlike 33 = .ok (.iload 4, 2) := by decide +kernel
theorem dX9_howManyAlike_35 : decode cX9_howManyAlike 35 = .ok (.if_icmp .ne 6, 3) := by decide +kernel
theorem dX9_howManyAlike_38 : decode cX9_howManyAlike 38 = .ok (.iinc 5 1, 3) := by decide +kernel
theorem dX9_howManyAlike_41 : decode cX9_howManyAlike 41 = .ok (.iinc 6 1, 3) := by decide +kernel
theorem dX9_howManyAlike_44 : decode cX9_howManyAlike 44 = .ok (.goto (-38), 3) := by decide +kernel
theorem dX9_howManyAlike_47 : decode cX9_howManyAlike 47 = .ok (.iload 5, 2) := by decide +kernel
theorem dX9_howManyAlike_49 : decode cX9_howManyAlike 49 = .ok (.ireturn, 1) := by decide +kernel
theorem dX9_rests_0 : decode cX9_rests 0 = .ok (.iload_n 0, 1) := by decide +kernel
theorem dX9_rests_1 : decode cX9_rests 1 = .ok (.iload_n 1, 1) := by decide +kernel
theorem dX9_rests_2 : decode cX9_rests 2 = .ok (.invokestatic 355, 3) := by decide +kernel
theorem dX9_rests_5 : decode cX9_rests 5 = .ok (.iload_n 0, 1) := by decide +kernel
theorem dX9_rests_6 : decode cX9_rests 6 = .ok (.ifCond .ne 7, 3) := by decide +kernel
theorem dX9_rests_9 : decode cX9_rests 9 = .ok (.iconst 1, 1) := by decide +kernel
theorem dX9_rests_10 : decode cX9_rests 10 = .ok (.goto 4, 3) := by decide +kernel
theorem dX9_rests_13 : decode cX9_rests 13 = .ok (.iconst 0, 1) := by decide +kernel
theorem dX9_rests_14 : decode cX9_rests 14 = .ok (.iload_n 1, 1) := by decide +kernel
theorem dX9_rests_15 : decode cX9_rests 15 = .ok (.invokestatic 355, 3) := by decide +kernel
theorem dX9_rests_18 : decode cX9_rests 18 = .ok (.if_icmp .lt 30, 3) := by decide +kernel
theorem dX9_rests_21 : decode cX9_rests 21 = .ok (.iload_n 0, 1) := by decide +kernel
theorem dX9_rests_22 : decode cX9_rests 22 = .ok (.iload_n 1, 1) := by decide +kernel
theorem dX9_rests_23 : decode cX9_rests 23 = .ok (.iload_n 2, 1) := by decide +kernel
theorem dX9_rests_24 : decode cX9_rests 24 = .ok (.invokestatic 359, 3) := by decide +kernel
theorem dX9_rests_27 : decode cX9_rests 27 = .ok (.iload_n 0, 1) := by decide +kernel
theorem dX9_rests_28 : decode cX9_rests 28 = .ok (.iload_n 1, 1) := by decide +kernel
theorem dX9_rests_29 : decode cX9_rests 29 = .ok (.ifCond .ne 7, 3) := by decide +kernel
theorem dX9_rests_32 : decode cX9_rests 32 = .ok (.iconst 1, 1) := by decide +kernel
theorem dX9_rests_33 : decode cX9_rests 33 = .ok (.goto 4, 3) := by decide +kernel
theorem dX9_rests_36 : decode cX9_rests 36 = .ok (.iconst 0, 1) := by decide +kernel
theorem dX9_rests_37 : decode cX9_rests 37 = .ok (.iload_n 2, 1) := by decide +kernel
theorem dX9_rests_38 : decode cX9_rests 38 = .ok (.invokestatic 359, 3) := by decide +kernel
theorem dX9_rests_41 : decode cX9_rests 41 = .ok (.if_icmp .lt 7, 3) := by decide +kernel
theorem dX9_rests_44 : decode cX9_rests 44 = .ok (.iconst 1, 1) := by decide +kernel
theorem dX9_rests_45 : decode cX9_rests 45 = .ok (.goto 4, 3) := by decide +kernel
theorem dX9_rests_48 : decode cX9_rests 48 = .ok (.iconst 0, 1) := by decide +kernel
theorem dX9_rests_49 : decode cX9_rests 49 = .ok (.ireturn, 1) := by decide +kernel
theorem dX9_toToucher_0 : decode cX9_toToucher 0 = .ok (.iload_n 1, 1) := by decide +kernel
theorem dX9_toToucher_1 : decode cX9_toToucher 1 = .ok (.ifCond .eq 13, 3) := by decide +kernel
theorem dX9_toToucher_4 : decode cX9_toToucher 4 = .ok (.iload_n 0, 1) := by decide +kernel
theorem dX9_toToucher_5 : decode cX9_toToucher 5 = .ok (.ifCond .eq 7, 3) := by decide +kernel
theorem dX9_toToucher_8 : decode cX9_toToucher 8 = .ok (.iconst 1, 1) := by decide +kernel
theorem dX9_toToucher_9 : decode cX9_toToucher 9 = .ok (.goto 4, 3) := by decide +kernel
theorem dX9_toToucher_12 : decode cX9_toToucher 12 = .ok (.iconst 2, 1) := by decide +kernel
theorem dX9_toToucher_13 : decode cX9_toToucher 13 = .ok (.ireturn, 1) := by decide +kernel
theorem dX9_toToucher_14 : decode cX9_toToucher 14 = .ok (.iload_n 0, 1) := by decide +kernel
theorem dX9_toToucher_15 : decode cX9_toToucher 15 = .ok (.ifCond .eq 7, 3) := by decide +kernel
theorem dX9_toToucher_18 : decode cX9_toToucher 18 = .ok (.iconst (-1), 1) := by decide +kernel
theorem dX9_toToucher_19 : decode cX9_toToucher 19 = .ok (.goto 4, 3) := by decide +kernel
theorem dX9_toToucher_22 : decode cX9_toToucher 22 = .ok (.iconst 0, 1) := by decide +kernel
theorem dX9_toToucher_23 : decode cX9_toToucher 23 = .ok (.ireturn, 1) := by decide +kernel
theorem dX9_toTouched_0 : decode cX9_toTouched 0 = .ok (.iload_n 1, 1) := by decide +kernel
theorem dX9_toTouched_1 : decode cX9_toTouched 1 = .ok (.ifCond .eq 5, 3) := by decide +kernel
theorem dX9_toTouched_4 : decode cX9_toTouched 4 = .ok (.iconst 0, 1) := by decide +kernel
theorem dX9_toTouched_5 : decode cX9_toTouched 5 = .ok (.ireturn, 1) := by decide +kernel
theorem dX9_toTouched_6 : decode cX9_toTouched 6 = .ok (.iload_n 0, 1) := by decide +kernel
theorem dX9_toTouched_7 : decode cX9_toTouched 7 = .ok (.ifCond .eq 11, 3) := by decide +kernel
theorem dX9_toTouched_10 : decode cX9_toTouched 10 = .ok (.iload_n 2, 1) := by decide +kernel
theorem dX9_toTouched_11 : decode cX9_toTouched 11 = .ok (.ifCond .ne 7, 3) := by decide +kernel
theorem dX9_toTouched_14 : decode cX9_toTouched 14 = .ok (.iconst (-1), 1) := by decide +kernel
theorem dX9_toTouched_15 : decode cX9_toTouched 15 = .ok (.goto 4, 3) := by decide +kernel
theorem dX9_toTouched_18 : decode cX9_toTouched 18 = .ok (.iconst 1, 1) := by decide +kernel
theorem dX9_toTouched_19 : decode cX9_toTouched 19 = .ok (.ireturn, 1) := by decide +kernel
theorem dX9_countWays_0 : decode cX9_countWays 0 = .ok (.aload_n 0, 1) := by decide +kernel
theorem dX9_countWays_1 : decode cX9_countWays 1 = .ok (.getfield 33, 3) := by decide +kernel
theorem dX9_countWays_4 : decode cX9_countWays 4 = .ok (.lconst 0, 1) := by decide +kernel
theorem dX9_countWays_5 : decode cX9_countWays 5 = .ok (.invokestatic 363, 3) := by decide +kernel
theorem dX9_countWays_8 : decode cX9_countWays 8 = .ok (.aload_n 0, 1) := by decide +kernel
theorem dX9_countWays_9 : decode cX9_countWays 9 = .ok (.getfield 33, 3) := by decide +kernel
theorem dX9_countWays_12 : decode cX9_countWays 12 = .ok (.iconst 0, 1) := by decide +kernel
theorem dX9_countWays_13 : decode cX9_countWays 13 = .ok (.lconst 1, 1) := by decide +kernel
theorem dX9_countWays_14 : decode cX9_countWays 14 = .ok (.lastore, 1) := by decide +kernel
theorem dX9_countWays_15 : decode cX9_countWays 15 = .ok (.iconst 0, 1) := by decide +kernel
theorem dX9_countWays_16 : decode cX9_countWays 16 = .ok (.istore_n 3, 1) := by decide +kernel
theorem dX9_countWays_17 : decode cX9_countWays 17 = .ok (.iload_n 3, 1) := by decide +kernel
theorem dX9_countWays_18 : decode cX9_countWays 18 = .ok (.iload_n 1, 1) := by decide +kernel
theorem dX9_countWays_19 : decode cX9_countWays 19 = .ok (.if_icmp .ge 68, 3) := by decide +kernel
theorem dX9_countWays_22 : decode cX9_countWays 22 = .ok (.bipush 9, 2) := by decide +kernel
theorem dX9_countWays_24 : decode cX9_countWays 24 = .ok (.istore 4, 2) := by decide +kernel
theorem dX9_countWays_26 : decode cX9_countWays 26 = .ok (.iload 4, 2) := by decide +kernel
theorem dX9_countWays_28 : decode cX9_countWays 28 = .ok (.ifCond .le 42, 3) := by decide +kernel
theorem dX9_countWays_31 : decode cX9_countWays 31 = .ok (.aload_n 0, 1) := by decide +kernel
theorem dX9_countWays_32 : decode cX9_countWays 32 = .ok (.getfield 33, 3) := by decide +kernel
theorem dX9_countWays_35 : decode cX9_countWays 35 = .ok (.iload 4, 2) := by decide +kernel
theorem dX9_countWays_37 : decode cX9_countWays 37 = .ok (.aload_n 0, 1) := by decide +kernel
theorem dX9_countWays_38 : decode cX9_countWays 38 = .ok (.getfield 33, 3) := by decide +kernel
theorem dX9_countWays_41 : decode cX9_countWays 41 = .ok (.iload 4, 2) := by decide +kernel
theorem dX9_countWays_43 : decode cX9_countWays 43 = .ok (.laload, 1) := by decide +kernel
theorem dX9_countWays_44 : decode cX9_countWays 44 = .ok (.iload_n 2, 1) := by decide +kernel
theorem dX9_countWays_45 : decode cX9_countWays 45 = .ok (.i2l, 1) := by decide +kernel
theorem dX9_countWays_46 : decode cX9_countWays 46 = .ok (.lmul, 1) := by decide +kernel
theorem dX9_countWays_47 : decode cX9_countWays 47 = .ok (.aload_n 0, 1) := by decide +kernel
theorem dX9_countWays_48 : decode cX9_countWays 48 = .ok (.getfield 33, 3) := by decide +kernel
theorem dX9_countWays_51 : decode cX9_countWays 51 = .ok (.iload 4, 2) := by decide +kernel
theorem dX9_countWays_53 : decode cX9_countWays 53 = .ok (.iconst 1, 1) := by decide +kernel
theorem dX9_countWays_54 : decode cX9_countWays 54 = .ok (.isub, 1) := by decide +kernel
theorem dX9_countWays_55 : decode cX9_countWays 55 = .ok (.laload, 1) := by decide +kernel
theorem dX9_countWays_56 : decode cX9_countWays 56 = .ok (.bipush 10, 2) := by decide +kernel
theorem dX9_countWays_58 : decode cX9_countWays 58 = .ok (.iload_n 2, 1) := by decide +kernel
theorem dX9_countWays_59 : decode cX9_countWays 59 = .ok (.isub, 1) := by decide +kernel
theorem dX9_countWays_60 : decode cX9_countWays 60 = .ok (.i2l, 1) := by decide +kernel
theorem dX9_countWays_61 : decode cX9_countWays 61 = .ok (.lmul, 1) := by decide +kernel
theorem dX9_countWays_62 : decode cX9_countWays 62 = .ok (.ladd, 1) := by decide +kernel
theorem dX9_countWays_63 : decode cX9_countWays 63 = .ok (.lastore, 1) := by decide +kernel
theorem dX9_countWays_64 : decode cX9_countWays 64 = .ok (.iinc 4 (-1), 3) := by decide +kernel
theorem dX9_countWays_67 : decode cX9_countWays 67 = .ok (.goto (-41), 3) := by decide +kernel
theorem dX9_countWays_70 : decode cX9_countWays 70 = .ok (.aload_n 0, 1) := by decide +kernel
theorem dX9_countWays_71 : decode cX9_countWays 71 = .ok (.getfield 33, 3) := by decide +kernel
theorem dX9_countWays_74 : decode cX9_countWays 74 = .ok (.iconst 0, 1) := by decide +kernel
theorem dX9_countWays_75 : decode cX9_countWays 75 = .ok (.dup2, 1) := by decide +kernel
theorem dX9_countWays_76 : decode cX9_countWays 76 = .ok (.laload, 1) := by decide +kernel
theorem dX9_countWays_77 : decode cX9_countWays 77 = .ok (.iload_n 2, 1) := by decide +kernel
theorem dX9_countWays_78 : decode cX9_countWays 78 = .ok (.i2l, 1) := by decide +kernel
theorem dX9_countWays_79 : decode cX9_countWays 79 = .ok (.lmul, 1) := by decide +kernel
theorem dX9_countWays_80 : decode cX9_countWays 80 = .ok (.lastore, 1) := by decide +kernel
theorem dX9_countWays_81 : decode cX9_countWays 81 = .ok (.iinc 3 1, 3) := by decide +kernel
theorem dX9_countWays_84 : decode cX9_countWays 84 = .ok (.goto (-67), 3) := by decide +kernel
theorem dX9_countWays_87 : decode cX9_countWays 87 = .ok (.return_, 1) := by decide +kernel
theorem dX9_lowerTerms_0 : decode cX9_lowerTerms 0 = .ok (.aload_n 0, 1) := by decide +kernel
theorem dX9_lowerTerms_1 : decode cX9_lowerTerms 1 = .ok (.lconst 1, 1) := by decide +kernel
theorem dX9_lowerTerms_2 : decode cX9_lowerTerms 2 = .ok (.putfield 41, 3) := by decide +kernel
theorem dX9_lowerTerms_5 : decode cX9_lowerTerms 5 = .ok (.iconst 0, 1) := by decide +kernel
theorem dX9_lowerTerms_6 : decode cX9_lowerTerms 6 = .ok (.istore_n 2, 1) := by decide +kernel
theorem dX9_lowerTerms_7 : decode cX9_lowerTerms 7 = .ok (.iload_n 2, 1) := by decide +kernel
theorem dX9_lowerTerms_8 : decode cX9_lowerTerms 8 = .ok (.iload_n 1, 1) := by decide +kernel
theorem dX9_lowerTerms_9 : decode cX9_lowerTerms 9 = .ok (.if_icmp .ge 21, 3) := by decide +kernel
theorem dX9_lowerTerms_12 : decode cX9_lowerTerms 12 = .ok (.aload_n 0, 1) := by decide +kernel
theorem dX9_lowerTerms_13 : decode cX9_lowerTerms 13 = .ok (.dup, 1) := by decide +kernel
theorem dX9_lowerTerms_14 : decode cX9_lowerTerms 14 = .ok (.getfield 41, 3) := by decide +kernel
theorem dX9_lowerTerms_17 : decode cX9_lowerTerms 17 = .ok (.ldc2_w 369, 3) := by decide +kernel
theorem dX9_lowerTerms_20 : decode cX9_lowerTerms 20 = .ok (.lmul, 1) := by decide +kernel
theorem dX9_lowerTerms_21 : decode cX9_lowerTerms 21 = .ok (.putfield 41, 3) := by decide +kernel
theorem dX9_lowerTerms_24 : decode cX9_lowerTerms 24 = .ok (.iinc 2 1, 3) := by decide +kernel
theorem dX9_lowerTerms_27 : decode cX9_lowerTerms 27 = .ok (.goto (-20), 3) := by decide +kernel
theorem dX9_lowerTerms_30 : decode cX9_lowerTerms 30 = .ok (.iconst 0, 1) := by decide +kernel
theorem dX9_lowerTerms_31 : decode cX9_lowerTerms 31 = .ok (.istore_n 2, 1) := by decide +kernel
theorem dX9_lowerTerms_32 : decode cX9_lowerTerms 32 = .ok (.iload_n 2, 1) := by decide +kernel
theorem dX9_lowerTerms_33 : decode cX9_lowerTerms 33 = .ok (.iload_n 1, 1) := by decide +kernel
theorem dX9_lowerTerms_34 : decode cX9_lowerTerms 34 = .ok (.if_icmp .ge 19, 3) := by decide +kernel
theorem dX9_lowerTerms_37 : decode cX9_lowerTerms 37 = .ok (.aload_n 0, 1) := by decide +kernel
theorem dX9_lowerTerms_38 : decode cX9_lowerTerms 38 = .ok (.iconst 2, 1) := by decide +kernel
theorem dX9_lowerTerms_39 : decode cX9_lowerTerms 39 = .ok (.invokevirtual 371, 3) := by decide +kernel
theorem dX9_lowerTerms_42 : decode cX9_lowerTerms 42 = .ok (.aload_n 0, 1) := by decide +kernel
theorem dX9_lowerTerms_43 : decode cX9_lowerTerms 43 = .ok (.iconst 5, 1) := by decide +kernel
theorem dX9_lowerTerms_44 : decode cX9_lowerTerms 44 = .ok (.invokevirtual 371, 3) := by decide +kernel
theorem dX9_lowerTerms_47 : decode cX9_lowerTerms 47 = .ok (.iinc 2 1, 3) := by decide +kernel
theorem dX9_lowerTerms_50 : decode cX9_lowerTerms 50 = .ok (.goto (-18), 3) := by decide +kernel
theorem dX9_lowerTerms_53 : decode cX9_lowerTerms 53 = .ok (.return_, 1) := by decide +kernel
theorem dX9_lowerBy_0 : decode cX9_lowerBy 0 = .ok (.iload_n 1, 1) := by decide +kernel
theorem dX9_lowerBy_1 : decode cX9_lowerBy 1 = .ok (.ifCond .le 49, 3) := by decide +kernel
theorem dX9_lowerBy_4 : decode cX9_lowerBy 4 = .ok (.aload_n 0, 1) := by decide +kernel
theorem dX9_lowerBy_5 : decode cX9_lowerBy 5 = .ok (.getfield 37, 3) := by decide +kernel
theorem dX9_lowerBy_8 : decode cX9_lowerBy 8 = .ok (.iload_n 1, 1) := by decide +kernel
theorem dX9_lowerBy_9 : decode cX9_lowerBy 9 = .ok (.i2l, 1) := by decide +kernel
theorem dX9_lowerBy_10 : decode cX9_lowerBy 10 = .ok (.lrem, 1) := by decide +kernel
theorem dX9_lowerBy_11 : decode cX9_lowerBy 11 = .ok (.lconst 0, 1) := by decide +kernel
theorem dX9_lowerBy_12 : decode cX9_lowerBy 12 = .ok (.lcmp, 1) := by decide +kernel
theorem dX9_lowerBy_13 : decode cX9_lowerBy 13 = .ok (.ifCond .ne 37, 3) := by decide +kernel
theorem dX9_lowerBy_16 : decode cX9_lowerBy 16 = .ok (.aload_n 0, 1) := by decide +kernel
theorem dX9_lowerBy_17 : decode cX9_lowerBy 17 = .ok (.getfield 41, 3) := by decide +kernel
theorem dX9_lowerBy_20 : decode cX9_lowerBy 20 = .ok (.iload_n 1, 1) := by decide +kernel
theorem dX9_lowerBy_21 : decode cX9_lowerBy 21 = .ok (.i2l, 1) := by decide +kernel
theorem dX9_lowerBy_22 : decode cX9_lowerBy 22 = .ok (.lrem, 1) := by decide +kernel
theorem dX9_lowerBy_23 : decode cX9_lowerBy 23 = .ok (.lconst 0, 1) := by decide +kernel
theorem dX9_lowerBy_24 : decode cX9_lowerBy 24 = .ok (.lcmp, 1) := by decide +kernel
theorem dX9_lowerBy_25 : decode cX9_lowerBy 25 = .ok (.ifCond .ne 25, 3) := by decide +kernel
theorem dX9_lowerBy_28 : decode cX9_lowerBy 28 = .ok (.aload_n 0, 1) := by decide +kernel
theorem dX9_lowerBy_29 : decode cX9_lowerBy 29 = .ok (.dup, 1) := by decide +kernel
theorem dX9_lowerBy_30 : decode cX9_lowerBy 30 = .ok (.getfield 37, 3) := by decide +kernel
theorem dX9_lowerBy_33 : decode cX9_lowerBy 33 = .ok (.iload_n 1, 1) := by decide +kernel
theorem dX9_lowerBy_34 : decode cX9_lowerBy 34 = .ok (.i2l, 1) := by decide +kernel
theorem dX9_lowerBy_35 : decode cX9_lowerBy 35 = .ok (.ldiv, 1) := by decide +kernel
theorem dX9_lowerBy_36 : decode cX9_lowerBy 36 = .ok (.putfield 37, 3) := by decide +kernel
theorem dX9_lowerBy_39 : decode cX9_lowerBy 39 = .ok (.aload_n 0, 1) := by decide +kernel
theorem dX9_lowerBy_40 : decode cX9_lowerBy 40 = .ok (.dup, 1) := by decide +kernel
theorem dX9_lowerBy_41 : decode cX9_lowerBy 41 = .ok (.getfield 41, 3) := by decide +kernel
theorem dX9_lowerBy_44 : decode cX9_lowerBy 44 = .ok (.iload_n 1, 1) := by decide +kernel
theorem dX9_lowerBy_45 : decode cX9_lowerBy 45 = .ok (.i2l, 1) := by decide +kernel
theorem dX9_lowerBy_46 : decode cX9_lowerBy 46 = .ok (.ldiv, 1) := by decide +kernel
theorem dX9_lowerBy_47 : decode cX9_lowerBy 47 = .ok (.putfield 41, 3) := by decide +kernel
theorem dX9_lowerBy_50 : decode cX9_lowerBy 50 = .ok (.return_, 1) := by decide +kernel
theorem dX10_init_0 : decode cX10_init 0 = .ok (.aload_n 0, 1) := by decide +kernel
theorem dX10_init_1 : decode cX10_init 1 = .ok (.invokespecial 1, 3) := by decide +kernel
theorem dX10_init_4 : decode cX10_init 4 = .ok (.aload_n 0, 1) := by decide +kernel
theorem dX10_init_5 : decode cX10_init 5 = .ok (.sipush 250, 3) := by decide +kernel
theorem dX10_init_8 : decode cX10_init 8 = .ok (.newarray .int, 2) := by decide +kernel
theorem dX10_init_10 : decode cX10_init 10 = .ok (.putfield 7, 3) := by decide +kernel
theorem dX10_init_13 : decode cX10_init 13 = .ok (.aload_n 0, 1) := by decide +kernel
theorem dX10_init_14 : decode cX10_init 14 = .ok (.sipush 500, 3) := by decide +kernel
theorem dX10_init_17 : decode cX10_init 17 = .ok (.newarray .int, 2) := by decide +kernel
theorem dX10_init_19 : decode cX10_init 19 = .ok (.putfield 13, 3) := by decide +kernel
theorem dX10_init_22 : decode cX10_init 22 = .ok (.aload_n 0, 1) := by decide +kernel
theorem dX10_init_23 : decode cX10_init 23 = .ok (.iconst 2, 1) := by decide +kernel
theorem dX10_init_24 : decode cX10_init 24 = .ok (.newarray .boolean, 2) := by decide +kernel
theorem dX10_init_26 : decode cX10_init 26 = .ok (.putfield 16, 3) := by decide +kernel
theorem dX10_init_29 : decode cX10_init 29 = .ok (.aload_n 0, 1) := by decide +kernel
theorem dX10_init_30 : decode cX10_init 30 = .ok (.iconst 3, 1) := by decide +kernel
theorem dX10_init_31 : decode cX10_init 31 = .ok (.newarray .int, 2) := by decide +kernel
theorem dX10_init_33 : decode cX10_init 33 = .ok (.putfield 20, 3) := by decide +kernel
theorem dX10_init_36 : decode cX10_init 36 = .ok (.aload_n 0, 1) := by decide +kernel
theorem dX10_init_37 : decode cX10_init 37 = .ok (.lconst 1, 1) := by decide +kernel
theorem dX10_init_38 : decode cX10_init 38 = .ok (.putfield 23, 3) := by decide +kernel
theorem dX10_init_41 : decode cX10_init 41 = .ok (.aload_n 0, 1) := by decide +kernel
theorem dX10_init_42 : decode cX10_init 42 = .ok (.bipush 7, 2) := by decide +kernel
theorem dX10_init_44 : decode cX10_init 44 = .ok (.newarray .int, 2) := by decide +kernel
theorem dX10_init_46 : decode cX10_init 46 = .ok (.putfield 27, 3) := by decide +kernel
theorem dX10_init_49 : decode cX10_init 49 = .ok (.aload_n 0, 1) := by decide +kernel
theorem dX10_init_50 : decode cX10_init 50 = .ok (.bipush 7, 2) := by decide +kernel
theorem dX10_init_52 : decode cX10_init 52 = .ok (.newarray .int, 2) := by decide +kernel
theorem dX10_init_54 : decode cX10_init 54 = .ok (.putfield 30, 3) := by decide +kernel
theorem dX10_init_57 : decode cX10_init 57 = .ok (.aload_n 0, 1) := by decide +kernel
theorem dX10_init_58 : decode cX10_init 58 = .ok (.bipush 7, 2) := by decide +kernel
theorem dX10_init_60 : decode cX10_init 60 = .ok (.newarray .int, 2) := by decide +kernel
theorem dX10_init_62 : decode cX10_init 62 = .ok (.putfield 33, 3) := by decide +kernel
theorem dX10_init_65 : decode cX10_init 65 = .ok (.aload_n 0, 1) := by decide +kernel
theorem dX10_init_66 : decode cX10_init 66 = .ok (.bipush 7, 2) := by decide +kernel
theorem dX10_init_68 : decode cX10_init 68 = .ok (.newarray .int, 2) := by decide +kernel
theorem dX10_init_70 : decode cX10_init 70 = .ok (.putfield 36, 3) := by decide +kernel
theorem dX10_init_73 : decode cX10_init 73 = .ok (.aload_n 0, 1) := by decide +kernel
theorem dX10_init_74 : decode cX10_init 74 = .ok (.bipush 7, 2) := by decide +kernel
theorem dX10_init_76 : decode cX10_init 76 = .ok (.newarray .int, 2) := by decide +kernel
theorem dX10_init_78 : decode cX10_init 78 = .ok (.putfield 39, 3) := by decide +kernel
theorem dX10_init_81 : decode cX10_init 81 = .ok (.aload_n 0, 1) := by decide +kernel
theorem dX10_init_82 : decode cX10_init 82 = .ok (.iconst 4, 1) := by decide +kernel
theorem dX10_init_83 : decode cX10_init 83 = .ok (.newarray .int, 2) := by decide +kernel
theorem dX10_init_85 : decode cX10_init 85 = .ok (.putfield 42, 3) := by decide +kernel
theorem dX10_init_88 : decode cX10_init 88 = .ok (.aload_n 0, 1) := by decide +kernel
theorem dX10_init_89 : decode cX10_init 89 = .ok (.iconst 4, 1) := by decide +kernel
theorem dX10_init_90 : decode cX10_init 90 = .ok (.newarray .int, 2) := by decide +kernel
theorem dX10_init_92 : decode cX10_init 92 = .ok (.putfield 45, 3) := by decide +kernel
theorem dX10_init_95 : decode cX10_init 95 = .ok (.aload_n 0, 1) := by decide +kernel
theorem dX10_init_96 : decode cX10_init 96 = .ok (.bipush 7, 2) := by decide +kernel
theorem dX10_init_98 : decode cX10_init 98 = .ok (.newarray .int, 2) := by decide +kernel
theorem dX10_init_100 : decode cX10_init 100 = .ok (.putfield 48, 3) := by decide +kernel
theorem dX10_init_103 : decode cX10_init 103 = .ok (.aload_n 0, 1) := by decide +kernel
theorem dX10_init_104 : decode cX10_init 104 = .ok (.sipush 150, 3) := by decide +kernel
theorem dX10_init_107 : decode cX10_init 107 = .ok (.newarray .int, 2) := by decide +kernel
theorem dX10_init_109 : decode cX10_init 109 = .ok (.putfield 51, 3) := by decide +kernel
theorem dX10_init_112 : decode cX10_init 112 = .ok (.aload_n 0, 1) := by decide +kernel
theorem dX10_init_113 : decode cX10_init 113 = .ok (.bipush 74, 2) := by decide +kernel
theorem dX10_init_115 : decode cX10_init 115 = .ok (.newarray .int, 2) := by decide +kernel
theorem dX10_init_117 : decode cX10_init 117 = .ok (.putfield 54, 3) := by decide +kernel
theorem dX10_init_120 : decode cX10_init 120 = .ok (.aload_n 0, 1) := by decide +kernel
theorem dX10_init_121 : decode cX10_init 121 = .ok (.iconst 3, 1) := by decide +kernel
theorem dX10_init_122 : decode cX10_init 122 = .ok (.newarray .int, 2) := by decide +kernel
theorem dX10_init_124 : decode cX10_init 124 = .ok (.putfield 57, 3) := by decide +kernel
theorem dX10_init_127 : decode cX10_init 127 = .ok (.aload_n 0, 1) := by decide +kernel
theorem dX10_init_128 : decode cX10_init 128 = .ok (.getfield 7, 3) := by decide +kernel
theorem dX10_init_131 : decode cX10_init 131 = .ok (.invokestatic 60, 3) := by decide +kernel
theorem dX10_init_134 : decode cX10_init 134 = .ok (.return_, 1) := by decide +kernel
theorem dX10_in_0 : decode cX10_in 0 = .ok (.lload_n 0, 1) := by decide +kernel
theorem dX10_in_1 : decode cX10_in 1 = .ok (.lload_n 2, 1) := by decide +kernel
theorem dX10_in_2 : decode cX10_in 2 = .ok (.lcmp, 1) := by decide +kernel
theorem dX10_in_3 : decode cX10_in 3 = .ok (.ifCond .lt 14, 3) := by decide +kernel
theorem dX10_in_6 : decode cX10_in 6 = .ok (.lload_n 0, 1) := by decide +kernel
theorem dX10_in_7 : decode cX10_in 7 = .ok (.lload 4, 2) := by decide +kernel
theorem dX10_in_9 : decode cX10_in 9 = .ok (.lcmp, 1) := by decide +kernel
theorem dX10_in_10 : decode cX10_in 10 = .ok (.ifCond .gt 7, 3) := by decide +kernel
theorem dX10_in_13 : decode cX10_in 13 = .ok (.iconst 1, 1) := by decide +kernel
theorem dX10_in_14 : decode cX10_in 14 = .ok (.goto 4, 3) := by decide +kernel
theorem dX10_in_17 : decode cX10_in 17 = .ok (.iconst 0, 1) := by decide +kernel
theorem dX10_in_18 : decode cX10_in 18 = .ok (.ireturn, 1) := by decide +kernel
theorem dX10_bad_0 : decode cX10_bad 0 = .ok (.aload_n 0, 1) := by decide +kernel
theorem dX10_bad_1 : decode cX10_bad 1 = .ok (.getfield 20, 3) := by decide +kernel
theorem dX10_bad_4 : decode cX10_bad 4 = .ok (.iconst 0, 1) := by decide +kernel
theorem dX10_bad_5 : decode cX10_bad 5 = .ok (.dup2, 1) := by decide +kernel
theorem dX10_bad_6 : decode cX10_bad 6 = .ok (.iaload, 1) := by decide +kernel
theorem dX10_bad_7 : decode cX10_bad 7 = .ok (.iconst 1, 1) := by decide +kernel
theorem dX10_bad_8 : decode cX10_bad 8 = .ok (.iadd, 1) := by decide +kernel
theorem dX10_bad_9 : decode cX10_bad 9 = .ok (.iastore, 1) := by decide +kernel
theorem dX10_bad_10 : decode cX10_bad 10 = .ok (.iload_n 1, 1) := by decide +kernel
theorem dX10_bad_11 : decode cX10_bad 11 = .ok (.ireturn, 1) := by decide +kernel
theorem dX10_no_0 : decode cX10_no 0 = .ok (.aload_n 0, 1) := by decide +kernel
theorem dX10_no_1 : decode cX10_no 1 = .ok (.getfield 20, 3) := by decide +kernel
theorem dX10_no_4 : decode cX10_no 4 = .ok (.iconst 1, 1) := by decide +kernel
theorem dX10_no_5 : decode cX10_no 5 = .ok (.dup2, 1) := by decide +kernel
theorem dX10_no_6 : decode cX10_no 6 = .ok (.iaload, 1) := by decide +kernel
theorem dX10_no_7 : decode cX10_no 7 = .ok (.iconst 1, 1) := by decide +kernel
theorem dX10_no_8 : decode cX10_no 8 = .ok (.iadd, 1) := by decide +kernel
theorem dX10_no_9 : decode cX10_no 9 = .ok (.iastore, 1) := by decide +kernel
theorem dX10_no_10 : decode cX10_no 10 = .ok (.bipush (-3), 2) := by decide +kernel
theorem dX10_no_12 : decode cX10_no 12 = .ok (.ireturn, 1) := by decide +kernel
theorem dX10_full_0 : decode cX10_full 0 = .ok (.aload_n 0, 1) := by decide +kernel
theorem dX10_full_1 : decode cX10_full 1 = .ok (.getfield 20, 3) := by decide +kernel
theorem dX10_full_4 : decode cX10_full 4 = .ok (.iconst 2, 1) := by decide +kernel
theorem dX10_full_5 : decode cX10_full 5 = .ok (.dup2, 1) := by decide +kernel
theorem dX10_full_6 : decode cX10_full 6 = .ok (.iaload, 1) := by decide +kernel
theorem dX10_full_7 : decode cX10_full 7 = .ok (.iconst 1, 1) := by decide +kernel
theorem dX10_full_8 : decode cX10_full 8 = .ok (.iadd, 1) := by decide +kernel
theorem dX10_full_9 : decode cX10_full 9 = .ok (.iastore, 1) := by decide +kernel
theorem dX10_full_10 : decode cX10_full 10 = .ok (.bipush (-4), 2) := by decide +kernel
theorem dX10_full_12 : decode cX10_full 12 = .ok (.ireturn, 1) := by decide +kernel
theorem dX10_bits_0 : decode cX10_bits 0 = .ok (.iconst 0, 1) := by decide +kernel
theorem dX10_bits_1 : decode cX10_bits 1 = .ok (.istore_n 1, 1) := by decide +kernel
theorem dX10_bits_2 : decode cX10_bits 2 = .ok (.iload_n 0, 1) := by decide +kernel
theorem dX10_bits_3 : decode cX10_bits 3 = .ok (.istore_n 2, 1) := by decide +kernel
theorem dX10_bits_4 : decode cX10_bits 4 = .ok (.iload_n 2, 1) := by decide +kernel
theorem dX10_bits_5 : decode cX10_bits 5 = .ok (.ifCond .le 16, 3) := by decide +kernel
theorem dX10_bits_8 : decode cX10_bits 8 = .ok (.iload_n 1, 1) := by decide +kernel
theorem dX10_bits_9 : decode cX10_bits 9 = .ok (.iload_n 2, 1) := by decide +kernel
theorem dX10_bits_10 : decode cX10_bits 10 = .ok (.iconst 1, 1) := by decide +kernel
theorem dX10_bits_11 : decode cX10_bits 11 = .ok (.iand, 1) := by decide +kernel
theorem dX10_bits_12 : decode cX10_bits 12 = .ok (.iadd, 1) := by decide +kernel
theorem dX10_bits_13 : decode cX10_bits 13 = .ok (.istore_n 1, 1) := by decide +kernel
theorem dX10_bits_14 : decode cX10_bits 14 = .ok (.iload_n 2, 1) := by decide +kernel
theorem dX10_bits_15 : decode cX10_bits 15 = .ok (.iconst 1, 1) := by decide +kernel
theorem dX10_bits_16 : decode cX10_bits 16 = .ok (.ishr, 1) := by decide +kernel
theorem dX10_bits_17 : decode cX10_bits 17 = .ok (.istore_n 2, 1) := by decide +kernel
theorem dX10_bits_18 : decode cX10_bits 18 = .ok (.goto (-14), 3) := by decide +kernel
theorem dX10_bits_21 : decode cX10_bits 21 = .ok (.iload_n 1, 1) := by decide +kernel
theorem dX10_bits_22 : decode cX10_bits 22 = .ok (.ireturn, 1) := by decide +kernel
theorem dX10_has_0 : decode cX10_has 0 = .ok (.iload_n 0, 1) := by decide +kernel
theorem dX10_has_1 : decode cX10_has 1 = .ok (.iload_n 1, 1) := by decide +kernel
theorem dX10_has_2 : decode cX10_has 2 = .ok (.ishr, 1) := by decide +kernel
theorem dX10_has_3 : decode cX10_has 3 = .ok (.iconst 1, 1) := by decide +kernel
theorem dX10_has_4 : decode cX10_has 4 = .ok (.iand, 1) := by decide +kernel
theorem dX10_has_5 : decode cX10_has 5 = .ok (.iconst 1, 1) := by decide +kernel
theorem dX10_has_6 : decode cX10_has 6 = .ok (.if_icmp .ne 7, 3) := by decide +kernel
theorem dX10_has_9 : decode cX10_has 9 = .ok (.iconst 1, 1) := by decide +kernel
theorem dX10_has_10 : decode cX10_has 10 = .ok (.goto 4, 3) := by decide +kernel
theorem dX10_has_13 : decode cX10_has 13 = .ok (.iconst 0, 1) := by decide +kernel
theorem dX10_has_14 : decode cX10_has 14 = .ok (.ireturn, 1) := by decide +kernel
theorem dX10_begin_0 : decode cX10_begin 0 = .ok (.iconst 0, 1) := by decide +kernel
theorem dX10_begin_1 : decode cX10_begin 1 = .ok (.istore_n 1, 1) := by decide +kernel
theorem dX10_begin_2 : decode cX10_begin 2 = .ok (.iload_n 1, 1) := by decide +kernel
theorem dX10_begin_3 : decode cX10_begin 3 = .ok (.bipush 74, 2) := by decide +kernel
theorem dX10_begin_5 : decode cX10_begin 5 = .ok (.if_icmp .ge 13, 3) := by decide +kernel
theorem dX10_begin_8 : decode cX10_begin 8 = .ok (.aload_n 0, 1) := by decide +kernel
theorem dX10_begin_9 : decode cX10_begin 9 = .ok (.iload_n 1, 1) := by decide +kernel
theorem dX10_begin_10 : decode cX10_begin 10 = .ok (.iconst 0, 1) := by decide +kernel
theorem dX10_begin_11 : decode cX10_begin 11 = .ok (.iastore, 1) := by decide +kernel
theorem dX10_begin_12 : decode cX10_begin 12 = .ok (.iinc 1 1, 3) := by decide +kernel
theorem dX10_begin_15 : decode cX10_begin 15 = .ok (.goto (-13), 3) := by decide +kernel
theorem dX10_begin_18 : decode cX10_begin 18 = .ok (.aload_n 0, 1) := by decide +kernel
theorem dX10_begin_19 : decode cX10_begin 19 = .ok (.iconst 5, 1) := by decide +kernel
theorem dX10_begin_20 : decode cX10_begin 20 = .ok (.iconst 1, 1) := by decide +kernel
theorem dX10_begin_21 : decode cX10_begin 21 = .ok (.iastore, 1) := by decide +kernel
theorem dX10_begin_22 : decode cX10_begin 22 = .ok (.aload_n 0, 1) := by decide +kernel
theorem dX10_begin_23 : decode cX10_begin 23 = .ok (.bipush 6, 2) := by decide +kernel
theorem dX10_begin_25 : decode cX10_begin 25 = .ok (.iconst 1, 1) := by decide +kernel
theorem dX10_begin_26 : decode cX10_begin 26 = .ok (.iastore, 1) := by decide +kernel
theorem dX10_begin_27 : decode cX10_begin 27 = .ok (.aload_n 0, 1) := by decide +kernel
theorem dX10_begin_28 : decode cX10_begin 28 = .ok (.bipush 7, 2) := by decide +kernel
theorem dX10_begin_30 : decode cX10_begin 30 = .ok (.iconst 2, 1) := by decide +kernel
theorem dX10_begin_31 : decode cX10_begin 31 = .ok (.iastore, 1) := by decide +kernel
theorem dX10_begin_32 : decode cX10_begin 32 = .ok (.return_, 1) := by decide +kernel
theorem dX10_many_0 : decode cX10_many 0 = .ok (.aload_n 0, 1) := by decide +kernel
theorem dX10_many_1 : decode cX10_many 1 = .ok (.getfield 7, 3) := by decide +kernel
theorem dX10_many_4 : decode cX10_many 4 = .ok (.iconst 0, 1) := by decide +kernel
theorem dX10_many_5 : decode cX10_many 5 = .ok (.iaload, 1) := by decide +kernel
theorem dX10_many_6 : decode cX10_many 6 = .ok (.ireturn, 1) := by decide +kernel
theorem dX10_isOne_0 : decode cX10_isOne 0 = .ok (.iload_n 1, 1) := by decide +kernel
theorem dX10_isOne_1 : decode cX10_isOne 1 = .ok (.i2l, 1) := by decide +kernel
theorem dX10_isOne_2 : decode cX10_isOne 2 = .ok (.lconst 0, 1) := by decide +kernel
theorem dX10_isOne_3 : decode cX10_isOne 3 = .ok (.aload_n 0, 1) := by decide +kernel
theorem dX10_isOne_4 : decode cX10_isOne 4 = .ok (.invokevirtual 64, 3) := by decide +kernel
theorem dX10_isOne_7 : decode cX10_isOne 7 = .ok (.iconst 1, 1) := by decide +kernel
theorem dX10_isOne_8 : decode cX10_isOne 8 = .ok (.isub, 1) := by decide +kernel
theorem dX10_isOne_9 : decode cX10_isOne 9 = .ok (.i2l, 1) := by decide +kernel
theorem dX10_isOne_10 : decode cX10_isOne 10 = .ok (.invokestatic 68, 3) := by decide +kernel
theorem dX10_isOne_13 : decode cX10_isOne 13 = .ok (.ireturn, 1) := by decide +kernel
theorem dX10_isLane_0 : decode cX10_isLane 0 = .ok (.iload_n 0, 1) := by decide +kernel
theorem dX10_isLane_1 : decode cX10_isLane 1 = .ok (.i2l, 1) := by decide +kernel
theorem dX10_isLane_2 : decode cX10_isLane 2 = .ok (.lconst 0, 1) := by decide +kernel
theorem dX10_isLane_3 : decode cX10_isLane 3 = .ok (.ldc2_w 72, 3) := by decide +kernel
theorem dX10_isLane_6 : decode cX10_isLane 6 = .ok (.invokestatic 68, 3) := by decide +kernel
theorem dX10_isLane_9 : decode cX10_isLane 9 = .ok (.ireturn, 1) := by decide +kernel
theorem dX10_isOpen_0 : decode cX10_isOpen 0 = .ok (.aload_n 0, 1) := by decide +kernel
theorem dX10_isOpen_1 : decode cX10_isOpen 1 = .ok (.getfield 7, 3) := by decide +kernel
theorem dX10_isOpen_4 : decode cX10_isOpen 4 = .ok (.bipush 8, 2) := by decide +kernel
theorem dX10_isOpen_6 : decode cX10_isOpen 6 = .ok (.iaload, 1) := by decide +kernel
theorem dX10_isOpen_7 : decode cX10_isOpen 7 = .ok (.iload_n 1, 1) := by decide +kernel
theorem dX10_isOpen_8 : decode cX10_isOpen 8 = .ok (.invokestatic 74, 3) := by decide +kernel
theorem dX10_isOpen_11 : decode cX10_isOpen 11 = .ok (.ifCond .ne 7, 3) := by decide +kernel
theorem dX10_isOpen_14 : decode cX10_isOpen 14 = .ok (.iconst 1, 1) := by decide +kernel
theorem dX10_isOpen_15 : decode cX10_isOpen 15 = .ok (.goto 4, 3) := by decide +kernel
theorem dX10_isOpen_18 : decode cX10_isOpen 18 = .ok (.iconst 0, 1) := by decide +kernel
theorem dX10_isOpen_19 : decode cX10_isOpen 19 = .ok (.ireturn, 1) := by decide +kernel
theorem dX10_whoIsIn_0 : decode cX10_whoIsIn 0 = .ok (.iconst 0, 1) := by decide +kernel
theorem dX10_whoIsIn_1 : decode cX10_whoIsIn 1 = .ok (.istore_n 2, 1) := by decide +kernel
theorem dX10_whoIsIn_2 : decode cX10_whoIsIn 2 = .ok (.iconst 0, 1) := by decide +kernel
theorem dX10_whoIsIn_3 : decode cX10_whoIsIn 3 = .ok (.istore_n 3, 1) := by decide +kernel
theorem dX10_whoIsIn_4 : decode cX10_whoIsIn 4 = .ok (.iload_n 3, 1) := by decide +kernel
theorem dX10_whoIsIn_5 : decode cX10_whoIsIn 5 = .ok (.aload_n 0, 1) := by decide +kernel
theorem dX10_whoIsIn_6 : decode cX10_whoIsIn 6 = .ok (.iconst 0, 1) := by decide +kernel
theorem dX10_whoIsIn_7 : decode cX10_whoIsIn 7 = .ok (.iaload, 1) := by decide +kernel
theorem dX10_whoIsIn_8 : decode cX10_whoIsIn 8 = .ok (.if_icmp .ge 29, 3) := by decide +kernel
theorem dX10_whoIsIn_11 : decode cX10_whoIsIn 11 = .ok (.iload_n 2, 1) := by decide +kernel
theorem dX10_whoIsIn_12 : decode cX10_whoIsIn 12 = .ok (.aload_n 0, 1) := by decide +kernel
theorem dX10_whoIsIn_13 : decode cX10_whoIsIn 13 = .ok (.bipush 9, 2) := by decide +kernel
theorem dX10_whoIsIn_15 : decode cX10_whoIsIn 15 = .ok (.iload_n 3, 1) := by decide +kernel
theorem dX10_whoIsIn_16 : decode cX10_whoIsIn 16 = .ok (.iadd, 1) := by decide +kernel
theorem dX10_whoIsIn_17 : decode cX10_whoIsIn 17 = .ok (.iaload, 1) := by decide +kernel
theorem dX10_whoIsIn_18 : decode cX10_whoIsIn 18 = .ok (.iload_n 1, 1) := by decide +kernel
theorem dX10_whoIsIn_19 : decode cX10_whoIsIn 19 = .ok (.if_icmp .ne 9, 3) := by decide +kernel
theorem dX10_whoIsIn_22 : decode cX10_whoIsIn 22 = .ok (.iconst 1, 1) := by decide +kernel
theorem dX10_whoIsIn_23 : decode cX10_whoIsIn 23 = .ok (.iload_n 3, 1) := by decide +kernel
theorem dX10_whoIsIn_24 : decode cX10_whoIsIn 24 = .ok (.ishl, 1) := by decide +kernel
theorem dX10_whoIsIn_25 : decode cX10_whoIsIn 25 = .ok (.goto 4, 3) := by decide +kernel
theorem dX10_whoIsIn_28 : decode cX10_whoIsIn 28 = .ok (.iconst 0, 1) := by decide +kernel
theorem dX10_whoIsIn_29 : decode cX10_whoIsIn 29 = .ok (.ior, 1) := by decide +kernel
theorem dX10_whoIsIn_30 : decode cX10_whoIsIn 30 = .ok (.istore_n 2, 1) := by decide +kernel
theorem dX10_whoIsIn_31 : decode cX10_whoIsIn 31 = .ok (.iinc 3 1, 3) := by decide +kernel
theorem dX10_whoIsIn_34 : decode cX10_whoIsIn 34 = .ok (.goto (-30), 3) := by decide +kernel
theorem dX10_whoIsIn_37 : decode cX10_whoIsIn 37 = .ok (.iload_n 2, 1) := by decide +kernel
theorem dX10_whoIsIn_38 : decode cX10_whoIsIn 38 = .ok (.ireturn, 1) := by decide +kernel
theorem dX10_bath_0 : decode cX10_bath 0 = .ok (.aload_n 0, 1) := by decide +kernel
theorem dX10_bath_1 : decode cX10_bath 1 = .ok (.invokevirtual 64, 3) := by decide +kernel
theorem dX10_bath_4 : decode cX10_bath 4 = .ok (.istore_n 1, 1) := by decide +kernel
theorem dX10_bath_5 : decode cX10_bath 5 = .ok (.aload_n 0, 1) := by decide +kernel
theorem dX10_bath_6 : decode cX10_bath 6 = .ok (.getfield 7, 3) := by decide +kernel
theorem dX10_bath_9 : decode cX10_bath 9 = .ok (.invokestatic 60, 3) := by decide +kernel
theorem dX10_bath_12 : decode cX10_bath 12 = .ok (.iload_n 1, 1) := by decide +kernel
theorem dX10_bath_13 : decode cX10_bath 13 = .ok (.ireturn, 1) := by decide +kernel
theorem dX10_sign_0 : decode cX10_sign 0 = .ok (.iload_n 1, 1) := by decide +kernel
theorem dX10_sign_1 : decode cX10_sign 1 = .ok (.invokestatic 78, 3) := by decide +kernel
theorem dX10_sign_4 : decode cX10_sign 4 = .ok (.ifCond .eq 15, 3) := by decide +kernel
theorem dX10_sign_7 : decode cX10_sign 7 = .ok (.iload_n 2, 1) := by decide +kernel
theorem dX10_sign_8 : decode cX10_sign 8 = .ok (.i2l, 1) := by decide +kernel
theorem dX10_sign_9 : decode cX10_sign 9 = .ok (.lconst 0, 1) := by decide +kernel
theorem dX10_sign_10 : decode cX10_sign 10 = .ok (.ldc2_w 82, 3) := by decide +kernel
theorem dX10_sign_13 : decode cX10_sign 13 = .ok (.invokestatic 68, 3) := by decide +kernel
theorem dX10_sign_16 : decode cX10_sign 16 = .ok (.ifCond .ne 10, 3) := by decide +kernel
theorem dX10_sign_19 : decode cX10_sign 19 = .ok (.aload_n 0, 1) := by decide +kernel
theorem dX10_sign_20 : decode cX10_sign 20 = .ok (.bipush (-2), 2) := by decide +kernel
theorem dX10_sign_22 : decode cX10_sign 22 = .ok (.invokevirtual 84, 3) := by decide +kernel
theorem dX10_sign_25 : decode cX10_sign 25 = .ok (.ireturn, 1) := by decide +kernel
theorem dX10_sign_26 : decode cX10_sign 26 = .ok (.aload_n 0, 1) := by decide +kernel
theorem dX10_sign_27 : decode cX10_sign 27 = .ok (.getfield 7, 3) := by decide +kernel
theorem dX10_sign_30 : decode cX10_sign 30 = .ok (.iconst 4, 1) := by decide +kernel
theorem dX10_sign_31 : decode cX10_sign 31 = .ok (.iload_n 1, 1) := by decide +kernel
theorem dX10_sign_32 : decode cX10_sign 32 = .ok (.iadd, 1) := by decide +kernel
theorem dX10_sign_33 : decode cX10_sign 33 = .ok (.iaload, 1) := by decide +kernel
theorem dX10_sign_34 : decode cX10_sign 34 = .ok (.istore_n 3, 1) := by decide +kernel
theorem dX10_sign_35 : decode cX10_sign 35 = .ok (.aload_n 0, 1) := by decide +kernel
theorem dX10_sign_36 : decode cX10_sign 36 = .ok (.getfield 7, 3) := by decide +kernel
theorem dX10_sign_39 : decode cX10_sign 39 = .ok (.iconst 4, 1) := by decide +kernel
theorem dX10_sign_40 : decode cX10_sign 40 = .ok (.iload_n 1, 1) := by decide +kernel
theorem dX10_sign_41 : decode cX10_sign 41 = .ok (.iadd, 1) := by decide +kernel
theorem dX10_sign_42 : decode cX10_sign 42 = .ok (.iload_n 2, 1) := by decide +kernel
theorem dX10_sign_43 : decode cX10_sign 43 = .ok (.iastore, 1) := by decide +kernel
theorem dX10_sign_44 : decode cX10_sign 44 = .ok (.iload_n 3, 1) := by decide +kernel
theorem dX10_sign_45 : decode cX10_sign 45 = .ok (.ireturn, 1) := by decide +kernel
theorem dX10_shut_0 : decode cX10_shut 0 = .ok (.iload_n 1, 1) := by decide +kernel
theorem dX10_shut_1 : decode cX10_shut 1 = .ok (.invokestatic 78, 3) := by decide +kernel
theorem dX10_shut_4 : decode cX10_shut 4 = .ok (.ifCond .eq 13, 3) := by decide +kernel
theorem dX10_shut_7 : decode cX10_shut 7 = .ok (.iload_n 2, 1) := by decide +kernel
theorem dX10_shut_8 : decode cX10_shut 8 = .ok (.i2l, 1) := by decide +kernel
theorem dX10_shut_9 : decode cX10_shut 9 = .ok (.lconst 0, 1) := by decide +kernel
theorem dX10_shut_10 : decode cX10_shut 10 = .ok (.lconst 1, 1) := by decide +kernel
theorem dX10_shut_11 : decode cX10_shut 11 = .ok (.invokestatic 68, 3) := by decide +kernel
theorem dX10_shut_14 : decode cX10_shut 14 = .ok (.ifCond .ne 10, 3) := by decide +kernel
theorem dX10_shut_17 : decode cX10_shut 17 = .ok (.aload_n 0, 1) := by decide +kernel
theorem dX10_shut_18 : decode cX10_shut 18 = .ok (.bipush (-2), 2) := by decide +kernel
theorem dX10_shut_20 : decode cX10_shut 20 = .ok (.invokevirtual 84, 3) := by decide +kernel
theorem dX10_shut_23 : decode cX10_shut 23 = .ok (.ireturn, 1) := by decide +kernel
theorem dX10_shut_24 : decode cX10_shut 24 = .ok (.iload_n 2, 1) := by decide +kernel
theorem dX10_shut_25 : decode cX10_shut 25 = .ok (.iconst 1, 1) := by decide +kernel
theorem dX10_shut_26 : decode cX10_shut 26 = .ok (.if_icmp .ne 19, 3) := by decide +kernel
theorem dX10_shut_29 : decode cX10_shut 29 = .ok (.aload_n 0, 1) := by decide +kernel
theorem dX10_shut_30 : decode cX10_shut 30 = .ok (.getfield 7, 3) := by decide +kernel
theorem dX10_shut_33 : decode cX10_shut 33 = .ok (.iload_n 1, 1) := by decide +kernel
theorem dX10_shut_34 : decode cX10_shut 34 = .ok (.invokestatic 88, 3) := by decide +kernel
theorem dX10_shut_37 : decode cX10_shut 37 = .ok (.ifCond .eq 8, 3) := by decide +kernel
theorem dX10_shut_40 : decode cX10_shut 40 = .ok (.aload_n 0, 1) := by decide +kernel
theorem dX10_shut_41 : decode cX10_shut 41 = .ok (.invokevirtual 92, 3) := by decide +kernel
theorem dX10_shut_44 : decode cX10_shut 44 = .ok (.ireturn, 1) := by decide +kernel
theorem dX10_shut_45 : decode cX10_shut 45 = .ok (.aload_n 0, 1) := by decide +kernel
theorem dX10_shut_46 : decode cX10_shut 46 = .ok (.getfield 7, 3) := by decide +kernel
theorem dX10_shut_49 : decode cX10_shut 49 = .ok (.bipush 8, 2) := by decide +kernel
theorem dX10_shut_51 : decode cX10_shut 51 = .ok (.iaload, 1) := by decide +kernel
theorem dX10_shut_52 : decode cX10_shut 52 = .ok (.iload_n 1, 1) := by decide +kernel
theorem dX10_shut_53 : decode cX10_shut 53 = .ok (.ishr, 1) := by decide +kernel
theorem dX10_shut_54 : decode cX10_shut 54 = .ok (.iconst 1, 1) := by decide +kernel
theorem dX10_shut_55 : decode cX10_shut 55 = .ok (.iand, 1) := by decide +kernel
theorem dX10_shut_56 : decode cX10_shut 56 = .ok (.istore_n 3, 1) := by decide +kernel
theorem dX10_shut_57 : decode cX10_shut 57 = .ok (.aload_n 0, 1) := by decide +kernel
theorem dX10_shut_58 : decode cX10_shut 58 = .ok (.getfield 7, 3) := by decide +kernel
theorem dX10_shut_61 : decode cX10_shut 61 = .ok (.bipush 8, 2) := by decide +kernel
theorem dX10_shut_63 : decode cX10_shut 63 = .ok (.iload_n 2, 1) := by decide +kernel
theorem dX10_shut_64 : decode cX10_shut 64 = .ok (.iconst 1, 1) := by decide +kernel
theorem dX10_shut_65 : decode cX10_shut 65 = .ok (.if_icmp .ne 17, 3) := by decide +kernel
theorem dX10_shut_68 : decode cX10_shut 68 = .ok (.aload_n 0, 1) := by decide +kernel
theorem dX10_shut_69 : decode cX10_shut 69 = .ok (.getfield 7, 3) := by decide +kernel
theorem dX10_shut_72 : decode cX10_shut 72 = .ok (.bipush 8, 2) := by decide +kernel
theorem dX10_shut_74 : decode cX10_shut 74 = .ok (.iaload, 1) := by decide +kernel
theorem dX10_shut_75 : decode cX10_shut 75 = .ok (.iconst 1, 1) := by decide +kernel
theorem dX10_shut_76 : decode cX10_shut 76 = .ok (.iload_n 1, 1) := by decide +kernel
theorem dX10_shut_77 : decode cX10_shut 77 = .ok (.ishl, 1) := by decide +kernel
theorem dX10_shut_78 : decode cX10_shut 78 = .ok (.ior, 1) := by decide +kernel
theorem dX10_shut_79 : decode cX10_shut 79 = .ok (.goto 16, 3) := by decide +kernel
theorem dX10_shut_82 : decode cX10_shut 82 = .ok (.aload_n 0, 1) := by decide +kernel
theorem dX10_shut_83 : decode cX10_shut 83 = .ok (.getfield 7, 3) := by decide +kernel
theorem dX10_shut_86 : decode cX10_shut 86 = .ok (.bipush 8, 2) := by decide +kernel
theorem dX10_shut_88 : decode cX10_shut 88 = .ok (.iaload, 1) := by decide +kernel
theorem dX10_shut_89 : decode cX10_shut 89 = .ok (.iconst 1, 1) := by decide +kernel
theorem dX10_shut_90 : decode cX10_shut 90 = .ok (.iload_n 1, 1) := by decide +kernel
theorem dX10_shut_91 : decode cX10_shut 91 = .ok (.ishl, 1) := by decide +kernel
theorem dX10_shut_92 : decode cX10_shut 92 = .ok (.iconst (-1), 1) := by decide +kernel
theorem dX10_shut_93 : decode cX10_shut 93 = .ok (.ixor, 1) := by decide +kernel
theorem dX10_shut_94 : decode cX10_shut 94 = .ok (.iand, 1) := by decide +kernel
theorem dX10_shut_95 : decode cX10_shut 95 = .ok (.iastore, 1) := by decide +kernel
theorem dX10_shut_96 : decode cX10_shut 96 = .ok (.aload_n 0, 1) := by decide +kernel
theorem dX10_shut_97 : decode cX10_shut 97 = .ok (.getfield 7, 3) := by decide +kernel
theorem dX10_shut_100 : decode cX10_shut 100 = .ok (.iconst 3, 1) := by decide +kernel
theorem dX10_shut_101 : decode cX10_shut 101 = .ok (.iconst 0, 1) := by decide +kernel
theorem dX10_shut_102 : decode cX10_shut 102 = .ok (.iastore, 1) := by decide +kernel
theorem dX10_shut_103 : decode cX10_shut 103 = .ok (.iload_n 3, 1) := by decide +kernel
theorem dX10_shut_104 : decode cX10_shut 104 = .ok (.ireturn, 1) := by decide +kernel
theorem dX10_layOne_0 : decode cX10_layOne 0 = .ok (.aload_n 0, 1) := by decide +kernel
theorem dX10_layOne_1 : decode cX10_layOne 1 = .ok (.iconst 0, 1) := by decide +kernel
theorem dX10_layOne_2 : decode cX10_layOne 2 = .ok (.iaload, 1) := by decide +kernel
theorem dX10_layOne_3 : decode cX10_layOne 3 = .ok (.istore 4, 2) := by decide +kernel
theorem dX10_layOne_5 : decode cX10_layOne 5 = .ok (.aload_n 0, 1) := by decide +kernel
theorem dX10_layOne_6 : decode cX10_layOne 6 = .ok (.bipush 30, 2) := by decide +kernel
theorem dX10_layOne_8 : decode cX10_layOne 8 = .ok (.iload 4, 2) := by decide +kernel
theorem dX10_layOne_10 : decode cX10_layOne 10 = .ok (.iadd, 1) := by decide +kernel
theorem dX10_layOne_11 : decode cX10_layOne 11 = .ok (.iload_n 1, 1) := by decide +kernel
theorem dX10_layOne_12 : decode cX10_layOne 12 = .ok (.iastore, 1) := by decide +kernel
theorem dX10_layOne_13 : decode cX10_layOne 13 = .ok (.aload_n 0, 1) := by decide +kernel
theorem dX10_layOne_14 : decode cX10_layOne 14 = .ok (.bipush 37, 2) := by decide +kernel
theorem dX10_layOne_16 : decode cX10_layOne 16 = .ok (.iload 4, 2) := by decide +kernel
theorem dX10_layOne_18 : decode cX10_layOne 18 = .ok (.iadd, 1) := by decide +kernel
theorem dX10_layOne_19 : decode cX10_layOne 19 = .ok (.iload_n 2, 1) := by decide +kernel
theorem dX10_layOne_20 : decode cX10_layOne 20 = .ok (.iastore, 1) := by decide +kernel
theorem dX10_layOne_21 : decode cX10_layOne 21 = .ok (.aload_n 0, 1) := by decide +kernel
theorem dX10_layOne_22 : decode cX10_layOne 22 = .ok (.bipush 9, 2) := by decide +kernel
theorem dX10_layOne_24 : decode cX10_layOne 24 = .ok (.iload 4, 2) := by decide +kernel
theorem dX10_layOne_26 : decode cX10_layOne 26 = .ok (.iadd, 1) := by decide +kernel
theorem dX10_layOne_27 : decode cX10_layOne 27 = .ok (.iload_n 3, 1) := by decide +kernel
theorem dX10_layOne_28 : decode cX10_layOne 28 = .ok (.iastore, 1) := by decide +kernel
theorem dX10_layOne_29 : decode cX10_layOne 29 = .ok (.aload_n 0, 1) := by decide +kernel
theorem dX10_layOne_30 : decode cX10_layOne 30 = .ok (.bipush 16, 2) := by decide +kernel
theorem dX10_layOne_32 : decode cX10_layOne 32 = .ok (.iload 4, 2) := by decide +kernel
theorem dX10_layOne_34 : decode cX10_layOne 34 = .ok (.iadd, 1) := by decide +kernel
theorem dX10_layOne_35 : decode cX10_layOne 35 = .ok (.iconst 0, 1) := by decide +kernel
theorem dX10_layOne_36 : decode cX10_layOne 36 = .ok (.iastore, 1) := by decide +kernel
theorem dX10_layOne_37 : decode cX10_layOne 37 = .ok (.aload_n 0, 1) := by decide +kernel
theorem dX10_layOne_38 : decode cX10_layOne 38 = .ok (.bipush 23, 2) := by decide +kernel
theorem dX10_layOne_40 : decode cX10_layOne 40 = .ok (.iload 4, 2) := by decide +kernel
theorem dX10_layOne_42 : decode cX10_layOne 42 = .ok (.iadd, 1) := by decide +kernel
theorem dX10_layOne_43 : decode cX10_layOne 43 = .ok (.iconst 0, 1) := by decide +kernel
theorem dX10_layOne_44 : decode cX10_layOne 44 = .ok (.iastore, 1) := by decide +kernel
theorem dX10_layOne_45 : decode cX10_layOne 45 = .ok (.aload_n 0, 1) := by decide +kernel
theorem dX10_layOne_46 : decode cX10_layOne 46 = .ok (.iconst 0, 1) := by decide +kernel
theorem dX10_layOne_47 : decode cX10_layOne 47 = .ok (.dup2, 1) := by decide +kernel
theorem dX10_layOne_48 : decode cX10_layOne 48 = .ok (.iaload, 1) := by decide +kernel
theorem dX10_layOne_49 : decode cX10_layOne 49 = .ok (.iconst 1, 1) := by decide +kernel
theorem dX10_layOne_50 : decode cX10_layOne 50 = .ok (.iadd, 1) := by decide +kernel
theorem dX10_layOne_51 : decode cX10_layOne 51 = .ok (.iastore, 1) := by decide +kernel
theorem dX10_layOne_52 : decode cX10_layOne 52 = .ok (.return_, 1) := by decide +kernel
theorem dX10_one_0 : decode cX10_one 0 = .ok (.iload_n 1, 1) := by decide +kernel
theorem dX10_one_1 : decode cX10_one 1 = .ok (.i2l, 1) := by decide +kernel
theorem dX10_one_2 : decode cX10_one 2 = .ok (.lconst 0, 1) := by decide +kernel
theorem dX10_one_3 : decode cX10_one 3 = .ok (.ldc2_w 95, 3) := by decide +kernel
theorem dX10_one_6 : decode cX10_one 6 = .ok (.invokestatic 68, 3) := by decide +kernel
theorem dX10_one_9 : decode cX10_one 9 = .ok (.ifCond .eq 24, 3) := by decide +kernel
theorem dX10_one_12 : decode cX10_one 12 = .ok (.iload_n 2, 1) := by decide +kernel
theorem dX10_one_13 : decode cX10_one 13 = .ok (.i2l, 1) := by decide +kernel
theorem dX10_one_14 : decode cX10_one 14 = .ok (.ldc2_w 97, 3) := by decide +kernel
theorem dX10_one_17 : decode cX10_one 17 = .ok (.ldc2_w 99, 3) := by decide +kernel
theorem dX10_one_20 : decode cX10_one 20 = .ok (.invokestatic 68, 3) := by decide +kernel
theorem dX10_one_23 : decode cX10_one 23 = .ok (.ifCond .eq 10, 3) := by decide +kernel
theorem dX10_one_26 : decode cX10_one 26 = .ok (.iload_n 3, 1) := by decide +kernel
theorem dX10_one_27 : decode cX10_one 27 = .ok (.invokestatic 78, 3) := by decide +kernel
theorem dX10_one_30 : decode cX10_one 30 = .ok (.ifCond .ne 10, 3) := by decide +kernel
theorem dX10_one_33 : decode cX10_one 33 = .ok (.aload_n 0, 1) := by decide +kernel
theorem dX10_one_34 : decode cX10_one 34 = .ok (.bipush (-2), 2) := by decide +kernel
theorem dX10_one_36 : decode cX10_one 36 = .ok (.invokevirtual 84, 3) := by decide +kernel
theorem dX10_one_39 : decode cX10_one 39 = .ok (.ireturn, 1) := by decide +kernel
theorem dX10_one_40 : decode cX10_one 40 = .ok (.aload_n 0, 1) := by decide +kernel
theorem dX10_one_41 : decode cX10_one 41 = .ok (.iload_n 3, 1) := by decide +kernel
theorem dX10_one_42 : decode cX10_one 42 = .ok (.invokevirtual 101, 3) := by decide +kernel
theorem dX10_one_45 : decode cX10_one 45 = .ok (.ifCond .ne 8, 3) := by decide +kernel
theorem dX10_one_48 : decode cX10_one 48 = .ok (.aload_n 0, 1) := by decide +kernel
theorem dX10_one_49 : decode cX10_one 49 = .ok (.invokevirtual 92, 3) := by decide +kernel
theorem dX10_one_52 : decode cX10_one 52 = .ok (.ireturn, 1) := by decide +kernel
theorem dX10_one_53 : decode cX10_one 53 = .ok (.aload_n 0, 1) := by decide +kernel
theorem dX10_one_54 : decode cX10_one 54 = .ok (.invokevirtual 64, 3) := by decide +kernel
theorem dX10_one_57 : decode cX10_one 57 = .ok (.bipush 7, 2) := by decide +kernel
theorem dX10_one_59 : decode cX10_one 59 = .ok (.if_icmp .ne 8, 3) := by decide +kernel
theorem dX10_one_62 : decode cX10_one 62 = .ok (.aload_n 0, 1) := by decide +kernel
theorem dX10_one_63 : decode cX10_one 63 = .ok (.invokevirtual 104, 3) := by decide +kernel
theorem dX10_one_66 : decode cX10_one 66 = .ok (.ireturn, 1) := by decide +kernel
theorem dX10_one_67 : decode cX10_one 67 = .ok (.aload_n 0, 1) := by decide +kernel
theorem dX10_one_68 : decode cX10_one 68 = .ok (.getfield 7, 3) := by decide +kernel
theorem dX10_one_71 : decode cX10_one 71 = .ok (.iload_n 1, 1) := by decide +kernel
theorem dX10_one_72 : decode cX10_one 72 = .ok (.iload_n 2, 1) := by decide +kernel
theorem dX10_one_73 : decode cX10_one 73 = .ok (.iload_n 3, 1) := by decide +kernel
theorem dX10_one_74 : decode cX10_one 74 = .ok (.invokestatic 107, 3) := by decide +kernel
theorem dX10_one_77 : decode cX10_one 77 = .ok (.aload_n 0, 1) := by decide +kernel
theorem dX10_one_78 : decode cX10_one 78 = .ok (.getfield 7, 3) := by decide +kernel
theorem dX10_one_81 : decode cX10_one 81 = .ok (.iconst 3, 1) := by decide +kernel
theorem dX10_one_82 : decode cX10_one 82 = .ok (.iconst 0, 1) := by decide +kernel
theorem dX10_one_83 : decode cX10_one 83 = .ok (.iastore, 1) := by decide +kernel
theorem dX10_one_84 : decode cX10_one 84 = .ok (.aload_n 0, 1) := by decide +kernel
theorem dX10_one_85 : decode cX10_one 85 = .ok (.invokevirtual 64, 3) := by decide +kernel
theorem dX10_one_88 : decode cX10_one 88 = .ok (.iconst 1, 1) := by decide +kernel
theorem dX10_one_89 : decode cX10_one 89 = .ok (.isub, 1) := by decide +kernel
theorem dX10_one_90 : decode cX10_one 90 = .ok (.ireturn, 1) := by decide +kernel
theorem dX10_secondsAs_0 : decode cX10_secondsAs 0 = .ok (.iload_n 2, 1) := by decide +kernel
theorem dX10_secondsAs_1 : decode cX10_secondsAs 1 = .ok (.iload_n 1, 1) := by decide +kernel
theorem dX10_secondsAs_2 : decode cX10_secondsAs 2 = .ok (.if_icmp .le 7, 3) := by decide +kernel
theorem dX10_secondsAs_5 : decode cX10_secondsAs 5 = .ok (.iload_n 2, 1) := by decide +kernel
theorem dX10_secondsAs_6 : decode cX10_secondsAs 6 = .ok (.goto 4, 3) := by decide +kernel
theorem dX10_secondsAs_9 : decode cX10_secondsAs 9 = .ok (.iload_n 1, 1) := by decide +kernel
theorem dX10_secondsAs_10 : decode cX10_secondsAs 10 = .ok (.iload 4, 2) := by decide +kernel
theorem dX10_secondsAs_12 : decode cX10_secondsAs 12 = .ok (.iadd, 1) := by decide +kernel
theorem dX10_secondsAs_13 : decode cX10_secondsAs 13 = .ok (.istore 5, 2) := by decide +kernel
theorem dX10_secondsAs_15 : decode cX10_secondsAs 15 = .ok (.iload_n 0, 1) := by decide +kernel
theorem dX10_secondsAs_16 : decode cX10_secondsAs 16 = .ok (.tableswitch 67 1 5 #[36, 67, 42, 44, 59], 36) := by decide +kernel
theorem dX10_secondsAs_52 : decode cX10_secondsAs 52 = .ok (.iload_n 1, 1) := by decide +kernel
theorem dX10_secondsAs_53 : decode cX10_secondsAs 53 = .ok (.iconst 3, 1) := by decide +kernel
theorem dX10_secondsAs_54 : decode cX10_secondsAs 54 = .ok (.iload_n 3, 1) := by decide +kernel
theorem dX10_secondsAs_55 : decode cX10_secondsAs 55 = .ok (.imul, 1) := by decide +kernel
theorem dX10_secondsAs_56 : decode cX10_secondsAs 56 = .ok (.iadd, 1) := by decide +kernel
theorem dX10_secondsAs_57 : decode cX10_secondsAs 57 = .ok (.ireturn, 1) := by decide +kernel
theorem dX10_secondsAs_58 : decode cX10_secondsAs 58 = .ok (.iload_n 1, 1) := by decide +kernel
theorem dX10_secondsAs_59 : decode cX10_secondsAs 59 = .ok (.ireturn, 1) := by decide +kernel
theorem dX10_secondsAs_60 : decode cX10_secondsAs 60 = .ok (.iload 4, 2) := by decide +kernel
theorem dX10_secondsAs_62 : decode cX10_secondsAs 62 = .ok (.ifCond .le 10, 3) := by decide +kernel
theorem dX10_secondsAs_65 : decode cX10_secondsAs 65 = .ok (.iload 5, 2) := by decide +kernel
theorem dX10_secondsAs_67 : decode cX10_secondsAs 67 = .ok (.iconst 5, 1) := by decide +kernel
theorem dX10_secondsAs_68 : decode cX10_secondsAs 68 = .ok (.iadd, 1) := by decide +kernel
theorem dX10_secondsAs_69 : decode cX10_secondsAs 69 = .ok (.goto 5, 3) := by decide +kernel
theorem dX10_secondsAs_72 : decode cX10_secondsAs 72 = .ok (.iload 5, 2) := by decide +kernel
theorem dX10_secondsAs_74 : decode cX10_secondsAs 74 = .ok (.ireturn, 1) := by decide +kernel
theorem dX10_secondsAs_75 : decode cX10_secondsAs 75 = .ok (.iload_n 1, 1) := by decide +kernel
theorem dX10_secondsAs_76 : decode cX10_secondsAs 76 = .ok (.iconst 3, 1) := by decide +kernel
theorem dX10_secondsAs_77 : decode cX10_secondsAs 77 = .ok (.iload_n 3, 1) := by decide +kernel
theorem dX10_secondsAs_78 : decode cX10_secondsAs 78 = .ok (.imul, 1) := by decide +kernel
theorem dX10_secondsAs_79 : decode cX10_secondsAs 79 = .ok (.iconst 2, 1) := by decide +kernel
theorem dX10_secondsAs_80 : decode cX10_secondsAs 80 = .ok (.idiv, 1) := by decide +kernel
theorem dX10_secondsAs_81 : decode cX10_secondsAs 81 = .ok (.iadd, 1) := by decide +kernel
theorem dX10_secondsAs_82 : decode cX10_secondsAs 82 = .ok (.ireturn, 1) := by decide +kernel
theorem dX10_secondsAs_83 : decode cX10_secondsAs 83 = .ok (.iload 5, 2) := by decide +kernel
theorem dX10_secondsAs_85 : decode cX10_secondsAs 85 = .ok (.ireturn, 1) := by decide +kernel
theorem dX10_believesAs_0 : decode cX10_believesAs 0 = .ok (.iload_n 0, 1) := by decide +kernel
theorem dX10_believesAs_1 : decode cX10_believesAs 1 = .ok (.iconst 2, 1) := by decide +kernel
theorem dX10_believesAs_2 : decode cX10_believesAs 2 = .ok (.if_icmp .eq 8, 3) := by decide +kernel
theorem dX10_believesAs_5 : decode cX10_believesAs 5 = .ok (.iload_n 0, 1) := by decide +kernel
theorem dX10_believesAs_6 : decode cX10_believesAs 6 = .ok (.iconst 4, 1) := by decide +kernel
theorem dX10_believesAs_7 : decode cX10_believesAs 7 = .ok (.if_icmp .ne 10, 3) := by decide +kernel
theorem dX10_believesAs_10 : decode cX10_believesAs 10 = .ok (.iload_n 1, 1) := by decide +kernel
theorem dX10_believesAs_11 : decode cX10_believesAs 11 = .ok (.bipush 15, 2) := by decide +kernel
theorem dX10_believesAs_13 : decode cX10_believesAs 13 = .ok (.isub, 1) := by decide +kernel
theorem dX10_believesAs_14 : decode cX10_believesAs 14 = .ok (.goto 15, 3) := by decide +kernel
theorem dX10_believesAs_17 : decode cX10_believesAs 17 = .ok (.iload_n 0, 1) := by decide +kernel
theorem dX10_believesAs_18 : decode cX10_believesAs 18 = .ok (.iconst 5, 1) := by decide +kernel
theorem dX10_believesAs_19 : decode cX10_believesAs 19 = .ok (.if_icmp .ne 9, 3) := by decide +kernel
theorem dX10_believesAs_22 : decode cX10_believesAs 22 = .ok (.iload_n 1, 1) := by decide +kernel
theorem dX10_believesAs_23 : decode cX10_believesAs 23 = .ok (.iconst 5, 1) := by decide +kernel
theorem dX10_believesAs_24 : decode cX10_believesAs 24 = .ok (.isub, 1) := by decide +kernel
theorem dX10_believesAs_25 : decode cX10_believesAs 25 = .ok (.goto 4, 3) := by decide +kernel
theorem dX10_believesAs_28 : decode cX10_believesAs 28 = .ok (.iload_n 1, 1) := by decide +kernel
theorem dX10_believesAs_29 : decode cX10_believesAs 29 = .ok (.ireturn, 1) := by decide +kernel
theorem dX10_signOf_0 : decode cX10_signOf 0 = .ok (.iload_n 0, 1) := by decide +kernel
theorem dX10_signOf_1 : decode cX10_signOf 1 = .ok (.bipush 60, 2) := by decide +kernel
theorem dX10_signOf_3 : decode cX10_signOf 3 = .ok (.if_icmp .lt 7, 3) := by decide +kernel
theorem dX10_signOf_6 : decode cX10_signOf 6 = .ok (.iconst 0, 1) := by decide +kernel
theorem dX10_signOf_7 : decode cX10_signOf 7 = .ok (.goto 14, 3) := by decide +kernel
theorem dX10_signOf_10 : decode cX10_signOf 10 = .ok (.iload_n 0, 1) := by decide +kernel
theorem dX10_signOf_11 : decode cX10_signOf 11 = .ok (.bipush 40, 2) := by decide +kernel
theorem dX10_signOf_13 : decode cX10_signOf 13 = .ok (.if_icmp .ge 7, 3) := by decide +kernel
theorem dX10_signOf_16 : decode cX10_signOf 16 = .ok (.iconst 2, 1) := by decide +kernel
theorem dX10_signOf_17 : decode cX10_signOf 17 = .ok (.goto 4, 3) := by decide +kernel
theorem dX10_signOf_20 : decode cX10_signOf 20 = .ok (.iconst 1, 1) := by decide +kernel
theorem dX10_signOf_21 : decode cX10_signOf 21 = .ok (.ireturn, 1) := by decide +kernel
theorem dX10_paceOf_0 : decode cX10_paceOf 0 = .ok (.aload_n 0, 1) := by decide +kernel
theorem dX10_paceOf_1 : decode cX10_paceOf 1 = .ok (.getfield 7, 3) := by decide +kernel
theorem dX10_paceOf_4 : decode cX10_paceOf 4 = .ok (.bipush 37, 2) := by decide +kernel
theorem dX10_paceOf_6 : decode cX10_paceOf 6 = .ok (.iload_n 1, 1) := by decide +kernel
theorem dX10_paceOf_7 : decode cX10_paceOf 7 = .ok (.iadd, 1) := by decide +kernel
theorem dX10_paceOf_8 : decode cX10_paceOf 8 = .ok (.iaload, 1) := by decide +kernel
theorem dX10_paceOf_9 : decode cX10_paceOf 9 = .ok (.ireturn, 1) := by decide +kernel
theorem dX10_layHand_0 : decode cX10_layHand 0 = .ok (.iconst 0, 1) := by decide +kernel
theorem dX10_layHand_1 : decode cX10_layHand 1 = .ok (.istore_n 1, 1) := by decide +kernel
theorem dX10_layHand_2 : decode cX10_layHand 2 = .ok (.iload_n 1, 1) := by decide +kernel
theorem dX10_layHand_3 : decode cX10_layHand 3 = .ok (.aload_n 0, 1) := by decide +kernel
theorem dX10_layHand_4 : decode cX10_layHand 4 = .ok (.invokevirtual 64, 3) := by decide +kernel
theorem dX10_layHand_7 : decode cX10_layHand 7 = .ok (.if_icmp .ge 24, 3) := by decide +kernel
theorem dX10_layHand_10 : decode cX10_layHand 10 = .ok (.aload_n 0, 1) := by decide +kernel
theorem dX10_layHand_11 : decode cX10_layHand 11 = .ok (.getfield 27, 3) := by decide +kernel
theorem dX10_layHand_14 : decode cX10_layHand 14 = .ok (.iload_n 1, 1) := by decide +kernel
theorem dX10_layHand_15 : decode cX10_layHand 15 = .ok (.aload_n 0, 1) := by decide +kernel
theorem dX10_layHand_16 : decode cX10_layHand 16 = .ok (.getfield 7, 3) := by decide +kernel
theorem dX10_layHand_19 : decode cX10_layHand 19 = .ok (.bipush 9, 2) := by decide +kernel
theorem dX10_layHand_21 : decode cX10_layHand 21 = .ok (.iload_n 1, 1) := by decide +kernel
theorem dX10_layHand_22 : decode cX10_layHand 22 = .ok (.iadd, 1) := by decide +kernel
theorem dX10_layHand_23 : decode cX10_layHand 23 = .ok (.iaload, 1) := by decide +kernel
theorem dX10_layHand_24 : decode cX10_layHand 24 = .ok (.iastore, 1) := by decide +kernel
theorem dX10_layHand_25 : decode cX10_layHand 25 = .ok (.iinc 1 1, 3) := by decide +kernel
theorem dX10_layHand_28 : decode cX10_layHand 28 = .ok (.goto (-26), 3) := by decide +kernel
theorem dX10_layHand_31 : decode cX10_layHand 31 = .ok (.return_, 1) := by decide +kernel
theorem dX10_layOthers_0 : decode cX10_layOthers 0 = .ok (.aload_n 0, 1) := by decide +kernel
theorem dX10_layOthers_1 : decode cX10_layOthers 1 = .ok (.iconst 0, 1) := by decide +kernel
theorem dX10_layOthers_2 : decode cX10_layOthers 2 = .ok (.putfield 111, 3) := by decide +kernel
theorem dX10_layOthers_5 : decode cX10_layOthers 5 = .ok (.aload_n 0, 1) := by decide +kernel
theorem dX10_layOthers_6 : decode cX10_layOthers 6 = .ok (.iconst 0, 1) := by decide +kernel
theorem dX10_layOthers_7 : decode cX10_layOthers 7 = .ok (.putfield 115, 3) := by decide +kernel
theorem dX10_layOthers_10 : decode cX10_layOthers 10 = .ok (.aload_n 0, 1) := by decide +kernel
theorem dX10_layOthers_11 : decode cX10_layOthers 11 = .ok (.iconst 0, 1) := by decide +kernel
theorem dX10_layOthers_12 : decode cX10_layOthers 12 = .ok (.putfield 118, 3) := by decide +kernel
theorem dX10_layOthers_15 : decode cX10_layOthers 15 = .ok (.iconst 0, 1) := by decide +kernel
theorem dX10_layOthers_16 : decode cX10_layOthers 16 = .ok (.istore_n 3, 1) := by decide +kernel
theorem dX10_layOthers_17 : decode cX10_layOthers 17 = .ok (.iload_n 3, 1) := by decide +kernel
theorem dX10_layOthers_18 : decode cX10_layOthers 18 = .ok (.aload_n 0, 1) := by decide +kernel
theorem dX10_layOthers_19 : decode cX10_layOthers 19 = .ok (.invokevirtual 64, 3) := by decide +kernel
theorem dX10_layOthers_22 : decode cX10_layOthers 22 = .ok (.if_icmp .ge 89, 3) := by decide +kernel
theorem dX10_layOthers_25 : decode cX10_layOthers 25 = .ok (.iload_n 3, 1) := by decide +kernel
theorem dX10_layOthers_26 : decode cX10_layOthers 26 = .ok (.iload_n 1, 1) := by decide +kernel
theorem dX10_layOthers_27 : decode cX10_layOthers 27 = .ok (.if_icmp .eq 78, 3) := by decide +kernel
theorem dX10_layOthers_30 : decode cX10_layOthers 30 = .ok (.aload_n 0, 1) := by decide +kernel
theorem dX10_layOthers_31 : decode cX10_layOthers 31 = .ok (.getfield 27, 3) := by decide +kernel
theorem dX10_layOthers_34 : decode cX10_layOthers 34 = .ok (.iload_n 3, 1) := by decide +kernel
theorem dX10_layOthers_35 : decode cX10_layOthers 35 = .ok (.iaload, 1) := by decide +kernel
theorem dX10_layOthers_36 : decode cX10_layOthers 36 = .ok (.iload_n 2, 1) := by decide +kernel
theorem dX10_layOthers_37 : decode cX10_layOthers 37 = .ok (.if_icmp .ne 68, 3) := by decide +kernel
theorem dX10_layOthers_40 : decode cX10_layOthers 40 = .ok (.aload_n 0, 1) := by decide +kernel
theorem dX10_layOthers_41 : decode cX10_layOthers 41 = .ok (.aload_n 0, 1) := by decide +kernel
theorem dX10_layOthers_42 : decode cX10_layOthers 42 = .ok (.iload_n 3, 1) := by decide +kernel
theorem dX10_layOthers_43 : decode cX10_layOthers 43 = .ok (.invokevirtual 121, 3) := by decide +kernel
theorem dX10_layOthers_46 : decode cX10_layOthers 46 = .ok (.aload_n 0, 1) := by decide +kernel
theorem dX10_layOthers_47 : decode cX10_layOthers 47 = .ok (.getfield 111, 3) := by decide +kernel
theorem dX10_layOthers_50 : decode cX10_layOthers 50 = .ok (.if_icmp .le 11, 3) := by decide +kernel
theorem dX10_layOthers_53 : decode cX10_layOthers 53 = .ok (.aload_n 0, 1) := by decide +kernel
theorem dX10_layOthers_54 : decode cX10_layOthers 54 = .ok (.iload_n 3, 1) := by decide +kernel
theorem dX10_layOthers_55 : decode cX10_layOthers 55 = .ok (.invokevirtual 121, 3) := by decide +kernel
theorem dX10_layOthers_58 : decode cX10_layOthers 58 = .ok (.goto 7, 3) := by decide +kernel
theorem dX10_layOthers_61 : decode cX10_layOthers 61 = .ok (.aload_n 0, 1) := by decide +kernel
theorem dX10_layOthers_62 : decode cX10_layOthers 62 = .ok (.getfield 111, 3) := by decide +kernel
theorem dX10_layOthers_65 : decode cX10_layOthers 65 = .ok (.putfield 111, 3) := by decide +kernel
theorem dX10_layOthers_68 : decode cX10_layOthers 68 = .ok (.aload_n 0, 1) := by decide +kernel
theorem dX10_layOthers_69 : decode cX10_layOthers 69 = .ok (.dup, 1) := by decide +kernel
theorem dX10_layOthers_70 : decode cX10_layOthers 70 = .ok (.getfield 115, 3) := by decide +kernel
theorem dX10_layOthers_73 : decode cX10_layOthers 73 = .ok (.aload_n 0, 1) := by decide +kernel
theorem dX10_layOthers_74 : decode cX10_layOthers 74 = .ok (.iload_n 3, 1) := by decide +kernel
theorem dX10_layOthers_75 : decode cX10_layOthers 75 = .ok (.invokevirtual 121, 3) := by decide +kernel
theorem dX10_layOthers_78 : decode cX10_layOthers 78 = .ok (.aload_n 0, 1) := by decide +kernel
theorem dX10_layOthers_79 : decode cX10_layOthers 79 = .ok (.iload_n 1, 1) := by decide +kernel
theorem dX10_layOthers_80 : decode cX10_layOthers 80 = .ok (.invokevirtual 121, 3) := by decide +kernel
theorem dX10_layOthers_83 : decode cX10_layOthers 83 = .ok (.if_icmp .le 7, 3) := by decide +kernel
theorem dX10_layOthers_86 : decode cX10_layOthers 86 = .ok (.iconst 1, 1) := by decide +kernel
theorem dX10_layOthers_87 : decode cX10_layOthers 87 = .ok (.goto 4, 3) := by decide +kernel
theorem dX10_layOthers_90 : decode cX10_layOthers 90 = .ok (.iconst 0, 1) := by decide +kernel
theorem dX10_layOthers_91 : decode cX10_layOthers 91 = .ok (.iadd, 1) := by decide +kernel
theorem dX10_layOthers_92 : decode cX10_layOthers 92 = .ok (.putfield 115, 3) := by decide +kernel
theorem dX10_layOthers_95 : decode cX10_layOthers 95 = .ok (.aload_n 0, 1) := by decide +kernel
theorem dX10_layOthers_96 : decode cX10_layOthers 96 = .ok (.dup, 1) := by decide +kernel
theorem dX10_layOthers_97 : decode cX10_layOthers 97 = .ok (.getfield 118, 3) := by decide +kernel
theorem dX10_layOthers_100 : decode cX10_layOthers 100 = .ok (.iconst 1, 1) := by decide +kernel
theorem dX10_layOthers_101 : decode cX10_layOthers 101 = .ok (.iadd, 1) := by decide +kernel
theorem dX10_layOthers_102 : decode cX10_layOthers 102 = .ok (.putfield 118, 3) := by decide +kernel
theorem dX10_layOthers_105 : decode cX10_layOthers 105 = .ok (.iinc 3 1, 3) := by decide +kernel
theorem dX10_layOthers_108 : decode cX10_layOthers 108 = .ok (.goto (-91), 3) := by decide +kernel
theorem dX10_layOthers_111 : decode cX10_layOthers 111 = .ok (.return_, 1) := by decide +kernel
theorem dX10_secondsIn_0 : decode cX10_secondsIn 0 = .ok (.aload_n 0, 1) := by decide +kernel
theorem dX10_secondsIn_1 : decode cX10_secondsIn 1 = .ok (.iload_n 1, 1) := by decide +kernel
theorem dX10_secondsIn_2 : decode cX10_secondsIn 2 = .ok (.iload_n 2, 1) := by decide +kernel
theorem dX10_secondsIn_3 : decode cX10_secondsIn 3 = .ok (.invokevirtual 124, 3) := by decide +kernel
theorem dX10_secondsIn_6 : decode cX10_secondsIn 6 = .ok (.aload_n 0, 1) := by decide +kernel
theorem dX10_secondsIn_7 : decode cX10_secondsIn 7 = .ok (.getfield 7, 3) := by decide +kernel
theorem dX10_secondsIn_10 : decode cX10_secondsIn 10 = .ok (.bipush 30, 2) := by decide +kernel
theorem dX10_secondsIn_12 : decode cX10_secondsIn 12 = .ok (.iload_n 1, 1) := by decide +kernel
theorem dX10_secondsIn_13 : decode cX10_secondsIn 13 = .ok (.iadd, 1) := by decide +kernel
theorem dX10_secondsIn_14 : decode cX10_secondsIn 14 = .ok (.iaload, 1) := by decide +kernel
theorem dX10_secondsIn_15 : decode cX10_secondsIn 15 = .ok (.aload_n 0, 1) := by decide +kernel
theorem dX10_secondsIn_16 : decode cX10_secondsIn 16 = .ok (.iload_n 1, 1) := by decide +kernel
theorem dX10_secondsIn_17 : decode cX10_secondsIn 17 = .ok (.invokevirtual 121, 3) := by decide +kernel
theorem dX10_secondsIn_20 : decode cX10_secondsIn 20 = .ok (.aload_n 0, 1) := by decide +kernel
theorem dX10_secondsIn_21 : decode cX10_secondsIn 21 = .ok (.getfield 111, 3) := by decide +kernel
theorem dX10_secondsIn_24 : decode cX10_secondsIn 24 = .ok (.aload_n 0, 1) := by decide +kernel
theorem dX10_secondsIn_25 : decode cX10_secondsIn 25 = .ok (.getfield 115, 3) := by decide +kernel
theorem dX10_secondsIn_28 : decode cX10_secondsIn 28 = .ok (.aload_n 0, 1) := by decide +kernel
theorem dX10_secondsIn_29 : decode cX10_secondsIn 29 = .ok (.getfield 118, 3) := by decide +kernel
theorem dX10_secondsIn_32 : decode cX10_secondsIn 32 = .ok (.invokestatic 128, 3) := by decide +kernel
theorem dX10_secondsIn_35 : decode cX10_secondsIn 35 = .ok (.ireturn, 1) := by decide +kernel
theorem dX10_keep_0 : decode cX10_keep 0 = .ok (.aload_n 0, 1) := by decide +kernel
theorem dX10_keep_1 : decode cX10_keep 1 = .ok (.getfield 7, 3) := by decide +kernel
theorem dX10_keep_4 : decode cX10_keep 4 = .ok (.iconst 3, 1) := by decide +kernel
theorem dX10_keep_5 : decode cX10_keep 5 = .ok (.iaload, 1) := by decide +kernel
theorem dX10_keep_6 : decode cX10_keep 6 = .ok (.bipush 8, 2) := by decide +kernel
theorem dX10_keep_8 : decode cX10_keep 8 = .ok (.if_icmp .ne 44, 3) := by decide +kernel
theorem dX10_keep_11 : decode cX10_keep 11 = .ok (.iconst 0, 1) := by decide +kernel
theorem dX10_keep_12 : decode cX10_keep 12 = .ok (.istore_n 1, 1) := by decide +kernel
theorem dX10_keep_13 : decode cX10_keep 13 = .ok (.iload_n 1, 1) := by decide +kernel
theorem dX10_keep_14 : decode cX10_keep 14 = .ok (.sipush 154, 3) := by decide +kernel
theorem dX10_keep_17 : decode cX10_keep 17 = .ok (.if_icmp .ge 27, 3) := by decide +kernel
theorem dX10_keep_20 : decode cX10_keep 20 = .ok (.aload_n 0, 1) := by decide +kernel
theorem dX10_keep_21 : decode cX10_keep 21 = .ok (.getfield 7, 3) := by decide +kernel
theorem dX10_keep_24 : decode cX10_keep 24 = .ok (.bipush 74, 2) := by decide +kernel
theorem dX10_keep_26 : decode cX10_keep 26 = .ok (.iload_n 1, 1) := by decide +kernel
theorem dX10_keep_27 : decode cX10_keep 27 = .ok (.iadd, 1) := by decide +kernel
theorem dX10_keep_28 : decode cX10_keep 28 = .ok (.aload_n 0, 1) := by decide +kernel
theorem dX10_keep_29 : decode cX10_keep 29 = .ok (.getfield 7, 3) := by decide +kernel
theorem dX10_keep_32 : decode cX10_keep 32 = .ok (.bipush 96, 2) := by decide +kernel
theorem dX10_keep_34 : decode cX10_keep 34 = .ok (.iload_n 1, 1) := by decide +kernel
theorem dX10_keep_35 : decode cX10_keep 35 = .ok (.iadd, 1) := by decide +kernel
theorem dX10_keep_36 : decode cX10_keep 36 = .ok (.iaload, 1) := by decide +kernel
theorem dX10_keep_37 : decode cX10_keep 37 = .ok (.iastore, 1) := by decide +kernel
theorem dX10_keep_38 : decode cX10_keep 38 = .ok (.iinc 1 1, 3) := by decide +kernel
theorem dX10_keep_41 : decode cX10_keep 41 = .ok (.goto (-28), 3) := by decide +kernel
theorem dX10_keep_44 : decode cX10_keep 44 = .ok (.aload_n 0, 1) := by decide +kernel
theorem dX10_keep_45 : decode cX10_keep 45 = .ok (.getfield 7, 3) := by decide +kernel
theorem dX10_keep_48 : decode cX10_keep 48 = .ok (.iconst 3, 1) := by decide +kernel
theorem dX10_keep_49 : decode cX10_keep 49 = .ok (.bipush 7, 2) := by decide +kernel
theorem dX10_keep_51 : decode cX10_keep 51 = .ok (.iastore, 1) := by decide +kernel
theorem dX10_keep_52 : decode cX10_keep 52 = .ok (.bipush 74, 2) := by decide +kernel
theorem dX10_keep_54 : decode cX10_keep 54 = .ok (.bipush 22, 2) := by decide +kernel
theorem dX10_keep_56 : decode cX10_keep 56 = .ok (.aload_n 0, 1) := by decide +kernel
theorem dX10_keep_57 : decode cX10_keep 57 = .ok (.getfield 7, 3) := by decide +kernel
theorem dX10_keep_60 : decode cX10_keep 60 = .ok (.iconst 3, 1) := by decide +kernel
theorem dX10_keep_61 : decode cX10_keep 61 = .ok (.iaload, 1) := by decide +kernel
theorem dX10_keep_62 : decode cX10_keep 62 = .ok (.imul, 1) := by decide +kernel
theorem dX10_keep_63 : decode cX10_keep 63 = .ok (.iadd, 1) := by decide +kernel
theorem dX10_keep_64 : decode cX10_keep 64 = .ok (.istore_n 1, 1) := by decide +kernel
theorem dX10_keep_65 : decode cX10_keep 65 = .ok (.iconst 0, 1) := by decide +kernel
theorem dX10_keep_66 : decode cX10_keep 66 = .ok (.istore_n 2, 1) := by decide +kernel
theorem dX10_keep_67 : decode cX10_keep 67 = .ok (.iload_n 2, 1) := by decide +kernel
theorem dX10_keep_68 : decode cX10_keep 68 = .ok (.bipush 21, 2) := by decide +kernel
theorem dX10_keep_70 : decode cX10_keep 70 = .ok (.if_icmp .ge 26, 3) := by decide +kernel
theorem dX10_keep_73 : decode cX10_keep 73 = .ok (.aload_n 0, 1) := by decide +kernel
theorem dX10_keep_74 : decode cX10_keep 74 = .ok (.getfield 7, 3) := by decide +kernel
theorem dX10_keep_77 : decode cX10_keep 77 = .ok (.iload_n 1, 1) := by decide +kernel
theorem dX10_keep_78 : decode cX10_keep 78 = .ok (.iload_n 2, 1) := by decide +kernel
theorem dX10_keep_79 : decode cX10_keep 79 = .ok (.iadd, 1) := by decide +kernel
theorem dX10_keep_80 : decode cX10_keep 80 = .ok (.aload_n 0, 1) := by decide +kernel
theorem dX10_keep_81 : decode cX10_keep 81 = .ok (.getfield 7, 3) := by decide +kernel
theorem dX10_keep_84 : decode cX10_keep 84 = .ok (.bipush 9, 2) := by decide +kernel
theorem dX10_keep_86 : decode cX10_keep 86 = .ok (.iload_n 2, 1) := by decide +kernel
theorem dX10_keep_87 : decode cX10_keep 87 = .ok (.iadd, 1) := by decide +kernel
theorem dX10_keep_88 : decode cX10_keep 88 = .ok (.iaload, 1) := by decide +kernel
theorem dX10_keep_89 : decode cX10_keep 89 = .ok (.iastore, 1) := by decide +kernel
theorem dX10_keep_90 : decode cX10_keep 90 = .ok (.iinc 2 1, 3) := by decide +kernel
theorem dX10_keep_93 : decode cX10_keep 93 = .ok (.goto (-26), 3) := by decide +kernel
theorem dX10_keep_96 : decode cX10_keep 96 = .ok (.aload_n 0, 1) := by decide +kernel
theorem dX10_keep_97 : decode cX10_keep 97 = .ok (.getfield 7, 3) := by decide +kernel
theorem dX10_keep_100 : decode cX10_keep 100 = .ok (.iload_n 1, 1) := by decide +kernel
theorem dX10_keep_101 : decode cX10_keep 101 = .ok (.bipush 21, 2) := by decide +kernel
theorem dX10_keep_103 : decode cX10_keep 103 = .ok (.iadd, 1) := by decide +kernel
theorem dX10_keep_104 : decode cX10_keep 104 = .ok (.aload_n 0, 1) := by decide +kernel
theorem dX10_keep_105 : decode cX10_keep 105 = .ok (.getfield 7, 3) := by decide +kernel
theorem dX10_keep_108 : decode cX10_keep 108 = .ok (.iconst 1, 1) := by decide +kernel
theorem dX10_keep_109 : decode cX10_keep 109 = .ok (.iaload, 1) := by decide +kernel
theorem dX10_keep_110 : decode cX10_keep 110 = .ok (.iastore, 1) := by decide +kernel
theorem dX10_keep_111 : decode cX10_keep 111 = .ok (.aload_n 0, 1) := by decide +kernel
theorem dX10_keep_112 : decode cX10_keep 112 = .ok (.getfield 7, 3) := by decide +kernel
theorem dX10_keep_115 : decode cX10_keep 115 = .ok (.iconst 3, 1) := by decide +kernel
theorem dX10_keep_116 : decode cX10_keep 116 = .ok (.dup2, 1) := by decide +kernel
theorem dX10_keep_117 : decode cX10_keep 117 = .ok (.iaload, 1) := by decide +kernel
theorem dX10_keep_118 : decode cX10_keep 118 = .ok (.iconst 1, 1) := by decide +kernel
theorem dX10_keep_119 : decode cX10_keep 119 = .ok (.iadd, 1) := by decide +kernel
theorem dX10_keep_120 : decode cX10_keep 120 = .ok (.iastore, 1) := by decide +kernel
theorem dX10_keep_121 : decode cX10_keep 121 = .ok (.return_, 1) := by decide +kernel
theorem dX10_goes_0 : decode cX10_goes 0 = .ok (.aload_n 0, 1) := by decide +kernel
theorem dX10_goes_1 : decode cX10_goes 1 = .ok (.iload_n 1, 1) := by decide +kernel
theorem dX10_goes_2 : decode cX10_goes 2 = .ok (.invokevirtual 132, 3) := by decide +kernel
theorem dX10_goes_5 : decode cX10_goes 5 = .ok (.ifCond .eq 10, 3) := by decide +kernel
theorem dX10_goes_8 : decode cX10_goes 8 = .ok (.iload_n 2, 1) := by decide +kernel
theorem dX10_goes_9 : decode cX10_goes 9 = .ok (.invokestatic 78, 3) := by decide +kernel
theorem dX10_goes_12 : decode cX10_goes 12 = .ok (.ifCond .ne 10, 3) := by decide +kernel
theorem dX10_goes_15 : decode cX10_goes 15 = .ok (.aload_n 0, 1) := by decide +kernel
theorem dX10_goes_16 : decode cX10_goes 16 = .ok (.bipush (-2), 2) := by decide +kernel
theorem dX10_goes_18 : decode cX10_goes 18 = .ok (.invokevirtual 84, 3) := by decide +kernel
theorem dX10_goes_21 : decode cX10_goes 21 = .ok (.ireturn, 1) := by decide +kernel
theorem dX10_goes_22 : decode cX10_goes 22 = .ok (.aload_n 0, 1) := by decide +kernel
theorem dX10_goes_23 : decode cX10_goes 23 = .ok (.iload_n 2, 1) := by decide +kernel
theorem dX10_goes_24 : decode cX10_goes 24 = .ok (.invokevirtual 101, 3) := by decide +kernel
theorem dX10_goes_27 : decode cX10_goes 27 = .ok (.ifCond .ne 8, 3) := by decide +kernel
theorem dX10_goes_30 : decode cX10_goes 30 = .ok (.aload_n 0, 1) := by decide +kernel
theorem dX10_goes_31 : decode cX10_goes 31 = .ok (.invokevirtual 92, 3) := by decide +kernel
theorem dX10_goes_34 : decode cX10_goes 34 = .ok (.ireturn, 1) := by decide +kernel
theorem dX10_goes_35 : decode cX10_goes 35 = .ok (.aload_n 0, 1) := by decide +kernel
theorem dX10_goes_36 : decode cX10_goes 36 = .ok (.getfield 7, 3) := by decide +kernel
theorem dX10_goes_39 : decode cX10_goes 39 = .ok (.bipush 9, 2) := by decide +kernel
theorem dX10_goes_41 : decode cX10_goes 41 = .ok (.iload_n 1, 1) := by decide +kernel
theorem dX10_goes_42 : decode cX10_goes 42 = .ok (.iadd, 1) := by decide +kernel
theorem dX10_goes_43 : decode cX10_goes 43 = .ok (.iaload, 1) := by decide +kernel
theorem dX10_goes_44 : decode cX10_goes 44 = .ok (.istore_n 3, 1) := by decide +kernel
theorem dX10_goes_45 : decode cX10_goes 45 = .ok (.aload_n 0, 1) := by decide +kernel
theorem dX10_goes_46 : decode cX10_goes 46 = .ok (.invokevirtual 135, 3) := by decide +kernel
theorem dX10_goes_49 : decode cX10_goes 49 = .ok (.aload_n 0, 1) := by decide +kernel
theorem dX10_goes_50 : decode cX10_goes 50 = .ok (.getfield 7, 3) := by decide +kernel
theorem dX10_goes_53 : decode cX10_goes 53 = .ok (.bipush 9, 2) := by decide +kernel
theorem dX10_goes_55 : decode cX10_goes 55 = .ok (.iload_n 1, 1) := by decide +kernel
theorem dX10_goes_56 : decode cX10_goes 56 = .ok (.iadd, 1) := by decide +kernel
theorem dX10_goes_57 : decode cX10_goes 57 = .ok (.iload_n 2, 1) := by decide +kernel
theorem dX10_goes_58 : decode cX10_goes 58 = .ok (.iastore, 1) := by decide +kernel
theorem dX10_goes_59 : decode cX10_goes 59 = .ok (.iload_n 3, 1) := by decide +kernel
theorem dX10_goes_60 : decode cX10_goes 60 = .ok (.ireturn, 1) := by decide +kernel
theorem dX10_minute_0 : decode cX10_minute 0 = .ok (.iload_n 1, 1) := by decide +kernel
theorem dX10_minute_1 : decode cX10_minute 1 = .ok (.i2l, 1) := by decide +kernel
theorem dX10_minute_2 : decode cX10_minute 2 = .ok (.lconst 1, 1) := by decide +kernel
theorem dX10_minute_3 : decode cX10_minute 3 = .ok (.ldc2_w 138, 3) := by decide +kernel
theorem dX10_minute_6 : decode cX10_minute 6 = .ok (.invokestatic 68, 3) := by decide +kernel
theorem dX10_minute_9 : decode cX10_minute 9 = .ok (.ifCond .ne 10, 3) := by decide +kernel
theorem dX10_minute_12 : decode cX10_minute 12 = .ok (.aload_n 0, 1) := by decide +kernel
theorem dX10_minute_13 : decode cX10_minute 13 = .ok (.bipush (-2), 2) := by decide +kernel
theorem dX10_minute_15 : decode cX10_minute 15 = .ok (.invokevirtual 84, 3) := by decide +kernel
theorem dX10_minute_18 : decode cX10_minute 18 = .ok (.ireturn, 1) := by decide +kernel
theorem dX10_minute_19 : decode cX10_minute 19 = .ok (.aload_n 0, 1) := by decide +kernel
theorem dX10_minute_20 : decode cX10_minute 20 = .ok (.getfield 7, 3) := by decide +kernel
theorem dX10_minute_23 : decode cX10_minute 23 = .ok (.iconst 1, 1) := by decide +kernel
theorem dX10_minute_24 : decode cX10_minute 24 = .ok (.iaload, 1) := by decide +kernel
theorem dX10_minute_25 : decode cX10_minute 25 = .ok (.iload_n 1, 1) := by decide +kernel
theorem dX10_minute_26 : decode cX10_minute 26 = .ok (.iadd, 1) := by decide +kernel
theorem dX10_minute_27 : decode cX10_minute 27 = .ok (.sipush 999, 3) := by decide +kernel
theorem dX10_minute_30 : decode cX10_minute 30 = .ok (.if_icmp .le 16, 3) := by decide +kernel
theorem dX10_minute_33 : decode cX10_minute 33 = .ok (.sipush 999, 3) := by decide +kernel
theorem dX10_minute_36 : decode cX10_minute 36 = .ok (.aload_n 0, 1) := by decide +kernel
theorem dX10_minute_37 : decode cX10_minute 37 = .ok (.getfield 7, 3) := by decide +kernel
theorem dX10_minute_40 : decode cX10_minute 40 = .ok (.iconst 1, 1) := by decide +kernel
theorem dX10_minute_41 : decode cX10_minute 41 = .ok (.iaload, 1) := by decide +kernel
theorem dX10_minute_42 : decode cX10_minute 42 = .ok (.isub, 1) := by decide +kernel
theorem dX10_minute_43 : decode cX10_minute 43 = .ok (.goto 4, 3) := by decide +kernel
theorem dX10_minute_46 : decode cX10_minute 46 = .ok (.iload_n 1, 1) := by decide +kernel
theorem dX10_minute_47 : decode cX10_minute 47 = .ok (.istore_n 2, 1) := by decide +kernel
theorem dX10_minute_48 : decode cX10_minute 48 = .ok (.iconst 0, 1) := by decide +kernel
theorem dX10_minute_49 : decode cX10_minute 49 = .ok (.istore_n 3, 1) := by decide +kernel
theorem dX10_minute_50 : decode cX10_minute 50 = .ok (.aload_n 0, 1) := by decide +kernel
theorem dX10_minute_51 : decode cX10_minute 51 = .ok (.invokevirtual 135, 3) := by decide +kernel
theorem dX10_minute_54 : decode cX10_minute 54 = .ok (.aload_n 0, 1) := by decide +kernel
theorem dX10_minute_55 : decode cX10_minute 55 = .ok (.invokevirtual 140, 3) := by decide +kernel
theorem dX10_minute_58 : decode cX10_minute 58 = .ok (.iconst 0, 1) := by decide +kernel
theorem dX10_minute_59 : decode cX10_minute 59 = .ok (.istore 4, 2) := by decide +kernel
theorem dX10_minute_61 : decode cX10_minute 61 = .ok (.iload 4, 2) := by decide +kernel
theorem dX10_minute_63 : decode cX10_minute 63 = .ok (.aload_n 0, 1) := by decide +kernel
theorem dX10_minute_64 : decode cX10_minute 64 = .ok (.invokevirtual 64, 3) := by decide +kernel
theorem dX10_minute_67 : decode cX10_minute 67 = .ok (.if_icmp .ge 86, 3) := by decide +kernel
theorem dX10_minute_70 : decode cX10_minute 70 = .ok (.iload_n 2, 1) := by decide +kernel
theorem dX10_minute_71 : decode cX10_minute 71 = .ok (.ifCond .le 82, 3) := by decide +kernel
theorem dX10_minute_74 : decode cX10_minute 74 = .ok (.aload_n 0, 1) := by decide +kernel
theorem dX10_minute_75 : decode cX10_minute 75 = .ok (.iload 4, 2) := by decide +kernel
theorem dX10_minute_77 : decode cX10_minute 77 = .ok (.aload_n 0, 1) := by decide +kernel
theorem dX10_minute_78 : decode cX10_minute 78 = .ok (.getfield 27, 3) := by decide +kernel
theorem dX10_minute_81 : decode cX10_minute 81 = .ok (.iload 4, 2) := by decide +kernel
theorem dX10_minute_83 : decode cX10_minute 83 = .ok (.iaload, 1) := by decide +kernel
theorem dX10_minute_84 : decode cX10_minute 84 = .ok (.invokevirtual 143, 3) := by decide +kernel
theorem dX10_minute_87 : decode cX10_minute 87 = .ok (.istore 5, 2) := by decide +kernel
theorem dX10_minute_89 : decode cX10_minute 89 = .ok (.aload_n 0, 1) := by decide +kernel
theorem dX10_minute_90 : decode cX10_minute 90 = .ok (.getfield 7, 3) := by decide +kernel
theorem dX10_minute_93 : decode cX10_minute 93 = .ok (.bipush 23, 2) := by decide +kernel
theorem dX10_minute_95 : decode cX10_minute 95 = .ok (.iload 4, 2) := by decide +kernel
theorem dX10_minute_97 : decode cX10_minute 97 = .ok (.iadd, 1) := by decide +kernel
theorem dX10_minute_98 : decode cX10_minute 98 = .ok (.iaload, 1) := by decide +kernel
theorem dX10_minute_99 : decode cX10_minute 99 = .ok (.bipush 60, 2) := by decide +kernel
theorem dX10_minute_101 : decode cX10_minute 101 = .ok (.iload_n 2, 1) := by decide +kernel
theorem dX10_minute_102 : decode cX10_minute 102 = .ok (.imul, 1) := by decide +kernel
theorem dX10_minute_103 : decode cX10_minute 103 = .ok (.iadd, 1) := by decide +kernel
theorem dX10_minute_104 : decode cX10_minute 104 = .ok (.istore 6, 2) := by decide +kernel
theorem dX10_minute_106 : decode cX10_minute 106 = .ok (.aload_n 0, 1) := by decide +kernel
theorem dX10_minute_107 : decode cX10_minute 107 = .ok (.getfield 7, 3) := by decide +kernel
theorem dX10_minute_110 : decode cX10_minute 110 = .ok (.bipush 16, 2) := by decide +kernel
theorem dX10_minute_112 : decode cX10_minute 112 = .ok (.iload 4, 2) := by decide +kernel
theorem dX10_minute_114 : decode cX10_minute 114 = .ok (.iadd, 1) := by decide +kernel
theorem dX10_minute_115 : decode cX10_minute 115 = .ok (.dup2, 1) := by decide +kernel
theorem dX10_minute_116 : decode cX10_minute 116 = .ok (.iaload, 1) := by decide +kernel
theorem dX10_minute_117 : decode cX10_minute 117 = .ok (.iload 6, 2) := by decide +kernel
theorem dX10_minute_119 : decode cX10_minute 119 = .ok (.iload 5, 2) := by decide +kernel
theorem dX10_minute_121 : decode cX10_minute 121 = .ok (.idiv, 1) := by decide +kernel
theorem dX10_minute_122 : decode cX10_minute 122 = .ok (.iadd, 1) := by decide +kernel
theorem dX10_minute_123 : decode cX10_minute 123 = .ok (.iastore, 1) := by decide +kernel
theorem dX10_minute_124 : decode cX10_minute 124 = .ok (.aload_n 0, 1) := by decide +kernel
theorem dX10_minute_125 : decode cX10_minute 125 = .ok (.getfield 7, 3) := by decide +kernel
theorem dX10_minute_128 : decode cX10_minute 128 = .ok (.bipush 23, 2) := by decide +kernel
theorem dX10_minute_130 : decode cX10_minute 130 = .ok (.iload 4, 2) := by decide +kernel
theorem dX10_minute_132 : decode cX10_minute 132 = .ok (.iadd, 1) := by decide +kernel
theorem dX10_minute_133 : decode cX10_minute 133 = .ok (.iload 6, 2) := by decide +kernel
theorem dX10_minute_135 : decode cX10_minute 135 = .ok (.iload 5, 2) := by decide +kernel
theorem dX10_minute_137 : decode cX10_minute 137 = .ok (.irem, 1) := by decide +kernel
theorem dX10_minute_138 : decode cX10_minute 138 = .ok (.iastore, 1) := by decide +kernel
theorem dX10_minute_139 : decode cX10_minute 139 = .ok (.iload_n 3, 1) := by decide +kernel
theorem dX10_minute_140 : decode cX10_minute 140 = .ok (.iload 6, 2) := by decide +kernel
theorem dX10_minute_142 : decode cX10_minute 142 = .ok (.iload 5, 2) := by decide +kernel
theorem dX10_minute_144 : decode cX10_minute 144 = .ok (.idiv, 1) := by decide +kernel
theorem dX10_minute_145 : decode cX10_minute 145 = .ok (.iadd, 1) := by decide +kernel
theorem dX10_minute_146 : decode cX10_minute 146 = .ok (.istore_n 3, 1) := by decide +kernel
theorem dX10_minute_147 : decode cX10_minute 147 = .ok (.iinc 4 1, 3) := by decide +kernel
theorem dX10_minute_150 : decode cX10_minute 150 = .ok (.goto (-89), 3) := by decide +kernel
theorem dX10_minute_153 : decode cX10_minute 153 = .ok (.aload_n 0, 1) := by decide +kernel
theorem dX10_minute_154 : decode cX10_minute 154 = .ok (.getfield 7, 3) := by decide +kernel
theorem dX10_minute_157 : decode cX10_minute 157 = .ok (.iconst 1, 1) := by decide +kernel
theorem dX10_minute_158 : decode cX10_minute 158 = .ok (.dup2, 1) := by decide +kernel
theorem dX10_minute_159 : decode cX10_minute 159 = .ok (.iaload, 1) := by decide +kernel
theorem dX10_minute_160 : decode cX10_minute 160 = .ok (.iload_n 2, 1) := by decide +kernel
theorem dX10_minute_161 : decode cX10_minute 161 = .ok (.iadd, 1) := by decide +kernel
theorem dX10_minute_162 : decode cX10_minute 162 = .ok (.iastore, 1) := by decide +kernel
theorem dX10_minute_163 : decode cX10_minute 163 = .ok (.iload_n 3, 1) := by decide +kernel
theorem dX10_minute_164 : decode cX10_minute 164 = .ok (.ireturn, 1) := by decide +kernel
theorem dX10_undo_0 : decode cX10_undo 0 = .ok (.aload_n 0, 1) := by decide +kernel
theorem dX10_undo_1 : decode cX10_undo 1 = .ok (.getfield 7, 3) := by decide +kernel
theorem dX10_undo_4 : decode cX10_undo 4 = .ok (.iconst 3, 1) := by decide +kernel
theorem dX10_undo_5 : decode cX10_undo 5 = .ok (.iaload, 1) := by decide +kernel
theorem dX10_undo_6 : decode cX10_undo 6 = .ok (.ifCond .ne 8, 3) := by decide +kernel
theorem dX10_undo_9 : decode cX10_undo 9 = .ok (.aload_n 0, 1) := by decide +kernel
theorem dX10_undo_10 : decode cX10_undo 10 = .ok (.invokevirtual 92, 3) := by decide +kernel
theorem dX10_undo_13 : decode cX10_undo 13 = .ok (.ireturn, 1) := by decide +kernel
theorem dX10_undo_14 : decode cX10_undo 14 = .ok (.aload_n 0, 1) := by decide +kernel
theorem dX10_undo_15 : decode cX10_undo 15 = .ok (.getfield 7, 3) := by decide +kernel
theorem dX10_undo_18 : decode cX10_undo 18 = .ok (.iconst 3, 1) := by decide +kernel
theorem dX10_undo_19 : decode cX10_undo 19 = .ok (.dup2, 1) := by decide +kernel
theorem dX10_undo_20 : decode cX10_undo 20 = .ok (.iaload, 1) := by decide +kernel
theorem dX10_undo_21 : decode cX10_undo 21 = .ok (.iconst 1, 1) := by decide +kernel
theorem dX10_undo_22 : decode cX10_undo 22 = .ok (.isub, 1) := by decide +kernel
theorem dX10_undo_23 : decode cX10_undo 23 = .ok (.iastore, 1) := by decide +kernel
theorem dX10_undo_24 : decode cX10_undo 24 = .ok (.bipush 74, 2) := by decide +kernel
theorem dX10_undo_26 : decode cX10_undo 26 = .ok (.bipush 22, 2) := by decide +kernel
theorem dX10_undo_28 : decode cX10_undo 28 = .ok (.aload_n 0, 1) := by decide +kernel
theorem dX10_undo_29 : decode cX10_undo 29 = .ok (.getfield 7, 3) := by decide +kernel
theorem dX10_undo_32 : decode cX10_undo 32 = .ok (.iconst 3, 1) := by decide +kernel
theorem dX10_undo_33 : decode cX10_undo 33 = .ok (.iaload, 1) := by decide +kernel
theorem dX10_undo_34 : decode cX10_undo 34 = .ok (.imul, 1) := by decide +kernel
theorem dX10_undo_35 : decode cX10_undo 35 = .ok (.iadd, 1) := by decide +kernel
theorem dX10_undo_36 : decode cX10_undo 36 = .ok (.istore_n 1, 1) := by decide +kernel
theorem dX10_undo_37 : decode cX10_undo 37 = .ok (.iconst 0, 1) := by decide +kernel
theorem dX10_undo_38 : decode cX10_undo 38 = .ok (.istore_n 2, 1) := by decide +kernel
theorem dX10_undo_39 : decode cX10_undo 39 = .ok (.iload_n 2, 1) := by decide +kernel
theorem dX10_undo_40 : decode cX10_undo 40 = .ok (.bipush 21, 2) := by decide +kernel
theorem dX10_undo_42 : decode cX10_undo 42 = .ok (.if_icmp .ge 26, 3) := by decide +kernel
theorem dX10_undo_45 : decode cX10_undo 45 = .ok (.aload_n 0, 1) := by decide +kernel
theorem dX10_undo_46 : decode cX10_undo 46 = .ok (.getfield 7, 3) := by decide +kernel
theorem dX10_undo_49 : decode cX10_undo 49 = .ok (.bipush 9, 2) := by decide +kernel
theorem dX10_undo_51 : decode cX10_undo 51 = .ok (.iload_n 2, 1) := by decide +kernel
theorem dX10_undo_52 : decode cX10_undo 52 = .ok (.iadd, 1) := by decide +kernel
theorem dX10_undo_53 : decode cX10_undo 53 = .ok (.aload_n 0, 1) := by decide +kernel
theorem dX10_undo_54 : decode cX10_undo 54 = .ok (.getfield 7, 3) := by decide +kernel
theorem dX10_undo_57 : decode cX10_undo 57 = .ok (.iload_n 1, 1) := by decide +kernel
theorem dX10_undo_58 : decode cX10_undo 58 = .ok (.iload_n 2, 1) := by decide +kernel
theorem dX10_undo_59 : decode cX10_undo 59 = .ok (.iadd, 1) := by decide +kernel
theorem dX10_undo_60 : decode cX10_undo 60 = .ok (.iaload, 1) := by decide +kernel
theorem dX10_undo_61 : decode cX10_undo 61 = .ok (.iastore, 1) := by decide +kernel
theorem dX10_undo_62 : decode cX10_undo 62 = .ok (.iinc 2 1, 3) := by decide +kernel
theorem dX10_undo_65 : decode cX10_undo 65 = .ok (.goto (-26), 3) := by decide +kernel
theorem dX10_undo_68 : decode cX10_undo 68 = .ok (.aload_n 0, 1) := by decide +kernel
theorem dX10_undo_69 : decode cX10_undo 69 = .ok (.getfield 7, 3) := by decide +kernel
theorem dX10_undo_72 : decode cX10_undo 72 = .ok (.iconst 1, 1) := by decide +kernel
theorem dX10_undo_73 : decode cX10_undo 73 = .ok (.aload_n 0, 1) := by decide +kernel
theorem dX10_undo_74 : decode cX10_undo 74 = .ok (.getfield 7, 3) := by decide +kernel
theorem dX10_undo_77 : decode cX10_undo 77 = .ok (.iload_n 1, 1) := by decide +kernel
theorem dX10_undo_78 : decode cX10_undo 78 = .ok (.bipush 21, 2) := by decide +kernel
theorem dX10_undo_80 : decode cX10_undo 80 = .ok (.iadd, 1) := by decide +kernel
theorem dX10_undo_81 : decode cX10_undo 81 = .ok (.iaload, 1) := by decide +kernel
theorem dX10_undo_82 : decode cX10_undo 82 = .ok (.iastore, 1) := by decide +kernel
theorem dX10_undo_83 : decode cX10_undo 83 = .ok (.aload_n 0, 1) := by decide +kernel
theorem dX10_undo_84 : decode cX10_undo 84 = .ok (.getfield 7, 3) := by decide +kernel
theorem dX10_undo_87 : decode cX10_undo 87 = .ok (.iconst 1, 1) := by decide +kernel
theorem dX10_undo_88 : decode cX10_undo 88 = .ok (.iaload, 1) := by decide +kernel
theorem dX10_undo_89 : decode cX10_undo 89 = .ok (.ireturn, 1) := by decide +kernel
theorem dX10_of_0 : decode cX10_of 0 = .ok (.aload_n 0, 1) := by decide +kernel
theorem dX10_of_1 : decode cX10_of 1 = .ok (.iload_n 1, 1) := by decide +kernel
theorem dX10_of_2 : decode cX10_of 2 = .ok (.invokevirtual 132, 3) := by decide +kernel
theorem dX10_of_5 : decode cX10_of 5 = .ok (.ifCond .eq 15, 3) := by decide +kernel
theorem dX10_of_8 : decode cX10_of 8 = .ok (.iload_n 2, 1) := by decide +kernel
theorem dX10_of_9 : decode cX10_of 9 = .ok (.i2l, 1) := by decide +kernel
theorem dX10_of_10 : decode cX10_of 10 = .ok (.lconst 0, 1) := by decide +kernel
theorem dX10_of_11 : decode cX10_of 11 = .ok (.ldc2_w 95, 3) := by decide +kernel
theorem dX10_of_14 : decode cX10_of 14 = .ok (.invokestatic 68, 3) := by decide +kernel
theorem dX10_of_17 : decode cX10_of 17 = .ok (.ifCond .ne 10, 3) := by decide +kernel
theorem dX10_of_20 : decode cX10_of 20 = .ok (.aload_n 0, 1) := by decide +kernel
theorem dX10_of_21 : decode cX10_of 21 = .ok (.bipush (-2), 2) := by decide +kernel
theorem dX10_of_23 : decode cX10_of 23 = .ok (.invokevirtual 84, 3) := by decide +kernel
theorem dX10_of_26 : decode cX10_of 26 = .ok (.ireturn, 1) := by decide +kernel
theorem dX10_of_27 : decode cX10_of 27 = .ok (.iload_n 2, 1) := by decide +kernel
theorem dX10_of_28 : decode cX10_of 28 = .ok (.tableswitch 82 0 4 #[36, 46, 52, 62, 72], 36) := by decide +kernel
theorem dX10_of_64 : decode cX10_of 64 = .ok (.aload_n 0, 1) := by decide +kernel
theorem dX10_of_65 : decode cX10_of 65 = .ok (.getfield 7, 3) := by decide +kernel
theorem dX10_of_68 : decode cX10_of 68 = .ok (.bipush 30, 2) := by decide +kernel
theorem dX10_of_70 : decode cX10_of 70 = .ok (.iload_n 1, 1) := by decide +kernel
theorem dX10_of_71 : decode cX10_of 71 = .ok (.iadd, 1) := by decide +kernel
theorem dX10_of_72 : decode cX10_of 72 = .ok (.iaload, 1) := by decide +kernel
theorem dX10_of_73 : decode cX10_of 73 = .ok (.ireturn, 1) := by decide +kernel
theorem dX10_of_74 : decode cX10_of 74 = .ok (.aload_n 0, 1) := by decide +kernel
theorem dX10_of_75 : decode cX10_of 75 = .ok (.iload_n 1, 1) := by decide +kernel
theorem dX10_of_76 : decode cX10_of 76 = .ok (.invokevirtual 121, 3) := by decide +kernel
theorem dX10_of_79 : decode cX10_of 79 = .ok (.ireturn, 1) := by decide +kernel
theorem dX10_of_80 : decode cX10_of 80 = .ok (.aload_n 0, 1) := by decide +kernel
theorem dX10_of_81 : decode cX10_of 81 = .ok (.getfield 7, 3) := by decide +kernel
theorem dX10_of_84 : decode cX10_of 84 = .ok (.bipush 9, 2) := by decide +kernel
theorem dX10_of_86 : decode cX10_of 86 = .ok (.iload_n 1, 1) := by decide +kernel
theorem dX10_of_87 : decode cX10_of 87 = .ok (.iadd, 1) := by decide +kernel
theorem dX10_of_88 : decode cX10_of 88 = .ok (.iaload, 1) := by decide +kernel
theorem dX10_of_89 : decode cX10_of 89 = .ok (.ireturn, 1) := by decide +kernel
theorem dX10_of_90 : decode cX10_of 90 = .ok (.aload_n 0, 1) := by decide +kernel
theorem dX10_of_91 : decode cX10_of 91 = .ok (.getfield 7, 3) := by decide +kernel
theorem dX10_of_94 : decode cX10_of 94 = .ok (.bipush 16, 2) := by decide +kernel
theorem dX10_of_96 : decode cX10_of 96 = .ok (.iload_n 1, 1) := by decide +kernel
theorem dX10_of_97 : decode cX10_of 97 = .ok (.iadd, 1) := by decide +kernel
theorem dX10_of_98 : decode cX10_of 98 = .ok (.iaload, 1) := by decide +kernel
theorem dX10_of_99 : decode cX10_of 99 = .ok (.ireturn, 1) := by decide +kernel
theorem dX10_of_100 : decode cX10_of 100 = .ok (.aload_n 0, 1) := by decide +kernel
theorem dX10_of_101 : decode cX10_of 101 = .ok (.getfield 7, 3) := by decide +kernel
theorem dX10_of_104 : decode cX10_of 104 = .ok (.bipush 23, 2) := by decide +kernel
theorem dX10_of_106 : decode cX10_of 106 = .ok (.iload_n 1, 1) := by decide +kernel
theorem dX10_of_107 : decode cX10_of 107 = .ok (.iadd, 1) := by decide +kernel
theorem dX10_of_108 : decode cX10_of 108 = .ok (.iaload, 1) := by decide +kernel
theorem dX10_of_109 : decode cX10_of 109 = .ok (.ireturn, 1) := by decide +kernel
theorem dX10_of_110 : decode cX10_of 110 = .ok (.aload_n 0, 1) := by decide +kernel
theorem dX10_of_111 : decode cX10_of 111 = .ok (.getfield 7, 3) := by decide +kernel
theorem dX10_of_114 : decode cX10_of 114 = .ok (.bipush 30, 2) := by decide +kernel
theorem dX10_of_116 : decode cX10_of 116 = .ok (.iload_n 1, 1) := by decide +kernel
theorem dX10_of_117 : decode cX10_of 117 = .ok (.iadd, 1) := by decide +kernel
theorem dX10_of_118 : decode cX10_of 118 = .ok (.iaload, 1) := by decide +kernel
theorem dX10_of_119 : decode cX10_of 119 = .ok (.aload_n 0, 1) := by decide +kernel
theorem dX10_of_120 : decode cX10_of 120 = .ok (.iload_n 1, 1) := by decide +kernel
theorem dX10_of_121 : decode cX10_of 121 = .ok (.invokevirtual 121, 3) := by decide +kernel
theorem dX10_of_124 : decode cX10_of 124 = .ok (.invokestatic 147, 3) := by decide +kernel
theorem dX10_of_127 : decode cX10_of 127 = .ok (.ireturn, 1) := by decide +kernel
theorem dX10_lane_0 : decode cX10_lane 0 = .ok (.iload_n 1, 1) := by decide +kernel
theorem dX10_lane_1 : decode cX10_lane 1 = .ok (.invokestatic 78, 3) := by decide +kernel
theorem dX10_lane_4 : decode cX10_lane 4 = .ok (.ifCond .eq 15, 3) := by decide +kernel
theorem dX10_lane_7 : decode cX10_lane 7 = .ok (.iload_n 2, 1) := by decide +kernel
theorem dX10_lane_8 : decode cX10_lane 8 = .ok (.i2l, 1) := by decide +kernel
theorem dX10_lane_9 : decode cX10_lane 9 = .ok (.lconst 0, 1) := by decide +kernel
theorem dX10_lane_10 : decode cX10_lane 10 = .ok (.ldc2_w 82, 3) := by decide +kernel
theorem dX10_lane_13 : decode cX10_lane 13 = .ok (.invokestatic 68, 3) := by decide +kernel
theorem dX10_lane_16 : decode cX10_lane 16 = .ok (.ifCond .ne 10, 3) := by decide +kernel
theorem dX10_lane_19 : decode cX10_lane 19 = .ok (.aload_n 0, 1) := by decide +kernel
theorem dX10_lane_20 : decode cX10_lane 20 = .ok (.bipush (-2), 2) := by decide +kernel
theorem dX10_lane_22 : decode cX10_lane 22 = .ok (.invokevirtual 84, 3) := by decide +kernel
theorem dX10_lane_25 : decode cX10_lane 25 = .ok (.ireturn, 1) := by decide +kernel
theorem dX10_lane_26 : decode cX10_lane 26 = .ok (.iload_n 2, 1) := by decide +kernel
theorem dX10_lane_27 : decode cX10_lane 27 = .ok (.ifCond .ne 14, 3) := by decide +kernel
theorem dX10_lane_30 : decode cX10_lane 30 = .ok (.aload_n 0, 1) := by decide +kernel
theorem dX10_lane_31 : decode cX10_lane 31 = .ok (.getfield 7, 3) := by decide +kernel
theorem dX10_lane_34 : decode cX10_lane 34 = .ok (.iconst 4, 1) := by decide +kernel
theorem dX10_lane_35 : decode cX10_lane 35 = .ok (.iload_n 1, 1) := by decide +kernel
theorem dX10_lane_36 : decode cX10_lane 36 = .ok (.iadd, 1) := by decide +kernel
theorem dX10_lane_37 : decode cX10_lane 37 = .ok (.iaload, 1) := by decide +kernel
theorem dX10_lane_38 : decode cX10_lane 38 = .ok (.goto 30, 3) := by decide +kernel
theorem dX10_lane_41 : decode cX10_lane 41 = .ok (.iload_n 2, 1) := by decide +kernel
theorem dX10_lane_42 : decode cX10_lane 42 = .ok (.iconst 1, 1) := by decide +kernel
theorem dX10_lane_43 : decode cX10_lane 43 = .ok (.if_icmp .ne 17, 3) := by decide +kernel
theorem dX10_lane_46 : decode cX10_lane 46 = .ok (.aload_n 0, 1) := by decide +kernel
theorem dX10_lane_47 : decode cX10_lane 47 = .ok (.getfield 7, 3) := by decide +kernel
theorem dX10_lane_50 : decode cX10_lane 50 = .ok (.bipush 8, 2) := by decide +kernel
theorem dX10_lane_52 : decode cX10_lane 52 = .ok (.iaload, 1) := by decide +kernel
theorem dX10_lane_53 : decode cX10_lane 53 = .ok (.iload_n 1, 1) := by decide +kernel
theorem dX10_lane_54 : decode cX10_lane 54 = .ok (.ishr, 1) := by decide +kernel
theorem dX10_lane_55 : decode cX10_lane 55 = .ok (.iconst 1, 1) := by decide +kernel
theorem dX10_lane_56 : decode cX10_lane 56 = .ok (.iand, 1) := by decide +kernel
theorem dX10_lane_57 : decode cX10_lane 57 = .ok (.goto 11, 3) := by decide +kernel
theorem dX10_lane_60 : decode cX10_lane 60 = .ok (.aload_n 0, 1) := by decide +kernel
theorem dX10_lane_61 : decode cX10_lane 61 = .ok (.getfield 7, 3) := by decide +kernel
theorem dX10_lane_64 : decode cX10_lane 64 = .ok (.iload_n 1, 1) := by decide +kernel
theorem dX10_lane_65 : decode cX10_lane 65 = .ok (.invokestatic 88, 3) := by decide +kernel
theorem dX10_lane_68 : decode cX10_lane 68 = .ok (.ireturn, 1) := by decide +kernel
theorem dX10_seconds_0 : decode cX10_seconds 0 = .ok (.aload_n 0, 1) := by decide +kernel
theorem dX10_seconds_1 : decode cX10_seconds 1 = .ok (.iload_n 1, 1) := by decide +kernel
theorem dX10_seconds_2 : decode cX10_seconds 2 = .ok (.invokevirtual 132, 3) := by decide +kernel
theorem dX10_seconds_5 : decode cX10_seconds 5 = .ok (.ifCond .eq 22, 3) := by decide +kernel
theorem dX10_seconds_8 : decode cX10_seconds 8 = .ok (.iload_n 2, 1) := by decide +kernel
theorem dX10_seconds_9 : decode cX10_seconds 9 = .ok (.invokestatic 78, 3) := by decide +kernel
theorem dX10_seconds_12 : decode cX10_seconds 12 = .ok (.ifCond .eq 15, 3) := by decide +kernel
theorem dX10_seconds_15 : decode cX10_seconds 15 = .ok (.iload_n 3, 1) := by decide +kernel
theorem dX10_seconds_16 : decode cX10_seconds 16 = .ok (.i2l, 1) := by decide +kernel
theorem dX10_seconds_17 : decode cX10_seconds 17 = .ok (.lconst 0, 1) := by decide +kernel
theorem dX10_seconds_18 : decode cX10_seconds 18 = .ok (.ldc2_w 82, 3) := by decide +kernel
theorem dX10_seconds_21 : decode cX10_seconds 21 = .ok (.invokestatic 68, 3) := by decide +kernel
theorem dX10_seconds_24 : decode cX10_seconds 24 = .ok (.ifCond .ne 10, 3) := by decide +kernel
theorem dX10_seconds_27 : decode cX10_seconds 27 = .ok (.aload_n 0, 1) := by decide +kernel
theorem dX10_seconds_28 : decode cX10_seconds 28 = .ok (.bipush (-2), 2) := by decide +kernel
theorem dX10_seconds_30 : decode cX10_seconds 30 = .ok (.invokevirtual 84, 3) := by decide +kernel
theorem dX10_seconds_33 : decode cX10_seconds 33 = .ok (.ireturn, 1) := by decide +kernel
theorem dX10_seconds_34 : decode cX10_seconds 34 = .ok (.aload_n 0, 1) := by decide +kernel
theorem dX10_seconds_35 : decode cX10_seconds 35 = .ok (.invokevirtual 140, 3) := by decide +kernel
theorem dX10_seconds_38 : decode cX10_seconds 38 = .ok (.aload_n 0, 1) := by decide +kernel
theorem dX10_seconds_39 : decode cX10_seconds 39 = .ok (.iload_n 1, 1) := by decide +kernel
theorem dX10_seconds_40 : decode cX10_seconds 40 = .ok (.iload_n 2, 1) := by decide +kernel
theorem dX10_seconds_41 : decode cX10_seconds 41 = .ok (.invokevirtual 143, 3) := by decide +kernel
theorem dX10_seconds_44 : decode cX10_seconds 44 = .ok (.istore 4, 2) := by decide +kernel
theorem dX10_seconds_46 : decode cX10_seconds 46 = .ok (.iload_n 3, 1) := by decide +kernel
theorem dX10_seconds_47 : decode cX10_seconds 47 = .ok (.ifCond .ne 8, 3) := by decide +kernel
theorem dX10_seconds_50 : decode cX10_seconds 50 = .ok (.iload 4, 2) := by decide +kernel
theorem dX10_seconds_52 : decode cX10_seconds 52 = .ok (.goto 19, 3) := by decide +kernel
theorem dX10_seconds_55 : decode cX10_seconds 55 = .ok (.iload_n 3, 1) := by decide +kernel
theorem dX10_seconds_56 : decode cX10_seconds 56 = .ok (.iconst 1, 1) := by decide +kernel
theorem dX10_seconds_57 : decode cX10_seconds 57 = .ok (.if_icmp .ne 10, 3) := by decide +kernel
theorem dX10_seconds_60 : decode cX10_seconds 60 = .ok (.aload_n 0, 1) := by decide +kernel
theorem dX10_seconds_61 : decode cX10_seconds 61 = .ok (.getfield 115, 3) := by decide +kernel
theorem dX10_seconds_64 : decode cX10_seconds 64 = .ok (.goto 7, 3) := by decide +kernel
theorem dX10_seconds_67 : decode cX10_seconds 67 = .ok (.aload_n 0, 1) := by decide +kernel
theorem dX10_seconds_68 : decode cX10_seconds 68 = .ok (.getfield 118, 3) := by decide +kernel
theorem dX10_seconds_71 : decode cX10_seconds 71 = .ok (.ireturn, 1) := by decide +kernel
theorem dX10_lengths_0 : decode cX10_lengths 0 = .ok (.aload_n 0, 1) := by decide +kernel
theorem dX10_lengths_1 : decode cX10_lengths 1 = .ok (.iload_n 1, 1) := by decide +kernel
theorem dX10_lengths_2 : decode cX10_lengths 2 = .ok (.invokevirtual 132, 3) := by decide +kernel
theorem dX10_lengths_5 : decode cX10_lengths 5 = .ok (.ifCond .eq 15, 3) := by decide +kernel
theorem dX10_lengths_8 : decode cX10_lengths 8 = .ok (.iload_n 2, 1) := by decide +kernel
theorem dX10_lengths_9 : decode cX10_lengths 9 = .ok (.i2l, 1) := by decide +kernel
theorem dX10_lengths_10 : decode cX10_lengths 10 = .ok (.lconst 0, 1) := by decide +kernel
theorem dX10_lengths_11 : decode cX10_lengths 11 = .ok (.ldc2_w 138, 3) := by decide +kernel
theorem dX10_lengths_14 : decode cX10_lengths 14 = .ok (.invokestatic 68, 3) := by decide +kernel
theorem dX10_lengths_17 : decode cX10_lengths 17 = .ok (.ifCond .ne 10, 3) := by decide +kernel
theorem dX10_lengths_20 : decode cX10_lengths 20 = .ok (.aload_n 0, 1) := by decide +kernel
theorem dX10_lengths_21 : decode cX10_lengths 21 = .ok (.bipush (-2), 2) := by decide +kernel
theorem dX10_lengths_23 : decode cX10_lengths 23 = .ok (.invokevirtual 84, 3) := by decide +kernel
theorem dX10_lengths_26 : decode cX10_lengths 26 = .ok (.ireturn, 1) := by decide +kernel
theorem dX10_lengths_27 : decode cX10_lengths 27 = .ok (.aload_n 0, 1) := by decide +kernel
theorem dX10_lengths_28 : decode cX10_lengths 28 = .ok (.invokevirtual 140, 3) := by decide +kernel
theorem dX10_lengths_31 : decode cX10_lengths 31 = .ok (.aload_n 0, 1) := by decide +kernel
theorem dX10_lengths_32 : decode cX10_lengths 32 = .ok (.getfield 7, 3) := by decide +kernel
theorem dX10_lengths_35 : decode cX10_lengths 35 = .ok (.bipush 23, 2) := by decide +kernel
theorem dX10_lengths_37 : decode cX10_lengths 37 = .ok (.iload_n 1, 1) := by decide +kernel
theorem dX10_lengths_38 : decode cX10_lengths 38 = .ok (.iadd, 1) := by decide +kernel
theorem dX10_lengths_39 : decode cX10_lengths 39 = .ok (.iaload, 1) := by decide +kernel
theorem dX10_lengths_40 : decode cX10_lengths 40 = .ok (.bipush 60, 2) := by decide +kernel
theorem dX10_lengths_42 : decode cX10_lengths 42 = .ok (.iload_n 2, 1) := by decide +kernel
theorem dX10_lengths_43 : decode cX10_lengths 43 = .ok (.imul, 1) := by decide +kernel
theorem dX10_lengths_44 : decode cX10_lengths 44 = .ok (.iadd, 1) := by decide +kernel
theorem dX10_lengths_45 : decode cX10_lengths 45 = .ok (.aload_n 0, 1) := by decide +kernel
theorem dX10_lengths_46 : decode cX10_lengths 46 = .ok (.iload_n 1, 1) := by decide +kernel
theorem dX10_lengths_47 : decode cX10_lengths 47 = .ok (.aload_n 0, 1) := by decide +kernel
theorem dX10_lengths_48 : decode cX10_lengths 48 = .ok (.getfield 27, 3) := by decide +kernel
theorem dX10_lengths_51 : decode cX10_lengths 51 = .ok (.iload_n 1, 1) := by decide +kernel
theorem dX10_lengths_52 : decode cX10_lengths 52 = .ok (.iaload, 1) := by decide +kernel
theorem dX10_lengths_53 : decode cX10_lengths 53 = .ok (.invokevirtual 143, 3) := by decide +kernel
theorem dX10_lengths_56 : decode cX10_lengths 56 = .ok (.idiv, 1) := by decide +kernel
theorem dX10_lengths_57 : decode cX10_lengths 57 = .ok (.istore_n 3, 1) := by decide +kernel
theorem dX10_lengths_58 : decode cX10_lengths 58 = .ok (.aload_n 0, 1) := by decide +kernel
theorem dX10_lengths_59 : decode cX10_lengths 59 = .ok (.getfield 7, 3) := by decide +kernel
theorem dX10_lengths_62 : decode cX10_lengths 62 = .ok (.bipush 16, 2) := by decide +kernel
theorem dX10_lengths_64 : decode cX10_lengths 64 = .ok (.iload_n 1, 1) := by decide +kernel
theorem dX10_lengths_65 : decode cX10_lengths 65 = .ok (.iadd, 1) := by decide +kernel
theorem dX10_lengths_66 : decode cX10_lengths 66 = .ok (.iaload, 1) := by decide +kernel
theorem dX10_lengths_67 : decode cX10_lengths 67 = .ok (.iload_n 2, 1) := by decide +kernel
theorem dX10_lengths_68 : decode cX10_lengths 68 = .ok (.ifCond .ne 7, 3) := by decide +kernel
theorem dX10_lengths_71 : decode cX10_lengths 71 = .ok (.iconst 0, 1) := by decide +kernel
theorem dX10_lengths_72 : decode cX10_lengths 72 = .ok (.goto 4, 3) := by decide +kernel
theorem dX10_lengths_75 : decode cX10_lengths 75 = .ok (.iload_n 3, 1) := by decide +kernel
theorem dX10_lengths_76 : decode cX10_lengths 76 = .ok (.iadd, 1) := by decide +kernel
theorem dX10_lengths_77 : decode cX10_lengths 77 = .ok (.ireturn, 1) := by decide +kernel
theorem dX10_bestOf_0 : decode cX10_bestOf 0 = .ok (.iconst (-1), 1) := by decide +kernel
theorem dX10_bestOf_1 : decode cX10_bestOf 1 = .ok (.istore_n 2, 1) := by decide +kernel
theorem dX10_bestOf_2 : decode cX10_bestOf 2 = .ok (.ldc 150, 2) := by decide +kernel
theorem dX10_bestOf_4 : decode cX10_bestOf 4 = .ok (.istore_n 3, 1) := by decide +kernel
theorem dX10_bestOf_5 : decode cX10_bestOf 5 = .ok (.iconst 0, 1) := by decide +kernel
theorem dX10_bestOf_6 : decode cX10_bestOf 6 = .ok (.istore 4, 2) := by decide +kernel
theorem dX10_bestOf_8 : decode cX10_bestOf 8 = .ok (.iload 4, 2) := by decide +kernel
theorem dX10_bestOf_10 : decode cX10_bestOf 10 = .ok (.iconst 4, 1) := by decide +kernel
theorem dX10_bestOf_11 : decode cX10_bestOf 11 = .ok (.if_icmp .ge 58, 3) := by decide +kernel
theorem dX10_bestOf_14 : decode cX10_bestOf 14 = .ok (.aload_n 0, 1) := by decide +kernel
theorem dX10_bestOf_15 : decode cX10_bestOf 15 = .ok (.iload 4, 2) := by decide +kernel
theorem dX10_bestOf_17 : decode cX10_bestOf 17 = .ok (.invokevirtual 101, 3) := by decide +kernel
theorem dX10_bestOf_20 : decode cX10_bestOf 20 = .ok (.ifCond .eq 13, 3) := by decide +kernel
theorem dX10_bestOf_23 : decode cX10_bestOf 23 = .ok (.aload_n 0, 1) := by decide +kernel
theorem dX10_bestOf_24 : decode cX10_bestOf 24 = .ok (.iload_n 1, 1) := by decide +kernel
theorem dX10_bestOf_25 : decode cX10_bestOf 25 = .ok (.iload 4, 2) := by decide +kernel
theorem dX10_bestOf_27 : decode cX10_bestOf 27 = .ok (.invokevirtual 143, 3) := by decide +kernel
theorem dX10_bestOf_30 : decode cX10_bestOf 30 = .ok (.goto 5, 3) := by decide +kernel
theorem dX10_bestOf_33 : decode cX10_bestOf 33 = .ok (.ldc 150, 2) := by decide +kernel
theorem dX10_bestOf_35 : decode cX10_bestOf 35 = .ok (.istore 5, 2) := by decide +kernel
theorem dX10_bestOf_37 : decode cX10_bestOf 37 = .ok (.iload 5, 2) := by decide +kernel
theorem dX10_bestOf_39 : decode cX10_bestOf 39 = .ok (.iload_n 3, 1) := by decide +kernel
theorem dX10_bestOf_40 : decode cX10_bestOf 40 = .ok (.if_icmp .ge 8, 3) := by decide +kernel
theorem dX10_bestOf_43 : decode cX10_bestOf 43 = .ok (.iload 4, 2) := by decide +kernel
theorem dX10_bestOf_45 : decode cX10_bestOf 45 = .ok (.goto 4, 3) := by decide +kernel
theorem dX10_bestOf_48 : decode cX10_bestOf 48 = .ok (.iload_n 2, 1) := by decide +kernel
theorem dX10_bestOf_49 : decode cX10_bestOf 49 = .ok (.istore_n 2, 1) := by decide +kernel
theorem dX10_bestOf_50 : decode cX10_bestOf 50 = .ok (.iload 5, 2) := by decide +kernel
theorem dX10_bestOf_52 : decode cX10_bestOf 52 = .ok (.iload_n 3, 1) := by decide +kernel
theorem dX10_bestOf_53 : decode cX10_bestOf 53 = .ok (.if_icmp .ge 8, 3) := by decide +kernel
theorem dX10_bestOf_56 : decode cX10_bestOf 56 = .ok (.iload 5, 2) := by decide +kernel
theorem dX10_bestOf_58 : decode cX10_bestOf 58 = .ok (.goto 4, 3) := by decide +kernel
theorem dX10_bestOf_61 : decode cX10_bestOf 61 = .ok (.iload_n 3, 1) := by decide +kernel
theorem dX10_bestOf_62 : decode cX10_bestOf 62 = .ok (.istore_n 3, 1) := by decide +kernel
theorem dX10_bestOf_63 : decode cX10_bestOf 63 = .ok (.iinc 4 1, 3) := by decide +kernel
theorem dX10_bestOf_66 : decode cX10_bestOf 66 = .ok (.goto (-58), 3) := by decide +kernel
theorem dX10_bestOf_69 : decode cX10_bestOf 69 = .ok (.iload_n 2, 1) := by decide +kernel
theorem dX10_bestOf_70 : decode cX10_bestOf 70 = .ok (.ireturn, 1) := by decide +kernel
theorem dX10_best_0 : decode cX10_best 0 = .ok (.aload_n 0, 1) := by decide +kernel
theorem dX10_best_1 : decode cX10_best 1 = .ok (.iload_n 1, 1) := by decide +kernel
theorem dX10_best_2 : decode cX10_best 2 = .ok (.invokevirtual 132, 3) := by decide +kernel
theorem dX10_best_5 : decode cX10_best 5 = .ok (.ifCond .ne 10, 3) := by decide +kernel
theorem dX10_best_8 : decode cX10_best 8 = .ok (.aload_n 0, 1) := by decide +kernel
theorem dX10_best_9 : decode cX10_best 9 = .ok (.bipush (-2), 2) := by decide +kernel
theorem dX10_best_11 : decode cX10_best 11 = .ok (.invokevirtual 84, 3) := by decide +kernel
theorem dX10_best_14 : decode cX10_best 14 = .ok (.ireturn, 1) := by decide +kernel
theorem dX10_best_15 : decode cX10_best 15 = .ok (.aload_n 0, 1) := by decide +kernel
theorem dX10_best_16 : decode cX10_best 16 = .ok (.invokevirtual 140, 3) := by decide +kernel
theorem dX10_best_19 : decode cX10_best 19 = .ok (.aload_n 0, 1) := by decide +kernel
theorem dX10_best_20 : decode cX10_best 20 = .ok (.iload_n 1, 1) := by decide +kernel
theorem dX10_best_21 : decode cX10_best 21 = .ok (.invokevirtual 151, 3) := by decide +kernel
theorem dX10_best_24 : decode cX10_best 24 = .ok (.ireturn, 1) := by decide +kernel
theorem dX10_sumOthers_0 : decode cX10_sumOthers 0 = .ok (.iconst 0, 1) := by decide +kernel
theorem dX10_sumOthers_1 : decode cX10_sumOthers 1 = .ok (.istore_n 3, 1) := by decide +kernel
theorem dX10_sumOthers_2 : decode cX10_sumOthers 2 = .ok (.iconst 0, 1) := by decide +kernel
theorem dX10_sumOthers_3 : decode cX10_sumOthers 3 = .ok (.istore 4, 2) := by decide +kernel
theorem dX10_sumOthers_5 : decode cX10_sumOthers 5 = .ok (.iload 4, 2) := by decide +kernel
theorem dX10_sumOthers_7 : decode cX10_sumOthers 7 = .ok (.aload_n 0, 1) := by decide +kernel
theorem dX10_sumOthers_8 : decode cX10_sumOthers 8 = .ok (.invokevirtual 64, 3) := by decide +kernel
theorem dX10_sumOthers_11 : decode cX10_sumOthers 11 = .ok (.if_icmp .ge 40, 3) := by decide +kernel
theorem dX10_sumOthers_14 : decode cX10_sumOthers 14 = .ok (.iload_n 3, 1) := by decide +kernel
theorem dX10_sumOthers_15 : decode cX10_sumOthers 15 = .ok (.iload 4, 2) := by decide +kernel
theorem dX10_sumOthers_17 : decode cX10_sumOthers 17 = .ok (.iload_n 1, 1) := by decide +kernel
theorem dX10_sumOthers_18 : decode cX10_sumOthers 18 = .ok (.if_icmp .eq 24, 3) := by decide +kernel
theorem dX10_sumOthers_21 : decode cX10_sumOthers 21 = .ok (.aload_n 0, 1) := by decide +kernel
theorem dX10_sumOthers_22 : decode cX10_sumOthers 22 = .ok (.getfield 27, 3) := by decide +kernel
theorem dX10_sumOthers_25 : decode cX10_sumOthers 25 = .ok (.iload 4, 2) := by decide +kernel
theorem dX10_sumOthers_27 : decode cX10_sumOthers 27 = .ok (.iaload, 1) := by decide +kernel
theorem dX10_sumOthers_28 : decode cX10_sumOthers 28 = .ok (.iload_n 2, 1) := by decide +kernel
theorem dX10_sumOthers_29 : decode cX10_sumOthers 29 = .ok (.if_icmp .ne 13, 3) := by decide +kernel
theorem dX10_sumOthers_32 : decode cX10_sumOthers 32 = .ok (.aload_n 0, 1) := by decide +kernel
theorem dX10_sumOthers_33 : decode cX10_sumOthers 33 = .ok (.iload 4, 2) := by decide +kernel
theorem dX10_sumOthers_35 : decode cX10_sumOthers 35 = .ok (.iload_n 2, 1) := by decide +kernel
theorem dX10_sumOthers_36 : decode cX10_sumOthers 36 = .ok (.invokevirtual 143, 3) := by decide +kernel
theorem dX10_sumOthers_39 : decode cX10_sumOthers 39 = .ok (.goto 4, 3) := by decide +kernel
theorem dX10_sumOthers_42 : decode cX10_sumOthers 42 = .ok (.iconst 0, 1) := by decide +kernel
theorem dX10_sumOthers_43 : decode cX10_sumOthers 43 = .ok (.iadd, 1) := by decide +kernel
theorem dX10_sumOthers_44 : decode cX10_sumOthers 44 = .ok (.istore_n 3, 1) := by decide +kernel
theorem dX10_sumOthers_45 : decode cX10_sumOthers 45 = .ok (.iinc 4 1, 3) := by decide +kernel
theorem dX10_sumOthers_48 : decode cX10_sumOthers 48 = .ok (.goto (-43), 3) := by decide +kernel
theorem dX10_sumOthers_51 : decode cX10_sumOthers 51 = .ok (.iload_n 3, 1) := by decide +kernel
theorem dX10_sumOthers_52 : decode cX10_sumOthers 52 = .ok (.ireturn, 1) := by decide +kernel
theorem dX10_costOf_0 : decode cX10_costOf 0 = .ok (.aload_n 0, 1) := by decide +kernel
theorem dX10_costOf_1 : decode cX10_costOf 1 = .ok (.invokevirtual 140, 3) := by decide +kernel
theorem dX10_costOf_4 : decode cX10_costOf 4 = .ok (.aload_n 0, 1) := by decide +kernel
theorem dX10_costOf_5 : decode cX10_costOf 5 = .ok (.getfield 27, 3) := by decide +kernel
theorem dX10_costOf_8 : decode cX10_costOf 8 = .ok (.iload_n 1, 1) := by decide +kernel
theorem dX10_costOf_9 : decode cX10_costOf 9 = .ok (.iload_n 2, 1) := by decide +kernel
theorem dX10_costOf_10 : decode cX10_costOf 10 = .ok (.iastore, 1) := by decide +kernel
theorem dX10_costOf_11 : decode cX10_costOf 11 = .ok (.aload_n 0, 1) := by decide +kernel
theorem dX10_costOf_12 : decode cX10_costOf 12 = .ok (.iload_n 1, 1) := by decide +kernel
theorem dX10_costOf_13 : decode cX10_costOf 13 = .ok (.iload_n 2, 1) := by decide +kernel
theorem dX10_costOf_14 : decode cX10_costOf 14 = .ok (.invokevirtual 154, 3) := by decide +kernel
theorem dX10_costOf_17 : decode cX10_costOf 17 = .ok (.istore_n 3, 1) := by decide +kernel
theorem dX10_costOf_18 : decode cX10_costOf 18 = .ok (.aload_n 0, 1) := by decide +kernel
theorem dX10_costOf_19 : decode cX10_costOf 19 = .ok (.getfield 27, 3) := by decide +kernel
theorem dX10_costOf_22 : decode cX10_costOf 22 = .ok (.iload_n 1, 1) := by decide +kernel
theorem dX10_costOf_23 : decode cX10_costOf 23 = .ok (.iconst (-1), 1) := by decide +kernel
theorem dX10_costOf_24 : decode cX10_costOf 24 = .ok (.iastore, 1) := by decide +kernel
theorem dX10_costOf_25 : decode cX10_costOf 25 = .ok (.iload_n 3, 1) := by decide +kernel
theorem dX10_costOf_26 : decode cX10_costOf 26 = .ok (.aload_n 0, 1) := by decide +kernel
theorem dX10_costOf_27 : decode cX10_costOf 27 = .ok (.iload_n 1, 1) := by decide +kernel
theorem dX10_costOf_28 : decode cX10_costOf 28 = .ok (.iload_n 2, 1) := by decide +kernel
theorem dX10_costOf_29 : decode cX10_costOf 29 = .ok (.invokevirtual 154, 3) := by decide +kernel
theorem dX10_costOf_32 : decode cX10_costOf 32 = .ok (.isub, 1) := by decide +kernel
theorem dX10_costOf_33 : decode cX10_costOf 33 = .ok (.ireturn, 1) := by decide +kernel
theorem dX10_cost_0 : decode cX10_cost 0 = .ok (.aload_n 0, 1) := by decide +kernel
theorem dX10_cost_1 : decode cX10_cost 1 = .ok (.iload_n 1, 1) := by decide +kernel
theorem dX10_cost_2 : decode cX10_cost 2 = .ok (.invokevirtual 132, 3) := by decide +kernel
theorem dX10_cost_5 : decode cX10_cost 5 = .ok (.ifCond .eq 10, 3) := by decide +kernel
theorem dX10_cost_8 : decode cX10_cost 8 = .ok (.iload_n 2, 1) := by decide +kernel
theorem dX10_cost_9 : decode cX10_cost 9 = .ok (.invokestatic 78, 3) := by decide +kernel
theorem dX10_cost_12 : decode cX10_cost 12 = .ok (.ifCond .ne 10, 3) := by decide +kernel
theorem dX10_cost_15 : decode cX10_cost 15 = .ok (.aload_n 0, 1) := by decide +kernel
theorem dX10_cost_16 : decode cX10_cost 16 = .ok (.bipush (-2), 2) := by decide +kernel
theorem dX10_cost_18 : decode cX10_cost 18 = .ok (.invokevirtual 84, 3) := by decide +kernel
theorem dX10_cost_21 : decode cX10_cost 21 = .ok (.ireturn, 1) := by decide +kernel
theorem dX10_cost_22 : decode cX10_cost 22 = .ok (.aload_n 0, 1) := by decide +kernel
theorem dX10_cost_23 : decode cX10_cost 23 = .ok (.iload_n 2, 1) := by decide +kernel
theorem dX10_cost_24 : decode cX10_cost 24 = .ok (.invokevirtual 101, 3) := by decide +kernel
theorem dX10_cost_27 : decode cX10_cost 27 = .ok (.ifCond .eq 12, 3) := by decide +kernel
theorem dX10_cost_30 : decode cX10_cost 30 = .ok (.aload_n 0, 1) := by decide +kernel
theorem dX10_cost_31 : decode cX10_cost 31 = .ok (.iload_n 1, 1) := by decide +kernel
theorem dX10_cost_32 : decode cX10_cost 32 = .ok (.iload_n 2, 1) := by decide +kernel
theorem dX10_cost_33 : decode cX10_cost 33 = .ok (.invokevirtual 157, 3) := by decide +kernel
theorem dX10_cost_36 : decode cX10_cost 36 = .ok (.goto 7, 3) := by decide +kernel
theorem dX10_cost_39 : decode cX10_cost 39 = .ok (.aload_n 0, 1) := by decide +kernel
theorem dX10_cost_40 : decode cX10_cost 40 = .ok (.invokevirtual 92, 3) := by decide +kernel
theorem dX10_cost_43 : decode cX10_cost 43 = .ok (.ireturn, 1) := by decide +kernel
theorem dX10_where_0 : decode cX10_where 0 = .ok (.aload_n 0, 1) := by decide +kernel
theorem dX10_where_1 : decode cX10_where 1 = .ok (.iload_n 1, 1) := by decide +kernel
theorem dX10_where_2 : decode cX10_where 2 = .ok (.invokevirtual 132, 3) := by decide +kernel
theorem dX10_where_5 : decode cX10_where 5 = .ok (.ifCond .ne 10, 3) := by decide +kernel
theorem dX10_where_8 : decode cX10_where 8 = .ok (.aload_n 0, 1) := by decide +kernel
theorem dX10_where_9 : decode cX10_where 9 = .ok (.bipush (-2), 2) := by decide +kernel
theorem dX10_where_11 : decode cX10_where 11 = .ok (.invokevirtual 84, 3) := by decide +kernel
theorem dX10_where_14 : decode cX10_where 14 = .ok (.ireturn, 1) := by decide +kernel
theorem dX10_where_15 : decode cX10_where 15 = .ok (.iconst (-1), 1) := by decide +kernel
theorem dX10_where_16 : decode cX10_where 16 = .ok (.istore_n 2, 1) := by decide +kernel
theorem dX10_where_17 : decode cX10_where 17 = .ok (.ldc 150, 2) := by decide +kernel
theorem dX10_where_19 : decode cX10_where 19 = .ok (.istore_n 3, 1) := by decide +kernel
theorem dX10_where_20 : decode cX10_where 20 = .ok (.iconst 0, 1) := by decide +kernel
theorem dX10_where_21 : decode cX10_where 21 = .ok (.istore 4, 2) := by decide +kernel
theorem dX10_where_23 : decode cX10_where 23 = .ok (.iload 4, 2) := by decide +kernel
theorem dX10_where_25 : decode cX10_where 25 = .ok (.iconst 4, 1) := by decide +kernel
theorem dX10_where_26 : decode cX10_where 26 = .ok (.if_icmp .ge 58, 3) := by decide +kernel
theorem dX10_where_29 : decode cX10_where 29 = .ok (.aload_n 0, 1) := by decide +kernel
theorem dX10_where_30 : decode cX10_where 30 = .ok (.iload 4, 2) := by decide +kernel
theorem dX10_where_32 : decode cX10_where 32 = .ok (.invokevirtual 101, 3) := by decide +kernel
theorem dX10_where_35 : decode cX10_where 35 = .ok (.ifCond .eq 13, 3) := by decide +kernel
theorem dX10_where_38 : decode cX10_where 38 = .ok (.aload_n 0, 1) := by decide +kernel
theorem dX10_where_39 : decode cX10_where 39 = .ok (.iload_n 1, 1) := by decide +kernel
theorem dX10_where_40 : decode cX10_where 40 = .ok (.iload 4, 2) := by decide +kernel
theorem dX10_where_42 : decode cX10_where 42 = .ok (.invokevirtual 157, 3) := by decide +kernel
theorem dX10_where_45 : decode cX10_where 45 = .ok (.goto 5, 3) := by decide +kernel
theorem dX10_where_48 : decode cX10_where 48 = .ok (.ldc 150, 2) := by decide +kernel
theorem dX10_where_50 : decode cX10_where 50 = .ok (.istore 5, 2) := by decide +kernel
theorem dX10_where_52 : decode cX10_where 52 = .ok (.iload 5, 2) := by decide +kernel
theorem dX10_where_54 : decode cX10_where 54 = .ok (.iload_n 3, 1) := by decide +kernel
theorem dX10_where_55 : decode cX10_where 55 = .ok (.if_icmp .ge 8, 3) := by decide +kernel
theorem dX10_where_58 : decode cX10_where 58 = .ok (.iload 4, 2) := by decide +kernel
theorem dX10_where_60 : decode cX10_where 60 = .ok (.goto 4, 3) := by decide +kernel
theorem dX10_where_63 : decode cX10_where 63 = .ok (.iload_n 2, 1) := by decide +kernel
theorem dX10_where_64 : decode cX10_where 64 = .ok (.istore_n 2, 1) := by decide +kernel
theorem dX10_where_65 : decode cX10_where 65 = .ok (.iload 5, 2) := by decide +kernel
theorem dX10_where_67 : decode cX10_where 67 = .ok (.iload_n 3, 1) := by decide +kernel
theorem dX10_where_68 : decode cX10_where 68 = .ok (.if_icmp .ge 8, 3) := by decide +kernel
theorem dX10_where_71 : decode cX10_where 71 = .ok (.iload 5, 2) := by decide +kernel
theorem dX10_where_73 : decode cX10_where 73 = .ok (.goto 4, 3) := by decide +kernel
theorem dX10_where_76 : decode cX10_where 76 = .ok (.iload_n 3, 1) := by decide +kernel
theorem dX10_where_77 : decode cX10_where 77 = .ok (.istore_n 3, 1) := by decide +kernel
theorem dX10_where_78 : decode cX10_where 78 = .ok (.iinc 4 1, 3) := by decide +kernel
theorem dX10_where_81 : decode cX10_where 81 = .ok (.goto (-58), 3) := by decide +kernel
theorem dX10_where_84 : decode cX10_where 84 = .ok (.iload_n 2, 1) := by decide +kernel
theorem dX10_where_85 : decode cX10_where 85 = .ok (.ireturn, 1) := by decide +kernel
theorem dX10_obey_0 : decode cX10_obey 0 = .ok (.iload_n 1, 1) := by decide +kernel
theorem dX10_obey_1 : decode cX10_obey 1 = .ok (.i2l, 1) := by decide +kernel
theorem dX10_obey_2 : decode cX10_obey 2 = .ok (.lconst 0, 1) := by decide +kernel
theorem dX10_obey_3 : decode cX10_obey 3 = .ok (.lconst 1, 1) := by decide +kernel
theorem dX10_obey_4 : decode cX10_obey 4 = .ok (.invokestatic 68, 3) := by decide +kernel
theorem dX10_obey_7 : decode cX10_obey 7 = .ok (.ifCond .ne 10, 3) := by decide +kernel
theorem dX10_obey_10 : decode cX10_obey 10 = .ok (.aload_n 0, 1) := by decide +kernel
theorem dX10_obey_11 : decode cX10_obey 11 = .ok (.bipush (-2), 2) := by decide +kernel
theorem dX10_obey_13 : decode cX10_obey 13 = .ok (.invokevirtual 84, 3) := by decide +kernel
theorem dX10_obey_16 : decode cX10_obey 16 = .ok (.ireturn, 1) := by decide +kernel
theorem dX10_obey_17 : decode cX10_obey 17 = .ok (.iconst 0, 1) := by decide +kernel
theorem dX10_obey_18 : decode cX10_obey 18 = .ok (.istore_n 2, 1) := by decide +kernel
theorem dX10_obey_19 : decode cX10_obey 19 = .ok (.iconst 0, 1) := by decide +kernel
theorem dX10_obey_20 : decode cX10_obey 20 = .ok (.istore_n 3, 1) := by decide +kernel
theorem dX10_obey_21 : decode cX10_obey 21 = .ok (.iload_n 3, 1) := by decide +kernel
theorem dX10_obey_22 : decode cX10_obey 22 = .ok (.aload_n 0, 1) := by decide +kernel
theorem dX10_obey_23 : decode cX10_obey 23 = .ok (.invokevirtual 64, 3) := by decide +kernel
theorem dX10_obey_26 : decode cX10_obey 26 = .ok (.if_icmp .ge 74, 3) := by decide +kernel
theorem dX10_obey_29 : decode cX10_obey 29 = .ok (.iload_n 1, 1) := by decide +kernel
theorem dX10_obey_30 : decode cX10_obey 30 = .ok (.ifCond .ne 11, 3) := by decide +kernel
theorem dX10_obey_33 : decode cX10_obey 33 = .ok (.aload_n 0, 1) := by decide +kernel
theorem dX10_obey_34 : decode cX10_obey 34 = .ok (.iload_n 3, 1) := by decide +kernel
theorem dX10_obey_35 : decode cX10_obey 35 = .ok (.invokevirtual 121, 3) := by decide +kernel
theorem dX10_obey_38 : decode cX10_obey 38 = .ok (.goto 20, 3) := by decide +kernel
theorem dX10_obey_41 : decode cX10_obey 41 = .ok (.aload_n 0, 1) := by decide +kernel
theorem dX10_obey_42 : decode cX10_obey 42 = .ok (.getfield 7, 3) := by decide +kernel
theorem dX10_obey_45 : decode cX10_obey 45 = .ok (.bipush 30, 2) := by decide +kernel
theorem dX10_obey_47 : decode cX10_obey 47 = .ok (.iload_n 3, 1) := by decide +kernel
theorem dX10_obey_48 : decode cX10_obey 48 = .ok (.iadd, 1) := by decide +kernel
theorem dX10_obey_49 : decode cX10_obey 49 = .ok (.iaload, 1) := by decide +kernel
theorem dX10_obey_50 : decode cX10_obey 50 = .ok (.aload_n 0, 1) := by decide +kernel
theorem dX10_obey_51 : decode cX10_obey 51 = .ok (.iload_n 3, 1) := by decide +kernel
theorem dX10_obey_52 : decode cX10_obey 52 = .ok (.invokevirtual 121, 3) := by decide +kernel
theorem dX10_obey_55 : decode cX10_obey 55 = .ok (.invokestatic 147, 3) := by decide +kernel
theorem dX10_obey_58 : decode cX10_obey 58 = .ok (.istore 4, 2) := by decide +kernel
theorem dX10_obey_60 : decode cX10_obey 60 = .ok (.iload_n 2, 1) := by decide +kernel
theorem dX10_obey_61 : decode cX10_obey 61 = .ok (.aload_n 0, 1) := by decide +kernel
theorem dX10_obey_62 : decode cX10_obey 62 = .ok (.getfield 7, 3) := by decide +kernel
theorem dX10_obey_65 : decode cX10_obey 65 = .ok (.iconst 4, 1) := by decide +kernel
theorem dX10_obey_66 : decode cX10_obey 66 = .ok (.aload_n 0, 1) := by decide +kernel
theorem dX10_obey_67 : decode cX10_obey 67 = .ok (.getfield 7, 3) := by decide +kernel
theorem dX10_obey_70 : decode cX10_obey 70 = .ok (.bipush 9, 2) := by decide +kernel
theorem dX10_obey_72 : decode cX10_obey 72 = .ok (.iload_n 3, 1) := by decide +kernel
theorem dX10_obey_73 : decode cX10_obey 73 = .ok (.iadd, 1) := by decide +kernel
theorem dX10_obey_74 : decode cX10_obey 74 = .ok (.iaload, 1) := by decide +kernel
theorem dX10_obey_75 : decode cX10_obey 75 = .ok (.iadd, 1) := by decide +kernel
theorem dX10_obey_76 : decode cX10_obey 76 = .ok (.iaload, 1) := by decide +kernel
theorem dX10_obey_77 : decode cX10_obey 77 = .ok (.iload 4, 2) := by decide +kernel
theorem dX10_obey_79 : decode cX10_obey 79 = .ok (.invokestatic 160, 3) := by decide +kernel
theorem dX10_obey_82 : decode cX10_obey 82 = .ok (.if_icmp .ne 9, 3) := by decide +kernel
theorem dX10_obey_85 : decode cX10_obey 85 = .ok (.iconst 1, 1) := by decide +kernel
theorem dX10_obey_86 : decode cX10_obey 86 = .ok (.iload_n 3, 1) := by decide +kernel
theorem dX10_obey_87 : decode cX10_obey 87 = .ok (.ishl, 1) := by decide +kernel
theorem dX10_obey_88 : decode cX10_obey 88 = .ok (.goto 4, 3) := by decide +kernel
theorem dX10_obey_91 : decode cX10_obey 91 = .ok (.iconst 0, 1) := by decide +kernel
theorem dX10_obey_92 : decode cX10_obey 92 = .ok (.ior, 1) := by decide +kernel
theorem dX10_obey_93 : decode cX10_obey 93 = .ok (.istore_n 2, 1) := by decide +kernel
theorem dX10_obey_94 : decode cX10_obey 94 = .ok (.iinc 3 1, 3) := by decide +kernel
theorem dX10_obey_97 : decode cX10_obey 97 = .ok (.goto (-76), 3) := by decide +kernel
theorem dX10_obey_100 : decode cX10_obey 100 = .ok (.iload_n 2, 1) := by decide +kernel
theorem dX10_obey_101 : decode cX10_obey 101 = .ok (.ireturn, 1) := by decide +kernel
theorem dX10_sumAll_0 : decode cX10_sumAll 0 = .ok (.iconst 0, 1) := by decide +kernel
theorem dX10_sumAll_1 : decode cX10_sumAll 1 = .ok (.istore_n 1, 1) := by decide +kernel
theorem dX10_sumAll_2 : decode cX10_sumAll 2 = .ok (.iconst 0, 1) := by decide +kernel
theorem dX10_sumAll_3 : decode cX10_sumAll 3 = .ok (.istore_n 2, 1) := by decide +kernel
theorem dX10_sumAll_4 : decode cX10_sumAll 4 = .ok (.iload_n 2, 1) := by decide +kernel
theorem dX10_sumAll_5 : decode cX10_sumAll 5 = .ok (.aload_n 0, 1) := by decide +kernel
theorem dX10_sumAll_6 : decode cX10_sumAll 6 = .ok (.invokevirtual 64, 3) := by decide +kernel
theorem dX10_sumAll_9 : decode cX10_sumAll 9 = .ok (.if_icmp .ge 23, 3) := by decide +kernel
theorem dX10_sumAll_12 : decode cX10_sumAll 12 = .ok (.iload_n 1, 1) := by decide +kernel
theorem dX10_sumAll_13 : decode cX10_sumAll 13 = .ok (.aload_n 0, 1) := by decide +kernel
theorem dX10_sumAll_14 : decode cX10_sumAll 14 = .ok (.iload_n 2, 1) := by decide +kernel
theorem dX10_sumAll_15 : decode cX10_sumAll 15 = .ok (.aload_n 0, 1) := by decide +kernel
theorem dX10_sumAll_16 : decode cX10_sumAll 16 = .ok (.getfield 27, 3) := by decide +kernel
theorem dX10_sumAll_19 : decode cX10_sumAll 19 = .ok (.iload_n 2, 1) := by decide +kernel
theorem dX10_sumAll_20 : decode cX10_sumAll 20 = .ok (.iaload, 1) := by decide +kernel
theorem dX10_sumAll_21 : decode cX10_sumAll 21 = .ok (.invokevirtual 143, 3) := by decide +kernel
theorem dX10_sumAll_24 : decode cX10_sumAll 24 = .ok (.iadd, 1) := by decide +kernel
theorem dX10_sumAll_25 : decode cX10_sumAll 25 = .ok (.istore_n 1, 1) := by decide +kernel
theorem dX10_sumAll_26 : decode cX10_sumAll 26 = .ok (.iinc 2 1, 3) := by decide +kernel
theorem dX10_sumAll_29 : decode cX10_sumAll 29 = .ok (.goto (-25), 3) := by decide +kernel
theorem dX10_sumAll_32 : decode cX10_sumAll 32 = .ok (.iload_n 1, 1) := by decide +kernel
theorem dX10_sumAll_33 : decode cX10_sumAll 33 = .ok (.ireturn, 1) := by decide +kernel
theorem dX10_layLies_0 : decode cX10_layLies 0 = .ok (.iconst 1, 1) := by decide +kernel
theorem dX10_layLies_1 : decode cX10_layLies 1 = .ok (.istore_n 2, 1) := by decide +kernel
theorem dX10_layLies_2 : decode cX10_layLies 2 = .ok (.iconst 0, 1) := by decide +kernel
theorem dX10_layLies_3 : decode cX10_layLies 3 = .ok (.istore_n 3, 1) := by decide +kernel
theorem dX10_layLies_4 : decode cX10_layLies 4 = .ok (.iload_n 3, 1) := by decide +kernel
theorem dX10_layLies_5 : decode cX10_layLies 5 = .ok (.aload_n 0, 1) := by decide +kernel
theorem dX10_layLies_6 : decode cX10_layLies 6 = .ok (.invokevirtual 64, 3) := by decide +kernel
theorem dX10_layLies_9 : decode cX10_layLies 9 = .ok (.if_icmp .ge 52, 3) := by decide +kernel
theorem dX10_layLies_12 : decode cX10_layLies 12 = .ok (.aload_n 0, 1) := by decide +kernel
theorem dX10_layLies_13 : decode cX10_layLies 13 = .ok (.getfield 27, 3) := by decide +kernel
theorem dX10_layLies_16 : decode cX10_layLies 16 = .ok (.iload_n 3, 1) := by decide +kernel
theorem dX10_layLies_17 : decode cX10_layLies 17 = .ok (.iload_n 1, 1) := by decide +kernel
theorem dX10_layLies_18 : decode cX10_layLies 18 = .ok (.iconst 2, 1) := by decide +kernel
theorem dX10_layLies_19 : decode cX10_layLies 19 = .ok (.aload_n 0, 1) := by decide +kernel
theorem dX10_layLies_20 : decode cX10_layLies 20 = .ok (.invokevirtual 64, 3) := by decide +kernel
theorem dX10_layLies_23 : decode cX10_layLies 23 = .ok (.iconst 1, 1) := by decide +kernel
theorem dX10_layLies_24 : decode cX10_layLies 24 = .ok (.isub, 1) := by decide +kernel
theorem dX10_layLies_25 : decode cX10_layLies 25 = .ok (.iload_n 3, 1) := by decide +kernel
theorem dX10_layLies_26 : decode cX10_layLies 26 = .ok (.isub, 1) := by decide +kernel
theorem dX10_layLies_27 : decode cX10_layLies 27 = .ok (.imul, 1) := by decide +kernel
theorem dX10_layLies_28 : decode cX10_layLies 28 = .ok (.ishr, 1) := by decide +kernel
theorem dX10_layLies_29 : decode cX10_layLies 29 = .ok (.iconst 3, 1) := by decide +kernel
theorem dX10_layLies_30 : decode cX10_layLies 30 = .ok (.iand, 1) := by decide +kernel
theorem dX10_layLies_31 : decode cX10_layLies 31 = .ok (.iastore, 1) := by decide +kernel
theorem dX10_layLies_32 : decode cX10_layLies 32 = .ok (.iload_n 2, 1) := by decide +kernel
theorem dX10_layLies_33 : decode cX10_layLies 33 = .ok (.ifCond .eq 20, 3) := by decide +kernel
theorem dX10_layLies_36 : decode cX10_layLies 36 = .ok (.aload_n 0, 1) := by decide +kernel
theorem dX10_layLies_37 : decode cX10_layLies 37 = .ok (.aload_n 0, 1) := by decide +kernel
theorem dX10_layLies_38 : decode cX10_layLies 38 = .ok (.getfield 27, 3) := by decide +kernel
theorem dX10_layLies_41 : decode cX10_layLies 41 = .ok (.iload_n 3, 1) := by decide +kernel
theorem dX10_layLies_42 : decode cX10_layLies 42 = .ok (.iaload, 1) := by decide +kernel
theorem dX10_layLies_43 : decode cX10_layLies 43 = .ok (.invokevirtual 101, 3) := by decide +kernel
theorem dX10_layLies_46 : decode cX10_layLies 46 = .ok (.ifCond .eq 7, 3) := by decide +kernel
theorem dX10_layLies_49 : decode cX10_layLies 49 = .ok (.iconst 1, 1) := by decide +kernel
theorem dX10_layLies_50 : decode cX10_layLies 50 = .ok (.goto 4, 3) := by decide +kernel
theorem dX10_layLies_53 : decode cX10_layLies 53 = .ok (.iconst 0, 1) := by decide +kernel
theorem dX10_layLies_54 : decode cX10_layLies 54 = .ok (.istore_n 2, 1) := by decide +kernel
theorem dX10_layLies_55 : decode cX10_layLies 55 = .ok (.iinc 3 1, 3) := by decide +kernel
theorem dX10_layLies_58 : decode cX10_layLies 58 = .ok (.goto (-54), 3) := by decide +kernel
theorem dX10_layLies_61 : decode cX10_layLies 61 = .ok (.iload_n 2, 1) := by decide +kernel
theorem dX10_layLies_62 : decode cX10_layLies 62 = .ok (.ireturn, 1) := by decide +kernel
theorem dX10_all_0 : decode cX10_all 0 = .ok (.iload_n 1, 1) := by decide +kernel
theorem dX10_all_1 : decode cX10_all 1 = .ok (.i2l, 1) := by decide +kernel
theorem dX10_all_2 : decode cX10_all 2 = .ok (.ldc2_w 163, 3) := by decide +kernel
theorem dX10_all_5 : decode cX10_all 5 = .ok (.aload_n 0, 1) := by decide +kernel
theorem dX10_all_6 : decode cX10_all 6 = .ok (.invokevirtual 64, 3) := by decide +kernel
theorem dX10_all_9 : decode cX10_all 9 = .ok (.iconst 1, 1) := by decide +kernel
theorem dX10_all_10 : decode cX10_all 10 = .ok (.isub, 1) := by decide +kernel
theorem dX10_all_11 : decode cX10_all 11 = .ok (.i2l, 1) := by decide +kernel
theorem dX10_all_12 : decode cX10_all 12 = .ok (.invokestatic 68, 3) := by decide +kernel
theorem dX10_all_15 : decode cX10_all 15 = .ok (.ifCond .ne 10, 3) := by decide +kernel
theorem dX10_all_18 : decode cX10_all 18 = .ok (.aload_n 0, 1) := by decide +kernel
theorem dX10_all_19 : decode cX10_all 19 = .ok (.bipush (-10), 2) := by decide +kernel
theorem dX10_all_21 : decode cX10_all 21 = .ok (.invokevirtual 84, 3) := by decide +kernel
theorem dX10_all_24 : decode cX10_all 24 = .ok (.ireturn, 1) := by decide +kernel
theorem dX10_all_25 : decode cX10_all 25 = .ok (.ldc 150, 2) := by decide +kernel
theorem dX10_all_27 : decode cX10_all 27 = .ok (.istore_n 2, 1) := by decide +kernel
theorem dX10_all_28 : decode cX10_all 28 = .ok (.iconst 0, 1) := by decide +kernel
theorem dX10_all_29 : decode cX10_all 29 = .ok (.istore_n 3, 1) := by decide +kernel
theorem dX10_all_30 : decode cX10_all 30 = .ok (.iload_n 3, 1) := by decide +kernel
theorem dX10_all_31 : decode cX10_all 31 = .ok (.iconst 1, 1) := by decide +kernel
theorem dX10_all_32 : decode cX10_all 32 = .ok (.iconst 2, 1) := by decide +kernel
theorem dX10_all_33 : decode cX10_all 33 = .ok (.aload_n 0, 1) := by decide +kernel
theorem dX10_all_34 : decode cX10_all 34 = .ok (.invokevirtual 64, 3) := by decide +kernel
theorem dX10_all_37 : decode cX10_all 37 = .ok (.imul, 1) := by decide +kernel
theorem dX10_all_38 : decode cX10_all 38 = .ok (.ishl, 1) := by decide +kernel
theorem dX10_all_39 : decode cX10_all 39 = .ok (.if_icmp .ge 79, 3) := by decide +kernel
theorem dX10_all_42 : decode cX10_all 42 = .ok (.aload_n 0, 1) := by decide +kernel
theorem dX10_all_43 : decode cX10_all 43 = .ok (.iload_n 3, 1) := by decide +kernel
theorem dX10_all_44 : decode cX10_all 44 = .ok (.invokevirtual 165, 3) := by decide +kernel
theorem dX10_all_47 : decode cX10_all 47 = .ok (.ifCond .eq 10, 3) := by decide +kernel
theorem dX10_all_50 : decode cX10_all 50 = .ok (.aload_n 0, 1) := by decide +kernel
theorem dX10_all_51 : decode cX10_all 51 = .ok (.invokevirtual 168, 3) := by decide +kernel
theorem dX10_all_54 : decode cX10_all 54 = .ok (.goto 5, 3) := by decide +kernel
theorem dX10_all_57 : decode cX10_all 57 = .ok (.ldc 150, 2) := by decide +kernel
theorem dX10_all_59 : decode cX10_all 59 = .ok (.istore 4, 2) := by decide +kernel
theorem dX10_all_61 : decode cX10_all 61 = .ok (.iconst 0, 1) := by decide +kernel
theorem dX10_all_62 : decode cX10_all 62 = .ok (.istore 5, 2) := by decide +kernel
theorem dX10_all_64 : decode cX10_all 64 = .ok (.iload 5, 2) := by decide +kernel
theorem dX10_all_66 : decode cX10_all 66 = .ok (.aload_n 0, 1) := by decide +kernel
theorem dX10_all_67 : decode cX10_all 67 = .ok (.invokevirtual 64, 3) := by decide +kernel
theorem dX10_all_70 : decode cX10_all 70 = .ok (.if_icmp .ge 29, 3) := by decide +kernel
theorem dX10_all_73 : decode cX10_all 73 = .ok (.iload 4, 2) := by decide +kernel
theorem dX10_all_75 : decode cX10_all 75 = .ok (.iload_n 2, 1) := by decide +kernel
theorem dX10_all_76 : decode cX10_all 76 = .ok (.if_icmp .ge 23, 3) := by decide +kernel
theorem dX10_all_79 : decode cX10_all 79 = .ok (.aload_n 0, 1) := by decide +kernel
theorem dX10_all_80 : decode cX10_all 80 = .ok (.getfield 30, 3) := by decide +kernel
theorem dX10_all_83 : decode cX10_all 83 = .ok (.iload 5, 2) := by decide +kernel
theorem dX10_all_85 : decode cX10_all 85 = .ok (.aload_n 0, 1) := by decide +kernel
theorem dX10_all_86 : decode cX10_all 86 = .ok (.getfield 27, 3) := by decide +kernel
theorem dX10_all_89 : decode cX10_all 89 = .ok (.iload 5, 2) := by decide +kernel
theorem dX10_all_91 : decode cX10_all 91 = .ok (.iaload, 1) := by decide +kernel
theorem dX10_all_92 : decode cX10_all 92 = .ok (.iastore, 1) := by decide +kernel
theorem dX10_all_93 : decode cX10_all 93 = .ok (.iinc 5 1, 3) := by decide +kernel
theorem dX10_all_96 : decode cX10_all 96 = .ok (.goto (-32), 3) := by decide +kernel
theorem dX10_all_99 : decode cX10_all 99 = .ok (.iload 4, 2) := by decide +kernel
theorem dX10_all_101 : decode cX10_all 101 = .ok (.iload_n 2, 1) := by decide +kernel
theorem dX10_all_102 : decode cX10_all 102 = .ok (.if_icmp .ge 8, 3) := by decide +kernel
theorem dX10_all_105 : decode cX10_all 105 = .ok (.iload 4, 2) := by decide +kernel
theorem dX10_all_107 : decode cX10_all 107 = .ok (.goto 4, 3) := by decide +kernel
theorem dX10_all_110 : decode cX10_all 110 = .ok (.iload_n 2, 1) := by decide +kernel
theorem dX10_all_111 : decode cX10_all 111 = .ok (.istore_n 2, 1) := by decide +kernel
theorem dX10_all_112 : decode cX10_all 112 = .ok (.iinc 3 1, 3) := by decide +kernel
theorem dX10_all_115 : decode cX10_all 115 = .ok (.goto (-85), 3) := by decide +kernel
theorem dX10_all_118 : decode cX10_all 118 = .ok (.iload_n 1, 1) := by decide +kernel
theorem dX10_all_119 : decode cX10_all 119 = .ok (.iconst (-1), 1) := by decide +kernel
theorem dX10_all_120 : decode cX10_all 120 = .ok (.if_icmp .ne 7, 3) := by decide +kernel
theorem dX10_all_123 : decode cX10_all 123 = .ok (.iload_n 2, 1) := by decide +kernel
theorem dX10_all_124 : decode cX10_all 124 = .ok (.goto 9, 3) := by decide +kernel
theorem dX10_all_127 : decode cX10_all 127 = .ok (.aload_n 0, 1) := by decide +kernel
theorem dX10_all_128 : decode cX10_all 128 = .ok (.getfield 30, 3) := by decide +kernel
theorem dX10_all_131 : decode cX10_all 131 = .ok (.iload_n 1, 1) := by decide +kernel
theorem dX10_all_132 : decode cX10_all 132 = .ok (.iaload, 1) := by decide +kernel
theorem dX10_all_133 : decode cX10_all 133 = .ok (.ireturn, 1) := by decide +kernel
theorem dX10_changes_0 : decode cX10_changes 0 = .ok (.iload_n 1, 1) := by decide +kernel
theorem dX10_changes_1 : decode cX10_changes 1 = .ok (.i2l, 1) := by decide +kernel
theorem dX10_changes_2 : decode cX10_changes 2 = .ok (.ldc2_w 163, 3) := by decide +kernel
theorem dX10_changes_5 : decode cX10_changes 5 = .ok (.aload_n 0, 1) := by decide +kernel
theorem dX10_changes_6 : decode cX10_changes 6 = .ok (.invokevirtual 64, 3) := by decide +kernel
theorem dX10_changes_9 : decode cX10_changes 9 = .ok (.iconst 1, 1) := by decide +kernel
theorem dX10_changes_10 : decode cX10_changes 10 = .ok (.isub, 1) := by decide +kernel
theorem dX10_changes_11 : decode cX10_changes 11 = .ok (.i2l, 1) := by decide +kernel
theorem dX10_changes_12 : decode cX10_changes 12 = .ok (.invokestatic 68, 3) := by decide +kernel
theorem dX10_changes_15 : decode cX10_changes 15 = .ok (.ifCond .ne 10, 3) := by decide +kernel
theorem dX10_changes_18 : decode cX10_changes 18 = .ok (.aload_n 0, 1) := by decide +kernel
theorem dX10_changes_19 : decode cX10_changes 19 = .ok (.bipush (-10), 2) := by decide +kernel
theorem dX10_changes_21 : decode cX10_changes 21 = .ok (.invokevirtual 84, 3) := by decide +kernel
theorem dX10_changes_24 : decode cX10_changes 24 = .ok (.ireturn, 1) := by decide +kernel
theorem dX10_changes_25 : decode cX10_changes 25 = .ok (.iconst 0, 1) := by decide +kernel
theorem dX10_changes_26 : decode cX10_changes 26 = .ok (.istore_n 2, 1) := by decide +kernel
theorem dX10_changes_27 : decode cX10_changes 27 = .ok (.iconst 1, 1) := by decide +kernel
theorem dX10_changes_28 : decode cX10_changes 28 = .ok (.istore_n 3, 1) := by decide +kernel
theorem dX10_changes_29 : decode cX10_changes 29 = .ok (.aload_n 0, 1) := by decide +kernel
theorem dX10_changes_30 : decode cX10_changes 30 = .ok (.invokevirtual 140, 3) := by decide +kernel
theorem dX10_changes_33 : decode cX10_changes 33 = .ok (.iload_n 3, 1) := by decide +kernel
theorem dX10_changes_34 : decode cX10_changes 34 = .ok (.ifCond .eq 94, 3) := by decide +kernel
theorem dX10_changes_37 : decode cX10_changes 37 = .ok (.iconst 0, 1) := by decide +kernel
theorem dX10_changes_38 : decode cX10_changes 38 = .ok (.istore_n 3, 1) := by decide +kernel
theorem dX10_changes_39 : decode cX10_changes 39 = .ok (.iconst 0, 1) := by decide +kernel
theorem dX10_changes_40 : decode cX10_changes 40 = .ok (.istore 4, 2) := by decide +kernel
theorem dX10_changes_42 : decode cX10_changes 42 = .ok (.iload 4, 2) := by decide +kernel
theorem dX10_changes_44 : decode cX10_changes 44 = .ok (.aload_n 0, 1) := by decide +kernel
theorem dX10_changes_45 : decode cX10_changes 45 = .ok (.invokevirtual 64, 3) := by decide +kernel
theorem dX10_changes_48 : decode cX10_changes 48 = .ok (.if_icmp .ge 61, 3) := by decide +kernel
theorem dX10_changes_51 : decode cX10_changes 51 = .ok (.iload_n 2, 1) := by decide +kernel
theorem dX10_changes_52 : decode cX10_changes 52 = .ok (.bipush 60, 2) := by decide +kernel
theorem dX10_changes_54 : decode cX10_changes 54 = .ok (.if_icmp .ge 55, 3) := by decide +kernel
theorem dX10_changes_57 : decode cX10_changes 57 = .ok (.aload_n 0, 1) := by decide +kernel
theorem dX10_changes_58 : decode cX10_changes 58 = .ok (.iload 4, 2) := by decide +kernel
theorem dX10_changes_60 : decode cX10_changes 60 = .ok (.invokevirtual 151, 3) := by decide +kernel
theorem dX10_changes_63 : decode cX10_changes 63 = .ok (.istore 5, 2) := by decide +kernel
theorem dX10_changes_65 : decode cX10_changes 65 = .ok (.aload_n 0, 1) := by decide +kernel
theorem dX10_changes_66 : decode cX10_changes 66 = .ok (.iload 4, 2) := by decide +kernel
theorem dX10_changes_68 : decode cX10_changes 68 = .ok (.iload 5, 2) := by decide +kernel
theorem dX10_changes_70 : decode cX10_changes 70 = .ok (.invokevirtual 143, 3) := by decide +kernel
theorem dX10_changes_73 : decode cX10_changes 73 = .ok (.aload_n 0, 1) := by decide +kernel
theorem dX10_changes_74 : decode cX10_changes 74 = .ok (.iload 4, 2) := by decide +kernel
theorem dX10_changes_76 : decode cX10_changes 76 = .ok (.aload_n 0, 1) := by decide +kernel
theorem dX10_changes_77 : decode cX10_changes 77 = .ok (.getfield 27, 3) := by decide +kernel
theorem dX10_changes_80 : decode cX10_changes 80 = .ok (.iload 4, 2) := by decide +kernel
theorem dX10_changes_82 : decode cX10_changes 82 = .ok (.iaload, 1) := by decide +kernel
theorem dX10_changes_83 : decode cX10_changes 83 = .ok (.invokevirtual 143, 3) := by decide +kernel
theorem dX10_changes_86 : decode cX10_changes 86 = .ok (.if_icmp .ge 17, 3) := by decide +kernel
theorem dX10_changes_89 : decode cX10_changes 89 = .ok (.aload_n 0, 1) := by decide +kernel
theorem dX10_changes_90 : decode cX10_changes 90 = .ok (.getfield 27, 3) := by decide +kernel
theorem dX10_changes_93 : decode cX10_changes 93 = .ok (.iload 4, 2) := by decide +kernel
theorem dX10_changes_95 : decode cX10_changes 95 = .ok (.iload 5, 2) := by decide +kernel
theorem dX10_changes_97 : decode cX10_changes 97 = .ok (.iastore, 1) := by decide +kernel
theorem dX10_changes_98 : decode cX10_changes 98 = .ok (.iconst 1, 1) := by decide +kernel
theorem dX10_changes_99 : decode cX10_changes 99 = .ok (.istore_n 3, 1) := by decide +kernel
theorem dX10_changes_100 : decode cX10_changes 100 = .ok (.iinc 2 1, 3) := by decide +kernel
theorem dX10_changes_103 : decode cX10_changes 103 = .ok (.iinc 4 1, 3) := by decide +kernel
theorem dX10_changes_106 : decode cX10_changes 106 = .ok (.goto (-64), 3) := by decide +kernel
theorem dX10_changes_109 : decode cX10_changes 109 = .ok (.iload_n 3, 1) := by decide +kernel
theorem dX10_changes_110 : decode cX10_changes 110 = .ok (.ifCond .eq 13, 3) := by decide +kernel
theorem dX10_changes_113 : decode cX10_changes 113 = .ok (.iload_n 2, 1) := by decide +kernel
theorem dX10_changes_114 : decode cX10_changes 114 = .ok (.bipush 60, 2) := by decide +kernel
theorem dX10_changes_116 : decode cX10_changes 116 = .ok (.if_icmp .ge 7, 3) := by decide +kernel
theorem dX10_changes_119 : decode cX10_changes 119 = .ok (.iconst 1, 1) := by decide +kernel
theorem dX10_changes_120 : decode cX10_changes 120 = .ok (.goto 4, 3) := by decide +kernel
theorem dX10_changes_123 : decode cX10_changes 123 = .ok (.iconst 0, 1) := by decide +kernel
theorem dX10_changes_124 : decode cX10_changes 124 = .ok (.istore_n 3, 1) := by decide +kernel
theorem dX10_changes_125 : decode cX10_changes 125 = .ok (.goto (-92), 3) := by decide +kernel
theorem dX10_changes_128 : decode cX10_changes 128 = .ok (.iload_n 1, 1) := by decide +kernel
theorem dX10_changes_129 : decode cX10_changes 129 = .ok (.iconst (-1), 1) := by decide +kernel
theorem dX10_changes_130 : decode cX10_changes 130 = .ok (.if_icmp .ne 7, 3) := by decide +kernel
theorem dX10_changes_133 : decode cX10_changes 133 = .ok (.iload_n 2, 1) := by decide +kernel
theorem dX10_changes_134 : decode cX10_changes 134 = .ok (.goto 9, 3) := by decide +kernel
theorem dX10_changes_137 : decode cX10_changes 137 = .ok (.aload_n 0, 1) := by decide +kernel
theorem dX10_changes_138 : decode cX10_changes 138 = .ok (.getfield 27, 3) := by decide +kernel
theorem dX10_changes_141 : decode cX10_changes 141 = .ok (.iload_n 1, 1) := by decide +kernel
theorem dX10_changes_142 : decode cX10_changes 142 = .ok (.iaload, 1) := by decide +kernel
theorem dX10_changes_143 : decode cX10_changes 143 = .ok (.ireturn, 1) := by decide +kernel
theorem dX10_layStart_0 : decode cX10_layStart 0 = .ok (.aload_n 0, 1) := by decide +kernel
theorem dX10_layStart_1 : decode cX10_layStart 1 = .ok (.iconst 0, 1) := by decide +kernel
theorem dX10_layStart_2 : decode cX10_layStart 2 = .ok (.putfield 171, 3) := by decide +kernel
theorem dX10_layStart_5 : decode cX10_layStart 5 = .ok (.iconst 0, 1) := by decide +kernel
theorem dX10_layStart_6 : decode cX10_layStart 6 = .ok (.istore_n 2, 1) := by decide +kernel
theorem dX10_layStart_7 : decode cX10_layStart 7 = .ok (.iload_n 2, 1) := by decide +kernel
theorem dX10_layStart_8 : decode cX10_layStart 8 = .ok (.aload_n 0, 1) := by decide +kernel
theorem dX10_layStart_9 : decode cX10_layStart 9 = .ok (.invokevirtual 64, 3) := by decide +kernel
theorem dX10_layStart_12 : decode cX10_layStart 12 = .ok (.if_icmp .ge 42, 3) := by decide +kernel
theorem dX10_layStart_15 : decode cX10_layStart 15 = .ok (.aload_n 0, 1) := by decide +kernel
theorem dX10_layStart_16 : decode cX10_layStart 16 = .ok (.getfield 7, 3) := by decide +kernel
theorem dX10_layStart_19 : decode cX10_layStart 19 = .ok (.bipush 9, 2) := by decide +kernel
theorem dX10_layStart_21 : decode cX10_layStart 21 = .ok (.iload_n 2, 1) := by decide +kernel
theorem dX10_layStart_22 : decode cX10_layStart 22 = .ok (.iadd, 1) := by decide +kernel
theorem dX10_layStart_23 : decode cX10_layStart 23 = .ok (.iaload, 1) := by decide +kernel
theorem dX10_layStart_24 : decode cX10_layStart 24 = .ok (.iload_n 1, 1) := by decide +kernel
theorem dX10_layStart_25 : decode cX10_layStart 25 = .ok (.if_icmp .ne 23, 3) := by decide +kernel
theorem dX10_layStart_28 : decode cX10_layStart 28 = .ok (.aload_n 0, 1) := by decide +kernel
theorem dX10_layStart_29 : decode cX10_layStart 29 = .ok (.getfield 33, 3) := by decide +kernel
theorem dX10_layStart_32 : decode cX10_layStart 32 = .ok (.aload_n 0, 1) := by decide +kernel
theorem dX10_layStart_33 : decode cX10_layStart 33 = .ok (.getfield 171, 3) := by decide +kernel
theorem dX10_layStart_36 : decode cX10_layStart 36 = .ok (.iload_n 2, 1) := by decide +kernel
theorem dX10_layStart_37 : decode cX10_layStart 37 = .ok (.iastore, 1) := by decide +kernel
theorem dX10_layStart_38 : decode cX10_layStart 38 = .ok (.aload_n 0, 1) := by decide +kernel
theorem dX10_layStart_39 : decode cX10_layStart 39 = .ok (.dup, 1) := by decide +kernel
theorem dX10_layStart_40 : decode cX10_layStart 40 = .ok (.getfield 171, 3) := by decide +kernel
theorem dX10_layStart_43 : decode cX10_layStart 43 = .ok (.iconst 1, 1) := by decide +kernel
theorem dX10_layStart_44 : decode cX10_layStart 44 = .ok (.iadd, 1) := by decide +kernel
theorem dX10_layStart_45 : decode cX10_layStart 45 = .ok (.putfield 171, 3) := by decide +kernel
theorem dX10_layStart_48 : decode cX10_layStart 48 = .ok (.iinc 2 1, 3) := by decide +kernel
theorem dX10_layStart_51 : decode cX10_layStart 51 = .ok (.goto (-44), 3) := by decide +kernel
theorem dX10_layStart_54 : decode cX10_layStart 54 = .ok (.return_, 1) := by decide +kernel
theorem dX10_isRowWell_0 : decode cX10_isRowWell 0 = .ok (.iconst 1, 1) := by decide +kernel
theorem dX10_isRowWell_1 : decode cX10_isRowWell 1 = .ok (.istore_n 3, 1) := by decide +kernel
theorem dX10_isRowWell_2 : decode cX10_isRowWell 2 = .ok (.iconst 1, 1) := by decide +kernel
theorem dX10_isRowWell_3 : decode cX10_isRowWell 3 = .ok (.istore 4, 2) := by decide +kernel
theorem dX10_isRowWell_5 : decode cX10_isRowWell 5 = .ok (.iload 4, 2) := by decide +kernel
theorem dX10_isRowWell_7 : decode cX10_isRowWell 7 = .ok (.aload_n 0, 1) := by decide +kernel
theorem dX10_isRowWell_8 : decode cX10_isRowWell 8 = .ok (.getfield 171, 3) := by decide +kernel
theorem dX10_isRowWell_11 : decode cX10_isRowWell 11 = .ok (.if_icmp .ge 52, 3) := by decide +kernel
theorem dX10_isRowWell_14 : decode cX10_isRowWell 14 = .ok (.iload_n 3, 1) := by decide +kernel
theorem dX10_isRowWell_15 : decode cX10_isRowWell 15 = .ok (.ifCond .eq 40, 3) := by decide +kernel
theorem dX10_isRowWell_18 : decode cX10_isRowWell 18 = .ok (.iload_n 1, 1) := by decide +kernel
theorem dX10_isRowWell_19 : decode cX10_isRowWell 19 = .ok (.iload_n 2, 1) := by decide +kernel
theorem dX10_isRowWell_20 : decode cX10_isRowWell 20 = .ok (.aload_n 0, 1) := by decide +kernel
theorem dX10_isRowWell_21 : decode cX10_isRowWell 21 = .ok (.aload_n 0, 1) := by decide +kernel
theorem dX10_isRowWell_22 : decode cX10_isRowWell 22 = .ok (.getfield 36, 3) := by decide +kernel
theorem dX10_isRowWell_25 : decode cX10_isRowWell 25 = .ok (.iload 4, 2) := by decide +kernel
theorem dX10_isRowWell_27 : decode cX10_isRowWell 27 = .ok (.iaload, 1) := by decide +kernel
theorem dX10_isRowWell_28 : decode cX10_isRowWell 28 = .ok (.invokevirtual 121, 3) := by decide +kernel
theorem dX10_isRowWell_31 : decode cX10_isRowWell 31 = .ok (.imul, 1) := by decide +kernel
theorem dX10_isRowWell_32 : decode cX10_isRowWell 32 = .ok (.iadd, 1) := by decide +kernel
theorem dX10_isRowWell_33 : decode cX10_isRowWell 33 = .ok (.iload_n 2, 1) := by decide +kernel
theorem dX10_isRowWell_34 : decode cX10_isRowWell 34 = .ok (.aload_n 0, 1) := by decide +kernel
theorem dX10_isRowWell_35 : decode cX10_isRowWell 35 = .ok (.aload_n 0, 1) := by decide +kernel
theorem dX10_isRowWell_36 : decode cX10_isRowWell 36 = .ok (.getfield 36, 3) := by decide +kernel
theorem dX10_isRowWell_39 : decode cX10_isRowWell 39 = .ok (.iload 4, 2) := by decide +kernel
theorem dX10_isRowWell_41 : decode cX10_isRowWell 41 = .ok (.iconst 1, 1) := by decide +kernel
theorem dX10_isRowWell_42 : decode cX10_isRowWell 42 = .ok (.isub, 1) := by decide +kernel
theorem dX10_isRowWell_43 : decode cX10_isRowWell 43 = .ok (.iaload, 1) := by decide +kernel
theorem dX10_isRowWell_44 : decode cX10_isRowWell 44 = .ok (.invokevirtual 121, 3) := by decide +kernel
theorem dX10_isRowWell_47 : decode cX10_isRowWell 47 = .ok (.imul, 1) := by decide +kernel
theorem dX10_isRowWell_48 : decode cX10_isRowWell 48 = .ok (.if_icmp .lt 7, 3) := by decide +kernel
theorem dX10_isRowWell_51 : decode cX10_isRowWell 51 = .ok (.iconst 1, 1) := by decide +kernel
theorem dX10_isRowWell_52 : decode cX10_isRowWell 52 = .ok (.goto 4, 3) := by decide +kernel
theorem dX10_isRowWell_55 : decode cX10_isRowWell 55 = .ok (.iconst 0, 1) := by decide +kernel
theorem dX10_isRowWell_56 : decode cX10_isRowWell 56 = .ok (.istore_n 3, 1) := by decide +kernel
theorem dX10_isRowWell_57 : decode cX10_isRowWell 57 = .ok (.iinc 4 1, 3) := by decide +kernel
theorem dX10_isRowWell_60 : decode cX10_isRowWell 60 = .ok (.goto (-55), 3) := by decide +kernel
theorem dX10_isRowWell_63 : decode cX10_isRowWell 63 = .ok (.iload_n 3, 1) := by decide +kernel
theorem dX10_isRowWell_64 : decode cX10_isRowWell 64 = .ok (.ireturn, 1) := by decide +kernel
theorem dX10_layRow_0 : decode cX10_layRow 0 = .ok (.iconst 1, 1) := by decide +kernel
theorem dX10_layRow_1 : decode cX10_layRow 1 = .ok (.aload_n 0, 1) := by decide +kernel
theorem dX10_layRow_2 : decode cX10_layRow 2 = .ok (.getfield 171, 3) := by decide +kernel
theorem dX10_layRow_5 : decode cX10_layRow 5 = .ok (.ishl, 1) := by decide +kernel
theorem dX10_layRow_6 : decode cX10_layRow 6 = .ok (.iconst 1, 1) := by decide +kernel
theorem dX10_layRow_7 : decode cX10_layRow 7 = .ok (.isub, 1) := by decide +kernel
theorem dX10_layRow_8 : decode cX10_layRow 8 = .ok (.istore_n 3, 1) := by decide +kernel
theorem dX10_layRow_9 : decode cX10_layRow 9 = .ok (.iload_n 1, 1) := by decide +kernel
theorem dX10_layRow_10 : decode cX10_layRow 10 = .ok (.istore 4, 2) := by decide +kernel
theorem dX10_layRow_12 : decode cX10_layRow 12 = .ok (.iload_n 2, 1) := by decide +kernel
theorem dX10_layRow_13 : decode cX10_layRow 13 = .ok (.istore 5, 2) := by decide +kernel
theorem dX10_layRow_15 : decode cX10_layRow 15 = .ok (.iconst 0, 1) := by decide +kernel
theorem dX10_layRow_16 : decode cX10_layRow 16 = .ok (.istore 6, 2) := by decide +kernel
theorem dX10_layRow_18 : decode cX10_layRow 18 = .ok (.iload 6, 2) := by decide +kernel
theorem dX10_layRow_20 : decode cX10_layRow 20 = .ok (.aload_n 0, 1) := by decide +kernel
theorem dX10_layRow_21 : decode cX10_layRow 21 = .ok (.getfield 171, 3) := by decide +kernel
theorem dX10_layRow_24 : decode cX10_layRow 24 = .ok (.if_icmp .ge 92, 3) := by decide +kernel
theorem dX10_layRow_27 : decode cX10_layRow 27 = .ok (.iload 5, 2) := by decide +kernel
theorem dX10_layRow_29 : decode cX10_layRow 29 = .ok (.aload_n 0, 1) := by decide +kernel
theorem dX10_layRow_30 : decode cX10_layRow 30 = .ok (.getfield 171, 3) := by decide +kernel
theorem dX10_layRow_33 : decode cX10_layRow 33 = .ok (.iload 6, 2) := by decide +kernel
theorem dX10_layRow_35 : decode cX10_layRow 35 = .ok (.isub, 1) := by decide +kernel
theorem dX10_layRow_36 : decode cX10_layRow 36 = .ok (.idiv, 1) := by decide +kernel
theorem dX10_layRow_37 : decode cX10_layRow 37 = .ok (.istore 5, 2) := by decide +kernel
theorem dX10_layRow_39 : decode cX10_layRow 39 = .ok (.iload 4, 2) := by decide +kernel
theorem dX10_layRow_41 : decode cX10_layRow 41 = .ok (.iload 5, 2) := by decide +kernel
theorem dX10_layRow_43 : decode cX10_layRow 43 = .ok (.idiv, 1) := by decide +kernel
theorem dX10_layRow_44 : decode cX10_layRow 44 = .ok (.istore 7, 2) := by decide +kernel
theorem dX10_layRow_46 : decode cX10_layRow 46 = .ok (.iload 4, 2) := by decide +kernel
theorem dX10_layRow_48 : decode cX10_layRow 48 = .ok (.iload 5, 2) := by decide +kernel
theorem dX10_layRow_50 : decode cX10_layRow 50 = .ok (.irem, 1) := by decide +kernel
theorem dX10_layRow_51 : decode cX10_layRow 51 = .ok (.istore 4, 2) := by decide +kernel
theorem dX10_layRow_53 : decode cX10_layRow 53 = .ok (.iconst 0, 1) := by decide +kernel
theorem dX10_layRow_54 : decode cX10_layRow 54 = .ok (.istore 8, 2) := by decide +kernel
theorem dX10_layRow_56 : decode cX10_layRow 56 = .ok (.iload 7, 2) := by decide +kernel
theorem dX10_layRow_58 : decode cX10_layRow 58 = .ok (.ifCond .gt 12, 3) := by decide +kernel
theorem dX10_layRow_61 : decode cX10_layRow 61 = .ok (.iload_n 3, 1) := by decide +kernel
theorem dX10_layRow_62 : decode cX10_layRow 62 = .ok (.iload 8, 2) := by decide +kernel
theorem dX10_layRow_64 : decode cX10_layRow 64 = .ok (.invokestatic 74, 3) := by decide +kernel
theorem dX10_layRow_67 : decode cX10_layRow 67 = .ok (.ifCond .ne 20, 3) := by decide +kernel
theorem dX10_layRow_70 : decode cX10_layRow 70 = .ok (.iload 7, 2) := by decide +kernel
theorem dX10_layRow_72 : decode cX10_layRow 72 = .ok (.iload_n 3, 1) := by decide +kernel
theorem dX10_layRow_73 : decode cX10_layRow 73 = .ok (.iload 8, 2) := by decide +kernel
theorem dX10_layRow_75 : decode cX10_layRow 75 = .ok (.ishr, 1) := by decide +kernel
theorem dX10_layRow_76 : decode cX10_layRow 76 = .ok (.iconst 1, 1) := by decide +kernel
theorem dX10_layRow_77 : decode cX10_layRow 77 = .ok (.iand, 1) := by decide +kernel
theorem dX10_layRow_78 : decode cX10_layRow 78 = .ok (.isub, 1) := by decide +kernel
theorem dX10_layRow_79 : decode cX10_layRow 79 = .ok (.istore 7, 2) := by decide +kernel
theorem dX10_layRow_81 : decode cX10_layRow 81 = .ok (.iinc 8 1, 3) := by decide +kernel
theorem dX10_layRow_84 : decode cX10_layRow 84 = .ok (.goto (-28), 3) := by decide +kernel
theorem dX10_layRow_87 : decode cX10_layRow 87 = .ok (.iload_n 3, 1) := by decide +kernel
theorem dX10_layRow_88 : decode cX10_layRow 88 = .ok (.iconst 1, 1) := by decide +kernel
theorem dX10_layRow_89 : decode cX10_layRow 89 = .ok (.iload 8, 2) := by decide +kernel
theorem dX10_layRow_91 : decode cX10_layRow 91 = .ok (.ishl, 1) := by decide +kernel
theorem dX10_layRow_92 : decode cX10_layRow 92 = .ok (.iconst (-1), 1) := by decide +kernel
theorem dX10_layRow_93 : decode cX10_layRow 93 = .ok (.ixor, 1) := by decide +kernel
theorem dX10_layRow_94 : decode cX10_layRow 94 = .ok (.iand, 1) := by decide +kernel
theorem dX10_layRow_95 : decode cX10_layRow 95 = .ok (.istore_n 3, 1) := by decide +kernel
theorem dX10_layRow_96 : decode cX10_layRow 96 = .ok (.aload_n 0, 1) := by decide +kernel
theorem dX10_layRow_97 : decode cX10_layRow 97 = .ok (.getfield 36, 3) := by decide +kernel
theorem dX10_layRow_100 : decode cX10_layRow 100 = .ok (.iload 6, 2) := by decide +kernel
theorem dX10_layRow_102 : decode cX10_layRow 102 = .ok (.aload_n 0, 1) := by decide +kernel
theorem dX10_layRow_103 : decode cX10_layRow 103 = .ok (.getfield 33, 3) := by decide +kernel
theorem dX10_layRow_106 : decode cX10_layRow 106 = .ok (.iload 8, 2) := by decide +kernel
theorem dX10_layRow_108 : decode cX10_layRow 108 = .ok (.iaload, 1) := by decide +kernel
theorem dX10_layRow_109 : decode cX10_layRow 109 = .ok (.iastore, 1) := by decide +kernel
theorem dX10_layRow_110 : decode cX10_layRow 110 = .ok (.iinc 6 1, 3) := by decide +kernel
theorem dX10_layRow_113 : decode cX10_layRow 113 = .ok (.goto (-95), 3) := by decide +kernel
theorem dX10_layRow_116 : decode cX10_layRow 116 = .ok (.return_, 1) := by decide +kernel
theorem dX10_order_0 : decode cX10_order 0 = .ok (.iload_n 1, 1) := by decide +kernel
theorem dX10_order_1 : decode cX10_order 1 = .ok (.invokestatic 78, 3) := by decide +kernel
theorem dX10_order_4 : decode cX10_order 4 = .ok (.ifCond .eq 33, 3) := by decide +kernel
theorem dX10_order_7 : decode cX10_order 7 = .ok (.iload_n 2, 1) := by decide +kernel
theorem dX10_order_8 : decode cX10_order 8 = .ok (.i2l, 1) := by decide +kernel
theorem dX10_order_9 : decode cX10_order 9 = .ok (.lconst 0, 1) := by decide +kernel
theorem dX10_order_10 : decode cX10_order 10 = .ok (.ldc2_w 138, 3) := by decide +kernel
theorem dX10_order_13 : decode cX10_order 13 = .ok (.invokestatic 68, 3) := by decide +kernel
theorem dX10_order_16 : decode cX10_order 16 = .ok (.ifCond .eq 21, 3) := by decide +kernel
theorem dX10_order_19 : decode cX10_order 19 = .ok (.iload_n 3, 1) := by decide +kernel
theorem dX10_order_20 : decode cX10_order 20 = .ok (.i2l, 1) := by decide +kernel
theorem dX10_order_21 : decode cX10_order 21 = .ok (.lconst 1, 1) := by decide +kernel
theorem dX10_order_22 : decode cX10_order 22 = .ok (.ldc2_w 174, 3) := by decide +kernel
theorem dX10_order_25 : decode cX10_order 25 = .ok (.invokestatic 68, 3) := by decide +kernel
theorem dX10_order_28 : decode cX10_order 28 = .ok (.ifCond .eq 9, 3) := by decide +kernel
theorem dX10_order_31 : decode cX10_order 31 = .ok (.iload 4, 2) := by decide +kernel
theorem dX10_order_33 : decode cX10_order 33 = .ok (.iconst (-1), 1) := by decide +kernel
theorem dX10_order_34 : decode cX10_order 34 = .ok (.if_icmp .ge 10, 3) := by decide +kernel
theorem dX10_order_37 : decode cX10_order 37 = .ok (.aload_n 0, 1) := by decide +kernel
theorem dX10_order_38 : decode cX10_order 38 = .ok (.bipush (-10), 2) := by decide +kernel
theorem dX10_order_40 : decode cX10_order 40 = .ok (.invokevirtual 84, 3) := by decide +kernel
theorem dX10_order_43 : decode cX10_order 43 = .ok (.ireturn, 1) := by decide +kernel
theorem dX10_order_44 : decode cX10_order 44 = .ok (.iconst 1, 1) := by decide +kernel
theorem dX10_order_45 : decode cX10_order 45 = .ok (.istore 5, 2) := by decide +kernel
theorem dX10_order_47 : decode cX10_order 47 = .ok (.iconst 0, 1) := by decide +kernel
theorem dX10_order_48 : decode cX10_order 48 = .ok (.istore 6, 2) := by decide +kernel
theorem dX10_order_50 : decode cX10_order 50 = .ok (.aload_n 0, 1) := by decide +kernel
theorem dX10_order_51 : decode cX10_order 51 = .ok (.iload_n 1, 1) := by decide +kernel
theorem dX10_order_52 : decode cX10_order 52 = .ok (.invokevirtual 176, 3) := by decide +kernel
theorem dX10_order_55 : decode cX10_order 55 = .ok (.iconst 2, 1) := by decide +kernel
theorem dX10_order_56 : decode cX10_order 56 = .ok (.istore 7, 2) := by decide +kernel
theorem dX10_order_58 : decode cX10_order 58 = .ok (.iload 7, 2) := by decide +kernel
theorem dX10_order_60 : decode cX10_order 60 = .ok (.aload_n 0, 1) := by decide +kernel
theorem dX10_order_61 : decode cX10_order 61 = .ok (.getfield 171, 3) := by decide +kernel
theorem dX10_order_64 : decode cX10_order 64 = .ok (.if_icmp .gt 16, 3) := by decide +kernel
theorem dX10_order_67 : decode cX10_order 67 = .ok (.iload 5, 2) := by decide +kernel
theorem dX10_order_69 : decode cX10_order 69 = .ok (.iload 7, 2) := by decide +kernel
theorem dX10_order_71 : decode cX10_order 71 = .ok (.imul, 1) := by decide +kernel
theorem dX10_order_72 : decode cX10_order 72 = .ok (.istore 5, 2) := by decide +kernel
theorem dX10_order_74 : decode cX10_order 74 = .ok (.iinc 7 1, 3) := by decide +kernel
theorem dX10_order_77 : decode cX10_order 77 = .ok (.goto (-19), 3) := by decide +kernel
theorem dX10_order_80 : decode cX10_order 80 = .ok (.iconst 0, 1) := by decide +kernel
theorem dX10_order_81 : decode cX10_order 81 = .ok (.istore 7, 2) := by decide +kernel
theorem dX10_order_83 : decode cX10_order 83 = .ok (.iload 7, 2) := by decide +kernel
theorem dX10_order_85 : decode cX10_order 85 = .ok (.iload 5, 2) := by decide +kernel
theorem dX10_order_87 : decode cX10_order 87 = .ok (.if_icmp .ge 82, 3) := by decide +kernel
theorem dX10_order_90 : decode cX10_order 90 = .ok (.aload_n 0, 1) := by decide +kernel
theorem dX10_order_91 : decode cX10_order 91 = .ok (.iload 7, 2) := by decide +kernel
theorem dX10_order_93 : decode cX10_order 93 = .ok (.iload 5, 2) := by decide +kernel
theorem dX10_order_95 : decode cX10_order 95 = .ok (.invokevirtual 180, 3) := by decide +kernel
theorem dX10_order_98 : decode cX10_order 98 = .ok (.aload_n 0, 1) := by decide +kernel
theorem dX10_order_99 : decode cX10_order 99 = .ok (.iload_n 2, 1) := by decide +kernel
theorem dX10_order_100 : decode cX10_order 100 = .ok (.iload_n 3, 1) := by decide +kernel
theorem dX10_order_101 : decode cX10_order 101 = .ok (.invokevirtual 183, 3) := by decide +kernel
theorem dX10_order_104 : decode cX10_order 104 = .ok (.istore 8, 2) := by decide +kernel
theorem dX10_order_106 : decode cX10_order 106 = .ok (.iconst 0, 1) := by decide +kernel
theorem dX10_order_107 : decode cX10_order 107 = .ok (.istore 9, 2) := by decide +kernel
theorem dX10_order_109 : decode cX10_order 109 = .ok (.iload 9, 2) := by decide +kernel
theorem dX10_order_111 : decode cX10_order 111 = .ok (.aload_n 0, 1) := by decide +kernel
theorem dX10_order_112 : decode cX10_order 112 = .ok (.getfield 171, 3) := by decide +kernel
theorem dX10_order_115 : decode cX10_order 115 = .ok (.if_icmp .ge 33, 3) := by decide +kernel
theorem dX10_order_118 : decode cX10_order 118 = .ok (.iload 8, 2) := by decide +kernel
theorem dX10_order_120 : decode cX10_order 120 = .ok (.ifCond .eq 28, 3) := by decide +kernel
theorem dX10_order_123 : decode cX10_order 123 = .ok (.iload 6, 2) := by decide +kernel
theorem dX10_order_125 : decode cX10_order 125 = .ok (.ifCond .ne 23, 3) := by decide +kernel
theorem dX10_order_128 : decode cX10_order 128 = .ok (.aload_n 0, 1) := by decide +kernel
theorem dX10_order_129 : decode cX10_order 129 = .ok (.getfield 39, 3) := by decide +kernel
theorem dX10_order_132 : decode cX10_order 132 = .ok (.iload 9, 2) := by decide +kernel
theorem dX10_order_134 : decode cX10_order 134 = .ok (.aload_n 0, 1) := by decide +kernel
theorem dX10_order_135 : decode cX10_order 135 = .ok (.getfield 36, 3) := by decide +kernel
theorem dX10_order_138 : decode cX10_order 138 = .ok (.iload 9, 2) := by decide +kernel
theorem dX10_order_140 : decode cX10_order 140 = .ok (.iaload, 1) := by decide +kernel
theorem dX10_order_141 : decode cX10_order 141 = .ok (.iastore, 1) := by decide +kernel
theorem dX10_order_142 : decode cX10_order 142 = .ok (.iinc 9 1, 3) := by decide +kernel
theorem dX10_order_145 : decode cX10_order 145 = .ok (.goto (-36), 3) := by decide +kernel
theorem dX10_order_148 : decode cX10_order 148 = .ok (.iload 6, 2) := by decide +kernel
theorem dX10_order_150 : decode cX10_order 150 = .ok (.iload 8, 2) := by decide +kernel
theorem dX10_order_152 : decode cX10_order 152 = .ok (.ifCond .eq 7, 3) := by decide +kernel
theorem dX10_order_155 : decode cX10_order 155 = .ok (.iconst 1, 1) := by decide +kernel
theorem dX10_order_156 : decode cX10_order 156 = .ok (.goto 4, 3) := by decide +kernel
theorem dX10_order_159 : decode cX10_order 159 = .ok (.iconst 0, 1) := by decide +kernel
theorem dX10_order_160 : decode cX10_order 160 = .ok (.iadd, 1) := by decide +kernel
theorem dX10_order_161 : decode cX10_order 161 = .ok (.istore 6, 2) := by decide +kernel
theorem dX10_order_163 : decode cX10_order 163 = .ok (.iinc 7 1, 3) := by decide +kernel
theorem dX10_order_166 : decode cX10_order 166 = .ok (.goto (-83), 3) := by decide +kernel
theorem dX10_order_169 : decode cX10_order 169 = .ok (.iload 4, 2) := by decide +kernel
theorem dX10_order_171 : decode cX10_order 171 = .ok (.iconst (-1), 1) := by decide +kernel
theorem dX10_order_172 : decode cX10_order 172 = .ok (.if_icmp .ne 8, 3) := by decide +kernel
theorem dX10_order_175 : decode cX10_order 175 = .ok (.iload 6, 2) := by decide +kernel
theorem dX10_order_177 : decode cX10_order 177 = .ok (.goto 33, 3) := by decide +kernel
theorem dX10_order_180 : decode cX10_order 180 = .ok (.iload 6, 2) := by decide +kernel
theorem dX10_order_182 : decode cX10_order 182 = .ok (.ifCond .ne 7, 3) := by decide +kernel
theorem dX10_order_185 : decode cX10_order 185 = .ok (.iconst (-1), 1) := by decide +kernel
theorem dX10_order_186 : decode cX10_order 186 = .ok (.goto 24, 3) := by decide +kernel
theorem dX10_order_189 : decode cX10_order 189 = .ok (.iload 4, 2) := by decide +kernel
theorem dX10_order_191 : decode cX10_order 191 = .ok (.aload_n 0, 1) := by decide +kernel
theorem dX10_order_192 : decode cX10_order 192 = .ok (.getfield 171, 3) := by decide +kernel
theorem dX10_order_195 : decode cX10_order 195 = .ok (.if_icmp .ge 13, 3) := by decide +kernel
theorem dX10_order_198 : decode cX10_order 198 = .ok (.aload_n 0, 1) := by decide +kernel
theorem dX10_order_199 : decode cX10_order 199 = .ok (.getfield 39, 3) := by decide +kernel
theorem dX10_order_202 : decode cX10_order 202 = .ok (.iload 4, 2) := by decide +kernel
theorem dX10_order_204 : decode cX10_order 204 = .ok (.iaload, 1) := by decide +kernel
theorem dX10_order_205 : decode cX10_order 205 = .ok (.goto 5, 3) := by decide +kernel
theorem dX10_order_208 : decode cX10_order 208 = .ok (.bipush (-5), 2) := by decide +kernel
theorem dX10_order_210 : decode cX10_order 210 = .ok (.ireturn, 1) := by decide +kernel
theorem dX10_apart_0 : decode cX10_apart 0 = .ok (.iload_n 1, 1) := by decide +kernel
theorem dX10_apart_1 : decode cX10_apart 1 = .ok (.invokestatic 78, 3) := by decide +kernel
theorem dX10_apart_4 : decode cX10_apart 4 = .ok (.ifCond .eq 15, 3) := by decide +kernel
theorem dX10_apart_7 : decode cX10_apart 7 = .ok (.iload_n 2, 1) := by decide +kernel
theorem dX10_apart_8 : decode cX10_apart 8 = .ok (.i2l, 1) := by decide +kernel
theorem dX10_apart_9 : decode cX10_apart 9 = .ok (.lconst 1, 1) := by decide +kernel
theorem dX10_apart_10 : decode cX10_apart 10 = .ok (.ldc2_w 174, 3) := by decide +kernel
theorem dX10_apart_13 : decode cX10_apart 13 = .ok (.invokestatic 68, 3) := by decide +kernel
theorem dX10_apart_16 : decode cX10_apart 16 = .ok (.ifCond .ne 10, 3) := by decide +kernel
theorem dX10_apart_19 : decode cX10_apart 19 = .ok (.aload_n 0, 1) := by decide +kernel
theorem dX10_apart_20 : decode cX10_apart 20 = .ok (.bipush (-2), 2) := by decide +kernel
theorem dX10_apart_22 : decode cX10_apart 22 = .ok (.invokevirtual 84, 3) := by decide +kernel
theorem dX10_apart_25 : decode cX10_apart 25 = .ok (.ireturn, 1) := by decide +kernel
theorem dX10_apart_26 : decode cX10_apart 26 = .ok (.aload_n 0, 1) := by decide +kernel
theorem dX10_apart_27 : decode cX10_apart 27 = .ok (.iload_n 1, 1) := by decide +kernel
theorem dX10_apart_28 : decode cX10_apart 28 = .ok (.invokevirtual 176, 3) := by decide +kernel
theorem dX10_apart_31 : decode cX10_apart 31 = .ok (.iconst 0, 1) := by decide +kernel
theorem dX10_apart_32 : decode cX10_apart 32 = .ok (.istore_n 3, 1) := by decide +kernel
theorem dX10_apart_33 : decode cX10_apart 33 = .ok (.iload_n 3, 1) := by decide +kernel
theorem dX10_apart_34 : decode cX10_apart 34 = .ok (.aload_n 0, 1) := by decide +kernel
theorem dX10_apart_35 : decode cX10_apart 35 = .ok (.getfield 171, 3) := by decide +kernel
theorem dX10_apart_38 : decode cX10_apart 38 = .ok (.if_icmp .ge 21, 3) := by decide +kernel
theorem dX10_apart_41 : decode cX10_apart 41 = .ok (.aload_n 0, 1) := by decide +kernel
theorem dX10_apart_42 : decode cX10_apart 42 = .ok (.getfield 36, 3) := by decide +kernel
theorem dX10_apart_45 : decode cX10_apart 45 = .ok (.iload_n 3, 1) := by decide +kernel
theorem dX10_apart_46 : decode cX10_apart 46 = .ok (.aload_n 0, 1) := by decide +kernel
theorem dX10_apart_47 : decode cX10_apart 47 = .ok (.getfield 33, 3) := by decide +kernel
theorem dX10_apart_50 : decode cX10_apart 50 = .ok (.iload_n 3, 1) := by decide +kernel
theorem dX10_apart_51 : decode cX10_apart 51 = .ok (.iaload, 1) := by decide +kernel
theorem dX10_apart_52 : decode cX10_apart 52 = .ok (.iastore, 1) := by decide +kernel
theorem dX10_apart_53 : decode cX10_apart 53 = .ok (.iinc 3 1, 3) := by decide +kernel
theorem dX10_apart_56 : decode cX10_apart 56 = .ok (.goto (-23), 3) := by decide +kernel
theorem dX10_apart_59 : decode cX10_apart 59 = .ok (.iconst 0, 1) := by decide +kernel
theorem dX10_apart_60 : decode cX10_apart 60 = .ok (.istore_n 3, 1) := by decide +kernel
theorem dX10_apart_61 : decode cX10_apart 61 = .ok (.iload_n 3, 1) := by decide +kernel
theorem dX10_apart_62 : decode cX10_apart 62 = .ok (.sipush 600, 3) := by decide +kernel
theorem dX10_apart_65 : decode cX10_apart 65 = .ok (.if_icmp .gt 20, 3) := by decide +kernel
theorem dX10_apart_68 : decode cX10_apart 68 = .ok (.aload_n 0, 1) := by decide +kernel
theorem dX10_apart_69 : decode cX10_apart 69 = .ok (.iload_n 3, 1) := by decide +kernel
theorem dX10_apart_70 : decode cX10_apart 70 = .ok (.iload_n 2, 1) := by decide +kernel
theorem dX10_apart_71 : decode cX10_apart 71 = .ok (.invokevirtual 183, 3) := by decide +kernel
theorem dX10_apart_74 : decode cX10_apart 74 = .ok (.ifCond .eq 5, 3) := by decide +kernel
theorem dX10_apart_77 : decode cX10_apart 77 = .ok (.iload_n 3, 1) := by decide +kernel
theorem dX10_apart_78 : decode cX10_apart 78 = .ok (.ireturn, 1) := by decide +kernel
theorem dX10_apart_79 : decode cX10_apart 79 = .ok (.iinc 3 1, 3) := by decide +kernel
theorem dX10_apart_82 : decode cX10_apart 82 = .ok (.goto (-21), 3) := by decide +kernel
theorem dX10_apart_85 : decode cX10_apart 85 = .ok (.iconst (-1), 1) := by decide +kernel
theorem dX10_apart_86 : decode cX10_apart 86 = .ok (.ireturn, 1) := by decide +kernel
theorem dX10_note_0 : decode cX10_note 0 = .ok (.aload_n 0, 1) := by decide +kernel
theorem dX10_note_1 : decode cX10_note 1 = .ok (.iload_n 1, 1) := by decide +kernel
theorem dX10_note_2 : decode cX10_note 2 = .ok (.invokevirtual 132, 3) := by decide +kernel
theorem dX10_note_5 : decode cX10_note 5 = .ok (.ifCond .eq 53, 3) := by decide +kernel
theorem dX10_note_8 : decode cX10_note 8 = .ok (.iload_n 2, 1) := by decide +kernel
theorem dX10_note_9 : decode cX10_note 9 = .ok (.i2l, 1) := by decide +kernel
theorem dX10_note_10 : decode cX10_note 10 = .ok (.lconst 1, 1) := by decide +kernel
theorem dX10_note_11 : decode cX10_note 11 = .ok (.ldc2_w 186, 3) := by decide +kernel
theorem dX10_note_14 : decode cX10_note 14 = .ok (.invokestatic 68, 3) := by decide +kernel
theorem dX10_note_17 : decode cX10_note 17 = .ok (.ifCond .eq 41, 3) := by decide +kernel
theorem dX10_note_20 : decode cX10_note 20 = .ok (.iload_n 3, 1) := by decide +kernel
theorem dX10_note_21 : decode cX10_note 21 = .ok (.i2l, 1) := by decide +kernel
theorem dX10_note_22 : decode cX10_note 22 = .ok (.lconst 0, 1) := by decide +kernel
theorem dX10_note_23 : decode cX10_note 23 = .ok (.ldc2_w 99, 3) := by decide +kernel
theorem dX10_note_26 : decode cX10_note 26 = .ok (.invokestatic 68, 3) := by decide +kernel
theorem dX10_note_29 : decode cX10_note 29 = .ok (.ifCond .eq 29, 3) := by decide +kernel
theorem dX10_note_32 : decode cX10_note 32 = .ok (.iload 4, 2) := by decide +kernel
theorem dX10_note_34 : decode cX10_note 34 = .ok (.i2l, 1) := by decide +kernel
theorem dX10_note_35 : decode cX10_note 35 = .ok (.lconst 0, 1) := by decide +kernel
theorem dX10_note_36 : decode cX10_note 36 = .ok (.ldc2_w 188, 3) := by decide +kernel
theorem dX10_note_39 : decode cX10_note 39 = .ok (.invokestatic 68, 3) := by decide +kernel
theorem dX10_note_42 : decode cX10_note 42 = .ok (.ifCond .eq 16, 3) := by decide +kernel
theorem dX10_note_45 : decode cX10_note 45 = .ok (.iload 5, 2) := by decide +kernel
theorem dX10_note_47 : decode cX10_note 47 = .ok (.i2l, 1) := by decide +kernel
theorem dX10_note_48 : decode cX10_note 48 = .ok (.lconst 0, 1) := by decide +kernel
theorem dX10_note_49 : decode cX10_note 49 = .ok (.ldc2_w 188, 3) := by decide +kernel
theorem dX10_note_52 : decode cX10_note 52 = .ok (.invokestatic 68, 3) := by decide +kernel
theorem dX10_note_55 : decode cX10_note 55 = .ok (.ifCond .ne 10, 3) := by decide +kernel
theorem dX10_note_58 : decode cX10_note 58 = .ok (.aload_n 0, 1) := by decide +kernel
theorem dX10_note_59 : decode cX10_note 59 = .ok (.bipush (-2), 2) := by decide +kernel
theorem dX10_note_61 : decode cX10_note 61 = .ok (.invokevirtual 84, 3) := by decide +kernel
theorem dX10_note_64 : decode cX10_note 64 = .ok (.ireturn, 1) := by decide +kernel
theorem dX10_note_65 : decode cX10_note 65 = .ok (.aload_n 0, 1) := by decide +kernel
theorem dX10_note_66 : decode cX10_note 66 = .ok (.getfield 7, 3) := by decide +kernel
theorem dX10_note_69 : decode cX10_note 69 = .ok (.iconst 2, 1) := by decide +kernel
theorem dX10_note_70 : decode cX10_note 70 = .ok (.iaload, 1) := by decide +kernel
theorem dX10_note_71 : decode cX10_note 71 = .ok (.bipush 6, 2) := by decide +kernel
theorem dX10_note_73 : decode cX10_note 73 = .ok (.if_icmp .ne 8, 3) := by decide +kernel
theorem dX10_note_76 : decode cX10_note 76 = .ok (.aload_n 0, 1) := by decide +kernel
theorem dX10_note_77 : decode cX10_note 77 = .ok (.invokevirtual 104, 3) := by decide +kernel
theorem dX10_note_80 : decode cX10_note 80 = .ok (.ireturn, 1) := by decide +kernel
theorem dX10_note_81 : decode cX10_note 81 = .ok (.bipush 44, 2) := by decide +kernel
theorem dX10_note_83 : decode cX10_note 83 = .ok (.iconst 5, 1) := by decide +kernel
theorem dX10_note_84 : decode cX10_note 84 = .ok (.aload_n 0, 1) := by decide +kernel
theorem dX10_note_85 : decode cX10_note 85 = .ok (.getfield 7, 3) := by decide +kernel
theorem dX10_note_88 : decode cX10_note 88 = .ok (.iconst 2, 1) := by decide +kernel
theorem dX10_note_89 : decode cX10_note 89 = .ok (.iaload, 1) := by decide +kernel
theorem dX10_note_90 : decode cX10_note 90 = .ok (.imul, 1) := by decide +kernel
theorem dX10_note_91 : decode cX10_note 91 = .ok (.iadd, 1) := by decide +kernel
theorem dX10_note_92 : decode cX10_note 92 = .ok (.istore 6, 2) := by decide +kernel
theorem dX10_note_94 : decode cX10_note 94 = .ok (.aload_n 0, 1) := by decide +kernel
theorem dX10_note_95 : decode cX10_note 95 = .ok (.getfield 7, 3) := by decide +kernel
theorem dX10_note_98 : decode cX10_note 98 = .ok (.iload 6, 2) := by decide +kernel
theorem dX10_note_100 : decode cX10_note 100 = .ok (.iload_n 1, 1) := by decide +kernel
theorem dX10_note_101 : decode cX10_note 101 = .ok (.iastore, 1) := by decide +kernel
theorem dX10_note_102 : decode cX10_note 102 = .ok (.aload_n 0, 1) := by decide +kernel
theorem dX10_note_103 : decode cX10_note 103 = .ok (.getfield 7, 3) := by decide +kernel
theorem dX10_note_106 : decode cX10_note 106 = .ok (.iload 6, 2) := by decide +kernel
theorem dX10_note_108 : decode cX10_note 108 = .ok (.iconst 1, 1) := by decide +kernel
theorem dX10_note_109 : decode cX10_note 109 = .ok (.iadd, 1) := by decide +kernel
theorem dX10_note_110 : decode cX10_note 110 = .ok (.iload_n 2, 1) := by decide +kernel
theorem dX10_note_111 : decode cX10_note 111 = .ok (.iastore, 1) := by decide +kernel
theorem dX10_note_112 : decode cX10_note 112 = .ok (.aload_n 0, 1) := by decide +kernel
theorem dX10_note_113 : decode cX10_note 113 = .ok (.getfield 7, 3) := by decide +kernel
theorem dX10_note_116 : decode cX10_note 116 = .ok (.iload 6, 2) := by decide +kernel
theorem dX10_note_118 : decode cX10_note 118 = .ok (.iconst 2, 1) := by decide +kernel
theorem dX10_note_119 : decode cX10_note 119 = .ok (.iadd, 1) := by decide +kernel
theorem dX10_note_120 : decode cX10_note 120 = .ok (.iload_n 3, 1) := by decide +kernel
theorem dX10_note_121 : decode cX10_note 121 = .ok (.iastore, 1) := by decide +kernel
theorem dX10_note_122 : decode cX10_note 122 = .ok (.aload_n 0, 1) := by decide +kernel
theorem dX10_note_123 : decode cX10_note 123 = .ok (.getfield 7, 3) := by decide +kernel
theorem dX10_note_126 : decode cX10_note 126 = .ok (.iload 6, 2) := by decide +kernel
theorem dX10_note_128 : decode cX10_note 128 = .ok (.iconst 3, 1) := by decide +kernel
theorem dX10_note_129 : decode cX10_note 129 = .ok (.iadd, 1) := by decide +kernel
theorem dX10_note_130 : decode cX10_note 130 = .ok (.iload 4, 2) := by decide +kernel
theorem dX10_note_132 : decode cX10_note 132 = .ok (.iastore, 1) := by decide +kernel
theorem dX10_note_133 : decode cX10_note 133 = .ok (.aload_n 0, 1) := by decide +kernel
theorem dX10_note_134 : decode cX10_note 134 = .ok (.getfield 7, 3) := by decide +kernel
theorem dX10_note_137 : decode cX10_note 137 = .ok (.iload 6, 2) := by decide +kernel
theorem dX10_note_139 : decode cX10_note 139 = .ok (.iconst 4, 1) := by decide +kernel
theorem dX10_note_140 : decode cX10_note 140 = .ok (.iadd, 1) := by decide +kernel
theorem dX10_note_141 : decode cX10_note 141 = .ok (.iload 5, 2) := by decide +kernel
theorem dX10_note_143 : decode cX10_note 143 = .ok (.iastore, 1) := by decide +kernel
theorem dX10_note_144 : decode cX10_note 144 = .ok (.aload_n 0, 1) := by decide +kernel
theorem dX10_note_145 : decode cX10_note 145 = .ok (.getfield 7, 3) := by decide +kernel
theorem dX10_note_148 : decode cX10_note 148 = .ok (.iconst 2, 1) := by decide +kernel
theorem dX10_note_149 : decode cX10_note 149 = .ok (.dup2, 1) := by decide +kernel
theorem dX10_note_150 : decode cX10_note 150 = .ok (.iaload, 1) := by decide +kernel
theorem dX10_note_151 : decode cX10_note 151 = .ok (.iconst 1, 1) := by decide +kernel
theorem dX10_note_152 : decode cX10_note 152 = .ok (.iadd, 1) := by decide +kernel
theorem dX10_note_153 : decode cX10_note 153 = .ok (.iastore, 1) := by decide +kernel
theorem dX10_note_154 : decode cX10_note 154 = .ok (.aload_n 0, 1) := by decide +kernel
theorem dX10_note_155 : decode cX10_note 155 = .ok (.getfield 7, 3) := by decide +kernel
theorem dX10_note_158 : decode cX10_note 158 = .ok (.iconst 2, 1) := by decide +kernel
theorem dX10_note_159 : decode cX10_note 159 = .ok (.iaload, 1) := by decide +kernel
theorem dX10_note_160 : decode cX10_note 160 = .ok (.ireturn, 1) := by decide +kernel
theorem dX10_forget_0 : decode cX10_forget 0 = .ok (.aload_n 0, 1) := by decide +kernel
theorem dX10_forget_1 : decode cX10_forget 1 = .ok (.getfield 7, 3) := by decide +kernel
theorem dX10_forget_4 : decode cX10_forget 4 = .ok (.iconst 2, 1) := by decide +kernel
theorem dX10_forget_5 : decode cX10_forget 5 = .ok (.iaload, 1) := by decide +kernel
theorem dX10_forget_6 : decode cX10_forget 6 = .ok (.istore_n 1, 1) := by decide +kernel
theorem dX10_forget_7 : decode cX10_forget 7 = .ok (.aload_n 0, 1) := by decide +kernel
theorem dX10_forget_8 : decode cX10_forget 8 = .ok (.getfield 7, 3) := by decide +kernel
theorem dX10_forget_11 : decode cX10_forget 11 = .ok (.iconst 2, 1) := by decide +kernel
theorem dX10_forget_12 : decode cX10_forget 12 = .ok (.iconst 0, 1) := by decide +kernel
theorem dX10_forget_13 : decode cX10_forget 13 = .ok (.iastore, 1) := by decide +kernel
theorem dX10_forget_14 : decode cX10_forget 14 = .ok (.iload_n 1, 1) := by decide +kernel
theorem dX10_forget_15 : decode cX10_forget 15 = .ok (.ireturn, 1) := by decide +kernel
theorem dX10_canBe_0 : decode cX10_canBe 0 = .ok (.iconst 1, 1) := by decide +kernel
theorem dX10_canBe_1 : decode cX10_canBe 1 = .ok (.istore 4, 2) := by decide +kernel
theorem dX10_canBe_3 : decode cX10_canBe 3 = .ok (.iconst 0, 1) := by decide +kernel
theorem dX10_canBe_4 : decode cX10_canBe 4 = .ok (.istore 5, 2) := by decide +kernel
theorem dX10_canBe_6 : decode cX10_canBe 6 = .ok (.iload 5, 2) := by decide +kernel
theorem dX10_canBe_8 : decode cX10_canBe 8 = .ok (.aload_n 0, 1) := by decide +kernel
theorem dX10_canBe_9 : decode cX10_canBe 9 = .ok (.getfield 7, 3) := by decide +kernel
theorem dX10_canBe_12 : decode cX10_canBe 12 = .ok (.iconst 2, 1) := by decide +kernel
theorem dX10_canBe_13 : decode cX10_canBe 13 = .ok (.iaload, 1) := by decide +kernel
theorem dX10_canBe_14 : decode cX10_canBe 14 = .ok (.if_icmp .ge 85, 3) := by decide +kernel
theorem dX10_canBe_17 : decode cX10_canBe 17 = .ok (.bipush 44, 2) := by decide +kernel
theorem dX10_canBe_19 : decode cX10_canBe 19 = .ok (.iconst 5, 1) := by decide +kernel
theorem dX10_canBe_20 : decode cX10_canBe 20 = .ok (.iload 5, 2) := by decide +kernel
theorem dX10_canBe_22 : decode cX10_canBe 22 = .ok (.imul, 1) := by decide +kernel
theorem dX10_canBe_23 : decode cX10_canBe 23 = .ok (.iadd, 1) := by decide +kernel
theorem dX10_canBe_24 : decode cX10_canBe 24 = .ok (.istore 6, 2) := by decide +kernel
theorem dX10_canBe_26 : decode cX10_canBe 26 = .ok (.iload 4, 2) := by decide +kernel
theorem dX10_canBe_28 : decode cX10_canBe 28 = .ok (.ifCond .eq 62, 3) := by decide +kernel
theorem dX10_canBe_31 : decode cX10_canBe 31 = .ok (.aload_n 0, 1) := by decide +kernel
theorem dX10_canBe_32 : decode cX10_canBe 32 = .ok (.getfield 7, 3) := by decide +kernel
theorem dX10_canBe_35 : decode cX10_canBe 35 = .ok (.iload 6, 2) := by decide +kernel
theorem dX10_canBe_37 : decode cX10_canBe 37 = .ok (.iaload, 1) := by decide +kernel
theorem dX10_canBe_38 : decode cX10_canBe 38 = .ok (.iload_n 1, 1) := by decide +kernel
theorem dX10_canBe_39 : decode cX10_canBe 39 = .ok (.if_icmp .ne 47, 3) := by decide +kernel
theorem dX10_canBe_42 : decode cX10_canBe 42 = .ok (.iload_n 2, 1) := by decide +kernel
theorem dX10_canBe_43 : decode cX10_canBe 43 = .ok (.iload_n 3, 1) := by decide +kernel
theorem dX10_canBe_44 : decode cX10_canBe 44 = .ok (.aload_n 0, 1) := by decide +kernel
theorem dX10_canBe_45 : decode cX10_canBe 45 = .ok (.getfield 7, 3) := by decide +kernel
theorem dX10_canBe_48 : decode cX10_canBe 48 = .ok (.iload 6, 2) := by decide +kernel
theorem dX10_canBe_50 : decode cX10_canBe 50 = .ok (.iconst 2, 1) := by decide +kernel
theorem dX10_canBe_51 : decode cX10_canBe 51 = .ok (.iadd, 1) := by decide +kernel
theorem dX10_canBe_52 : decode cX10_canBe 52 = .ok (.iaload, 1) := by decide +kernel
theorem dX10_canBe_53 : decode cX10_canBe 53 = .ok (.aload_n 0, 1) := by decide +kernel
theorem dX10_canBe_54 : decode cX10_canBe 54 = .ok (.getfield 7, 3) := by decide +kernel
theorem dX10_canBe_57 : decode cX10_canBe 57 = .ok (.iload 6, 2) := by decide +kernel
theorem dX10_canBe_59 : decode cX10_canBe 59 = .ok (.iconst 3, 1) := by decide +kernel
theorem dX10_canBe_60 : decode cX10_canBe 60 = .ok (.iadd, 1) := by decide +kernel
theorem dX10_canBe_61 : decode cX10_canBe 61 = .ok (.iaload, 1) := by decide +kernel
theorem dX10_canBe_62 : decode cX10_canBe 62 = .ok (.aload_n 0, 1) := by decide +kernel
theorem dX10_canBe_63 : decode cX10_canBe 63 = .ok (.getfield 7, 3) := by decide +kernel
theorem dX10_canBe_66 : decode cX10_canBe 66 = .ok (.iload 6, 2) := by decide +kernel
theorem dX10_canBe_68 : decode cX10_canBe 68 = .ok (.iconst 4, 1) := by decide +kernel
theorem dX10_canBe_69 : decode cX10_canBe 69 = .ok (.iadd, 1) := by decide +kernel
theorem dX10_canBe_70 : decode cX10_canBe 70 = .ok (.iaload, 1) := by decide +kernel
theorem dX10_canBe_71 : decode cX10_canBe 71 = .ok (.invokestatic 128, 3) := by decide +kernel
theorem dX10_canBe_74 : decode cX10_canBe 74 = .ok (.aload_n 0, 1) := by decide +kernel
theorem dX10_canBe_75 : decode cX10_canBe 75 = .ok (.getfield 7, 3) := by decide +kernel
theorem dX10_canBe_78 : decode cX10_canBe 78 = .ok (.iload 6, 2) := by decide +kernel
theorem dX10_canBe_80 : decode cX10_canBe 80 = .ok (.iconst 1, 1) := by decide +kernel
theorem dX10_canBe_81 : decode cX10_canBe 81 = .ok (.iadd, 1) := by decide +kernel
theorem dX10_canBe_82 : decode cX10_canBe 82 = .ok (.iaload, 1) := by decide +kernel
theorem dX10_canBe_83 : decode cX10_canBe 83 = .ok (.if_icmp .ne 7, 3) := by decide +kernel
theorem dX10_canBe_86 : decode cX10_canBe 86 = .ok (.iconst 1, 1) := by decide +kernel
theorem dX10_canBe_87 : decode cX10_canBe 87 = .ok (.goto 4, 3) := by decide +kernel
theorem dX10_canBe_90 : decode cX10_canBe 90 = .ok (.iconst 0, 1) := by decide +kernel
theorem dX10_canBe_91 : decode cX10_canBe 91 = .ok (.istore 4, 2) := by decide +kernel
theorem dX10_canBe_93 : decode cX10_canBe 93 = .ok (.iinc 5 1, 3) := by decide +kernel
theorem dX10_canBe_96 : decode cX10_canBe 96 = .ok (.goto (-90), 3) := by decide +kernel
theorem dX10_canBe_99 : decode cX10_canBe 99 = .ok (.iload 4, 2) := by decide +kernel
theorem dX10_canBe_101 : decode cX10_canBe 101 = .ok (.ireturn, 1) := by decide +kernel
theorem dX10_kindsOf_0 : decode cX10_kindsOf 0 = .ok (.iconst 0, 1) := by decide +kernel
theorem dX10_kindsOf_1 : decode cX10_kindsOf 1 = .ok (.istore_n 2, 1) := by decide +kernel
theorem dX10_kindsOf_2 : decode cX10_kindsOf 2 = .ok (.iconst 0, 1) := by decide +kernel
theorem dX10_kindsOf_3 : decode cX10_kindsOf 3 = .ok (.istore_n 3, 1) := by decide +kernel
theorem dX10_kindsOf_4 : decode cX10_kindsOf 4 = .ok (.iload_n 3, 1) := by decide +kernel
theorem dX10_kindsOf_5 : decode cX10_kindsOf 5 = .ok (.bipush 6, 2) := by decide +kernel
theorem dX10_kindsOf_7 : decode cX10_kindsOf 7 = .ok (.if_icmp .ge 33, 3) := by decide +kernel
theorem dX10_kindsOf_10 : decode cX10_kindsOf 10 = .ok (.iload_n 2, 1) := by decide +kernel
theorem dX10_kindsOf_11 : decode cX10_kindsOf 11 = .ok (.aload_n 0, 1) := by decide +kernel
theorem dX10_kindsOf_12 : decode cX10_kindsOf 12 = .ok (.iload_n 1, 1) := by decide +kernel
theorem dX10_kindsOf_13 : decode cX10_kindsOf 13 = .ok (.iload_n 3, 1) := by decide +kernel
theorem dX10_kindsOf_14 : decode cX10_kindsOf 14 = .ok (.aload_n 0, 1) := by decide +kernel
theorem dX10_kindsOf_15 : decode cX10_kindsOf 15 = .ok (.iload_n 1, 1) := by decide +kernel
theorem dX10_kindsOf_16 : decode cX10_kindsOf 16 = .ok (.invokevirtual 121, 3) := by decide +kernel
theorem dX10_kindsOf_19 : decode cX10_kindsOf 19 = .ok (.invokevirtual 190, 3) := by decide +kernel
theorem dX10_kindsOf_22 : decode cX10_kindsOf 22 = .ok (.ifCond .eq 9, 3) := by decide +kernel
theorem dX10_kindsOf_25 : decode cX10_kindsOf 25 = .ok (.iconst 1, 1) := by decide +kernel
theorem dX10_kindsOf_26 : decode cX10_kindsOf 26 = .ok (.iload_n 3, 1) := by decide +kernel
theorem dX10_kindsOf_27 : decode cX10_kindsOf 27 = .ok (.ishl, 1) := by decide +kernel
theorem dX10_kindsOf_28 : decode cX10_kindsOf 28 = .ok (.goto 4, 3) := by decide +kernel
theorem dX10_kindsOf_31 : decode cX10_kindsOf 31 = .ok (.iconst 0, 1) := by decide +kernel
theorem dX10_kindsOf_32 : decode cX10_kindsOf 32 = .ok (.ior, 1) := by decide +kernel
theorem dX10_kindsOf_33 : decode cX10_kindsOf 33 = .ok (.istore_n 2, 1) := by decide +kernel
theorem dX10_kindsOf_34 : decode cX10_kindsOf 34 = .ok (.iinc 3 1, 3) := by decide +kernel
theorem dX10_kindsOf_37 : decode cX10_kindsOf 37 = .ok (.goto (-33), 3) := by decide +kernel
theorem dX10_kindsOf_40 : decode cX10_kindsOf 40 = .ok (.iload_n 2, 1) := by decide +kernel
theorem dX10_kindsOf_41 : decode cX10_kindsOf 41 = .ok (.ireturn, 1) := by decide +kernel
theorem dX10_is_0 : decode cX10_is 0 = .ok (.aload_n 0, 1) := by decide +kernel
theorem dX10_is_1 : decode cX10_is 1 = .ok (.iload_n 1, 1) := by decide +kernel
theorem dX10_is_2 : decode cX10_is 2 = .ok (.invokevirtual 132, 3) := by decide +kernel
theorem dX10_is_5 : decode cX10_is 5 = .ok (.ifCond .eq 13, 3) := by decide +kernel
theorem dX10_is_8 : decode cX10_is 8 = .ok (.iload_n 2, 1) := by decide +kernel
theorem dX10_is_9 : decode cX10_is 9 = .ok (.i2l, 1) := by decide +kernel
theorem dX10_is_10 : decode cX10_is 10 = .ok (.lconst 0, 1) := by decide +kernel
theorem dX10_is_11 : decode cX10_is 11 = .ok (.lconst 1, 1) := by decide +kernel
theorem dX10_is_12 : decode cX10_is 12 = .ok (.invokestatic 68, 3) := by decide +kernel
theorem dX10_is_15 : decode cX10_is 15 = .ok (.ifCond .ne 10, 3) := by decide +kernel
theorem dX10_is_18 : decode cX10_is 18 = .ok (.aload_n 0, 1) := by decide +kernel
theorem dX10_is_19 : decode cX10_is 19 = .ok (.bipush (-2), 2) := by decide +kernel
theorem dX10_is_21 : decode cX10_is 21 = .ok (.invokevirtual 84, 3) := by decide +kernel
theorem dX10_is_24 : decode cX10_is 24 = .ok (.ireturn, 1) := by decide +kernel
theorem dX10_is_25 : decode cX10_is 25 = .ok (.iconst 0, 1) := by decide +kernel
theorem dX10_is_26 : decode cX10_is 26 = .ok (.istore_n 3, 1) := by decide +kernel
theorem dX10_is_27 : decode cX10_is 27 = .ok (.bipush 20, 2) := by decide +kernel
theorem dX10_is_29 : decode cX10_is 29 = .ok (.istore 4, 2) := by decide +kernel
theorem dX10_is_31 : decode cX10_is 31 = .ok (.iload 4, 2) := by decide +kernel
theorem dX10_is_33 : decode cX10_is 33 = .ok (.bipush 90, 2) := by decide +kernel
theorem dX10_is_35 : decode cX10_is 35 = .ok (.if_icmp .gt 36, 3) := by decide +kernel
theorem dX10_is_38 : decode cX10_is 38 = .ok (.iload_n 3, 1) := by decide +kernel
theorem dX10_is_39 : decode cX10_is 39 = .ok (.aload_n 0, 1) := by decide +kernel
theorem dX10_is_40 : decode cX10_is 40 = .ok (.iload_n 1, 1) := by decide +kernel
theorem dX10_is_41 : decode cX10_is 41 = .ok (.aload_n 0, 1) := by decide +kernel
theorem dX10_is_42 : decode cX10_is 42 = .ok (.getfield 7, 3) := by decide +kernel
theorem dX10_is_45 : decode cX10_is 45 = .ok (.bipush 30, 2) := by decide +kernel
theorem dX10_is_47 : decode cX10_is 47 = .ok (.iload_n 1, 1) := by decide +kernel
theorem dX10_is_48 : decode cX10_is 48 = .ok (.iadd, 1) := by decide +kernel
theorem dX10_is_49 : decode cX10_is 49 = .ok (.iaload, 1) := by decide +kernel
theorem dX10_is_50 : decode cX10_is 50 = .ok (.iload 4, 2) := by decide +kernel
theorem dX10_is_52 : decode cX10_is 52 = .ok (.invokevirtual 190, 3) := by decide +kernel
theorem dX10_is_55 : decode cX10_is 55 = .ok (.ifCond .eq 7, 3) := by decide +kernel
theorem dX10_is_58 : decode cX10_is 58 = .ok (.iconst 1, 1) := by decide +kernel
theorem dX10_is_59 : decode cX10_is 59 = .ok (.goto 4, 3) := by decide +kernel
theorem dX10_is_62 : decode cX10_is 62 = .ok (.iconst 0, 1) := by decide +kernel
theorem dX10_is_63 : decode cX10_is 63 = .ok (.iadd, 1) := by decide +kernel
theorem dX10_is_64 : decode cX10_is 64 = .ok (.istore_n 3, 1) := by decide +kernel
theorem dX10_is_65 : decode cX10_is 65 = .ok (.iinc 4 1, 3) := by decide +kernel
theorem dX10_is_68 : decode cX10_is 68 = .ok (.goto (-37), 3) := by decide +kernel
theorem dX10_is_71 : decode cX10_is 71 = .ok (.iload_n 2, 1) := by decide +kernel
theorem dX10_is_72 : decode cX10_is 72 = .ok (.ifCond .ne 11, 3) := by decide +kernel
theorem dX10_is_75 : decode cX10_is 75 = .ok (.aload_n 0, 1) := by decide +kernel
theorem dX10_is_76 : decode cX10_is 76 = .ok (.iload_n 1, 1) := by decide +kernel
theorem dX10_is_77 : decode cX10_is 77 = .ok (.invokevirtual 194, 3) := by decide +kernel
theorem dX10_is_80 : decode cX10_is 80 = .ok (.goto 4, 3) := by decide +kernel
theorem dX10_is_83 : decode cX10_is 83 = .ok (.iload_n 3, 1) := by decide +kernel
theorem dX10_is_84 : decode cX10_is 84 = .ok (.ireturn, 1) := by decide +kernel
theorem dX10_mostAlike_0 : decode cX10_mostAlike 0 = .ok (.iconst 0, 1) := by decide +kernel
theorem dX10_mostAlike_1 : decode cX10_mostAlike 1 = .ok (.istore 4, 2) := by decide +kernel
theorem dX10_mostAlike_3 : decode cX10_mostAlike 3 = .ok (.aload_n 0, 1) := by decide +kernel
theorem dX10_mostAlike_4 : decode cX10_mostAlike 4 = .ok (.iload_n 2, 1) := by decide +kernel
theorem dX10_mostAlike_5 : decode cX10_mostAlike 5 = .ok (.iload_n 3, 1) := by decide +kernel
theorem dX10_mostAlike_6 : decode cX10_mostAlike 6 = .ok (.invokevirtual 124, 3) := by decide +kernel
theorem dX10_mostAlike_9 : decode cX10_mostAlike 9 = .ok (.iconst 0, 1) := by decide +kernel
theorem dX10_mostAlike_10 : decode cX10_mostAlike 10 = .ok (.istore 5, 2) := by decide +kernel
theorem dX10_mostAlike_12 : decode cX10_mostAlike 12 = .ok (.iload 5, 2) := by decide +kernel
theorem dX10_mostAlike_14 : decode cX10_mostAlike 14 = .ok (.bipush 6, 2) := by decide +kernel
theorem dX10_mostAlike_16 : decode cX10_mostAlike 16 = .ok (.if_icmp .ge 131, 3) := by decide +kernel
theorem dX10_mostAlike_19 : decode cX10_mostAlike 19 = .ok (.iconst 0, 1) := by decide +kernel
theorem dX10_mostAlike_20 : decode cX10_mostAlike 20 = .ok (.istore 6, 2) := by decide +kernel
theorem dX10_mostAlike_22 : decode cX10_mostAlike 22 = .ok (.iconst 0, 1) := by decide +kernel
theorem dX10_mostAlike_23 : decode cX10_mostAlike 23 = .ok (.istore 7, 2) := by decide +kernel
theorem dX10_mostAlike_25 : decode cX10_mostAlike 25 = .ok (.iload 7, 2) := by decide +kernel
theorem dX10_mostAlike_27 : decode cX10_mostAlike 27 = .ok (.bipush 6, 2) := by decide +kernel
theorem dX10_mostAlike_29 : decode cX10_mostAlike 29 = .ok (.if_icmp .ge 96, 3) := by decide +kernel
theorem dX10_mostAlike_32 : decode cX10_mostAlike 32 = .ok (.iload_n 1, 1) := by decide +kernel
theorem dX10_mostAlike_33 : decode cX10_mostAlike 33 = .ok (.iload 5, 2) := by decide +kernel
theorem dX10_mostAlike_35 : decode cX10_mostAlike 35 = .ok (.invokestatic 74, 3) := by decide +kernel
theorem dX10_mostAlike_38 : decode cX10_mostAlike 38 = .ok (.ifCond .eq 87, 3) := by decide +kernel
theorem dX10_mostAlike_41 : decode cX10_mostAlike 41 = .ok (.iload 5, 2) := by decide +kernel
theorem dX10_mostAlike_43 : decode cX10_mostAlike 43 = .ok (.aload_n 0, 1) := by decide +kernel
theorem dX10_mostAlike_44 : decode cX10_mostAlike 44 = .ok (.iload_n 2, 1) := by decide +kernel
theorem dX10_mostAlike_45 : decode cX10_mostAlike 45 = .ok (.invokevirtual 121, 3) := by decide +kernel
theorem dX10_mostAlike_48 : decode cX10_mostAlike 48 = .ok (.aload_n 0, 1) := by decide +kernel
theorem dX10_mostAlike_49 : decode cX10_mostAlike 49 = .ok (.getfield 111, 3) := by decide +kernel
theorem dX10_mostAlike_52 : decode cX10_mostAlike 52 = .ok (.aload_n 0, 1) := by decide +kernel
theorem dX10_mostAlike_53 : decode cX10_mostAlike 53 = .ok (.getfield 115, 3) := by decide +kernel
theorem dX10_mostAlike_56 : decode cX10_mostAlike 56 = .ok (.aload_n 0, 1) := by decide +kernel
theorem dX10_mostAlike_57 : decode cX10_mostAlike 57 = .ok (.getfield 118, 3) := by decide +kernel
theorem dX10_mostAlike_60 : decode cX10_mostAlike 60 = .ok (.invokestatic 128, 3) := by decide +kernel
theorem dX10_mostAlike_63 : decode cX10_mostAlike 63 = .ok (.iload 7, 2) := by decide +kernel
theorem dX10_mostAlike_65 : decode cX10_mostAlike 65 = .ok (.aload_n 0, 1) := by decide +kernel
theorem dX10_mostAlike_66 : decode cX10_mostAlike 66 = .ok (.iload_n 2, 1) := by decide +kernel
theorem dX10_mostAlike_67 : decode cX10_mostAlike 67 = .ok (.invokevirtual 121, 3) := by decide +kernel
theorem dX10_mostAlike_70 : decode cX10_mostAlike 70 = .ok (.aload_n 0, 1) := by decide +kernel
theorem dX10_mostAlike_71 : decode cX10_mostAlike 71 = .ok (.getfield 111, 3) := by decide +kernel
theorem dX10_mostAlike_74 : decode cX10_mostAlike 74 = .ok (.aload_n 0, 1) := by decide +kernel
theorem dX10_mostAlike_75 : decode cX10_mostAlike 75 = .ok (.getfield 115, 3) := by decide +kernel
theorem dX10_mostAlike_78 : decode cX10_mostAlike 78 = .ok (.aload_n 0, 1) := by decide +kernel
theorem dX10_mostAlike_79 : decode cX10_mostAlike 79 = .ok (.getfield 118, 3) := by decide +kernel
theorem dX10_mostAlike_82 : decode cX10_mostAlike 82 = .ok (.invokestatic 128, 3) := by decide +kernel
theorem dX10_mostAlike_85 : decode cX10_mostAlike 85 = .ok (.if_icmp .ne 7, 3) := by decide +kernel
theorem dX10_mostAlike_88 : decode cX10_mostAlike 88 = .ok (.iconst 1, 1) := by decide +kernel
theorem dX10_mostAlike_89 : decode cX10_mostAlike 89 = .ok (.goto 4, 3) := by decide +kernel
theorem dX10_mostAlike_92 : decode cX10_mostAlike 92 = .ok (.iconst 0, 1) := by decide +kernel
theorem dX10_mostAlike_93 : decode cX10_mostAlike 93 = .ok (.istore 8, 2) := by decide +kernel
theorem dX10_mostAlike_95 : decode cX10_mostAlike 95 = .ok (.iload 6, 2) := by decide +kernel
theorem dX10_mostAlike_97 : decode cX10_mostAlike 97 = .ok (.iload_n 1, 1) := by decide +kernel
theorem dX10_mostAlike_98 : decode cX10_mostAlike 98 = .ok (.iload 7, 2) := by decide +kernel
theorem dX10_mostAlike_100 : decode cX10_mostAlike 100 = .ok (.invokestatic 74, 3) := by decide +kernel
theorem dX10_mostAlike_103 : decode cX10_mostAlike 103 = .ok (.ifCond .eq 12, 3) := by decide +kernel
theorem dX10_mostAlike_106 : decode cX10_mostAlike 106 = .ok (.iload 8, 2) := by decide +kernel
theorem dX10_mostAlike_108 : decode cX10_mostAlike 108 = .ok (.ifCond .eq 7, 3) := by decide +kernel
theorem dX10_mostAlike_111 : decode cX10_mostAlike 111 = .ok (.iconst 1, 1) := by decide +kernel
theorem dX10_mostAlike_112 : decode cX10_mostAlike 112 = .ok (.goto 4, 3) := by decide +kernel
theorem dX10_mostAlike_115 : decode cX10_mostAlike 115 = .ok (.iconst 0, 1) := by decide +kernel
theorem dX10_mostAlike_116 : decode cX10_mostAlike 116 = .ok (.iadd, 1) := by decide +kernel
theorem dX10_mostAlike_117 : decode cX10_mostAlike 117 = .ok (.istore 6, 2) := by decide +kernel
theorem dX10_mostAlike_119 : decode cX10_mostAlike 119 = .ok (.iinc 7 1, 3) := by decide +kernel
theorem dX10_mostAlike_122 : decode cX10_mostAlike 122 = .ok (.goto (-97), 3) := by decide +kernel
theorem dX10_mostAlike_125 : decode cX10_mostAlike 125 = .ok (.iload 6, 2) := by decide +kernel
theorem dX10_mostAlike_127 : decode cX10_mostAlike 127 = .ok (.iload 4, 2) := by decide +kernel
theorem dX10_mostAlike_129 : decode cX10_mostAlike 129 = .ok (.if_icmp .le 8, 3) := by decide +kernel
theorem dX10_mostAlike_132 : decode cX10_mostAlike 132 = .ok (.iload 6, 2) := by decide +kernel
theorem dX10_mostAlike_134 : decode cX10_mostAlike 134 = .ok (.goto 5, 3) := by decide +kernel
theorem dX10_mostAlike_137 : decode cX10_mostAlike 137 = .ok (.iload 4, 2) := by decide +kernel
theorem dX10_mostAlike_139 : decode cX10_mostAlike 139 = .ok (.istore 4, 2) := by decide +kernel
theorem dX10_mostAlike_141 : decode cX10_mostAlike 141 = .ok (.iinc 5 1, 3) := by decide +kernel
theorem dX10_mostAlike_144 : decode cX10_mostAlike 144 = .ok (.goto (-132), 3) := by decide +kernel
theorem dX10_mostAlike_147 : decode cX10_mostAlike 147 = .ok (.iload 4, 2) := by decide +kernel
theorem dX10_mostAlike_149 : decode cX10_mostAlike 149 = .ok (.ireturn, 1) := by decide +kernel
theorem dX10_look_0 : decode cX10_look 0 = .ok (.aload_n 0, 1) := by decide +kernel
theorem dX10_look_1 : decode cX10_look 1 = .ok (.iload_n 1, 1) := by decide +kernel
theorem dX10_look_2 : decode cX10_look 2 = .ok (.invokevirtual 132, 3) := by decide +kernel
theorem dX10_look_5 : decode cX10_look 5 = .ok (.ifCond .ne 10, 3) := by decide +kernel
theorem dX10_look_8 : decode cX10_look 8 = .ok (.aload_n 0, 1) := by decide +kernel
theorem dX10_look_9 : decode cX10_look 9 = .ok (.bipush (-2), 2) := by decide +kernel
theorem dX10_look_11 : decode cX10_look 11 = .ok (.invokevirtual 84, 3) := by decide +kernel
theorem dX10_look_14 : decode cX10_look 14 = .ok (.ireturn, 1) := by decide +kernel
theorem dX10_look_15 : decode cX10_look 15 = .ok (.aload_n 0, 1) := by decide +kernel
theorem dX10_look_16 : decode cX10_look 16 = .ok (.iload_n 1, 1) := by decide +kernel
theorem dX10_look_17 : decode cX10_look 17 = .ok (.invokevirtual 194, 3) := by decide +kernel
theorem dX10_look_20 : decode cX10_look 20 = .ok (.istore_n 2, 1) := by decide +kernel
theorem dX10_look_21 : decode cX10_look 21 = .ok (.iconst (-1), 1) := by decide +kernel
theorem dX10_look_22 : decode cX10_look 22 = .ok (.istore_n 3, 1) := by decide +kernel
theorem dX10_look_23 : decode cX10_look 23 = .ok (.ldc 150, 2) := by decide +kernel
theorem dX10_look_25 : decode cX10_look 25 = .ok (.istore 4, 2) := by decide +kernel
theorem dX10_look_27 : decode cX10_look 27 = .ok (.aload_n 0, 1) := by decide +kernel
theorem dX10_look_28 : decode cX10_look 28 = .ok (.invokevirtual 140, 3) := by decide +kernel
theorem dX10_look_31 : decode cX10_look 31 = .ok (.iconst 0, 1) := by decide +kernel
theorem dX10_look_32 : decode cX10_look 32 = .ok (.istore 5, 2) := by decide +kernel
theorem dX10_look_34 : decode cX10_look 34 = .ok (.iload 5, 2) := by decide +kernel
theorem dX10_look_36 : decode cX10_look 36 = .ok (.iconst 4, 1) := by decide +kernel
theorem dX10_look_37 : decode cX10_look 37 = .ok (.if_icmp .ge 67, 3) := by decide +kernel
theorem dX10_look_40 : decode cX10_look 40 = .ok (.iload_n 2, 1) := by decide +kernel
theorem dX10_look_41 : decode cX10_look 41 = .ok (.ifCond .le 63, 3) := by decide +kernel
theorem dX10_look_44 : decode cX10_look 44 = .ok (.aload_n 0, 1) := by decide +kernel
theorem dX10_look_45 : decode cX10_look 45 = .ok (.iload 5, 2) := by decide +kernel
theorem dX10_look_47 : decode cX10_look 47 = .ok (.invokevirtual 101, 3) := by decide +kernel
theorem dX10_look_50 : decode cX10_look 50 = .ok (.ifCond .eq 14, 3) := by decide +kernel
theorem dX10_look_53 : decode cX10_look 53 = .ok (.aload_n 0, 1) := by decide +kernel
theorem dX10_look_54 : decode cX10_look 54 = .ok (.iload_n 2, 1) := by decide +kernel
theorem dX10_look_55 : decode cX10_look 55 = .ok (.iload_n 1, 1) := by decide +kernel
theorem dX10_look_56 : decode cX10_look 56 = .ok (.iload 5, 2) := by decide +kernel
theorem dX10_look_58 : decode cX10_look 58 = .ok (.invokevirtual 197, 3) := by decide +kernel
theorem dX10_look_61 : decode cX10_look 61 = .ok (.goto 5, 3) := by decide +kernel
theorem dX10_look_64 : decode cX10_look 64 = .ok (.ldc 150, 2) := by decide +kernel
theorem dX10_look_66 : decode cX10_look 66 = .ok (.istore 6, 2) := by decide +kernel
theorem dX10_look_68 : decode cX10_look 68 = .ok (.iload 6, 2) := by decide +kernel
theorem dX10_look_70 : decode cX10_look 70 = .ok (.iload 4, 2) := by decide +kernel
theorem dX10_look_72 : decode cX10_look 72 = .ok (.if_icmp .ge 8, 3) := by decide +kernel
theorem dX10_look_75 : decode cX10_look 75 = .ok (.iload 5, 2) := by decide +kernel
theorem dX10_look_77 : decode cX10_look 77 = .ok (.goto 4, 3) := by decide +kernel
theorem dX10_look_80 : decode cX10_look 80 = .ok (.iload_n 3, 1) := by decide +kernel
theorem dX10_look_81 : decode cX10_look 81 = .ok (.istore_n 3, 1) := by decide +kernel
theorem dX10_look_82 : decode cX10_look 82 = .ok (.iload 6, 2) := by decide +kernel
theorem dX10_look_84 : decode cX10_look 84 = .ok (.iload 4, 2) := by decide +kernel
theorem dX10_look_86 : decode cX10_look 86 = .ok (.if_icmp .ge 8, 3) := by decide +kernel
theorem dX10_look_89 : decode cX10_look 89 = .ok (.iload 6, 2) := by decide +kernel
theorem dX10_look_91 : decode cX10_look 91 = .ok (.goto 5, 3) := by decide +kernel
theorem dX10_look_94 : decode cX10_look 94 = .ok (.iload 4, 2) := by decide +kernel
theorem dX10_look_96 : decode cX10_look 96 = .ok (.istore 4, 2) := by decide +kernel
theorem dX10_look_98 : decode cX10_look 98 = .ok (.iinc 5 1, 3) := by decide +kernel
theorem dX10_look_101 : decode cX10_look 101 = .ok (.goto (-67), 3) := by decide +kernel
theorem dX10_look_104 : decode cX10_look 104 = .ok (.iload_n 3, 1) := by decide +kernel
theorem dX10_look_105 : decode cX10_look 105 = .ok (.ireturn, 1) := by decide +kernel
theorem dX10_touch_0 : decode cX10_touch 0 = .ok (.aload_n 0, 1) := by decide +kernel
theorem dX10_touch_1 : decode cX10_touch 1 = .ok (.iload_n 1, 1) := by decide +kernel
theorem dX10_touch_2 : decode cX10_touch 2 = .ok (.invokevirtual 132, 3) := by decide +kernel
theorem dX10_touch_5 : decode cX10_touch 5 = .ok (.ifCond .eq 16, 3) := by decide +kernel
theorem dX10_touch_8 : decode cX10_touch 8 = .ok (.aload_n 0, 1) := by decide +kernel
theorem dX10_touch_9 : decode cX10_touch 9 = .ok (.iload_n 2, 1) := by decide +kernel
theorem dX10_touch_10 : decode cX10_touch 10 = .ok (.invokevirtual 132, 3) := by decide +kernel
theorem dX10_touch_13 : decode cX10_touch 13 = .ok (.ifCond .eq 8, 3) := by decide +kernel
theorem dX10_touch_16 : decode cX10_touch 16 = .ok (.iload_n 1, 1) := by decide +kernel
theorem dX10_touch_17 : decode cX10_touch 17 = .ok (.iload_n 2, 1) := by decide +kernel
theorem dX10_touch_18 : decode cX10_touch 18 = .ok (.if_icmp .ne 10, 3) := by decide +kernel
theorem dX10_touch_21 : decode cX10_touch 21 = .ok (.aload_n 0, 1) := by decide +kernel
theorem dX10_touch_22 : decode cX10_touch 22 = .ok (.bipush (-2), 2) := by decide +kernel
theorem dX10_touch_24 : decode cX10_touch 24 = .ok (.invokevirtual 84, 3) := by decide +kernel
theorem dX10_touch_27 : decode cX10_touch 27 = .ok (.ireturn, 1) := by decide +kernel
theorem dX10_touch_28 : decode cX10_touch 28 = .ok (.aload_n 0, 1) := by decide +kernel
theorem dX10_touch_29 : decode cX10_touch 29 = .ok (.getfield 7, 3) := by decide +kernel
theorem dX10_touch_32 : decode cX10_touch 32 = .ok (.bipush 9, 2) := by decide +kernel
theorem dX10_touch_34 : decode cX10_touch 34 = .ok (.iload_n 1, 1) := by decide +kernel
theorem dX10_touch_35 : decode cX10_touch 35 = .ok (.iadd, 1) := by decide +kernel
theorem dX10_touch_36 : decode cX10_touch 36 = .ok (.iaload, 1) := by decide +kernel
theorem dX10_touch_37 : decode cX10_touch 37 = .ok (.aload_n 0, 1) := by decide +kernel
theorem dX10_touch_38 : decode cX10_touch 38 = .ok (.getfield 7, 3) := by decide +kernel
theorem dX10_touch_41 : decode cX10_touch 41 = .ok (.bipush 9, 2) := by decide +kernel
theorem dX10_touch_43 : decode cX10_touch 43 = .ok (.iload_n 2, 1) := by decide +kernel
theorem dX10_touch_44 : decode cX10_touch 44 = .ok (.iadd, 1) := by decide +kernel
theorem dX10_touch_45 : decode cX10_touch 45 = .ok (.iaload, 1) := by decide +kernel
theorem dX10_touch_46 : decode cX10_touch 46 = .ok (.if_icmp .eq 8, 3) := by decide +kernel
theorem dX10_touch_49 : decode cX10_touch 49 = .ok (.aload_n 0, 1) := by decide +kernel
theorem dX10_touch_50 : decode cX10_touch 50 = .ok (.invokevirtual 92, 3) := by decide +kernel
theorem dX10_touch_53 : decode cX10_touch 53 = .ok (.ireturn, 1) := by decide +kernel
theorem dX10_touch_54 : decode cX10_touch 54 = .ok (.iconst 0, 1) := by decide +kernel
theorem dX10_touch_55 : decode cX10_touch 55 = .ok (.istore_n 3, 1) := by decide +kernel
theorem dX10_touch_56 : decode cX10_touch 56 = .ok (.iload_n 3, 1) := by decide +kernel
theorem dX10_touch_57 : decode cX10_touch 57 = .ok (.iconst 4, 1) := by decide +kernel
theorem dX10_touch_58 : decode cX10_touch 58 = .ok (.if_icmp .ge 107, 3) := by decide +kernel
theorem dX10_touch_61 : decode cX10_touch 61 = .ok (.iload_n 3, 1) := by decide +kernel
theorem dX10_touch_62 : decode cX10_touch 62 = .ok (.iconst 1, 1) := by decide +kernel
theorem dX10_touch_63 : decode cX10_touch 63 = .ok (.iand, 1) := by decide +kernel
theorem dX10_touch_64 : decode cX10_touch 64 = .ok (.iconst 1, 1) := by decide +kernel
theorem dX10_touch_65 : decode cX10_touch 65 = .ok (.if_icmp .ne 7, 3) := by decide +kernel
theorem dX10_touch_68 : decode cX10_touch 68 = .ok (.iconst 1, 1) := by decide +kernel
theorem dX10_touch_69 : decode cX10_touch 69 = .ok (.goto 4, 3) := by decide +kernel
theorem dX10_touch_72 : decode cX10_touch 72 = .ok (.iconst 0, 1) := by decide +kernel
theorem dX10_touch_73 : decode cX10_touch 73 = .ok (.istore 4, 2) := by decide +kernel
theorem dX10_touch_75 : decode cX10_touch 75 = .ok (.iload_n 3, 1) := by decide +kernel
theorem dX10_touch_76 : decode cX10_touch 76 = .ok (.iconst 1, 1) := by decide +kernel
theorem dX10_touch_77 : decode cX10_touch 77 = .ok (.if_icmp .le 7, 3) := by decide +kernel
theorem dX10_touch_80 : decode cX10_touch 80 = .ok (.iconst 1, 1) := by decide +kernel
theorem dX10_touch_81 : decode cX10_touch 81 = .ok (.goto 4, 3) := by decide +kernel
theorem dX10_touch_84 : decode cX10_touch 84 = .ok (.iconst 0, 1) := by decide +kernel
theorem dX10_touch_85 : decode cX10_touch 85 = .ok (.istore 5, 2) := by decide +kernel
theorem dX10_touch_87 : decode cX10_touch 87 = .ok (.aload_n 0, 1) := by decide +kernel
theorem dX10_touch_88 : decode cX10_touch 88 = .ok (.getfield 42, 3) := by decide +kernel
theorem dX10_touch_91 : decode cX10_touch 91 = .ok (.iload_n 3, 1) := by decide +kernel
theorem dX10_touch_92 : decode cX10_touch 92 = .ok (.iload 5, 2) := by decide +kernel
theorem dX10_touch_94 : decode cX10_touch 94 = .ok (.ifCond .eq 16, 3) := by decide +kernel
theorem dX10_touch_97 : decode cX10_touch 97 = .ok (.iload 4, 2) := by decide +kernel
theorem dX10_touch_99 : decode cX10_touch 99 = .ok (.ifCond .eq 7, 3) := by decide +kernel
theorem dX10_touch_102 : decode cX10_touch 102 = .ok (.iconst 1, 1) := by decide +kernel
theorem dX10_touch_103 : decode cX10_touch 103 = .ok (.goto 17, 3) := by decide +kernel
theorem dX10_touch_106 : decode cX10_touch 106 = .ok (.iconst 2, 1) := by decide +kernel
theorem dX10_touch_107 : decode cX10_touch 107 = .ok (.goto 13, 3) := by decide +kernel
theorem dX10_touch_110 : decode cX10_touch 110 = .ok (.iload 4, 2) := by decide +kernel
theorem dX10_touch_112 : decode cX10_touch 112 = .ok (.ifCond .eq 7, 3) := by decide +kernel
theorem dX10_touch_115 : decode cX10_touch 115 = .ok (.iconst (-1), 1) := by decide +kernel
theorem dX10_touch_116 : decode cX10_touch 116 = .ok (.goto 4, 3) := by decide +kernel
theorem dX10_touch_119 : decode cX10_touch 119 = .ok (.iconst 0, 1) := by decide +kernel
theorem dX10_touch_120 : decode cX10_touch 120 = .ok (.iastore, 1) := by decide +kernel
theorem dX10_touch_121 : decode cX10_touch 121 = .ok (.aload_n 0, 1) := by decide +kernel
theorem dX10_touch_122 : decode cX10_touch 122 = .ok (.getfield 45, 3) := by decide +kernel
theorem dX10_touch_125 : decode cX10_touch 125 = .ok (.iload_n 3, 1) := by decide +kernel
theorem dX10_touch_126 : decode cX10_touch 126 = .ok (.iload 5, 2) := by decide +kernel
theorem dX10_touch_128 : decode cX10_touch 128 = .ok (.ifCond .eq 7, 3) := by decide +kernel
theorem dX10_touch_131 : decode cX10_touch 131 = .ok (.iconst 0, 1) := by decide +kernel
theorem dX10_touch_132 : decode cX10_touch 132 = .ok (.goto 26, 3) := by decide +kernel
theorem dX10_touch_135 : decode cX10_touch 135 = .ok (.iload 4, 2) := by decide +kernel
theorem dX10_touch_137 : decode cX10_touch 137 = .ok (.ifCond .eq 16, 3) := by decide +kernel
theorem dX10_touch_140 : decode cX10_touch 140 = .ok (.aload_n 0, 1) := by decide +kernel
theorem dX10_touch_141 : decode cX10_touch 141 = .ok (.iload_n 2, 1) := by decide +kernel
theorem dX10_touch_142 : decode cX10_touch 142 = .ok (.invokevirtual 121, 3) := by decide +kernel
theorem dX10_touch_145 : decode cX10_touch 145 = .ok (.aload_n 0, 1) := by decide +kernel
theorem dX10_touch_146 : decode cX10_touch 146 = .ok (.iload_n 1, 1) := by decide +kernel
theorem dX10_touch_147 : decode cX10_touch 147 = .ok (.invokevirtual 121, 3) := by decide +kernel
theorem dX10_touch_150 : decode cX10_touch 150 = .ok (.if_icmp .ge 7, 3) := by decide +kernel
theorem dX10_touch_153 : decode cX10_touch 153 = .ok (.iconst 1, 1) := by decide +kernel
theorem dX10_touch_154 : decode cX10_touch 154 = .ok (.goto 4, 3) := by decide +kernel
theorem dX10_touch_157 : decode cX10_touch 157 = .ok (.iconst (-1), 1) := by decide +kernel
theorem dX10_touch_158 : decode cX10_touch 158 = .ok (.iastore, 1) := by decide +kernel
theorem dX10_touch_159 : decode cX10_touch 159 = .ok (.iinc 3 1, 3) := by decide +kernel
theorem dX10_touch_162 : decode cX10_touch 162 = .ok (.goto (-106), 3) := by decide +kernel
theorem dX10_touch_165 : decode cX10_touch 165 = .ok (.iconst 0, 1) := by decide +kernel
theorem dX10_touch_166 : decode cX10_touch 166 = .ok (.istore_n 3, 1) := by decide +kernel
theorem dX10_touch_167 : decode cX10_touch 167 = .ok (.iconst 0, 1) := by decide +kernel
theorem dX10_touch_168 : decode cX10_touch 168 = .ok (.istore 4, 2) := by decide +kernel
theorem dX10_touch_170 : decode cX10_touch 170 = .ok (.iload 4, 2) := by decide +kernel
theorem dX10_touch_172 : decode cX10_touch 172 = .ok (.iconst 4, 1) := by decide +kernel
theorem dX10_touch_173 : decode cX10_touch 173 = .ok (.if_icmp .ge 70, 3) := by decide +kernel
theorem dX10_touch_176 : decode cX10_touch 176 = .ok (.aload_n 0, 1) := by decide +kernel
theorem dX10_touch_177 : decode cX10_touch 177 = .ok (.getfield 42, 3) := by decide +kernel
theorem dX10_touch_180 : decode cX10_touch 180 = .ok (.iload 4, 2) := by decide +kernel
theorem dX10_touch_182 : decode cX10_touch 182 = .ok (.iaload, 1) := by decide +kernel
theorem dX10_touch_183 : decode cX10_touch 183 = .ok (.aload_n 0, 1) := by decide +kernel
theorem dX10_touch_184 : decode cX10_touch 184 = .ok (.getfield 42, 3) := by decide +kernel
theorem dX10_touch_187 : decode cX10_touch 187 = .ok (.iload 4, 2) := by decide +kernel
theorem dX10_touch_189 : decode cX10_touch 189 = .ok (.iconst 1, 1) := by decide +kernel
theorem dX10_touch_190 : decode cX10_touch 190 = .ok (.ixor, 1) := by decide +kernel
theorem dX10_touch_191 : decode cX10_touch 191 = .ok (.iaload, 1) := by decide +kernel
theorem dX10_touch_192 : decode cX10_touch 192 = .ok (.if_icmp .lt 26, 3) := by decide +kernel
theorem dX10_touch_195 : decode cX10_touch 195 = .ok (.aload_n 0, 1) := by decide +kernel
theorem dX10_touch_196 : decode cX10_touch 196 = .ok (.getfield 45, 3) := by decide +kernel
theorem dX10_touch_199 : decode cX10_touch 199 = .ok (.iload 4, 2) := by decide +kernel
theorem dX10_touch_201 : decode cX10_touch 201 = .ok (.iaload, 1) := by decide +kernel
theorem dX10_touch_202 : decode cX10_touch 202 = .ok (.aload_n 0, 1) := by decide +kernel
theorem dX10_touch_203 : decode cX10_touch 203 = .ok (.getfield 45, 3) := by decide +kernel
theorem dX10_touch_206 : decode cX10_touch 206 = .ok (.iload 4, 2) := by decide +kernel
theorem dX10_touch_208 : decode cX10_touch 208 = .ok (.iconst 2, 1) := by decide +kernel
theorem dX10_touch_209 : decode cX10_touch 209 = .ok (.ixor, 1) := by decide +kernel
theorem dX10_touch_210 : decode cX10_touch 210 = .ok (.iaload, 1) := by decide +kernel
theorem dX10_touch_211 : decode cX10_touch 211 = .ok (.if_icmp .lt 7, 3) := by decide +kernel
theorem dX10_touch_214 : decode cX10_touch 214 = .ok (.iconst 1, 1) := by decide +kernel
theorem dX10_touch_215 : decode cX10_touch 215 = .ok (.goto 4, 3) := by decide +kernel
theorem dX10_touch_218 : decode cX10_touch 218 = .ok (.iconst 0, 1) := by decide +kernel
theorem dX10_touch_219 : decode cX10_touch 219 = .ok (.istore 5, 2) := by decide +kernel
theorem dX10_touch_221 : decode cX10_touch 221 = .ok (.iload_n 3, 1) := by decide +kernel
theorem dX10_touch_222 : decode cX10_touch 222 = .ok (.iload 5, 2) := by decide +kernel
theorem dX10_touch_224 : decode cX10_touch 224 = .ok (.ifCond .eq 10, 3) := by decide +kernel
theorem dX10_touch_227 : decode cX10_touch 227 = .ok (.iconst 1, 1) := by decide +kernel
theorem dX10_touch_228 : decode cX10_touch 228 = .ok (.iload 4, 2) := by decide +kernel
theorem dX10_touch_230 : decode cX10_touch 230 = .ok (.ishl, 1) := by decide +kernel
theorem dX10_touch_231 : decode cX10_touch 231 = .ok (.goto 4, 3) := by decide +kernel
theorem dX10_touch_234 : decode cX10_touch 234 = .ok (.iconst 0, 1) := by decide +kernel
theorem dX10_touch_235 : decode cX10_touch 235 = .ok (.ior, 1) := by decide +kernel
theorem dX10_touch_236 : decode cX10_touch 236 = .ok (.istore_n 3, 1) := by decide +kernel
theorem dX10_touch_237 : decode cX10_touch 237 = .ok (.iinc 4 1, 3) := by decide +kernel
theorem dX10_touch_240 : decode cX10_touch 240 = .ok (.goto (-70), 3) := by decide +kernel
theorem dX10_touch_243 : decode cX10_touch 243 = .ok (.iload_n 3, 1) := by decide +kernel
theorem dX10_touch_244 : decode cX10_touch 244 = .ok (.ireturn, 1) := by decide +kernel
theorem dX10_fraction_0 : decode cX10_fraction 0 = .ok (.lload_n 1, 1) := by decide +kernel
theorem dX10_fraction_1 : decode cX10_fraction 1 = .ok (.lstore 5, 2) := by decide +kernel
theorem dX10_fraction_3 : decode cX10_fraction 3 = .ok (.lload_n 3, 1) := by decide +kernel
theorem dX10_fraction_4 : decode cX10_fraction 4 = .ok (.lstore 7, 2) := by decide +kernel
theorem dX10_fraction_6 : decode cX10_fraction 6 = .ok (.lload 7, 2) := by decide +kernel
theorem dX10_fraction_8 : decode cX10_fraction 8 = .ok (.lconst 0, 1) := by decide +kernel
theorem dX10_fraction_9 : decode cX10_fraction 9 = .ok (.lcmp, 1) := by decide +kernel
theorem dX10_fraction_10 : decode cX10_fraction 10 = .ok (.ifCond .eq 21, 3) := by decide +kernel
theorem dX10_fraction_13 : decode cX10_fraction 13 = .ok (.lload 5, 2) := by decide +kernel
theorem dX10_fraction_15 : decode cX10_fraction 15 = .ok (.lload 7, 2) := by decide +kernel
theorem dX10_fraction_17 : decode cX10_fraction 17 = .ok (.lrem, 1) := by decide +kernel
theorem dX10_fraction_18 : decode cX10_fraction 18 = .ok (.lstore 9, 2) := by decide +kernel
theorem dX10_fraction_20 : decode cX10_fraction 20 = .ok (.lload 7, 2) := by decide +kernel
theorem dX10_fraction_22 : decode cX10_fraction 22 = .ok (.lstore 5, 2) := by decide +kernel
theorem dX10_fraction_24 : decode cX10_fraction 24 = .ok (.lload 9, 2) := by decide +kernel
theorem dX10_fraction_26 : decode cX10_fraction 26 = .ok (.lstore 7, 2) := by decide +kernel
theorem dX10_fraction_28 : decode cX10_fraction 28 = .ok (.goto (-22), 3) := by decide +kernel
theorem dX10_fraction_31 : decode cX10_fraction 31 = .ok (.aload_n 0, 1) := by decide +kernel
theorem dX10_fraction_32 : decode cX10_fraction 32 = .ok (.lload_n 1, 1) := by decide +kernel
theorem dX10_fraction_33 : decode cX10_fraction 33 = .ok (.lload 5, 2) := by decide +kernel
theorem dX10_fraction_35 : decode cX10_fraction 35 = .ok (.ldiv, 1) := by decide +kernel
theorem dX10_fraction_36 : decode cX10_fraction 36 = .ok (.putfield 201, 3) := by decide +kernel
theorem dX10_fraction_39 : decode cX10_fraction 39 = .ok (.aload_n 0, 1) := by decide +kernel
theorem dX10_fraction_40 : decode cX10_fraction 40 = .ok (.lload_n 3, 1) := by decide +kernel
theorem dX10_fraction_41 : decode cX10_fraction 41 = .ok (.lload 5, 2) := by decide +kernel
theorem dX10_fraction_43 : decode cX10_fraction 43 = .ok (.ldiv, 1) := by decide +kernel
theorem dX10_fraction_44 : decode cX10_fraction 44 = .ok (.putfield 23, 3) := by decide +kernel
theorem dX10_fraction_47 : decode cX10_fraction 47 = .ok (.return_, 1) := by decide +kernel
theorem dX10_counts_0 : decode cX10_counts 0 = .ok (.iload_n 1, 1) := by decide +kernel
theorem dX10_counts_1 : decode cX10_counts 1 = .ok (.i2l, 1) := by decide +kernel
theorem dX10_counts_2 : decode cX10_counts 2 = .ok (.lconst 0, 1) := by decide +kernel
theorem dX10_counts_3 : decode cX10_counts 3 = .ok (.ldc2_w 174, 3) := by decide +kernel
theorem dX10_counts_6 : decode cX10_counts 6 = .ok (.invokestatic 68, 3) := by decide +kernel
theorem dX10_counts_9 : decode cX10_counts 9 = .ok (.ifCond .eq 27, 3) := by decide +kernel
theorem dX10_counts_12 : decode cX10_counts 12 = .ok (.iload_n 2, 1) := by decide +kernel
theorem dX10_counts_13 : decode cX10_counts 13 = .ok (.i2l, 1) := by decide +kernel
theorem dX10_counts_14 : decode cX10_counts 14 = .ok (.lconst 0, 1) := by decide +kernel
theorem dX10_counts_15 : decode cX10_counts 15 = .ok (.ldc2_w 174, 3) := by decide +kernel
theorem dX10_counts_18 : decode cX10_counts 18 = .ok (.invokestatic 68, 3) := by decide +kernel
theorem dX10_counts_21 : decode cX10_counts 21 = .ok (.ifCond .eq 15, 3) := by decide +kernel
theorem dX10_counts_24 : decode cX10_counts 24 = .ok (.iload_n 3, 1) := by decide +kernel
theorem dX10_counts_25 : decode cX10_counts 25 = .ok (.i2l, 1) := by decide +kernel
theorem dX10_counts_26 : decode cX10_counts 26 = .ok (.lconst 0, 1) := by decide +kernel
theorem dX10_counts_27 : decode cX10_counts 27 = .ok (.ldc2_w 204, 3) := by decide +kernel
theorem dX10_counts_30 : decode cX10_counts 30 = .ok (.invokestatic 68, 3) := by decide +kernel
theorem dX10_counts_33 : decode cX10_counts 33 = .ok (.ifCond .ne 10, 3) := by decide +kernel
theorem dX10_counts_36 : decode cX10_counts 36 = .ok (.aload_n 0, 1) := by decide +kernel
theorem dX10_counts_37 : decode cX10_counts 37 = .ok (.bipush (-2), 2) := by decide +kernel
theorem dX10_counts_39 : decode cX10_counts 39 = .ok (.invokevirtual 84, 3) := by decide +kernel
theorem dX10_counts_42 : decode cX10_counts 42 = .ok (.ireturn, 1) := by decide +kernel
theorem dX10_counts_43 : decode cX10_counts 43 = .ok (.lconst 0, 1) := by decide +kernel
theorem dX10_counts_44 : decode cX10_counts 44 = .ok (.lstore 4, 2) := by decide +kernel
theorem dX10_counts_46 : decode cX10_counts 46 = .ok (.lconst 1, 1) := by decide +kernel
theorem dX10_counts_47 : decode cX10_counts 47 = .ok (.lstore 6, 2) := by decide +kernel
theorem dX10_counts_49 : decode cX10_counts 49 = .ok (.iconst 0, 1) := by decide +kernel
theorem dX10_counts_50 : decode cX10_counts 50 = .ok (.istore 8, 2) := by decide +kernel
theorem dX10_counts_52 : decode cX10_counts 52 = .ok (.iload 8, 2) := by decide +kernel
theorem dX10_counts_54 : decode cX10_counts 54 = .ok (.iload_n 1, 1) := by decide +kernel
theorem dX10_counts_55 : decode cX10_counts 55 = .ok (.if_icmp .ge 17, 3) := by decide +kernel
theorem dX10_counts_58 : decode cX10_counts 58 = .ok (.lload 6, 2) := by decide +kernel
theorem dX10_counts_60 : decode cX10_counts 60 = .ok (.ldc2_w 204, 3) := by decide +kernel
theorem dX10_counts_63 : decode cX10_counts 63 = .ok (.lmul, 1) := by decide +kernel
theorem dX10_counts_64 : decode cX10_counts 64 = .ok (.lstore 6, 2) := by decide +kernel
theorem dX10_counts_66 : decode cX10_counts 66 = .ok (.iinc 8 1, 3) := by decide +kernel
theorem dX10_counts_69 : decode cX10_counts 69 = .ok (.goto (-17), 3) := by decide +kernel
theorem dX10_counts_72 : decode cX10_counts 72 = .ok (.iconst 0, 1) := by decide +kernel
theorem dX10_counts_73 : decode cX10_counts 73 = .ok (.istore 8, 2) := by decide +kernel
theorem dX10_counts_75 : decode cX10_counts 75 = .ok (.iload 8, 2) := by decide +kernel
theorem dX10_counts_77 : decode cX10_counts 77 = .ok (.iconst 1, 1) := by decide +kernel
theorem dX10_counts_78 : decode cX10_counts 78 = .ok (.iload_n 1, 1) := by decide +kernel
theorem dX10_counts_79 : decode cX10_counts 79 = .ok (.ishl, 1) := by decide +kernel
theorem dX10_counts_80 : decode cX10_counts 80 = .ok (.if_icmp .ge 72, 3) := by decide +kernel
theorem dX10_counts_83 : decode cX10_counts 83 = .ok (.iload 8, 2) := by decide +kernel
theorem dX10_counts_85 : decode cX10_counts 85 = .ok (.invokestatic 206, 3) := by decide +kernel
theorem dX10_counts_88 : decode cX10_counts 88 = .ok (.iload_n 2, 1) := by decide +kernel
theorem dX10_counts_89 : decode cX10_counts 89 = .ok (.if_icmp .lt 7, 3) := by decide +kernel
theorem dX10_counts_92 : decode cX10_counts 92 = .ok (.lconst 1, 1) := by decide +kernel
theorem dX10_counts_93 : decode cX10_counts 93 = .ok (.goto 4, 3) := by decide +kernel
theorem dX10_counts_96 : decode cX10_counts 96 = .ok (.lconst 0, 1) := by decide +kernel
theorem dX10_counts_97 : decode cX10_counts 97 = .ok (.lstore 9, 2) := by decide +kernel
theorem dX10_counts_99 : decode cX10_counts 99 = .ok (.iconst 0, 1) := by decide +kernel
theorem dX10_counts_100 : decode cX10_counts 100 = .ok (.istore 11, 2) := by decide +kernel
theorem dX10_counts_102 : decode cX10_counts 102 = .ok (.iload 11, 2) := by decide +kernel
theorem dX10_counts_104 : decode cX10_counts 104 = .ok (.iload_n 1, 1) := by decide +kernel
theorem dX10_counts_105 : decode cX10_counts 105 = .ok (.if_icmp .ge 34, 3) := by decide +kernel
theorem dX10_counts_108 : decode cX10_counts 108 = .ok (.lload 9, 2) := by decide +kernel
theorem dX10_counts_110 : decode cX10_counts 110 = .ok (.iload 8, 2) := by decide +kernel
theorem dX10_counts_112 : decode cX10_counts 112 = .ok (.iload 11, 2) := by decide +kernel
theorem dX10_counts_114 : decode cX10_counts 114 = .ok (.invokestatic 74, 3) := by decide +kernel
theorem dX10_counts_117 : decode cX10_counts 117 = .ok (.ifCond .eq 11, 3) := by decide +kernel
theorem dX10_counts_120 : decode cX10_counts 120 = .ok (.bipush 10, 2) := by decide +kernel
theorem dX10_counts_122 : decode cX10_counts 122 = .ok (.iload_n 3, 1) := by decide +kernel
theorem dX10_counts_123 : decode cX10_counts 123 = .ok (.isub, 1) := by decide +kernel
theorem dX10_counts_124 : decode cX10_counts 124 = .ok (.i2l, 1) := by decide +kernel
theorem dX10_counts_125 : decode cX10_counts 125 = .ok (.goto 5, 3) := by decide +kernel
theorem dX10_counts_128 : decode cX10_counts 128 = .ok (.iload_n 3, 1) := by decide +kernel
theorem dX10_counts_129 : decode cX10_counts 129 = .ok (.i2l, 1) := by decide +kernel
theorem dX10_counts_130 : decode cX10_counts 130 = .ok (.lmul, 1) := by decide +kernel
theorem dX10_counts_131 : decode cX10_counts 131 = .ok (.lstore 9, 2) := by decide +kernel
theorem dX10_counts_133 : decode cX10_counts 133 = .ok (.iinc 11 1, 3) := by decide +kernel
theorem dX10_counts_136 : decode cX10_counts 136 = .ok (.goto (-34), 3) := by decide +kernel
theorem dX10_counts_139 : decode cX10_counts 139 = .ok (.lload 4, 2) := by decide +kernel
theorem dX10_counts_141 : decode cX10_counts 141 = .ok (.lload 9, 2) := by decide +kernel
theorem dX10_counts_143 : decode cX10_counts 143 = .ok (.ladd, 1) := by decide +kernel
theorem dX10_counts_144 : decode cX10_counts 144 = .ok (.lstore 4, 2) := by decide +kernel
theorem dX10_counts_146 : decode cX10_counts 146 = .ok (.iinc 8 1, 3) := by decide +kernel
theorem dX10_counts_149 : decode cX10_counts 149 = .ok (.goto (-74), 3) := by decide +kernel
theorem dX10_counts_152 : decode cX10_counts 152 = .ok (.aload_n 0, 1) := by decide +kernel
theorem dX10_counts_153 : decode cX10_counts 153 = .ok (.lload 4, 2) := by decide +kernel
theorem dX10_counts_155 : decode cX10_counts 155 = .ok (.lload 6, 2) := by decide +kernel
theorem dX10_counts_157 : decode cX10_counts 157 = .ok (.invokevirtual 209, 3) := by decide +kernel
theorem dX10_counts_160 : decode cX10_counts 160 = .ok (.iconst 1, 1) := by decide +kernel
theorem dX10_counts_161 : decode cX10_counts 161 = .ok (.ireturn, 1) := by decide +kernel
theorem dX10_goMinute_0 : decode cX10_goMinute 0 = .ok (.iconst 0, 1) := by decide +kernel
theorem dX10_goMinute_1 : decode cX10_goMinute 1 = .ok (.istore_n 1, 1) := by decide +kernel
theorem dX10_goMinute_2 : decode cX10_goMinute 2 = .ok (.iconst 0, 1) := by decide +kernel
theorem dX10_goMinute_3 : decode cX10_goMinute 3 = .ok (.istore_n 2, 1) := by decide +kernel
theorem dX10_goMinute_4 : decode cX10_goMinute 4 = .ok (.iload_n 2, 1) := by decide +kernel
theorem dX10_goMinute_5 : decode cX10_goMinute 5 = .ok (.aload_n 0, 1) := by decide +kernel
theorem dX10_goMinute_6 : decode cX10_goMinute 6 = .ok (.invokevirtual 64, 3) := by decide +kernel
theorem dX10_goMinute_9 : decode cX10_goMinute 9 = .ok (.if_icmp .ge 53, 3) := by decide +kernel
theorem dX10_goMinute_12 : decode cX10_goMinute 12 = .ok (.aload_n 0, 1) := by decide +kernel
theorem dX10_goMinute_13 : decode cX10_goMinute 13 = .ok (.iload_n 2, 1) := by decide +kernel
theorem dX10_goMinute_14 : decode cX10_goMinute 14 = .ok (.aload_n 0, 1) := by decide +kernel
theorem dX10_goMinute_15 : decode cX10_goMinute 15 = .ok (.getfield 27, 3) := by decide +kernel
theorem dX10_goMinute_18 : decode cX10_goMinute 18 = .ok (.iload_n 2, 1) := by decide +kernel
theorem dX10_goMinute_19 : decode cX10_goMinute 19 = .ok (.iaload, 1) := by decide +kernel
theorem dX10_goMinute_20 : decode cX10_goMinute 20 = .ok (.invokevirtual 143, 3) := by decide +kernel
theorem dX10_goMinute_23 : decode cX10_goMinute 23 = .ok (.istore_n 3, 1) := by decide +kernel
theorem dX10_goMinute_24 : decode cX10_goMinute 24 = .ok (.aload_n 0, 1) := by decide +kernel
theorem dX10_goMinute_25 : decode cX10_goMinute 25 = .ok (.getfield 48, 3) := by decide +kernel
theorem dX10_goMinute_28 : decode cX10_goMinute 28 = .ok (.iload_n 2, 1) := by decide +kernel
theorem dX10_goMinute_29 : decode cX10_goMinute 29 = .ok (.dup2, 1) := by decide +kernel
theorem dX10_goMinute_30 : decode cX10_goMinute 30 = .ok (.iaload, 1) := by decide +kernel
theorem dX10_goMinute_31 : decode cX10_goMinute 31 = .ok (.bipush 60, 2) := by decide +kernel
theorem dX10_goMinute_33 : decode cX10_goMinute 33 = .ok (.iadd, 1) := by decide +kernel
theorem dX10_goMinute_34 : decode cX10_goMinute 34 = .ok (.iastore, 1) := by decide +kernel
theorem dX10_goMinute_35 : decode cX10_goMinute 35 = .ok (.iload_n 1, 1) := by decide +kernel
theorem dX10_goMinute_36 : decode cX10_goMinute 36 = .ok (.aload_n 0, 1) := by decide +kernel
theorem dX10_goMinute_37 : decode cX10_goMinute 37 = .ok (.getfield 48, 3) := by decide +kernel
theorem dX10_goMinute_40 : decode cX10_goMinute 40 = .ok (.iload_n 2, 1) := by decide +kernel
theorem dX10_goMinute_41 : decode cX10_goMinute 41 = .ok (.iaload, 1) := by decide +kernel
theorem dX10_goMinute_42 : decode cX10_goMinute 42 = .ok (.iload_n 3, 1) := by decide +kernel
theorem dX10_goMinute_43 : decode cX10_goMinute 43 = .ok (.idiv, 1) := by decide +kernel
theorem dX10_goMinute_44 : decode cX10_goMinute 44 = .ok (.iadd, 1) := by decide +kernel
theorem dX10_goMinute_45 : decode cX10_goMinute 45 = .ok (.istore_n 1, 1) := by decide +kernel
theorem dX10_goMinute_46 : decode cX10_goMinute 46 = .ok (.aload_n 0, 1) := by decide +kernel
theorem dX10_goMinute_47 : decode cX10_goMinute 47 = .ok (.getfield 48, 3) := by decide +kernel
theorem dX10_goMinute_50 : decode cX10_goMinute 50 = .ok (.iload_n 2, 1) := by decide +kernel
theorem dX10_goMinute_51 : decode cX10_goMinute 51 = .ok (.dup2, 1) := by decide +kernel
theorem dX10_goMinute_52 : decode cX10_goMinute 52 = .ok (.iaload, 1) := by decide +kernel
theorem dX10_goMinute_53 : decode cX10_goMinute 53 = .ok (.iload_n 3, 1) := by decide +kernel
theorem dX10_goMinute_54 : decode cX10_goMinute 54 = .ok (.irem, 1) := by decide +kernel
theorem dX10_goMinute_55 : decode cX10_goMinute 55 = .ok (.iastore, 1) := by decide +kernel
theorem dX10_goMinute_56 : decode cX10_goMinute 56 = .ok (.iinc 2 1, 3) := by decide +kernel
theorem dX10_goMinute_59 : decode cX10_goMinute 59 = .ok (.goto (-55), 3) := by decide +kernel
theorem dX10_goMinute_62 : decode cX10_goMinute 62 = .ok (.iload_n 1, 1) := by decide +kernel
theorem dX10_goMinute_63 : decode cX10_goMinute 63 = .ok (.ireturn, 1) := by decide +kernel
theorem dX10_mornings_0 : decode cX10_mornings 0 = .ok (.iload_n 1, 1) := by decide +kernel
theorem dX10_mornings_1 : decode cX10_mornings 1 = .ok (.i2l, 1) := by decide +kernel
theorem dX10_mornings_2 : decode cX10_mornings 2 = .ok (.lconst 0, 1) := by decide +kernel
theorem dX10_mornings_3 : decode cX10_mornings 3 = .ok (.ldc2_w 213, 3) := by decide +kernel
theorem dX10_mornings_6 : decode cX10_mornings 6 = .ok (.invokestatic 68, 3) := by decide +kernel
theorem dX10_mornings_9 : decode cX10_mornings 9 = .ok (.ifCond .eq 15, 3) := by decide +kernel
theorem dX10_mornings_12 : decode cX10_mornings 12 = .ok (.iload_n 2, 1) := by decide +kernel
theorem dX10_mornings_13 : decode cX10_mornings 13 = .ok (.i2l, 1) := by decide +kernel
theorem dX10_mornings_14 : decode cX10_mornings 14 = .ok (.lconst 0, 1) := by decide +kernel
theorem dX10_mornings_15 : decode cX10_mornings 15 = .ok (.ldc2_w 138, 3) := by decide +kernel
theorem dX10_mornings_18 : decode cX10_mornings 18 = .ok (.invokestatic 68, 3) := by decide +kernel
theorem dX10_mornings_21 : decode cX10_mornings 21 = .ok (.ifCond .ne 10, 3) := by decide +kernel
theorem dX10_mornings_24 : decode cX10_mornings 24 = .ok (.aload_n 0, 1) := by decide +kernel
theorem dX10_mornings_25 : decode cX10_mornings 25 = .ok (.bipush (-2), 2) := by decide +kernel
theorem dX10_mornings_27 : decode cX10_mornings 27 = .ok (.invokevirtual 84, 3) := by decide +kernel
theorem dX10_mornings_30 : decode cX10_mornings 30 = .ok (.ireturn, 1) := by decide +kernel
theorem dX10_mornings_31 : decode cX10_mornings 31 = .ok (.aload_n 0, 1) := by decide +kernel
theorem dX10_mornings_32 : decode cX10_mornings 32 = .ok (.invokevirtual 64, 3) := by decide +kernel
theorem dX10_mornings_35 : decode cX10_mornings 35 = .ok (.ifCond .ne 8, 3) := by decide +kernel
theorem dX10_mornings_38 : decode cX10_mornings 38 = .ok (.aload_n 0, 1) := by decide +kernel
theorem dX10_mornings_39 : decode cX10_mornings 39 = .ok (.invokevirtual 92, 3) := by decide +kernel
theorem dX10_mornings_42 : decode cX10_mornings 42 = .ok (.ireturn, 1) := by decide +kernel
theorem dX10_mornings_43 : decode cX10_mornings 43 = .ok (.iload_n 1, 1) := by decide +kernel
theorem dX10_mornings_44 : decode cX10_mornings 44 = .ok (.i2l, 1) := by decide +kernel
theorem dX10_mornings_45 : decode cX10_mornings 45 = .ok (.lstore_n 3, 1) := by decide +kernel
theorem dX10_mornings_46 : decode cX10_mornings 46 = .ok (.iconst 0, 1) := by decide +kernel
theorem dX10_mornings_47 : decode cX10_mornings 47 = .ok (.istore 5, 2) := by decide +kernel
theorem dX10_mornings_49 : decode cX10_mornings 49 = .ok (.aload_n 0, 1) := by decide +kernel
theorem dX10_mornings_50 : decode cX10_mornings 50 = .ok (.invokevirtual 140, 3) := by decide +kernel
theorem dX10_mornings_53 : decode cX10_mornings 53 = .ok (.iconst 0, 1) := by decide +kernel
theorem dX10_mornings_54 : decode cX10_mornings 54 = .ok (.istore 6, 2) := by decide +kernel
theorem dX10_mornings_56 : decode cX10_mornings 56 = .ok (.iload 6, 2) := by decide +kernel
theorem dX10_mornings_58 : decode cX10_mornings 58 = .ok (.aload_n 0, 1) := by decide +kernel
theorem dX10_mornings_59 : decode cX10_mornings 59 = .ok (.invokevirtual 64, 3) := by decide +kernel
theorem dX10_mornings_62 : decode cX10_mornings 62 = .ok (.if_icmp .ge 26, 3) := by decide +kernel
theorem dX10_mornings_65 : decode cX10_mornings 65 = .ok (.aload_n 0, 1) := by decide +kernel
theorem dX10_mornings_66 : decode cX10_mornings 66 = .ok (.getfield 48, 3) := by decide +kernel
theorem dX10_mornings_69 : decode cX10_mornings 69 = .ok (.iload 6, 2) := by decide +kernel
theorem dX10_mornings_71 : decode cX10_mornings 71 = .ok (.aload_n 0, 1) := by decide +kernel
theorem dX10_mornings_72 : decode cX10_mornings 72 = .ok (.getfield 7, 3) := by decide +kernel
theorem dX10_mornings_75 : decode cX10_mornings 75 = .ok (.bipush 23, 2) := by decide +kernel
theorem dX10_mornings_77 : decode cX10_mornings 77 = .ok (.iload 6, 2) := by decide +kernel
theorem dX10_mornings_79 : decode cX10_mornings 79 = .ok (.iadd, 1) := by decide +kernel
theorem dX10_mornings_80 : decode cX10_mornings 80 = .ok (.iaload, 1) := by decide +kernel
theorem dX10_mornings_81 : decode cX10_mornings 81 = .ok (.iastore, 1) := by decide +kernel
theorem dX10_mornings_82 : decode cX10_mornings 82 = .ok (.iinc 6 1, 3) := by decide +kernel
theorem dX10_mornings_85 : decode cX10_mornings 85 = .ok (.goto (-29), 3) := by decide +kernel
theorem dX10_mornings_88 : decode cX10_mornings 88 = .ok (.iconst 0, 1) := by decide +kernel
theorem dX10_mornings_89 : decode cX10_mornings 89 = .ok (.istore 6, 2) := by decide +kernel
theorem dX10_mornings_91 : decode cX10_mornings 91 = .ok (.iload 6, 2) := by decide +kernel
theorem dX10_mornings_93 : decode cX10_mornings 93 = .ok (.iload_n 2, 1) := by decide +kernel
theorem dX10_mornings_94 : decode cX10_mornings 94 = .ok (.if_icmp .ge 119, 3) := by decide +kernel
theorem dX10_mornings_97 : decode cX10_mornings 97 = .ok (.lload_n 3, 1) := by decide +kernel
theorem dX10_mornings_98 : decode cX10_mornings 98 = .ok (.ldc2_w 215, 3) := by decide +kernel
theorem dX10_mornings_101 : decode cX10_mornings 101 = .ok (.lmul, 1) := by decide +kernel
theorem dX10_mornings_102 : decode cX10_mornings 102 = .ok (.ldc2_w 217, 3) := by decide +kernel
theorem dX10_mornings_105 : decode cX10_mornings 105 = .ok (.ladd, 1) := by decide +kernel
theorem dX10_mornings_106 : decode cX10_mornings 106 = .ok (.ldc2_w 219, 3) := by decide +kernel
theorem dX10_mornings_109 : decode cX10_mornings 109 = .ok (.lrem, 1) := by decide +kernel
theorem dX10_mornings_110 : decode cX10_mornings 110 = .ok (.lstore_n 3, 1) := by decide +kernel
theorem dX10_mornings_111 : decode cX10_mornings 111 = .ok (.lload_n 3, 1) := by decide +kernel
theorem dX10_mornings_112 : decode cX10_mornings 112 = .ok (.ldc2_w 221, 3) := by decide +kernel
theorem dX10_mornings_115 : decode cX10_mornings 115 = .ok (.ldiv, 1) := by decide +kernel
theorem dX10_mornings_116 : decode cX10_mornings 116 = .ok (.aload_n 0, 1) := by decide +kernel
theorem dX10_mornings_117 : decode cX10_mornings 117 = .ok (.invokevirtual 64, 3) := by decide +kernel
theorem dX10_mornings_120 : decode cX10_mornings 120 = .ok (.i2l, 1) := by decide +kernel
theorem dX10_mornings_121 : decode cX10_mornings 121 = .ok (.lrem, 1) := by decide +kernel
theorem dX10_mornings_122 : decode cX10_mornings 122 = .ok (.l2i, 1) := by decide +kernel
theorem dX10_mornings_123 : decode cX10_mornings 123 = .ok (.istore 7, 2) := by decide +kernel
theorem dX10_mornings_125 : decode cX10_mornings 125 = .ok (.lload_n 3, 1) := by decide +kernel
theorem dX10_mornings_126 : decode cX10_mornings 126 = .ok (.ldc2_w 215, 3) := by decide +kernel
theorem dX10_mornings_129 : decode cX10_mornings 129 = .ok (.lmul, 1) := by decide +kernel
theorem dX10_mornings_130 : decode cX10_mornings 130 = .ok (.ldc2_w 217, 3) := by decide +kernel
theorem dX10_mornings_133 : decode cX10_mornings 133 = .ok (.ladd, 1) := by decide +kernel
theorem dX10_mornings_134 : decode cX10_mornings 134 = .ok (.ldc2_w 219, 3) := by decide +kernel
theorem dX10_mornings_137 : decode cX10_mornings 137 = .ok (.lrem, 1) := by decide +kernel
theorem dX10_mornings_138 : decode cX10_mornings 138 = .ok (.lstore_n 3, 1) := by decide +kernel
theorem dX10_mornings_139 : decode cX10_mornings 139 = .ok (.lload_n 3, 1) := by decide +kernel
theorem dX10_mornings_140 : decode cX10_mornings 140 = .ok (.ldc2_w 221, 3) := by decide +kernel
theorem dX10_mornings_143 : decode cX10_mornings 143 = .ok (.ldiv, 1) := by decide +kernel
theorem dX10_mornings_144 : decode cX10_mornings 144 = .ok (.ldc2_w 223, 3) := by decide +kernel
theorem dX10_mornings_147 : decode cX10_mornings 147 = .ok (.lrem, 1) := by decide +kernel
theorem dX10_mornings_148 : decode cX10_mornings 148 = .ok (.l2i, 1) := by decide +kernel
theorem dX10_mornings_149 : decode cX10_mornings 149 = .ok (.istore 8, 2) := by decide +kernel
theorem dX10_mornings_151 : decode cX10_mornings 151 = .ok (.aload_n 0, 1) := by decide +kernel
theorem dX10_mornings_152 : decode cX10_mornings 152 = .ok (.getfield 27, 3) := by decide +kernel
theorem dX10_mornings_155 : decode cX10_mornings 155 = .ok (.iload 7, 2) := by decide +kernel
theorem dX10_mornings_157 : decode cX10_mornings 157 = .ok (.aload_n 0, 1) := by decide +kernel
theorem dX10_mornings_158 : decode cX10_mornings 158 = .ok (.iload 8, 2) := by decide +kernel
theorem dX10_mornings_160 : decode cX10_mornings 160 = .ok (.invokevirtual 101, 3) := by decide +kernel
theorem dX10_mornings_163 : decode cX10_mornings 163 = .ok (.ifCond .eq 8, 3) := by decide +kernel
theorem dX10_mornings_166 : decode cX10_mornings 166 = .ok (.iload 8, 2) := by decide +kernel
theorem dX10_mornings_168 : decode cX10_mornings 168 = .ok (.goto 10, 3) := by decide +kernel
theorem dX10_mornings_171 : decode cX10_mornings 171 = .ok (.aload_n 0, 1) := by decide +kernel
theorem dX10_mornings_172 : decode cX10_mornings 172 = .ok (.getfield 27, 3) := by decide +kernel
theorem dX10_mornings_175 : decode cX10_mornings 175 = .ok (.iload 7, 2) := by decide +kernel
theorem dX10_mornings_177 : decode cX10_mornings 177 = .ok (.iaload, 1) := by decide +kernel
theorem dX10_mornings_178 : decode cX10_mornings 178 = .ok (.iastore, 1) := by decide +kernel
theorem dX10_mornings_179 : decode cX10_mornings 179 = .ok (.iload 5, 2) := by decide +kernel
theorem dX10_mornings_181 : decode cX10_mornings 181 = .ok (.aload_n 0, 1) := by decide +kernel
theorem dX10_mornings_182 : decode cX10_mornings 182 = .ok (.getfield 7, 3) := by decide +kernel
theorem dX10_mornings_185 : decode cX10_mornings 185 = .ok (.iconst 1, 1) := by decide +kernel
theorem dX10_mornings_186 : decode cX10_mornings 186 = .ok (.iaload, 1) := by decide +kernel
theorem dX10_mornings_187 : decode cX10_mornings 187 = .ok (.iload 6, 2) := by decide +kernel
theorem dX10_mornings_189 : decode cX10_mornings 189 = .ok (.iadd, 1) := by decide +kernel
theorem dX10_mornings_190 : decode cX10_mornings 190 = .ok (.sipush 999, 3) := by decide +kernel
theorem dX10_mornings_193 : decode cX10_mornings 193 = .ok (.if_icmp .ge 10, 3) := by decide +kernel
theorem dX10_mornings_196 : decode cX10_mornings 196 = .ok (.aload_n 0, 1) := by decide +kernel
theorem dX10_mornings_197 : decode cX10_mornings 197 = .ok (.invokevirtual 225, 3) := by decide +kernel
theorem dX10_mornings_200 : decode cX10_mornings 200 = .ok (.goto 4, 3) := by decide +kernel
theorem dX10_mornings_203 : decode cX10_mornings 203 = .ok (.iconst 0, 1) := by decide +kernel
theorem dX10_mornings_204 : decode cX10_mornings 204 = .ok (.iadd, 1) := by decide +kernel
theorem dX10_mornings_205 : decode cX10_mornings 205 = .ok (.istore 5, 2) := by decide +kernel
theorem dX10_mornings_207 : decode cX10_mornings 207 = .ok (.iinc 6 1, 3) := by decide +kernel
theorem dX10_mornings_210 : decode cX10_mornings 210 = .ok (.goto (-119), 3) := by decide +kernel
theorem dX10_mornings_213 : decode cX10_mornings 213 = .ok (.iload 5, 2) := by decide +kernel
theorem dX10_mornings_215 : decode cX10_mornings 215 = .ok (.ireturn, 1) := by decide +kernel
theorem dX10_type_0 : decode cX10_type 0 = .ok (.iload_n 1, 1) := by decide +kernel
theorem dX10_type_1 : decode cX10_type 1 = .ok (.i2l, 1) := by decide +kernel
theorem dX10_type_2 : decode cX10_type 2 = .ok (.lconst 0, 1) := by decide +kernel
theorem dX10_type_3 : decode cX10_type 3 = .ok (.ldc2_w 228, 3) := by decide +kernel
theorem dX10_type_6 : decode cX10_type 6 = .ok (.invokestatic 68, 3) := by decide +kernel
theorem dX10_type_9 : decode cX10_type 9 = .ok (.ifCond .ne 10, 3) := by decide +kernel
theorem dX10_type_12 : decode cX10_type 12 = .ok (.aload_n 0, 1) := by decide +kernel
theorem dX10_type_13 : decode cX10_type 13 = .ok (.bipush (-2), 2) := by decide +kernel
theorem dX10_type_15 : decode cX10_type 15 = .ok (.invokevirtual 84, 3) := by decide +kernel
theorem dX10_type_18 : decode cX10_type 18 = .ok (.ireturn, 1) := by decide +kernel
theorem dX10_type_19 : decode cX10_type 19 = .ok (.aload_n 0, 1) := by decide +kernel
theorem dX10_type_20 : decode cX10_type 20 = .ok (.getfield 230, 3) := by decide +kernel
theorem dX10_type_23 : decode cX10_type 23 = .ok (.sipush 150, 3) := by decide +kernel
theorem dX10_type_26 : decode cX10_type 26 = .ok (.if_icmp .ne 8, 3) := by decide +kernel
theorem dX10_type_29 : decode cX10_type 29 = .ok (.aload_n 0, 1) := by decide +kernel
theorem dX10_type_30 : decode cX10_type 30 = .ok (.invokevirtual 104, 3) := by decide +kernel
theorem dX10_type_33 : decode cX10_type 33 = .ok (.ireturn, 1) := by decide +kernel
theorem dX10_type_34 : decode cX10_type 34 = .ok (.aload_n 0, 1) := by decide +kernel
theorem dX10_type_35 : decode cX10_type 35 = .ok (.getfield 51, 3) := by decide +kernel
theorem dX10_type_38 : decode cX10_type 38 = .ok (.aload_n 0, 1) := by decide +kernel
theorem dX10_type_39 : decode cX10_type 39 = .ok (.getfield 230, 3) := by decide +kernel
theorem dX10_type_42 : decode cX10_type 42 = .ok (.iload_n 1, 1) := by decide +kernel
theorem dX10_type_43 : decode cX10_type 43 = .ok (.iastore, 1) := by decide +kernel
theorem dX10_type_44 : decode cX10_type 44 = .ok (.aload_n 0, 1) := by decide +kernel
theorem dX10_type_45 : decode cX10_type 45 = .ok (.dup, 1) := by decide +kernel
theorem dX10_type_46 : decode cX10_type 46 = .ok (.getfield 230, 3) := by decide +kernel
theorem dX10_type_49 : decode cX10_type 49 = .ok (.iconst 1, 1) := by decide +kernel
theorem dX10_type_50 : decode cX10_type 50 = .ok (.iadd, 1) := by decide +kernel
theorem dX10_type_51 : decode cX10_type 51 = .ok (.putfield 230, 3) := by decide +kernel
theorem dX10_type_54 : decode cX10_type 54 = .ok (.aload_n 0, 1) := by decide +kernel
theorem dX10_type_55 : decode cX10_type 55 = .ok (.getfield 230, 3) := by decide +kernel
theorem dX10_type_58 : decode cX10_type 58 = .ok (.ireturn, 1) := by decide +kernel
theorem dX10_clear_0 : decode cX10_clear 0 = .ok (.aload_n 0, 1) := by decide +kernel
theorem dX10_clear_1 : decode cX10_clear 1 = .ok (.getfield 230, 3) := by decide +kernel
theorem dX10_clear_4 : decode cX10_clear 4 = .ok (.istore_n 1, 1) := by decide +kernel
theorem dX10_clear_5 : decode cX10_clear 5 = .ok (.aload_n 0, 1) := by decide +kernel
theorem dX10_clear_6 : decode cX10_clear 6 = .ok (.iconst 0, 1) := by decide +kernel
theorem dX10_clear_7 : decode cX10_clear 7 = .ok (.putfield 230, 3) := by decide +kernel
theorem dX10_clear_10 : decode cX10_clear 10 = .ok (.iload_n 1, 1) := by decide +kernel
theorem dX10_clear_11 : decode cX10_clear 11 = .ok (.ireturn, 1) := by decide +kernel
theorem dX10_isSmall_0 : decode cX10_isSmall 0 = .ok (.iload_n 0, 1) := by decide +kernel
theorem dX10_isSmall_1 : decode cX10_isSmall 1 = .ok (.i2l, 1) := by decide +kernel
theorem dX10_isSmall_2 : decode cX10_isSmall 2 = .ok (.ldc2_w 233, 3) := by decide +kernel
theorem dX10_isSmall_5 : decode cX10_isSmall 5 = .ok (.ldc2_w 235, 3) := by decide +kernel
theorem dX10_isSmall_8 : decode cX10_isSmall 8 = .ok (.invokestatic 68, 3) := by decide +kernel
theorem dX10_isSmall_11 : decode cX10_isSmall 11 = .ok (.ireturn, 1) := by decide +kernel
theorem dX10_isFigure_0 : decode cX10_isFigure 0 = .ok (.iload_n 0, 1) := by decide +kernel
theorem dX10_isFigure_1 : decode cX10_isFigure 1 = .ok (.i2l, 1) := by decide +kernel
theorem dX10_isFigure_2 : decode cX10_isFigure 2 = .ok (.ldc2_w 237, 3) := by decide +kernel
theorem dX10_isFigure_5 : decode cX10_isFigure 5 = .ok (.ldc2_w 239, 3) := by decide +kernel
theorem dX10_isFigure_8 : decode cX10_isFigure 8 = .ok (.invokestatic 68, 3) := by decide +kernel
theorem dX10_isFigure_11 : decode cX10_isFigure 11 = .ok (.ireturn, 1) := by decide +kernel
theorem dX10_lookAt_0 : decode cX10_lookAt 0 = .ok (.aload_n 0, 1) := by decide +kernel
theorem dX10_lookAt_1 : decode cX10_lookAt 1 = .ok (.iload_n 1, 1) := by decide +kernel
theorem dX10_lookAt_2 : decode cX10_lookAt 2 = .ok (.putfield 241, 3) := by decide +kernel
theorem dX10_lookAt_5 : decode cX10_lookAt 5 = .ok (.aload_n 0, 1) := by decide +kernel
theorem dX10_lookAt_6 : decode cX10_lookAt 6 = .ok (.getfield 241, 3) := by decide +kernel
theorem dX10_lookAt_9 : decode cX10_lookAt 9 = .ok (.aload_n 0, 1) := by decide +kernel
theorem dX10_lookAt_10 : decode cX10_lookAt 10 = .ok (.getfield 230, 3) := by decide +kernel
theorem dX10_lookAt_13 : decode cX10_lookAt 13 = .ok (.if_icmp .ge 30, 3) := by decide +kernel
theorem dX10_lookAt_16 : decode cX10_lookAt 16 = .ok (.aload_n 0, 1) := by decide +kernel
theorem dX10_lookAt_17 : decode cX10_lookAt 17 = .ok (.getfield 51, 3) := by decide +kernel
theorem dX10_lookAt_20 : decode cX10_lookAt 20 = .ok (.aload_n 0, 1) := by decide +kernel
theorem dX10_lookAt_21 : decode cX10_lookAt 21 = .ok (.getfield 241, 3) := by decide +kernel
theorem dX10_lookAt_24 : decode cX10_lookAt 24 = .ok (.iaload, 1) := by decide +kernel
theorem dX10_lookAt_25 : decode cX10_lookAt 25 = .ok (.bipush 32, 2) := by decide +kernel
theorem dX10_lookAt_27 : decode cX10_lookAt 27 = .ok (.if_icmp .ne 16, 3) := by decide +kernel
theorem dX10_lookAt_30 : decode cX10_lookAt 30 = .ok (.aload_n 0, 1) := by decide +kernel
theorem dX10_lookAt_31 : decode cX10_lookAt 31 = .ok (.dup, 1) := by decide +kernel
theorem dX10_lookAt_32 : decode cX10_lookAt 32 = .ok (.getfield 241, 3) := by decide +kernel
theorem dX10_lookAt_35 : decode cX10_lookAt 35 = .ok (.iconst 1, 1) := by decide +kernel
theorem dX10_lookAt_36 : decode cX10_lookAt 36 = .ok (.iadd, 1) := by decide +kernel
theorem dX10_lookAt_37 : decode cX10_lookAt 37 = .ok (.putfield 241, 3) := by decide +kernel
theorem dX10_lookAt_40 : decode cX10_lookAt 40 = .ok (.goto (-35), 3) := by decide +kernel
theorem dX10_lookAt_43 : decode cX10_lookAt 43 = .ok (.aload_n 0, 1) := by decide +kernel
theorem dX10_lookAt_44 : decode cX10_lookAt 44 = .ok (.iconst 0, 1) := by decide +kernel
theorem dX10_lookAt_45 : decode cX10_lookAt 45 = .ok (.putfield 244, 3) := by decide +kernel
theorem dX10_lookAt_48 : decode cX10_lookAt 48 = .ok (.aload_n 0, 1) := by decide +kernel
theorem dX10_lookAt_49 : decode cX10_lookAt 49 = .ok (.iconst 0, 1) := by decide +kernel
theorem dX10_lookAt_50 : decode cX10_lookAt 50 = .ok (.putfield 247, 3) := by decide +kernel
theorem dX10_lookAt_53 : decode cX10_lookAt 53 = .ok (.aload_n 0, 1) := by decide +kernel
theorem dX10_lookAt_54 : decode cX10_lookAt 54 = .ok (.iconst 0, 1) := by decide +kernel
theorem dX10_lookAt_55 : decode cX10_lookAt 55 = .ok (.putfield 250, 3) := by decide +kernel
theorem dX10_lookAt_58 : decode cX10_lookAt 58 = .ok (.aload_n 0, 1) := by decide +kernel
theorem dX10_lookAt_59 : decode cX10_lookAt 59 = .ok (.getfield 241, 3) := by decide +kernel
theorem dX10_lookAt_62 : decode cX10_lookAt 62 = .ok (.aload_n 0, 1) := by decide +kernel
theorem dX10_lookAt_63 : decode cX10_lookAt 63 = .ok (.getfield 230, 3) := by decide +kernel
theorem dX10_lookAt_66 : decode cX10_lookAt 66 = .ok (.if_icmp .ne 4, 3) := by decide +kernel
theorem dX10_lookAt_69 : decode cX10_lookAt 69 = .ok (.return_, 1) := by decide +kernel
theorem dX10_lookAt_70 : decode cX10_lookAt 70 = .ok (.aload_n 0, 1) := by decide +kernel
theorem dX10_lookAt_71 : decode cX10_lookAt 71 = .ok (.getfield 51, 3) := by decide +kernel
theorem dX10_lookAt_74 : decode cX10_lookAt 74 = .ok (.aload_n 0, 1) := by decide +kernel
theorem dX10_lookAt_75 : decode cX10_lookAt 75 = .ok (.getfield 241, 3) := by decide +kernel
theorem dX10_lookAt_78 : decode cX10_lookAt 78 = .ok (.iaload, 1) := by decide +kernel
theorem dX10_lookAt_79 : decode cX10_lookAt 79 = .ok (.istore_n 2, 1) := by decide +kernel
theorem dX10_lookAt_80 : decode cX10_lookAt 80 = .ok (.aload_n 0, 1) := by decide +kernel
theorem dX10_lookAt_81 : decode cX10_lookAt 81 = .ok (.iload_n 2, 1) := by decide +kernel
theorem dX10_lookAt_82 : decode cX10_lookAt 82 = .ok (.invokestatic 253, 3) := by decide +kernel
theorem dX10_lookAt_85 : decode cX10_lookAt 85 = .ok (.ifCond .eq 7, 3) := by decide +kernel
theorem dX10_lookAt_88 : decode cX10_lookAt 88 = .ok (.iconst 1, 1) := by decide +kernel
theorem dX10_lookAt_89 : decode cX10_lookAt 89 = .ok (.goto 25, 3) := by decide +kernel
theorem dX10_lookAt_92 : decode cX10_lookAt 92 = .ok (.iload_n 2, 1) := by decide +kernel
theorem dX10_lookAt_93 : decode cX10_lookAt 93 = .ok (.invokestatic 256, 3) := by decide +kernel
theorem dX10_lookAt_96 : decode cX10_lookAt 96 = .ok (.ifCond .eq 7, 3) := by decide +kernel
theorem dX10_lookAt_99 : decode cX10_lookAt 99 = .ok (.iconst 2, 1) := by decide +kernel
theorem dX10_lookAt_100 : decode cX10_lookAt 100 = .ok (.goto 14, 3) := by decide +kernel
theorem dX10_lookAt_103 : decode cX10_lookAt 103 = .ok (.iload_n 2, 1) := by decide +kernel
theorem dX10_lookAt_104 : decode cX10_lookAt 104 = .ok (.bipush 59, 2) := by decide +kernel
theorem dX10_lookAt_106 : decode cX10_lookAt 106 = .ok (.if_icmp .ne 7, 3) := by decide +kernel
theorem dX10_lookAt_109 : decode cX10_lookAt 109 = .ok (.iconst 3, 1) := by decide +kernel
theorem dX10_lookAt_110 : decode cX10_lookAt 110 = .ok (.goto 4, 3) := by decide +kernel
theorem dX10_lookAt_113 : decode cX10_lookAt 113 = .ok (.iconst 4, 1) := by decide +kernel
theorem dX10_lookAt_114 : decode cX10_lookAt 114 = .ok (.putfield 247, 3) := by decide +kernel
theorem dX10_lookAt_117 : decode cX10_lookAt 117 = .ok (.aload_n 0, 1) := by decide +kernel
theorem dX10_lookAt_118 : decode cX10_lookAt 118 = .ok (.iconst 1, 1) := by decide +kernel
theorem dX10_lookAt_119 : decode cX10_lookAt 119 = .ok (.putfield 244, 3) := by decide +kernel
theorem dX10_lookAt_122 : decode cX10_lookAt 122 = .ok (.aload_n 0, 1) := by decide +kernel
theorem dX10_lookAt_123 : decode cX10_lookAt 123 = .ok (.getfield 247, 3) := by decide +kernel
theorem dX10_lookAt_126 : decode cX10_lookAt 126 = .ok (.iconst 3, 1) := by decide +kernel
theorem dX10_lookAt_127 : decode cX10_lookAt 127 = .ok (.if_icmp .ge 7, 3) := by decide +kernel
theorem dX10_lookAt_130 : decode cX10_lookAt 130 = .ok (.iconst 1, 1) := by decide +kernel
theorem dX10_lookAt_131 : decode cX10_lookAt 131 = .ok (.goto 4, 3) := by decide +kernel
theorem dX10_lookAt_134 : decode cX10_lookAt 134 = .ok (.iconst 0, 1) := by decide +kernel
theorem dX10_lookAt_135 : decode cX10_lookAt 135 = .ok (.istore_n 3, 1) := by decide +kernel
theorem dX10_lookAt_136 : decode cX10_lookAt 136 = .ok (.iload_n 3, 1) := by decide +kernel
theorem dX10_lookAt_137 : decode cX10_lookAt 137 = .ok (.ifCond .eq 78, 3) := by decide +kernel
theorem dX10_lookAt_140 : decode cX10_lookAt 140 = .ok (.aload_n 0, 1) := by decide +kernel
theorem dX10_lookAt_141 : decode cX10_lookAt 141 = .ok (.getfield 241, 3) := by decide +kernel
theorem dX10_lookAt_144 : decode cX10_lookAt 144 = .ok (.aload_n 0, 1) := by decide +kernel
theorem dX10_lookAt_145 : decode cX10_lookAt 145 = .ok (.getfield 244, 3) := by decide +kernel
theorem dX10_lookAt_148 : decode cX10_lookAt 148 = .ok (.iadd, 1) := by decide +kernel
theorem dX10_lookAt_149 : decode cX10_lookAt 149 = .ok (.aload_n 0, 1) := by decide +kernel
theorem dX10_lookAt_150 : decode cX10_lookAt 150 = .ok (.getfield 230, 3) := by decide +kernel
theorem dX10_lookAt_153 : decode cX10_lookAt 153 = .ok (.if_icmp .ge 62, 3) := by decide +kernel
theorem dX10_lookAt_156 : decode cX10_lookAt 156 = .ok (.aload_n 0, 1) := by decide +kernel
theorem dX10_lookAt_157 : decode cX10_lookAt 157 = .ok (.getfield 51, 3) := by decide +kernel
theorem dX10_lookAt_160 : decode cX10_lookAt 160 = .ok (.aload_n 0, 1) := by decide +kernel
theorem dX10_lookAt_161 : decode cX10_lookAt 161 = .ok (.getfield 241, 3) := by decide +kernel
theorem dX10_lookAt_164 : decode cX10_lookAt 164 = .ok (.aload_n 0, 1) := by decide +kernel
theorem dX10_lookAt_165 : decode cX10_lookAt 165 = .ok (.getfield 244, 3) := by decide +kernel
theorem dX10_lookAt_168 : decode cX10_lookAt 168 = .ok (.iadd, 1) := by decide +kernel
theorem dX10_lookAt_169 : decode cX10_lookAt 169 = .ok (.iaload, 1) := by decide +kernel
theorem dX10_lookAt_170 : decode cX10_lookAt 170 = .ok (.istore 4, 2) := by decide +kernel
theorem dX10_lookAt_172 : decode cX10_lookAt 172 = .ok (.aload_n 0, 1) := by decide +kernel
theorem dX10_lookAt_173 : decode cX10_lookAt 173 = .ok (.getfield 247, 3) := by decide +kernel
theorem dX10_lookAt_176 : decode cX10_lookAt 176 = .ok (.iconst 1, 1) := by decide +kernel
theorem dX10_lookAt_177 : decode cX10_lookAt 177 = .ok (.if_icmp .ne 11, 3) := by decide +kernel
theorem dX10_lookAt_180 : decode cX10_lookAt 180 = .ok (.iload 4, 2) := by decide +kernel
theorem dX10_lookAt_182 : decode cX10_lookAt 182 = .ok (.invokestatic 253, 3) := by decide +kernel
theorem dX10_lookAt_185 : decode cX10_lookAt 185 = .ok (.goto 8, 3) := by decide +kernel
theorem dX10_lookAt_188 : decode cX10_lookAt 188 = .ok (.iload 4, 2) := by decide +kernel
theorem dX10_lookAt_190 : decode cX10_lookAt 190 = .ok (.invokestatic 256, 3) := by decide +kernel
theorem dX10_lookAt_193 : decode cX10_lookAt 193 = .ok (.istore_n 3, 1) := by decide +kernel
theorem dX10_lookAt_194 : decode cX10_lookAt 194 = .ok (.aload_n 0, 1) := by decide +kernel
theorem dX10_lookAt_195 : decode cX10_lookAt 195 = .ok (.dup, 1) := by decide +kernel
theorem dX10_lookAt_196 : decode cX10_lookAt 196 = .ok (.getfield 244, 3) := by decide +kernel
theorem dX10_lookAt_199 : decode cX10_lookAt 199 = .ok (.iload_n 3, 1) := by decide +kernel
theorem dX10_lookAt_200 : decode cX10_lookAt 200 = .ok (.ifCond .eq 7, 3) := by decide +kernel
theorem dX10_lookAt_203 : decode cX10_lookAt 203 = .ok (.iconst 1, 1) := by decide +kernel
theorem dX10_lookAt_204 : decode cX10_lookAt 204 = .ok (.goto 4, 3) := by decide +kernel
theorem dX10_lookAt_207 : decode cX10_lookAt 207 = .ok (.iconst 0, 1) := by decide +kernel
theorem dX10_lookAt_208 : decode cX10_lookAt 208 = .ok (.iadd, 1) := by decide +kernel
theorem dX10_lookAt_209 : decode cX10_lookAt 209 = .ok (.putfield 244, 3) := by decide +kernel
theorem dX10_lookAt_212 : decode cX10_lookAt 212 = .ok (.goto (-76), 3) := by decide +kernel
theorem dX10_lookAt_215 : decode cX10_lookAt 215 = .ok (.iconst 0, 1) := by decide +kernel
theorem dX10_lookAt_216 : decode cX10_lookAt 216 = .ok (.istore 4, 2) := by decide +kernel
theorem dX10_lookAt_218 : decode cX10_lookAt 218 = .ok (.iload 4, 2) := by decide +kernel
theorem dX10_lookAt_220 : decode cX10_lookAt 220 = .ok (.aload_n 0, 1) := by decide +kernel
theorem dX10_lookAt_221 : decode cX10_lookAt 221 = .ok (.getfield 244, 3) := by decide +kernel
theorem dX10_lookAt_224 : decode cX10_lookAt 224 = .ok (.if_icmp .ge 50, 3) := by decide +kernel
theorem dX10_lookAt_227 : decode cX10_lookAt 227 = .ok (.iload 4, 2) := by decide +kernel
theorem dX10_lookAt_229 : decode cX10_lookAt 229 = .ok (.iconst 2, 1) := by decide +kernel
theorem dX10_lookAt_230 : decode cX10_lookAt 230 = .ok (.if_icmp .ge 44, 3) := by decide +kernel
theorem dX10_lookAt_233 : decode cX10_lookAt 233 = .ok (.aload_n 0, 1) := by decide +kernel
theorem dX10_lookAt_234 : decode cX10_lookAt 234 = .ok (.getfield 247, 3) := by decide +kernel
theorem dX10_lookAt_237 : decode cX10_lookAt 237 = .ok (.iconst 2, 1) := by decide +kernel
theorem dX10_lookAt_238 : decode cX10_lookAt 238 = .ok (.if_icmp .ne 36, 3) := by decide +kernel
theorem dX10_lookAt_241 : decode cX10_lookAt 241 = .ok (.aload_n 0, 1) := by decide +kernel
theorem dX10_lookAt_242 : decode cX10_lookAt 242 = .ok (.bipush 10, 2) := by decide +kernel
theorem dX10_lookAt_244 : decode cX10_lookAt 244 = .ok (.aload_n 0, 1) := by decide +kernel
theorem dX10_lookAt_245 : decode cX10_lookAt 245 = .ok (.getfield 250, 3) := by decide +kernel
theorem dX10_lookAt_248 : decode cX10_lookAt 248 = .ok (.imul, 1) := by decide +kernel
theorem dX10_lookAt_249 : decode cX10_lookAt 249 = .ok (.aload_n 0, 1) := by decide +kernel
theorem dX10_lookAt_250 : decode cX10_lookAt 250 = .ok (.getfield 51, 3) := by decide +kernel
theorem dX10_lookAt_253 : decode cX10_lookAt 253 = .ok (.aload_n 0, 1) := by decide +kernel
theorem dX10_lookAt_254 : decode cX10_lookAt 254 = .ok (.getfield 241, 3) := by decide +kernel
theorem dX10_lookAt_257 : decode cX10_lookAt 257 = .ok (.iload 4, 2) := by decide +kernel
theorem dX10_lookAt_259 : decode cX10_lookAt 259 = .ok (.iadd, 1) := by decide +kernel
theorem dX10_lookAt_260 : decode cX10_lookAt 260 = .ok (.iaload, 1) := by decide +kernel
theorem dX10_lookAt_261 : decode cX10_lookAt 261 = .ok (.iadd, 1) := by decide +kernel
theorem dX10_lookAt_262 : decode cX10_lookAt 262 = .ok (.bipush 48, 2) := by decide +kernel
theorem dX10_lookAt_264 : decode cX10_lookAt 264 = .ok (.isub, 1) := by decide +kernel
theorem dX10_lookAt_265 : decode cX10_lookAt 265 = .ok (.putfield 250, 3) := by decide +kernel
theorem dX10_lookAt_268 : decode cX10_lookAt 268 = .ok (.iinc 4 1, 3) := by decide +kernel
theorem dX10_lookAt_271 : decode cX10_lookAt 271 = .ok (.goto (-53), 3) := by decide +kernel
theorem dX10_lookAt_274 : decode cX10_lookAt 274 = .ok (.aload_n 0, 1) := by decide +kernel
theorem dX10_lookAt_275 : decode cX10_lookAt 275 = .ok (.aload_n 0, 1) := by decide +kernel
theorem dX10_lookAt_276 : decode cX10_lookAt 276 = .ok (.getfield 247, 3) := by decide +kernel
theorem dX10_lookAt_279 : decode cX10_lookAt 279 = .ok (.iconst 2, 1) := by decide +kernel
theorem dX10_lookAt_280 : decode cX10_lookAt 280 = .ok (.if_icmp .ne 15, 3) := by decide +kernel
theorem dX10_lookAt_283 : decode cX10_lookAt 283 = .ok (.aload_n 0, 1) := by decide +kernel
theorem dX10_lookAt_284 : decode cX10_lookAt 284 = .ok (.getfield 244, 3) := by decide +kernel
theorem dX10_lookAt_287 : decode cX10_lookAt 287 = .ok (.iconst 2, 1) := by decide +kernel
theorem dX10_lookAt_288 : decode cX10_lookAt 288 = .ok (.if_icmp .le 7, 3) := by decide +kernel
theorem dX10_lookAt_291 : decode cX10_lookAt 291 = .ok (.iconst 4, 1) := by decide +kernel
theorem dX10_lookAt_292 : decode cX10_lookAt 292 = .ok (.goto 7, 3) := by decide +kernel
theorem dX10_lookAt_295 : decode cX10_lookAt 295 = .ok (.aload_n 0, 1) := by decide +kernel
theorem dX10_lookAt_296 : decode cX10_lookAt 296 = .ok (.getfield 247, 3) := by decide +kernel
theorem dX10_lookAt_299 : decode cX10_lookAt 299 = .ok (.putfield 247, 3) := by decide +kernel
theorem dX10_lookAt_302 : decode cX10_lookAt 302 = .ok (.return_, 1) := by decide +kernel
theorem dX10_goBehind_0 : decode cX10_goBehind 0 = .ok (.aload_n 0, 1) := by decide +kernel
theorem dX10_goBehind_1 : decode cX10_goBehind 1 = .ok (.aload_n 0, 1) := by decide +kernel
theorem dX10_goBehind_2 : decode cX10_goBehind 2 = .ok (.getfield 241, 3) := by decide +kernel
theorem dX10_goBehind_5 : decode cX10_goBehind 5 = .ok (.aload_n 0, 1) := by decide +kernel
theorem dX10_goBehind_6 : decode cX10_goBehind 6 = .ok (.getfield 244, 3) := by decide +kernel
theorem dX10_goBehind_9 : decode cX10_goBehind 9 = .ok (.iadd, 1) := by decide +kernel
theorem dX10_goBehind_10 : decode cX10_goBehind 10 = .ok (.invokevirtual 259, 3) := by decide +kernel
theorem dX10_goBehind_13 : decode cX10_goBehind 13 = .ok (.return_, 1) := by decide +kernel
theorem dX10_spells_0 : decode cX10_spells 0 = .ok (.aload_n 0, 1) := by decide +kernel
theorem dX10_spells_1 : decode cX10_spells 1 = .ok (.getfield 247, 3) := by decide +kernel
theorem dX10_spells_4 : decode cX10_spells 4 = .ok (.iconst 1, 1) := by decide +kernel
theorem dX10_spells_5 : decode cX10_spells 5 = .ok (.if_icmp .ne 15, 3) := by decide +kernel
theorem dX10_spells_8 : decode cX10_spells 8 = .ok (.aload_n 0, 1) := by decide +kernel
theorem dX10_spells_9 : decode cX10_spells 9 = .ok (.getfield 244, 3) := by decide +kernel
theorem dX10_spells_12 : decode cX10_spells 12 = .ok (.iload_n 1, 1) := by decide +kernel
theorem dX10_spells_13 : decode cX10_spells 13 = .ok (.if_icmp .ne 7, 3) := by decide +kernel
theorem dX10_spells_16 : decode cX10_spells 16 = .ok (.iconst 1, 1) := by decide +kernel
theorem dX10_spells_17 : decode cX10_spells 17 = .ok (.goto 4, 3) := by decide +kernel
theorem dX10_spells_20 : decode cX10_spells 20 = .ok (.iconst 0, 1) := by decide +kernel
theorem dX10_spells_21 : decode cX10_spells 21 = .ok (.istore 6, 2) := by decide +kernel
theorem dX10_spells_23 : decode cX10_spells 23 = .ok (.iconst 0, 1) := by decide +kernel
theorem dX10_spells_24 : decode cX10_spells 24 = .ok (.istore 7, 2) := by decide +kernel
theorem dX10_spells_26 : decode cX10_spells 26 = .ok (.iload 7, 2) := by decide +kernel
theorem dX10_spells_28 : decode cX10_spells 28 = .ok (.iload_n 1, 1) := by decide +kernel
theorem dX10_spells_29 : decode cX10_spells 29 = .ok (.if_icmp .ge 68, 3) := by decide +kernel
theorem dX10_spells_32 : decode cX10_spells 32 = .ok (.iload 6, 2) := by decide +kernel
theorem dX10_spells_34 : decode cX10_spells 34 = .ok (.ifCond .eq 63, 3) := by decide +kernel
theorem dX10_spells_37 : decode cX10_spells 37 = .ok (.aload_n 0, 1) := by decide +kernel
theorem dX10_spells_38 : decode cX10_spells 38 = .ok (.getfield 51, 3) := by decide +kernel
theorem dX10_spells_41 : decode cX10_spells 41 = .ok (.aload_n 0, 1) := by decide +kernel
theorem dX10_spells_42 : decode cX10_spells 42 = .ok (.getfield 241, 3) := by decide +kernel
theorem dX10_spells_45 : decode cX10_spells 45 = .ok (.iload 7, 2) := by decide +kernel
theorem dX10_spells_47 : decode cX10_spells 47 = .ok (.iadd, 1) := by decide +kernel
theorem dX10_spells_48 : decode cX10_spells 48 = .ok (.iaload, 1) := by decide +kernel
theorem dX10_spells_49 : decode cX10_spells 49 = .ok (.iload 7, 2) := by decide +kernel
theorem dX10_spells_51 : decode cX10_spells 51 = .ok (.ifCond .ne 7, 3) := by decide +kernel
theorem dX10_spells_54 : decode cX10_spells 54 = .ok (.iload_n 2, 1) := by decide +kernel
theorem dX10_spells_55 : decode cX10_spells 55 = .ok (.goto 26, 3) := by decide +kernel
theorem dX10_spells_58 : decode cX10_spells 58 = .ok (.iload 7, 2) := by decide +kernel
theorem dX10_spells_60 : decode cX10_spells 60 = .ok (.iconst 1, 1) := by decide +kernel
theorem dX10_spells_61 : decode cX10_spells 61 = .ok (.if_icmp .ne 7, 3) := by decide +kernel
theorem dX10_spells_64 : decode cX10_spells 64 = .ok (.iload_n 3, 1) := by decide +kernel
theorem dX10_spells_65 : decode cX10_spells 65 = .ok (.goto 16, 3) := by decide +kernel
theorem dX10_spells_68 : decode cX10_spells 68 = .ok (.iload 7, 2) := by decide +kernel
theorem dX10_spells_70 : decode cX10_spells 70 = .ok (.iconst 2, 1) := by decide +kernel
theorem dX10_spells_71 : decode cX10_spells 71 = .ok (.if_icmp .ne 8, 3) := by decide +kernel
theorem dX10_spells_74 : decode cX10_spells 74 = .ok (.iload 4, 2) := by decide +kernel
theorem dX10_spells_76 : decode cX10_spells 76 = .ok (.goto 5, 3) := by decide +kernel
theorem dX10_spells_79 : decode cX10_spells 79 = .ok (.iload 5, 2) := by decide +kernel
theorem dX10_spells_81 : decode cX10_spells 81 = .ok (.if_icmp .ne 7, 3) := by decide +kernel
theorem dX10_spells_84 : decode cX10_spells 84 = .ok (.iconst 1, 1) := by decide +kernel
theorem dX10_spells_85 : decode cX10_spells 85 = .ok (.goto 4, 3) := by decide +kernel
theorem dX10_spells_88 : decode cX10_spells 88 = .ok (.iconst 0, 1) := by decide +kernel
theorem dX10_spells_89 : decode cX10_spells 89 = .ok (.istore 6, 2) := by decide +kernel
theorem dX10_spells_91 : decode cX10_spells 91 = .ok (.iinc 7 1, 3) := by decide +kernel
theorem dX10_spells_94 : decode cX10_spells 94 = .ok (.goto (-68), 3) := by decide +kernel
theorem dX10_spells_97 : decode cX10_spells 97 = .ok (.iload 6, 2) := by decide +kernel
theorem dX10_spells_99 : decode cX10_spells 99 = .ok (.ireturn, 1) := by decide +kernel
theorem dX10_takes_0 : decode cX10_takes 0 = .ok (.aload_n 0, 1) := by decide +kernel
theorem dX10_takes_1 : decode cX10_takes 1 = .ok (.getfield 247, 3) := by decide +kernel
theorem dX10_takes_4 : decode cX10_takes 4 = .ok (.iconst 2, 1) := by decide +kernel
theorem dX10_takes_5 : decode cX10_takes 5 = .ok (.if_icmp .ne 18, 3) := by decide +kernel
theorem dX10_takes_8 : decode cX10_takes 8 = .ok (.aload_n 0, 1) := by decide +kernel
theorem dX10_takes_9 : decode cX10_takes 9 = .ok (.getfield 250, 3) := by decide +kernel
theorem dX10_takes_12 : decode cX10_takes 12 = .ok (.i2l, 1) := by decide +kernel
theorem dX10_takes_13 : decode cX10_takes 13 = .ok (.iload_n 2, 1) := by decide +kernel
theorem dX10_takes_14 : decode cX10_takes 14 = .ok (.i2l, 1) := by decide +kernel
theorem dX10_takes_15 : decode cX10_takes 15 = .ok (.iload_n 3, 1) := by decide +kernel
theorem dX10_takes_16 : decode cX10_takes 16 = .ok (.i2l, 1) := by decide +kernel
theorem dX10_takes_17 : decode cX10_takes 17 = .ok (.invokestatic 68, 3) := by decide +kernel
theorem dX10_takes_20 : decode cX10_takes 20 = .ok (.ifCond .ne 5, 3) := by decide +kernel
theorem dX10_takes_23 : decode cX10_takes 23 = .ok (.iconst 0, 1) := by decide +kernel
theorem dX10_takes_24 : decode cX10_takes 24 = .ok (.ireturn, 1) := by decide +kernel
theorem dX10_takes_25 : decode cX10_takes 25 = .ok (.aload_n 0, 1) := by decide +kernel
theorem dX10_takes_26 : decode cX10_takes 26 = .ok (.getfield 57, 3) := by decide +kernel
theorem dX10_takes_29 : decode cX10_takes 29 = .ok (.iload_n 1, 1) := by decide +kernel
theorem dX10_takes_30 : decode cX10_takes 30 = .ok (.aload_n 0, 1) := by decide +kernel
theorem dX10_takes_31 : decode cX10_takes 31 = .ok (.getfield 250, 3) := by decide +kernel
theorem dX10_takes_34 : decode cX10_takes 34 = .ok (.iastore, 1) := by decide +kernel
theorem dX10_takes_35 : decode cX10_takes 35 = .ok (.aload_n 0, 1) := by decide +kernel
theorem dX10_takes_36 : decode cX10_takes 36 = .ok (.invokevirtual 262, 3) := by decide +kernel
theorem dX10_takes_39 : decode cX10_takes 39 = .ok (.iconst 1, 1) := by decide +kernel
theorem dX10_takes_40 : decode cX10_takes 40 = .ok (.ireturn, 1) := by decide +kernel
theorem dX10_takesSign_0 : decode cX10_takesSign 0 = .ok (.aload_n 0, 1) := by decide +kernel
theorem dX10_takesSign_1 : decode cX10_takesSign 1 = .ok (.invokevirtual 262, 3) := by decide +kernel
theorem dX10_takesSign_4 : decode cX10_takesSign 4 = .ok (.aload_n 0, 1) := by decide +kernel
theorem dX10_takesSign_5 : decode cX10_takesSign 5 = .ok (.iconst 0, 1) := by decide +kernel
theorem dX10_takesSign_6 : decode cX10_takesSign 6 = .ok (.iconst 0, 1) := by decide +kernel
theorem dX10_takesSign_7 : decode cX10_takesSign 7 = .ok (.iconst 3, 1) := by decide +kernel
theorem dX10_takesSign_8 : decode cX10_takesSign 8 = .ok (.invokevirtual 265, 3) := by decide +kernel
theorem dX10_takesSign_11 : decode cX10_takesSign 11 = .ok (.ifCond .eq 13, 3) := by decide +kernel
theorem dX10_takesSign_14 : decode cX10_takesSign 14 = .ok (.aload_n 0, 1) := by decide +kernel
theorem dX10_takesSign_15 : decode cX10_takesSign 15 = .ok (.iconst 1, 1) := by decide +kernel
theorem dX10_takesSign_16 : decode cX10_takesSign 16 = .ok (.iconst 0, 1) := by decide +kernel
theorem dX10_takesSign_17 : decode cX10_takesSign 17 = .ok (.iconst 2, 1) := by decide +kernel
theorem dX10_takesSign_18 : decode cX10_takesSign 18 = .ok (.invokevirtual 265, 3) := by decide +kernel
theorem dX10_takesSign_21 : decode cX10_takesSign 21 = .ok (.ifCond .ne 5, 3) := by decide +kernel
theorem dX10_takesSign_24 : decode cX10_takesSign 24 = .ok (.iconst 0, 1) := by decide +kernel
theorem dX10_takesSign_25 : decode cX10_takesSign 25 = .ok (.ireturn, 1) := by decide +kernel
theorem dX10_takesSign_26 : decode cX10_takesSign 26 = .ok (.aload_n 0, 1) := by decide +kernel
theorem dX10_takesSign_27 : decode cX10_takesSign 27 = .ok (.getfield 54, 3) := by decide +kernel
theorem dX10_takesSign_30 : decode cX10_takesSign 30 = .ok (.iconst 4, 1) := by decide +kernel
theorem dX10_takesSign_31 : decode cX10_takesSign 31 = .ok (.aload_n 0, 1) := by decide +kernel
theorem dX10_takesSign_32 : decode cX10_takesSign 32 = .ok (.getfield 57, 3) := by decide +kernel
theorem dX10_takesSign_35 : decode cX10_takesSign 35 = .ok (.iconst 0, 1) := by decide +kernel
theorem dX10_takesSign_36 : decode cX10_takesSign 36 = .ok (.iaload, 1) := by decide +kernel
theorem dX10_takesSign_37 : decode cX10_takesSign 37 = .ok (.iadd, 1) := by decide +kernel
theorem dX10_takesSign_38 : decode cX10_takesSign 38 = .ok (.aload_n 0, 1) := by decide +kernel
theorem dX10_takesSign_39 : decode cX10_takesSign 39 = .ok (.getfield 57, 3) := by decide +kernel
theorem dX10_takesSign_42 : decode cX10_takesSign 42 = .ok (.iconst 1, 1) := by decide +kernel
theorem dX10_takesSign_43 : decode cX10_takesSign 43 = .ok (.iaload, 1) := by decide +kernel
theorem dX10_takesSign_44 : decode cX10_takesSign 44 = .ok (.iastore, 1) := by decide +kernel
theorem dX10_takesSign_45 : decode cX10_takesSign 45 = .ok (.iconst 1, 1) := by decide +kernel
theorem dX10_takesSign_46 : decode cX10_takesSign 46 = .ok (.ireturn, 1) := by decide +kernel
theorem dX10_takesShut_0 : decode cX10_takesShut 0 = .ok (.aload_n 0, 1) := by decide +kernel
theorem dX10_takesShut_1 : decode cX10_takesShut 1 = .ok (.invokevirtual 262, 3) := by decide +kernel
theorem dX10_takesShut_4 : decode cX10_takesShut 4 = .ok (.aload_n 0, 1) := by decide +kernel
theorem dX10_takesShut_5 : decode cX10_takesShut 5 = .ok (.getfield 247, 3) := by decide +kernel
theorem dX10_takesShut_8 : decode cX10_takesShut 8 = .ok (.iconst 2, 1) := by decide +kernel
theorem dX10_takesShut_9 : decode cX10_takesShut 9 = .ok (.if_icmp .ne 27, 3) := by decide +kernel
theorem dX10_takesShut_12 : decode cX10_takesShut 12 = .ok (.aload_n 0, 1) := by decide +kernel
theorem dX10_takesShut_13 : decode cX10_takesShut 13 = .ok (.getfield 54, 3) := by decide +kernel
theorem dX10_takesShut_16 : decode cX10_takesShut 16 = .ok (.aload_n 0, 1) := by decide +kernel
theorem dX10_takesShut_17 : decode cX10_takesShut 17 = .ok (.getfield 250, 3) := by decide +kernel
theorem dX10_takesShut_20 : decode cX10_takesShut 20 = .ok (.invokestatic 88, 3) := by decide +kernel
theorem dX10_takesShut_23 : decode cX10_takesShut 23 = .ok (.ifCond .ne 13, 3) := by decide +kernel
theorem dX10_takesShut_26 : decode cX10_takesShut 26 = .ok (.aload_n 0, 1) := by decide +kernel
theorem dX10_takesShut_27 : decode cX10_takesShut 27 = .ok (.iconst 0, 1) := by decide +kernel
theorem dX10_takesShut_28 : decode cX10_takesShut 28 = .ok (.iconst 0, 1) := by decide +kernel
theorem dX10_takesShut_29 : decode cX10_takesShut 29 = .ok (.iconst 3, 1) := by decide +kernel
theorem dX10_takesShut_30 : decode cX10_takesShut 30 = .ok (.invokevirtual 265, 3) := by decide +kernel
theorem dX10_takesShut_33 : decode cX10_takesShut 33 = .ok (.ifCond .ne 5, 3) := by decide +kernel
theorem dX10_takesShut_36 : decode cX10_takesShut 36 = .ok (.iconst 0, 1) := by decide +kernel
theorem dX10_takesShut_37 : decode cX10_takesShut 37 = .ok (.ireturn, 1) := by decide +kernel
theorem dX10_takesShut_38 : decode cX10_takesShut 38 = .ok (.aload_n 0, 1) := by decide +kernel
theorem dX10_takesShut_39 : decode cX10_takesShut 39 = .ok (.getfield 54, 3) := by decide +kernel
theorem dX10_takesShut_42 : decode cX10_takesShut 42 = .ok (.bipush 8, 2) := by decide +kernel
theorem dX10_takesShut_44 : decode cX10_takesShut 44 = .ok (.dup2, 1) := by decide +kernel
theorem dX10_takesShut_45 : decode cX10_takesShut 45 = .ok (.iaload, 1) := by decide +kernel
theorem dX10_takesShut_46 : decode cX10_takesShut 46 = .ok (.iconst 1, 1) := by decide +kernel
theorem dX10_takesShut_47 : decode cX10_takesShut 47 = .ok (.aload_n 0, 1) := by decide +kernel
theorem dX10_takesShut_48 : decode cX10_takesShut 48 = .ok (.getfield 57, 3) := by decide +kernel
theorem dX10_takesShut_51 : decode cX10_takesShut 51 = .ok (.iconst 0, 1) := by decide +kernel
theorem dX10_takesShut_52 : decode cX10_takesShut 52 = .ok (.iaload, 1) := by decide +kernel
theorem dX10_takesShut_53 : decode cX10_takesShut 53 = .ok (.ishl, 1) := by decide +kernel
theorem dX10_takesShut_54 : decode cX10_takesShut 54 = .ok (.ior, 1) := by decide +kernel
theorem dX10_takesShut_55 : decode cX10_takesShut 55 = .ok (.iastore, 1) := by decide +kernel
theorem dX10_takesShut_56 : decode cX10_takesShut 56 = .ok (.iconst 1, 1) := by decide +kernel
theorem dX10_takesShut_57 : decode cX10_takesShut 57 = .ok (.ireturn, 1) := by decide +kernel
theorem dX10_takesOne_0 : decode cX10_takesOne 0 = .ok (.aload_n 0, 1) := by decide +kernel
theorem dX10_takesOne_1 : decode cX10_takesOne 1 = .ok (.getfield 54, 3) := by decide +kernel
theorem dX10_takesOne_4 : decode cX10_takesOne 4 = .ok (.iconst 0, 1) := by decide +kernel
theorem dX10_takesOne_5 : decode cX10_takesOne 5 = .ok (.iaload, 1) := by decide +kernel
theorem dX10_takesOne_6 : decode cX10_takesOne 6 = .ok (.bipush 7, 2) := by decide +kernel
theorem dX10_takesOne_8 : decode cX10_takesOne 8 = .ok (.if_icmp .ne 5, 3) := by decide +kernel
theorem dX10_takesOne_11 : decode cX10_takesOne 11 = .ok (.iconst 0, 1) := by decide +kernel
theorem dX10_takesOne_12 : decode cX10_takesOne 12 = .ok (.ireturn, 1) := by decide +kernel
theorem dX10_takesOne_13 : decode cX10_takesOne 13 = .ok (.aload_n 0, 1) := by decide +kernel
theorem dX10_takesOne_14 : decode cX10_takesOne 14 = .ok (.invokevirtual 262, 3) := by decide +kernel
theorem dX10_takesOne_17 : decode cX10_takesOne 17 = .ok (.aload_n 0, 1) := by decide +kernel
theorem dX10_takesOne_18 : decode cX10_takesOne 18 = .ok (.iconst 0, 1) := by decide +kernel
theorem dX10_takesOne_19 : decode cX10_takesOne 19 = .ok (.iconst 0, 1) := by decide +kernel
theorem dX10_takesOne_20 : decode cX10_takesOne 20 = .ok (.iconst 5, 1) := by decide +kernel
theorem dX10_takesOne_21 : decode cX10_takesOne 21 = .ok (.invokevirtual 265, 3) := by decide +kernel
theorem dX10_takesOne_24 : decode cX10_takesOne 24 = .ok (.ifCond .eq 50, 3) := by decide +kernel
theorem dX10_takesOne_27 : decode cX10_takesOne 27 = .ok (.aload_n 0, 1) := by decide +kernel
theorem dX10_takesOne_28 : decode cX10_takesOne 28 = .ok (.iconst 1, 1) := by decide +kernel
theorem dX10_takesOne_29 : decode cX10_takesOne 29 = .ok (.bipush 20, 2) := by decide +kernel
theorem dX10_takesOne_31 : decode cX10_takesOne 31 = .ok (.bipush 90, 2) := by decide +kernel
theorem dX10_takesOne_33 : decode cX10_takesOne 33 = .ok (.invokevirtual 265, 3) := by decide +kernel
theorem dX10_takesOne_36 : decode cX10_takesOne 36 = .ok (.ifCond .eq 38, 3) := by decide +kernel
theorem dX10_takesOne_39 : decode cX10_takesOne 39 = .ok (.aload_n 0, 1) := by decide +kernel
theorem dX10_takesOne_40 : decode cX10_takesOne 40 = .ok (.getfield 247, 3) := by decide +kernel
theorem dX10_takesOne_43 : decode cX10_takesOne 43 = .ok (.iconst 2, 1) := by decide +kernel
theorem dX10_takesOne_44 : decode cX10_takesOne 44 = .ok (.if_icmp .ne 30, 3) := by decide +kernel
theorem dX10_takesOne_47 : decode cX10_takesOne 47 = .ok (.aload_n 0, 1) := by decide +kernel
theorem dX10_takesOne_48 : decode cX10_takesOne 48 = .ok (.getfield 54, 3) := by decide +kernel
theorem dX10_takesOne_51 : decode cX10_takesOne 51 = .ok (.bipush 8, 2) := by decide +kernel
theorem dX10_takesOne_53 : decode cX10_takesOne 53 = .ok (.iaload, 1) := by decide +kernel
theorem dX10_takesOne_54 : decode cX10_takesOne 54 = .ok (.aload_n 0, 1) := by decide +kernel
theorem dX10_takesOne_55 : decode cX10_takesOne 55 = .ok (.getfield 250, 3) := by decide +kernel
theorem dX10_takesOne_58 : decode cX10_takesOne 58 = .ok (.invokestatic 74, 3) := by decide +kernel
theorem dX10_takesOne_61 : decode cX10_takesOne 61 = .ok (.ifCond .ne 13, 3) := by decide +kernel
theorem dX10_takesOne_64 : decode cX10_takesOne 64 = .ok (.aload_n 0, 1) := by decide +kernel
theorem dX10_takesOne_65 : decode cX10_takesOne 65 = .ok (.iconst 2, 1) := by decide +kernel
theorem dX10_takesOne_66 : decode cX10_takesOne 66 = .ok (.iconst 0, 1) := by decide +kernel
theorem dX10_takesOne_67 : decode cX10_takesOne 67 = .ok (.iconst 3, 1) := by decide +kernel
theorem dX10_takesOne_68 : decode cX10_takesOne 68 = .ok (.invokevirtual 265, 3) := by decide +kernel
theorem dX10_takesOne_71 : decode cX10_takesOne 71 = .ok (.ifCond .ne 5, 3) := by decide +kernel
theorem dX10_takesOne_74 : decode cX10_takesOne 74 = .ok (.iconst 0, 1) := by decide +kernel
theorem dX10_takesOne_75 : decode cX10_takesOne 75 = .ok (.ireturn, 1) := by decide +kernel
theorem dX10_takesOne_76 : decode cX10_takesOne 76 = .ok (.aload_n 0, 1) := by decide +kernel
theorem dX10_takesOne_77 : decode cX10_takesOne 77 = .ok (.getfield 54, 3) := by decide +kernel
theorem dX10_takesOne_80 : decode cX10_takesOne 80 = .ok (.aload_n 0, 1) := by decide +kernel
theorem dX10_takesOne_81 : decode cX10_takesOne 81 = .ok (.getfield 57, 3) := by decide +kernel
theorem dX10_takesOne_84 : decode cX10_takesOne 84 = .ok (.iconst 0, 1) := by decide +kernel
theorem dX10_takesOne_85 : decode cX10_takesOne 85 = .ok (.iaload, 1) := by decide +kernel
theorem dX10_takesOne_86 : decode cX10_takesOne 86 = .ok (.aload_n 0, 1) := by decide +kernel
theorem dX10_takesOne_87 : decode cX10_takesOne 87 = .ok (.getfield 57, 3) := by decide +kernel
theorem dX10_takesOne_90 : decode cX10_takesOne 90 = .ok (.iconst 1, 1) := by decide +kernel
theorem dX10_takesOne_91 : decode cX10_takesOne 91 = .ok (.iaload, 1) := by decide +kernel
theorem dX10_takesOne_92 : decode cX10_takesOne 92 = .ok (.aload_n 0, 1) := by decide +kernel
theorem dX10_takesOne_93 : decode cX10_takesOne 93 = .ok (.getfield 57, 3) := by decide +kernel
theorem dX10_takesOne_96 : decode cX10_takesOne 96 = .ok (.iconst 2, 1) := by decide +kernel
theorem dX10_takesOne_97 : decode cX10_takesOne 97 = .ok (.iaload, 1) := by decide +kernel
theorem dX10_takesOne_98 : decode cX10_takesOne 98 = .ok (.invokestatic 107, 3) := by decide +kernel
theorem dX10_takesOne_101 : decode cX10_takesOne 101 = .ok (.iconst 1, 1) := by decide +kernel
theorem dX10_takesOne_102 : decode cX10_takesOne 102 = .ok (.ireturn, 1) := by decide +kernel
theorem dX10_takesItem_0 : decode cX10_takesItem 0 = .ok (.aload_n 0, 1) := by decide +kernel
theorem dX10_takesItem_1 : decode cX10_takesItem 1 = .ok (.iconst 4, 1) := by decide +kernel
theorem dX10_takesItem_2 : decode cX10_takesItem 2 = .ok (.bipush 115, 2) := by decide +kernel
theorem dX10_takesItem_4 : decode cX10_takesItem 4 = .ok (.bipush 105, 2) := by decide +kernel
theorem dX10_takesItem_6 : decode cX10_takesItem 6 = .ok (.bipush 103, 2) := by decide +kernel
theorem dX10_takesItem_8 : decode cX10_takesItem 8 = .ok (.bipush 110, 2) := by decide +kernel
theorem dX10_takesItem_10 : decode cX10_takesItem 10 = .ok (.invokevirtual 268, 3) := by decide +kernel
theorem dX10_takesItem_13 : decode cX10_takesItem 13 = .ok (.ifCond .eq 8, 3) := by decide +kernel
theorem dX10_takesItem_16 : decode cX10_takesItem 16 = .ok (.aload_n 0, 1) := by decide +kernel
theorem dX10_takesItem_17 : decode cX10_takesItem 17 = .ok (.invokevirtual 272, 3) := by decide +kernel
theorem dX10_takesItem_20 : decode cX10_takesItem 20 = .ok (.ireturn, 1) := by decide +kernel
theorem dX10_takesItem_21 : decode cX10_takesItem 21 = .ok (.aload_n 0, 1) := by decide +kernel
theorem dX10_takesItem_22 : decode cX10_takesItem 22 = .ok (.iconst 4, 1) := by decide +kernel
theorem dX10_takesItem_23 : decode cX10_takesItem 23 = .ok (.bipush 115, 2) := by decide +kernel
theorem dX10_takesItem_25 : decode cX10_takesItem 25 = .ok (.bipush 104, 2) := by decide +kernel
theorem dX10_takesItem_27 : decode cX10_takesItem 27 = .ok (.bipush 117, 2) := by decide +kernel
theorem dX10_takesItem_29 : decode cX10_takesItem 29 = .ok (.bipush 116, 2) := by decide +kernel
theorem dX10_takesItem_31 : decode cX10_takesItem 31 = .ok (.invokevirtual 268, 3) := by decide +kernel
theorem dX10_takesItem_34 : decode cX10_takesItem 34 = .ok (.ifCond .eq 8, 3) := by decide +kernel
theorem dX10_takesItem_37 : decode cX10_takesItem 37 = .ok (.aload_n 0, 1) := by decide +kernel
theorem dX10_takesItem_38 : decode cX10_takesItem 38 = .ok (.invokevirtual 276, 3) := by decide +kernel
theorem dX10_takesItem_41 : decode cX10_takesItem 41 = .ok (.ireturn, 1) := by decide +kernel
theorem dX10_takesItem_42 : decode cX10_takesItem 42 = .ok (.aload_n 0, 1) := by decide +kernel
theorem dX10_takesItem_43 : decode cX10_takesItem 43 = .ok (.iconst 3, 1) := by decide +kernel
theorem dX10_takesItem_44 : decode cX10_takesItem 44 = .ok (.bipush 111, 2) := by decide +kernel
theorem dX10_takesItem_46 : decode cX10_takesItem 46 = .ok (.bipush 110, 2) := by decide +kernel
theorem dX10_takesItem_48 : decode cX10_takesItem 48 = .ok (.bipush 101, 2) := by decide +kernel
theorem dX10_takesItem_50 : decode cX10_takesItem 50 = .ok (.iconst 0, 1) := by decide +kernel
theorem dX10_takesItem_51 : decode cX10_takesItem 51 = .ok (.invokevirtual 268, 3) := by decide +kernel
theorem dX10_takesItem_54 : decode cX10_takesItem 54 = .ok (.ifCond .eq 14, 3) := by decide +kernel
theorem dX10_takesItem_57 : decode cX10_takesItem 57 = .ok (.aload_n 0, 1) := by decide +kernel
theorem dX10_takesItem_58 : decode cX10_takesItem 58 = .ok (.invokevirtual 279, 3) := by decide +kernel
theorem dX10_takesItem_61 : decode cX10_takesItem 61 = .ok (.ifCond .eq 7, 3) := by decide +kernel
theorem dX10_takesItem_64 : decode cX10_takesItem 64 = .ok (.iconst 1, 1) := by decide +kernel
theorem dX10_takesItem_65 : decode cX10_takesItem 65 = .ok (.goto 4, 3) := by decide +kernel
theorem dX10_takesItem_68 : decode cX10_takesItem 68 = .ok (.iconst 0, 1) := by decide +kernel
theorem dX10_takesItem_69 : decode cX10_takesItem 69 = .ok (.ireturn, 1) := by decide +kernel
theorem dX10_read_0 : decode cX10_read 0 = .ok (.aload_n 0, 1) := by decide +kernel
theorem dX10_read_1 : decode cX10_read 1 = .ok (.iconst 0, 1) := by decide +kernel
theorem dX10_read_2 : decode cX10_read 2 = .ok (.invokevirtual 259, 3) := by decide +kernel
theorem dX10_read_5 : decode cX10_read 5 = .ok (.aload_n 0, 1) := by decide +kernel
theorem dX10_read_6 : decode cX10_read 6 = .ok (.iconst 4, 1) := by decide +kernel
theorem dX10_read_7 : decode cX10_read 7 = .ok (.bipush 98, 2) := by decide +kernel
theorem dX10_read_9 : decode cX10_read 9 = .ok (.bipush 97, 2) := by decide +kernel
theorem dX10_read_11 : decode cX10_read 11 = .ok (.bipush 116, 2) := by decide +kernel
theorem dX10_read_13 : decode cX10_read 13 = .ok (.bipush 104, 2) := by decide +kernel
theorem dX10_read_15 : decode cX10_read 15 = .ok (.invokevirtual 268, 3) := by decide +kernel
theorem dX10_read_18 : decode cX10_read 18 = .ok (.ifCond .ne 11, 3) := by decide +kernel
theorem dX10_read_21 : decode cX10_read 21 = .ok (.bipush (-10), 2) := by decide +kernel
theorem dX10_read_23 : decode cX10_read 23 = .ok (.aload_n 0, 1) := by decide +kernel
theorem dX10_read_24 : decode cX10_read 24 = .ok (.getfield 241, 3) := by decide +kernel
theorem dX10_read_27 : decode cX10_read 27 = .ok (.isub, 1) := by decide +kernel
theorem dX10_read_28 : decode cX10_read 28 = .ok (.ireturn, 1) := by decide +kernel
theorem dX10_read_29 : decode cX10_read 29 = .ok (.aload_n 0, 1) := by decide +kernel
theorem dX10_read_30 : decode cX10_read 30 = .ok (.invokevirtual 262, 3) := by decide +kernel
theorem dX10_read_33 : decode cX10_read 33 = .ok (.aload_n 0, 1) := by decide +kernel
theorem dX10_read_34 : decode cX10_read 34 = .ok (.getfield 247, 3) := by decide +kernel
theorem dX10_read_37 : decode cX10_read 37 = .ok (.iconst 3, 1) := by decide +kernel
theorem dX10_read_38 : decode cX10_read 38 = .ok (.if_icmp .eq 11, 3) := by decide +kernel
theorem dX10_read_41 : decode cX10_read 41 = .ok (.bipush (-10), 2) := by decide +kernel
theorem dX10_read_43 : decode cX10_read 43 = .ok (.aload_n 0, 1) := by decide +kernel
theorem dX10_read_44 : decode cX10_read 44 = .ok (.getfield 241, 3) := by decide +kernel
theorem dX10_read_47 : decode cX10_read 47 = .ok (.isub, 1) := by decide +kernel
theorem dX10_read_48 : decode cX10_read 48 = .ok (.ireturn, 1) := by decide +kernel
theorem dX10_read_49 : decode cX10_read 49 = .ok (.aload_n 0, 1) := by decide +kernel
theorem dX10_read_50 : decode cX10_read 50 = .ok (.invokevirtual 262, 3) := by decide +kernel
theorem dX10_read_53 : decode cX10_read 53 = .ok (.aload_n 0, 1) := by decide +kernel
theorem dX10_read_54 : decode cX10_read 54 = .ok (.getfield 54, 3) := by decide +kernel
theorem dX10_read_57 : decode cX10_read 57 = .ok (.invokestatic 60, 3) := by decide +kernel
theorem dX10_read_60 : decode cX10_read 60 = .ok (.iconst 1, 1) := by decide +kernel
theorem dX10_read_61 : decode cX10_read 61 = .ok (.istore_n 1, 1) := by decide +kernel
theorem dX10_read_62 : decode cX10_read 62 = .ok (.aload_n 0, 1) := by decide +kernel
theorem dX10_read_63 : decode cX10_read 63 = .ok (.getfield 247, 3) := by decide +kernel
theorem dX10_read_66 : decode cX10_read 66 = .ok (.ifCond .eq 36, 3) := by decide +kernel
theorem dX10_read_69 : decode cX10_read 69 = .ok (.aload_n 0, 1) := by decide +kernel
theorem dX10_read_70 : decode cX10_read 70 = .ok (.invokevirtual 282, 3) := by decide +kernel
theorem dX10_read_73 : decode cX10_read 73 = .ok (.ifCond .eq 11, 3) := by decide +kernel
theorem dX10_read_76 : decode cX10_read 76 = .ok (.aload_n 0, 1) := by decide +kernel
theorem dX10_read_77 : decode cX10_read 77 = .ok (.getfield 247, 3) := by decide +kernel
theorem dX10_read_80 : decode cX10_read 80 = .ok (.iconst 3, 1) := by decide +kernel
theorem dX10_read_81 : decode cX10_read 81 = .ok (.if_icmp .eq 11, 3) := by decide +kernel
theorem dX10_read_84 : decode cX10_read 84 = .ok (.bipush (-10), 2) := by decide +kernel
theorem dX10_read_86 : decode cX10_read 86 = .ok (.aload_n 0, 1) := by decide +kernel
theorem dX10_read_87 : decode cX10_read 87 = .ok (.getfield 241, 3) := by decide +kernel
theorem dX10_read_90 : decode cX10_read 90 = .ok (.isub, 1) := by decide +kernel
theorem dX10_read_91 : decode cX10_read 91 = .ok (.ireturn, 1) := by decide +kernel
theorem dX10_read_92 : decode cX10_read 92 = .ok (.aload_n 0, 1) := by decide +kernel
theorem dX10_read_93 : decode cX10_read 93 = .ok (.invokevirtual 262, 3) := by decide +kernel
theorem dX10_read_96 : decode cX10_read 96 = .ok (.iinc 1 1, 3) := by decide +kernel
theorem dX10_read_99 : decode cX10_read 99 = .ok (.goto (-37), 3) := by decide +kernel
theorem dX10_read_102 : decode cX10_read 102 = .ok (.iconst 0, 1) := by decide +kernel
theorem dX10_read_103 : decode cX10_read 103 = .ok (.istore_n 2, 1) := by decide +kernel
theorem dX10_read_104 : decode cX10_read 104 = .ok (.iload_n 2, 1) := by decide +kernel
theorem dX10_read_105 : decode cX10_read 105 = .ok (.bipush 74, 2) := by decide +kernel
theorem dX10_read_107 : decode cX10_read 107 = .ok (.if_icmp .ge 21, 3) := by decide +kernel
theorem dX10_read_110 : decode cX10_read 110 = .ok (.aload_n 0, 1) := by decide +kernel
theorem dX10_read_111 : decode cX10_read 111 = .ok (.getfield 7, 3) := by decide +kernel
theorem dX10_read_114 : decode cX10_read 114 = .ok (.iload_n 2, 1) := by decide +kernel
theorem dX10_read_115 : decode cX10_read 115 = .ok (.aload_n 0, 1) := by decide +kernel
theorem dX10_read_116 : decode cX10_read 116 = .ok (.getfield 54, 3) := by decide +kernel
theorem dX10_read_119 : decode cX10_read 119 = .ok (.iload_n 2, 1) := by decide +kernel
theorem dX10_read_120 : decode cX10_read 120 = .ok (.iaload, 1) := by decide +kernel
theorem dX10_read_121 : decode cX10_read 121 = .ok (.iastore, 1) := by decide +kernel
theorem dX10_read_122 : decode cX10_read 122 = .ok (.iinc 2 1, 3) := by decide +kernel
theorem dX10_read_125 : decode cX10_read 125 = .ok (.goto (-21), 3) := by decide +kernel
theorem dX10_read_128 : decode cX10_read 128 = .ok (.iload_n 1, 1) := by decide +kernel
theorem dX10_read_129 : decode cX10_read 129 = .ok (.ireturn, 1) := by decide +kernel
theorem dX10_part_0 : decode cX10_part 0 = .ok (.iload_n 1, 1) := by decide +kernel
theorem dX10_part_1 : decode cX10_part 1 = .ok (.ifCond .ne 10, 3) := by decide +kernel
theorem dX10_part_4 : decode cX10_part 4 = .ok (.aload_n 0, 1) := by decide +kernel
theorem dX10_part_5 : decode cX10_part 5 = .ok (.getfield 201, 3) := by decide +kernel
theorem dX10_part_8 : decode cX10_part 8 = .ok (.goto 22, 3) := by decide +kernel
theorem dX10_part_11 : decode cX10_part 11 = .ok (.iload_n 1, 1) := by decide +kernel
theorem dX10_part_12 : decode cX10_part 12 = .ok (.iconst 1, 1) := by decide +kernel
theorem dX10_part_13 : decode cX10_part 13 = .ok (.if_icmp .ne 10, 3) := by decide +kernel
theorem dX10_part_16 : decode cX10_part 16 = .ok (.aload_n 0, 1) := by decide +kernel
theorem dX10_part_17 : decode cX10_part 17 = .ok (.getfield 23, 3) := by decide +kernel
theorem dX10_part_20 : decode cX10_part 20 = .ok (.goto 10, 3) := by decide +kernel
theorem dX10_part_23 : decode cX10_part 23 = .ok (.aload_n 0, 1) := by decide +kernel
theorem dX10_part_24 : decode cX10_part 24 = .ok (.bipush (-2), 2) := by decide +kernel
theorem dX10_part_26 : decode cX10_part 26 = .ok (.invokevirtual 84, 3) := by decide +kernel
theorem dX10_part_29 : decode cX10_part 29 = .ok (.i2l, 1) := by decide +kernel
theorem dX10_part_30 : decode cX10_part 30 = .ok (.lreturn, 1) := by decide +kernel
theorem dX10_image_0 : decode cX10_image 0 = .ok (.iload_n 1, 1) := by decide +kernel
theorem dX10_image_1 : decode cX10_image 1 = .ok (.i2l, 1) := by decide +kernel
theorem dX10_image_2 : decode cX10_image 2 = .ok (.lconst 0, 1) := by decide +kernel
theorem dX10_image_3 : decode cX10_image 3 = .ok (.lconst 1, 1) := by decide +kernel
theorem dX10_image_4 : decode cX10_image 4 = .ok (.invokestatic 68, 3) := by decide +kernel
theorem dX10_image_7 : decode cX10_image 7 = .ok (.ifCond .ne 10, 3) := by decide +kernel
theorem dX10_image_10 : decode cX10_image 10 = .ok (.aload_n 0, 1) := by decide +kernel
theorem dX10_image_11 : decode cX10_image 11 = .ok (.bipush (-2), 2) := by decide +kernel
theorem dX10_image_13 : decode cX10_image 13 = .ok (.invokevirtual 84, 3) := by decide +kernel
theorem dX10_image_16 : decode cX10_image 16 = .ok (.ireturn, 1) := by decide +kernel
theorem dX10_image_17 : decode cX10_image 17 = .ok (.iconst 0, 1) := by decide +kernel
theorem dX10_image_18 : decode cX10_image 18 = .ok (.istore_n 2, 1) := by decide +kernel
theorem dX10_image_19 : decode cX10_image 19 = .ok (.iload_n 2, 1) := by decide +kernel
theorem dX10_image_20 : decode cX10_image 20 = .ok (.sipush 250, 3) := by decide +kernel
theorem dX10_image_23 : decode cX10_image 23 = .ok (.if_icmp .ge 27, 3) := by decide +kernel
theorem dX10_image_26 : decode cX10_image 26 = .ok (.aload_n 0, 1) := by decide +kernel
theorem dX10_image_27 : decode cX10_image 27 = .ok (.getfield 13, 3) := by decide +kernel
theorem dX10_image_30 : decode cX10_image 30 = .ok (.sipush 250, 3) := by decide +kernel
theorem dX10_image_33 : decode cX10_image 33 = .ok (.iload_n 1, 1) := by decide +kernel
theorem dX10_image_34 : decode cX10_image 34 = .ok (.imul, 1) := by decide +kernel
theorem dX10_image_35 : decode cX10_image 35 = .ok (.iload_n 2, 1) := by decide +kernel
theorem dX10_image_36 : decode cX10_image 36 = .ok (.iadd, 1) := by decide +kernel
theorem dX10_image_37 : decode cX10_image 37 = .ok (.aload_n 0, 1) := by decide +kernel
theorem dX10_image_38 : decode cX10_image 38 = .ok (.getfield 7, 3) := by decide +kernel
theorem dX10_image_41 : decode cX10_image 41 = .ok (.iload_n 2, 1) := by decide +kernel
theorem dX10_image_42 : decode cX10_image 42 = .ok (.iaload, 1) := by decide +kernel
theorem dX10_image_43 : decode cX10_image 43 = .ok (.iastore, 1) := by decide +kernel
theorem dX10_image_44 : decode cX10_image 44 = .ok (.iinc 2 1, 3) := by decide +kernel
theorem dX10_image_47 : decode cX10_image 47 = .ok (.goto (-28), 3) := by decide +kernel
theorem dX10_image_50 : decode cX10_image 50 = .ok (.aload_n 0, 1) := by decide +kernel
theorem dX10_image_51 : decode cX10_image 51 = .ok (.getfield 16, 3) := by decide +kernel
theorem dX10_image_54 : decode cX10_image 54 = .ok (.iload_n 1, 1) := by decide +kernel
theorem dX10_image_55 : decode cX10_image 55 = .ok (.iconst 1, 1) := by decide +kernel
theorem dX10_image_56 : decode cX10_image 56 = .ok (.bastore, 1) := by decide +kernel
theorem dX10_image_57 : decode cX10_image 57 = .ok (.iconst 1, 1) := by decide +kernel
theorem dX10_image_58 : decode cX10_image 58 = .ok (.ireturn, 1) := by decide +kernel
theorem dX10_from_0 : decode cX10_from 0 = .ok (.iload_n 1, 1) := by decide +kernel
theorem dX10_from_1 : decode cX10_from 1 = .ok (.i2l, 1) := by decide +kernel
theorem dX10_from_2 : decode cX10_from 2 = .ok (.lconst 0, 1) := by decide +kernel
theorem dX10_from_3 : decode cX10_from 3 = .ok (.lconst 1, 1) := by decide +kernel
theorem dX10_from_4 : decode cX10_from 4 = .ok (.invokestatic 68, 3) := by decide +kernel
theorem dX10_from_7 : decode cX10_from 7 = .ok (.ifCond .ne 10, 3) := by decide +kernel
theorem dX10_from_10 : decode cX10_from 10 = .ok (.aload_n 0, 1) := by decide +kernel
theorem dX10_from_11 : decode cX10_from 11 = .ok (.bipush (-2), 2) := by decide +kernel
theorem dX10_from_13 : decode cX10_from 13 = .ok (.invokevirtual 84, 3) := by decide +kernel
theorem dX10_from_16 : decode cX10_from 16 = .ok (.ireturn, 1) := by decide +kernel
theorem dX10_from_17 : decode cX10_from 17 = .ok (.aload_n 0, 1) := by decide +kernel
theorem dX10_from_18 : decode cX10_from 18 = .ok (.getfield 16, 3) := by decide +kernel
theorem dX10_from_21 : decode cX10_from 21 = .ok (.iload_n 1, 1) := by decide +kernel
theorem dX10_from_22 : decode cX10_from 22 = .ok (.baload, 1) := by decide +kernel
theorem dX10_from_23 : decode cX10_from 23 = .ok (.ifCond .ne 8, 3) := by decide +kernel
theorem dX10_from_26 : decode cX10_from 26 = .ok (.aload_n 0, 1) := by decide +kernel
theorem dX10_from_27 : decode cX10_from 27 = .ok (.invokevirtual 92, 3) := by decide +kernel
theorem dX10_from_30 : decode cX10_from 30 = .ok (.ireturn, 1) := by decide +kernel
theorem dX10_from_31 : decode cX10_from 31 = .ok (.iconst 0, 1) := by decide +kernel
theorem dX10_from_32 : decode cX10_from 32 = .ok (.istore_n 2, 1) := by decide +kernel
theorem dX10_from_33 : decode cX10_from 33 = .ok (.iload_n 2, 1) := by decide +kernel
theorem dX10_from_34 : decode cX10_from 34 = .ok (.sipush 250, 3) := by decide +kernel
theorem dX10_from_37 : decode cX10_from 37 = .ok (.if_icmp .ge 27, 3) := by decide +kernel
theorem dX10_from_40 : decode cX10_from 40 = .ok (.aload_n 0, 1) := by decide +kernel
theorem dX10_from_41 : decode cX10_from 41 = .ok (.getfield 7, 3) := by decide +kernel
theorem dX10_from_44 : decode cX10_from 44 = .ok (.iload_n 2, 1) := by decide +kernel
theorem dX10_from_45 : decode cX10_from 45 = .ok (.aload_n 0, 1) := by decide +kernel
theorem dX10_from_46 : decode cX10_from 46 = .ok (.getfield 13, 3) := by decide +kernel
theorem dX10_from_49 : decode cX10_from 49 = .ok (.sipush 250, 3) := by decide +kernel
theorem dX10_from_52 : decode cX10_from 52 = .ok (.iload_n 1, 1) := by decide +kernel
theorem dX10_from_53 : decode cX10_from 53 = .ok (.imul, 1) := by decide +kernel
theorem dX10_from_54 : decode cX10_from 54 = .ok (.iload_n 2, 1) := by decide +kernel
theorem dX10_from_55 : decode cX10_from 55 = .ok (.iadd, 1) := by decide +kernel
theorem dX10_from_56 : decode cX10_from 56 = .ok (.iaload, 1) := by decide +kernel
theorem dX10_from_57 : decode cX10_from 57 = .ok (.iastore, 1) := by decide +kernel
theorem dX10_from_58 : decode cX10_from 58 = .ok (.iinc 2 1, 3) := by decide +kernel
theorem dX10_from_61 : decode cX10_from 61 = .ok (.goto (-28), 3) := by decide +kernel
theorem dX10_from_64 : decode cX10_from 64 = .ok (.iconst 1, 1) := by decide +kernel
theorem dX10_from_65 : decode cX10_from 65 = .ok (.ireturn, 1) := by decide +kernel
theorem dX10_status_0 : decode cX10_status 0 = .ok (.iload_n 1, 1) := by decide +kernel
theorem dX10_status_1 : decode cX10_status 1 = .ok (.i2l, 1) := by decide +kernel
theorem dX10_status_2 : decode cX10_status 2 = .ok (.lconst 0, 1) := by decide +kernel
theorem dX10_status_3 : decode cX10_status 3 = .ok (.ldc2_w 82, 3) := by decide +kernel
theorem dX10_status_6 : decode cX10_status 6 = .ok (.invokestatic 68, 3) := by decide +kernel
theorem dX10_status_9 : decode cX10_status 9 = .ok (.ifCond .eq 12, 3) := by decide +kernel
theorem dX10_status_12 : decode cX10_status 12 = .ok (.aload_n 0, 1) := by decide +kernel
theorem dX10_status_13 : decode cX10_status 13 = .ok (.getfield 20, 3) := by decide +kernel
theorem dX10_status_16 : decode cX10_status 16 = .ok (.iload_n 1, 1) := by decide +kernel
theorem dX10_status_17 : decode cX10_status 17 = .ok (.iaload, 1) := by decide +kernel
theorem dX10_status_18 : decode cX10_status 18 = .ok (.goto 8, 3) := by decide +kernel
theorem dX10_status_21 : decode cX10_status 21 = .ok (.aload_n 0, 1) := by decide +kernel
theorem dX10_status_22 : decode cX10_status 22 = .ok (.iconst (-1), 1) := by decide +kernel
theorem dX10_status_23 : decode cX10_status 23 = .ok (.invokevirtual 84, 3) := by decide +kernel
theorem dX10_status_26 : decode cX10_status 26 = .ok (.ireturn, 1) := by decide +kernel
theorem dX10_allLengths_0 : decode cX10_allLengths 0 = .ok (.iconst 0, 1) := by decide +kernel
theorem dX10_allLengths_1 : decode cX10_allLengths 1 = .ok (.istore_n 1, 1) := by decide +kernel
theorem dX10_allLengths_2 : decode cX10_allLengths 2 = .ok (.iconst 0, 1) := by decide +kernel
theorem dX10_allLengths_3 : decode cX10_allLengths 3 = .ok (.istore_n 2, 1) := by decide +kernel
theorem dX10_allLengths_4 : decode cX10_allLengths 4 = .ok (.iload_n 2, 1) := by decide +kernel
theorem dX10_allLengths_5 : decode cX10_allLengths 5 = .ok (.aload_n 0, 1) := by decide +kernel
theorem dX10_allLengths_6 : decode cX10_allLengths 6 = .ok (.invokevirtual 64, 3) := by decide +kernel
theorem dX10_allLengths_9 : decode cX10_allLengths 9 = .ok (.if_icmp .ge 21, 3) := by decide +kernel
theorem dX10_allLengths_12 : decode cX10_allLengths 12 = .ok (.iload_n 1, 1) := by decide +kernel
theorem dX10_allLengths_13 : decode cX10_allLengths 13 = .ok (.aload_n 0, 1) := by decide +kernel
theorem dX10_allLengths_14 : decode cX10_allLengths 14 = .ok (.getfield 7, 3) := by decide +kernel
theorem dX10_allLengths_17 : decode cX10_allLengths 17 = .ok (.bipush 16, 2) := by decide +kernel
theorem dX10_allLengths_19 : decode cX10_allLengths 19 = .ok (.iload_n 2, 1) := by decide +kernel
theorem dX10_allLengths_20 : decode cX10_allLengths 20 = .ok (.iadd, 1) := by decide +kernel
theorem dX10_allLengths_21 : decode cX10_allLengths 21 = .ok (.iaload, 1) := by decide +kernel
theorem dX10_allLengths_22 : decode cX10_allLengths 22 = .ok (.iadd, 1) := by decide +kernel
theorem dX10_allLengths_23 : decode cX10_allLengths 23 = .ok (.istore_n 1, 1) := by decide +kernel
theorem dX10_allLengths_24 : decode cX10_allLengths 24 = .ok (.iinc 2 1, 3) := by decide +kernel
theorem dX10_allLengths_27 : decode cX10_allLengths 27 = .ok (.goto (-23), 3) := by decide +kernel
theorem dX10_allLengths_30 : decode cX10_allLengths 30 = .ok (.iload_n 1, 1) := by decide +kernel
theorem dX10_allLengths_31 : decode cX10_allLengths 31 = .ok (.ireturn, 1) := by decide +kernel
theorem dX10_counted_0 : decode cX10_counted 0 = .ok (.iload_n 1, 1) := by decide +kernel
theorem dX10_counted_1 : decode cX10_counted 1 = .ok (.tableswitch 83 0 5 #[39, 44, 51, 64, 69, 76], 39) := by decide +kernel
theorem dX10_counted_40 : decode cX10_counted 40 = .ok (.aload_n 0, 1) := by decide +kernel
theorem dX10_counted_41 : decode cX10_counted 41 = .ok (.invokevirtual 64, 3) := by decide +kernel
theorem dX10_counted_44 : decode cX10_counted 44 = .ok (.ireturn, 1) := by decide +kernel
theorem dX10_counted_45 : decode cX10_counted 45 = .ok (.aload_n 0, 1) := by decide +kernel
theorem dX10_counted_46 : decode cX10_counted 46 = .ok (.getfield 7, 3) := by decide +kernel
theorem dX10_counted_49 : decode cX10_counted 49 = .ok (.iconst 1, 1) := by decide +kernel
theorem dX10_counted_50 : decode cX10_counted 50 = .ok (.iaload, 1) := by decide +kernel
theorem dX10_counted_51 : decode cX10_counted 51 = .ok (.ireturn, 1) := by decide +kernel
theorem dX10_counted_52 : decode cX10_counted 52 = .ok (.iconst 4, 1) := by decide +kernel
theorem dX10_counted_53 : decode cX10_counted 53 = .ok (.aload_n 0, 1) := by decide +kernel
theorem dX10_counted_54 : decode cX10_counted 54 = .ok (.getfield 7, 3) := by decide +kernel
theorem dX10_counted_57 : decode cX10_counted 57 = .ok (.bipush 8, 2) := by decide +kernel
theorem dX10_counted_59 : decode cX10_counted 59 = .ok (.iaload, 1) := by decide +kernel
theorem dX10_counted_60 : decode cX10_counted 60 = .ok (.invokestatic 206, 3) := by decide +kernel
theorem dX10_counted_63 : decode cX10_counted 63 = .ok (.isub, 1) := by decide +kernel
theorem dX10_counted_64 : decode cX10_counted 64 = .ok (.ireturn, 1) := by decide +kernel
theorem dX10_counted_65 : decode cX10_counted 65 = .ok (.aload_n 0, 1) := by decide +kernel
theorem dX10_counted_66 : decode cX10_counted 66 = .ok (.invokevirtual 285, 3) := by decide +kernel
theorem dX10_counted_69 : decode cX10_counted 69 = .ok (.ireturn, 1) := by decide +kernel
theorem dX10_counted_70 : decode cX10_counted 70 = .ok (.aload_n 0, 1) := by decide +kernel
theorem dX10_counted_71 : decode cX10_counted 71 = .ok (.getfield 7, 3) := by decide +kernel
theorem dX10_counted_74 : decode cX10_counted 74 = .ok (.iconst 2, 1) := by decide +kernel
theorem dX10_counted_75 : decode cX10_counted 75 = .ok (.iaload, 1) := by decide +kernel
theorem dX10_counted_76 : decode cX10_counted 76 = .ok (.ireturn, 1) := by decide +kernel
theorem dX10_counted_77 : decode cX10_counted 77 = .ok (.aload_n 0, 1) := by decide +kernel
theorem dX10_counted_78 : decode cX10_counted 78 = .ok (.getfield 7, 3) := by decide +kernel
theorem dX10_counted_81 : decode cX10_counted 81 = .ok (.iconst 3, 1) := by decide +kernel
theorem dX10_counted_82 : decode cX10_counted 82 = .ok (.iaload, 1) := by decide +kernel
theorem dX10_counted_83 : decode cX10_counted 83 = .ok (.ireturn, 1) := by decide +kernel
theorem dX10_counted_84 : decode cX10_counted 84 = .ok (.aload_n 0, 1) := by decide +kernel
theorem dX10_counted_85 : decode cX10_counted 85 = .ok (.getfield 230, 3) := by decide +kernel
theorem dX10_counted_88 : decode cX10_counted 88 = .ok (.ireturn, 1) := by decide +kernel
theorem dX10_count_0 : decode cX10_count 0 = .ok (.iload_n 1, 1) := by decide +kernel
theorem dX10_count_1 : decode cX10_count 1 = .ok (.i2l, 1) := by decide +kernel
theorem dX10_count_2 : decode cX10_count 2 = .ok (.lconst 0, 1) := by decide +kernel
theorem dX10_count_3 : decode cX10_count 3 = .ok (.ldc2_w 188, 3) := by decide +kernel
theorem dX10_count_6 : decode cX10_count 6 = .ok (.invokestatic 68, 3) := by decide +kernel
theorem dX10_count_9 : decode cX10_count 9 = .ok (.ifCond .eq 11, 3) := by decide +kernel
theorem dX10_count_12 : decode cX10_count 12 = .ok (.aload_n 0, 1) := by decide +kernel
theorem dX10_count_13 : decode cX10_count 13 = .ok (.iload_n 1, 1) := by decide +kernel
theorem dX10_count_14 : decode cX10_count 14 = .ok (.invokevirtual 288, 3) := by decide +kernel
theorem dX10_count_17 : decode cX10_count 17 = .ok (.goto 9, 3) := by decide +kernel
theorem dX10_count_20 : decode cX10_count 20 = .ok (.aload_n 0, 1) := by decide +kernel
theorem dX10_count_21 : decode cX10_count 21 = .ok (.bipush (-2), 2) := by decide +kernel
theorem dX10_count_23 : decode cX10_count 23 = .ok (.invokevirtual 84, 3) := by decide +kernel
theorem dX10_count_26 : decode cX10_count 26 = .ok (.ireturn, 1) := by decide +kernel
theorem dX10_sums_0 : decode cX10_sums 0 = .ok (.lload_n 1, 1) := by decide +kernel
theorem dX10_sums_1 : decode cX10_sums 1 = .ok (.lstore 5, 2) := by decide +kernel
theorem dX10_sums_3 : decode cX10_sums 3 = .ok (.iconst 0, 1) := by decide +kernel
theorem dX10_sums_4 : decode cX10_sums 4 = .ok (.istore 7, 2) := by decide +kernel
theorem dX10_sums_6 : decode cX10_sums 6 = .ok (.iload 7, 2) := by decide +kernel
theorem dX10_sums_8 : decode cX10_sums 8 = .ok (.iload 4, 2) := by decide +kernel
theorem dX10_sums_10 : decode cX10_sums 10 = .ok (.if_icmp .ge 28, 3) := by decide +kernel
theorem dX10_sums_13 : decode cX10_sums 13 = .ok (.ldc2_w 291, 3) := by decide +kernel
theorem dX10_sums_16 : decode cX10_sums 16 = .ok (.lload 5, 2) := by decide +kernel
theorem dX10_sums_18 : decode cX10_sums 18 = .ok (.lmul, 1) := by decide +kernel
theorem dX10_sums_19 : decode cX10_sums 19 = .ok (.aload_n 0, 1) := by decide +kernel
theorem dX10_sums_20 : decode cX10_sums 20 = .ok (.getfield 7, 3) := by decide +kernel
theorem dX10_sums_23 : decode cX10_sums 23 = .ok (.iload_n 3, 1) := by decide +kernel
theorem dX10_sums_24 : decode cX10_sums 24 = .ok (.iload 7, 2) := by decide +kernel
theorem dX10_sums_26 : decode cX10_sums 26 = .ok (.iadd, 1) := by decide +kernel
theorem dX10_sums_27 : decode cX10_sums 27 = .ok (.iaload, 1) := by decide +kernel
theorem dX10_sums_28 : decode cX10_sums 28 = .ok (.i2l, 1) := by decide +kernel
theorem dX10_sums_29 : decode cX10_sums 29 = .ok (.ladd, 1) := by decide +kernel
theorem dX10_sums_30 : decode cX10_sums 30 = .ok (.lstore 5, 2) := by decide +kernel
theorem dX10_sums_32 : decode cX10_sums 32 = .ok (.iinc 7 1, 3) := by decide +kernel
theorem dX10_sums_35 : decode cX10_sums 35 = .ok (.goto (-29), 3) := by decide +kernel
theorem dX10_sums_38 : decode cX10_sums 38 = .ok (.lload 5, 2) := by decide +kernel
theorem dX10_sums_40 : decode cX10_sums 40 = .ok (.lreturn, 1) := by decide +kernel
theorem dX10_digest_0 : decode cX10_digest 0 = .ok (.ldc2_w 293, 3) := by decide +kernel
theorem dX10_digest_3 : decode cX10_digest 3 = .ok (.lstore_n 1, 1) := by decide +kernel
theorem dX10_digest_4 : decode cX10_digest 4 = .ok (.iconst 0, 1) := by decide +kernel
theorem dX10_digest_5 : decode cX10_digest 5 = .ok (.istore_n 3, 1) := by decide +kernel
theorem dX10_digest_6 : decode cX10_digest 6 = .ok (.iload_n 3, 1) := by decide +kernel
theorem dX10_digest_7 : decode cX10_digest 7 = .ok (.bipush 7, 2) := by decide +kernel
theorem dX10_digest_9 : decode cX10_digest 9 = .ok (.if_icmp .ge 22, 3) := by decide +kernel
theorem dX10_digest_12 : decode cX10_digest 12 = .ok (.ldc2_w 291, 3) := by decide +kernel
theorem dX10_digest_15 : decode cX10_digest 15 = .ok (.lload_n 1, 1) := by decide +kernel
theorem dX10_digest_16 : decode cX10_digest 16 = .ok (.lmul, 1) := by decide +kernel
theorem dX10_digest_17 : decode cX10_digest 17 = .ok (.aload_n 0, 1) := by decide +kernel
theorem dX10_digest_18 : decode cX10_digest 18 = .ok (.iload_n 3, 1) := by decide +kernel
theorem dX10_digest_19 : decode cX10_digest 19 = .ok (.invokevirtual 288, 3) := by decide +kernel
theorem dX10_digest_22 : decode cX10_digest 22 = .ok (.i2l, 1) := by decide +kernel
theorem dX10_digest_23 : decode cX10_digest 23 = .ok (.ladd, 1) := by decide +kernel
theorem dX10_digest_24 : decode cX10_digest 24 = .ok (.lstore_n 1, 1) := by decide +kernel
theorem dX10_digest_25 : decode cX10_digest 25 = .ok (.iinc 3 1, 3) := by decide +kernel
theorem dX10_digest_28 : decode cX10_digest 28 = .ok (.goto (-22), 3) := by decide +kernel
theorem dX10_digest_31 : decode cX10_digest 31 = .ok (.iconst 0, 1) := by decide +kernel
theorem dX10_digest_32 : decode cX10_digest 32 = .ok (.istore_n 3, 1) := by decide +kernel
theorem dX10_digest_33 : decode cX10_digest 33 = .ok (.iload_n 3, 1) := by decide +kernel
theorem dX10_digest_34 : decode cX10_digest 34 = .ok (.iconst 4, 1) := by decide +kernel
theorem dX10_digest_35 : decode cX10_digest 35 = .ok (.if_icmp .ge 42, 3) := by decide +kernel
theorem dX10_digest_38 : decode cX10_digest 38 = .ok (.ldc2_w 291, 3) := by decide +kernel
theorem dX10_digest_41 : decode cX10_digest 41 = .ok (.ldc2_w 291, 3) := by decide +kernel
theorem dX10_digest_44 : decode cX10_digest 44 = .ok (.lload_n 1, 1) := by decide +kernel
theorem dX10_digest_45 : decode cX10_digest 45 = .ok (.lmul, 1) := by decide +kernel
theorem dX10_digest_46 : decode cX10_digest 46 = .ok (.aload_n 0, 1) := by decide +kernel
theorem dX10_digest_47 : decode cX10_digest 47 = .ok (.getfield 7, 3) := by decide +kernel
theorem dX10_digest_50 : decode cX10_digest 50 = .ok (.iconst 4, 1) := by decide +kernel
theorem dX10_digest_51 : decode cX10_digest 51 = .ok (.iload_n 3, 1) := by decide +kernel
theorem dX10_digest_52 : decode cX10_digest 52 = .ok (.iadd, 1) := by decide +kernel
theorem dX10_digest_53 : decode cX10_digest 53 = .ok (.iaload, 1) := by decide +kernel
theorem dX10_digest_54 : decode cX10_digest 54 = .ok (.i2l, 1) := by decide +kernel
theorem dX10_digest_55 : decode cX10_digest 55 = .ok (.ladd, 1) := by decide +kernel
theorem dX10_digest_56 : decode cX10_digest 56 = .ok (.lmul, 1) := by decide +kernel
theorem dX10_digest_57 : decode cX10_digest 57 = .ok (.aload_n 0, 1) := by decide +kernel
theorem dX10_digest_58 : decode cX10_digest 58 = .ok (.getfield 7, 3) := by decide +kernel
theorem dX10_digest_61 : decode cX10_digest 61 = .ok (.bipush 8, 2) := by decide +kernel
theorem dX10_digest_63 : decode cX10_digest 63 = .ok (.iaload, 1) := by decide +kernel
theorem dX10_digest_64 : decode cX10_digest 64 = .ok (.iload_n 3, 1) := by decide +kernel
theorem dX10_digest_65 : decode cX10_digest 65 = .ok (.ishr, 1) := by decide +kernel
theorem dX10_digest_66 : decode cX10_digest 66 = .ok (.iconst 1, 1) := by decide +kernel
theorem dX10_digest_67 : decode cX10_digest 67 = .ok (.iand, 1) := by decide +kernel
theorem dX10_digest_68 : decode cX10_digest 68 = .ok (.i2l, 1) := by decide +kernel
theorem dX10_digest_69 : decode cX10_digest 69 = .ok (.ladd, 1) := by decide +kernel
theorem dX10_digest_70 : decode cX10_digest 70 = .ok (.lstore_n 1, 1) := by decide +kernel
theorem dX10_digest_71 : decode cX10_digest 71 = .ok (.iinc 3 1, 3) := by decide +kernel
theorem dX10_digest_74 : decode cX10_digest 74 = .ok (.goto (-41), 3) := by decide +kernel
theorem dX10_digest_77 : decode cX10_digest 77 = .ok (.iconst 0, 1) := by decide +kernel
theorem dX10_digest_78 : decode cX10_digest 78 = .ok (.istore_n 3, 1) := by decide +kernel
theorem dX10_digest_79 : decode cX10_digest 79 = .ok (.iload_n 3, 1) := by decide +kernel
theorem dX10_digest_80 : decode cX10_digest 80 = .ok (.aload_n 0, 1) := by decide +kernel
theorem dX10_digest_81 : decode cX10_digest 81 = .ok (.invokevirtual 64, 3) := by decide +kernel
theorem dX10_digest_84 : decode cX10_digest 84 = .ok (.if_icmp .ge 88, 3) := by decide +kernel
theorem dX10_digest_87 : decode cX10_digest 87 = .ok (.ldc2_w 291, 3) := by decide +kernel
theorem dX10_digest_90 : decode cX10_digest 90 = .ok (.ldc2_w 291, 3) := by decide +kernel
theorem dX10_digest_93 : decode cX10_digest 93 = .ok (.lload_n 1, 1) := by decide +kernel
theorem dX10_digest_94 : decode cX10_digest 94 = .ok (.lmul, 1) := by decide +kernel
theorem dX10_digest_95 : decode cX10_digest 95 = .ok (.aload_n 0, 1) := by decide +kernel
theorem dX10_digest_96 : decode cX10_digest 96 = .ok (.getfield 7, 3) := by decide +kernel
theorem dX10_digest_99 : decode cX10_digest 99 = .ok (.bipush 30, 2) := by decide +kernel
theorem dX10_digest_101 : decode cX10_digest 101 = .ok (.iload_n 3, 1) := by decide +kernel
theorem dX10_digest_102 : decode cX10_digest 102 = .ok (.iadd, 1) := by decide +kernel
theorem dX10_digest_103 : decode cX10_digest 103 = .ok (.iaload, 1) := by decide +kernel
theorem dX10_digest_104 : decode cX10_digest 104 = .ok (.i2l, 1) := by decide +kernel
theorem dX10_digest_105 : decode cX10_digest 105 = .ok (.ladd, 1) := by decide +kernel
theorem dX10_digest_106 : decode cX10_digest 106 = .ok (.lmul, 1) := by decide +kernel
theorem dX10_digest_107 : decode cX10_digest 107 = .ok (.aload_n 0, 1) := by decide +kernel
theorem dX10_digest_108 : decode cX10_digest 108 = .ok (.getfield 7, 3) := by decide +kernel
theorem dX10_digest_111 : decode cX10_digest 111 = .ok (.bipush 37, 2) := by decide +kernel
theorem dX10_digest_113 : decode cX10_digest 113 = .ok (.iload_n 3, 1) := by decide +kernel
theorem dX10_digest_114 : decode cX10_digest 114 = .ok (.iadd, 1) := by decide +kernel
theorem dX10_digest_115 : decode cX10_digest 115 = .ok (.iaload, 1) := by decide +kernel
theorem dX10_digest_116 : decode cX10_digest 116 = .ok (.i2l, 1) := by decide +kernel
theorem dX10_digest_117 : decode cX10_digest 117 = .ok (.ladd, 1) := by decide +kernel
theorem dX10_digest_118 : decode cX10_digest 118 = .ok (.lstore_n 1, 1) := by decide +kernel
theorem dX10_digest_119 : decode cX10_digest 119 = .ok (.ldc2_w 291, 3) := by decide +kernel
theorem dX10_digest_122 : decode cX10_digest 122 = .ok (.ldc2_w 291, 3) := by decide +kernel
theorem dX10_digest_125 : decode cX10_digest 125 = .ok (.ldc2_w 291, 3) := by decide +kernel
theorem dX10_digest_128 : decode cX10_digest 128 = .ok (.lload_n 1, 1) := by decide +kernel
theorem dX10_digest_129 : decode cX10_digest 129 = .ok (.lmul, 1) := by decide +kernel
theorem dX10_digest_130 : decode cX10_digest 130 = .ok (.aload_n 0, 1) := by decide +kernel
theorem dX10_digest_131 : decode cX10_digest 131 = .ok (.getfield 7, 3) := by decide +kernel
theorem dX10_digest_134 : decode cX10_digest 134 = .ok (.bipush 9, 2) := by decide +kernel
theorem dX10_digest_136 : decode cX10_digest 136 = .ok (.iload_n 3, 1) := by decide +kernel
theorem dX10_digest_137 : decode cX10_digest 137 = .ok (.iadd, 1) := by decide +kernel
theorem dX10_digest_138 : decode cX10_digest 138 = .ok (.iaload, 1) := by decide +kernel
theorem dX10_digest_139 : decode cX10_digest 139 = .ok (.i2l, 1) := by decide +kernel
theorem dX10_digest_140 : decode cX10_digest 140 = .ok (.ladd, 1) := by decide +kernel
theorem dX10_digest_141 : decode cX10_digest 141 = .ok (.lmul, 1) := by decide +kernel
theorem dX10_digest_142 : decode cX10_digest 142 = .ok (.aload_n 0, 1) := by decide +kernel
theorem dX10_digest_143 : decode cX10_digest 143 = .ok (.getfield 7, 3) := by decide +kernel
theorem dX10_digest_146 : decode cX10_digest 146 = .ok (.bipush 16, 2) := by decide +kernel
theorem dX10_digest_148 : decode cX10_digest 148 = .ok (.iload_n 3, 1) := by decide +kernel
theorem dX10_digest_149 : decode cX10_digest 149 = .ok (.iadd, 1) := by decide +kernel
theorem dX10_digest_150 : decode cX10_digest 150 = .ok (.iaload, 1) := by decide +kernel
theorem dX10_digest_151 : decode cX10_digest 151 = .ok (.i2l, 1) := by decide +kernel
theorem dX10_digest_152 : decode cX10_digest 152 = .ok (.ladd, 1) := by decide +kernel
theorem dX10_digest_153 : decode cX10_digest 153 = .ok (.lmul, 1) := by decide +kernel
theorem dX10_digest_154 : decode cX10_digest 154 = .ok (.aload_n 0, 1) := by decide +kernel
theorem dX10_digest_155 : decode cX10_digest 155 = .ok (.getfield 7, 3) := by decide +kernel
theorem dX10_digest_158 : decode cX10_digest 158 = .ok (.bipush 23, 2) := by decide +kernel
theorem dX10_digest_160 : decode cX10_digest 160 = .ok (.iload_n 3, 1) := by decide +kernel
theorem dX10_digest_161 : decode cX10_digest 161 = .ok (.iadd, 1) := by decide +kernel
theorem dX10_digest_162 : decode cX10_digest 162 = .ok (.iaload, 1) := by decide +kernel
theorem dX10_digest_163 : decode cX10_digest 163 = .ok (.i2l, 1) := by decide +kernel
theorem dX10_digest_164 : decode cX10_digest 164 = .ok (.ladd, 1) := by decide +kernel
theorem dX10_digest_165 : decode cX10_digest 165 = .ok (.lstore_n 1, 1) := by decide +kernel
theorem dX10_digest_166 : decode cX10_digest 166 = .ok (.iinc 3 1, 3) := by decide +kernel
theorem dX10_digest_169 : decode cX10_digest 169 = .ok (.goto (-90), 3) := by decide +kernel
theorem dX10_digest_172 : decode cX10_digest 172 = .ok (.aload_n 0, 1) := by decide +kernel
theorem dX10_digest_173 : decode cX10_digest 173 = .ok (.lload_n 1, 1) := by decide +kernel
theorem dX10_digest_174 : decode cX10_digest 174 = .ok (.bipush 44, 2) := by decide +kernel
theorem dX10_digest_176 : decode cX10_digest 176 = .ok (.iconst 5, 1) := by decide +kernel
theorem dX10_digest_177 : decode cX10_digest 177 = .ok (.aload_n 0, 1) := by decide +kernel
theorem dX10_digest_178 : decode cX10_digest 178 = .ok (.getfield 7, 3) := by decide +kernel
theorem dX10_digest_181 : decode cX10_digest 181 = .ok (.iconst 2, 1) := by decide +kernel
theorem dX10_digest_182 : decode cX10_digest 182 = .ok (.iaload, 1) := by decide +kernel
theorem dX10_digest_183 : decode cX10_digest 183 = .ok (.imul, 1) := by decide +kernel
theorem dX10_digest_184 : decode cX10_digest 184 = .ok (.invokevirtual 295, 3) := by decide +kernel
theorem dX10_digest_187 : decode cX10_digest 187 = .ok (.lstore_n 1, 1) := by decide +kernel
theorem dX10_digest_188 : decode cX10_digest 188 = .ok (.ldc2_w 291, 3) := by decide +kernel
theorem dX10_digest_191 : decode cX10_digest 191 = .ok (.ldc2_w 291, 3) := by decide +kernel
theorem dX10_digest_194 : decode cX10_digest 194 = .ok (.lload_n 1, 1) := by decide +kernel
theorem dX10_digest_195 : decode cX10_digest 195 = .ok (.lmul, 1) := by decide +kernel
theorem dX10_digest_196 : decode cX10_digest 196 = .ok (.aload_n 0, 1) := by decide +kernel
theorem dX10_digest_197 : decode cX10_digest 197 = .ok (.getfield 201, 3) := by decide +kernel
theorem dX10_digest_200 : decode cX10_digest 200 = .ok (.ladd, 1) := by decide +kernel
theorem dX10_digest_201 : decode cX10_digest 201 = .ok (.lmul, 1) := by decide +kernel
theorem dX10_digest_202 : decode cX10_digest 202 = .ok (.aload_n 0, 1) := by decide +kernel
theorem dX10_digest_203 : decode cX10_digest 203 = .ok (.getfield 23, 3) := by decide +kernel
theorem dX10_digest_206 : decode cX10_digest 206 = .ok (.ladd, 1) := by decide +kernel
theorem dX10_digest_207 : decode cX10_digest 207 = .ok (.lreturn, 1) := by decide +kernel
theorem dL_law_0 : decode cL_law 0 = .ok (.new 7, 3) := by decide +kernel
theorem dL_law_3 : decode cL_law 3 = .ok (.dup, 1) := by decide +kernel
theorem dL_law_4 : decode cL_law 4 = .ok (.invokespecial 9, 3) := by decide +kernel
theorem dL_law_7 : decode cL_law 7 = .ok (.astore_n 1, 1) := by decide +kernel
theorem dL_law_8 : decode cL_law 8 = .ok (.new 10, 3) := by decide +kernel
theorem dL_law_11 : decode cL_law 11 = .ok (.dup, 1) := by decide +kernel
theorem dL_law_12 : decode cL_law 12 = .ok (.invokespecial 12, 3) := by decide +kernel
theorem dL_law_15 : decode cL_law 15 = .ok (.astore_n 2, 1) := by decide +kernel
theorem dL_law_16 : decode cL_law 16 = .ok (.iconst 0, 1) := by decide +kernel
theorem dL_law_17 : decode cL_law 17 = .ok (.istore_n 3, 1) := by decide +kernel
theorem dL_law_18 : decode cL_law 18 = .ok (.iload_n 3, 1) := by decide +kernel
theorem dL_law_19 : decode cL_law 19 = .ok (.aload_n 0, 1) := by decide +kernel
theorem dL_law_20 : decode cL_law 20 = .ok (.arraylength, 1) := by decide +kernel
theorem dL_law_21 : decode cL_law 21 = .ok (.bipush 6, 2) := by decide +kernel
theorem dL_law_23 : decode cL_law 23 = .ok (.isub, 1) := by decide +kernel
theorem dL_law_24 : decode cL_law 24 = .ok (.if_icmp .gt 1157, 3) := by decide +kernel
theorem dL_law_27 : decode cL_law 27 = .ok (.aload_n 0, 1) := by decide +kernel
theorem dL_law_28 : decode cL_law 28 = .ok (.iload_n 3, 1) := by decide +kernel
theorem dL_law_29 : decode cL_law 29 = .ok (.iaload, 1) := by decide +kernel
theorem dL_law_30 : decode cL_law 30 = .ok (.bipush 63, 2) := by decide +kernel
theorem dL_law_32 : decode cL_law 32 = .ok (.iand, 1) := by decide +kernel
theorem dL_law_33 : decode cL_law 33 = .ok (.tableswitch 1142 0 34 #[155, 168, 201, 234, 277, 300, 313, 326, 359, 382, 395, 428, 461, 504, 537, 560, 593, 616, 639, 662, 685, 738, 771, 834, 847, 880, 903, 936, 979, 1012, 1036, 1059, 1082, 1105, 1128], 155) := by decide +kernel
theorem dL_law_188 : decode cL_law 188 = .ok (.aload_n 1, 1) := by decide +kernel
theorem dL_law_189 : decode cL_law 189 = .ok (.invokevirtual 13, 3) := by decide +kernel
theorem dL_law_192 : decode cL_law 192 = .ok (.aload_n 2, 1) := by decide +kernel
theorem dL_law_193 : decode cL_law 193 = .ok (.invokevirtual 17, 3) := by decide +kernel
theorem dL_law_196 : decode cL_law 196 = .ok (.if_icmp .eq 979, 3) := by decide +kernel
theorem dL_law_199 : decode cL_law 199 = .ok (.iconst 0, 1) := by decide +kernel
theorem dL_law_200 : decode cL_law 200 = .ok (.ireturn, 1) := by decide +kernel
theorem dL_law_201 : decode cL_law 201 = .ok (.aload_n 1, 1) := by decide +kernel
theorem dL_law_202 : decode cL_law 202 = .ok (.aload_n 0, 1) := by decide +kernel
theorem dL_law_203 : decode cL_law 203 = .ok (.iload_n 3, 1) := by decide +kernel
theorem dL_law_204 : decode cL_law 204 = .ok (.iconst 1, 1) := by decide +kernel
theorem dL_law_205 : decode cL_law 205 = .ok (.iadd, 1) := by decide +kernel
theorem dL_law_206 : decode cL_law 206 = .ok (.iaload, 1) := by decide +kernel
theorem dL_law_207 : decode cL_law 207 = .ok (.aload_n 0, 1) := by decide +kernel
theorem dL_law_208 : decode cL_law 208 = .ok (.iload_n 3, 1) := by decide +kernel
theorem dL_law_209 : decode cL_law 209 = .ok (.iconst 2, 1) := by decide +kernel
theorem dL_law_210 : decode cL_law 210 = .ok (.iadd, 1) := by decide +kernel
theorem dL_law_211 : decode cL_law 211 = .ok (.iaload, 1) := by decide +kernel
theorem dL_law_212 : decode cL_law 212 = .ok (.invokevirtual 18, 3) := by decide +kernel
theorem dL_law_215 : decode cL_law 215 = .ok (.aload_n 2, 1) := by decide +kernel
theorem dL_law_216 : decode cL_law 216 = .ok (.aload_n 0, 1) := by decide +kernel
theorem dL_law_217 : decode cL_law 217 = .ok (.iload_n 3, 1) := by decide +kernel
theorem dL_law_218 : decode cL_law 218 = .ok (.iconst 1, 1) := by decide +kernel
theorem dL_law_219 : decode cL_law 219 = .ok (.iadd, 1) := by decide +kernel
theorem dL_law_220 : decode cL_law 220 = .ok (.iaload, 1) := by decide +kernel
theorem dL_law_221 : decode cL_law 221 = .ok (.aload_n 0, 1) := by decide +kernel
theorem dL_law_222 : decode cL_law 222 = .ok (.iload_n 3, 1) := by decide +kernel
theorem dL_law_223 : decode cL_law 223 = .ok (.iconst 2, 1) := by decide +kernel
theorem dL_law_224 : decode cL_law 224 = .ok (.iadd, 1) := by decide +kernel
theorem dL_law_225 : decode cL_law 225 = .ok (.iaload, 1) := by decide +kernel
theorem dL_law_226 : decode cL_law 226 = .ok (.invokevirtual 22, 3) := by decide +kernel
theorem dL_law_229 : decode cL_law 229 = .ok (.if_icmp .eq 946, 3) := by decide +kernel
theorem dL_law_232 : decode cL_law 232 = .ok (.iconst 0, 1) := by decide +kernel
theorem dL_law_233 : decode cL_law 233 = .ok (.ireturn, 1) := by decide +kernel
theorem dL_law_234 : decode cL_law 234 = .ok (.aload_n 1, 1) := by decide +kernel
theorem dL_law_235 : decode cL_law 235 = .ok (.aload_n 0, 1) := by decide +kernel
theorem dL_law_236 : decode cL_law 236 = .ok (.iload_n 3, 1) := by decide +kernel
theorem dL_law_237 : decode cL_law 237 = .ok (.iconst 1, 1) := by decide +kernel
theorem dL_law_238 : decode cL_law 238 = .ok (.iadd, 1) := by decide +kernel
theorem dL_law_239 : decode cL_law 239 = .ok (.iaload, 1) := by decide +kernel
theorem dL_law_240 : decode cL_law 240 = .ok (.aload_n 0, 1) := by decide +kernel
theorem dL_law_241 : decode cL_law 241 = .ok (.iload_n 3, 1) := by decide +kernel
theorem dL_law_242 : decode cL_law 242 = .ok (.iconst 2, 1) := by decide +kernel
theorem dL_law_243 : decode cL_law 243 = .ok (.iadd, 1) := by decide +kernel
theorem dL_law_244 : decode cL_law 244 = .ok (.iaload, 1) := by decide +kernel
theorem dL_law_245 : decode cL_law 245 = .ok (.invokevirtual 23, 3) := by decide +kernel
theorem dL_law_248 : decode cL_law 248 = .ok (.aload_n 2, 1) := by decide +kernel
theorem dL_law_249 : decode cL_law 249 = .ok (.aload_n 0, 1) := by decide +kernel
theorem dL_law_250 : decode cL_law 250 = .ok (.iload_n 3, 1) := by decide +kernel
theorem dL_law_251 : decode cL_law 251 = .ok (.iconst 1, 1) := by decide +kernel
theorem dL_law_252 : decode cL_law 252 = .ok (.iadd, 1) := by decide +kernel
theorem dL_law_253 : decode cL_law 253 = .ok (.iaload, 1) := by decide +kernel
theorem dL_law_254 : decode cL_law 254 = .ok (.aload_n 0, 1) := by decide +kernel
theorem dL_law_255 : decode cL_law 255 = .ok (.iload_n 3, 1) := by decide +kernel
theorem dL_law_256 : decode cL_law 256 = .ok (.iconst 2, 1) := by decide +kernel
theorem dL_law_257 : decode cL_law 257 = .ok (.iadd, 1) := by decide +kernel
theorem dL_law_258 : decode cL_law 258 = .ok (.iaload, 1) := by decide +kernel
theorem dL_law_259 : decode cL_law 259 = .ok (.invokevirtual 26, 3) := by decide +kernel
theorem dL_law_262 : decode cL_law 262 = .ok (.if_icmp .eq 913, 3) := by decide +kernel
theorem dL_law_265 : decode cL_law 265 = .ok (.iconst 0, 1) := by decide +kernel
theorem dL_law_266 : decode cL_law 266 = .ok (.ireturn, 1) := by decide +kernel
theorem dL_law_267 : decode cL_law 267 = .ok (.aload_n 1, 1) := by decide +kernel
theorem dL_law_268 : decode cL_law 268 = .ok (.aload_n 0, 1) := by decide +kernel
theorem dL_law_269 : decode cL_law 269 = .ok (.iload_n 3, 1) := by decide +kernel
theorem dL_law_270 : decode cL_law 270 = .ok (.iconst 1, 1) := by decide +kernel
theorem dL_law_271 : decode cL_law 271 = .ok (.iadd, 1) := by decide +kernel
theorem dL_law_272 : decode cL_law 272 = .ok (.iaload, 1) := by decide +kernel
theorem dL_law_273 : decode cL_law 273 = .ok (.aload_n 0, 1) := by decide +kernel
theorem dL_law_274 : decode cL_law 274 = .ok (.iload_n 3, 1) := by decide +kernel
theorem dL_law_275 : decode cL_law 275 = .ok (.iconst 2, 1) := by decide +kernel
theorem dL_law_276 : decode cL_law 276 = .ok (.iadd, 1) := by decide +kernel
theorem dL_law_277 : decode cL_law 277 = .ok (.iaload, 1) := by decide +kernel
theorem dL_law_278 : decode cL_law 278 = .ok (.aload_n 0, 1) := by decide +kernel
theorem dL_law_279 : decode cL_law 279 = .ok (.iload_n 3, 1) := by decide +kernel
theorem dL_law_280 : decode cL_law 280 = .ok (.iconst 3, 1) := by decide +kernel
theorem dL_law_281 : decode cL_law 281 = .ok (.iadd, 1) := by decide +kernel
theorem dL_law_282 : decode cL_law 282 = .ok (.iaload, 1) := by decide +kernel
theorem dL_law_283 : decode cL_law 283 = .ok (.invokevirtual 27, 3) := by decide +kernel
theorem dL_law_286 : decode cL_law 286 = .ok (.aload_n 2, 1) := by decide +kernel
theorem dL_law_287 : decode cL_law 287 = .ok (.aload_n 0, 1) := by decide +kernel
theorem dL_law_288 : decode cL_law 288 = .ok (.iload_n 3, 1) := by decide +kernel
theorem dL_law_289 : decode cL_law 289 = .ok (.iconst 1, 1) := by decide +kernel
theorem dL_law_290 : decode cL_law 290 = .ok (.iadd, 1) := by decide +kernel
theorem dL_law_291 : decode cL_law 291 = .ok (.iaload, 1) := by decide +kernel
theorem dL_law_292 : decode cL_law 292 = .ok (.aload_n 0, 1) := by decide +kernel
theorem dL_law_293 : decode cL_law 293 = .ok (.iload_n 3, 1) := by decide +kernel
theorem dL_law_294 : decode cL_law 294 = .ok (.iconst 2, 1) := by decide +kernel
theorem dL_law_295 : decode cL_law 295 = .ok (.iadd, 1) := by decide +kernel
theorem dL_law_296 : decode cL_law 296 = .ok (.iaload, 1) := by decide +kernel
theorem dL_law_297 : decode cL_law 297 = .ok (.aload_n 0, 1) := by decide +kernel
theorem dL_law_298 : decode cL_law 298 = .ok (.iload_n 3, 1) := by decide +kernel
theorem dL_law_299 : decode cL_law 299 = .ok (.iconst 3, 1) := by decide +kernel
theorem dL_law_300 : decode cL_law 300 = .ok (.iadd, 1) := by decide +kernel
theorem dL_law_301 : decode cL_law 301 = .ok (.iaload, 1) := by decide +kernel
theorem dL_law_302 : decode cL_law 302 = .ok (.invokevirtual 31, 3) := by decide +kernel
theorem dL_law_305 : decode cL_law 305 = .ok (.if_icmp .eq 870, 3) := by decide +kernel
theorem dL_law_308 : decode cL_law 308 = .ok (.iconst 0, 1) := by decide +kernel
theorem dL_law_309 : decode cL_law 309 = .ok (.ireturn, 1) := by decide +kernel
theorem dL_law_310 : decode cL_law 310 = .ok (.aload_n 1, 1) := by decide +kernel
theorem dL_law_311 : decode cL_law 311 = .ok (.aload_n 0, 1) := by decide +kernel
theorem dL_law_312 : decode cL_law 312 = .ok (.iload_n 3, 1) := by decide +kernel
theorem dL_law_313 : decode cL_law 313 = .ok (.iconst 1, 1) := by decide +kernel
theorem dL_law_314 : decode cL_law 314 = .ok (.iadd, 1) := by decide +kernel
theorem dL_law_315 : decode cL_law 315 = .ok (.iaload, 1) := by decide +kernel
theorem dL_law_316 : decode cL_law 316 = .ok (.invokevirtual 32, 3) := by decide +kernel
theorem dL_law_319 : decode cL_law 319 = .ok (.aload_n 2, 1) := by decide +kernel
theorem dL_law_320 : decode cL_law 320 = .ok (.aload_n 0, 1) := by decide +kernel
theorem dL_law_321 : decode cL_law 321 = .ok (.iload_n 3, 1) := by decide +kernel
theorem dL_law_322 : decode cL_law 322 = .ok (.iconst 1, 1) := by decide +kernel
theorem dL_law_323 : decode cL_law 323 = .ok (.iadd, 1) := by decide +kernel
theorem dL_law_324 : decode cL_law 324 = .ok (.iaload, 1) := by decide +kernel
theorem dL_law_325 : decode cL_law 325 = .ok (.invokevirtual 36, 3) := by decide +kernel
theorem dL_law_328 : decode cL_law 328 = .ok (.if_icmp .eq 847, 3) := by decide +kernel
theorem dL_law_331 : decode cL_law 331 = .ok (.iconst 0, 1) := by decide +kernel
theorem dL_law_332 : decode cL_law 332 = .ok (.ireturn, 1) := by decide +kernel
theorem dL_law_333 : decode cL_law 333 = .ok (.aload_n 1, 1) := by decide +kernel
theorem dL_law_334 : decode cL_law 334 = .ok (.invokevirtual 37, 3) := by decide +kernel
theorem dL_law_337 : decode cL_law 337 = .ok (.aload_n 2, 1) := by decide +kernel
theorem dL_law_338 : decode cL_law 338 = .ok (.invokevirtual 40, 3) := by decide +kernel
theorem dL_law_341 : decode cL_law 341 = .ok (.if_icmp .eq 834, 3) := by decide +kernel
theorem dL_law_344 : decode cL_law 344 = .ok (.iconst 0, 1) := by decide +kernel
theorem dL_law_345 : decode cL_law 345 = .ok (.ireturn, 1) := by decide +kernel
theorem dL_law_346 : decode cL_law 346 = .ok (.aload_n 1, 1) := by decide +kernel
theorem dL_law_347 : decode cL_law 347 = .ok (.invokevirtual 41, 3) := by decide +kernel
theorem dL_law_350 : decode cL_law 350 = .ok (.aload_n 2, 1) := by decide +kernel
theorem dL_law_351 : decode cL_law 351 = .ok (.invokevirtual 44, 3) := by decide +kernel
theorem dL_law_354 : decode cL_law 354 = .ok (.if_icmp .eq 821, 3) := by decide +kernel
theorem dL_law_357 : decode cL_law 357 = .ok (.iconst 0, 1) := by decide +kernel
theorem dL_law_358 : decode cL_law 358 = .ok (.ireturn, 1) := by decide +kernel
theorem dL_law_359 : decode cL_law 359 = .ok (.aload_n 1, 1) := by decide +kernel
theorem dL_law_360 : decode cL_law 360 = .ok (.aload_n 0, 1) := by decide +kernel
theorem dL_law_361 : decode cL_law 361 = .ok (.iload_n 3, 1) := by decide +kernel
theorem dL_law_362 : decode cL_law 362 = .ok (.iconst 1, 1) := by decide +kernel
theorem dL_law_363 : decode cL_law 363 = .ok (.iadd, 1) := by decide +kernel
theorem dL_law_364 : decode cL_law 364 = .ok (.iaload, 1) := by decide +kernel
theorem dL_law_365 : decode cL_law 365 = .ok (.aload_n 0, 1) := by decide +kernel
theorem dL_law_366 : decode cL_law 366 = .ok (.iload_n 3, 1) := by decide +kernel
theorem dL_law_367 : decode cL_law 367 = .ok (.iconst 2, 1) := by decide +kernel
theorem dL_law_368 : decode cL_law 368 = .ok (.iadd, 1) := by decide +kernel
theorem dL_law_369 : decode cL_law 369 = .ok (.iaload, 1) := by decide +kernel
theorem dL_law_370 : decode cL_law 370 = .ok (.invokevirtual 45, 3) := by decide +kernel
theorem dL_law_373 : decode cL_law 373 = .ok (.aload_n 2, 1) := by decide +kernel
theorem dL_law_374 : decode cL_law 374 = .ok (.aload_n 0, 1) := by decide +kernel
theorem dL_law_375 : decode cL_law 375 = .ok (.iload_n 3, 1) := by decide +kernel
theorem dL_law_376 : decode cL_law 376 = .ok (.iconst 1, 1) := by decide +kernel
theorem dL_law_377 : decode cL_law 377 = .ok (.iadd, 1) := by decide +kernel
theorem dL_law_378 : decode cL_law 378 = .ok (.iaload, 1) := by decide +kernel
theorem dL_law_379 : decode cL_law 379 = .ok (.aload_n 0, 1) := by decide +kernel
theorem dL_law_380 : decode cL_law 380 = .ok (.iload_n 3, 1) := by decide +kernel
theorem dL_law_381 : decode cL_law 381 = .ok (.iconst 2, 1) := by decide +kernel
theorem dL_law_382 : decode cL_law 382 = .ok (.iadd, 1) := by decide +kernel
theorem dL_law_383 : decode cL_law 383 = .ok (.iaload, 1) := by decide +kernel
theorem dL_law_384 : decode cL_law 384 = .ok (.invokevirtual 48, 3) := by decide +kernel
theorem dL_law_387 : decode cL_law 387 = .ok (.if_icmp .eq 788, 3) := by decide +kernel
theorem dL_law_390 : decode cL_law 390 = .ok (.iconst 0, 1) := by decide +kernel
theorem dL_law_391 : decode cL_law 391 = .ok (.ireturn, 1) := by decide +kernel
theorem dL_law_392 : decode cL_law 392 = .ok (.aload_n 1, 1) := by decide +kernel
theorem dL_law_393 : decode cL_law 393 = .ok (.aload_n 0, 1) := by decide +kernel
theorem dL_law_394 : decode cL_law 394 = .ok (.iload_n 3, 1) := by decide +kernel
theorem dL_law_395 : decode cL_law 395 = .ok (.iconst 1, 1) := by decide +kernel
theorem dL_law_396 : decode cL_law 396 = .ok (.iadd, 1) := by decide +kernel
theorem dL_law_397 : decode cL_law 397 = .ok (.iaload, 1) := by decide +kernel
theorem dL_law_398 : decode cL_law 398 = .ok (.invokevirtual 49, 3) := by decide +kernel
theorem dL_law_401 : decode cL_law 401 = .ok (.aload_n 2, 1) := by decide +kernel
theorem dL_law_402 : decode cL_law 402 = .ok (.aload_n 0, 1) := by decide +kernel
theorem dL_law_403 : decode cL_law 403 = .ok (.iload_n 3, 1) := by decide +kernel
theorem dL_law_404 : decode cL_law 404 = .ok (.iconst 1, 1) := by decide +kernel
theorem dL_law_405 : decode cL_law 405 = .ok (.iadd, 1) := by decide +kernel
theorem dL_law_406 : decode cL_law 406 = .ok (.iaload, 1) := by decide +kernel
theorem dL_law_407 : decode cL_law 407 = .ok (.invokevirtual 52, 3) := by decide +kernel
theorem dL_law_410 : decode cL_law 410 = .ok (.if_icmp .eq 765, 3) := by decide +kernel
theorem dL_law_413 : decode cL_law 413 = .ok (.iconst 0, 1) := by decide +kernel
theorem dL_law_414 : decode cL_law 414 = .ok (.ireturn, 1) := by decide +kernel
theorem dL_law_415 : decode cL_law 415 = .ok (.aload_n 1, 1) := by decide +kernel
theorem dL_law_416 : decode cL_law 416 = .ok (.invokevirtual 53, 3) := by decide +kernel
theorem dL_law_419 : decode cL_law 419 = .ok (.aload_n 2, 1) := by decide +kernel
theorem dL_law_420 : decode cL_law 420 = .ok (.invokevirtual 56, 3) := by decide +kernel
theorem dL_law_423 : decode cL_law 423 = .ok (.if_icmp .eq 752, 3) := by decide +kernel
theorem dL_law_426 : decode cL_law 426 = .ok (.iconst 0, 1) := by decide +kernel
theorem dL_law_427 : decode cL_law 427 = .ok (.ireturn, 1) := by decide +kernel
theorem dL_law_428 : decode cL_law 428 = .ok (.aload_n 1, 1) := by decide +kernel
theorem dL_law_429 : decode cL_law 429 = .ok (.aload_n 0, 1) := by decide +kernel
theorem dL_law_430 : decode cL_law 430 = .ok (.iload_n 3, 1) := by decide +kernel
theorem dL_law_431 : decode cL_law 431 = .ok (.iconst 1, 1) := by decide +kernel
theorem dL_law_432 : decode cL_law 432 = .ok (.iadd, 1) := by decide +kernel
theorem dL_law_433 : decode cL_law 433 = .ok (.iaload, 1) := by decide +kernel
theorem dL_law_434 : decode cL_law 434 = .ok (.aload_n 0, 1) := by decide +kernel
theorem dL_law_435 : decode cL_law 435 = .ok (.iload_n 3, 1) := by decide +kernel
theorem dL_law_436 : decode cL_law 436 = .ok (.iconst 2, 1) := by decide +kernel
theorem dL_law_437 : decode cL_law 437 = .ok (.iadd, 1) := by decide +kernel
theorem dL_law_438 : decode cL_law 438 = .ok (.iaload, 1) := by decide +kernel
theorem dL_law_439 : decode cL_law 439 = .ok (.invokevirtual 57, 3) := by decide +kernel
theorem dL_law_442 : decode cL_law 442 = .ok (.aload_n 2, 1) := by decide +kernel
theorem dL_law_443 : decode cL_law 443 = .ok (.aload_n 0, 1) := by decide +kernel
theorem dL_law_444 : decode cL_law 444 = .ok (.iload_n 3, 1) := by decide +kernel
theorem dL_law_445 : decode cL_law 445 = .ok (.iconst 1, 1) := by decide +kernel
theorem dL_law_446 : decode cL_law 446 = .ok (.iadd, 1) := by decide +kernel
theorem dL_law_447 : decode cL_law 447 = .ok (.iaload, 1) := by decide +kernel
theorem dL_law_448 : decode cL_law 448 = .ok (.aload_n 0, 1) := by decide +kernel
theorem dL_law_449 : decode cL_law 449 = .ok (.iload_n 3, 1) := by decide +kernel
theorem dL_law_450 : decode cL_law 450 = .ok (.iconst 2, 1) := by decide +kernel
theorem dL_law_451 : decode cL_law 451 = .ok (.iadd, 1) := by decide +kernel
theorem dL_law_452 : decode cL_law 452 = .ok (.iaload, 1) := by decide +kernel
theorem dL_law_453 : decode cL_law 453 = .ok (.invokevirtual 60, 3) := by decide +kernel
theorem dL_law_456 : decode cL_law 456 = .ok (.if_icmp .eq 719, 3) := by decide +kernel
theorem dL_law_459 : decode cL_law 459 = .ok (.iconst 0, 1) := by decide +kernel
theorem dL_law_460 : decode cL_law 460 = .ok (.ireturn, 1) := by decide +kernel
theorem dL_law_461 : decode cL_law 461 = .ok (.aload_n 1, 1) := by decide +kernel
theorem dL_law_462 : decode cL_law 462 = .ok (.aload_n 0, 1) := by decide +kernel
theorem dL_law_463 : decode cL_law 463 = .ok (.iload_n 3, 1) := by decide +kernel
theorem dL_law_464 : decode cL_law 464 = .ok (.iconst 1, 1) := by decide +kernel
theorem dL_law_465 : decode cL_law 465 = .ok (.iadd, 1) := by decide +kernel
theorem dL_law_466 : decode cL_law 466 = .ok (.iaload, 1) := by decide +kernel
theorem dL_law_467 : decode cL_law 467 = .ok (.aload_n 0, 1) := by decide +kernel
theorem dL_law_468 : decode cL_law 468 = .ok (.iload_n 3, 1) := by decide +kernel
theorem dL_law_469 : decode cL_law 469 = .ok (.iconst 2, 1) := by decide +kernel
theorem dL_law_470 : decode cL_law 470 = .ok (.iadd, 1) := by decide +kernel
theorem dL_law_471 : decode cL_law 471 = .ok (.iaload, 1) := by decide +kernel
theorem dL_law_472 : decode cL_law 472 = .ok (.invokevirtual 61, 3) := by decide +kernel
theorem dL_law_475 : decode cL_law 475 = .ok (.aload_n 2, 1) := by decide +kernel
theorem dL_law_476 : decode cL_law 476 = .ok (.aload_n 0, 1) := by decide +kernel
theorem dL_law_477 : decode cL_law 477 = .ok (.iload_n 3, 1) := by decide +kernel
theorem dL_law_478 : decode cL_law 478 = .ok (.iconst 1, 1) := by decide +kernel
theorem dL_law_479 : decode cL_law 479 = .ok (.iadd, 1) := by decide +kernel
theorem dL_law_480 : decode cL_law 480 = .ok (.iaload, 1) := by decide +kernel
theorem dL_law_481 : decode cL_law 481 = .ok (.aload_n 0, 1) := by decide +kernel
theorem dL_law_482 : decode cL_law 482 = .ok (.iload_n 3, 1) := by decide +kernel
theorem dL_law_483 : decode cL_law 483 = .ok (.iconst 2, 1) := by decide +kernel
theorem dL_law_484 : decode cL_law 484 = .ok (.iadd, 1) := by decide +kernel
theorem dL_law_485 : decode cL_law 485 = .ok (.iaload, 1) := by decide +kernel
theorem dL_law_486 : decode cL_law 486 = .ok (.invokevirtual 64, 3) := by decide +kernel
theorem dL_law_489 : decode cL_law 489 = .ok (.if_icmp .eq 686, 3) := by decide +kernel
theorem dL_law_492 : decode cL_law 492 = .ok (.iconst 0, 1) := by decide +kernel
theorem dL_law_493 : decode cL_law 493 = .ok (.ireturn, 1) := by decide +kernel
theorem dL_law_494 : decode cL_law 494 = .ok (.aload_n 1, 1) := by decide +kernel
theorem dL_law_495 : decode cL_law 495 = .ok (.aload_n 0, 1) := by decide +kernel
theorem dL_law_496 : decode cL_law 496 = .ok (.iload_n 3, 1) := by decide +kernel
theorem dL_law_497 : decode cL_law 497 = .ok (.iconst 1, 1) := by decide +kernel
theorem dL_law_498 : decode cL_law 498 = .ok (.iadd, 1) := by decide +kernel
theorem dL_law_499 : decode cL_law 499 = .ok (.iaload, 1) := by decide +kernel
theorem dL_law_500 : decode cL_law 500 = .ok (.aload_n 0, 1) := by decide +kernel
theorem dL_law_501 : decode cL_law 501 = .ok (.iload_n 3, 1) := by decide +kernel
theorem dL_law_502 : decode cL_law 502 = .ok (.iconst 2, 1) := by decide +kernel
theorem dL_law_503 : decode cL_law 503 = .ok (.iadd, 1) := by decide +kernel
theorem dL_law_504 : decode cL_law 504 = .ok (.iaload, 1) := by decide +kernel
theorem dL_law_505 : decode cL_law 505 = .ok (.aload_n 0, 1) := by decide +kernel
theorem dL_law_506 : decode cL_law 506 = .ok (.iload_n 3, 1) := by decide +kernel
theorem dL_law_507 : decode cL_law 507 = .ok (.iconst 3, 1) := by decide +kernel
theorem dL_law_508 : decode cL_law 508 = .ok (.iadd, 1) := by decide +kernel
theorem dL_law_509 : decode cL_law 509 = .ok (.iaload, 1) := by decide +kernel
theorem dL_law_510 : decode cL_law 510 = .ok (.invokevirtual 65, 3) := by decide +kernel
theorem dL_law_513 : decode cL_law 513 = .ok (.aload_n 2, 1) := by decide +kernel
theorem dL_law_514 : decode cL_law 514 = .ok (.aload_n 0, 1) := by decide +kernel
theorem dL_law_515 : decode cL_law 515 = .ok (.iload_n 3, 1) := by decide +kernel
theorem dL_law_516 : decode cL_law 516 = .ok (.iconst 1, 1) := by decide +kernel
theorem dL_law_517 : decode cL_law 517 = .ok (.iadd, 1) := by decide +kernel
theorem dL_law_518 : decode cL_law 518 = .ok (.iaload, 1) := by decide +kernel
theorem dL_law_519 : decode cL_law 519 = .ok (.aload_n 0, 1) := by decide +kernel
theorem dL_law_520 : decode cL_law 520 = .ok (.iload_n 3, 1) := by decide +kernel
theorem dL_law_521 : decode cL_law 521 = .ok (.iconst 2, 1) := by decide +kernel
theorem dL_law_522 : decode cL_law 522 = .ok (.iadd, 1) := by decide +kernel
theorem dL_law_523 : decode cL_law 523 = .ok (.iaload, 1) := by decide +kernel
theorem dL_law_524 : decode cL_law 524 = .ok (.aload_n 0, 1) := by decide +kernel
theorem dL_law_525 : decode cL_law 525 = .ok (.iload_n 3, 1) := by decide +kernel
theorem dL_law_526 : decode cL_law 526 = .ok (.iconst 3, 1) := by decide +kernel
theorem dL_law_527 : decode cL_law 527 = .ok (.iadd, 1) := by decide +kernel
theorem dL_law_528 : decode cL_law 528 = .ok (.iaload, 1) := by decide +kernel
theorem dL_law_529 : decode cL_law 529 = .ok (.invokevirtual 68, 3) := by decide +kernel
theorem dL_law_532 : decode cL_law 532 = .ok (.if_icmp .eq 643, 3) := by decide +kernel
theorem dL_law_535 : decode cL_law 535 = .ok (.iconst 0, 1) := by decide +kernel
theorem dL_law_536 : decode cL_law 536 = .ok (.ireturn, 1) := by decide +kernel
theorem dL_law_537 : decode cL_law 537 = .ok (.aload_n 1, 1) := by decide +kernel
theorem dL_law_538 : decode cL_law 538 = .ok (.aload_n 0, 1) := by decide +kernel
theorem dL_law_539 : decode cL_law 539 = .ok (.iload_n 3, 1) := by decide +kernel
theorem dL_law_540 : decode cL_law 540 = .ok (.iconst 1, 1) := by decide +kernel
theorem dL_law_541 : decode cL_law 541 = .ok (.iadd, 1) := by decide +kernel
theorem dL_law_542 : decode cL_law 542 = .ok (.iaload, 1) := by decide +kernel
theorem dL_law_543 : decode cL_law 543 = .ok (.aload_n 0, 1) := by decide +kernel
theorem dL_law_544 : decode cL_law 544 = .ok (.iload_n 3, 1) := by decide +kernel
theorem dL_law_545 : decode cL_law 545 = .ok (.iconst 2, 1) := by decide +kernel
theorem dL_law_546 : decode cL_law 546 = .ok (.iadd, 1) := by decide +kernel
theorem dL_law_547 : decode cL_law 547 = .ok (.iaload, 1) := by decide +kernel
theorem dL_law_548 : decode cL_law 548 = .ok (.invokevirtual 69, 3) := by decide +kernel
theorem dL_law_551 : decode cL_law 551 = .ok (.aload_n 2, 1) := by decide +kernel
theorem dL_law_552 : decode cL_law 552 = .ok (.aload_n 0, 1) := by decide +kernel
theorem dL_law_553 : decode cL_law 553 = .ok (.iload_n 3, 1) := by decide +kernel
theorem dL_law_554 : decode cL_law 554 = .ok (.iconst 1, 1) := by decide +kernel
theorem dL_law_555 : decode cL_law 555 = .ok (.iadd, 1) := by decide +kernel
theorem dL_law_556 : decode cL_law 556 = .ok (.iaload, 1) := by decide +kernel
theorem dL_law_557 : decode cL_law 557 = .ok (.aload_n 0, 1) := by decide +kernel
theorem dL_law_558 : decode cL_law 558 = .ok (.iload_n 3, 1) := by decide +kernel
theorem dL_law_559 : decode cL_law 559 = .ok (.iconst 2, 1) := by decide +kernel
theorem dL_law_560 : decode cL_law 560 = .ok (.iadd, 1) := by decide +kernel
theorem dL_law_561 : decode cL_law 561 = .ok (.iaload, 1) := by decide +kernel
theorem dL_law_562 : decode cL_law 562 = .ok (.invokevirtual 72, 3) := by decide +kernel
theorem dL_law_565 : decode cL_law 565 = .ok (.if_icmp .eq 610, 3) := by decide +kernel
theorem dL_law_568 : decode cL_law 568 = .ok (.iconst 0, 1) := by decide +kernel
theorem dL_law_569 : decode cL_law 569 = .ok (.ireturn, 1) := by decide +kernel
theorem dL_law_570 : decode cL_law 570 = .ok (.aload_n 1, 1) := by decide +kernel
theorem dL_law_571 : decode cL_law 571 = .ok (.aload_n 0, 1) := by decide +kernel
theorem dL_law_572 : decode cL_law 572 = .ok (.iload_n 3, 1) := by decide +kernel
theorem dL_law_573 : decode cL_law 573 = .ok (.iconst 1, 1) := by decide +kernel
theorem dL_law_574 : decode cL_law 574 = .ok (.iadd, 1) := by decide +kernel
theorem dL_law_575 : decode cL_law 575 = .ok (.iaload, 1) := by decide +kernel
theorem dL_law_576 : decode cL_law 576 = .ok (.invokevirtual 73, 3) := by decide +kernel
theorem dL_law_579 : decode cL_law 579 = .ok (.aload_n 2, 1) := by decide +kernel
theorem dL_law_580 : decode cL_law 580 = .ok (.aload_n 0, 1) := by decide +kernel
theorem dL_law_581 : decode cL_law 581 = .ok (.iload_n 3, 1) := by decide +kernel
theorem dL_law_582 : decode cL_law 582 = .ok (.iconst 1, 1) := by decide +kernel
theorem dL_law_583 : decode cL_law 583 = .ok (.iadd, 1) := by decide +kernel
theorem dL_law_584 : decode cL_law 584 = .ok (.iaload, 1) := by decide +kernel
theorem dL_law_585 : decode cL_law 585 = .ok (.invokevirtual 76, 3) := by decide +kernel
theorem dL_law_588 : decode cL_law 588 = .ok (.if_icmp .eq 587, 3) := by decide +kernel
theorem dL_law_591 : decode cL_law 591 = .ok (.iconst 0, 1) := by decide +kernel
theorem dL_law_592 : decode cL_law 592 = .ok (.ireturn, 1) := by decide +kernel
theorem dL_law_593 : decode cL_law 593 = .ok (.aload_n 1, 1) := by decide +kernel
theorem dL_law_594 : decode cL_law 594 = .ok (.aload_n 0, 1) := by decide +kernel
theorem dL_law_595 : decode cL_law 595 = .ok (.iload_n 3, 1) := by decide +kernel
theorem dL_law_596 : decode cL_law 596 = .ok (.iconst 1, 1) := by decide +kernel
theorem dL_law_597 : decode cL_law 597 = .ok (.iadd, 1) := by decide +kernel
theorem dL_law_598 : decode cL_law 598 = .ok (.iaload, 1) := by decide +kernel
theorem dL_law_599 : decode cL_law 599 = .ok (.aload_n 0, 1) := by decide +kernel
theorem dL_law_600 : decode cL_law 600 = .ok (.iload_n 3, 1) := by decide +kernel
theorem dL_law_601 : decode cL_law 601 = .ok (.iconst 2, 1) := by decide +kernel
theorem dL_law_602 : decode cL_law 602 = .ok (.iadd, 1) := by decide +kernel
theorem dL_law_603 : decode cL_law 603 = .ok (.iaload, 1) := by decide +kernel
theorem dL_law_604 : decode cL_law 604 = .ok (.invokevirtual 77, 3) := by decide +kernel
theorem dL_law_607 : decode cL_law 607 = .ok (.aload_n 2, 1) := by decide +kernel
theorem dL_law_608 : decode cL_law 608 = .ok (.aload_n 0, 1) := by decide +kernel
theorem dL_law_609 : decode cL_law 609 = .ok (.iload_n 3, 1) := by decide +kernel
theorem dL_law_610 : decode cL_law 610 = .ok (.iconst 1, 1) := by decide +kernel
theorem dL_law_611 : decode cL_law 611 = .ok (.iadd, 1) := by decide +kernel
theorem dL_law_612 : decode cL_law 612 = .ok (.iaload, 1) := by decide +kernel
theorem dL_law_613 : decode cL_law 613 = .ok (.aload_n 0, 1) := by decide +kernel
theorem dL_law_614 : decode cL_law 614 = .ok (.iload_n 3, 1) := by decide +kernel
theorem dL_law_615 : decode cL_law 615 = .ok (.iconst 2, 1) := by decide +kernel
theorem dL_law_616 : decode cL_law 616 = .ok (.iadd, 1) := by decide +kernel
theorem dL_law_617 : decode cL_law 617 = .ok (.iaload, 1) := by decide +kernel
theorem dL_law_618 : decode cL_law 618 = .ok (.invokevirtual 80, 3) := by decide +kernel
theorem dL_law_621 : decode cL_law 621 = .ok (.if_icmp .eq 554, 3) := by decide +kernel
theorem dL_law_624 : decode cL_law 624 = .ok (.iconst 0, 1) := by decide +kernel
theorem dL_law_625 : decode cL_law 625 = .ok (.ireturn, 1) := by decide +kernel
theorem dL_law_626 : decode cL_law 626 = .ok (.aload_n 1, 1) := by decide +kernel
theorem dL_law_627 : decode cL_law 627 = .ok (.aload_n 0, 1) := by decide +kernel
theorem dL_law_628 : decode cL_law 628 = .ok (.iload_n 3, 1) := by decide +kernel
theorem dL_law_629 : decode cL_law 629 = .ok (.iconst 1, 1) := by decide +kernel
theorem dL_law_630 : decode cL_law 630 = .ok (.iadd, 1) := by decide +kernel
theorem dL_law_631 : decode cL_law 631 = .ok (.iaload, 1) := by decide +kernel
theorem dL_law_632 : decode cL_law 632 = .ok (.invokevirtual 81, 3) := by decide +kernel
theorem dL_law_635 : decode cL_law 635 = .ok (.aload_n 2, 1) := by decide +kernel
theorem dL_law_636 : decode cL_law 636 = .ok (.aload_n 0, 1) := by decide +kernel
theorem dL_law_637 : decode cL_law 637 = .ok (.iload_n 3, 1) := by decide +kernel
theorem dL_law_638 : decode cL_law 638 = .ok (.iconst 1, 1) := by decide +kernel
theorem dL_law_639 : decode cL_law 639 = .ok (.iadd, 1) := by decide +kernel
theorem dL_law_640 : decode cL_law 640 = .ok (.iaload, 1) := by decide +kernel
theorem dL_law_641 : decode cL_law 641 = .ok (.invokevirtual 84, 3) := by decide +kernel
theorem dL_law_644 : decode cL_law 644 = .ok (.if_icmp .eq 531, 3) := by decide +kernel
theorem dL_law_647 : decode cL_law 647 = .ok (.iconst 0, 1) := by decide +kernel
theorem dL_law_648 : decode cL_law 648 = .ok (.ireturn, 1) := by decide +kernel
theorem dL_law_649 : decode cL_law 649 = .ok (.aload_n 1, 1) := by decide +kernel
theorem dL_law_650 : decode cL_law 650 = .ok (.aload_n 0, 1) := by decide +kernel
theorem dL_law_651 : decode cL_law 651 = .ok (.iload_n 3, 1) := by decide +kernel
theorem dL_law_652 : decode cL_law 652 = .ok (.iconst 1, 1) := by decide +kernel
theorem dL_law_653 : decode cL_law 653 = .ok (.iadd, 1) := by decide +kernel
theorem dL_law_654 : decode cL_law 654 = .ok (.iaload, 1) := by decide +kernel
theorem dL_law_655 : decode cL_law 655 = .ok (.invokevirtual 85, 3) := by decide +kernel
theorem dL_law_658 : decode cL_law 658 = .ok (.aload_n 2, 1) := by decide +kernel
theorem dL_law_659 : decode cL_law 659 = .ok (.aload_n 0, 1) := by decide +kernel
theorem dL_law_660 : decode cL_law 660 = .ok (.iload_n 3, 1) := by decide +kernel
theorem dL_law_661 : decode cL_law 661 = .ok (.iconst 1, 1) := by decide +kernel
theorem dL_law_662 : decode cL_law 662 = .ok (.iadd, 1) := by decide +kernel
theorem dL_law_663 : decode cL_law 663 = .ok (.iaload, 1) := by decide +kernel
theorem dL_law_664 : decode cL_law 664 = .ok (.invokevirtual 88, 3) := by decide +kernel
theorem dL_law_667 : decode cL_law 667 = .ok (.if_icmp .eq 508, 3) := by decide +kernel
theorem dL_law_670 : decode cL_law 670 = .ok (.iconst 0, 1) := by decide +kernel
theorem dL_law_671 : decode cL_law 671 = .ok (.ireturn, 1) := by decide +kernel
theorem dL_law_672 : decode cL_law 672 = .ok (.aload_n 1, 1) := by decide +kernel
theorem dL_law_673 : decode cL_law 673 = .ok (.aload_n 0, 1) := by decide +kernel
theorem dL_law_674 : decode cL_law 674 = .ok (.iload_n 3, 1) := by decide +kernel
theorem dL_law_675 : decode cL_law 675 = .ok (.iconst 1, 1) := by decide +kernel
theorem dL_law_676 : decode cL_law 676 = .ok (.iadd, 1) := by decide +kernel
theorem dL_law_677 : decode cL_law 677 = .ok (.iaload, 1) := by decide +kernel
theorem dL_law_678 : decode cL_law 678 = .ok (.invokevirtual 89, 3) := by decide +kernel
theorem dL_law_681 : decode cL_law 681 = .ok (.aload_n 2, 1) := by decide +kernel
theorem dL_law_682 : decode cL_law 682 = .ok (.aload_n 0, 1) := by decide +kernel
theorem dL_law_683 : decode cL_law 683 = .ok (.iload_n 3, 1) := by decide +kernel
theorem dL_law_684 : decode cL_law 684 = .ok (.iconst 1, 1) := by decide +kernel
theorem dL_law_685 : decode cL_law 685 = .ok (.iadd, 1) := by decide +kernel
theorem dL_law_686 : decode cL_law 686 = .ok (.iaload, 1) := by decide +kernel
theorem dL_law_687 : decode cL_law 687 = .ok (.invokevirtual 92, 3) := by decide +kernel
theorem dL_law_690 : decode cL_law 690 = .ok (.if_icmp .eq 485, 3) := by decide +kernel
theorem dL_law_693 : decode cL_law 693 = .ok (.iconst 0, 1) := by decide +kernel
theorem dL_law_694 : decode cL_law 694 = .ok (.ireturn, 1) := by decide +kernel
theorem dL_law_695 : decode cL_law 695 = .ok (.aload_n 1, 1) := by decide +kernel
theorem dL_law_696 : decode cL_law 696 = .ok (.aload_n 0, 1) := by decide +kernel
theorem dL_law_697 : decode cL_law 697 = .ok (.iload_n 3, 1) := by decide +kernel
theorem dL_law_698 : decode cL_law 698 = .ok (.iconst 1, 1) := by decide +kernel
theorem dL_law_699 : decode cL_law 699 = .ok (.iadd, 1) := by decide +kernel
theorem dL_law_700 : decode cL_law 700 = .ok (.iaload, 1) := by decide +kernel
theorem dL_law_701 : decode cL_law 701 = .ok (.invokevirtual 93, 3) := by decide +kernel
theorem dL_law_704 : decode cL_law 704 = .ok (.aload_n 2, 1) := by decide +kernel
theorem dL_law_705 : decode cL_law 705 = .ok (.aload_n 0, 1) := by decide +kernel
theorem dL_law_706 : decode cL_law 706 = .ok (.iload_n 3, 1) := by decide +kernel
theorem dL_law_707 : decode cL_law 707 = .ok (.iconst 1, 1) := by decide +kernel
theorem dL_law_708 : decode cL_law 708 = .ok (.iadd, 1) := by decide +kernel
theorem dL_law_709 : decode cL_law 709 = .ok (.iaload, 1) := by decide +kernel
theorem dL_law_710 : decode cL_law 710 = .ok (.invokevirtual 96, 3) := by decide +kernel
theorem dL_law_713 : decode cL_law 713 = .ok (.if_icmp .eq 462, 3) := by decide +kernel
theorem dL_law_716 : decode cL_law 716 = .ok (.iconst 0, 1) := by decide +kernel
theorem dL_law_717 : decode cL_law 717 = .ok (.ireturn, 1) := by decide +kernel
theorem dL_law_718 : decode cL_law 718 = .ok (.aload_n 1, 1) := by decide +kernel
theorem dL_law_719 : decode cL_law 719 = .ok (.aload_n 0, 1) := by decide +kernel
theorem dL_law_720 : decode cL_law 720 = .ok (.iload_n 3, 1) := by decide +kernel
theorem dL_law_721 : decode cL_law 721 = .ok (.iconst 1, 1) := by decide +kernel
theorem dL_law_722 : decode cL_law 722 = .ok (.iadd, 1) := by decide +kernel
theorem dL_law_723 : decode cL_law 723 = .ok (.iaload, 1) := by decide +kernel
theorem dL_law_724 : decode cL_law 724 = .ok (.aload_n 0, 1) := by decide +kernel
theorem dL_law_725 : decode cL_law 725 = .ok (.iload_n 3, 1) := by decide +kernel
theorem dL_law_726 : decode cL_law 726 = .ok (.iconst 2, 1) := by decide +kernel
theorem dL_law_727 : decode cL_law 727 = .ok (.iadd, 1) := by decide +kernel
theorem dL_law_728 : decode cL_law 728 = .ok (.iaload, 1) := by decide +kernel
theorem dL_law_729 : decode cL_law 729 = .ok (.aload_n 0, 1) := by decide +kernel
theorem dL_law_730 : decode cL_law 730 = .ok (.iload_n 3, 1) := by decide +kernel
theorem dL_law_731 : decode cL_law 731 = .ok (.iconst 3, 1) := by decide +kernel
theorem dL_law_732 : decode cL_law 732 = .ok (.iadd, 1) := by decide +kernel
theorem dL_law_733 : decode cL_law 733 = .ok (.iaload, 1) := by decide +kernel
theorem dL_law_734 : decode cL_law 734 = .ok (.aload_n 0, 1) := by decide +kernel
theorem dL_law_735 : decode cL_law 735 = .ok (.iload_n 3, 1) := by decide +kernel
theorem dL_law_736 : decode cL_law 736 = .ok (.iconst 4, 1) := by decide +kernel
theorem dL_law_737 : decode cL_law 737 = .ok (.iadd, 1) := by decide +kernel
theorem dL_law_738 : decode cL_law 738 = .ok (.iaload, 1) := by decide +kernel
theorem dL_law_739 : decode cL_law 739 = .ok (.invokevirtual 97, 3) := by decide +kernel
theorem dL_law_742 : decode cL_law 742 = .ok (.aload_n 2, 1) := by decide +kernel
theorem dL_law_743 : decode cL_law 743 = .ok (.aload_n 0, 1) := by decide +kernel
theorem dL_law_744 : decode cL_law 744 = .ok (.iload_n 3, 1) := by decide +kernel
theorem dL_law_745 : decode cL_law 745 = .ok (.iconst 1, 1) := by decide +kernel
theorem dL_law_746 : decode cL_law 746 = .ok (.iadd, 1) := by decide +kernel
theorem dL_law_747 : decode cL_law 747 = .ok (.iaload, 1) := by decide +kernel
theorem dL_law_748 : decode cL_law 748 = .ok (.aload_n 0, 1) := by decide +kernel
theorem dL_law_749 : decode cL_law 749 = .ok (.iload_n 3, 1) := by decide +kernel
theorem dL_law_750 : decode cL_law 750 = .ok (.iconst 2, 1) := by decide +kernel
theorem dL_law_751 : decode cL_law 751 = .ok (.iadd, 1) := by decide +kernel
theorem dL_law_752 : decode cL_law 752 = .ok (.iaload, 1) := by decide +kernel
theorem dL_law_753 : decode cL_law 753 = .ok (.aload_n 0, 1) := by decide +kernel
theorem dL_law_754 : decode cL_law 754 = .ok (.iload_n 3, 1) := by decide +kernel
theorem dL_law_755 : decode cL_law 755 = .ok (.iconst 3, 1) := by decide +kernel
theorem dL_law_756 : decode cL_law 756 = .ok (.iadd, 1) := by decide +kernel
theorem dL_law_757 : decode cL_law 757 = .ok (.iaload, 1) := by decide +kernel
theorem dL_law_758 : decode cL_law 758 = .ok (.aload_n 0, 1) := by decide +kernel
theorem dL_law_759 : decode cL_law 759 = .ok (.iload_n 3, 1) := by decide +kernel
theorem dL_law_760 : decode cL_law 760 = .ok (.iconst 4, 1) := by decide +kernel
theorem dL_law_761 : decode cL_law 761 = .ok (.iadd, 1) := by decide +kernel
theorem dL_law_762 : decode cL_law 762 = .ok (.iaload, 1) := by decide +kernel
theorem dL_law_763 : decode cL_law 763 = .ok (.invokevirtual 101, 3) := by decide +kernel
theorem dL_law_766 : decode cL_law 766 = .ok (.if_icmp .eq 409, 3) := by decide +kernel
theorem dL_law_769 : decode cL_law 769 = .ok (.iconst 0, 1) := by decide +kernel
theorem dL_law_770 : decode cL_law 770 = .ok (.ireturn, 1) := by decide +kernel
theorem dL_law_771 : decode cL_law 771 = .ok (.aload_n 1, 1) := by decide +kernel
theorem dL_law_772 : decode cL_law 772 = .ok (.aload_n 0, 1) := by decide +kernel
theorem dL_law_773 : decode cL_law 773 = .ok (.iload_n 3, 1) := by decide +kernel
theorem dL_law_774 : decode cL_law 774 = .ok (.iconst 1, 1) := by decide +kernel
theorem dL_law_775 : decode cL_law 775 = .ok (.iadd, 1) := by decide +kernel
theorem dL_law_776 : decode cL_law 776 = .ok (.iaload, 1) := by decide +kernel
theorem dL_law_777 : decode cL_law 777 = .ok (.aload_n 0, 1) := by decide +kernel
theorem dL_law_778 : decode cL_law 778 = .ok (.iload_n 3, 1) := by decide +kernel
theorem dL_law_779 : decode cL_law 779 = .ok (.iconst 2, 1) := by decide +kernel
theorem dL_law_780 : decode cL_law 780 = .ok (.iadd, 1) := by decide +kernel
theorem dL_law_781 : decode cL_law 781 = .ok (.iaload, 1) := by decide +kernel
theorem dL_law_782 : decode cL_law 782 = .ok (.invokevirtual 102, 3) := by decide +kernel
theorem dL_law_785 : decode cL_law 785 = .ok (.aload_n 2, 1) := by decide +kernel
theorem dL_law_786 : decode cL_law 786 = .ok (.aload_n 0, 1) := by decide +kernel
theorem dL_law_787 : decode cL_law 787 = .ok (.iload_n 3, 1) := by decide +kernel
theorem dL_law_788 : decode cL_law 788 = .ok (.iconst 1, 1) := by decide +kernel
theorem dL_law_789 : decode cL_law 789 = .ok (.iadd, 1) := by decide +kernel
theorem dL_law_790 : decode cL_law 790 = .ok (.iaload, 1) := by decide +kernel
theorem dL_law_791 : decode cL_law 791 = .ok (.aload_n 0, 1) := by decide +kernel
theorem dL_law_792 : decode cL_law 792 = .ok (.iload_n 3, 1) := by decide +kernel
theorem dL_law_793 : decode cL_law 793 = .ok (.iconst 2, 1) := by decide +kernel
theorem dL_law_794 : decode cL_law 794 = .ok (.iadd, 1) := by decide +kernel
theorem dL_law_795 : decode cL_law 795 = .ok (.iaload, 1) := by decide +kernel
theorem dL_law_796 : decode cL_law 796 = .ok (.invokevirtual 105, 3) := by decide +kernel
theorem dL_law_799 : decode cL_law 799 = .ok (.if_icmp .eq 376, 3) := by decide +kernel
theorem dL_law_802 : decode cL_law 802 = .ok (.iconst 0, 1) := by decide +kernel
theorem dL_law_803 : decode cL_law 803 = .ok (.ireturn, 1) := by decide +kernel
theorem dL_law_804 : decode cL_law 804 = .ok (.aload_n 1, 1) := by decide +kernel
theorem dL_law_805 : decode cL_law 805 = .ok (.aload_n 0, 1) := by decide +kernel
theorem dL_law_806 : decode cL_law 806 = .ok (.iload_n 3, 1) := by decide +kernel
theorem dL_law_807 : decode cL_law 807 = .ok (.iconst 1, 1) := by decide +kernel
theorem dL_law_808 : decode cL_law 808 = .ok (.iadd, 1) := by decide +kernel
theorem dL_law_809 : decode cL_law 809 = .ok (.iaload, 1) := by decide +kernel
theorem dL_law_810 : decode cL_law 810 = .ok (.aload_n 0, 1) := by decide +kernel
theorem dL_law_811 : decode cL_law 811 = .ok (.iload_n 3, 1) := by decide +kernel
theorem dL_law_812 : decode cL_law 812 = .ok (.iconst 2, 1) := by decide +kernel
theorem dL_law_813 : decode cL_law 813 = .ok (.iadd, 1) := by decide +kernel
theorem dL_law_814 : decode cL_law 814 = .ok (.iaload, 1) := by decide +kernel
theorem dL_law_815 : decode cL_law 815 = .ok (.aload_n 0, 1) := by decide +kernel
theorem dL_law_816 : decode cL_law 816 = .ok (.iload_n 3, 1) := by decide +kernel
theorem dL_law_817 : decode cL_law 817 = .ok (.iconst 3, 1) := by decide +kernel
theorem dL_law_818 : decode cL_law 818 = .ok (.iadd, 1) := by decide +kernel
theorem dL_law_819 : decode cL_law 819 = .ok (.iaload, 1) := by decide +kernel
theorem dL_law_820 : decode cL_law 820 = .ok (.aload_n 0, 1) := by decide +kernel
theorem dL_law_821 : decode cL_law 821 = .ok (.iload_n 3, 1) := by decide +kernel
theorem dL_law_822 : decode cL_law 822 = .ok (.iconst 4, 1) := by decide +kernel
theorem dL_law_823 : decode cL_law 823 = .ok (.iadd, 1) := by decide +kernel
theorem dL_law_824 : decode cL_law 824 = .ok (.iaload, 1) := by decide +kernel
theorem dL_law_825 : decode cL_law 825 = .ok (.aload_n 0, 1) := by decide +kernel
theorem dL_law_826 : decode cL_law 826 = .ok (.iload_n 3, 1) := by decide +kernel
theorem dL_law_827 : decode cL_law 827 = .ok (.iconst 5, 1) := by decide +kernel
theorem dL_law_828 : decode cL_law 828 = .ok (.iadd, 1) := by decide +kernel
theorem dL_law_829 : decode cL_law 829 = .ok (.iaload, 1) := by decide +kernel
theorem dL_law_830 : decode cL_law 830 = .ok (.invokevirtual 106, 3) := by decide +kernel
theorem dL_law_833 : decode cL_law 833 = .ok (.aload_n 2, 1) := by decide +kernel
theorem dL_law_834 : decode cL_law 834 = .ok (.aload_n 0, 1) := by decide +kernel
theorem dL_law_835 : decode cL_law 835 = .ok (.iload_n 3, 1) := by decide +kernel
theorem dL_law_836 : decode cL_law 836 = .ok (.iconst 1, 1) := by decide +kernel
theorem dL_law_837 : decode cL_law 837 = .ok (.iadd, 1) := by decide +kernel
theorem dL_law_838 : decode cL_law 838 = .ok (.iaload, 1) := by decide +kernel
theorem dL_law_839 : decode cL_law 839 = .ok (.aload_n 0, 1) := by decide +kernel
theorem dL_law_840 : decode cL_law 840 = .ok (.iload_n 3, 1) := by decide +kernel
theorem dL_law_841 : decode cL_law 841 = .ok (.iconst 2, 1) := by decide +kernel
theorem dL_law_842 : decode cL_law 842 = .ok (.iadd, 1) := by decide +kernel
theorem dL_law_843 : decode cL_law 843 = .ok (.iaload, 1) := by decide +kernel
theorem dL_law_844 : decode cL_law 844 = .ok (.aload_n 0, 1) := by decide +kernel
theorem dL_law_845 : decode cL_law 845 = .ok (.iload_n 3, 1) := by decide +kernel
theorem dL_law_846 : decode cL_law 846 = .ok (.iconst 3, 1) := by decide +kernel
theorem dL_law_847 : decode cL_law 847 = .ok (.iadd, 1) := by decide +kernel
theorem dL_law_848 : decode cL_law 848 = .ok (.iaload, 1) := by decide +kernel
theorem dL_law_849 : decode cL_law 849 = .ok (.aload_n 0, 1) := by decide +kernel
theorem dL_law_850 : decode cL_law 850 = .ok (.iload_n 3, 1) := by decide +kernel
theorem dL_law_851 : decode cL_law 851 = .ok (.iconst 4, 1) := by decide +kernel
theorem dL_law_852 : decode cL_law 852 = .ok (.iadd, 1) := by decide +kernel
theorem dL_law_853 : decode cL_law 853 = .ok (.iaload, 1) := by decide +kernel
theorem dL_law_854 : decode cL_law 854 = .ok (.aload_n 0, 1) := by decide +kernel
theorem dL_law_855 : decode cL_law 855 = .ok (.iload_n 3, 1) := by decide +kernel
theorem dL_law_856 : decode cL_law 856 = .ok (.iconst 5, 1) := by decide +kernel
theorem dL_law_857 : decode cL_law 857 = .ok (.iadd, 1) := by decide +kernel
theorem dL_law_858 : decode cL_law 858 = .ok (.iaload, 1) := by decide +kernel
theorem dL_law_859 : decode cL_law 859 = .ok (.invokevirtual 110, 3) := by decide +kernel
theorem dL_law_862 : decode cL_law 862 = .ok (.if_icmp .eq 313, 3) := by decide +kernel
theorem dL_law_865 : decode cL_law 865 = .ok (.iconst 0, 1) := by decide +kernel
theorem dL_law_866 : decode cL_law 866 = .ok (.ireturn, 1) := by decide +kernel
theorem dL_law_867 : decode cL_law 867 = .ok (.aload_n 1, 1) := by decide +kernel
theorem dL_law_868 : decode cL_law 868 = .ok (.invokevirtual 111, 3) := by decide +kernel
theorem dL_law_871 : decode cL_law 871 = .ok (.aload_n 2, 1) := by decide +kernel
theorem dL_law_872 : decode cL_law 872 = .ok (.invokevirtual 114, 3) := by decide +kernel
theorem dL_law_875 : decode cL_law 875 = .ok (.if_icmp .eq 300, 3) := by decide +kernel
theorem dL_law_878 : decode cL_law 878 = .ok (.iconst 0, 1) := by decide +kernel
theorem dL_law_879 : decode cL_law 879 = .ok (.ireturn, 1) := by decide +kernel
theorem dL_law_880 : decode cL_law 880 = .ok (.aload_n 1, 1) := by decide +kernel
theorem dL_law_881 : decode cL_law 881 = .ok (.aload_n 0, 1) := by decide +kernel
theorem dL_law_882 : decode cL_law 882 = .ok (.iload_n 3, 1) := by decide +kernel
theorem dL_law_883 : decode cL_law 883 = .ok (.iconst 1, 1) := by decide +kernel
theorem dL_law_884 : decode cL_law 884 = .ok (.iadd, 1) := by decide +kernel
theorem dL_law_885 : decode cL_law 885 = .ok (.iaload, 1) := by decide +kernel
theorem dL_law_886 : decode cL_law 886 = .ok (.aload_n 0, 1) := by decide +kernel
theorem dL_law_887 : decode cL_law 887 = .ok (.iload_n 3, 1) := by decide +kernel
theorem dL_law_888 : decode cL_law 888 = .ok (.iconst 2, 1) := by decide +kernel
theorem dL_law_889 : decode cL_law 889 = .ok (.iadd, 1) := by decide +kernel
theorem dL_law_890 : decode cL_law 890 = .ok (.iaload, 1) := by decide +kernel
theorem dL_law_891 : decode cL_law 891 = .ok (.invokevirtual 115, 3) := by decide +kernel
theorem dL_law_894 : decode cL_law 894 = .ok (.aload_n 2, 1) := by decide +kernel
theorem dL_law_895 : decode cL_law 895 = .ok (.aload_n 0, 1) := by decide +kernel
theorem dL_law_896 : decode cL_law 896 = .ok (.iload_n 3, 1) := by decide +kernel
theorem dL_law_897 : decode cL_law 897 = .ok (.iconst 1, 1) := by decide +kernel
theorem dL_law_898 : decode cL_law 898 = .ok (.iadd, 1) := by decide +kernel
theorem dL_law_899 : decode cL_law 899 = .ok (.iaload, 1) := by decide +kernel
theorem dL_law_900 : decode cL_law 900 = .ok (.aload_n 0, 1) := by decide +kernel
theorem dL_law_901 : decode cL_law 901 = .ok (.iload_n 3, 1) := by decide +kernel
theorem dL_law_902 : decode cL_law 902 = .ok (.iconst 2, 1) := by decide +kernel
theorem dL_law_903 : decode cL_law 903 = .ok (.iadd, 1) := by decide +kernel
theorem dL_law_904 : decode cL_law 904 = .ok (.iaload, 1) := by decide +kernel
theorem dL_law_905 : decode cL_law 905 = .ok (.invokevirtual 118, 3) := by decide +kernel
theorem dL_law_908 : decode cL_law 908 = .ok (.if_icmp .eq 267, 3) := by decide +kernel
theorem dL_law_911 : decode cL_law 911 = .ok (.iconst 0, 1) := by decide +kernel
theorem dL_law_912 : decode cL_law 912 = .ok (.ireturn, 1) := by decide +kernel
theorem dL_law_913 : decode cL_law 913 = .ok (.aload_n 1, 1) := by decide +kernel
theorem dL_law_914 : decode cL_law 914 = .ok (.aload_n 0, 1) := by decide +kernel
theorem dL_law_915 : decode cL_law 915 = .ok (.iload_n 3, 1) := by decide +kernel
theorem dL_law_916 : decode cL_law 916 = .ok (.iconst 1, 1) := by decide +kernel
theorem dL_law_917 : decode cL_law 917 = .ok (.iadd, 1) := by decide +kernel
theorem dL_law_918 : decode cL_law 918 = .ok (.iaload, 1) := by decide +kernel
theorem dL_law_919 : decode cL_law 919 = .ok (.invokevirtual 119, 3) := by decide +kernel
theorem dL_law_922 : decode cL_law 922 = .ok (.aload_n 2, 1) := by decide +kernel
theorem dL_law_923 : decode cL_law 923 = .ok (.aload_n 0, 1) := by decide +kernel
theorem dL_law_924 : decode cL_law 924 = .ok (.iload_n 3, 1) := by decide +kernel
theorem dL_law_925 : decode cL_law 925 = .ok (.iconst 1, 1) := by decide +kernel
theorem dL_law_926 : decode cL_law 926 = .ok (.iadd, 1) := by decide +kernel
theorem dL_law_927 : decode cL_law 927 = .ok (.iaload, 1) := by decide +kernel
theorem dL_law_928 : decode cL_law 928 = .ok (.invokevirtual 122, 3) := by decide +kernel
theorem dL_law_931 : decode cL_law 931 = .ok (.if_icmp .eq 244, 3) := by decide +kernel
theorem dL_law_934 : decode cL_law 934 = .ok (.iconst 0, 1) := by decide +kernel
theorem dL_law_935 : decode cL_law 935 = .ok (.ireturn, 1) := by decide +kernel
theorem dL_law_936 : decode cL_law 936 = .ok (.aload_n 1, 1) := by decide +kernel
theorem dL_law_937 : decode cL_law 937 = .ok (.aload_n 0, 1) := by decide +kernel
theorem dL_law_938 : decode cL_law 938 = .ok (.iload_n 3, 1) := by decide +kernel
theorem dL_law_939 : decode cL_law 939 = .ok (.iconst 1, 1) := by decide +kernel
theorem dL_law_940 : decode cL_law 940 = .ok (.iadd, 1) := by decide +kernel
theorem dL_law_941 : decode cL_law 941 = .ok (.iaload, 1) := by decide +kernel
theorem dL_law_942 : decode cL_law 942 = .ok (.aload_n 0, 1) := by decide +kernel
theorem dL_law_943 : decode cL_law 943 = .ok (.iload_n 3, 1) := by decide +kernel
theorem dL_law_944 : decode cL_law 944 = .ok (.iconst 2, 1) := by decide +kernel
theorem dL_law_945 : decode cL_law 945 = .ok (.iadd, 1) := by decide +kernel
theorem dL_law_946 : decode cL_law 946 = .ok (.iaload, 1) := by decide +kernel
theorem dL_law_947 : decode cL_law 947 = .ok (.invokevirtual 123, 3) := by decide +kernel
theorem dL_law_950 : decode cL_law 950 = .ok (.aload_n 2, 1) := by decide +kernel
theorem dL_law_951 : decode cL_law 951 = .ok (.aload_n 0, 1) := by decide +kernel
theorem dL_law_952 : decode cL_law 952 = .ok (.iload_n 3, 1) := by decide +kernel
theorem dL_law_953 : decode cL_law 953 = .ok (.iconst 1, 1) := by decide +kernel
theorem dL_law_954 : decode cL_law 954 = .ok (.iadd, 1) := by decide +kernel
theorem dL_law_955 : decode cL_law 955 = .ok (.iaload, 1) := by decide +kernel
theorem dL_law_956 : decode cL_law 956 = .ok (.aload_n 0, 1) := by decide +kernel
theorem dL_law_957 : decode cL_law 957 = .ok (.iload_n 3, 1) := by decide +kernel
theorem dL_law_958 : decode cL_law 958 = .ok (.iconst 2, 1) := by decide +kernel
theorem dL_law_959 : decode cL_law 959 = .ok (.iadd, 1) := by decide +kernel
theorem dL_law_960 : decode cL_law 960 = .ok (.iaload, 1) := by decide +kernel
theorem dL_law_961 : decode cL_law 961 = .ok (.invokevirtual 126, 3) := by decide +kernel
theorem dL_law_964 : decode cL_law 964 = .ok (.if_icmp .eq 211, 3) := by decide +kernel
theorem dL_law_967 : decode cL_law 967 = .ok (.iconst 0, 1) := by decide +kernel
theorem dL_law_968 : decode cL_law 968 = .ok (.ireturn, 1) := by decide +kernel
theorem dL_law_969 : decode cL_law 969 = .ok (.aload_n 1, 1) := by decide +kernel
theorem dL_law_970 : decode cL_law 970 = .ok (.aload_n 0, 1) := by decide +kernel
theorem dL_law_971 : decode cL_law 971 = .ok (.iload_n 3, 1) := by decide +kernel
theorem dL_law_972 : decode cL_law 972 = .ok (.iconst 1, 1) := by decide +kernel
theorem dL_law_973 : decode cL_law 973 = .ok (.iadd, 1) := by decide +kernel
theorem dL_law_974 : decode cL_law 974 = .ok (.iaload, 1) := by decide +kernel
theorem dL_law_975 : decode cL_law 975 = .ok (.aload_n 0, 1) := by decide +kernel
theorem dL_law_976 : decode cL_law 976 = .ok (.iload_n 3, 1) := by decide +kernel
theorem dL_law_977 : decode cL_law 977 = .ok (.iconst 2, 1) := by decide +kernel
theorem dL_law_978 : decode cL_law 978 = .ok (.iadd, 1) := by decide +kernel
theorem dL_law_979 : decode cL_law 979 = .ok (.iaload, 1) := by decide +kernel
theorem dL_law_980 : decode cL_law 980 = .ok (.aload_n 0, 1) := by decide +kernel
theorem dL_law_981 : decode cL_law 981 = .ok (.iload_n 3, 1) := by decide +kernel
theorem dL_law_982 : decode cL_law 982 = .ok (.iconst 3, 1) := by decide +kernel
theorem dL_law_983 : decode cL_law 983 = .ok (.iadd, 1) := by decide +kernel
theorem dL_law_984 : decode cL_law 984 = .ok (.iaload, 1) := by decide +kernel
theorem dL_law_985 : decode cL_law 985 = .ok (.invokevirtual 127, 3) := by decide +kernel
theorem dL_law_988 : decode cL_law 988 = .ok (.aload_n 2, 1) := by decide +kernel
theorem dL_law_989 : decode cL_law 989 = .ok (.aload_n 0, 1) := by decide +kernel
theorem dL_law_990 : decode cL_law 990 = .ok (.iload_n 3, 1) := by decide +kernel
theorem dL_law_991 : decode cL_law 991 = .ok (.iconst 1, 1) := by decide +kernel
theorem dL_law_992 : decode cL_law 992 = .ok (.iadd, 1) := by decide +kernel
theorem dL_law_993 : decode cL_law 993 = .ok (.iaload, 1) := by decide +kernel
theorem dL_law_994 : decode cL_law 994 = .ok (.aload_n 0, 1) := by decide +kernel
theorem dL_law_995 : decode cL_law 995 = .ok (.iload_n 3, 1) := by decide +kernel
theorem dL_law_996 : decode cL_law 996 = .ok (.iconst 2, 1) := by decide +kernel
theorem dL_law_997 : decode cL_law 997 = .ok (.iadd, 1) := by decide +kernel
theorem dL_law_998 : decode cL_law 998 = .ok (.iaload, 1) := by decide +kernel
theorem dL_law_999 : decode cL_law 999 = .ok (.aload_n 0, 1) := by decide +kernel
theorem dL_law_1000 : decode cL_law 1000 = .ok (.iload_n 3, 1) := by decide +kernel
theorem dL_law_1001 : decode cL_law 1001 = .ok (.iconst 3, 1) := by decide +kernel
theorem dL_law_1002 : decode cL_law 1002 = .ok (.iadd, 1) := by decide +kernel
theorem dL_law_1003 : decode cL_law 1003 = .ok (.iaload, 1) := by decide +kernel
theorem dL_law_1004 : decode cL_law 1004 = .ok (.invokevirtual 130, 3) := by decide +kernel
theorem dL_law_1007 : decode cL_law 1007 = .ok (.if_icmp .eq 168, 3) := by decide +kernel
theorem dL_law_1010 : decode cL_law 1010 = .ok (.iconst 0, 1) := by decide +kernel
theorem dL_law_1011 : decode cL_law 1011 = .ok (.ireturn, 1) := by decide +kernel
theorem dL_law_1012 : decode cL_law 1012 = .ok (.aload_n 1, 1) := by decide +kernel
theorem dL_law_1013 : decode cL_law 1013 = .ok (.aload_n 0, 1) := by decide +kernel
theorem dL_law_1014 : decode cL_law 1014 = .ok (.iload_n 3, 1) := by decide +kernel
theorem dL_law_1015 : decode cL_law 1015 = .ok (.iconst 1, 1) := by decide +kernel
theorem dL_law_1016 : decode cL_law 1016 = .ok (.iadd, 1) := by decide +kernel
theorem dL_law_1017 : decode cL_law 1017 = .ok (.iaload, 1) := by decide +kernel
theorem dL_law_1018 : decode cL_law 1018 = .ok (.aload_n 0, 1) := by decide +kernel
theorem dL_law_1019 : decode cL_law 1019 = .ok (.iload_n 3, 1) := by decide +kernel
theorem dL_law_1020 : decode cL_law 1020 = .ok (.iconst 2, 1) := by decide +kernel
theorem dL_law_1021 : decode cL_law 1021 = .ok (.iadd, 1) := by decide +kernel
theorem dL_law_1022 : decode cL_law 1022 = .ok (.iaload, 1) := by decide +kernel
theorem dL_law_1023 : decode cL_law 1023 = .ok (.invokevirtual 131, 3) := by decide +kernel
theorem dL_law_1026 : decode cL_law 1026 = .ok (.aload_n 2, 1) := by decide +kernel
theorem dL_law_1027 : decode cL_law 1027 = .ok (.aload_n 0, 1) := by decide +kernel
theorem dL_law_1028 : decode cL_law 1028 = .ok (.iload_n 3, 1) := by decide +kernel
theorem dL_law_1029 : decode cL_law 1029 = .ok (.iconst 1, 1) := by decide +kernel
theorem dL_law_1030 : decode cL_law 1030 = .ok (.iadd, 1) := by decide +kernel
theorem dL_law_1031 : decode cL_law 1031 = .ok (.iaload, 1) := by decide +kernel
theorem dL_law_1032 : decode cL_law 1032 = .ok (.aload_n 0, 1) := by decide +kernel
theorem dL_law_1033 : decode cL_law 1033 = .ok (.iload_n 3, 1) := by decide +kernel
theorem dL_law_1034 : decode cL_law 1034 = .ok (.iconst 2, 1) := by decide +kernel
theorem dL_law_1035 : decode cL_law 1035 = .ok (.iadd, 1) := by decide +kernel
theorem dL_law_1036 : decode cL_law 1036 = .ok (.iaload, 1) := by decide +kernel
theorem dL_law_1037 : decode cL_law 1037 = .ok (.invokevirtual 134, 3) := by decide +kernel
theorem dL_law_1040 : decode cL_law 1040 = .ok (.if_icmp .eq 135, 3) := by decide +kernel
theorem dL_law_1043 : decode cL_law 1043 = .ok (.iconst 0, 1) := by decide +kernel
theorem dL_law_1044 : decode cL_law 1044 = .ok (.ireturn, 1) := by decide +kernel
theorem dL_law_1045 : decode cL_law 1045 = .ok (.aload_n 1, 1) := by decide +kernel
theorem dL_law_1046 : decode cL_law 1046 = .ok (.aload_n 0, 1) := by decide +kernel
theorem dL_law_1047 : decode cL_law 1047 = .ok (.iload_n 3, 1) := by decide +kernel
theorem dL_law_1048 : decode cL_law 1048 = .ok (.iconst 1, 1) := by decide +kernel
theorem dL_law_1049 : decode cL_law 1049 = .ok (.iadd, 1) := by decide +kernel
theorem dL_law_1050 : decode cL_law 1050 = .ok (.iaload, 1) := by decide +kernel
theorem dL_law_1051 : decode cL_law 1051 = .ok (.invokevirtual 135, 3) := by decide +kernel
theorem dL_law_1054 : decode cL_law 1054 = .ok (.aload_n 2, 1) := by decide +kernel
theorem dL_law_1055 : decode cL_law 1055 = .ok (.aload_n 0, 1) := by decide +kernel
theorem dL_law_1056 : decode cL_law 1056 = .ok (.iload_n 3, 1) := by decide +kernel
theorem dL_law_1057 : decode cL_law 1057 = .ok (.iconst 1, 1) := by decide +kernel
theorem dL_law_1058 : decode cL_law 1058 = .ok (.iadd, 1) := by decide +kernel
theorem dL_law_1059 : decode cL_law 1059 = .ok (.iaload, 1) := by decide +kernel
theorem dL_law_1060 : decode cL_law 1060 = .ok (.invokevirtual 139, 3) := by decide +kernel
theorem dL_law_1063 : decode cL_law 1063 = .ok (.lcmp, 1) := by decide +kernel
theorem dL_law_1064 : decode cL_law 1064 = .ok (.ifCond .eq 111, 3) := by decide +kernel
theorem dL_law_1067 : decode cL_law 1067 = .ok (.iconst 0, 1) := by decide +kernel
theorem dL_law_1068 : decode cL_law 1068 = .ok (.ireturn, 1) := by decide +kernel
theorem dL_law_1069 : decode cL_law 1069 = .ok (.aload_n 1, 1) := by decide +kernel
theorem dL_law_1070 : decode cL_law 1070 = .ok (.aload_n 0, 1) := by decide +kernel
theorem dL_law_1071 : decode cL_law 1071 = .ok (.iload_n 3, 1) := by decide +kernel
theorem dL_law_1072 : decode cL_law 1072 = .ok (.iconst 1, 1) := by decide +kernel
theorem dL_law_1073 : decode cL_law 1073 = .ok (.iadd, 1) := by decide +kernel
theorem dL_law_1074 : decode cL_law 1074 = .ok (.iaload, 1) := by decide +kernel
theorem dL_law_1075 : decode cL_law 1075 = .ok (.invokevirtual 140, 3) := by decide +kernel
theorem dL_law_1078 : decode cL_law 1078 = .ok (.aload_n 2, 1) := by decide +kernel
theorem dL_law_1079 : decode cL_law 1079 = .ok (.aload_n 0, 1) := by decide +kernel
theorem dL_law_1080 : decode cL_law 1080 = .ok (.iload_n 3, 1) := by decide +kernel
theorem dL_law_1081 : decode cL_law 1081 = .ok (.iconst 1, 1) := by decide +kernel
theorem dL_law_1082 : decode cL_law 1082 = .ok (.iadd, 1) := by decide +kernel
theorem dL_law_1083 : decode cL_law 1083 = .ok (.iaload, 1) := by decide +kernel
theorem dL_law_1084 : decode cL_law 1084 = .ok (.invokevirtual 143, 3) := by decide +kernel
theorem dL_law_1087 : decode cL_law 1087 = .ok (.if_icmp .eq 88, 3) := by decide +kernel
theorem dL_law_1090 : decode cL_law 1090 = .ok (.iconst 0, 1) := by decide +kernel
theorem dL_law_1091 : decode cL_law 1091 = .ok (.ireturn, 1) := by decide +kernel
theorem dL_law_1092 : decode cL_law 1092 = .ok (.aload_n 1, 1) := by decide +kernel
theorem dL_law_1093 : decode cL_law 1093 = .ok (.aload_n 0, 1) := by decide +kernel
theorem dL_law_1094 : decode cL_law 1094 = .ok (.iload_n 3, 1) := by decide +kernel
theorem dL_law_1095 : decode cL_law 1095 = .ok (.iconst 1, 1) := by decide +kernel
theorem dL_law_1096 : decode cL_law 1096 = .ok (.iadd, 1) := by decide +kernel
theorem dL_law_1097 : decode cL_law 1097 = .ok (.iaload, 1) := by decide +kernel
theorem dL_law_1098 : decode cL_law 1098 = .ok (.invokevirtual 144, 3) := by decide +kernel
theorem dL_law_1101 : decode cL_law 1101 = .ok (.aload_n 2, 1) := by decide +kernel
theorem dL_law_1102 : decode cL_law 1102 = .ok (.aload_n 0, 1) := by decide +kernel
theorem dL_law_1103 : decode cL_law 1103 = .ok (.iload_n 3, 1) := by decide +kernel
theorem dL_law_1104 : decode cL_law 1104 = .ok (.iconst 1, 1) := by decide +kernel
theorem dL_law_1105 : decode cL_law 1105 = .ok (.iadd, 1) := by decide +kernel
theorem dL_law_1106 : decode cL_law 1106 = .ok (.iaload, 1) := by decide +kernel
theorem dL_law_1107 : decode cL_law 1107 = .ok (.invokevirtual 147, 3) := by decide +kernel
theorem dL_law_1110 : decode cL_law 1110 = .ok (.if_icmp .eq 65, 3) := by decide +kernel
theorem dL_law_1113 : decode cL_law 1113 = .ok (.iconst 0, 1) := by decide +kernel
theorem dL_law_1114 : decode cL_law 1114 = .ok (.ireturn, 1) := by decide +kernel
theorem dL_law_1115 : decode cL_law 1115 = .ok (.aload_n 1, 1) := by decide +kernel
theorem dL_law_1116 : decode cL_law 1116 = .ok (.aload_n 0, 1) := by decide +kernel
theorem dL_law_1117 : decode cL_law 1117 = .ok (.iload_n 3, 1) := by decide +kernel
theorem dL_law_1118 : decode cL_law 1118 = .ok (.iconst 1, 1) := by decide +kernel
theorem dL_law_1119 : decode cL_law 1119 = .ok (.iadd, 1) := by decide +kernel
theorem dL_law_1120 : decode cL_law 1120 = .ok (.iaload, 1) := by decide +kernel
theorem dL_law_1121 : decode cL_law 1121 = .ok (.invokevirtual 148, 3) := by decide +kernel
theorem dL_law_1124 : decode cL_law 1124 = .ok (.aload_n 2, 1) := by decide +kernel
theorem dL_law_1125 : decode cL_law 1125 = .ok (.aload_n 0, 1) := by decide +kernel
theorem dL_law_1126 : decode cL_law 1126 = .ok (.iload_n 3, 1) := by decide +kernel
theorem dL_law_1127 : decode cL_law 1127 = .ok (.iconst 1, 1) := by decide +kernel
theorem dL_law_1128 : decode cL_law 1128 = .ok (.iadd, 1) := by decide +kernel
theorem dL_law_1129 : decode cL_law 1129 = .ok (.iaload, 1) := by decide +kernel
theorem dL_law_1130 : decode cL_law 1130 = .ok (.invokevirtual 151, 3) := by decide +kernel
theorem dL_law_1133 : decode cL_law 1133 = .ok (.if_icmp .eq 42, 3) := by decide +kernel
theorem dL_law_1136 : decode cL_law 1136 = .ok (.iconst 0, 1) := by decide +kernel
theorem dL_law_1137 : decode cL_law 1137 = .ok (.ireturn, 1) := by decide +kernel
theorem dL_law_1138 : decode cL_law 1138 = .ok (.aload_n 1, 1) := by decide +kernel
theorem dL_law_1139 : decode cL_law 1139 = .ok (.aload_n 0, 1) := by decide +kernel
theorem dL_law_1140 : decode cL_law 1140 = .ok (.iload_n 3, 1) := by decide +kernel
theorem dL_law_1141 : decode cL_law 1141 = .ok (.iconst 1, 1) := by decide +kernel
theorem dL_law_1142 : decode cL_law 1142 = .ok (.iadd, 1) := by decide +kernel
theorem dL_law_1143 : decode cL_law 1143 = .ok (.iaload, 1) := by decide +kernel
theorem dL_law_1144 : decode cL_law 1144 = .ok (.invokevirtual 152, 3) := by decide +kernel
theorem dL_law_1147 : decode cL_law 1147 = .ok (.aload_n 2, 1) := by decide +kernel
theorem dL_law_1148 : decode cL_law 1148 = .ok (.aload_n 0, 1) := by decide +kernel
theorem dL_law_1149 : decode cL_law 1149 = .ok (.iload_n 3, 1) := by decide +kernel
theorem dL_law_1150 : decode cL_law 1150 = .ok (.iconst 1, 1) := by decide +kernel
theorem dL_law_1151 : decode cL_law 1151 = .ok (.iadd, 1) := by decide +kernel
theorem dL_law_1152 : decode cL_law 1152 = .ok (.iaload, 1) := by decide +kernel
theorem dL_law_1153 : decode cL_law 1153 = .ok (.invokevirtual 155, 3) := by decide +kernel
theorem dL_law_1156 : decode cL_law 1156 = .ok (.if_icmp .eq 19, 3) := by decide +kernel
theorem dL_law_1159 : decode cL_law 1159 = .ok (.iconst 0, 1) := by decide +kernel
theorem dL_law_1160 : decode cL_law 1160 = .ok (.ireturn, 1) := by decide +kernel
theorem dL_law_1161 : decode cL_law 1161 = .ok (.aload_n 1, 1) := by decide +kernel
theorem dL_law_1162 : decode cL_law 1162 = .ok (.invokevirtual 156, 3) := by decide +kernel
theorem dL_law_1165 : decode cL_law 1165 = .ok (.aload_n 2, 1) := by decide +kernel
theorem dL_law_1166 : decode cL_law 1166 = .ok (.invokevirtual 160, 3) := by decide +kernel
theorem dL_law_1169 : decode cL_law 1169 = .ok (.lcmp, 1) := by decide +kernel
theorem dL_law_1170 : decode cL_law 1170 = .ok (.ifCond .eq 5, 3) := by decide +kernel
theorem dL_law_1173 : decode cL_law 1173 = .ok (.iconst 0, 1) := by decide +kernel
theorem dL_law_1174 : decode cL_law 1174 = .ok (.ireturn, 1) := by decide +kernel
theorem dL_law_1175 : decode cL_law 1175 = .ok (.iinc 3 6, 3) := by decide +kernel
theorem dL_law_1178 : decode cL_law 1178 = .ok (.goto (-1160), 3) := by decide +kernel
theorem dL_law_1181 : decode cL_law 1181 = .ok (.iconst 1, 1) := by decide +kernel
theorem dL_law_1182 : decode cL_law 1182 = .ok (.ireturn, 1) := by decide +kernel
abbrev vwCl : List vw_C := [(RX0, TX0, 12), (RX1, TX1, 0), (RX2, TX2, 0), (RX3, TX3, 0), (RX4, TX4, 4), (RX5, TX5, 0), (RX6, TX6, 0), (RX7, TX7, 4), (RX8, TX8, 0), (RX9, TX9, 12), (RX10, TX10, 26)]
end
section
/-! the memory: ints, longs and references by cell and place; the shape of each cell; how many cells -/
abbrev j_M : Type := (Nat → Nat → Int32) × (Nat → Nat → Int64) × (Nat → Nat → Option Nat) × (Nat → Nat × Nat) × Nat
def j_I (M : j_M) (a k : Nat) : Int32 := M.1 a k
def j_L (M : j_M) (a k : Nat) : Int64 := M.2.1 a k
def j_R (M : j_M) (a k : Nat) : Option Nat := M.2.2.1 a k
def j_S (M : j_M) (a : Nat) : Nat × Nat := M.2.2.2.1 a
def j_N (M : j_M) : Nat := M.2.2.2.2
def j_sI (M : j_M) (a k : Nat) (v : Int32) : j_M := (fun b j => if b = a ∧ j = k then v else M.1 b j, M.2)
def j_sL (M : j_M) (a k : Nat) (v : Int64) : j_M := (M.1, fun b j => if b = a ∧ j = k then v else M.2.1 b j, M.2.2)
def j_sR (M : j_M) (a k : Nat) (v : Option Nat) : j_M := (M.1, M.2.1, fun b j => if b = a ∧ j = k then v else M.2.2.1 b j, M.2.2.2)
def j_cp (M : j_M) (sa sp da dp n : Nat) : j_M := (fun b j => if b = da ∧ dp ≤ j ∧ j < dp + n then M.1 sa (sp + (j - dp)) else M.1 b j, M.2)
/-- ints out of a table of constants -/
def j_cf (M : j_M) (f : Nat → Int32) (sp da dp n : Nat) : j_M := (fun b j => if b = da ∧ dp ≤ j ∧ j < dp + n then f (sp + (j - dp)) else M.1 b j, M.2)
def j_fi (M : j_M) (a n : Nat) (v : Int32) : j_M := (fun b j => if b = a ∧ j < n then v else M.1 b j, M.2)
def j_fl (M : j_M) (a n : Nat) (v : Int64) : j_M := (M.1, fun b j => if b = a ∧ j < n then v else M.2.1 b j, M.2.2)
def j_nw (M : j_M) (sh : Nat × Nat) : j_M := (fun b j => if b = M.2.2.2.2 then 0 else M.1 b j, fun b j => if b = M.2.2.2.2 then 0 else M.2.1 b j, fun b j => if b = M.2.2.2.2 then none else M.2.2.1 b j, fun b => if b = M.2.2.2.2 then sh else M.2.2.2.1 b, M.2.2.2.2 + 1)
/-! the encoding -/
abbrev j_G : Type := va_G × Nat × (Nat → ClassId) × (Nat → Nat)
def j_rho (G : j_G) (k : Nat) : Nat := if k < 1000000 then G.2.1 + k else G.2.2.2 (k - 1000000)
def j_tv (G : j_G) (v : Value) : Value := match v with
  | .ref k => .ref (j_rho G k)
  | w => w
def j_A (G : j_G) : Nat → Prop := fun q => G.2.1 ≤ q
def j_nf (ci : Nat) : Nat := ([12, 0, 0, 0, 4, 0, 0, 4, 0, 12, 26] : List Nat).getD ci 0
/-- a field's sort: 0 int, 1 long, 2 a reference -/
def j_fk (ci k : Nat) : Nat := (([[2, 2, 2, 2, 2, 2, 2, 2, 2, 0, 0, 0], [], [], [], [2, 2, 2, 0], [], [], [2, 0, 0, 0], [], [2, 2, 2, 2, 2, 2, 2, 1, 1, 0, 0, 0], [2, 2, 2, 2, 1, 1, 2, 0, 0, 0, 2, 2, 2, 2, 0, 2, 2, 2, 2, 0, 0, 0, 0, 0, 2, 2]] : List (List Nat)).getD ci []).getD k 0
def j_fv (G : j_G) (M : j_M) (ci a k : Nat) : Value := if j_fk ci k = 0 then .int (j_I M a k) else if j_fk ci k = 1 then .long (j_L M a k) else va_rf ((j_R M a k).map (j_rho G))
def j_rq (G : j_G) (M : j_M) (a : Nat) : Nat → Option Nat := fun j => (j_R M a j).map (j_rho G)
def j_cel (G : j_G) (M : j_M) (a : Nat) (t n : Nat) : va_E :=
  if t = 1 then .inl (G.2.2.1 1, n, .inl (j_I M a))
  else if t = 2 then .inl (G.2.2.1 2, n, .inr (.inl (j_L M a)))
  else if t = 3 then .inl (G.2.2.1 3, n, .inl (j_I M a))
  else if t = 4 then .inl (G.2.2.1 4, n, .inl (j_I M a))
  else if t = 5 then .inl (G.2.2.1 5, n, .inr (.inr (.inr (.inr (j_rq G M a)))))
  else if t = 6 then .inl (G.2.2.1 6, n, .inr (.inr (.inr (.inr (j_rq G M a)))))
  else .inr (t - 10, (List.range (j_nf (t - 10))).map (j_fv G M (t - 10) a))
def j_c (G : j_G) (M : j_M) (a : Nat) : va_E := j_cel G M a (j_S M a).1 (j_S M a).2
def j_tys (G : j_G) : List (ClassId × FieldType) := [(G.2.2.1 1, .int), (G.2.2.1 2, .long), (G.2.2.1 3, .boolean), (G.2.2.1 4, .char), (G.2.2.1 5, .object "SwimLanes$Bath"), (G.2.2.1 6, .object "SwimLanes$Plain")]
def j_ws (G : j_G) (M : j_M) : va_W := (List.range (j_N M)).map (fun a => (G.2.1 + a, j_c G M a))
def j_H (G : j_G) (M : j_M) (H : Heap) : Prop := va_P G.1 vwCl (j_ws G M) H ∧ H.size = G.2.1 + j_N M ∧ j_N M ≤ 1000000
theorem j_ws_at {G : j_G} {M : j_M} {a : Nat} (h : a < j_N M) : (j_ws G M)[a]? = some (G.2.1 + a, j_c G M a) := by
  simp [j_ws, h]
theorem j_ws_inv {G : j_G} {M : j_M} {k : Nat} {q : Nat × va_E} (h : (j_ws G M)[k]? = some q) : k < j_N M ∧ q = (G.2.1 + k, j_c G M k) := by
  have hk : k < (j_ws G M).length := (List.getElem?_eq_some_iff.mp h).1
  have hk' : k < j_N M := by simpa [j_ws] using hk
  rw [j_ws_at hk'] at h
  exact ⟨hk', (Option.some.inj h).symm⟩
theorem j_ws_D {G : j_G} {M : j_M} : va_D (j_A G) (j_ws G M) := by
  refine ⟨fun i j p q hi hj hpq => ?_, fun k q hk => ?_⟩
  · obtain ⟨_, rfl⟩ := j_ws_inv hi
    obtain ⟨_, rfl⟩ := j_ws_inv hj
    exact Nat.add_left_cancel hpq
  · obtain ⟨_, rfl⟩ := j_ws_inv hk
    exact Nat.le_add_right _ _
theorem j_ws_set {G : j_G} {M M' : j_M} {a : Nat} {e : va_E} (hN : j_N M' = j_N M) (hc : ∀ b, b ≠ a → j_c G M' b = j_c G M b) (he : j_c G M' a = e) : (j_ws G M).set a (G.2.1 + a, e) = j_ws G M' := by
  apply List.ext_getElem?
  intro k
  rw [List.getElem?_set]
  by_cases hk : k < j_N M
  · rw [j_ws_at (M := M') (by rw [hN]; exact hk)]
    by_cases hka : a = k
    · subst hka
      have : a < (j_ws G M).length := by simpa [j_ws] using hk
      simp [this, he]
    · simp [hka, j_ws_at hk, hc k (fun h => hka h.symm)]
  · have h1 : (j_ws G M)[k]? = none := by simp [j_ws]; omega
    have h2 : (j_ws G M')[k]? = none := by simp [j_ws]; omega
    rw [h1, h2]
    have h3 : ¬ a < (j_ws G M).length ∨ a ≠ k := by
      simp [j_ws]; omega
    by_cases hka : a = k
    · subst hka
      simp [j_ws]; omega
    · simp [hka]
theorem j_c_sI_ne {G : j_G} {M : j_M} {a k b : Nat} {v : Int32} (h : b ≠ a) : j_c G (j_sI M a k v) b = j_c G M b := by
  have e : j_I (j_sI M a k v) b = j_I M b := by funext j; simp [j_I, j_sI, h]
  have e2 : j_fv G (j_sI M a k v) ((j_S M b).1 - 10) b = j_fv G M ((j_S M b).1 - 10) b := by funext j; simp only [j_fv, e]; rfl
  show j_cel G (j_sI M a k v) b (j_S M b).1 (j_S M b).2 = _
  unfold j_c j_cel
  rw [e, e2]; rfl
theorem j_c_sL_ne {G : j_G} {M : j_M} {a k b : Nat} {v : Int64} (h : b ≠ a) : j_c G (j_sL M a k v) b = j_c G M b := by
  have e : j_L (j_sL M a k v) b = j_L M b := by funext j; simp [j_L, j_sL, h]
  have e2 : j_fv G (j_sL M a k v) ((j_S M b).1 - 10) b = j_fv G M ((j_S M b).1 - 10) b := by funext j; simp only [j_fv, e]; rfl
  show j_cel G (j_sL M a k v) b (j_S M b).1 (j_S M b).2 = _
  unfold j_c j_cel
  rw [e, e2]; rfl
theorem j_c_sR_ne {G : j_G} {M : j_M} {a k b : Nat} {v : Option Nat} (h : b ≠ a) : j_c G (j_sR M a k v) b = j_c G M b := by
  have e : ∀ j, j_R (j_sR M a k v) b j = j_R M b j := by intro j; simp [j_R, j_sR, h]
  have e2 : j_fv G (j_sR M a k v) ((j_S M b).1 - 10) b = j_fv G M ((j_S M b).1 - 10) b := by funext j; simp only [j_fv, e]; rfl
  have e3 : j_rq G (j_sR M a k v) b = j_rq G M b := by funext j; simp only [j_rq, e]
  show j_cel G (j_sR M a k v) b (j_S M b).1 (j_S M b).2 = _
  unfold j_c j_cel
  rw [e2, e3]; rfl
/-- an object's fields, one of them set -/
theorem j_fset {f g : Nat → Value} {n k : Nat} {v : Value} (hg : g k = v) (h : ∀ j, j ≠ k → g j = f j) : ((List.range n).map f).set k v = (List.range n).map g := by
  apply List.ext_getElem?
  intro j
  rw [List.getElem?_set]
  by_cases hj : j < n
  · by_cases hkj : k = j
    · subst hkj
      simp [hj, hg]
    · simp [hj, hkj, h j (fun e => hkj e.symm)]
  · by_cases hkj : k = j
    · subst hkj
      simp [hj]
    · simp [hj, hkj]
end
section
/-! the context of a method's run, and the judgement -/
def j_isN : Cond → Bool
  | .fieldLinkNest .. => true
  | .methodLinkNest .. => true
  | .castable .. => true
  | .declares _ => true
  | _ => false
theorem j_nw_warm {w : Cond} {s U : State} (h : j_isN w = true) (hW : s.WarmedH U.vm) (hZ : va_Nw w s) : va_Nw w U := by
  cases w <;> first | exact va_Nw.warmF hW hZ | exact va_Nw.warmM hW hZ | exact va_Nw.warmC hW hZ | exact va_Nw.warmD hW hZ | (simp [j_isN] at h)
def j_gt : List Cond := lw_tbl.filter goodWord
theorem j_gt_good : GoodIn j_gt j_gt := fun w h => ⟨h, good_of_word (List.mem_filter.mp h).2⟩
/-- the bytes of the four words -/
def j_byt : List (List Int32) := [[98, 97, 116, 104], [115, 105, 103, 110], [115, 104, 117, 116], [111, 110, 101]]
def j_len : List Nat := [4, 4, 4, 3]
def j_sig : Nat → Int32 := fun j => ([0, 1, 1, 2] : List Int32).getD j 0
def j_CS (G : j_G) (s : State) : Prop :=
  (va_Z "SwimLanes" "SIGNS_AT_FIRST" "[I" (.ref (G.2.2.2 0)) (j_A G) s s.heap ∧ va_T .int (G.2.2.2 0) 4 (fun j => .int (j_sig j)) (j_A G) s s.heap) ∧
  (va_Z "java/lang/String" "COMPACT_STRINGS" "Z" (.int 1) (j_A G) s s.heap ∧ vk_S 4 j_len j_byt (fun i => G.2.2.2 (1 + i)) (fun i => G.2.2.2 (11 + i)) (j_A G) s s.heap) ∧
  (vk_R RX7 33 "bath" (G.2.2.2 1) s ∧ vk_R RX7 47 "sign" (G.2.2.2 2) s ∧ vk_R RX7 52 "shut" (G.2.2.2 3) s ∧ vk_R RX7 57 "one" (G.2.2.2 4) s) ∧
  va_AO "SwimLanes$Bath" s ∧ va_AO "SwimLanes$Plain" s
def j_C (G : j_G) (s : State) : Prop := va_K G.1 vwCl (j_tys G) s ∧ (∀ w ∈ lw_tbl, j_isN w = true → va_Nw w s) ∧ j_CS G s ∧ G.2.1 ≤ s.heap.size
theorem j_CS.to {G : j_G} {s U : State} (h : j_CS G s) (hW : s.WarmedH U.vm) (hq : ∀ q : Nat, q < s.heap.size → ¬ j_A G q → U.heap[q]? = s.heap[q]?) : j_CS G U := by
  obtain ⟨⟨a1, a2⟩, ⟨b1, b2⟩, ⟨c1, c2, c3, c4⟩, d1, d2⟩ := h
  exact ⟨⟨(a1.moved hW.alike).kept hq, (a2.moved hW.alike).kept hq⟩, ⟨(b1.moved hW.alike).kept hq, (b2.moved hW.alike).kept hq⟩, ⟨c1.warm hW, c2.warm hW, c3.warm hW, c4.warm hW⟩, d1.moved hW.alike, d2.moved hW.alike⟩
theorem j_C.to {G : j_G} {s U : State} (h : j_C G s) (hW : s.WarmedH U.vm) (hq : ∀ q : Nat, q < s.heap.size → ¬ j_A G q → U.heap[q]? = s.heap[q]?) (hz : s.heap.size ≤ U.heap.size) : j_C G U :=
  ⟨h.1.moved hW.alike, fun w hw hn => j_nw_warm hn hW (h.2.1 w hw hn), h.2.2.1.to hW hq, Nat.le_trans h.2.2.2 hz⟩
abbrev j_Md : Type := MethodName × ByteArray × Nat × Option FieldType
def j_F (md : j_Md) (p : Program) (s : State) (m : MethodId) (args : Array Value) (meth : Method) (c : Code) : Prop :=
  p.tables.exec = Jvm.exec ∧ c.code = md.2.1 ∧ c.maxLocals = md.2.2.1 ∧ meth.sig.returnType = md.2.2.2 ∧ meth.locks = false ∧ s.vm.findClass md.1.cls = some m.cls ∧ (∀ w ∈ j_gt, w.before args s = true) ∧ meth.name = md.1.name
def j_Q (G : j_G) (mc : Nat) (Po : Option Value → j_M → Prop) : Array Value → State → Outcome → State → Prop := fun _ st oc t => (∃ (v : Option Value) (M' : j_M), oc = .returned (v.map (j_tv G)) ∧ Po v M' ∧ j_H G M' t.heap) ∧ va_F (j_A G) st t ∧ t.heap.size = st.heap.size + mc
def j_lm (G : j_G) (lv : List (Nat × Value)) : List (Nat × Value) := lv.map (fun q => (q.1, j_tv G q.2))
def JJ (l : Launch) (G : j_G) (md : j_Md) (R : Room) (cs mcs : Nat × Nat) (Po : Option Value → j_M → Prop) (pc : Nat) (lv : List (Nat × Value)) (st : List Value) (M : j_M) : Prop :=
  ∀ (p : Program) (e : Env) (s : State) (m : MethodId) (args : Array Value) (below : List Frame) (meth : Method) (c : Code) (H : Heap) (locs : List Loc) (ls : Array Slot), j_F md p s m args meth c → j_C G s → j_H G M H → va_S (j_A G) s.heap H locs → lv_has ls md.2.2.1 (j_lm G lv) → s.heap.size + cs.1 = G.2.1 + j_N M →
    W p l e R s m args below meth c H locs cs.1 cs.2 (MQ below (j_Q G mcs.1 Po) args s mcs.1 mcs.2 (j_A G)) (F0 m pc ls (st.map (j_tv G)))
def j_rm (d : Nat) (mcs : Nat × Nat) : Room := { frames := d, cells := mcs.1, slots := mcs.2, locals := 40 * d }
def j_Pc (G : j_G) (as : List Value) (M : j_M) : Array Value → State → Prop := va_Pc (as.map (j_tv G)) (fun U => j_C G U ∧ j_H G M U.heap)
def j_wm (md : j_Md) : List Cond := .code md.1 md.2.1 md.2.2.1 md.2.2.2 :: j_gt
def j_Sp (l : Launch) (G : j_G) (md : j_Md) (d : Nat) (mcs : Nat × Nat) (as : List Value) (M : j_M) (Po : Option Value → j_M → Prop) : Prop :=
  Met l md.1 (j_wm md) (j_rm d mcs) (j_Pc G as M) (j_Q G mcs.1 Po) mcs.1 mcs.2 (j_A G)
theorem j_cat (G : j_G) (v : Value) : (j_tv G v).category = v.category := by cases v <;> rfl
theorem j_args (G : j_G) (as : List Value) : ∀ i, lv_args i (as.map (j_tv G)) = j_lm G (lv_args i as) := by
  induction as with
  | nil => intro i; rfl
  | cons v t ih =>
    intro i
    show (i, j_tv G v) :: lv_args (if (j_tv G v).category = 2 then i + 2 else i + 1) (t.map (j_tv G)) = _
    rw [j_cat, ih]
    rfl
theorem j_slen (G : j_G) (as : List Value) : (lg_sl (as.map (j_tv G))).length = (lg_sl as).length := by
  induction as with
  | nil => rfl
  | cons v t ih =>
    have e : ∀ (w : Value) (u : List Value), lg_sl (w :: u) = (if w.category = 2 then [Slot.val w, Slot.second] else [Slot.val w]) ++ lg_sl u := fun w u => by simp [lg_sl]
    rw [List.map_cons, e, e, List.length_append, List.length_append, ih, j_cat]
    by_cases h : v.category = 2 <;> simp [h]
theorem j_blind {G : j_G} {as : List Value} {M : j_M} : FrameBlind (j_Pc G as M) := by
  intro a U g mk h
  obtain ⟨h1, h2, h3⟩ := h
  exact ⟨h1, h2.to (U := U.calling g mk a) (State.WarmedH.refl U) (fun _ _ _ => rfl) (Nat.le_refl _), h3⟩
/-- a contract out of a walk of the body -/
theorem j_Sp.of {l : Launch} {G : j_G} {md : j_Md} {d : Nat} {mcs : Nat × Nat} {as : List Value} {M : j_M} {Po : Option Value → j_M → Prop} (hy : plainName md.1.cls = true) (hl : (lg_sl as).length ≤ md.2.2.1) (k : JJ l G md (j_rm d mcs) (0, 0) mcs Po 0 (lv_args 0 as) [] M) : j_Sp l G md d mcs as M Po := by
  refine Met.ofW (cc := md.2.1) (maxL := md.2.2.1) (ret := md.2.2.2) hy rfl ?_
  intro p e s m args below meth c s₁ B hml hv
  obtain ⟨rfl, hC, hH⟩ := hv
  have hts := atoms_spec (ws := j_wm md) B.pre
  rw [lg_entry_eq]
  refine k p e s m _ below meth c s.heap [] _ ⟨B.exec, B.bytes, hml, B.returns, B.notSynchronized, findClass_of_methodNamed B.named, fun w hw => hts w (List.mem_cons_of_mem _ hw), (name_of_methodNamed B.named B.method).1⟩ hC hH va_S.rf ?_ hH.2.1
  have h := lv_entry (as.map (j_tv G)) (n := md.2.2.1) (by rw [j_slen]; exact hl)
  rw [j_args] at h
  exact h
theorem j_lvat {G : j_G} {ls : Array Slot} {nL : Nat} {lv : List (Nat × Value)} (h : lv_has ls nL (j_lm G lv)) {n i : Nat} {v : Value} (hl : lv[n]? = some (i, v)) : ls[i]? = some (.val (j_tv G v)) := by
  refine lv_at h n ?_
  rw [j_lm, List.getElem?_map, hl]; rfl
def j_k1 (i : Nat) : Nat × Value → Bool := fun q => !(q.1 == i) && !(q.1 + 1 == i && q.2.category == 2)
def j_k2 (i : Nat) : Nat × Value → Bool := fun q => !(q.1 == i) && (!(q.1 == i + 1) && !(q.1 + 1 == i && q.2.category == 2))
theorem j_fl1 (G : j_G) (lv : List (Nat × Value)) (i : Nat) : (j_lm G lv).filter (fun q => !(q.1 == i) && !(q.1 + 1 == i && q.2.category == 2)) = j_lm G (lv.filter (j_k1 i)) := by
  induction lv with
  | nil => rfl
  | cons a t ih =>
    have h : j_lm G (a :: t) = (a.1, j_tv G a.2) :: j_lm G t := rfl
    have hk : (!(a.1 == i) && !(a.1 + 1 == i && (j_tv G a.2).category == 2)) = j_k1 i a := by rw [j_cat]; rfl
    rcases Bool.eq_false_or_eq_true (j_k1 i a) with hb | hb
    · rw [h, List.filter_cons_of_pos (by exact hk.trans hb), List.filter_cons_of_pos hb, ih]; rfl
    · rw [h, List.filter_cons_of_neg (by rw [hk, hb]; decide), List.filter_cons_of_neg (by rw [hb]; decide), ih]
theorem j_fl2 (G : j_G) (lv : List (Nat × Value)) (i : Nat) : (j_lm G lv).filter (fun q => !(q.1 == i) && (!(q.1 == i + 1) && !(q.1 + 1 == i && q.2.category == 2))) = j_lm G (lv.filter (j_k2 i)) := by
  induction lv with
  | nil => rfl
  | cons a t ih =>
    have h : j_lm G (a :: t) = (a.1, j_tv G a.2) :: j_lm G t := rfl
    have hk : (!(a.1 == i) && (!(a.1 == i + 1) && !(a.1 + 1 == i && (j_tv G a.2).category == 2))) = j_k2 i a := by rw [j_cat]; rfl
    rcases Bool.eq_false_or_eq_true (j_k2 i a) with hb | hb
    · rw [h, List.filter_cons_of_pos (by exact hk.trans hb), List.filter_cons_of_pos hb, ih]; rfl
    · rw [h, List.filter_cons_of_neg (by rw [hk, hb]; decide), List.filter_cons_of_neg (by rw [hb]; decide), ih]
section
variable {l : Launch} {G : j_G} {md : j_Md} {R : Room} {cs mcs : Nat × Nat} {Po : Option Value → j_M → Prop} {pc pc' : Nat} {lv lv' : List (Nat × Value)} {st : List Value} {M : j_M}
/-- fewer locals -/
theorem J_sub (ks : List Nat) (hl : ks.filterMap (fun k => lv[k]?) = lv') (k : JJ l G md R cs mcs Po pc lv' st M) : JJ l G md R cs mcs Po pc lv st M := by
  intro p e s m args below meth c H locs ls F C h1 h2 h3 hz
  refine k p e s m args below meth c H locs ls F C h1 h2 ⟨h3.1, h3.2.1, fun q hq => ?_⟩ hz
  subst hl
  obtain ⟨q0, hq0, rfl⟩ := List.mem_map.mp hq
  obtain ⟨i, -, hi⟩ := List.mem_filterMap.mp hq0
  exact h3.2.2 _ (List.mem_map.mpr ⟨q0, List.mem_of_getElem? hi, rfl⟩)
theorem J_iadd {x y : Int32} (hd : decode md.2.1 pc = .ok (.iadd, 1)) (hp : pc + 1 = pc') (k : JJ l G md R cs mcs Po pc' lv (.int (x + y) :: st) M) : JJ l G md R cs mcs Po pc lv (.int y :: .int x :: st) M := by
  subst hp
  intro p e s m args below meth c H locs ls F C h1 h2 h3 hz
  exact lv_iadd F.1 F.2.1 hd  (k p e s m args below meth c H locs ls F C h1 h2 h3 hz)
theorem J_isub {x y : Int32} (hd : decode md.2.1 pc = .ok (.isub, 1)) (hp : pc + 1 = pc') (k : JJ l G md R cs mcs Po pc' lv (.int (x - y) :: st) M) : JJ l G md R cs mcs Po pc lv (.int y :: .int x :: st) M := by
  subst hp
  intro p e s m args below meth c H locs ls F C h1 h2 h3 hz
  exact lv_isub F.1 F.2.1 hd  (k p e s m args below meth c H locs ls F C h1 h2 h3 hz)
theorem J_imul {x y : Int32} (hd : decode md.2.1 pc = .ok (.imul, 1)) (hp : pc + 1 = pc') (k : JJ l G md R cs mcs Po pc' lv (.int (x * y) :: st) M) : JJ l G md R cs mcs Po pc lv (.int y :: .int x :: st) M := by
  subst hp
  intro p e s m args below meth c H locs ls F C h1 h2 h3 hz
  exact lv_imul F.1 F.2.1 hd  (k p e s m args below meth c H locs ls F C h1 h2 h3 hz)
theorem J_iand {x y : Int32} (hd : decode md.2.1 pc = .ok (.iand, 1)) (hp : pc + 1 = pc') (k : JJ l G md R cs mcs Po pc' lv (.int (x &&& y) :: st) M) : JJ l G md R cs mcs Po pc lv (.int y :: .int x :: st) M := by
  subst hp
  intro p e s m args below meth c H locs ls F C h1 h2 h3 hz
  exact lv_iand F.1 F.2.1 hd  (k p e s m args below meth c H locs ls F C h1 h2 h3 hz)
theorem J_ior {x y : Int32} (hd : decode md.2.1 pc = .ok (.ior, 1)) (hp : pc + 1 = pc') (k : JJ l G md R cs mcs Po pc' lv (.int (x ||| y) :: st) M) : JJ l G md R cs mcs Po pc lv (.int y :: .int x :: st) M := by
  subst hp
  intro p e s m args below meth c H locs ls F C h1 h2 h3 hz
  exact lv_ior F.1 F.2.1 hd  (k p e s m args below meth c H locs ls F C h1 h2 h3 hz)
theorem J_ixor {x y : Int32} (hd : decode md.2.1 pc = .ok (.ixor, 1)) (hp : pc + 1 = pc') (k : JJ l G md R cs mcs Po pc' lv (.int (x ^^^ y) :: st) M) : JJ l G md R cs mcs Po pc lv (.int y :: .int x :: st) M := by
  subst hp
  intro p e s m args below meth c H locs ls F C h1 h2 h3 hz
  exact lv_ixor F.1 F.2.1 hd  (k p e s m args below meth c H locs ls F C h1 h2 h3 hz)
theorem J_ishl {x y : Int32} (hd : decode md.2.1 pc = .ok (.ishl, 1)) (hp : pc + 1 = pc') (k : JJ l G md R cs mcs Po pc' lv (.int (x <<< (y &&& 31)) :: st) M) : JJ l G md R cs mcs Po pc lv (.int y :: .int x :: st) M := by
  subst hp
  intro p e s m args below meth c H locs ls F C h1 h2 h3 hz
  exact lv_ishl F.1 F.2.1 hd  (k p e s m args below meth c H locs ls F C h1 h2 h3 hz)
theorem J_ishr {x y : Int32} (hd : decode md.2.1 pc = .ok (.ishr, 1)) (hp : pc + 1 = pc') (k : JJ l G md R cs mcs Po pc' lv (.int (x >>> (y &&& 31)) :: st) M) : JJ l G md R cs mcs Po pc lv (.int y :: .int x :: st) M := by
  subst hp
  intro p e s m args below meth c H locs ls F C h1 h2 h3 hz
  exact lv_ishr F.1 F.2.1 hd  (k p e s m args below meth c H locs ls F C h1 h2 h3 hz)
theorem J_ladd {x y : Int64} (hd : decode md.2.1 pc = .ok (.ladd, 1)) (hp : pc + 1 = pc') (k : JJ l G md R cs mcs Po pc' lv (.long (x + y) :: st) M) : JJ l G md R cs mcs Po pc lv (.long y :: .long x :: st) M := by
  subst hp
  intro p e s m args below meth c H locs ls F C h1 h2 h3 hz
  exact lv_ladd F.1 F.2.1 hd  (k p e s m args below meth c H locs ls F C h1 h2 h3 hz)
theorem J_lmul {x y : Int64} (hd : decode md.2.1 pc = .ok (.lmul, 1)) (hp : pc + 1 = pc') (k : JJ l G md R cs mcs Po pc' lv (.long (x * y) :: st) M) : JJ l G md R cs mcs Po pc lv (.long y :: .long x :: st) M := by
  subst hp
  intro p e s m args below meth c H locs ls F C h1 h2 h3 hz
  exact lv_lmul F.1 F.2.1 hd  (k p e s m args below meth c H locs ls F C h1 h2 h3 hz)
theorem J_idiv {x y : Int32} (hd : decode md.2.1 pc = .ok (.idiv, 1)) (hp : pc + 1 = pc') (hne : ¬ y = 0) (k : JJ l G md R cs mcs Po pc' lv (.int (x / y) :: st) M) : JJ l G md R cs mcs Po pc lv (.int y :: .int x :: st) M := by
  subst hp
  intro p e s m args below meth c H locs ls F C h1 h2 h3 hz
  exact lv_idiv F.1 F.2.1 hd hne (k p e s m args below meth c H locs ls F C h1 h2 h3 hz)
theorem J_irem {x y : Int32} (hd : decode md.2.1 pc = .ok (.irem, 1)) (hp : pc + 1 = pc') (hne : ¬ y = 0) (k : JJ l G md R cs mcs Po pc' lv (.int (x - x / y * y) :: st) M) : JJ l G md R cs mcs Po pc lv (.int y :: .int x :: st) M := by
  subst hp
  intro p e s m args below meth c H locs ls F C h1 h2 h3 hz
  exact lv_irem F.1 F.2.1 hd hne (k p e s m args below meth c H locs ls F C h1 h2 h3 hz)
theorem J_ldiv {x y : Int64} (hd : decode md.2.1 pc = .ok (.ldiv, 1)) (hp : pc + 1 = pc') (hne : ¬ y = 0) (k : JJ l G md R cs mcs Po pc' lv (.long (x / y) :: st) M) : JJ l G md R cs mcs Po pc lv (.long y :: .long x :: st) M := by
  subst hp
  intro p e s m args below meth c H locs ls F C h1 h2 h3 hz
  exact lv_ldiv F.1 F.2.1 hd hne (k p e s m args below meth c H locs ls F C h1 h2 h3 hz)
theorem J_lrem {x y : Int64} (hd : decode md.2.1 pc = .ok (.lrem, 1)) (hp : pc + 1 = pc') (hne : ¬ y = 0) (k : JJ l G md R cs mcs Po pc' lv (.long (x - x / y * y) :: st) M) : JJ l G md R cs mcs Po pc lv (.long y :: .long x :: st) M := by
  subst hp
  intro p e s m args below meth c H locs ls F C h1 h2 h3 hz
  exact lv_lrem F.1 F.2.1 hd hne (k p e s m args below meth c H locs ls F C h1 h2 h3 hz)
theorem J_i2l {x : Int32} (hd : decode md.2.1 pc = .ok (.i2l, 1)) (hp : pc + 1 = pc') (k : JJ l G md R cs mcs Po pc' lv (.long x.toInt64 :: st) M) : JJ l G md R cs mcs Po pc lv (.int x :: st) M := by
  subst hp
  intro p e s m args below meth c H locs ls F C h1 h2 h3 hz
  exact lv_i2l F.1 F.2.1 hd rfl (k p e s m args below meth c H locs ls F C h1 h2 h3 hz)
theorem J_l2i {x : Int64} (hd : decode md.2.1 pc = .ok (.l2i, 1)) (hp : pc + 1 = pc') (k : JJ l G md R cs mcs Po pc' lv (.int x.toInt32 :: st) M) : JJ l G md R cs mcs Po pc lv (.long x :: st) M := by
  subst hp
  intro p e s m args below meth c H locs ls F C h1 h2 h3 hz
  exact lv_l2i F.1 F.2.1 hd rfl (k p e s m args below meth c H locs ls F C h1 h2 h3 hz)
theorem J_i2c {x : Int32} (hd : decode md.2.1 pc = .ok (.i2c, 1)) (hp : pc + 1 = pc') (k : JJ l G md R cs mcs Po pc' lv (.int (x.toUInt32 % 65536).toInt32 :: st) M) : JJ l G md R cs mcs Po pc lv (.int x :: st) M := by
  subst hp
  intro p e s m args below meth c H locs ls F C h1 h2 h3 hz
  exact lv_i2c F.1 F.2.1 hd rfl (k p e s m args below meth c H locs ls F C h1 h2 h3 hz)
theorem J_iushr {x y : Int32} (hd : decode md.2.1 pc = .ok (.iushr, 1)) (hp : pc + 1 = pc') (k : JJ l G md R cs mcs Po pc' lv (.int (x.toUInt32 >>> (y.toUInt32 &&& Int32.toUInt32 31)).toInt32 :: st) M) : JJ l G md R cs mcs Po pc lv (.int y :: .int x :: st) M := by
  subst hp
  intro p e s m args below meth c H locs ls F C h1 h2 h3 hz
  exact lv_iushr F.1 F.2.1 hd rfl (k p e s m args below meth c H locs ls F C h1 h2 h3 hz)
theorem J_lcmp {x y : Int64} (hd : decode md.2.1 pc = .ok (.lcmp, 1)) (hp : pc + 1 = pc') (k : JJ l G md R cs mcs Po pc' lv (.int (lg_cmp x y) :: st) M) : JJ l G md R cs mcs Po pc lv (.long y :: .long x :: st) M := by
  subst hp
  intro p e s m args below meth c H locs ls F C h1 h2 h3 hz
  exact W.lcmp F.1 F.2.1 hd  (k p e s m args below meth c H locs ls F C h1 h2 h3 hz)
theorem J_iconst {n : Int} {v : Int32} (hd : decode md.2.1 pc = .ok (.iconst n, 1)) (hp : pc + 1 = pc') (hv : Int32.ofInt n = v) (k : JJ l G md R cs mcs Po pc' lv (.int v :: st) M) : JJ l G md R cs mcs Po pc lv (st) M := by
  subst hp
  intro p e s m args below meth c H locs ls F C h1 h2 h3 hz
  exact lv_iconst F.1 F.2.1 hd hv (k p e s m args below meth c H locs ls F C h1 h2 h3 hz)
theorem J_bipush {n : Int} {v : Int32} (hd : decode md.2.1 pc = .ok (.bipush n, 2)) (hp : pc + 2 = pc') (hv : (Int8.ofInt n).toInt32 = v) (k : JJ l G md R cs mcs Po pc' lv (.int v :: st) M) : JJ l G md R cs mcs Po pc lv (st) M := by
  subst hp
  intro p e s m args below meth c H locs ls F C h1 h2 h3 hz
  exact lv_bipush F.1 F.2.1 hd hv (k p e s m args below meth c H locs ls F C h1 h2 h3 hz)
theorem J_sipush {n : Int} {v : Int32} (hd : decode md.2.1 pc = .ok (.sipush n, 3)) (hp : pc + 3 = pc') (hv : (Int16.ofInt n).toInt32 = v) (k : JJ l G md R cs mcs Po pc' lv (.int v :: st) M) : JJ l G md R cs mcs Po pc lv (st) M := by
  subst hp
  intro p e s m args below meth c H locs ls F C h1 h2 h3 hz
  exact lv_sipush F.1 F.2.1 hd hv (k p e s m args below meth c H locs ls F C h1 h2 h3 hz)
theorem J_lconst {n : Fin 2} {v : Int64} (hd : decode md.2.1 pc = .ok (.lconst n, 1)) (hp : pc + 1 = pc') (hv : Int64.ofNat (n : Nat) = v) (k : JJ l G md R cs mcs Po pc' lv (.long v :: st) M) : JJ l G md R cs mcs Po pc lv (st) M := by
  subst hp
  intro p e s m args below meth c H locs ls F C h1 h2 h3 hz
  exact lv_lconst F.1 F.2.1 hd hv (k p e s m args below meth c H locs ls F C h1 h2 h3 hz)
theorem J_dup {v : Value} (hd : decode md.2.1 pc = .ok (.dup, 1)) (hp : pc + 1 = pc') (hc : v.category = 1) (k : JJ l G md R cs mcs Po pc' lv (v :: v :: st) M) : JJ l G md R cs mcs Po pc lv (v :: st) M := by
  subst hp
  intro p e s m args below meth c H locs ls F C h1 h2 h3 hz
  exact lv_dup F.1 F.2.1 hd (by rw [j_cat]; exact hc) (k p e s m args below meth c H locs ls F C h1 h2 h3 hz)
theorem J_pop {v : Value} (hd : decode md.2.1 pc = .ok (.pop, 1)) (hp : pc + 1 = pc') (hc : v.category = 1) (k : JJ l G md R cs mcs Po pc' lv (st) M) : JJ l G md R cs mcs Po pc lv (v :: st) M := by
  subst hp
  intro p e s m args below meth c H locs ls F C h1 h2 h3 hz
  exact lv_pop F.1 F.2.1 hd (by rw [j_cat]; exact hc) (k p e s m args below meth c H locs ls F C h1 h2 h3 hz)
theorem J_dup2 {v w : Value} (hd : decode md.2.1 pc = .ok (.dup2, 1)) (hp : pc + 1 = pc') (hc : v.category = 1) (hc2 : w.category = 1) (k : JJ l G md R cs mcs Po pc' lv (v :: w :: v :: w :: st) M) : JJ l G md R cs mcs Po pc lv (v :: w :: st) M := by
  subst hp
  intro p e s m args below meth c H locs ls F C h1 h2 h3 hz
  exact lv_dup2_11 F.1 F.2.1 hd (by rw [j_cat]; exact hc) (by rw [j_cat]; exact hc2) (k p e s m args below meth c H locs ls F C h1 h2 h3 hz)
theorem J_dup2L {v : Value} (hd : decode md.2.1 pc = .ok (.dup2, 1)) (hp : pc + 1 = pc') (hc : v.category = 2) (k : JJ l G md R cs mcs Po pc' lv (v :: v :: st) M) : JJ l G md R cs mcs Po pc lv (v :: st) M := by
  subst hp
  intro p e s m args below meth c H locs ls F C h1 h2 h3 hz
  exact lv_dup2_2 F.1 F.2.1 hd (by rw [j_cat]; exact hc) (k p e s m args below meth c H locs ls F C h1 h2 h3 hz)
theorem J_ldc {i : Nat} {v : Int32} (hd : decode md.2.1 pc = .ok (.ldc i, 2)) (hp : pc + 2 = pc') (hw : Cond.constant md.1.cls i v ∈ j_gt) (k : JJ l G md R cs mcs Po pc' lv (.int v :: st) M) : JJ l G md R cs mcs Po pc lv (st) M := by
  subst hp
  intro p e s m args below meth c H locs ls F C h1 h2 h3 hz
  exact lv_ldc F.1 F.2.1 F.2.2.2.2.2.1 (F.2.2.2.2.2.2.1 _ hw) hd (k p e s m args below meth c H locs ls F C h1 h2 h3 hz)
theorem J_ldcw {i : Nat} {v : Int32} (hd : decode md.2.1 pc = .ok (.ldc_w i, 3)) (hp : pc + 3 = pc') (hw : Cond.constant md.1.cls i v ∈ j_gt) (k : JJ l G md R cs mcs Po pc' lv (.int v :: st) M) : JJ l G md R cs mcs Po pc lv (st) M := by
  subst hp
  intro p e s m args below meth c H locs ls F C h1 h2 h3 hz
  exact lv_ldcw F.1 F.2.1 F.2.2.2.2.2.1 (F.2.2.2.2.2.2.1 _ hw) hd (k p e s m args below meth c H locs ls F C h1 h2 h3 hz)
theorem J_ldc2 {i : Nat} {v : Int64} (hd : decode md.2.1 pc = .ok (.ldc2_w i, 3)) (hp : pc + 3 = pc') (hw : Cond.constantLong md.1.cls i v ∈ j_gt) (k : JJ l G md R cs mcs Po pc' lv (.long v :: st) M) : JJ l G md R cs mcs Po pc lv (st) M := by
  subst hp
  intro p e s m args below meth c H locs ls F C h1 h2 h3 hz
  exact lv_ldc2 F.1 F.2.1 F.2.2.2.2.2.1 (F.2.2.2.2.2.2.1 _ hw) hd (k p e s m args below meth c H locs ls F C h1 h2 h3 hz)
theorem J_iload_n {k : Fin 4} {i n : Nat} {x : Int32} (hd : decode md.2.1 pc = .ok (.iload_n k, 1)) (hp : pc + 1 = pc') (hi : (k : Nat) = i) (hl : lv[n]? = some (i, .int x)) (kk : JJ l G md R cs mcs Po pc' lv (.int x :: st) M) : JJ l G md R cs mcs Po pc lv st M := by
  subst hp
  intro p e s m args below meth c H locs ls F C h1 h2 h3 hz
  exact lv_iload_n F.1 F.2.1 hd hi (j_lvat h3 hl) (kk p e s m args below meth c H locs ls F C h1 h2 h3 hz)
theorem J_iload {i n : Nat} {x : Int32} (hd : decode md.2.1 pc = .ok (.iload i, 2)) (hp : pc + 2 = pc') (hl : lv[n]? = some (i, .int x)) (kk : JJ l G md R cs mcs Po pc' lv (.int x :: st) M) : JJ l G md R cs mcs Po pc lv st M := by
  subst hp
  intro p e s m args below meth c H locs ls F C h1 h2 h3 hz
  exact lv_iload F.1 F.2.1 hd (j_lvat h3 hl) (kk p e s m args below meth c H locs ls F C h1 h2 h3 hz)
theorem J_lload_n {k : Fin 4} {i n : Nat} {x : Int64} (hd : decode md.2.1 pc = .ok (.lload_n k, 1)) (hp : pc + 1 = pc') (hi : (k : Nat) = i) (hl : lv[n]? = some (i, .long x)) (kk : JJ l G md R cs mcs Po pc' lv (.long x :: st) M) : JJ l G md R cs mcs Po pc lv st M := by
  subst hp
  intro p e s m args below meth c H locs ls F C h1 h2 h3 hz
  exact lv_lload_n F.1 F.2.1 hd hi (j_lvat h3 hl) (kk p e s m args below meth c H locs ls F C h1 h2 h3 hz)
theorem J_lload {i n : Nat} {x : Int64} (hd : decode md.2.1 pc = .ok (.lload i, 2)) (hp : pc + 2 = pc') (hl : lv[n]? = some (i, .long x)) (kk : JJ l G md R cs mcs Po pc' lv (.long x :: st) M) : JJ l G md R cs mcs Po pc lv st M := by
  subst hp
  intro p e s m args below meth c H locs ls F C h1 h2 h3 hz
  exact lv_lload F.1 F.2.1 hd (j_lvat h3 hl) (kk p e s m args below meth c H locs ls F C h1 h2 h3 hz)
theorem J_aload_n {k : Fin 4} {i n : Nat} {x : Nat} (hd : decode md.2.1 pc = .ok (.aload_n k, 1)) (hp : pc + 1 = pc') (hi : (k : Nat) = i) (hl : lv[n]? = some (i, .ref x)) (kk : JJ l G md R cs mcs Po pc' lv (.ref x :: st) M) : JJ l G md R cs mcs Po pc lv st M := by
  subst hp
  intro p e s m args below meth c H locs ls F C h1 h2 h3 hz
  exact lv_aload_n F.1 F.2.1 hd hi (j_lvat h3 hl) (kk p e s m args below meth c H locs ls F C h1 h2 h3 hz)
theorem J_aload {i n : Nat} {x : Nat} (hd : decode md.2.1 pc = .ok (.aload i, 2)) (hp : pc + 2 = pc') (hl : lv[n]? = some (i, .ref x)) (kk : JJ l G md R cs mcs Po pc' lv (.ref x :: st) M) : JJ l G md R cs mcs Po pc lv st M := by
  subst hp
  intro p e s m args below meth c H locs ls F C h1 h2 h3 hz
  exact lv_aload F.1 F.2.1 hd (j_lvat h3 hl) (kk p e s m args below meth c H locs ls F C h1 h2 h3 hz)
theorem J_istore_n {k : Fin 4} {i : Nat} {x : Int32} (hd : decode md.2.1 pc = .ok (.istore_n k, 1)) (hp : pc + 1 = pc') (hi : (k : Nat) = i) (hn : i < md.2.2.1) (hl : (i, Value.int x) :: lv.filter (j_k1 i) = lv') (kk : JJ l G md R cs mcs Po pc' lv' st M) : JJ l G md R cs mcs Po pc lv (.int x :: st) M := by
  subst hp
  intro p e s m args below meth c H locs ls F C h1 h2 h3 hz
  refine lv_istore_n (lv' := j_lm G lv') F.1 F.2.1 hd hi h3 hn ?_ (fun ls' h' => kk p e s m args below meth c H locs ls' F C h1 h2 h' hz)
  rw [j_fl1, ← hl]; rfl
theorem J_istore {i : Nat} {x : Int32} (hd : decode md.2.1 pc = .ok (.istore i, 2)) (hp : pc + 2 = pc') (hn : i < md.2.2.1) (hl : (i, Value.int x) :: lv.filter (j_k1 i) = lv') (kk : JJ l G md R cs mcs Po pc' lv' st M) : JJ l G md R cs mcs Po pc lv (.int x :: st) M := by
  subst hp
  intro p e s m args below meth c H locs ls F C h1 h2 h3 hz
  refine lv_istore (lv' := j_lm G lv') F.1 F.2.1 hd h3 hn ?_ (fun ls' h' => kk p e s m args below meth c H locs ls' F C h1 h2 h' hz)
  rw [j_fl1, ← hl]; rfl
theorem J_lstore_n {k : Fin 4} {i : Nat} {x : Int64} (hd : decode md.2.1 pc = .ok (.lstore_n k, 1)) (hp : pc + 1 = pc') (hi : (k : Nat) = i) (hn : i + 1 < md.2.2.1) (hl : (i, Value.long x) :: lv.filter (j_k2 i) = lv') (kk : JJ l G md R cs mcs Po pc' lv' st M) : JJ l G md R cs mcs Po pc lv (.long x :: st) M := by
  subst hp
  intro p e s m args below meth c H locs ls F C h1 h2 h3 hz
  refine lv_lstore_n (lv' := j_lm G lv') F.1 F.2.1 hd hi h3 hn ?_ (fun ls' h' => kk p e s m args below meth c H locs ls' F C h1 h2 h' hz)
  rw [j_fl2, ← hl]; rfl
theorem J_lstore {i : Nat} {x : Int64} (hd : decode md.2.1 pc = .ok (.lstore i, 2)) (hp : pc + 2 = pc') (hn : i + 1 < md.2.2.1) (hl : (i, Value.long x) :: lv.filter (j_k2 i) = lv') (kk : JJ l G md R cs mcs Po pc' lv' st M) : JJ l G md R cs mcs Po pc lv (.long x :: st) M := by
  subst hp
  intro p e s m args below meth c H locs ls F C h1 h2 h3 hz
  refine lv_lstore (lv' := j_lm G lv') F.1 F.2.1 hd h3 hn ?_ (fun ls' h' => kk p e s m args below meth c H locs ls' F C h1 h2 h' hz)
  rw [j_fl2, ← hl]; rfl
theorem J_astore_n {k : Fin 4} {i : Nat} {x : Nat} (hd : decode md.2.1 pc = .ok (.astore_n k, 1)) (hp : pc + 1 = pc') (hi : (k : Nat) = i) (hn : i < md.2.2.1) (hl : (i, Value.ref x) :: lv.filter (j_k1 i) = lv') (kk : JJ l G md R cs mcs Po pc' lv' st M) : JJ l G md R cs mcs Po pc lv (.ref x :: st) M := by
  subst hp
  intro p e s m args below meth c H locs ls F C h1 h2 h3 hz
  refine lv_astore_n (lv' := j_lm G lv') F.1 F.2.1 hd hi h3 hn ?_ (fun ls' h' => kk p e s m args below meth c H locs ls' F C h1 h2 h' hz)
  rw [j_fl1, ← hl]; rfl
theorem J_astore {i : Nat} {x : Nat} (hd : decode md.2.1 pc = .ok (.astore i, 2)) (hp : pc + 2 = pc') (hn : i < md.2.2.1) (hl : (i, Value.ref x) :: lv.filter (j_k1 i) = lv') (kk : JJ l G md R cs mcs Po pc' lv' st M) : JJ l G md R cs mcs Po pc lv (.ref x :: st) M := by
  subst hp
  intro p e s m args below meth c H locs ls F C h1 h2 h3 hz
  refine lv_astore (lv' := j_lm G lv') F.1 F.2.1 hd h3 hn ?_ (fun ls' h' => kk p e s m args below meth c H locs ls' F C h1 h2 h' hz)
  rw [j_fl1, ← hl]; rfl
theorem J_iinc {i n : Nat} {d : Int} {x v : Int32} (hd : decode md.2.1 pc = .ok (.iinc i d, 3)) (hp : pc + 3 = pc') (hk : lv[n]? = some (i, .int x)) (hv : x + Int32.ofInt d = v) (hn : i < md.2.2.1) (hl : (i, Value.int v) :: lv.filter (j_k1 i) = lv') (kk : JJ l G md R cs mcs Po pc' lv' st M) : JJ l G md R cs mcs Po pc lv st M := by
  subst hp
  intro p e s m args below meth c H locs ls F C h1 h2 h3 hz
  refine lv_iinc (lv' := j_lm G lv') F.1 F.2.1 hd h3 (k := n) (x := x) (v := v) ?_ hv hn ?_ (fun ls' h' => kk p e s m args below meth c H locs ls' F C h1 h2 h' hz)
  · rw [j_lm, List.getElem?_map, hk]; rfl
  · rw [j_fl1, ← hl]; rfl
theorem J_goto {off : Int} (hd : decode md.2.1 pc = .ok (.goto off, 3)) (ht : (pc : Int) + off = (pc' : Int)) (k : JJ l G md R cs mcs Po pc' lv st M) : JJ l G md R cs mcs Po pc lv st M := by
  intro p e s m args below meth c H locs ls F C h1 h2 h3 hz
  exact lv_goto F.1 F.2.1 hd ht (k p e s m args below meth c H locs ls F C h1 h2 h3 hz)
theorem J_icmp_eq {x y : Int32} {off : Int} {tgt : Nat} (hd : decode md.2.1 pc = .ok (.if_icmp .eq off, 3)) (hp : pc + 3 = pc') (ht : (pc : Int) + off = (tgt : Int)) (kt : x = y → JJ l G md R cs mcs Po tgt lv st M) (kf : ¬ (x = y) → JJ l G md R cs mcs Po pc' lv st M) : JJ l G md R cs mcs Po pc lv (.int y :: .int x :: st) M := by
  subst hp
  intro p e s m args below meth c H locs ls F C h1 h2 h3 hz
  exact lv_icmp_eq F.1 F.2.1 hd ht (fun h => kt h p e s m args below meth c H locs ls F C h1 h2 h3 hz) (fun h => kf h p e s m args below meth c H locs ls F C h1 h2 h3 hz)
theorem J_if_eq {x : Int32} {off : Int} {tgt : Nat} (hd : decode md.2.1 pc = .ok (.ifCond .eq off, 3)) (hp : pc + 3 = pc') (ht : (pc : Int) + off = (tgt : Int)) (kt : x = 0 → JJ l G md R cs mcs Po tgt lv st M) (kf : ¬ (x = 0) → JJ l G md R cs mcs Po pc' lv st M) : JJ l G md R cs mcs Po pc lv (.int x :: st) M := by
  subst hp
  intro p e s m args below meth c H locs ls F C h1 h2 h3 hz
  exact lv_if_eq F.1 F.2.1 hd ht (fun h => kt h p e s m args below meth c H locs ls F C h1 h2 h3 hz) (fun h => kf h p e s m args below meth c H locs ls F C h1 h2 h3 hz)
theorem J_icmp_ne {x y : Int32} {off : Int} {tgt : Nat} (hd : decode md.2.1 pc = .ok (.if_icmp .ne off, 3)) (hp : pc + 3 = pc') (ht : (pc : Int) + off = (tgt : Int)) (kt : ¬ x = y → JJ l G md R cs mcs Po tgt lv st M) (kf : x = y → JJ l G md R cs mcs Po pc' lv st M) : JJ l G md R cs mcs Po pc lv (.int y :: .int x :: st) M := by
  subst hp
  intro p e s m args below meth c H locs ls F C h1 h2 h3 hz
  exact lv_icmp_ne F.1 F.2.1 hd ht (fun h => kt h p e s m args below meth c H locs ls F C h1 h2 h3 hz) (fun h => kf h p e s m args below meth c H locs ls F C h1 h2 h3 hz)
theorem J_if_ne {x : Int32} {off : Int} {tgt : Nat} (hd : decode md.2.1 pc = .ok (.ifCond .ne off, 3)) (hp : pc + 3 = pc') (ht : (pc : Int) + off = (tgt : Int)) (kt : ¬ x = 0 → JJ l G md R cs mcs Po tgt lv st M) (kf : x = 0 → JJ l G md R cs mcs Po pc' lv st M) : JJ l G md R cs mcs Po pc lv (.int x :: st) M := by
  subst hp
  intro p e s m args below meth c H locs ls F C h1 h2 h3 hz
  exact lv_if_ne F.1 F.2.1 hd ht (fun h => kt h p e s m args below meth c H locs ls F C h1 h2 h3 hz) (fun h => kf h p e s m args below meth c H locs ls F C h1 h2 h3 hz)
theorem J_icmp_lt {x y : Int32} {off : Int} {tgt : Nat} (hd : decode md.2.1 pc = .ok (.if_icmp .lt off, 3)) (hp : pc + 3 = pc') (ht : (pc : Int) + off = (tgt : Int)) (kt : x < y → JJ l G md R cs mcs Po tgt lv st M) (kf : ¬ (x < y) → JJ l G md R cs mcs Po pc' lv st M) : JJ l G md R cs mcs Po pc lv (.int y :: .int x :: st) M := by
  subst hp
  intro p e s m args below meth c H locs ls F C h1 h2 h3 hz
  exact lv_icmp_lt F.1 F.2.1 hd ht (fun h => kt h p e s m args below meth c H locs ls F C h1 h2 h3 hz) (fun h => kf h p e s m args below meth c H locs ls F C h1 h2 h3 hz)
theorem J_if_lt {x : Int32} {off : Int} {tgt : Nat} (hd : decode md.2.1 pc = .ok (.ifCond .lt off, 3)) (hp : pc + 3 = pc') (ht : (pc : Int) + off = (tgt : Int)) (kt : x < 0 → JJ l G md R cs mcs Po tgt lv st M) (kf : ¬ (x < 0) → JJ l G md R cs mcs Po pc' lv st M) : JJ l G md R cs mcs Po pc lv (.int x :: st) M := by
  subst hp
  intro p e s m args below meth c H locs ls F C h1 h2 h3 hz
  exact lv_if_lt F.1 F.2.1 hd ht (fun h => kt h p e s m args below meth c H locs ls F C h1 h2 h3 hz) (fun h => kf h p e s m args below meth c H locs ls F C h1 h2 h3 hz)
theorem J_icmp_ge {x y : Int32} {off : Int} {tgt : Nat} (hd : decode md.2.1 pc = .ok (.if_icmp .ge off, 3)) (hp : pc + 3 = pc') (ht : (pc : Int) + off = (tgt : Int)) (kt : y ≤ x → JJ l G md R cs mcs Po tgt lv st M) (kf : ¬ (y ≤ x) → JJ l G md R cs mcs Po pc' lv st M) : JJ l G md R cs mcs Po pc lv (.int y :: .int x :: st) M := by
  subst hp
  intro p e s m args below meth c H locs ls F C h1 h2 h3 hz
  exact lv_icmp_ge F.1 F.2.1 hd ht (fun h => kt h p e s m args below meth c H locs ls F C h1 h2 h3 hz) (fun h => kf h p e s m args below meth c H locs ls F C h1 h2 h3 hz)
theorem J_if_ge {x : Int32} {off : Int} {tgt : Nat} (hd : decode md.2.1 pc = .ok (.ifCond .ge off, 3)) (hp : pc + 3 = pc') (ht : (pc : Int) + off = (tgt : Int)) (kt : 0 ≤ x → JJ l G md R cs mcs Po tgt lv st M) (kf : ¬ (0 ≤ x) → JJ l G md R cs mcs Po pc' lv st M) : JJ l G md R cs mcs Po pc lv (.int x :: st) M := by
  subst hp
  intro p e s m args below meth c H locs ls F C h1 h2 h3 hz
  exact lv_if_ge F.1 F.2.1 hd ht (fun h => kt h p e s m args below meth c H locs ls F C h1 h2 h3 hz) (fun h => kf h p e s m args below meth c H locs ls F C h1 h2 h3 hz)
theorem J_icmp_gt {x y : Int32} {off : Int} {tgt : Nat} (hd : decode md.2.1 pc = .ok (.if_icmp .gt off, 3)) (hp : pc + 3 = pc') (ht : (pc : Int) + off = (tgt : Int)) (kt : y < x → JJ l G md R cs mcs Po tgt lv st M) (kf : ¬ (y < x) → JJ l G md R cs mcs Po pc' lv st M) : JJ l G md R cs mcs Po pc lv (.int y :: .int x :: st) M := by
  subst hp
  intro p e s m args below meth c H locs ls F C h1 h2 h3 hz
  exact lv_icmp_gt F.1 F.2.1 hd ht (fun h => kt h p e s m args below meth c H locs ls F C h1 h2 h3 hz) (fun h => kf h p e s m args below meth c H locs ls F C h1 h2 h3 hz)
theorem J_if_gt {x : Int32} {off : Int} {tgt : Nat} (hd : decode md.2.1 pc = .ok (.ifCond .gt off, 3)) (hp : pc + 3 = pc') (ht : (pc : Int) + off = (tgt : Int)) (kt : 0 < x → JJ l G md R cs mcs Po tgt lv st M) (kf : ¬ (0 < x) → JJ l G md R cs mcs Po pc' lv st M) : JJ l G md R cs mcs Po pc lv (.int x :: st) M := by
  subst hp
  intro p e s m args below meth c H locs ls F C h1 h2 h3 hz
  exact lv_if_gt F.1 F.2.1 hd ht (fun h => kt h p e s m args below meth c H locs ls F C h1 h2 h3 hz) (fun h => kf h p e s m args below meth c H locs ls F C h1 h2 h3 hz)
theorem J_icmp_le {x y : Int32} {off : Int} {tgt : Nat} (hd : decode md.2.1 pc = .ok (.if_icmp .le off, 3)) (hp : pc + 3 = pc') (ht : (pc : Int) + off = (tgt : Int)) (kt : x ≤ y → JJ l G md R cs mcs Po tgt lv st M) (kf : ¬ (x ≤ y) → JJ l G md R cs mcs Po pc' lv st M) : JJ l G md R cs mcs Po pc lv (.int y :: .int x :: st) M := by
  subst hp
  intro p e s m args below meth c H locs ls F C h1 h2 h3 hz
  exact lv_icmp_le F.1 F.2.1 hd ht (fun h => kt h p e s m args below meth c H locs ls F C h1 h2 h3 hz) (fun h => kf h p e s m args below meth c H locs ls F C h1 h2 h3 hz)
theorem J_if_le {x : Int32} {off : Int} {tgt : Nat} (hd : decode md.2.1 pc = .ok (.ifCond .le off, 3)) (hp : pc + 3 = pc') (ht : (pc : Int) + off = (tgt : Int)) (kt : x ≤ 0 → JJ l G md R cs mcs Po tgt lv st M) (kf : ¬ (x ≤ 0) → JJ l G md R cs mcs Po pc' lv st M) : JJ l G md R cs mcs Po pc lv (.int x :: st) M := by
  subst hp
  intro p e s m args below meth c H locs ls F C h1 h2 h3 hz
  exact lv_if_le F.1 F.2.1 hd ht (fun h => kt h p e s m args below meth c H locs ls F C h1 h2 h3 hz) (fun h => kf h p e s m args below meth c H locs ls F C h1 h2 h3 hz)
theorem J_iret {v : Int32} (hr : md.2.2.2 = some .int) (hd : decode md.2.1 pc = .ok (.ireturn, 1)) (hc : cs.1 = mcs.1 ∧ cs.2 ≤ mcs.2) (hq : Po (some (.int v)) M) : JJ l G md R cs mcs Po pc lv [.int v] M := by
  intro p e s m args below meth c H locs ls F C h1 h2 h3 hz
  refine W.widen (k := mcs.1) (n := mcs.2) (Nat.le_of_eq hc.1) hc.2 ?_
  exact W.iret F.1 F.2.1 (F.2.2.2.1.trans hr) (fun t ht hW => ⟨⟨some (.int v), M, rfl, hq, by rw [ht]; exact h1⟩, h2.F ht, by rw [ht, h1.2.1, ← hz, hc.1]⟩) h2.2.2 hd F.2.2.2.2.1
theorem J_lret {v : Int64} (hr : md.2.2.2 = some .long) (hd : decode md.2.1 pc = .ok (.lreturn, 1)) (hc : cs.1 = mcs.1 ∧ cs.2 ≤ mcs.2) (hq : Po (some (.long v)) M) : JJ l G md R cs mcs Po pc lv [.long v] M := by
  intro p e s m args below meth c H locs ls F C h1 h2 h3 hz
  refine W.widen (k := mcs.1) (n := mcs.2) (Nat.le_of_eq hc.1) hc.2 ?_
  exact W.lret F.1 F.2.1 (F.2.2.2.1.trans hr) (fun t ht hW => ⟨⟨some (.long v), M, rfl, hq, by rw [ht]; exact h1⟩, h2.F ht, by rw [ht, h1.2.1, ← hz, hc.1]⟩) h2.2.2 hd F.2.2.2.2.1
theorem J_zret {v : Int32} {ty : FieldType} (hr : md.2.2.2 = some ty) (hn : narrow ty (.int v) = .int v) (hd : decode md.2.1 pc = .ok (.ireturn, 1)) (hc : cs.1 = mcs.1 ∧ cs.2 ≤ mcs.2) (hq : Po (some (.int v)) M) : JJ l G md R cs mcs Po pc lv [.int v] M := by
  intro p e s m args below meth c H locs ls F C h1 h2 h3 hz
  refine W.widen (k := mcs.1) (n := mcs.2) (Nat.le_of_eq hc.1) hc.2 ?_
  exact W.zret F.1 F.2.1 (F.2.2.2.1.trans hr) hn (fun t ht hW => ⟨⟨some (.int v), M, rfl, hq, by rw [ht]; exact h1⟩, h2.F ht, by rw [ht, h1.2.1, ← hz, hc.1]⟩) h2.2.2 hd F.2.2.2.2.1
theorem J_vret (hr : md.2.2.2 = none) (hd : decode md.2.1 pc = .ok (.return_, 1)) (hc : cs.1 = mcs.1 ∧ cs.2 ≤ mcs.2) (hq : Po none M) : JJ l G md R cs mcs Po pc lv [] M := by
  intro p e s m args below meth c H locs ls F C h1 h2 h3 hz
  refine W.widen (k := mcs.1) (n := mcs.2) (Nat.le_of_eq hc.1) hc.2 ?_
  exact W.vret F.1 F.2.1 (F.2.2.2.1.trans hr) (fun t ht hW => ⟨⟨none, M, rfl, hq, by rw [ht]; exact h1⟩, h2.F ht, by rw [ht, h1.2.1, ← hz, hc.1]⟩) h2.2.2 hd F.2.2.2.2.1
/-- a switch by a table -/
theorem J_tin {dflt lo hi : Int} {offs : Array Int} {len : Nat} {x : Int32} {off : Int} {tgt : Nat} (hd : decode md.2.1 pc = .ok (.tableswitch dflt lo hi offs, len)) (v : Int32) (hx : x = v) (hc : ¬ v.toInt < lo ∧ ¬ hi < v.toInt ∧ offs[(v.toInt - lo).toNat]? = some off ∧ (pc : Int) + off = (tgt : Int)) (k : JJ l G md R cs mcs Po tgt lv st M) : JJ l G md R cs mcs Po pc lv (.int x :: st) M := by
  subst hx
  intro p e s m args below meth c H locs ls F C h1 h2 h3 hz
  exact lv_tableIn F.1 F.2.1 hd hc.1 hc.2.1 hc.2.2.1 hc.2.2.2 (k p e s m args below meth c H locs ls F C h1 h2 h3 hz)
theorem J_tout {dflt lo hi : Int} {offs : Array Int} {len : Nat} {x : Int32} {tgt : Nat} (hd : decode md.2.1 pc = .ok (.tableswitch dflt lo hi offs, len)) (hx : x.toInt < lo ∨ hi < x.toInt) (ht : (pc : Int) + dflt = (tgt : Int)) (k : JJ l G md R cs mcs Po tgt lv st M) : JJ l G md R cs mcs Po pc lv (.int x :: st) M := by
  intro p e s m args below meth c H locs ls F C h1 h2 h3 hz
  exact lv_tableOut F.1 F.2.1 hd hx ht (k p e s m args below meth c H locs ls F C h1 h2 h3 hz)
theorem J_lsw {dflt : Int} {ps : Array (Int × Int)} {len : Nat} {x : Int32} {off : Int} {tgt : Nat} (hd : decode md.2.1 pc = .ok (.lookupswitch dflt ps, len)) (hp : (ps.toList.zip (ps.toList.drop 1)).all (fun (a, next) => a.1 < next.1) = true) (ho : Op.lookupswitch.offset ps.toList dflt x.toInt = off) (ht : (pc : Int) + off = (tgt : Int)) (k : JJ l G md R cs mcs Po tgt lv st M) : JJ l G md R cs mcs Po pc lv (.int x :: st) M := by
  intro p e s m args below meth c H locs ls F C h1 h2 h3 hz
  exact lv_lookup F.1 F.2.1 hd hp ho ht (k p e s m args below meth c H locs ls F C h1 h2 h3 hz)
end
end
section
def j_vc (ci : Nat) : vw_C := vwCl.getD ci ("", fun _ => ("", "", "", false), 0)
def j_ty (ci : Nat) : Nat → FieldType := ([tyX0, tyX1, tyX2, tyX3, tyX4, tyX5, tyX6, tyX7, tyX8, tyX9, tyX10] : List (Nat → FieldType)).getD ci (fun _ => .int)
theorem j_in {w : Cond} (i : Nat) (h : lw_tbl[i]? = some w) (hg : goodWord w = true) : w ∈ j_gt := List.mem_filter.mpr ⟨List.mem_of_getElem? h, hg⟩
theorem j_inN {w : Cond} (i : Nat) (h : lw_tbl[i]? = some w) : w ∈ lw_tbl := List.mem_of_getElem? h
def j_cfs (ci : Nat) : Prop := vwCl[ci]? = some (j_vc ci) ∧ (j_vc ci).2.2 = j_nf ci ∧ (∀ w ∈ u_ws (j_vc ci).1 (j_vc ci).2.1 (j_nf ci), w ∈ j_gt) ∧ (∀ k, k < j_nf ci → parseFieldDescriptor ((j_vc ci).2.1 k).2.2.1 = some (j_ty ci k)) ∧ (∀ a, a < j_nf ci → ∀ b, b < j_nf ci → a ≠ b → ((j_vc ci).2.1 a).2.1 ≠ ((j_vc ci).2.1 b).2.1)
theorem j_kf0 : j_cfs 0 := ⟨rfl, rfl, by decide +kernel, by decide +kernel, by decide +kernel⟩
theorem j_kf1 : j_cfs 1 := ⟨rfl, rfl, by decide +kernel, by decide +kernel, by decide +kernel⟩
theorem j_kf2 : j_cfs 2 := ⟨rfl, rfl, by decide +kernel, by decide +kernel, by decide +kernel⟩
theorem j_kf3 : j_cfs 3 := ⟨rfl, rfl, by decide +kernel, by decide +kernel, by decide +kernel⟩
theorem j_kf4 : j_cfs 4 := ⟨rfl, rfl, by decide +kernel, by decide +kernel, by decide +kernel⟩
theorem j_kf5 : j_cfs 5 := ⟨rfl, rfl, by decide +kernel, by decide +kernel, by decide +kernel⟩
theorem j_kf6 : j_cfs 6 := ⟨rfl, rfl, by decide +kernel, by decide +kernel, by decide +kernel⟩
theorem j_kf7 : j_cfs 7 := ⟨rfl, rfl, by decide +kernel, by decide +kernel, by decide +kernel⟩
theorem j_kf8 : j_cfs 8 := ⟨rfl, rfl, by decide +kernel, by decide +kernel, by decide +kernel⟩
theorem j_kf9 : j_cfs 9 := ⟨rfl, rfl, by decide +kernel, by decide +kernel, by decide +kernel⟩
theorem j_kf10 : j_cfs 10 := ⟨rfl, rfl, by decide +kernel, by decide +kernel, by decide +kernel⟩
theorem j_kf (ci : Nat) (h : ci < 11) : j_cfs ci := by
  match ci, h with
  | 0, _ => exact j_kf0
  | 1, _ => exact j_kf1
  | 2, _ => exact j_kf2
  | 3, _ => exact j_kf3
  | 4, _ => exact j_kf4
  | 5, _ => exact j_kf5
  | 6, _ => exact j_kf6
  | 7, _ => exact j_kf7
  | 8, _ => exact j_kf8
  | 9, _ => exact j_kf9
  | 10, _ => exact j_kf10
/-- a field entry of the pool of class own, number i: field k of class ci -/
def j_fln (own : String) (i ci k : Nat) : Prop := ci < 11 ∧ k < j_nf ci ∧ ((j_vc ci).2.1 k).1 = (j_vc ci).1 ∧ (Cond.fieldLink own i (j_vc ci).1 ((j_vc ci).2.1 k).2.1 ((j_vc ci).2.1 k).2.2.1 ∈ j_gt ∨ Cond.fieldLinkNest own i (j_vc ci).1 ((j_vc ci).2.1 k).2.1 ((j_vc ci).2.1 k).2.2.1 "SwimLanes" ∈ lw_tbl)
theorem j_ro {M : j_M} {G : j_G} {H : Heap} {a : Nat} (h : j_H G M H) (ha : a < j_N M) : j_rho G a = G.2.1 + a := if_pos (Nat.lt_of_lt_of_le ha h.2.2)
theorem j_c_obj {G : j_G} {M : j_M} {a ci : Nat} (hs : (j_S M a).1 = 10 + ci) : j_c G M a = .inr (ci, (List.range (j_nf ci)).map (j_fv G M ci a)) := by
  unfold j_c j_cel
  rw [hs, if_neg (by omega), if_neg (by omega), if_neg (by omega), if_neg (by omega), if_neg (by omega), if_neg (by omega), show 10 + ci - 10 = ci by omega]
theorem j_c_1 {G : j_G} {M : j_M} {a n : Nat} (hs : j_S M a = (1, n)) : j_c G M a = .inl (G.2.2.1 1, n, .inl (j_I M a)) := by simp [j_c, j_cel, hs]
theorem j_c_2 {G : j_G} {M : j_M} {a n : Nat} (hs : j_S M a = (2, n)) : j_c G M a = .inl (G.2.2.1 2, n, .inr (.inl (j_L M a))) := by simp [j_c, j_cel, hs]
theorem j_c_3 {G : j_G} {M : j_M} {a n : Nat} (hs : j_S M a = (3, n)) : j_c G M a = .inl (G.2.2.1 3, n, .inl (j_I M a)) := by simp [j_c, j_cel, hs]
theorem j_c_4 {G : j_G} {M : j_M} {a n : Nat} (hs : j_S M a = (4, n)) : j_c G M a = .inl (G.2.2.1 4, n, .inl (j_I M a)) := by simp [j_c, j_cel, hs]
theorem j_c_5 {G : j_G} {M : j_M} {a n : Nat} (hs : j_S M a = (5, n)) : j_c G M a = .inl (G.2.2.1 5, n, .inr (.inr (.inr (.inr (j_rq G M a))))) := by simp [j_c, j_cel, hs]
theorem j_c_6 {G : j_G} {M : j_M} {a n : Nat} (hs : j_S M a = (6, n)) : j_c G M a = .inl (G.2.2.1 6, n, .inr (.inr (.inr (.inr (j_rq G M a))))) := by simp [j_c, j_cel, hs]
theorem j_at {G : j_G} {M : j_M} {a : Nat} {e : va_E} (ha : a < j_N M) (hc : j_c G M a = e) : (j_ws G M)[a]? = some (G.2.1 + a, e) := by rw [j_ws_at ha, hc]
theorem j_fat {G : j_G} {M : j_M} {ci a k : Nat} (hk : k < j_nf ci) : ((List.range (j_nf ci)).map (j_fv G M ci a))[k]? = some (j_fv G M ci a k) := by simp [hk]
section
variable {l : Launch} {G : j_G} {md : j_Md} {R : Room} {cs mcs : Nat × Nat} {Po : Option Value → j_M → Prop} {pc pc' : Nat} {lv lv' : List (Nat × Value)} {st : List Value} {M : j_M}
theorem J_getv {i ci k a : Nat} {v : Value} (hd : decode md.2.1 pc = .ok (.getfield i, 3)) (hp : pc + 3 = pc') (hf : j_fln md.1.cls i ci k) (hs : (j_S M a).1 = 10 + ci) (ha : a < j_N M) (hv : j_fv G M ci a k = j_tv G v) (kk : JJ l G md R cs mcs Po pc' lv (v :: st) M) : JJ l G md R cs mcs Po pc lv (.ref a :: st) M := by
  subst hp
  intro p e s m args below meth c H locs ls F C h1 h2 h3 hz
  obtain ⟨hci, hk, hdc, hlink⟩ := hf
  obtain ⟨c1, c2, c3, c4, c5⟩ := j_kf ci hci
  have kk' := kk p e s m args below meth c H locs ls F C h1 h2 h3 hz
  show W p l e R s m args below meth c H locs cs.1 cs.2 _ (F0 m pc ls (.ref (j_rho G a) :: st.map (j_tv G)))
  rw [j_ro h1 ha]
  rcases hlink with hlink | hlink
  · exact va_get (D := G.1) (cl := vwCl) (tys := j_tys G) (ws := j_ws G M) (ref := (j_vc ci).1) (C := (j_vc ci).1) (T := (j_vc ci).2.1) (N := j_nf ci) (ci := ci) (v := j_tv G v) F.1 F.2.1 F.2.2.2.2.2.2.1 c3 F.2.2.2.2.2.1 C.1 h1.1 a (j_at ha (j_c_obj hs)) (by rw [c1]; exact congrArg some (by rw [← c2])) k hk (F.2.2.2.2.2.2.1 _ hlink) (fun x hx => by rw [← hdc]; exact hx) (by rw [j_fat hk, hv]) hd kk'
  · exact va_getN (D := G.1) (cl := vwCl) (tys := j_tys G) (ws := j_ws G M) (ref := (j_vc ci).1) (C := (j_vc ci).1) (T := (j_vc ci).2.1) (N := j_nf ci) (ci := ci) (v := j_tv G v) F.1 F.2.1 F.2.2.2.2.2.2.1 c3 F.2.2.2.2.2.1 C.1 h1.1 a (j_at ha (j_c_obj hs)) (by rw [c1]; exact congrArg some (by rw [← c2])) k hk (va_Nw.use rfl (C.2.1 _ hlink rfl)) (fun x hx => by rw [← hdc]; exact hx) (by rw [j_fat hk, hv]) hd kk'
theorem J_getI {i ci k a : Nat} (hd : decode md.2.1 pc = .ok (.getfield i, 3)) (hp : pc + 3 = pc') (hf : j_fln md.1.cls i ci k) (hk : j_fk ci k = 0) (hs : (j_S M a).1 = 10 + ci) (ha : a < j_N M) (kk : JJ l G md R cs mcs Po pc' lv (.int (j_I M a k) :: st) M) : JJ l G md R cs mcs Po pc lv (.ref a :: st) M :=
  J_getv hd hp hf hs ha (by simp [j_fv, hk]; rfl) kk
theorem J_getL {i ci k a : Nat} (hd : decode md.2.1 pc = .ok (.getfield i, 3)) (hp : pc + 3 = pc') (hf : j_fln md.1.cls i ci k) (hk : j_fk ci k = 1) (hs : (j_S M a).1 = 10 + ci) (ha : a < j_N M) (kk : JJ l G md R cs mcs Po pc' lv (.long (j_L M a k) :: st) M) : JJ l G md R cs mcs Po pc lv (.ref a :: st) M :=
  J_getv hd hp hf hs ha (by simp [j_fv, hk]; rfl) kk
theorem J_getR {i ci k a b : Nat} (hd : decode md.2.1 pc = .ok (.getfield i, 3)) (hp : pc + 3 = pc') (hf : j_fln md.1.cls i ci k) (hk : j_fk ci k = 2) (hs : (j_S M a).1 = 10 + ci) (ha : a < j_N M) (hr : j_R M a k = some b) (kk : JJ l G md R cs mcs Po pc' lv (.ref b :: st) M) : JJ l G md R cs mcs Po pc lv (.ref a :: st) M :=
  J_getv hd hp hf hs ha (by simp [j_fv, hk, hr]; rfl) kk
theorem j_mkH {p : Program} {e : Env} {s : State} {m : MethodId} {args : Array Value} {below : List Frame} {meth : Method} {c : Code} {T : State} {H1 : Heap} {locs1 : List Loc} {cells slots : Nat} {M' : j_M} (X : Stand p l e R s m args below meth c T locs1 cells slots) (hT : T.heap = H1) (hB : G.2.1 ≤ s.heap.size) (hS : va_S (j_A G) s.heap H1 locs1) (hz : s.heap.size + cells = G.2.1 + j_N M') (hP : va_P G.1 vwCl (j_ws G M') H1) (hN : j_N M' ≤ 1000000) : j_H G M' H1 := by
  refine ⟨hP, ?_, hN⟩
  have h1 : T.heap.size ≤ s.heap.size + cells := X.same.2.2.1
  have h2 : s.heap.size ≤ H1.size := hS.1
  rw [hT] at h1
  have h3 : 0 < j_N M' → G.2.1 + (j_N M' - 1) < H1.size := fun h => (hP (j_N M' - 1) _ (j_ws_at (by omega))).lt
  by_cases h : 0 < j_N M'
  · have := h3 h
    omega
  · omega
theorem J_putv {i ci k a : Nat} {v : Value} {ty : FieldType} {M' : j_M} (hd : decode md.2.1 pc = .ok (.putfield i, 3)) (hp : pc + 3 = pc') (hf : j_fln md.1.cls i ci k) (hfin : ((j_vc ci).2.1 k).2.2.2 = false) (hty : j_ty ci k = ty) (hn : narrow ty (j_tv G v) = j_tv G v) (hfit : fits ty (j_tv G v) = true) (hs : (j_S M a).1 = 10 + ci) (ha : a < j_N M) (hN : j_N M' = j_N M) (hc : ∀ b, b ≠ a → j_c G M' b = j_c G M b) (he : j_c G M' a = .inr (ci, ((List.range (j_nf ci)).map (j_fv G M ci a)).set k (j_tv G v))) (kk : JJ l G md R cs mcs Po pc' lv st M') : JJ l G md R cs mcs Po pc lv (v :: .ref a :: st) M := by
  subst hp
  intro p e s m args below meth c H locs ls F C h1 h2 h3 hz
  obtain ⟨hci, hk, hdc, hlink⟩ := hf
  obtain ⟨c1, c2, c3, c4, c5⟩ := j_kf ci hci
  have c1' : vwCl[ci]? = some ((j_vc ci).1, (j_vc ci).2.1, j_nf ci) := by rw [c1]; exact congrArg some (by rw [← c2])
  show W p l e R s m args below meth c H locs cs.1 cs.2 _ (F0 m pc ls (j_tv G v :: .ref (j_rho G a) :: st.map (j_tv G)))
  rw [j_ro h1 ha]
  have fin : ∀ (H1 : Heap) (locs1 : List Loc), va_P G.1 vwCl ((j_ws G M).set a (G.2.1 + a, .inr (ci, ((List.range (j_nf ci)).map (j_fv G M ci a)).set k (j_tv G v)))) H1 → va_D (j_A G) ((j_ws G M).set a (G.2.1 + a, .inr (ci, ((List.range (j_nf ci)).map (j_fv G M ci a)).set k (j_tv G v)))) → va_S (j_A G) s.heap H1 locs1 → W p l e R s m args below meth c H1 locs1 cs.1 cs.2 (MQ below (j_Q G mcs.1 Po) args s mcs.1 mcs.2 (j_A G)) (F0 m (pc + 3) ls (st.map (j_tv G))) := by
    intro H1 locs1 hP _ hS T hT X
    rw [j_ws_set hN hc he] at hP
    have hz' : s.heap.size + cs.1 = G.2.1 + j_N M' := by rw [hN]; exact hz
    exact kk p e s m args below meth c H1 locs1 ls F C (j_mkH X hT C.2.2.2 hS hz' hP (by rw [hN]; exact h1.2.2)) hS h3 hz' T hT X
  rcases hlink with hlink | hlink
  · exact va_put (D := G.1) (cl := vwCl) (tys := j_tys G) (ws := j_ws G M) (ref := (j_vc ci).1) (C := (j_vc ci).1) (T := (j_vc ci).2.1) (N := j_nf ci) (ci := ci) (v := j_tv G v) (ty := ty) F.1 F.2.1 F.2.2.2.2.2.2.1 c3 (j_ty ci) c4 c5 F.2.2.2.2.2.1 C.1 h1.1 j_ws_D h2 a (j_at ha (j_c_obj hs)) c1' k hk (F.2.2.2.2.2.2.1 _ hlink) (fun x hx => by rw [← hdc]; exact hx) hfin (by rw [c4 k hk, hty]) hn hfit (by simp [hk]) hd fin
  · exact va_putN (D := G.1) (cl := vwCl) (tys := j_tys G) (ws := j_ws G M) (ref := (j_vc ci).1) (C := (j_vc ci).1) (T := (j_vc ci).2.1) (N := j_nf ci) (ci := ci) (v := j_tv G v) (ty := ty) F.1 F.2.1 F.2.2.2.2.2.2.1 c3 (j_ty ci) c4 c5 F.2.2.2.2.2.1 C.1 h1.1 j_ws_D h2 a (j_at ha (j_c_obj hs)) c1' k hk (va_Nw.use rfl (C.2.1 _ hlink rfl)) (fun x hx => by rw [← hdc]; exact hx) hfin (by rw [c4 k hk, hty]) hn hfit (by simp [hk]) hd fin
theorem J_putFv {i ci k a : Nat} {v : Value} {ty : FieldType} {M' : j_M} (hd : decode md.2.1 pc = .ok (.putfield i, 3)) (hp : pc + 3 = pc') (hci : ci < 11) (hk : k < j_nf ci) (hdc : ((j_vc ci).2.1 k).1 = (j_vc ci).1) (hlink : Cond.fieldLink md.1.cls i (j_vc ci).1 ((j_vc ci).2.1 k).2.1 ((j_vc ci).2.1 k).2.2.1 ∈ j_gt) (hown : (j_vc ci).1 = md.1.cls) (hini : md.1.name = "<init>") (hfin : ((j_vc ci).2.1 k).2.2.2 = true) (hty : j_ty ci k = ty) (hn : narrow ty (j_tv G v) = j_tv G v) (hfit : fits ty (j_tv G v) = true) (hs : (j_S M a).1 = 10 + ci) (ha : a < j_N M) (hN : j_N M' = j_N M) (hc : ∀ b, b ≠ a → j_c G M' b = j_c G M b) (he : j_c G M' a = .inr (ci, ((List.range (j_nf ci)).map (j_fv G M ci a)).set k (j_tv G v))) (kk : JJ l G md R cs mcs Po pc' lv st M') : JJ l G md R cs mcs Po pc lv (v :: .ref a :: st) M := by
  subst hp
  intro p e s m args below meth c H locs ls F C h1 h2 h3 hz
  obtain ⟨c1, c2, c3, c4, c5⟩ := j_kf ci hci
  have c1' : vwCl[ci]? = some ((j_vc ci).1, (j_vc ci).2.1, j_nf ci) := by rw [c1]; exact congrArg some (by rw [← c2])
  show W p l e R s m args below meth c H locs cs.1 cs.2 _ (F0 m pc ls (j_tv G v :: .ref (j_rho G a) :: st.map (j_tv G)))
  rw [j_ro h1 ha]
  refine va_putF (D := G.1) (cl := vwCl) (tys := j_tys G) (ws := j_ws G M) (ref := (j_vc ci).1) (C := (j_vc ci).1) (T := (j_vc ci).2.1) (N := j_nf ci) (ci := ci) (v := j_tv G v) (ty := ty) F.1 F.2.1 F.2.2.2.2.2.2.1 c3 (j_ty ci) c4 c5 F.2.2.2.2.2.1 C.1 h1.1 j_ws_D h2 a (j_at ha (j_c_obj hs)) c1' k hk (F.2.2.2.2.2.2.1 _ hlink) (fun x hx => by rw [← hdc]; exact hx) hfin (F.2.2.2.2.2.2.2.trans hini) (hdc.trans hown) (by rw [c4 k hk, hty]) hn hfit (by simp [hk]) hd ?_
  intro H1 locs1 hP _ hS T hT X
  rw [j_ws_set hN hc he] at hP
  have hz' : s.heap.size + cs.1 = G.2.1 + j_N M' := by rw [hN]; exact hz
  exact kk p e s m args below meth c H1 locs1 ls F C (j_mkH X hT C.2.2.2 hS hz' hP (by rw [hN]; exact h1.2.2)) hS h3 hz' T hT X
theorem j_e_I {M : j_M} {G : j_G} {ci a k : Nat} {x : Int32} (hk : j_fk ci k = 0) (hs : (j_S M a).1 = 10 + ci) : j_c G (j_sI M a k x) a = .inr (ci, ((List.range (j_nf ci)).map (j_fv G M ci a)).set k (j_tv G (.int x))) := by
  rw [j_c_obj (M := j_sI M a k x) hs]
  refine congrArg (fun z => Sum.inr (ci, z)) (j_fset ?_ (fun j hj => ?_)).symm
  · simp [j_fv, hk, j_I, j_sI]; rfl
  · simp [j_fv, j_I, j_sI, hj]; rfl
theorem j_e_L {M : j_M} {G : j_G} {ci a k : Nat} {x : Int64} (hk : j_fk ci k = 1) (hs : (j_S M a).1 = 10 + ci) : j_c G (j_sL M a k x) a = .inr (ci, ((List.range (j_nf ci)).map (j_fv G M ci a)).set k (j_tv G (.long x))) := by
  rw [j_c_obj (M := j_sL M a k x) hs]
  refine congrArg (fun z => Sum.inr (ci, z)) (j_fset ?_ (fun j hj => ?_)).symm
  · simp [j_fv, hk, j_L, j_sL]; rfl
  · simp [j_fv, j_L, j_sL, hj]; rfl
theorem j_e_R {M : j_M} {G : j_G} {ci a k b : Nat} (hk : j_fk ci k = 2) (hs : (j_S M a).1 = 10 + ci) : j_c G (j_sR M a k (some b)) a = .inr (ci, ((List.range (j_nf ci)).map (j_fv G M ci a)).set k (j_tv G (.ref b))) := by
  rw [j_c_obj (M := j_sR M a k (some b)) hs]
  refine congrArg (fun z => Sum.inr (ci, z)) (j_fset ?_ (fun j hj => ?_)).symm
  · simp [j_fv, hk, j_R, j_sR]; rfl
  · simp [j_fv, j_R, j_sR, hj]; rfl
theorem J_putI {i ci k a : Nat} {x : Int32} (hd : decode md.2.1 pc = .ok (.putfield i, 3)) (hp : pc + 3 = pc') (hf : j_fln md.1.cls i ci k) (hq : ((j_vc ci).2.1 k).2.2.2 = false ∧ j_ty ci k = .int ∧ j_fk ci k = 0) (hs : (j_S M a).1 = 10 + ci) (ha : a < j_N M) (kk : JJ l G md R cs mcs Po pc' lv st (j_sI M a k x)) : JJ l G md R cs mcs Po pc lv (.int x :: .ref a :: st) M :=
  J_putv (M' := j_sI M a k x) hd hp hf hq.1 hq.2.1 rfl rfl hs ha rfl (fun _ h => j_c_sI_ne h) (j_e_I hq.2.2 hs) kk
theorem J_putL {i ci k a : Nat} {x : Int64} (hd : decode md.2.1 pc = .ok (.putfield i, 3)) (hp : pc + 3 = pc') (hf : j_fln md.1.cls i ci k) (hq : ((j_vc ci).2.1 k).2.2.2 = false ∧ j_ty ci k = .long ∧ j_fk ci k = 1) (hs : (j_S M a).1 = 10 + ci) (ha : a < j_N M) (kk : JJ l G md R cs mcs Po pc' lv st (j_sL M a k x)) : JJ l G md R cs mcs Po pc lv (.long x :: .ref a :: st) M :=
  J_putv (M' := j_sL M a k x) hd hp hf hq.1 hq.2.1 rfl rfl hs ha rfl (fun _ h => j_c_sL_ne h) (j_e_L hq.2.2 hs) kk
theorem J_iald {a n : Nat} {i : Int32} (hd : decode md.2.1 pc = .ok (.iaload, 1)) (hp : pc + 1 = pc') (hs : j_S M a = (1, n)) (ha : a < j_N M) (hin : vp_in i n) (kk : JJ l G md R cs mcs Po pc' lv (.int (j_I M a i.toNatClampNeg) :: st) M) : JJ l G md R cs mcs Po pc lv (.int i :: .ref a :: st) M := by
  subst hp
  intro p e s m args below meth c H locs ls F C h1 h2 h3 hz
  show W p l e R s m args below meth c H locs cs.1 cs.2 _ (F0 m pc ls (.int i :: .ref (j_rho G a) :: st.map (j_tv G)))
  rw [j_ro h1 ha]
  exact va_iald F.1 F.2.1 C.1 h1.1 a 0 (j_at ha (j_c_1 hs)) rfl hin hd (kk p e s m args below meth c H locs ls F C h1 h2 h3 hz)
theorem J_zald {a n : Nat} {i : Int32} (hd : decode md.2.1 pc = .ok (.baload, 1)) (hp : pc + 1 = pc') (hs : j_S M a = (3, n)) (ha : a < j_N M) (hin : vp_in i n) (kk : JJ l G md R cs mcs Po pc' lv (.int (j_I M a i.toNatClampNeg) :: st) M) : JJ l G md R cs mcs Po pc lv (.int i :: .ref a :: st) M := by
  subst hp
  intro p e s m args below meth c H locs ls F C h1 h2 h3 hz
  show W p l e R s m args below meth c H locs cs.1 cs.2 _ (F0 m pc ls (.int i :: .ref (j_rho G a) :: st.map (j_tv G)))
  rw [j_ro h1 ha]
  exact va_zald F.1 F.2.1 C.1 h1.1 a 2 (j_at ha (j_c_3 hs)) rfl hin hd (kk p e s m args below meth c H locs ls F C h1 h2 h3 hz)
theorem J_cald {a n : Nat} {i : Int32} (hd : decode md.2.1 pc = .ok (.caload, 1)) (hp : pc + 1 = pc') (hs : j_S M a = (4, n)) (ha : a < j_N M) (hin : vp_in i n) (kk : JJ l G md R cs mcs Po pc' lv (.int (j_I M a i.toNatClampNeg) :: st) M) : JJ l G md R cs mcs Po pc lv (.int i :: .ref a :: st) M := by
  subst hp
  intro p e s m args below meth c H locs ls F C h1 h2 h3 hz
  show W p l e R s m args below meth c H locs cs.1 cs.2 _ (F0 m pc ls (.int i :: .ref (j_rho G a) :: st.map (j_tv G)))
  rw [j_ro h1 ha]
  exact va_cald F.1 F.2.1 C.1 h1.1 a 3 (j_at ha (j_c_4 hs)) rfl hin hd (kk p e s m args below meth c H locs ls F C h1 h2 h3 hz)
theorem J_lald {a n : Nat} {i : Int32} (hd : decode md.2.1 pc = .ok (.laload, 1)) (hp : pc + 1 = pc') (hs : j_S M a = (2, n)) (ha : a < j_N M) (hin : vp_in i n) (kk : JJ l G md R cs mcs Po pc' lv (.long (j_L M a i.toNatClampNeg) :: st) M) : JJ l G md R cs mcs Po pc lv (.int i :: .ref a :: st) M := by
  subst hp
  intro p e s m args below meth c H locs ls F C h1 h2 h3 hz
  show W p l e R s m args below meth c H locs cs.1 cs.2 _ (F0 m pc ls (.int i :: .ref (j_rho G a) :: st.map (j_tv G)))
  rw [j_ro h1 ha]
  exact va_lald F.1 F.2.1 C.1 h1.1 a 1 (j_at ha (j_c_2 hs)) rfl hin hd (kk p e s m args below meth c H locs ls F C h1 h2 h3 hz)
theorem J_aald5 {a n b : Nat} {i : Int32} (hd : decode md.2.1 pc = .ok (.aaload, 1)) (hp : pc + 1 = pc') (hs : j_S M a = (5, n)) (ha : a < j_N M) (hin : vp_in i n) (hr : j_R M a i.toNatClampNeg = some b) (kk : JJ l G md R cs mcs Po pc' lv (.ref b :: st) M) : JJ l G md R cs mcs Po pc lv (.int i :: .ref a :: st) M := by
  subst hp
  intro p e s m args below meth c H locs ls F C h1 h2 h3 hz
  show W p l e R s m args below meth c H locs cs.1 cs.2 _ (F0 m pc ls (.int i :: .ref (j_rho G a) :: st.map (j_tv G)))
  rw [j_ro h1 ha]
  refine va_aldq F.1 F.2.1 C.1 h1.1 a 4 (j_at ha (j_c_5 hs)) rfl hin hd ?_
  rw [show va_rf (j_rq G M a i.toNatClampNeg) = j_tv G (.ref b) by simp [j_rq, hr]; rfl]
  exact kk p e s m args below meth c H locs ls F C h1 h2 h3 hz
theorem J_aald5N {a n : Nat} {i : Int32} (hd : decode md.2.1 pc = .ok (.aaload, 1)) (hp : pc + 1 = pc') (hs : j_S M a = (5, n)) (ha : a < j_N M) (hin : vp_in i n) (hr : j_R M a i.toNatClampNeg = none) (kk : JJ l G md R cs mcs Po pc' lv (.null :: st) M) : JJ l G md R cs mcs Po pc lv (.int i :: .ref a :: st) M := by
  subst hp
  intro p e s m args below meth c H locs ls F C h1 h2 h3 hz
  show W p l e R s m args below meth c H locs cs.1 cs.2 _ (F0 m pc ls (.int i :: .ref (j_rho G a) :: st.map (j_tv G)))
  rw [j_ro h1 ha]
  refine va_aldq F.1 F.2.1 C.1 h1.1 a 4 (j_at ha (j_c_5 hs)) rfl hin hd ?_
  rw [show va_rf (j_rq G M a i.toNatClampNeg) = j_tv G .null by simp [j_rq, hr]; rfl]
  exact kk p e s m args below meth c H locs ls F C h1 h2 h3 hz
theorem J_aald6 {a n b : Nat} {i : Int32} (hd : decode md.2.1 pc = .ok (.aaload, 1)) (hp : pc + 1 = pc') (hs : j_S M a = (6, n)) (ha : a < j_N M) (hin : vp_in i n) (hr : j_R M a i.toNatClampNeg = some b) (kk : JJ l G md R cs mcs Po pc' lv (.ref b :: st) M) : JJ l G md R cs mcs Po pc lv (.int i :: .ref a :: st) M := by
  subst hp
  intro p e s m args below meth c H locs ls F C h1 h2 h3 hz
  show W p l e R s m args below meth c H locs cs.1 cs.2 _ (F0 m pc ls (.int i :: .ref (j_rho G a) :: st.map (j_tv G)))
  rw [j_ro h1 ha]
  refine va_aldq F.1 F.2.1 C.1 h1.1 a 5 (j_at ha (j_c_6 hs)) rfl hin hd ?_
  rw [show va_rf (j_rq G M a i.toNatClampNeg) = j_tv G (.ref b) by simp [j_rq, hr]; rfl]
  exact kk p e s m args below meth c H locs ls F C h1 h2 h3 hz
theorem J_alen {a n : Nat} {e0 : va_E} {cA : ClassId} {x : vp_A} {t0 : Nat} {ty : FieldType} (hd : decode md.2.1 pc = .ok (.arraylength, 1)) (hp : pc + 1 = pc') (ha : a < j_N M) (hc : j_c G M a = .inl (cA, x)) (ht : (j_tys G)[t0]? = some (cA, ty)) (hx : x.1 = n) (kk : JJ l G md R cs mcs Po pc' lv (.int (Int32.ofNat n) :: st) M) : JJ l G md R cs mcs Po pc lv (.ref a :: st) M := by
  subst hp
  intro p e s m args below meth c H locs ls F C h1 h2 h3 hz
  show W p l e R s m args below meth c H locs cs.1 cs.2 _ (F0 m pc ls (.ref (j_rho G a) :: st.map (j_tv G)))
  rw [j_ro h1 ha]
  exact va_alen F.1 F.2.1 C.1 h1.1 a t0 (j_at ha hc) ht (by rw [hx]) hd (kk p e s m args below meth c H locs ls F C h1 h2 h3 hz)
/-- behind a write: the memory is M', the rest stands -/
theorem j_fin {p : Program} {e : Env} {s : State} {m : MethodId} {args : Array Value} {below : List Frame} {meth : Method} {c : Code} {H : Heap} {ls : Array Slot} {M' : j_M} {a : Nat} {e0 : va_E} (F : j_F md p s m args meth c) (C : j_C G s) (h1 : j_H G M H) (h3 : lv_has ls md.2.2.1 (j_lm G lv)) (hz : s.heap.size + cs.1 = G.2.1 + j_N M) (hN : j_N M' = j_N M) (hc : ∀ b, b ≠ a → j_c G M' b = j_c G M b) (he : j_c G M' a = e0) (kk : JJ l G md R cs mcs Po pc lv st M') :
    ∀ (H1 : Heap) (locs1 : List Loc), va_P G.1 vwCl ((j_ws G M).set a (G.2.1 + a, e0)) H1 → va_D (j_A G) ((j_ws G M).set a (G.2.1 + a, e0)) → va_S (j_A G) s.heap H1 locs1 → W p l e R s m args below meth c H1 locs1 cs.1 cs.2 (MQ below (j_Q G mcs.1 Po) args s mcs.1 mcs.2 (j_A G)) (F0 m pc ls (st.map (j_tv G))) := by
  intro H1 locs1 hP _ hS T hT X
  rw [j_ws_set hN hc he] at hP
  have hz' : s.heap.size + cs.1 = G.2.1 + j_N M' := by rw [hN]; exact hz
  exact kk p e s m args below meth c H1 locs1 ls F C (j_mkH X hT C.2.2.2 hS hz' hP (by rw [hN]; exact h1.2.2)) hS h3 hz' T hT X
theorem j_upI {M : j_M} {a k : Nat} {x : Int32} : j_I (j_sI M a k x) a = upd (j_I M a) k x := by
  funext j; simp [j_I, j_sI, upd]
theorem j_upL {M : j_M} {a k : Nat} {x : Int64} : j_L (j_sL M a k x) a = vp_updL (j_L M a) k x := by
  funext j; simp [j_L, j_sL, vp_updL]
theorem J_iast {a n : Nat} {i x : Int32} (hd : decode md.2.1 pc = .ok (.iastore, 1)) (hp : pc + 1 = pc') (hs : j_S M a = (1, n)) (ha : a < j_N M) (hin : vp_in i n) (kk : JJ l G md R cs mcs Po pc' lv st (j_sI M a i.toNatClampNeg x)) : JJ l G md R cs mcs Po pc lv (.int x :: .int i :: .ref a :: st) M := by
  subst hp
  intro p e s m args below meth c H locs ls F C h1 h2 h3 hz
  show W p l e R s m args below meth c H locs cs.1 cs.2 _ (F0 m pc ls (.int x :: .int i :: .ref (j_rho G a) :: st.map (j_tv G)))
  rw [j_ro h1 ha]
  exact va_iast F.1 F.2.1 C.1 h1.1 j_ws_D h2 a 0 (j_at ha (j_c_1 hs)) rfl hin hd (j_fin (M' := j_sI M a i.toNatClampNeg x) F C h1 h3 hz rfl (fun _ h => j_c_sI_ne h) (by rw [j_c_1 (M := j_sI M a i.toNatClampNeg x) hs, j_upI]) kk)
theorem J_zast {a n : Nat} {i x : Int32} (hd : decode md.2.1 pc = .ok (.bastore, 1)) (hp : pc + 1 = pc') (hs : j_S M a = (3, n)) (ha : a < j_N M) (hin : vp_in i n) (kk : JJ l G md R cs mcs Po pc' lv st (j_sI M a i.toNatClampNeg (vp_nar .boolean x))) : JJ l G md R cs mcs Po pc lv (.int x :: .int i :: .ref a :: st) M := by
  subst hp
  intro p e s m args below meth c H locs ls F C h1 h2 h3 hz
  show W p l e R s m args below meth c H locs cs.1 cs.2 _ (F0 m pc ls (.int x :: .int i :: .ref (j_rho G a) :: st.map (j_tv G)))
  rw [j_ro h1 ha]
  exact va_zast F.1 F.2.1 C.1 h1.1 j_ws_D h2 a 2 (j_at ha (j_c_3 hs)) rfl hin hd (j_fin (M' := j_sI M a i.toNatClampNeg (vp_nar .boolean x)) F C h1 h3 hz rfl (fun _ h => j_c_sI_ne h) (by rw [j_c_3 (M := j_sI M a i.toNatClampNeg (vp_nar .boolean x)) hs, j_upI]) kk)
theorem J_cast {a n : Nat} {i x : Int32} (hd : decode md.2.1 pc = .ok (.castore, 1)) (hp : pc + 1 = pc') (hs : j_S M a = (4, n)) (ha : a < j_N M) (hin : vp_in i n) (kk : JJ l G md R cs mcs Po pc' lv st (j_sI M a i.toNatClampNeg (vp_nar .char x))) : JJ l G md R cs mcs Po pc lv (.int x :: .int i :: .ref a :: st) M := by
  subst hp
  intro p e s m args below meth c H locs ls F C h1 h2 h3 hz
  show W p l e R s m args below meth c H locs cs.1 cs.2 _ (F0 m pc ls (.int x :: .int i :: .ref (j_rho G a) :: st.map (j_tv G)))
  rw [j_ro h1 ha]
  exact va_cast F.1 F.2.1 C.1 h1.1 j_ws_D h2 a 3 (j_at ha (j_c_4 hs)) rfl hin hd (j_fin (M' := j_sI M a i.toNatClampNeg (vp_nar .char x)) F C h1 h3 hz rfl (fun _ h => j_c_sI_ne h) (by rw [j_c_4 (M := j_sI M a i.toNatClampNeg (vp_nar .char x)) hs, j_upI]) kk)
theorem J_last {a n : Nat} {i : Int32} {x : Int64} (hd : decode md.2.1 pc = .ok (.lastore, 1)) (hp : pc + 1 = pc') (hs : j_S M a = (2, n)) (ha : a < j_N M) (hin : vp_in i n) (kk : JJ l G md R cs mcs Po pc' lv st (j_sL M a i.toNatClampNeg x)) : JJ l G md R cs mcs Po pc lv (.long x :: .int i :: .ref a :: st) M := by
  subst hp
  intro p e s m args below meth c H locs ls F C h1 h2 h3 hz
  show W p l e R s m args below meth c H locs cs.1 cs.2 _ (F0 m pc ls (.long x :: .int i :: .ref (j_rho G a) :: st.map (j_tv G)))
  rw [j_ro h1 ha]
  exact va_last F.1 F.2.1 C.1 h1.1 j_ws_D h2 a 1 (j_at ha (j_c_2 hs)) rfl hin hd (j_fin (M' := j_sL M a i.toNatClampNeg x) F C h1 h3 hz rfl (fun _ h => j_c_sL_ne h) (by rw [j_c_2 (M := j_sL M a i.toNatClampNeg x) hs, j_upL]) kk)
end
end
section
section
variable {l : Launch} {G : j_G} {md : j_Md} {R : Room} {cs mcs : Nat × Nat} {Po : Option Value → j_M → Prop} {pc pc' : Nat} {lv lv' : List (Nat × Value)} {st : List Value} {M : j_M}
/-- what a call needs of the state at which it is made -/
theorem j_calls {s U : State} {H : Heap} {locs : List Loc} {as : List Value} (C : j_C G s) (h1 : j_H G M H) (h2 : va_S (j_A G) s.heap H locs) (hU : U.heap = H) (hW : s.WarmedH U.vm) : j_Pc G as M ((as.map (j_tv G)).toArray) U :=
  ⟨rfl, C.to hW (fun q hq hA => by rw [hU]; exact h2.2.1 q hq hA) (by rw [hU]; exact h2.1), by rw [hU]; exact h1⟩
theorem j_catl (G : j_G) (rest : List Value) : ((rest.map (j_tv G)).map fun v => v.category) = rest.map fun v => v.category := by
  rw [List.map_map]
  exact List.map_congr_left fun v _ => j_cat G v
theorem J_run {mcs' : Nat × Nat} {as rest stk : List Value} {Po' : Option Value → j_M → Prop} (hp : pc + 3 = pc')
    (hr : ∀ (p : Program) (e : Env) (s : State) (m : MethodId) (args : Array Value) (below : List Frame) (meth : Method) (c : Code) (H : Heap) (locs : List Loc) (ls : Array Slot), j_F md p s m args meth c → j_C G s → j_H G M H → va_S (j_A G) s.heap H locs → lv_has ls md.2.2.1 (j_lm G lv) → va_Run p l e R s m args below meth c H locs cs.1 cs.2 mcs'.1 mcs'.2 (F0 m pc ls (stk.map (j_tv G))) (rest.map (j_tv G)) (j_Q G mcs'.1 Po' (as.map (j_tv G)).toArray) (j_A G))
    (kk : ∀ (v : Option Value) (M' : j_M), Po' v M' → JJ l G md R (cs.1 + mcs'.1, cs.2 + mcs'.2) mcs Po pc' lv (v.toList ++ rest) M') : JJ l G md R cs mcs Po pc lv stk M := by
  subst hp
  intro p e s m args below meth c H locs ls F C h1 h2 h3 hz T hT X
  obtain ⟨v, st₀, t, T', L, h0, X', hL, e1, e2, ⟨⟨v', M', hv, hpo, hh⟩, ⟨hz1, hk⟩, hz2⟩, stp⟩ := hr p e s m args below meth c H locs ls F C h1 h2 h3 T hT X
  have hv' : v = v'.map (j_tv G) := by
    injection hv
  subst hv'
  rw [h0] at hz1 hk hz2
  have hS' : va_S (j_A G) s.heap t.heap (locs ++ L) := ⟨Nat.le_trans h2.1 hz1, fun q g1 g2 => by rw [hk q (Nat.lt_of_lt_of_le g1 h2.1) g2]; exact h2.2.1 q g1 g2, fun q hq => by
    rcases List.mem_append.mp hq with h | h
    · exact h2.2.2 q h
    · exact hL q h⟩
  have hzz : s.heap.size + (cs.1 + mcs'.1) = G.2.1 + j_N M' := by
    have a1 := hh.2.1
    have a2 := h1.2.1
    omega
  obtain ⟨t2, a1, b1⟩ := kk v' M' hpo p e s m args below meth c t.heap (locs ++ L) ls F C hh hS' h3 hzz T' e1 X'
  refine ⟨t2, stp t2 ?_, b1⟩
  have hst : (v'.map (j_tv G)).toList ++ rest.map (j_tv G) = (v'.toList ++ rest).map (j_tv G) := by cases v' <;> rfl
  show Steps p.tables e below (T'.setTop { (F0 m pc ls (stk.map (j_tv G))) with pc := pc + 3, stack := (v'.map (j_tv G)).toList ++ rest.map (j_tv G) }) t2
  rw [hst]
  exact a1
def j_hx (md' : j_Md) (n : Nat) : Prop := md'.1.cls ≠ "java/lang/invoke/MethodHandle" ∧ md'.1.cls ≠ "java/lang/invoke/VarHandle" ∧ (parseMethodDescriptor md'.1.desc).map (fun d => d.parameters.length) = some n
def j_cd (md' : j_Md) : Prop := Cond.code md'.1 md'.2.1 md'.2.2.1 md'.2.2.2 ∈ j_gt
def j_lkV (own : String) (i : Nat) (md' : j_Md) (n : Nat) : Prop := (Cond.methodLink own i md'.1 ∈ j_gt ∧ Cond.instanceMethod md'.1 ∈ j_gt ∧ Cond.selects md'.1.cls md'.1 md'.1 ∈ j_gt ∧ Cond.initialized md'.1.cls ∈ j_gt) ∧ j_cd md' ∧ j_hx md' n
def j_lkVN (own : String) (i : Nat) (md' : j_Md) (n : Nat) : Prop := (Cond.methodLinkNest own i md'.1 "SwimLanes" ∈ lw_tbl ∧ Cond.instanceMethod md'.1 ∈ j_gt ∧ Cond.selects md'.1.cls md'.1 md'.1 ∈ j_gt ∧ Cond.initialized md'.1.cls ∈ j_gt) ∧ j_cd md' ∧ j_hx md' n
def j_lkS (own : String) (i : Nat) (md' : j_Md) (n : Nat) : Prop := (Cond.methodLink own i md'.1 ∈ j_gt ∧ Cond.static md'.1 ∈ j_gt ∧ Cond.initialized md'.1.cls ∈ j_gt) ∧ j_cd md' ∧ j_hx md' n
def j_lkSN (own : String) (i : Nat) (md' : j_Md) (n : Nat) : Prop := (Cond.methodLinkNest own i md'.1 "SwimLanes" ∈ lw_tbl ∧ Cond.static md'.1 ∈ j_gt ∧ Cond.initialized md'.1.cls ∈ j_gt) ∧ j_cd md' ∧ j_hx md' n
def j_lkI (own : String) (i : Nat) (md' : j_Md) (n : Nat) : Prop := (Cond.methodLink own i md'.1 ∈ j_gt ∧ Cond.instanceMethod md'.1 ∈ j_gt ∧ Cond.initialized md'.1.cls ∈ j_gt ∧ md'.1.name = "<init>" ∧ md'.2.2.2 = none) ∧ j_cd md' ∧ j_hx md' n
def j_lkIN (own : String) (i : Nat) (md' : j_Md) (n : Nat) : Prop := (Cond.methodLinkNest own i md'.1 "SwimLanes" ∈ lw_tbl ∧ Cond.instanceMethod md'.1 ∈ j_gt ∧ Cond.initialized md'.1.cls ∈ j_gt ∧ md'.1.name = "<init>" ∧ md'.2.2.2 = none) ∧ j_cd md' ∧ j_hx md' n
/-- a call by the table on a receiver of class ci: x is what the pool names, md' what runs -/
def j_lkU (own : String) (i ci : Nat) (x : MethodName) (md' : j_Md) (n : Nat) : Prop := (Cond.methodLink own i x ∈ j_gt ∧ Cond.sameMethod x.cls x.cls x.name x.desc ∈ j_gt ∧ Cond.instanceMethod x ∈ j_gt ∧ Cond.selects (j_vc ci).1 x md'.1 ∈ j_gt ∧ Cond.instanceMethod md'.1 ∈ j_gt ∧ Cond.initialized md'.1.cls ∈ j_gt ∧ ∃ b0 m0 r0, Cond.code x b0 m0 r0 ∈ j_gt) ∧ j_cd md' ∧ x.cls ≠ "java/lang/invoke/MethodHandle" ∧ x.cls ≠ "java/lang/invoke/VarHandle" ∧ (parseMethodDescriptor x.desc).map (fun d => d.parameters.length) = some n
def j_lkSU (own : String) (i : Nat) (md' : j_Md) (n : Nat) : Prop := (Cond.methodLink own i md'.1 ∈ j_gt ∧ Cond.sameMethod md'.1.cls md'.1.cls md'.1.name md'.1.desc ∈ j_gt ∧ Cond.superclass own md'.1.cls ∈ j_gt ∧ Cond.instanceMethod md'.1 ∈ j_gt ∧ Cond.initialized md'.1.cls ∈ j_gt) ∧ j_cd md' ∧ md'.1.name ≠ "<init>" ∧ (parseMethodDescriptor md'.1.desc).map (fun d => d.parameters.length) = some n
theorem j_gw {w : Cond} (h : w ∈ j_gt) : w ∈ j_gt ∧ ((w.onTables && w.keeps) = true ∨ ∃ ty, w = .arrayClass ty) := j_gt_good w h
theorem j_goodM {md' : j_Md} (h : j_cd md') : GoodIn j_gt (j_wm md') := fun w hw => by
  rcases List.mem_cons.mp hw with rfl | hw
  · exact j_gw h
  · exact j_gw hw

theorem J_callV {md' : j_Md} {d' i : Nat} {mcs' : Nat × Nat} {as rest stk : List Value} {Po' : Option Value → j_M → Prop} {b : Nat} (hd : decode md.2.1 pc = .ok (.invokevirtual i, 3)) (hp : pc + 3 = pc') (hlk : j_lkV md.1.cls i md' as.length) (hstk : stk = as.reverse ++ .ref b :: rest) (ci : Nat) (hci : ci < 11) (hcn : (j_vc ci).1 = md'.1.cls) (hs : (j_S M b).1 = 10 + ci) (hb : b < j_N M) (hM : j_Sp l G md' d' mcs' (.ref b :: as) M Po') (hR : d' + 1 ≤ R.frames ∧ 8 + (md'.2.2.1 + 11) + 40 * d' ≤ R.locals) (hW : (rest.map fun v => v.category).sum ≤ 8) (hf : cs.1 + mcs'.1 ≤ R.cells ∧ cs.2 + mcs'.2 ≤ R.slots) (kk : ∀ (v : Option Value) (M' : j_M), Po' v M' → JJ l G md R (cs.1 + mcs'.1, cs.2 + mcs'.2) mcs Po pc' lv (v.toList ++ rest) M') : JJ l G md R cs mcs Po pc lv stk M := by
  refine J_run (as := .ref b :: as) hp ?_ kk
  intro p e s m args below meth c H locs ls F C h1 h2 h3
  subst hstk
  have hts := F.2.2.2.2.2.2.1
  obtain ⟨hw, hcd, hx⟩ := hlk
  obtain ⟨c1, c2, -⟩ := j_kf ci hci
  have hrc : ∃ cell : Cell, H[j_rho G b]? = some cell ∧ cell.vm.isStatics = false ∧ s.vm.findClass md'.1.cls = some cell.cls := by
    rw [j_ro h1 hb, ← hcn]
    exact va_recv C.1 h1.1 c1 (j_at hb (j_c_obj hs))
  exact va_runV (Ts := j_gt) (own := md.1.cls) (nL := md.2.2.1) (As := as.map (j_tv G)) (b := j_rho G b) ⟨F.1, F.2.1, F.2.2.1, F.2.2.2.2.2.1, F.2.2.2.2.2.2.1⟩ hM (cwV as.length hts (fun w hw' => by
      unfold wsV at hw'
      rcases List.mem_append.mp hw' with h | h
      · simp only [List.mem_cons, List.not_mem_nil, or_false] at h
        rcases h with rfl | rfl | rfl | rfl
        · exact j_gw hw.1
        · exact j_gw hw.2.1
        · exact j_gw hw.2.2.1
        · exact j_gw hw.2.2.2
      · exact j_goodM hcd w h) rfl rfl rfl ⟨rfl, hx⟩ hR) ⟨j_blind, hrc, fun U hU hW => j_calls C h1 h2 hU hW⟩ rfl (by simp) h3.1 (by simp [j_tv]) (lv_room (by rw [j_catl]; exact hW)) hd hf
theorem J_callVN {md' : j_Md} {d' i : Nat} {mcs' : Nat × Nat} {as rest stk : List Value} {Po' : Option Value → j_M → Prop} {b : Nat} (hd : decode md.2.1 pc = .ok (.invokevirtual i, 3)) (hp : pc + 3 = pc') (hlk : j_lkVN md.1.cls i md' as.length) (hstk : stk = as.reverse ++ .ref b :: rest) (ci : Nat) (hci : ci < 11) (hcn : (j_vc ci).1 = md'.1.cls) (hs : (j_S M b).1 = 10 + ci) (hb : b < j_N M) (hM : j_Sp l G md' d' mcs' (.ref b :: as) M Po') (hR : d' + 1 ≤ R.frames ∧ 8 + (md'.2.2.1 + 11) + 40 * d' ≤ R.locals) (hW : (rest.map fun v => v.category).sum ≤ 8) (hf : cs.1 + mcs'.1 ≤ R.cells ∧ cs.2 + mcs'.2 ≤ R.slots) (kk : ∀ (v : Option Value) (M' : j_M), Po' v M' → JJ l G md R (cs.1 + mcs'.1, cs.2 + mcs'.2) mcs Po pc' lv (v.toList ++ rest) M') : JJ l G md R cs mcs Po pc lv stk M := by
  refine J_run (as := .ref b :: as) hp ?_ kk
  intro p e s m args below meth c H locs ls F C h1 h2 h3
  subst hstk
  have hts := F.2.2.2.2.2.2.1
  obtain ⟨hw, hcd, hx⟩ := hlk
  obtain ⟨c1, c2, -⟩ := j_kf ci hci
  have hrc : ∃ cell : Cell, H[j_rho G b]? = some cell ∧ cell.vm.isStatics = false ∧ s.vm.findClass md'.1.cls = some cell.cls := by
    rw [j_ro h1 hb, ← hcn]
    exact va_recv C.1 h1.1 c1 (j_at hb (j_c_obj hs))
  exact va_runVN (host := "SwimLanes") (Ts := j_gt) (own := md.1.cls) (nL := md.2.2.1) (As := as.map (j_tv G)) (b := j_rho G b) ⟨F.1, F.2.1, F.2.2.1, F.2.2.2.2.2.1, F.2.2.2.2.2.2.1⟩ hM ⟨va_cnB as.length hts (j_goodM hcd) rfl rfl rfl (C.2.1 _ hw.1 rfl) (hts _ hw.2.2.2) hx hR, hts _ hw.2.1, hts _ hw.2.2.1⟩ ⟨j_blind, hrc, fun U hU hW => j_calls C h1 h2 hU hW⟩ rfl (by simp) h3.1 (by simp [j_tv]) (lv_room (by rw [j_catl]; exact hW)) hd hf
theorem J_callS {md' : j_Md} {d' i : Nat} {mcs' : Nat × Nat} {as rest stk : List Value} {Po' : Option Value → j_M → Prop} (hd : decode md.2.1 pc = .ok (.invokestatic i, 3)) (hp : pc + 3 = pc') (hlk : j_lkS md.1.cls i md' as.length) (hstk : stk = as.reverse ++ rest) (hM : j_Sp l G md' d' mcs' as M Po') (hR : d' + 1 ≤ R.frames ∧ 8 + (md'.2.2.1 + 11) + 40 * d' ≤ R.locals) (hW : (rest.map fun v => v.category).sum ≤ 8) (hf : cs.1 + mcs'.1 ≤ R.cells ∧ cs.2 + mcs'.2 ≤ R.slots) (kk : ∀ (v : Option Value) (M' : j_M), Po' v M' → JJ l G md R (cs.1 + mcs'.1, cs.2 + mcs'.2) mcs Po pc' lv (v.toList ++ rest) M') : JJ l G md R cs mcs Po pc lv stk M := by
  refine J_run (as := as) hp ?_ kk
  intro p e s m args below meth c H locs ls F C h1 h2 h3
  subst hstk
  have hts := F.2.2.2.2.2.2.1
  obtain ⟨hw, hcd, hx⟩ := hlk
  exact va_runS (Ts := j_gt) (own := md.1.cls) (nL := md.2.2.1) (As := as.map (j_tv G)) ⟨F.1, F.2.1, F.2.2.1, F.2.2.2.2.2.1, F.2.2.2.2.2.2.1⟩ hM (va_cwS as.length hts (fun w hw' => by
      unfold va_wsS at hw'
      rcases List.mem_append.mp hw' with h | h
      · simp only [List.mem_cons, List.not_mem_nil, or_false] at h
        rcases h with rfl | rfl | rfl
        · exact j_gw hw.1
        · exact j_gw hw.2.1
        · exact j_gw hw.2.2
      · exact j_goodM hcd w h) rfl rfl rfl hx hR) ⟨j_blind, fun U hU hW => j_calls C h1 h2 hU hW⟩ rfl (by simp) h3.1 (by simp) (lv_room (by rw [j_catl]; exact hW)) hd hf
theorem J_callSN {md' : j_Md} {d' i : Nat} {mcs' : Nat × Nat} {as rest stk : List Value} {Po' : Option Value → j_M → Prop} (hd : decode md.2.1 pc = .ok (.invokestatic i, 3)) (hp : pc + 3 = pc') (hlk : j_lkSN md.1.cls i md' as.length) (hstk : stk = as.reverse ++ rest) (hM : j_Sp l G md' d' mcs' as M Po') (hR : d' + 1 ≤ R.frames ∧ 8 + (md'.2.2.1 + 11) + 40 * d' ≤ R.locals) (hW : (rest.map fun v => v.category).sum ≤ 8) (hf : cs.1 + mcs'.1 ≤ R.cells ∧ cs.2 + mcs'.2 ≤ R.slots) (kk : ∀ (v : Option Value) (M' : j_M), Po' v M' → JJ l G md R (cs.1 + mcs'.1, cs.2 + mcs'.2) mcs Po pc' lv (v.toList ++ rest) M') : JJ l G md R cs mcs Po pc lv stk M := by
  refine J_run (as := as) hp ?_ kk
  intro p e s m args below meth c H locs ls F C h1 h2 h3
  subst hstk
  have hts := F.2.2.2.2.2.2.1
  obtain ⟨hw, hcd, hx⟩ := hlk
  exact va_runSN (host := "SwimLanes") (Ts := j_gt) (own := md.1.cls) (nL := md.2.2.1) (As := as.map (j_tv G)) ⟨F.1, F.2.1, F.2.2.1, F.2.2.2.2.2.1, F.2.2.2.2.2.2.1⟩ hM ⟨va_cnB as.length hts (j_goodM hcd) rfl rfl rfl (C.2.1 _ hw.1 rfl) (hts _ hw.2.2) hx hR, hts _ hw.2.1, trivial⟩ ⟨j_blind, fun U hU hW => j_calls C h1 h2 hU hW⟩ rfl (by simp) h3.1 (by simp) (lv_room (by rw [j_catl]; exact hW)) hd hf
theorem J_callI {md' : j_Md} {d' i : Nat} {mcs' : Nat × Nat} {as rest stk : List Value} {Po' : Option Value → j_M → Prop} {b : Nat} (hd : decode md.2.1 pc = .ok (.invokespecial i, 3)) (hp : pc + 3 = pc') (hlk : j_lkI md.1.cls i md' as.length) (hstk : stk = as.reverse ++ .ref b :: rest) (hM : j_Sp l G md' d' mcs' (.ref b :: as) M Po') (hR : d' + 1 ≤ R.frames ∧ 8 + (md'.2.2.1 + 11) + 40 * d' ≤ R.locals) (hW : (rest.map fun v => v.category).sum ≤ 8) (hf : cs.1 + mcs'.1 ≤ R.cells ∧ cs.2 + mcs'.2 ≤ R.slots) (kk : ∀ (v : Option Value) (M' : j_M), Po' v M' → JJ l G md R (cs.1 + mcs'.1, cs.2 + mcs'.2) mcs Po pc' lv (v.toList ++ rest) M') : JJ l G md R cs mcs Po pc lv stk M := by
  refine J_run (as := .ref b :: as) hp ?_ kk
  intro p e s m args below meth c H locs ls F C h1 h2 h3
  subst hstk
  have hts := F.2.2.2.2.2.2.1
  obtain ⟨hw, hcd, hx⟩ := hlk
  have hcw : j_wm md' = Cond.code md'.1 md'.2.1 md'.2.2.1 none :: j_gt := by rw [← hw.2.2.2.2]; rfl
  exact va_runI (Ts := j_gt) (own := md.1.cls) (nL := md.2.2.1) (As := as.map (j_tv G)) (b := j_rho G b) ⟨F.1, F.2.1, F.2.2.1, F.2.2.2.2.2.1, F.2.2.2.2.2.2.1⟩ hM (cwI as.length hts (j_goodM hcd) hcw rfl rfl (hts _ hw.2.2.1) (hts _ hw.1) (hts _ hw.2.1) hw.2.2.2.1 hx hR) ⟨j_blind, fun U hU hW => j_calls (as := .ref b :: as) C h1 h2 hU hW⟩ rfl (by simp) h3.1 (by simp [j_tv]) (lv_room (by rw [j_catl]; exact hW)) hd hf
theorem J_callIN {md' : j_Md} {d' i : Nat} {mcs' : Nat × Nat} {as rest stk : List Value} {Po' : Option Value → j_M → Prop} {b : Nat} (hd : decode md.2.1 pc = .ok (.invokespecial i, 3)) (hp : pc + 3 = pc') (hlk : j_lkIN md.1.cls i md' as.length) (hstk : stk = as.reverse ++ .ref b :: rest) (hM : j_Sp l G md' d' mcs' (.ref b :: as) M Po') (hR : d' + 1 ≤ R.frames ∧ 8 + (md'.2.2.1 + 11) + 40 * d' ≤ R.locals) (hW : (rest.map fun v => v.category).sum ≤ 8) (hf : cs.1 + mcs'.1 ≤ R.cells ∧ cs.2 + mcs'.2 ≤ R.slots) (kk : ∀ (v : Option Value) (M' : j_M), Po' v M' → JJ l G md R (cs.1 + mcs'.1, cs.2 + mcs'.2) mcs Po pc' lv (v.toList ++ rest) M') : JJ l G md R cs mcs Po pc lv stk M := by
  refine J_run (as := .ref b :: as) hp ?_ kk
  intro p e s m args below meth c H locs ls F C h1 h2 h3
  subst hstk
  have hts := F.2.2.2.2.2.2.1
  obtain ⟨hw, hcd, hx⟩ := hlk
  have hcw : j_wm md' = Cond.code md'.1 md'.2.1 md'.2.2.1 none :: j_gt := by rw [← hw.2.2.2.2]; rfl
  exact va_runIN (host := "SwimLanes") (Ts := j_gt) (own := md.1.cls) (nL := md.2.2.1) (As := as.map (j_tv G)) (b := j_rho G b) ⟨F.1, F.2.1, F.2.2.1, F.2.2.2.2.2.1, F.2.2.2.2.2.2.1⟩ hM ⟨va_cnB as.length hts (j_goodM hcd) hcw rfl rfl (C.2.1 _ hw.1 rfl) (hts _ hw.2.2.1) hx hR, hw.2.2.2.1, hts _ hw.2.1⟩ ⟨j_blind, fun U hU hW => j_calls (as := .ref b :: as) C h1 h2 hU hW⟩ rfl (by simp) h3.1 (by simp [j_tv]) (lv_room (by rw [j_catl]; exact hW)) hd hf
theorem J_callU {md' : j_Md} {d' i : Nat} {mcs' : Nat × Nat} {as rest stk : List Value} {Po' : Option Value → j_M → Prop} {b ci : Nat} {x : MethodName} (hd : decode md.2.1 pc = .ok (.invokevirtual i, 3)) (hp : pc + 3 = pc') (hci : ci < 11) (hlk : j_lkU md.1.cls i ci x md' as.length) (hstk : stk = as.reverse ++ .ref b :: rest) (hs : (j_S M b).1 = 10 + ci) (hb : b < j_N M) (hM : j_Sp l G md' d' mcs' (.ref b :: as) M Po') (hR : d' + 1 ≤ R.frames ∧ 8 + (md'.2.2.1 + 11) + 40 * d' ≤ R.locals) (hW : (rest.map fun v => v.category).sum ≤ 8) (hf : cs.1 + mcs'.1 ≤ R.cells ∧ cs.2 + mcs'.2 ≤ R.slots) (kk : ∀ (v : Option Value) (M' : j_M), Po' v M' → JJ l G md R (cs.1 + mcs'.1, cs.2 + mcs'.2) mcs Po pc' lv (v.toList ++ rest) M') : JJ l G md R cs mcs Po pc lv stk M := by
  refine J_run (as := .ref b :: as) hp ?_ kk
  intro p e s m args below meth c H locs ls F C h1 h2 h3
  subst hstk
  have hts := F.2.2.2.2.2.2.1
  obtain ⟨hw, hcd, hx⟩ := hlk
  obtain ⟨c1, c2, -⟩ := j_kf ci hci
  obtain ⟨b0, m0, r0, h0⟩ := hw.2.2.2.2.2.2
  have hrc : ∃ cell : Cell, H[j_rho G b]? = some cell ∧ cell.vm.isStatics = false ∧ s.vm.findClass (j_vc ci).1 = some cell.cls := by
    rw [j_ro h1 hb]
    exact va_recv C.1 h1.1 c1 (j_at hb (j_c_obj hs))
  exact va_runU (Ts := j_gt) (own := md.1.cls) (nL := md.2.2.1) (As := as.map (j_tv G)) (b := j_rho G b) (x := x) (C := (j_vc ci).1) (owner := x.cls) ⟨F.1, F.2.1, F.2.2.1, F.2.2.2.2.2.1, F.2.2.2.2.2.2.1⟩ hM (va_cwO (b0 := b0) (m0 := m0) (r0 := r0) as.length hts (fun w hw' => by
      unfold va_wsO at hw'
      rcases List.mem_append.mp hw' with h | h
      · simp only [List.mem_cons, List.not_mem_nil, or_false] at h
        rcases h with rfl | rfl | rfl | rfl | rfl | rfl
        · exact j_gw hw.1
        · exact j_gw hw.2.1
        · exact j_gw hw.2.2.1
        · exact j_gw hw.2.2.2.1
        · exact j_gw hw.2.2.2.2.1
        · exact j_gw hw.2.2.2.2.2.1
      · exact j_goodM hcd w h) rfl rfl rfl h0 hx hR) ⟨j_blind, hrc, fun U hU hW => j_calls C h1 h2 hU hW⟩ rfl (by simp) h3.1 (by simp [j_tv]) (lv_room (by rw [j_catl]; exact hW)) hd hf
theorem J_callSU {md' : j_Md} {d' i : Nat} {mcs' : Nat × Nat} {as rest stk : List Value} {Po' : Option Value → j_M → Prop} {b : Nat} (ci : Nat) (hci : ci < 11) (hd : decode md.2.1 pc = .ok (.invokespecial i, 3)) (hp : pc + 3 = pc') (hlk : j_lkSU md.1.cls i md' as.length) (hstk : stk = as.reverse ++ .ref b :: rest) (hs : (j_S M b).1 = 10 + ci) (hb : b < j_N M) (hM : j_Sp l G md' d' mcs' (.ref b :: as) M Po') (hR : d' + 1 ≤ R.frames ∧ 8 + (md'.2.2.1 + 11) + 40 * d' ≤ R.locals) (hW : (rest.map fun v => v.category).sum ≤ 8) (hf : cs.1 + mcs'.1 ≤ R.cells ∧ cs.2 + mcs'.2 ≤ R.slots) (kk : ∀ (v : Option Value) (M' : j_M), Po' v M' → JJ l G md R (cs.1 + mcs'.1, cs.2 + mcs'.2) mcs Po pc' lv (v.toList ++ rest) M') : JJ l G md R cs mcs Po pc lv stk M := by
  refine J_run (as := .ref b :: as) hp ?_ kk
  intro p e s m args below meth c H locs ls F C h1 h2 h3
  subst hstk
  have hts := F.2.2.2.2.2.2.1
  obtain ⟨hw, hcd, hx⟩ := hlk
  obtain ⟨c1, c2, -⟩ := j_kf ci hci
  have hrc : ∃ cell : Cell, H[j_rho G b]? = some cell ∧ cell.vm.isStatics = false ∧ s.vm.findClass (j_vc ci).1 = some cell.cls := by
    rw [j_ro h1 hb]
    exact va_recv C.1 h1.1 c1 (j_at hb (j_c_obj hs))
  exact va_runSU (Ts := j_gt) (own := md.1.cls) (nL := md.2.2.1) (As := as.map (j_tv G)) (b := j_rho G b) (C := (j_vc ci).1) (C.1.1 ci _ c1).2 ⟨F.1, F.2.1, F.2.2.1, F.2.2.2.2.2.1, F.2.2.2.2.2.2.1⟩ hM (va_cwSU as.length hts (fun w hw' => by
      unfold va_wsSU at hw'
      rcases List.mem_append.mp hw' with h | h
      · simp only [List.mem_cons, List.not_mem_nil, or_false] at h
        rcases h with rfl | rfl | rfl | rfl | rfl
        · exact j_gw hw.1
        · exact j_gw hw.2.1
        · exact j_gw hw.2.2.1
        · exact j_gw hw.2.2.2.1
        · exact j_gw hw.2.2.2.2
      · exact j_goodM hcd w h) rfl rfl rfl hx hR) ⟨j_blind, hrc, fun U hU hW => j_calls C h1 h2 hU hW⟩ rfl (by simp) h3.1 (by simp [j_tv]) (lv_room (by rw [j_catl]; exact hW)) hd hf
theorem J_mmax {i : Nat} {x y : Int32} (hd : decode md.2.1 pc = .ok (.invokestatic i, 3)) (hp : pc + 3 = pc') (hlk : Cond.methodLink md.1.cls i Lib.Math.max.name ∈ j_gt ∧ Cond.static Lib.Math.max.name ∈ j_gt ∧ Cond.initialized "java/lang/Math" ∈ j_gt ∧ Cond.code Lib.Math.max.name Lib.Math.max.code 2 (some .int) ∈ j_gt) (hR : 1 ≤ R.frames ∧ (st.map fun v => v.category).sum + 13 ≤ R.locals ∧ cs.1 ≤ R.cells ∧ cs.2 ≤ R.slots) (kk : JJ l G md R cs mcs Po pc' lv (.int (if x < y then y else x) :: st) M) : JJ l G md R cs mcs Po pc lv (.int y :: .int x :: st) M := by
  subst hp
  intro p e s m args below meth c H locs ls F C h1 h2 h3 hz
  have hts := F.2.2.2.2.2.2.1
  exact va_mmax F.1 F.2.1 (F.2.2.1.trans h3.1.symm) F.2.2.2.2.2.1 (hts _ hlk.1) (hts _ hlk.2.1) (hts _ hlk.2.2.1) (hts _ hlk.2.2.2) hR.1 (by rw [j_catl]; exact hR.2.1) hR.2.2.1 hR.2.2.2 hd (kk p e s m args below meth c H locs ls F C h1 h2 h3 hz)
theorem J_oini {i a : Nat} (hd : decode md.2.1 pc = .ok (.invokespecial i, 3)) (hp : pc + 3 = pc') (hlk : Cond.methodLink md.1.cls i Lib.objectInit ∈ j_gt ∧ Cond.instanceMethod Lib.objectInit ∈ j_gt ∧ Cond.code Lib.objectInit ⟨#[0xb1]⟩ 1 none ∈ j_gt) (hR : 1 ≤ R.frames ∧ (st.map fun v => v.category).sum + 12 ≤ R.locals) (kk : JJ l G md R cs mcs Po pc' lv st M) : JJ l G md R cs mcs Po pc lv (.ref a :: st) M := by
  subst hp
  intro p e s m args below meth c H locs ls F C h1 h2 h3 hz
  have hts := F.2.2.2.2.2.2.1
  refine W.objInit (rest := st.map (j_tv G)) (a := j_rho G a) F.1 F.2.1 F.2.2.2.2.2.1 (hts _ hlk.1) (hts _ hlk.2.1) (hts _ hlk.2.2) rfl (h3.1.trans F.2.2.1.symm) rfl hd hR.1 ?_ (kk p e s m args below meth c H locs ls F C h1 h2 h3 hz)
  rw [j_catl]
  show 2 * 0 + _ + 12 ≤ _
  have := hR.2
  omega
end
end
section
/-! combinators of the functions that are read off the code, and what their answers tell -/
section
variable {α β γ δ ρ : Type}
def tl (x : α) (k : α → β) : β := k x
def jn (k : α → β) (f : (α → β) → β) : β := f k
def jn2 (k : α → γ → β) (f : (α → γ → β) → β) : β := f k
def jn3 (k : α → γ → δ → β) (f : (α → γ → δ → β) → β) : β := f k
def a_i (M : j_M) (a n : Nat) (i : Int32) (k : Int32 → Option ρ) : Option ρ := if i < 0 ∨ n ≤ i.toNatClampNeg then none else k (j_I M a i.toNatClampNeg)
def a_l (M : j_M) (a n : Nat) (i : Int32) (k : Int64 → Option ρ) : Option ρ := if i < 0 ∨ n ≤ i.toNatClampNeg then none else k (j_L M a i.toNatClampNeg)
def w_i (M : j_M) (a n : Nat) (i x : Int32) (k : j_M → Option ρ) : Option ρ := if i < 0 ∨ n ≤ i.toNatClampNeg then none else k (j_sI M a i.toNatClampNeg x)
def w_l (M : j_M) (a n : Nat) (i : Int32) (x : Int64) (k : j_M → Option ρ) : Option ρ := if i < 0 ∨ n ≤ i.toNatClampNeg then none else k (j_sL M a i.toNatClampNeg x)
def d_i (x y : Int32) (k : Int32 → Option ρ) : Option ρ := if y = 0 then none else k (x / y)
def r_i (x y : Int32) (k : Int32 → Option ρ) : Option ρ := if y = 0 then none else k (x - x / y * y)
def d_l (x y : Int64) (k : Int64 → Option ρ) : Option ρ := if y = 0 then none else k (x / y)
def r_l (x y : Int64) (k : Int64 → Option ρ) : Option ρ := if y = 0 then none else k (x - x / y * y)
/-- an arraycopy of ints -/
def c_i (M : j_M) (sa n0 : Nat) (sp : Int32) (da n1 : Nat) (dp n : Int32) (k : j_M → Option ρ) : Option ρ := if (sp < 0 ∨ dp < 0 ∨ n < 0) ∨ n0 < sp.toNatClampNeg + n.toNatClampNeg ∨ n1 < dp.toNatClampNeg + n.toNatClampNeg then none else k (j_cp M sa sp.toNatClampNeg da dp.toNatClampNeg n.toNatClampNeg)
/-- the shape is kept -/
noncomputable def j_ck (M M' : j_M) (k : Option ρ) : Option ρ := @ite _ (M'.2.2 = M.2.2) (Classical.propDecidable _) k none
/-- a boolean -/
def z_b (x : Int32) (k : Option ρ) : Option ρ := if x &&& 1 = x then k else none
def j_fu : Nat := 1000000
theorem tl_inv {x : α} {k : α → β} {r : β} (h : tl x k = r) : ∃ v, x = v ∧ k v = r := ⟨x, rfl, h⟩
theorem bi_inv {o : Option α} {k : α → Option ρ} {r : ρ} (h : o.bind k = some r) : ∃ v, o = some v ∧ k v = some r := Option.bind_eq_some_iff.mp h
theorem a_i_inv {M : j_M} {a n : Nat} {i : Int32} {k : Int32 → Option ρ} {r : ρ} (h : a_i M a n i k = some r) : ∃ v, (vp_in i n ∧ j_I M a i.toNatClampNeg = v) ∧ k v = some r := by
  unfold a_i at h
  split at h
  · cases h
  · next hc => exact ⟨_, ⟨hc, rfl⟩, h⟩
theorem a_l_inv {M : j_M} {a n : Nat} {i : Int32} {k : Int64 → Option ρ} {r : ρ} (h : a_l M a n i k = some r) : ∃ v, (vp_in i n ∧ j_L M a i.toNatClampNeg = v) ∧ k v = some r := by
  unfold a_l at h
  split at h
  · cases h
  · next hc => exact ⟨_, ⟨hc, rfl⟩, h⟩
theorem w_i_inv {M : j_M} {a n : Nat} {i x : Int32} {k : j_M → Option ρ} {r : ρ} (h : w_i M a n i x k = some r) : ∃ v, (vp_in i n ∧ j_sI M a i.toNatClampNeg x = v) ∧ k v = some r := by
  unfold w_i at h
  split at h
  · cases h
  · next hc => exact ⟨_, ⟨hc, rfl⟩, h⟩
theorem w_l_inv {M : j_M} {a n : Nat} {i : Int32} {x : Int64} {k : j_M → Option ρ} {r : ρ} (h : w_l M a n i x k = some r) : ∃ v, (vp_in i n ∧ j_sL M a i.toNatClampNeg x = v) ∧ k v = some r := by
  unfold w_l at h
  split at h
  · cases h
  · next hc => exact ⟨_, ⟨hc, rfl⟩, h⟩
theorem d_i_inv {x y : Int32} {k : Int32 → Option ρ} {r : ρ} (h : d_i x y k = some r) : ∃ v, (¬ y = 0 ∧ x / y = v) ∧ k v = some r := by
  unfold d_i at h
  split at h
  · cases h
  · next hc => exact ⟨_, ⟨hc, rfl⟩, h⟩
theorem r_i_inv {x y : Int32} {k : Int32 → Option ρ} {r : ρ} (h : r_i x y k = some r) : ∃ v, (¬ y = 0 ∧ x - x / y * y = v) ∧ k v = some r := by
  unfold r_i at h
  split at h
  · cases h
  · next hc => exact ⟨_, ⟨hc, rfl⟩, h⟩
theorem d_l_inv {x y : Int64} {k : Int64 → Option ρ} {r : ρ} (h : d_l x y k = some r) : ∃ v, (¬ y = 0 ∧ x / y = v) ∧ k v = some r := by
  unfold d_l at h
  split at h
  · cases h
  · next hc => exact ⟨_, ⟨hc, rfl⟩, h⟩
theorem r_l_inv {x y : Int64} {k : Int64 → Option ρ} {r : ρ} (h : r_l x y k = some r) : ∃ v, (¬ y = 0 ∧ x - x / y * y = v) ∧ k v = some r := by
  unfold r_l at h
  split at h
  · cases h
  · next hc => exact ⟨_, ⟨hc, rfl⟩, h⟩
theorem c_i_inv {M : j_M} {sa n0 : Nat} {sp : Int32} {da n1 : Nat} {dp n : Int32} {k : j_M → Option ρ} {r : ρ} (h : c_i M sa n0 sp da n1 dp n k = some r) : ∃ v, (((¬ sp < 0 ∧ ¬ dp < 0 ∧ ¬ n < 0) ∧ sp.toNatClampNeg + n.toNatClampNeg ≤ n0 ∧ dp.toNatClampNeg + n.toNatClampNeg ≤ n1) ∧ j_cp M sa sp.toNatClampNeg da dp.toNatClampNeg n.toNatClampNeg = v) ∧ k v = some r := by
  unfold c_i at h
  split at h
  · cases h
  · next hc =>
    have hc1 := not_or.mp hc
    have hc2 := not_or.mp hc1.1
    have hc3 := not_or.mp hc2.2
    have hc4 := not_or.mp hc1.2
    exact ⟨_, ⟨⟨⟨hc2.1, hc3.1, hc3.2⟩, Nat.not_lt.mp hc4.1, Nat.not_lt.mp hc4.2⟩, rfl⟩, h⟩
theorem j_ck_inv {M M' : j_M} {k : Option ρ} {r : ρ} (h : j_ck M M' k = some r) : M'.2.2 = M.2.2 ∧ k = some r := by
  unfold j_ck at h
  split at h
  · next hc => exact ⟨hc, h⟩
  · cases h
theorem z_b_inv {x : Int32} {k : Option ρ} {r : ρ} (h : z_b x k = some r) : x &&& 1 = x ∧ k = some r := by
  unfold z_b at h
  split at h
  · next hc => exact ⟨hc, h⟩
  · cases h
theorem j_ip {c : Prop} {hd : Decidable c} {A B r : β} (hc : c) (h : @ite β c hd A B = r) : A = r := (if_pos hc).symm.trans h
theorem j_iq {c : Prop} {hd : Decidable c} {A B r : β} (hc : ¬ c) (h : @ite β c hd A B = r) : B = r := (if_neg hc).symm.trans h
theorem J_join {C : α → Prop} {D : Prop} {rest : α → β} {f : (α → β) → β} {r : β} (h : jn rest f = r) (hj : ∀ v, rest v = r → C v) (hb : ∀ K : α → β, (∀ v, K v = r → C v) → f K = r → D) : D := hb rest hj h
theorem J_join2 {C : α → γ → Prop} {D : Prop} {rest : α → γ → β} {f : (α → γ → β) → β} {r : β} (h : jn2 rest f = r) (hj : ∀ v w, rest v w = r → C v w) (hb : ∀ K : α → γ → β, (∀ v w, K v w = r → C v w) → f K = r → D) : D := hb rest hj h
theorem J_join3 {C : α → γ → δ → Prop} {D : Prop} {rest : α → γ → δ → β} {f : (α → γ → δ → β) → β} {r : β} (h : jn3 rest f = r) (hj : ∀ v w x, rest v w x = r → C v w x) (hb : ∀ K : α → γ → δ → β, (∀ v w x, K v w x = r → C v w x) → f K = r → D) : D := hb rest hj h
end
theorem j_z01 {x : Int32} (h : x = 0 ∨ x = 1) : narrow .boolean (.int x) = .int x := by rcases h with rfl | rfl <;> rfl
theorem j_zb {x : Int32} (h : x &&& 1 = x) : narrow .boolean (.int x) = .int x := by
  show Value.int (x &&& 1) = .int x
  rw [h]
theorem j_inc (d : Int) (k : Int32) (h : Int32.ofInt d = k) (x : Int32) : x + Int32.ofInt d = x + k := by rw [h]
def po (w : Option Value) (M1 : j_M) : Option Value → j_M → Prop := fun v M' => v = w ∧ M' = M1
/-- the shape of a memory that is the other with ints set -/
theorem j_shI {P : ((Nat → Nat → Option Nat) × (Nat → Nat × Nat) × Nat) → Prop} {M M1 : j_M} {a k : Nat} {v : Int32} (e : j_sI M a k v = M1) (h : P M.2.2) : P M1.2.2 := by subst e; exact h
theorem j_shL {P : ((Nat → Nat → Option Nat) × (Nat → Nat × Nat) × Nat) → Prop} {M M1 : j_M} {a k : Nat} {v : Int64} (e : j_sL M a k v = M1) (h : P M.2.2) : P M1.2.2 := by subst e; exact h
theorem j_shC {P : ((Nat → Nat → Option Nat) × (Nat → Nat × Nat) × Nat) → Prop} {M M1 : j_M} {sa sp da dp n : Nat} (e : j_cp M sa sp da dp n = M1) (h : P M.2.2) : P M1.2.2 := by subst e; exact h
theorem j_shE {P : ((Nat → Nat → Option Nat) × (Nat → Nat × Nat) × Nat) → Prop} {M M1 : j_M} (e : M1.2.2 = M.2.2) (h : P M.2.2) : P M1.2.2 := by rw [e]; exact h
theorem j_pI {M : j_M} {v : Int32} {r : Int32} (h : v = r) : po (some (.int r)) M (some (.int v)) M := ⟨by rw [h], rfl⟩
theorem j_pIs {M : j_M} {v : Int32} {r : Int32} (h : some v = some r) : po (some (.int r)) M (some (.int v)) M := ⟨by rw [Option.some.inj h], rfl⟩
theorem j_pL {M : j_M} {v : Int64} {r : Int64} (h : v = r) : po (some (.long r)) M (some (.long v)) M := ⟨by rw [h], rfl⟩
theorem j_pLs {M : j_M} {v : Int64} {r : Int64} (h : some v = some r) : po (some (.long r)) M (some (.long v)) M := ⟨by rw [Option.some.inj h], rfl⟩
theorem j_pW {M : j_M} {v : Int32} {r : Int32 × j_M} (h : some (v, M) = some r) : po (some (.int r.1)) r.2 (some (.int v)) M := by cases h; exact ⟨rfl, rfl⟩
theorem j_pX {M : j_M} {v : Int64} {r : Int64 × j_M} (h : some (v, M) = some r) : po (some (.long r.1)) r.2 (some (.long v)) M := by cases h; exact ⟨rfl, rfl⟩
theorem j_pV {M r : j_M} (h : some M = some r) : po none r none M := by cases h; exact ⟨rfl, rfl⟩
section
variable {l : Launch} {G : j_G} {md : j_Md} {R : Room} {mcs : Nat × Nat} {Po : Option Value → j_M → Prop} {pc pc' : Nat} {lv lv' : List (Nat × Value)} {st : List Value} {M M1 : j_M}
theorem J_putIe {cs : Nat × Nat} {i ci k a : Nat} {x : Int32} (hd : decode md.2.1 pc = .ok (.putfield i, 3)) (hp : pc + 3 = pc') (hf : j_fln md.1.cls i ci k) (hq : ((j_vc ci).2.1 k).2.2.2 = false ∧ j_ty ci k = .int ∧ j_fk ci k = 0) (hs : (j_S M a).1 = 10 + ci) (ha : a < j_N M) (e : j_sI M a k x = M1) (kk : JJ l G md R cs mcs Po pc' lv st M1) : JJ l G md R cs mcs Po pc lv (.int x :: .ref a :: st) M := by
  subst e; exact J_putI hd hp hf hq hs ha kk
theorem J_putLe {cs : Nat × Nat} {i ci k a : Nat} {x : Int64} (hd : decode md.2.1 pc = .ok (.putfield i, 3)) (hp : pc + 3 = pc') (hf : j_fln md.1.cls i ci k) (hq : ((j_vc ci).2.1 k).2.2.2 = false ∧ j_ty ci k = .long ∧ j_fk ci k = 1) (hs : (j_S M a).1 = 10 + ci) (ha : a < j_N M) (e : j_sL M a k x = M1) (kk : JJ l G md R cs mcs Po pc' lv st M1) : JJ l G md R cs mcs Po pc lv (.long x :: .ref a :: st) M := by
  subst e; exact J_putL hd hp hf hq hs ha kk
theorem J_ialde {cs : Nat × Nat} {a n : Nat} {i v : Int32} (hd : decode md.2.1 pc = .ok (.iaload, 1)) (hp : pc + 1 = pc') (hs : j_S M a = (1, n)) (ha : a < j_N M) (e : vp_in i n ∧ j_I M a i.toNatClampNeg = v) (kk : JJ l G md R cs mcs Po pc' lv (.int v :: st) M) : JJ l G md R cs mcs Po pc lv (.int i :: .ref a :: st) M := by
  obtain ⟨h, rfl⟩ := e; exact J_iald hd hp hs ha h kk
theorem J_zalde {cs : Nat × Nat} {a n : Nat} {i v : Int32} (hd : decode md.2.1 pc = .ok (.baload, 1)) (hp : pc + 1 = pc') (hs : j_S M a = (3, n)) (ha : a < j_N M) (e : vp_in i n ∧ j_I M a i.toNatClampNeg = v) (kk : JJ l G md R cs mcs Po pc' lv (.int v :: st) M) : JJ l G md R cs mcs Po pc lv (.int i :: .ref a :: st) M := by
  obtain ⟨h, rfl⟩ := e; exact J_zald hd hp hs ha h kk
theorem J_calde {cs : Nat × Nat} {a n : Nat} {i v : Int32} (hd : decode md.2.1 pc = .ok (.caload, 1)) (hp : pc + 1 = pc') (hs : j_S M a = (4, n)) (ha : a < j_N M) (e : vp_in i n ∧ j_I M a i.toNatClampNeg = v) (kk : JJ l G md R cs mcs Po pc' lv (.int v :: st) M) : JJ l G md R cs mcs Po pc lv (.int i :: .ref a :: st) M := by
  obtain ⟨h, rfl⟩ := e; exact J_cald hd hp hs ha h kk
theorem J_lalde {cs : Nat × Nat} {a n : Nat} {i : Int32} {v : Int64} (hd : decode md.2.1 pc = .ok (.laload, 1)) (hp : pc + 1 = pc') (hs : j_S M a = (2, n)) (ha : a < j_N M) (e : vp_in i n ∧ j_L M a i.toNatClampNeg = v) (kk : JJ l G md R cs mcs Po pc' lv (.long v :: st) M) : JJ l G md R cs mcs Po pc lv (.int i :: .ref a :: st) M := by
  obtain ⟨h, rfl⟩ := e; exact J_lald hd hp hs ha h kk
theorem J_iaste {cs : Nat × Nat} {a n : Nat} {i x : Int32} (hd : decode md.2.1 pc = .ok (.iastore, 1)) (hp : pc + 1 = pc') (hs : j_S M a = (1, n)) (ha : a < j_N M) (e : vp_in i n ∧ j_sI M a i.toNatClampNeg x = M1) (kk : JJ l G md R cs mcs Po pc' lv st M1) : JJ l G md R cs mcs Po pc lv (.int x :: .int i :: .ref a :: st) M := by
  obtain ⟨h, rfl⟩ := e; exact J_iast hd hp hs ha h kk
theorem J_zaste {cs : Nat × Nat} {a n : Nat} {i x : Int32} (hd : decode md.2.1 pc = .ok (.bastore, 1)) (hp : pc + 1 = pc') (hs : j_S M a = (3, n)) (ha : a < j_N M) (e : vp_in i n ∧ j_sI M a i.toNatClampNeg (vp_nar .boolean x) = M1) (kk : JJ l G md R cs mcs Po pc' lv st M1) : JJ l G md R cs mcs Po pc lv (.int x :: .int i :: .ref a :: st) M := by
  obtain ⟨h, rfl⟩ := e; exact J_zast hd hp hs ha h kk
theorem J_caste {cs : Nat × Nat} {a n : Nat} {i x : Int32} (hd : decode md.2.1 pc = .ok (.castore, 1)) (hp : pc + 1 = pc') (hs : j_S M a = (4, n)) (ha : a < j_N M) (e : vp_in i n ∧ j_sI M a i.toNatClampNeg (vp_nar .char x) = M1) (kk : JJ l G md R cs mcs Po pc' lv st M1) : JJ l G md R cs mcs Po pc lv (.int x :: .int i :: .ref a :: st) M := by
  obtain ⟨h, rfl⟩ := e; exact J_cast hd hp hs ha h kk
theorem J_laste {cs : Nat × Nat} {a n : Nat} {i : Int32} {x : Int64} (hd : decode md.2.1 pc = .ok (.lastore, 1)) (hp : pc + 1 = pc') (hs : j_S M a = (2, n)) (ha : a < j_N M) (e : vp_in i n ∧ j_sL M a i.toNatClampNeg x = M1) (kk : JJ l G md R cs mcs Po pc' lv st M1) : JJ l G md R cs mcs Po pc lv (.long x :: .int i :: .ref a :: st) M := by
  obtain ⟨h, rfl⟩ := e; exact J_last hd hp hs ha h kk
theorem J_dive {cs : Nat × Nat} {x y v : Int32} (hd : decode md.2.1 pc = .ok (.idiv, 1)) (hp : pc + 1 = pc') (e : ¬ y = 0 ∧ x / y = v) (kk : JJ l G md R cs mcs Po pc' lv (.int v :: st) M) : JJ l G md R cs mcs Po pc lv (.int y :: .int x :: st) M := by
  obtain ⟨h, rfl⟩ := e; exact J_idiv hd hp h kk
theorem J_reme {cs : Nat × Nat} {x y v : Int32} (hd : decode md.2.1 pc = .ok (.irem, 1)) (hp : pc + 1 = pc') (e : ¬ y = 0 ∧ x - x / y * y = v) (kk : JJ l G md R cs mcs Po pc' lv (.int v :: st) M) : JJ l G md R cs mcs Po pc lv (.int y :: .int x :: st) M := by
  obtain ⟨h, rfl⟩ := e; exact J_irem hd hp h kk
theorem J_ldive {cs : Nat × Nat} {x y v : Int64} (hd : decode md.2.1 pc = .ok (.ldiv, 1)) (hp : pc + 1 = pc') (e : ¬ y = 0 ∧ x / y = v) (kk : JJ l G md R cs mcs Po pc' lv (.long v :: st) M) : JJ l G md R cs mcs Po pc lv (.long y :: .long x :: st) M := by
  obtain ⟨h, rfl⟩ := e; exact J_ldiv hd hp h kk
theorem J_lreme {cs : Nat × Nat} {x y v : Int64} (hd : decode md.2.1 pc = .ok (.lrem, 1)) (hp : pc + 1 = pc') (e : ¬ y = 0 ∧ x - x / y * y = v) (kk : JJ l G md R cs mcs Po pc' lv (.long v :: st) M) : JJ l G md R cs mcs Po pc lv (.long y :: .long x :: st) M := by
  obtain ⟨h, rfl⟩ := e; exact J_lrem hd hp h kk
theorem J_maxe {cs : Nat × Nat} {i : Nat} {x y v : Int32} (hd : decode md.2.1 pc = .ok (.invokestatic i, 3)) (hp : pc + 3 = pc') (hlk : Cond.methodLink md.1.cls i Lib.Math.max.name ∈ j_gt ∧ Cond.static Lib.Math.max.name ∈ j_gt ∧ Cond.initialized "java/lang/Math" ∈ j_gt ∧ Cond.code Lib.Math.max.name Lib.Math.max.code 2 (some .int) ∈ j_gt) (hR : 1 ≤ R.frames ∧ (st.map fun v => v.category).sum + 13 ≤ R.locals ∧ cs.1 ≤ R.cells ∧ cs.2 ≤ R.slots) (e : (if x < y then y else x) = v) (kk : JJ l G md R cs mcs Po pc' lv (.int v :: st) M) : JJ l G md R cs mcs Po pc lv (.int y :: .int x :: st) M := by
  subst e; exact J_mmax hd hp hlk hR kk
/-- a call that makes nothing and answers one thing -/
theorem j_k0 {w : Option Value} {cs : Nat × Nat} {rest : List Value} (kk : JJ l G md R cs mcs Po pc' lv (w.toList ++ rest) M1) : ∀ (v : Option Value) (M' : j_M), po w M1 v M' → JJ l G md R (cs.1 + (0, 0).1, cs.2 + (0, 0).2) mcs Po pc' lv (v.toList ++ rest) M' := by
  intro v M' h
  obtain ⟨rfl, rfl⟩ := h
  exact kk
end
end
