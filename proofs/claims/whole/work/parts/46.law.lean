set_option maxHeartbeats 4000000 in
theorem lw_undo {l : Launch} {G : j_G} {nm : String} {mcs : Nat × Nat} {Po : Option Value → j_M → Prop} {i : Int32} {s : Nat} (hin : lw_in G i) {M M1 M2 : j_M} {r : Int32} (e1 : f_X9_undo M  = some (r, M1)) (hm1 : sh_m M1.2.2) (e2 : f_X10_undo M1  = some (r, M2)) (hs : sh_x M.2.2) (hm : sh_m M.2.2) (hi : sh_i M.2.2) (hc : j_N M ≤ 100 ∧ s ≤ 100000)
    (k : JJ l G (md_law nm) room_1 (j_N M, s) mcs Po 1175 [(3, .int i), (2, .ref 35), (1, .ref 0), (0, .ref 1000030)] [] M2) : JJ l G (md_law nm) room_1 (j_N M, s) mcs Po 415 [(3, .int i), (2, .ref 35), (1, .ref 0), (0, .ref 1000030)] [] M := by
  refine J_aload_n (pc' := 416) (i := 1) (n := 2) dL_law_415 rfl rfl rfl ?_
  refine J_callV (pc' := 419) (as := []) (rest := []) (b := 0) dL_law_416 rfl (⟨⟨(j_in 581 (by decide +kernel) rfl), (j_in 582 (by decide +kernel) rfl), (j_in 583 (by decide +kernel) rfl), (j_in 100 (by decide +kernel) rfl)⟩, (j_in 584 (by decide +kernel) rfl), ⟨by decide, by decide, by decide +kernel⟩⟩ : j_lkV RL 53 md_X9_undo 0) rfl 9 (by decide) rfl (x_o hs) (x_n hs (Nat.le_of_ble_eq_true rfl)) (c_X9_undo hs e1) ⟨Nat.le_of_ble_eq_true rfl, Nat.le_of_ble_eq_true rfl⟩ (Nat.le_of_ble_eq_true rfl) ⟨by show j_N M + 0 ≤ 600000; omega, Nat.le_trans (show s + 0 ≤ 7000000 by omega) (by decide)⟩ (fun v M9 h9 => ?_)
  obtain ⟨rfl, rfl⟩ := h9
  refine J_aload_n (pc' := 420) (i := 2) (n := 1) dL_law_419 rfl rfl rfl ?_
  refine J_callV (pc' := 423) (as := []) (rest := [.int r]) (b := 35) dL_law_420 rfl (⟨⟨(j_in 1070 (by decide +kernel) rfl), (j_in 1071 (by decide +kernel) rfl), (j_in 1072 (by decide +kernel) rfl), (j_in 112 (by decide +kernel) rfl)⟩, (j_in 1073 (by decide +kernel) rfl), ⟨by decide, by decide, by decide +kernel⟩⟩ : j_lkV RL 56 md_X10_undo 0) rfl 10 (by decide) rfl (m_o hm1) (m_n hm1 (Nat.le_of_ble_eq_true rfl)) (c_X10_undo hm1 e2) ⟨Nat.le_of_ble_eq_true rfl, Nat.le_of_ble_eq_true rfl⟩ (Nat.le_of_ble_eq_true rfl) ⟨by show j_N M + 0 + 0 ≤ 600000; omega, Nat.le_trans (show s + 0 + 0 ≤ 7000000 by omega) (by decide)⟩ (fun v M9 h9 => ?_)
  obtain ⟨rfl, rfl⟩ := h9
  refine J_icmp_eq (pc' := 426) (tgt := 1175) dL_law_423 rfl (by decide) (fun _ => ?_) (fun c9 => absurd rfl c9)
  exact k
set_option maxHeartbeats 4000000 in
theorem lw_of {l : Launch} {G : j_G} {nm : String} {mcs : Nat × Nat} {Po : Option Value → j_M → Prop} {i : Int32} {s : Nat} (hin : lw_in G i) {M M1 M2 : j_M} {r : Int32} (e1 : f_X9_of M (sv G (i + 1)) (sv G (i + 2)) = some (r, M1)) (hm1 : sh_m M1.2.2) (e2 : f_X10_of M1 (sv G (i + 1)) (sv G (i + 2)) = some (r, M2)) (hs : sh_x M.2.2) (hm : sh_m M.2.2) (hi : sh_i M.2.2) (hc : j_N M ≤ 100 ∧ s ≤ 100000)
    (k : JJ l G (md_law nm) room_1 (j_N M, s) mcs Po 1175 [(3, .int i), (2, .ref 35), (1, .ref 0), (0, .ref 1000030)] [] M2) : JJ l G (md_law nm) room_1 (j_N M, s) mcs Po 428 [(3, .int i), (2, .ref 35), (1, .ref 0), (0, .ref 1000030)] [] M := by
  refine J_aload_n (pc' := 429) (i := 1) (n := 2) dL_law_428 rfl rfl rfl ?_
  refine J_aload_n (pc' := 430) (i := 0) (n := 3) dL_law_429 rfl rfl rfl ?_
  refine J_iload_n (pc' := 431) (i := 3) (n := 0) dL_law_430 rfl rfl rfl ?_
  refine J_iconst (pc' := 432) (v := (1 : Int32)) dL_law_431 rfl (by decide) ?_
  refine J_iadd (pc' := 433) dL_law_432 rfl ?_
  refine J_sld (pc' := 434) dL_law_433 rfl hin.2.1 ?_
  refine J_aload_n (pc' := 435) (i := 0) (n := 3) dL_law_434 rfl rfl rfl ?_
  refine J_iload_n (pc' := 436) (i := 3) (n := 0) dL_law_435 rfl rfl rfl ?_
  refine J_iconst (pc' := 437) (v := (2 : Int32)) dL_law_436 rfl (by decide) ?_
  refine J_iadd (pc' := 438) dL_law_437 rfl ?_
  refine J_sld (pc' := 439) dL_law_438 rfl hin.2.2.1 ?_
  refine J_callV (pc' := 442) (as := [.int (sv G (i + 1)), .int (sv G (i + 2))]) (rest := []) (b := 0) dL_law_439 rfl (⟨⟨(j_in 589 (by decide +kernel) rfl), (j_in 590 (by decide +kernel) rfl), (j_in 591 (by decide +kernel) rfl), (j_in 100 (by decide +kernel) rfl)⟩, (j_in 592 (by decide +kernel) rfl), ⟨by decide, by decide, by decide +kernel⟩⟩ : j_lkV RL 57 md_X9_of 2) rfl 9 (by decide) rfl (x_o hs) (x_n hs (Nat.le_of_ble_eq_true rfl)) (c_X9_of hs e1) ⟨Nat.le_of_ble_eq_true rfl, Nat.le_of_ble_eq_true rfl⟩ (Nat.le_of_ble_eq_true rfl) ⟨by show j_N M + 0 ≤ 600000; omega, Nat.le_trans (show s + 0 ≤ 7000000 by omega) (by decide)⟩ (fun v M9 h9 => ?_)
  obtain ⟨rfl, rfl⟩ := h9
  refine J_aload_n (pc' := 443) (i := 2) (n := 1) dL_law_442 rfl rfl rfl ?_
  refine J_aload_n (pc' := 444) (i := 0) (n := 3) dL_law_443 rfl rfl rfl ?_
  refine J_iload_n (pc' := 445) (i := 3) (n := 0) dL_law_444 rfl rfl rfl ?_
  refine J_iconst (pc' := 446) (v := (1 : Int32)) dL_law_445 rfl (by decide) ?_
  refine J_iadd (pc' := 447) dL_law_446 rfl ?_
  refine J_sld (pc' := 448) dL_law_447 rfl hin.2.1 ?_
  refine J_aload_n (pc' := 449) (i := 0) (n := 3) dL_law_448 rfl rfl rfl ?_
  refine J_iload_n (pc' := 450) (i := 3) (n := 0) dL_law_449 rfl rfl rfl ?_
  refine J_iconst (pc' := 451) (v := (2 : Int32)) dL_law_450 rfl (by decide) ?_
  refine J_iadd (pc' := 452) dL_law_451 rfl ?_
  refine J_sld (pc' := 453) dL_law_452 rfl hin.2.2.1 ?_
  refine J_callV (pc' := 456) (as := [.int (sv G (i + 1)), .int (sv G (i + 2))]) (rest := [.int r]) (b := 35) dL_law_453 rfl (⟨⟨(j_in 1074 (by decide +kernel) rfl), (j_in 1075 (by decide +kernel) rfl), (j_in 1076 (by decide +kernel) rfl), (j_in 112 (by decide +kernel) rfl)⟩, (j_in 1077 (by decide +kernel) rfl), ⟨by decide, by decide, by decide +kernel⟩⟩ : j_lkV RL 60 md_X10_of 2) rfl 10 (by decide) rfl (m_o hm1) (m_n hm1 (Nat.le_of_ble_eq_true rfl)) (c_X10_of hm1 e2) ⟨Nat.le_of_ble_eq_true rfl, Nat.le_of_ble_eq_true rfl⟩ (Nat.le_of_ble_eq_true rfl) ⟨by show j_N M + 0 + 0 ≤ 600000; omega, Nat.le_trans (show s + 0 + 0 ≤ 7000000 by omega) (by decide)⟩ (fun v M9 h9 => ?_)
  obtain ⟨rfl, rfl⟩ := h9
  refine J_icmp_eq (pc' := 459) (tgt := 1175) dL_law_456 rfl (by decide) (fun _ => ?_) (fun c9 => absurd rfl c9)
  exact k
set_option maxHeartbeats 4000000 in
theorem lw_lane {l : Launch} {G : j_G} {nm : String} {mcs : Nat × Nat} {Po : Option Value → j_M → Prop} {i : Int32} {s : Nat} (hin : lw_in G i) {M M1 M2 : j_M} {r : Int32} (e1 : f_X9_lane M (sv G (i + 1)) (sv G (i + 2)) = some (r, M1)) (hm1 : sh_m M1.2.2) (e2 : f_X10_lane M1 (sv G (i + 1)) (sv G (i + 2)) = some (r, M2)) (hs : sh_x M.2.2) (hm : sh_m M.2.2) (hi : sh_i M.2.2) (hc : j_N M ≤ 100 ∧ s ≤ 100000)
    (k : JJ l G (md_law nm) room_1 (j_N M, s) mcs Po 1175 [(3, .int i), (2, .ref 35), (1, .ref 0), (0, .ref 1000030)] [] M2) : JJ l G (md_law nm) room_1 (j_N M, s) mcs Po 461 [(3, .int i), (2, .ref 35), (1, .ref 0), (0, .ref 1000030)] [] M := by
  refine J_aload_n (pc' := 462) (i := 1) (n := 2) dL_law_461 rfl rfl rfl ?_
  refine J_aload_n (pc' := 463) (i := 0) (n := 3) dL_law_462 rfl rfl rfl ?_
  refine J_iload_n (pc' := 464) (i := 3) (n := 0) dL_law_463 rfl rfl rfl ?_
  refine J_iconst (pc' := 465) (v := (1 : Int32)) dL_law_464 rfl (by decide) ?_
  refine J_iadd (pc' := 466) dL_law_465 rfl ?_
  refine J_sld (pc' := 467) dL_law_466 rfl hin.2.1 ?_
  refine J_aload_n (pc' := 468) (i := 0) (n := 3) dL_law_467 rfl rfl rfl ?_
  refine J_iload_n (pc' := 469) (i := 3) (n := 0) dL_law_468 rfl rfl rfl ?_
  refine J_iconst (pc' := 470) (v := (2 : Int32)) dL_law_469 rfl (by decide) ?_
  refine J_iadd (pc' := 471) dL_law_470 rfl ?_
  refine J_sld (pc' := 472) dL_law_471 rfl hin.2.2.1 ?_
  refine J_callV (pc' := 475) (as := [.int (sv G (i + 1)), .int (sv G (i + 2))]) (rest := []) (b := 0) dL_law_472 rfl (⟨⟨(j_in 615 (by decide +kernel) rfl), (j_in 616 (by decide +kernel) rfl), (j_in 617 (by decide +kernel) rfl), (j_in 100 (by decide +kernel) rfl)⟩, (j_in 618 (by decide +kernel) rfl), ⟨by decide, by decide, by decide +kernel⟩⟩ : j_lkV RL 61 md_X9_lane 2) rfl 9 (by decide) rfl (x_o hs) (x_n hs (Nat.le_of_ble_eq_true rfl)) (c_X9_lane hs e1) ⟨Nat.le_of_ble_eq_true rfl, Nat.le_of_ble_eq_true rfl⟩ (Nat.le_of_ble_eq_true rfl) ⟨by show j_N M + 0 ≤ 600000; omega, Nat.le_trans (show s + 0 ≤ 7000000 by omega) (by decide)⟩ (fun v M9 h9 => ?_)
  obtain ⟨rfl, rfl⟩ := h9
  refine J_aload_n (pc' := 476) (i := 2) (n := 1) dL_law_475 rfl rfl rfl ?_
  refine J_aload_n (pc' := 477) (i := 0) (n := 3) dL_law_476 rfl rfl rfl ?_
  refine J_iload_n (pc' := 478) (i := 3) (n := 0) dL_law_477 rfl rfl rfl ?_
  refine J_iconst (pc' := 479) (v := (1 : Int32)) dL_law_478 rfl (by decide) ?_
  refine J_iadd (pc' := 480) dL_law_479 rfl ?_
  refine J_sld (pc' := 481) dL_law_480 rfl hin.2.1 ?_
  refine J_aload_n (pc' := 482) (i := 0) (n := 3) dL_law_481 rfl rfl rfl ?_
  refine J_iload_n (pc' := 483) (i := 3) (n := 0) dL_law_482 rfl rfl rfl ?_
  refine J_iconst (pc' := 484) (v := (2 : Int32)) dL_law_483 rfl (by decide) ?_
  refine J_iadd (pc' := 485) dL_law_484 rfl ?_
  refine J_sld (pc' := 486) dL_law_485 rfl hin.2.2.1 ?_
  refine J_callV (pc' := 489) (as := [.int (sv G (i + 1)), .int (sv G (i + 2))]) (rest := [.int r]) (b := 35) dL_law_486 rfl (⟨⟨(j_in 1081 (by decide +kernel) rfl), (j_in 1082 (by decide +kernel) rfl), (j_in 1083 (by decide +kernel) rfl), (j_in 112 (by decide +kernel) rfl)⟩, (j_in 1084 (by decide +kernel) rfl), ⟨by decide, by decide, by decide +kernel⟩⟩ : j_lkV RL 64 md_X10_lane 2) rfl 10 (by decide) rfl (m_o hm1) (m_n hm1 (Nat.le_of_ble_eq_true rfl)) (c_X10_lane hm1 e2) ⟨Nat.le_of_ble_eq_true rfl, Nat.le_of_ble_eq_true rfl⟩ (Nat.le_of_ble_eq_true rfl) ⟨by show j_N M + 0 + 0 ≤ 600000; omega, Nat.le_trans (show s + 0 + 0 ≤ 7000000 by omega) (by decide)⟩ (fun v M9 h9 => ?_)
  obtain ⟨rfl, rfl⟩ := h9
  refine J_icmp_eq (pc' := 492) (tgt := 1175) dL_law_489 rfl (by decide) (fun _ => ?_) (fun c9 => absurd rfl c9)
  exact k
set_option maxHeartbeats 4000000 in
theorem lw_seconds {l : Launch} {G : j_G} {nm : String} {mcs : Nat × Nat} {Po : Option Value → j_M → Prop} {i : Int32} {s : Nat} (hin : lw_in G i) {M M1 M2 : j_M} {r : Int32} (e1 : f_X9_seconds M (sv G (i + 1)) (sv G (i + 2)) (sv G (i + 3)) = some (r, M1)) (hm1 : sh_m M1.2.2) (e2 : f_X10_seconds M1 (sv G (i + 1)) (sv G (i + 2)) (sv G (i + 3)) = some (r, M2)) (hs : sh_x M.2.2) (hm : sh_m M.2.2) (hi : sh_i M.2.2) (hc : j_N M ≤ 100 ∧ s ≤ 100000)
    (k : JJ l G (md_law nm) room_1 (j_N M, s) mcs Po 1175 [(3, .int i), (2, .ref 35), (1, .ref 0), (0, .ref 1000030)] [] M2) : JJ l G (md_law nm) room_1 (j_N M, s) mcs Po 494 [(3, .int i), (2, .ref 35), (1, .ref 0), (0, .ref 1000030)] [] M := by
  refine J_aload_n (pc' := 495) (i := 1) (n := 2) dL_law_494 rfl rfl rfl ?_
  refine J_aload_n (pc' := 496) (i := 0) (n := 3) dL_law_495 rfl rfl rfl ?_
  refine J_iload_n (pc' := 497) (i := 3) (n := 0) dL_law_496 rfl rfl rfl ?_
  refine J_iconst (pc' := 498) (v := (1 : Int32)) dL_law_497 rfl (by decide) ?_
  refine J_iadd (pc' := 499) dL_law_498 rfl ?_
  refine J_sld (pc' := 500) dL_law_499 rfl hin.2.1 ?_
  refine J_aload_n (pc' := 501) (i := 0) (n := 3) dL_law_500 rfl rfl rfl ?_
  refine J_iload_n (pc' := 502) (i := 3) (n := 0) dL_law_501 rfl rfl rfl ?_
  refine J_iconst (pc' := 503) (v := (2 : Int32)) dL_law_502 rfl (by decide) ?_
  refine J_iadd (pc' := 504) dL_law_503 rfl ?_
  refine J_sld (pc' := 505) dL_law_504 rfl hin.2.2.1 ?_
  refine J_aload_n (pc' := 506) (i := 0) (n := 3) dL_law_505 rfl rfl rfl ?_
  refine J_iload_n (pc' := 507) (i := 3) (n := 0) dL_law_506 rfl rfl rfl ?_
  refine J_iconst (pc' := 508) (v := (3 : Int32)) dL_law_507 rfl (by decide) ?_
  refine J_iadd (pc' := 509) dL_law_508 rfl ?_
  refine J_sld (pc' := 510) dL_law_509 rfl hin.2.2.2.1 ?_
  refine J_callV (pc' := 513) (as := [.int (sv G (i + 1)), .int (sv G (i + 2)), .int (sv G (i + 3))]) (rest := []) (b := 0) dL_law_510 rfl (⟨⟨(j_in 619 (by decide +kernel) rfl), (j_in 620 (by decide +kernel) rfl), (j_in 621 (by decide +kernel) rfl), (j_in 100 (by decide +kernel) rfl)⟩, (j_in 622 (by decide +kernel) rfl), ⟨by decide, by decide, by decide +kernel⟩⟩ : j_lkV RL 65 md_X9_seconds 3) rfl 9 (by decide) rfl (x_o hs) (x_n hs (Nat.le_of_ble_eq_true rfl)) (c_X9_seconds hs e1) ⟨Nat.le_of_ble_eq_true rfl, Nat.le_of_ble_eq_true rfl⟩ (Nat.le_of_ble_eq_true rfl) ⟨by show j_N M + 0 ≤ 600000; omega, Nat.le_trans (show s + 0 ≤ 7000000 by omega) (by decide)⟩ (fun v M9 h9 => ?_)
  obtain ⟨rfl, rfl⟩ := h9
  refine J_aload_n (pc' := 514) (i := 2) (n := 1) dL_law_513 rfl rfl rfl ?_
  refine J_aload_n (pc' := 515) (i := 0) (n := 3) dL_law_514 rfl rfl rfl ?_
  refine J_iload_n (pc' := 516) (i := 3) (n := 0) dL_law_515 rfl rfl rfl ?_
  refine J_iconst (pc' := 517) (v := (1 : Int32)) dL_law_516 rfl (by decide) ?_
  refine J_iadd (pc' := 518) dL_law_517 rfl ?_
  refine J_sld (pc' := 519) dL_law_518 rfl hin.2.1 ?_
  refine J_aload_n (pc' := 520) (i := 0) (n := 3) dL_law_519 rfl rfl rfl ?_
  refine J_iload_n (pc' := 521) (i := 3) (n := 0) dL_law_520 rfl rfl rfl ?_
  refine J_iconst (pc' := 522) (v := (2 : Int32)) dL_law_521 rfl (by decide) ?_
  refine J_iadd (pc' := 523) dL_law_522 rfl ?_
  refine J_sld (pc' := 524) dL_law_523 rfl hin.2.2.1 ?_
  refine J_aload_n (pc' := 525) (i := 0) (n := 3) dL_law_524 rfl rfl rfl ?_
  refine J_iload_n (pc' := 526) (i := 3) (n := 0) dL_law_525 rfl rfl rfl ?_
  refine J_iconst (pc' := 527) (v := (3 : Int32)) dL_law_526 rfl (by decide) ?_
  refine J_iadd (pc' := 528) dL_law_527 rfl ?_
  refine J_sld (pc' := 529) dL_law_528 rfl hin.2.2.2.1 ?_
  refine J_callV (pc' := 532) (as := [.int (sv G (i + 1)), .int (sv G (i + 2)), .int (sv G (i + 3))]) (rest := [.int r]) (b := 35) dL_law_529 rfl (⟨⟨(j_in 1085 (by decide +kernel) rfl), (j_in 1086 (by decide +kernel) rfl), (j_in 1087 (by decide +kernel) rfl), (j_in 112 (by decide +kernel) rfl)⟩, (j_in 1088 (by decide +kernel) rfl), ⟨by decide, by decide, by decide +kernel⟩⟩ : j_lkV RL 68 md_X10_seconds 3) rfl 10 (by decide) rfl (m_o hm1) (m_n hm1 (Nat.le_of_ble_eq_true rfl)) (c_X10_seconds hm1 e2) ⟨Nat.le_of_ble_eq_true rfl, Nat.le_of_ble_eq_true rfl⟩ (Nat.le_of_ble_eq_true rfl) ⟨by show j_N M + 0 + 0 ≤ 600000; omega, Nat.le_trans (show s + 0 + 0 ≤ 7000000 by omega) (by decide)⟩ (fun v M9 h9 => ?_)
  obtain ⟨rfl, rfl⟩ := h9
  refine J_icmp_eq (pc' := 535) (tgt := 1175) dL_law_532 rfl (by decide) (fun _ => ?_) (fun c9 => absurd rfl c9)
  exact k
set_option maxHeartbeats 4000000 in
theorem lw_lengths {l : Launch} {G : j_G} {nm : String} {mcs : Nat × Nat} {Po : Option Value → j_M → Prop} {i : Int32} {s : Nat} (hin : lw_in G i) {M M1 M2 : j_M} {r : Int32} (e1 : f_X9_lengths M (sv G (i + 1)) (sv G (i + 2)) = some (r, M1)) (hm1 : sh_m M1.2.2) (e2 : f_X10_lengths M1 (sv G (i + 1)) (sv G (i + 2)) = some (r, M2)) (hs : sh_x M.2.2) (hm : sh_m M.2.2) (hi : sh_i M.2.2) (hc : j_N M ≤ 100 ∧ s ≤ 100000)
    (k : JJ l G (md_law nm) room_1 (j_N M, s) mcs Po 1175 [(3, .int i), (2, .ref 35), (1, .ref 0), (0, .ref 1000030)] [] M2) : JJ l G (md_law nm) room_1 (j_N M, s) mcs Po 537 [(3, .int i), (2, .ref 35), (1, .ref 0), (0, .ref 1000030)] [] M := by
  refine J_aload_n (pc' := 538) (i := 1) (n := 2) dL_law_537 rfl rfl rfl ?_
  refine J_aload_n (pc' := 539) (i := 0) (n := 3) dL_law_538 rfl rfl rfl ?_
  refine J_iload_n (pc' := 540) (i := 3) (n := 0) dL_law_539 rfl rfl rfl ?_
  refine J_iconst (pc' := 541) (v := (1 : Int32)) dL_law_540 rfl (by decide) ?_
  refine J_iadd (pc' := 542) dL_law_541 rfl ?_
  refine J_sld (pc' := 543) dL_law_542 rfl hin.2.1 ?_
  refine J_aload_n (pc' := 544) (i := 0) (n := 3) dL_law_543 rfl rfl rfl ?_
  refine J_iload_n (pc' := 545) (i := 3) (n := 0) dL_law_544 rfl rfl rfl ?_
  refine J_iconst (pc' := 546) (v := (2 : Int32)) dL_law_545 rfl (by decide) ?_
  refine J_iadd (pc' := 547) dL_law_546 rfl ?_
  refine J_sld (pc' := 548) dL_law_547 rfl hin.2.2.1 ?_
  refine J_callV (pc' := 551) (as := [.int (sv G (i + 1)), .int (sv G (i + 2))]) (rest := []) (b := 0) dL_law_548 rfl (⟨⟨(j_in 630 (by decide +kernel) rfl), (j_in 631 (by decide +kernel) rfl), (j_in 632 (by decide +kernel) rfl), (j_in 100 (by decide +kernel) rfl)⟩, (j_in 633 (by decide +kernel) rfl), ⟨by decide, by decide, by decide +kernel⟩⟩ : j_lkV RL 69 md_X9_lengths 2) rfl 9 (by decide) rfl (x_o hs) (x_n hs (Nat.le_of_ble_eq_true rfl)) (c_X9_lengths hs e1) ⟨Nat.le_of_ble_eq_true rfl, Nat.le_of_ble_eq_true rfl⟩ (Nat.le_of_ble_eq_true rfl) ⟨by show j_N M + 0 ≤ 600000; omega, Nat.le_trans (show s + 0 ≤ 7000000 by omega) (by decide)⟩ (fun v M9 h9 => ?_)
  obtain ⟨rfl, rfl⟩ := h9
  refine J_aload_n (pc' := 552) (i := 2) (n := 1) dL_law_551 rfl rfl rfl ?_
  refine J_aload_n (pc' := 553) (i := 0) (n := 3) dL_law_552 rfl rfl rfl ?_
  refine J_iload_n (pc' := 554) (i := 3) (n := 0) dL_law_553 rfl rfl rfl ?_
  refine J_iconst (pc' := 555) (v := (1 : Int32)) dL_law_554 rfl (by decide) ?_
  refine J_iadd (pc' := 556) dL_law_555 rfl ?_
  refine J_sld (pc' := 557) dL_law_556 rfl hin.2.1 ?_
  refine J_aload_n (pc' := 558) (i := 0) (n := 3) dL_law_557 rfl rfl rfl ?_
  refine J_iload_n (pc' := 559) (i := 3) (n := 0) dL_law_558 rfl rfl rfl ?_
  refine J_iconst (pc' := 560) (v := (2 : Int32)) dL_law_559 rfl (by decide) ?_
  refine J_iadd (pc' := 561) dL_law_560 rfl ?_
  refine J_sld (pc' := 562) dL_law_561 rfl hin.2.2.1 ?_
  refine J_callV (pc' := 565) (as := [.int (sv G (i + 1)), .int (sv G (i + 2))]) (rest := [.int r]) (b := 35) dL_law_562 rfl (⟨⟨(j_in 1089 (by decide +kernel) rfl), (j_in 1090 (by decide +kernel) rfl), (j_in 1091 (by decide +kernel) rfl), (j_in 112 (by decide +kernel) rfl)⟩, (j_in 1092 (by decide +kernel) rfl), ⟨by decide, by decide, by decide +kernel⟩⟩ : j_lkV RL 72 md_X10_lengths 2) rfl 10 (by decide) rfl (m_o hm1) (m_n hm1 (Nat.le_of_ble_eq_true rfl)) (c_X10_lengths hm1 e2) ⟨Nat.le_of_ble_eq_true rfl, Nat.le_of_ble_eq_true rfl⟩ (Nat.le_of_ble_eq_true rfl) ⟨by show j_N M + 0 + 0 ≤ 600000; omega, Nat.le_trans (show s + 0 + 0 ≤ 7000000 by omega) (by decide)⟩ (fun v M9 h9 => ?_)
  obtain ⟨rfl, rfl⟩ := h9
  refine J_icmp_eq (pc' := 568) (tgt := 1175) dL_law_565 rfl (by decide) (fun _ => ?_) (fun c9 => absurd rfl c9)
  exact k
set_option maxHeartbeats 4000000 in
theorem lw_best {l : Launch} {G : j_G} {nm : String} {mcs : Nat × Nat} {Po : Option Value → j_M → Prop} {i : Int32} {s : Nat} (hin : lw_in G i) {M M1 M2 : j_M} {r : Int32} (e1 : f_X9_best M (sv G (i + 1)) = some (r, M1)) (hm1 : sh_m M1.2.2) (e2 : f_X10_best M1 (sv G (i + 1)) = some (r, M2)) (hs : sh_x M.2.2) (hm : sh_m M.2.2) (hi : sh_i M.2.2) (hc : j_N M ≤ 100 ∧ s ≤ 100000)
    (k : JJ l G (md_law nm) room_1 (j_N M, s) mcs Po 1175 [(3, .int i), (2, .ref 35), (1, .ref 0), (0, .ref 1000030)] [] M2) : JJ l G (md_law nm) room_1 (j_N M, s) mcs Po 570 [(3, .int i), (2, .ref 35), (1, .ref 0), (0, .ref 1000030)] [] M := by
  refine J_aload_n (pc' := 571) (i := 1) (n := 2) dL_law_570 rfl rfl rfl ?_
  refine J_aload_n (pc' := 572) (i := 0) (n := 3) dL_law_571 rfl rfl rfl ?_
  refine J_iload_n (pc' := 573) (i := 3) (n := 0) dL_law_572 rfl rfl rfl ?_
  refine J_iconst (pc' := 574) (v := (1 : Int32)) dL_law_573 rfl (by decide) ?_
  refine J_iadd (pc' := 575) dL_law_574 rfl ?_
  refine J_sld (pc' := 576) dL_law_575 rfl hin.2.1 ?_
  refine J_callV (pc' := 579) (as := [.int (sv G (i + 1))]) (rest := []) (b := 0) dL_law_576 rfl (⟨⟨(j_in 639 (by decide +kernel) rfl), (j_in 640 (by decide +kernel) rfl), (j_in 641 (by decide +kernel) rfl), (j_in 100 (by decide +kernel) rfl)⟩, (j_in 642 (by decide +kernel) rfl), ⟨by decide, by decide, by decide +kernel⟩⟩ : j_lkV RL 73 md_X9_best 1) rfl 9 (by decide) rfl (x_o hs) (x_n hs (Nat.le_of_ble_eq_true rfl)) (c_X9_best hs e1) ⟨Nat.le_of_ble_eq_true rfl, Nat.le_of_ble_eq_true rfl⟩ (Nat.le_of_ble_eq_true rfl) ⟨by show j_N M + 0 ≤ 600000; omega, Nat.le_trans (show s + 0 ≤ 7000000 by omega) (by decide)⟩ (fun v M9 h9 => ?_)
  obtain ⟨rfl, rfl⟩ := h9
  refine J_aload_n (pc' := 580) (i := 2) (n := 1) dL_law_579 rfl rfl rfl ?_
  refine J_aload_n (pc' := 581) (i := 0) (n := 3) dL_law_580 rfl rfl rfl ?_
  refine J_iload_n (pc' := 582) (i := 3) (n := 0) dL_law_581 rfl rfl rfl ?_
  refine J_iconst (pc' := 583) (v := (1 : Int32)) dL_law_582 rfl (by decide) ?_
  refine J_iadd (pc' := 584) dL_law_583 rfl ?_
  refine J_sld (pc' := 585) dL_law_584 rfl hin.2.1 ?_
  refine J_callV (pc' := 588) (as := [.int (sv G (i + 1))]) (rest := [.int r]) (b := 35) dL_law_585 rfl (⟨⟨(j_in 1093 (by decide +kernel) rfl), (j_in 1094 (by decide +kernel) rfl), (j_in 1095 (by decide +kernel) rfl), (j_in 112 (by decide +kernel) rfl)⟩, (j_in 1096 (by decide +kernel) rfl), ⟨by decide, by decide, by decide +kernel⟩⟩ : j_lkV RL 76 md_X10_best 1) rfl 10 (by decide) rfl (m_o hm1) (m_n hm1 (Nat.le_of_ble_eq_true rfl)) (c_X10_best hm1 e2) ⟨Nat.le_of_ble_eq_true rfl, Nat.le_of_ble_eq_true rfl⟩ (Nat.le_of_ble_eq_true rfl) ⟨by show j_N M + 0 + 0 ≤ 600000; omega, Nat.le_trans (show s + 0 + 0 ≤ 7000000 by omega) (by decide)⟩ (fun v M9 h9 => ?_)
  obtain ⟨rfl, rfl⟩ := h9
  refine J_icmp_eq (pc' := 591) (tgt := 1175) dL_law_588 rfl (by decide) (fun _ => ?_) (fun c9 => absurd rfl c9)
  exact k
set_option maxHeartbeats 4000000 in
theorem lw_cost {l : Launch} {G : j_G} {nm : String} {mcs : Nat × Nat} {Po : Option Value → j_M → Prop} {i : Int32} {s : Nat} (hin : lw_in G i) {M M1 M2 : j_M} {r : Int32} (e1 : f_X9_cost M (sv G (i + 1)) (sv G (i + 2)) = some (r, M1)) (hm1 : sh_m M1.2.2) (e2 : f_X10_cost M1 (sv G (i + 1)) (sv G (i + 2)) = some (r, M2)) (hs : sh_x M.2.2) (hm : sh_m M.2.2) (hi : sh_i M.2.2) (hc : j_N M ≤ 100 ∧ s ≤ 100000)
    (k : JJ l G (md_law nm) room_1 (j_N M, s) mcs Po 1175 [(3, .int i), (2, .ref 35), (1, .ref 0), (0, .ref 1000030)] [] M2) : JJ l G (md_law nm) room_1 (j_N M, s) mcs Po 593 [(3, .int i), (2, .ref 35), (1, .ref 0), (0, .ref 1000030)] [] M := by
  refine J_aload_n (pc' := 594) (i := 1) (n := 2) dL_law_593 rfl rfl rfl ?_
  refine J_aload_n (pc' := 595) (i := 0) (n := 3) dL_law_594 rfl rfl rfl ?_
  refine J_iload_n (pc' := 596) (i := 3) (n := 0) dL_law_595 rfl rfl rfl ?_
  refine J_iconst (pc' := 597) (v := (1 : Int32)) dL_law_596 rfl (by decide) ?_
  refine J_iadd (pc' := 598) dL_law_597 rfl ?_
  refine J_sld (pc' := 599) dL_law_598 rfl hin.2.1 ?_
  refine J_aload_n (pc' := 600) (i := 0) (n := 3) dL_law_599 rfl rfl rfl ?_
  refine J_iload_n (pc' := 601) (i := 3) (n := 0) dL_law_600 rfl rfl rfl ?_
  refine J_iconst (pc' := 602) (v := (2 : Int32)) dL_law_601 rfl (by decide) ?_
  refine J_iadd (pc' := 603) dL_law_602 rfl ?_
  refine J_sld (pc' := 604) dL_law_603 rfl hin.2.2.1 ?_
  refine J_callV (pc' := 607) (as := [.int (sv G (i + 1)), .int (sv G (i + 2))]) (rest := []) (b := 0) dL_law_604 rfl (⟨⟨(j_in 652 (by decide +kernel) rfl), (j_in 653 (by decide +kernel) rfl), (j_in 654 (by decide +kernel) rfl), (j_in 100 (by decide +kernel) rfl)⟩, (j_in 655 (by decide +kernel) rfl), ⟨by decide, by decide, by decide +kernel⟩⟩ : j_lkV RL 77 md_X9_cost 2) rfl 9 (by decide) rfl (x_o hs) (x_n hs (Nat.le_of_ble_eq_true rfl)) (c_X9_cost hs e1) ⟨Nat.le_of_ble_eq_true rfl, Nat.le_of_ble_eq_true rfl⟩ (Nat.le_of_ble_eq_true rfl) ⟨by show j_N M + 0 ≤ 600000; omega, Nat.le_trans (show s + 0 ≤ 7000000 by omega) (by decide)⟩ (fun v M9 h9 => ?_)
  obtain ⟨rfl, rfl⟩ := h9
  refine J_aload_n (pc' := 608) (i := 2) (n := 1) dL_law_607 rfl rfl rfl ?_
  refine J_aload_n (pc' := 609) (i := 0) (n := 3) dL_law_608 rfl rfl rfl ?_
  refine J_iload_n (pc' := 610) (i := 3) (n := 0) dL_law_609 rfl rfl rfl ?_
  refine J_iconst (pc' := 611) (v := (1 : Int32)) dL_law_610 rfl (by decide) ?_
  refine J_iadd (pc' := 612) dL_law_611 rfl ?_
  refine J_sld (pc' := 613) dL_law_612 rfl hin.2.1 ?_
  refine J_aload_n (pc' := 614) (i := 0) (n := 3) dL_law_613 rfl rfl rfl ?_
  refine J_iload_n (pc' := 615) (i := 3) (n := 0) dL_law_614 rfl rfl rfl ?_
  refine J_iconst (pc' := 616) (v := (2 : Int32)) dL_law_615 rfl (by decide) ?_
  refine J_iadd (pc' := 617) dL_law_616 rfl ?_
  refine J_sld (pc' := 618) dL_law_617 rfl hin.2.2.1 ?_
  refine J_callV (pc' := 621) (as := [.int (sv G (i + 1)), .int (sv G (i + 2))]) (rest := [.int r]) (b := 35) dL_law_618 rfl (⟨⟨(j_in 1102 (by decide +kernel) rfl), (j_in 1103 (by decide +kernel) rfl), (j_in 1104 (by decide +kernel) rfl), (j_in 112 (by decide +kernel) rfl)⟩, (j_in 1105 (by decide +kernel) rfl), ⟨by decide, by decide, by decide +kernel⟩⟩ : j_lkV RL 80 md_X10_cost 2) rfl 10 (by decide) rfl (m_o hm1) (m_n hm1 (Nat.le_of_ble_eq_true rfl)) (c_X10_cost hm1 e2) ⟨Nat.le_of_ble_eq_true rfl, Nat.le_of_ble_eq_true rfl⟩ (Nat.le_of_ble_eq_true rfl) ⟨by show j_N M + 0 + 0 ≤ 600000; omega, Nat.le_trans (show s + 0 + 0 ≤ 7000000 by omega) (by decide)⟩ (fun v M9 h9 => ?_)
  obtain ⟨rfl, rfl⟩ := h9
  refine J_icmp_eq (pc' := 624) (tgt := 1175) dL_law_621 rfl (by decide) (fun _ => ?_) (fun c9 => absurd rfl c9)
  exact k
set_option maxHeartbeats 4000000 in
theorem lw_where {l : Launch} {G : j_G} {nm : String} {mcs : Nat × Nat} {Po : Option Value → j_M → Prop} {i : Int32} {s : Nat} (hin : lw_in G i) {M M1 M2 : j_M} {r : Int32} (e1 : f_X9_where M (sv G (i + 1)) = some (r, M1)) (hm1 : sh_m M1.2.2) (e2 : f_X10_where M1 (sv G (i + 1)) = some (r, M2)) (hs : sh_x M.2.2) (hm : sh_m M.2.2) (hi : sh_i M.2.2) (hc : j_N M ≤ 100 ∧ s ≤ 100000)
    (k : JJ l G (md_law nm) room_1 (j_N M, s) mcs Po 1175 [(3, .int i), (2, .ref 35), (1, .ref 0), (0, .ref 1000030)] [] M2) : JJ l G (md_law nm) room_1 (j_N M, s) mcs Po 626 [(3, .int i), (2, .ref 35), (1, .ref 0), (0, .ref 1000030)] [] M := by
  refine J_aload_n (pc' := 627) (i := 1) (n := 2) dL_law_626 rfl rfl rfl ?_
  refine J_aload_n (pc' := 628) (i := 0) (n := 3) dL_law_627 rfl rfl rfl ?_
  refine J_iload_n (pc' := 629) (i := 3) (n := 0) dL_law_628 rfl rfl rfl ?_
  refine J_iconst (pc' := 630) (v := (1 : Int32)) dL_law_629 rfl (by decide) ?_
  refine J_iadd (pc' := 631) dL_law_630 rfl ?_
  refine J_sld (pc' := 632) dL_law_631 rfl hin.2.1 ?_
  refine J_callV (pc' := 635) (as := [.int (sv G (i + 1))]) (rest := []) (b := 0) dL_law_632 rfl (⟨⟨(j_in 661 (by decide +kernel) rfl), (j_in 662 (by decide +kernel) rfl), (j_in 663 (by decide +kernel) rfl), (j_in 100 (by decide +kernel) rfl)⟩, (j_in 664 (by decide +kernel) rfl), ⟨by decide, by decide, by decide +kernel⟩⟩ : j_lkV RL 81 md_X9_where 1) rfl 9 (by decide) rfl (x_o hs) (x_n hs (Nat.le_of_ble_eq_true rfl)) (c_X9_where hs e1) ⟨Nat.le_of_ble_eq_true rfl, Nat.le_of_ble_eq_true rfl⟩ (Nat.le_of_ble_eq_true rfl) ⟨by show j_N M + 0 ≤ 600000; omega, Nat.le_trans (show s + 0 ≤ 7000000 by omega) (by decide)⟩ (fun v M9 h9 => ?_)
  obtain ⟨rfl, rfl⟩ := h9
  refine J_aload_n (pc' := 636) (i := 2) (n := 1) dL_law_635 rfl rfl rfl ?_
  refine J_aload_n (pc' := 637) (i := 0) (n := 3) dL_law_636 rfl rfl rfl ?_
  refine J_iload_n (pc' := 638) (i := 3) (n := 0) dL_law_637 rfl rfl rfl ?_
  refine J_iconst (pc' := 639) (v := (1 : Int32)) dL_law_638 rfl (by decide) ?_
  refine J_iadd (pc' := 640) dL_law_639 rfl ?_
  refine J_sld (pc' := 641) dL_law_640 rfl hin.2.1 ?_
  refine J_callV (pc' := 644) (as := [.int (sv G (i + 1))]) (rest := [.int r]) (b := 35) dL_law_641 rfl (⟨⟨(j_in 1114 (by decide +kernel) rfl), (j_in 1115 (by decide +kernel) rfl), (j_in 1116 (by decide +kernel) rfl), (j_in 112 (by decide +kernel) rfl)⟩, (j_in 1117 (by decide +kernel) rfl), ⟨by decide, by decide, by decide +kernel⟩⟩ : j_lkV RL 84 md_X10_where 1) rfl 10 (by decide) rfl (m_o hm1) (m_n hm1 (Nat.le_of_ble_eq_true rfl)) (c_X10_where hm1 e2) ⟨Nat.le_of_ble_eq_true rfl, Nat.le_of_ble_eq_true rfl⟩ (Nat.le_of_ble_eq_true rfl) ⟨by show j_N M + 0 + 0 ≤ 600000; omega, Nat.le_trans (show s + 0 + 0 ≤ 7000000 by omega) (by decide)⟩ (fun v M9 h9 => ?_)
  obtain ⟨rfl, rfl⟩ := h9
  refine J_icmp_eq (pc' := 647) (tgt := 1175) dL_law_644 rfl (by decide) (fun _ => ?_) (fun c9 => absurd rfl c9)
  exact k
set_option maxHeartbeats 4000000 in
theorem lw_obey {l : Launch} {G : j_G} {nm : String} {mcs : Nat × Nat} {Po : Option Value → j_M → Prop} {i : Int32} {s : Nat} (hin : lw_in G i) {M M1 M2 : j_M} {r : Int32} (e1 : f_X9_obey M (sv G (i + 1)) = some (r, M1)) (hm1 : sh_m M1.2.2) (e2 : f_X10_obey M1 (sv G (i + 1)) = some (r, M2)) (hs : sh_x M.2.2) (hm : sh_m M.2.2) (hi : sh_i M.2.2) (hc : j_N M ≤ 100 ∧ s ≤ 100000)
    (k : JJ l G (md_law nm) room_1 (j_N M, s) mcs Po 1175 [(3, .int i), (2, .ref 35), (1, .ref 0), (0, .ref 1000030)] [] M2) : JJ l G (md_law nm) room_1 (j_N M, s) mcs Po 649 [(3, .int i), (2, .ref 35), (1, .ref 0), (0, .ref 1000030)] [] M := by
  refine J_aload_n (pc' := 650) (i := 1) (n := 2) dL_law_649 rfl rfl rfl ?_
  refine J_aload_n (pc' := 651) (i := 0) (n := 3) dL_law_650 rfl rfl rfl ?_
  refine J_iload_n (pc' := 652) (i := 3) (n := 0) dL_law_651 rfl rfl rfl ?_
  refine J_iconst (pc' := 653) (v := (1 : Int32)) dL_law_652 rfl (by decide) ?_
  refine J_iadd (pc' := 654) dL_law_653 rfl ?_
  refine J_sld (pc' := 655) dL_law_654 rfl hin.2.1 ?_
  refine J_callV (pc' := 658) (as := [.int (sv G (i + 1))]) (rest := []) (b := 0) dL_law_655 rfl (⟨⟨(j_in 670 (by decide +kernel) rfl), (j_in 671 (by decide +kernel) rfl), (j_in 672 (by decide +kernel) rfl), (j_in 100 (by decide +kernel) rfl)⟩, (j_in 673 (by decide +kernel) rfl), ⟨by decide, by decide, by decide +kernel⟩⟩ : j_lkV RL 85 md_X9_obey 1) rfl 9 (by decide) rfl (x_o hs) (x_n hs (Nat.le_of_ble_eq_true rfl)) (c_X9_obey hs e1) ⟨Nat.le_of_ble_eq_true rfl, Nat.le_of_ble_eq_true rfl⟩ (Nat.le_of_ble_eq_true rfl) ⟨by show j_N M + 0 ≤ 600000; omega, Nat.le_trans (show s + 0 ≤ 7000000 by omega) (by decide)⟩ (fun v M9 h9 => ?_)
  obtain ⟨rfl, rfl⟩ := h9
  refine J_aload_n (pc' := 659) (i := 2) (n := 1) dL_law_658 rfl rfl rfl ?_
  refine J_aload_n (pc' := 660) (i := 0) (n := 3) dL_law_659 rfl rfl rfl ?_
  refine J_iload_n (pc' := 661) (i := 3) (n := 0) dL_law_660 rfl rfl rfl ?_
  refine J_iconst (pc' := 662) (v := (1 : Int32)) dL_law_661 rfl (by decide) ?_
  refine J_iadd (pc' := 663) dL_law_662 rfl ?_
  refine J_sld (pc' := 664) dL_law_663 rfl hin.2.1 ?_
  refine J_callV (pc' := 667) (as := [.int (sv G (i + 1))]) (rest := [.int r]) (b := 35) dL_law_664 rfl (⟨⟨(j_in 1118 (by decide +kernel) rfl), (j_in 1119 (by decide +kernel) rfl), (j_in 1120 (by decide +kernel) rfl), (j_in 112 (by decide +kernel) rfl)⟩, (j_in 1121 (by decide +kernel) rfl), ⟨by decide, by decide, by decide +kernel⟩⟩ : j_lkV RL 88 md_X10_obey 1) rfl 10 (by decide) rfl (m_o hm1) (m_n hm1 (Nat.le_of_ble_eq_true rfl)) (c_X10_obey hm1 e2) ⟨Nat.le_of_ble_eq_true rfl, Nat.le_of_ble_eq_true rfl⟩ (Nat.le_of_ble_eq_true rfl) ⟨by show j_N M + 0 + 0 ≤ 600000; omega, Nat.le_trans (show s + 0 + 0 ≤ 7000000 by omega) (by decide)⟩ (fun v M9 h9 => ?_)
  obtain ⟨rfl, rfl⟩ := h9
  refine J_icmp_eq (pc' := 670) (tgt := 1175) dL_law_667 rfl (by decide) (fun _ => ?_) (fun c9 => absurd rfl c9)
  exact k
set_option maxHeartbeats 4000000 in
theorem lw_all {l : Launch} {G : j_G} {nm : String} {mcs : Nat × Nat} {Po : Option Value → j_M → Prop} {i : Int32} {s : Nat} (hin : lw_in G i) {M M1 M2 : j_M} {r : Int32} (e1 : f_X9_all M (sv G (i + 1)) = some (r, M1)) (hm1 : sh_m M1.2.2) (e2 : f_X10_all M1 (sv G (i + 1)) = some (r, M2)) (hs : sh_x M.2.2) (hm : sh_m M.2.2) (hi : sh_i M.2.2) (hc : j_N M ≤ 100 ∧ s ≤ 100000)
    (k : JJ l G (md_law nm) room_1 (j_N M, s) mcs Po 1175 [(3, .int i), (2, .ref 35), (1, .ref 0), (0, .ref 1000030)] [] M2) : JJ l G (md_law nm) room_1 (j_N M, s) mcs Po 672 [(3, .int i), (2, .ref 35), (1, .ref 0), (0, .ref 1000030)] [] M := by
  refine J_aload_n (pc' := 673) (i := 1) (n := 2) dL_law_672 rfl rfl rfl ?_
  refine J_aload_n (pc' := 674) (i := 0) (n := 3) dL_law_673 rfl rfl rfl ?_
  refine J_iload_n (pc' := 675) (i := 3) (n := 0) dL_law_674 rfl rfl rfl ?_
  refine J_iconst (pc' := 676) (v := (1 : Int32)) dL_law_675 rfl (by decide) ?_
  refine J_iadd (pc' := 677) dL_law_676 rfl ?_
  refine J_sld (pc' := 678) dL_law_677 rfl hin.2.1 ?_
  refine J_callV (pc' := 681) (as := [.int (sv G (i + 1))]) (rest := []) (b := 0) dL_law_678 rfl (⟨⟨(j_in 677 (by decide +kernel) rfl), (j_in 678 (by decide +kernel) rfl), (j_in 679 (by decide +kernel) rfl), (j_in 100 (by decide +kernel) rfl)⟩, (j_in 680 (by decide +kernel) rfl), ⟨by decide, by decide, by decide +kernel⟩⟩ : j_lkV RL 89 md_X9_all 1) rfl 9 (by decide) rfl (x_o hs) (x_n hs (Nat.le_of_ble_eq_true rfl)) (c_X9_all hs e1) ⟨Nat.le_of_ble_eq_true rfl, Nat.le_of_ble_eq_true rfl⟩ (Nat.le_of_ble_eq_true rfl) ⟨by show j_N M + 0 ≤ 600000; omega, Nat.le_trans (show s + 0 ≤ 7000000 by omega) (by decide)⟩ (fun v M9 h9 => ?_)
  obtain ⟨rfl, rfl⟩ := h9
  refine J_aload_n (pc' := 682) (i := 2) (n := 1) dL_law_681 rfl rfl rfl ?_
  refine J_aload_n (pc' := 683) (i := 0) (n := 3) dL_law_682 rfl rfl rfl ?_
  refine J_iload_n (pc' := 684) (i := 3) (n := 0) dL_law_683 rfl rfl rfl ?_
  refine J_iconst (pc' := 685) (v := (1 : Int32)) dL_law_684 rfl (by decide) ?_
  refine J_iadd (pc' := 686) dL_law_685 rfl ?_
  refine J_sld (pc' := 687) dL_law_686 rfl hin.2.1 ?_
  refine J_callV (pc' := 690) (as := [.int (sv G (i + 1))]) (rest := [.int r]) (b := 35) dL_law_687 rfl (⟨⟨(j_in 1125 (by decide +kernel) rfl), (j_in 1126 (by decide +kernel) rfl), (j_in 1127 (by decide +kernel) rfl), (j_in 112 (by decide +kernel) rfl)⟩, (j_in 1128 (by decide +kernel) rfl), ⟨by decide, by decide, by decide +kernel⟩⟩ : j_lkV RL 92 md_X10_all 1) rfl 10 (by decide) rfl (m_o hm1) (m_n hm1 (Nat.le_of_ble_eq_true rfl)) (c_X10_all hm1 e2) ⟨Nat.le_of_ble_eq_true rfl, Nat.le_of_ble_eq_true rfl⟩ (Nat.le_of_ble_eq_true rfl) ⟨by show j_N M + 0 + 0 ≤ 600000; omega, Nat.le_trans (show s + 0 + 0 ≤ 7000000 by omega) (by decide)⟩ (fun v M9 h9 => ?_)
  obtain ⟨rfl, rfl⟩ := h9
  refine J_icmp_eq (pc' := 693) (tgt := 1175) dL_law_690 rfl (by decide) (fun _ => ?_) (fun c9 => absurd rfl c9)
  exact k
set_option maxHeartbeats 4000000 in
theorem lw_changes {l : Launch} {G : j_G} {nm : String} {mcs : Nat × Nat} {Po : Option Value → j_M → Prop} {i : Int32} {s : Nat} (hin : lw_in G i) {M M1 M2 : j_M} {r : Int32} (e1 : f_X9_changes M (sv G (i + 1)) = some (r, M1)) (hm1 : sh_m M1.2.2) (e2 : f_X10_changes M1 (sv G (i + 1)) = some (r, M2)) (hs : sh_x M.2.2) (hm : sh_m M.2.2) (hi : sh_i M.2.2) (hc : j_N M ≤ 100 ∧ s ≤ 100000)
    (k : JJ l G (md_law nm) room_1 (j_N M, s) mcs Po 1175 [(3, .int i), (2, .ref 35), (1, .ref 0), (0, .ref 1000030)] [] M2) : JJ l G (md_law nm) room_1 (j_N M, s) mcs Po 695 [(3, .int i), (2, .ref 35), (1, .ref 0), (0, .ref 1000030)] [] M := by
  refine J_aload_n (pc' := 696) (i := 1) (n := 2) dL_law_695 rfl rfl rfl ?_
  refine J_aload_n (pc' := 697) (i := 0) (n := 3) dL_law_696 rfl rfl rfl ?_
  refine J_iload_n (pc' := 698) (i := 3) (n := 0) dL_law_697 rfl rfl rfl ?_
  refine J_iconst (pc' := 699) (v := (1 : Int32)) dL_law_698 rfl (by decide) ?_
  refine J_iadd (pc' := 700) dL_law_699 rfl ?_
  refine J_sld (pc' := 701) dL_law_700 rfl hin.2.1 ?_
  refine J_callV (pc' := 704) (as := [.int (sv G (i + 1))]) (rest := []) (b := 0) dL_law_701 rfl (⟨⟨(j_in 700 (by decide +kernel) rfl), (j_in 701 (by decide +kernel) rfl), (j_in 702 (by decide +kernel) rfl), (j_in 100 (by decide +kernel) rfl)⟩, (j_in 703 (by decide +kernel) rfl), ⟨by decide, by decide, by decide +kernel⟩⟩ : j_lkV RL 93 md_X9_changes 1) rfl 9 (by decide) rfl (x_o hs) (x_n hs (Nat.le_of_ble_eq_true rfl)) (c_X9_changes hs e1) ⟨Nat.le_of_ble_eq_true rfl, Nat.le_of_ble_eq_true rfl⟩ (Nat.le_of_ble_eq_true rfl) ⟨by show j_N M + 0 ≤ 600000; omega, Nat.le_trans (show s + 0 ≤ 7000000 by omega) (by decide)⟩ (fun v M9 h9 => ?_)
  obtain ⟨rfl, rfl⟩ := h9
  refine J_aload_n (pc' := 705) (i := 2) (n := 1) dL_law_704 rfl rfl rfl ?_
  refine J_aload_n (pc' := 706) (i := 0) (n := 3) dL_law_705 rfl rfl rfl ?_
  refine J_iload_n (pc' := 707) (i := 3) (n := 0) dL_law_706 rfl rfl rfl ?_
  refine J_iconst (pc' := 708) (v := (1 : Int32)) dL_law_707 rfl (by decide) ?_
  refine J_iadd (pc' := 709) dL_law_708 rfl ?_
  refine J_sld (pc' := 710) dL_law_709 rfl hin.2.1 ?_
  refine J_callV (pc' := 713) (as := [.int (sv G (i + 1))]) (rest := [.int r]) (b := 35) dL_law_710 rfl (⟨⟨(j_in 1138 (by decide +kernel) rfl), (j_in 1139 (by decide +kernel) rfl), (j_in 1140 (by decide +kernel) rfl), (j_in 112 (by decide +kernel) rfl)⟩, (j_in 1141 (by decide +kernel) rfl), ⟨by decide, by decide, by decide +kernel⟩⟩ : j_lkV RL 96 md_X10_changes 1) rfl 10 (by decide) rfl (m_o hm1) (m_n hm1 (Nat.le_of_ble_eq_true rfl)) (c_X10_changes hm1 e2) ⟨Nat.le_of_ble_eq_true rfl, Nat.le_of_ble_eq_true rfl⟩ (Nat.le_of_ble_eq_true rfl) ⟨by show j_N M + 0 + 0 ≤ 600000; omega, Nat.le_trans (show s + 0 + 0 ≤ 7000000 by omega) (by decide)⟩ (fun v M9 h9 => ?_)
  obtain ⟨rfl, rfl⟩ := h9
  refine J_icmp_eq (pc' := 716) (tgt := 1175) dL_law_713 rfl (by decide) (fun _ => ?_) (fun c9 => absurd rfl c9)
  exact k
