set_option maxHeartbeats 4000000 in
theorem lw_order {l : Launch} {G : j_G} {nm : String} {mcs : Nat × Nat} {Po : Option Value → j_M → Prop} {i : Int32} {s : Nat} (hin : lw_in G i) {M M1 M2 : j_M} {r : Int32} (e1 : f_X9_order M (sv G (i + 1)) (sv G (i + 2)) (sv G (i + 3)) (sv G (i + 4)) = some (r, M1)) (hm1 : sh_m M1.2.2) (e2 : f_X10_order M1 (sv G (i + 1)) (sv G (i + 2)) (sv G (i + 3)) (sv G (i + 4)) = some (r, M2)) (hs : sh_x M.2.2) (hm : sh_m M.2.2) (hi : sh_i M.2.2) (hc : j_N M ≤ 100 ∧ s ≤ 100000)
    (k : JJ l G (md_law nm) room_1 (j_N M, s) mcs Po 1175 [(3, .int i), (2, .ref 35), (1, .ref 0), (0, .ref 1000030)] [] M2) : JJ l G (md_law nm) room_1 (j_N M, s) mcs Po 718 [(3, .int i), (2, .ref 35), (1, .ref 0), (0, .ref 1000030)] [] M := by
  refine J_aload_n (pc' := 719) (i := 1) (n := 2) dL_law_718 rfl rfl rfl ?_
  refine J_aload_n (pc' := 720) (i := 0) (n := 3) dL_law_719 rfl rfl rfl ?_
  refine J_iload_n (pc' := 721) (i := 3) (n := 0) dL_law_720 rfl rfl rfl ?_
  refine J_iconst (pc' := 722) (v := (1 : Int32)) dL_law_721 rfl (by decide) ?_
  refine J_iadd (pc' := 723) dL_law_722 rfl ?_
  refine J_sld (pc' := 724) dL_law_723 rfl hin.2.1 ?_
  refine J_aload_n (pc' := 725) (i := 0) (n := 3) dL_law_724 rfl rfl rfl ?_
  refine J_iload_n (pc' := 726) (i := 3) (n := 0) dL_law_725 rfl rfl rfl ?_
  refine J_iconst (pc' := 727) (v := (2 : Int32)) dL_law_726 rfl (by decide) ?_
  refine J_iadd (pc' := 728) dL_law_727 rfl ?_
  refine J_sld (pc' := 729) dL_law_728 rfl hin.2.2.1 ?_
  refine J_aload_n (pc' := 730) (i := 0) (n := 3) dL_law_729 rfl rfl rfl ?_
  refine J_iload_n (pc' := 731) (i := 3) (n := 0) dL_law_730 rfl rfl rfl ?_
  refine J_iconst (pc' := 732) (v := (3 : Int32)) dL_law_731 rfl (by decide) ?_
  refine J_iadd (pc' := 733) dL_law_732 rfl ?_
  refine J_sld (pc' := 734) dL_law_733 rfl hin.2.2.2.1 ?_
  refine J_aload_n (pc' := 735) (i := 0) (n := 3) dL_law_734 rfl rfl rfl ?_
  refine J_iload_n (pc' := 736) (i := 3) (n := 0) dL_law_735 rfl rfl rfl ?_
  refine J_iconst (pc' := 737) (v := (4 : Int32)) dL_law_736 rfl (by decide) ?_
  refine J_iadd (pc' := 738) dL_law_737 rfl ?_
  refine J_sld (pc' := 739) dL_law_738 rfl hin.2.2.2.2.1 ?_
  refine J_callV (pc' := 742) (as := [.int (sv G (i + 1)), .int (sv G (i + 2)), .int (sv G (i + 3)), .int (sv G (i + 4))]) (rest := []) (b := 0) dL_law_739 rfl (⟨⟨(j_in 709 (by decide +kernel) rfl), (j_in 710 (by decide +kernel) rfl), (j_in 711 (by decide +kernel) rfl), (j_in 100 (by decide +kernel) rfl)⟩, (j_in 712 (by decide +kernel) rfl), ⟨by decide, by decide, by decide +kernel⟩⟩ : j_lkV RL 97 md_X9_order 4) rfl 9 (by decide) rfl (x_o hs) (x_n hs (Nat.le_of_ble_eq_true rfl)) (c_X9_order hs e1) ⟨Nat.le_of_ble_eq_true rfl, Nat.le_of_ble_eq_true rfl⟩ (Nat.le_of_ble_eq_true rfl) ⟨by show j_N M + 0 ≤ 600000; omega, Nat.le_trans (show s + 0 ≤ 7000000 by omega) (by decide)⟩ (fun v M9 h9 => ?_)
  obtain ⟨rfl, rfl⟩ := h9
  refine J_aload_n (pc' := 743) (i := 2) (n := 1) dL_law_742 rfl rfl rfl ?_
  refine J_aload_n (pc' := 744) (i := 0) (n := 3) dL_law_743 rfl rfl rfl ?_
  refine J_iload_n (pc' := 745) (i := 3) (n := 0) dL_law_744 rfl rfl rfl ?_
  refine J_iconst (pc' := 746) (v := (1 : Int32)) dL_law_745 rfl (by decide) ?_
  refine J_iadd (pc' := 747) dL_law_746 rfl ?_
  refine J_sld (pc' := 748) dL_law_747 rfl hin.2.1 ?_
  refine J_aload_n (pc' := 749) (i := 0) (n := 3) dL_law_748 rfl rfl rfl ?_
  refine J_iload_n (pc' := 750) (i := 3) (n := 0) dL_law_749 rfl rfl rfl ?_
  refine J_iconst (pc' := 751) (v := (2 : Int32)) dL_law_750 rfl (by decide) ?_
  refine J_iadd (pc' := 752) dL_law_751 rfl ?_
  refine J_sld (pc' := 753) dL_law_752 rfl hin.2.2.1 ?_
  refine J_aload_n (pc' := 754) (i := 0) (n := 3) dL_law_753 rfl rfl rfl ?_
  refine J_iload_n (pc' := 755) (i := 3) (n := 0) dL_law_754 rfl rfl rfl ?_
  refine J_iconst (pc' := 756) (v := (3 : Int32)) dL_law_755 rfl (by decide) ?_
  refine J_iadd (pc' := 757) dL_law_756 rfl ?_
  refine J_sld (pc' := 758) dL_law_757 rfl hin.2.2.2.1 ?_
  refine J_aload_n (pc' := 759) (i := 0) (n := 3) dL_law_758 rfl rfl rfl ?_
  refine J_iload_n (pc' := 760) (i := 3) (n := 0) dL_law_759 rfl rfl rfl ?_
  refine J_iconst (pc' := 761) (v := (4 : Int32)) dL_law_760 rfl (by decide) ?_
  refine J_iadd (pc' := 762) dL_law_761 rfl ?_
  refine J_sld (pc' := 763) dL_law_762 rfl hin.2.2.2.2.1 ?_
  refine J_callV (pc' := 766) (as := [.int (sv G (i + 1)), .int (sv G (i + 2)), .int (sv G (i + 3)), .int (sv G (i + 4))]) (rest := [.int r]) (b := 35) dL_law_763 rfl (⟨⟨(j_in 1142 (by decide +kernel) rfl), (j_in 1143 (by decide +kernel) rfl), (j_in 1144 (by decide +kernel) rfl), (j_in 112 (by decide +kernel) rfl)⟩, (j_in 1145 (by decide +kernel) rfl), ⟨by decide, by decide, by decide +kernel⟩⟩ : j_lkV RL 101 md_X10_order 4) rfl 10 (by decide) rfl (m_o hm1) (m_n hm1 (Nat.le_of_ble_eq_true rfl)) (c_X10_order hm1 e2) ⟨Nat.le_of_ble_eq_true rfl, Nat.le_of_ble_eq_true rfl⟩ (Nat.le_of_ble_eq_true rfl) ⟨by show j_N M + 0 + 0 ≤ 600000; omega, Nat.le_trans (show s + 0 + 0 ≤ 7000000 by omega) (by decide)⟩ (fun v M9 h9 => ?_)
  obtain ⟨rfl, rfl⟩ := h9
  refine J_icmp_eq (pc' := 769) (tgt := 1175) dL_law_766 rfl (by decide) (fun _ => ?_) (fun c9 => absurd rfl c9)
  exact k
set_option maxHeartbeats 4000000 in
theorem lw_apart {l : Launch} {G : j_G} {nm : String} {mcs : Nat × Nat} {Po : Option Value → j_M → Prop} {i : Int32} {s : Nat} (hin : lw_in G i) {M M1 M2 : j_M} {r : Int32} (e1 : f_X9_apart M (sv G (i + 1)) (sv G (i + 2)) = some (r, M1)) (hm1 : sh_m M1.2.2) (e2 : f_X10_apart M1 (sv G (i + 1)) (sv G (i + 2)) = some (r, M2)) (hs : sh_x M.2.2) (hm : sh_m M.2.2) (hi : sh_i M.2.2) (hc : j_N M ≤ 100 ∧ s ≤ 100000)
    (k : JJ l G (md_law nm) room_1 (j_N M, s) mcs Po 1175 [(3, .int i), (2, .ref 35), (1, .ref 0), (0, .ref 1000030)] [] M2) : JJ l G (md_law nm) room_1 (j_N M, s) mcs Po 771 [(3, .int i), (2, .ref 35), (1, .ref 0), (0, .ref 1000030)] [] M := by
  refine J_aload_n (pc' := 772) (i := 1) (n := 2) dL_law_771 rfl rfl rfl ?_
  refine J_aload_n (pc' := 773) (i := 0) (n := 3) dL_law_772 rfl rfl rfl ?_
  refine J_iload_n (pc' := 774) (i := 3) (n := 0) dL_law_773 rfl rfl rfl ?_
  refine J_iconst (pc' := 775) (v := (1 : Int32)) dL_law_774 rfl (by decide) ?_
  refine J_iadd (pc' := 776) dL_law_775 rfl ?_
  refine J_sld (pc' := 777) dL_law_776 rfl hin.2.1 ?_
  refine J_aload_n (pc' := 778) (i := 0) (n := 3) dL_law_777 rfl rfl rfl ?_
  refine J_iload_n (pc' := 779) (i := 3) (n := 0) dL_law_778 rfl rfl rfl ?_
  refine J_iconst (pc' := 780) (v := (2 : Int32)) dL_law_779 rfl (by decide) ?_
  refine J_iadd (pc' := 781) dL_law_780 rfl ?_
  refine J_sld (pc' := 782) dL_law_781 rfl hin.2.2.1 ?_
  refine J_callV (pc' := 785) (as := [.int (sv G (i + 1)), .int (sv G (i + 2))]) (rest := []) (b := 0) dL_law_782 rfl (⟨⟨(j_in 746 (by decide +kernel) rfl), (j_in 747 (by decide +kernel) rfl), (j_in 748 (by decide +kernel) rfl), (j_in 100 (by decide +kernel) rfl)⟩, (j_in 749 (by decide +kernel) rfl), ⟨by decide, by decide, by decide +kernel⟩⟩ : j_lkV RL 102 md_X9_apart 2) rfl 9 (by decide) rfl (x_o hs) (x_n hs (Nat.le_of_ble_eq_true rfl)) (c_X9_apart hs e1) ⟨Nat.le_of_ble_eq_true rfl, Nat.le_of_ble_eq_true rfl⟩ (Nat.le_of_ble_eq_true rfl) ⟨by show j_N M + 0 ≤ 600000; omega, Nat.le_trans (show s + 0 ≤ 7000000 by omega) (by decide)⟩ (fun v M9 h9 => ?_)
  obtain ⟨rfl, rfl⟩ := h9
  refine J_aload_n (pc' := 786) (i := 2) (n := 1) dL_law_785 rfl rfl rfl ?_
  refine J_aload_n (pc' := 787) (i := 0) (n := 3) dL_law_786 rfl rfl rfl ?_
  refine J_iload_n (pc' := 788) (i := 3) (n := 0) dL_law_787 rfl rfl rfl ?_
  refine J_iconst (pc' := 789) (v := (1 : Int32)) dL_law_788 rfl (by decide) ?_
  refine J_iadd (pc' := 790) dL_law_789 rfl ?_
  refine J_sld (pc' := 791) dL_law_790 rfl hin.2.1 ?_
  refine J_aload_n (pc' := 792) (i := 0) (n := 3) dL_law_791 rfl rfl rfl ?_
  refine J_iload_n (pc' := 793) (i := 3) (n := 0) dL_law_792 rfl rfl rfl ?_
  refine J_iconst (pc' := 794) (v := (2 : Int32)) dL_law_793 rfl (by decide) ?_
  refine J_iadd (pc' := 795) dL_law_794 rfl ?_
  refine J_sld (pc' := 796) dL_law_795 rfl hin.2.2.1 ?_
  refine J_callV (pc' := 799) (as := [.int (sv G (i + 1)), .int (sv G (i + 2))]) (rest := [.int r]) (b := 35) dL_law_796 rfl (⟨⟨(j_in 1159 (by decide +kernel) rfl), (j_in 1160 (by decide +kernel) rfl), (j_in 1161 (by decide +kernel) rfl), (j_in 112 (by decide +kernel) rfl)⟩, (j_in 1162 (by decide +kernel) rfl), ⟨by decide, by decide, by decide +kernel⟩⟩ : j_lkV RL 105 md_X10_apart 2) rfl 10 (by decide) rfl (m_o hm1) (m_n hm1 (Nat.le_of_ble_eq_true rfl)) (c_X10_apart hm1 e2) ⟨Nat.le_of_ble_eq_true rfl, Nat.le_of_ble_eq_true rfl⟩ (Nat.le_of_ble_eq_true rfl) ⟨by show j_N M + 0 + 0 ≤ 600000; omega, Nat.le_trans (show s + 0 + 0 ≤ 7000000 by omega) (by decide)⟩ (fun v M9 h9 => ?_)
  obtain ⟨rfl, rfl⟩ := h9
  refine J_icmp_eq (pc' := 802) (tgt := 1175) dL_law_799 rfl (by decide) (fun _ => ?_) (fun c9 => absurd rfl c9)
  exact k
set_option maxHeartbeats 4000000 in
theorem lw_note {l : Launch} {G : j_G} {nm : String} {mcs : Nat × Nat} {Po : Option Value → j_M → Prop} {i : Int32} {s : Nat} (hin : lw_in G i) {M M1 M2 : j_M} {r : Int32} (e1 : f_X9_note M (sv G (i + 1)) (sv G (i + 2)) (sv G (i + 3)) (sv G (i + 4)) (sv G (i + 5)) = some (r, M1)) (hm1 : sh_m M1.2.2) (e2 : f_X10_note M1 (sv G (i + 1)) (sv G (i + 2)) (sv G (i + 3)) (sv G (i + 4)) (sv G (i + 5)) = some (r, M2)) (hs : sh_x M.2.2) (hm : sh_m M.2.2) (hi : sh_i M.2.2) (hc : j_N M ≤ 100 ∧ s ≤ 100000)
    (k : JJ l G (md_law nm) room_1 (j_N M, s) mcs Po 1175 [(3, .int i), (2, .ref 35), (1, .ref 0), (0, .ref 1000030)] [] M2) : JJ l G (md_law nm) room_1 (j_N M, s) mcs Po 804 [(3, .int i), (2, .ref 35), (1, .ref 0), (0, .ref 1000030)] [] M := by
  refine J_aload_n (pc' := 805) (i := 1) (n := 2) dL_law_804 rfl rfl rfl ?_
  refine J_aload_n (pc' := 806) (i := 0) (n := 3) dL_law_805 rfl rfl rfl ?_
  refine J_iload_n (pc' := 807) (i := 3) (n := 0) dL_law_806 rfl rfl rfl ?_
  refine J_iconst (pc' := 808) (v := (1 : Int32)) dL_law_807 rfl (by decide) ?_
  refine J_iadd (pc' := 809) dL_law_808 rfl ?_
  refine J_sld (pc' := 810) dL_law_809 rfl hin.2.1 ?_
  refine J_aload_n (pc' := 811) (i := 0) (n := 3) dL_law_810 rfl rfl rfl ?_
  refine J_iload_n (pc' := 812) (i := 3) (n := 0) dL_law_811 rfl rfl rfl ?_
  refine J_iconst (pc' := 813) (v := (2 : Int32)) dL_law_812 rfl (by decide) ?_
  refine J_iadd (pc' := 814) dL_law_813 rfl ?_
  refine J_sld (pc' := 815) dL_law_814 rfl hin.2.2.1 ?_
  refine J_aload_n (pc' := 816) (i := 0) (n := 3) dL_law_815 rfl rfl rfl ?_
  refine J_iload_n (pc' := 817) (i := 3) (n := 0) dL_law_816 rfl rfl rfl ?_
  refine J_iconst (pc' := 818) (v := (3 : Int32)) dL_law_817 rfl (by decide) ?_
  refine J_iadd (pc' := 819) dL_law_818 rfl ?_
  refine J_sld (pc' := 820) dL_law_819 rfl hin.2.2.2.1 ?_
  refine J_aload_n (pc' := 821) (i := 0) (n := 3) dL_law_820 rfl rfl rfl ?_
  refine J_iload_n (pc' := 822) (i := 3) (n := 0) dL_law_821 rfl rfl rfl ?_
  refine J_iconst (pc' := 823) (v := (4 : Int32)) dL_law_822 rfl (by decide) ?_
  refine J_iadd (pc' := 824) dL_law_823 rfl ?_
  refine J_sld (pc' := 825) dL_law_824 rfl hin.2.2.2.2.1 ?_
  refine J_aload_n (pc' := 826) (i := 0) (n := 3) dL_law_825 rfl rfl rfl ?_
  refine J_iload_n (pc' := 827) (i := 3) (n := 0) dL_law_826 rfl rfl rfl ?_
  refine J_iconst (pc' := 828) (v := (5 : Int32)) dL_law_827 rfl (by decide) ?_
  refine J_iadd (pc' := 829) dL_law_828 rfl ?_
  refine J_sld (pc' := 830) dL_law_829 rfl hin.2.2.2.2.2 ?_
  refine J_callV (pc' := 833) (as := [.int (sv G (i + 1)), .int (sv G (i + 2)), .int (sv G (i + 3)), .int (sv G (i + 4)), .int (sv G (i + 5))]) (rest := []) (b := 0) dL_law_830 rfl (⟨⟨(j_in 755 (by decide +kernel) rfl), (j_in 756 (by decide +kernel) rfl), (j_in 757 (by decide +kernel) rfl), (j_in 100 (by decide +kernel) rfl)⟩, (j_in 758 (by decide +kernel) rfl), ⟨by decide, by decide, by decide +kernel⟩⟩ : j_lkV RL 106 md_X9_note 5) rfl 9 (by decide) rfl (x_o hs) (x_n hs (Nat.le_of_ble_eq_true rfl)) (c_X9_note hs e1) ⟨Nat.le_of_ble_eq_true rfl, Nat.le_of_ble_eq_true rfl⟩ (Nat.le_of_ble_eq_true rfl) ⟨by show j_N M + 0 ≤ 600000; omega, Nat.le_trans (show s + 0 ≤ 7000000 by omega) (by decide)⟩ (fun v M9 h9 => ?_)
  obtain ⟨rfl, rfl⟩ := h9
  refine J_aload_n (pc' := 834) (i := 2) (n := 1) dL_law_833 rfl rfl rfl ?_
  refine J_aload_n (pc' := 835) (i := 0) (n := 3) dL_law_834 rfl rfl rfl ?_
  refine J_iload_n (pc' := 836) (i := 3) (n := 0) dL_law_835 rfl rfl rfl ?_
  refine J_iconst (pc' := 837) (v := (1 : Int32)) dL_law_836 rfl (by decide) ?_
  refine J_iadd (pc' := 838) dL_law_837 rfl ?_
  refine J_sld (pc' := 839) dL_law_838 rfl hin.2.1 ?_
  refine J_aload_n (pc' := 840) (i := 0) (n := 3) dL_law_839 rfl rfl rfl ?_
  refine J_iload_n (pc' := 841) (i := 3) (n := 0) dL_law_840 rfl rfl rfl ?_
  refine J_iconst (pc' := 842) (v := (2 : Int32)) dL_law_841 rfl (by decide) ?_
  refine J_iadd (pc' := 843) dL_law_842 rfl ?_
  refine J_sld (pc' := 844) dL_law_843 rfl hin.2.2.1 ?_
  refine J_aload_n (pc' := 845) (i := 0) (n := 3) dL_law_844 rfl rfl rfl ?_
  refine J_iload_n (pc' := 846) (i := 3) (n := 0) dL_law_845 rfl rfl rfl ?_
  refine J_iconst (pc' := 847) (v := (3 : Int32)) dL_law_846 rfl (by decide) ?_
  refine J_iadd (pc' := 848) dL_law_847 rfl ?_
  refine J_sld (pc' := 849) dL_law_848 rfl hin.2.2.2.1 ?_
  refine J_aload_n (pc' := 850) (i := 0) (n := 3) dL_law_849 rfl rfl rfl ?_
  refine J_iload_n (pc' := 851) (i := 3) (n := 0) dL_law_850 rfl rfl rfl ?_
  refine J_iconst (pc' := 852) (v := (4 : Int32)) dL_law_851 rfl (by decide) ?_
  refine J_iadd (pc' := 853) dL_law_852 rfl ?_
  refine J_sld (pc' := 854) dL_law_853 rfl hin.2.2.2.2.1 ?_
  refine J_aload_n (pc' := 855) (i := 0) (n := 3) dL_law_854 rfl rfl rfl ?_
  refine J_iload_n (pc' := 856) (i := 3) (n := 0) dL_law_855 rfl rfl rfl ?_
  refine J_iconst (pc' := 857) (v := (5 : Int32)) dL_law_856 rfl (by decide) ?_
  refine J_iadd (pc' := 858) dL_law_857 rfl ?_
  refine J_sld (pc' := 859) dL_law_858 rfl hin.2.2.2.2.2 ?_
  refine J_callV (pc' := 862) (as := [.int (sv G (i + 1)), .int (sv G (i + 2)), .int (sv G (i + 3)), .int (sv G (i + 4)), .int (sv G (i + 5))]) (rest := [.int r]) (b := 35) dL_law_859 rfl (⟨⟨(j_in 1163 (by decide +kernel) rfl), (j_in 1164 (by decide +kernel) rfl), (j_in 1165 (by decide +kernel) rfl), (j_in 112 (by decide +kernel) rfl)⟩, (j_in 1166 (by decide +kernel) rfl), ⟨by decide, by decide, by decide +kernel⟩⟩ : j_lkV RL 110 md_X10_note 5) rfl 10 (by decide) rfl (m_o hm1) (m_n hm1 (Nat.le_of_ble_eq_true rfl)) (c_X10_note hm1 e2) ⟨Nat.le_of_ble_eq_true rfl, Nat.le_of_ble_eq_true rfl⟩ (Nat.le_of_ble_eq_true rfl) ⟨by show j_N M + 0 + 0 ≤ 600000; omega, Nat.le_trans (show s + 0 + 0 ≤ 7000000 by omega) (by decide)⟩ (fun v M9 h9 => ?_)
  obtain ⟨rfl, rfl⟩ := h9
  refine J_icmp_eq (pc' := 865) (tgt := 1175) dL_law_862 rfl (by decide) (fun _ => ?_) (fun c9 => absurd rfl c9)
  exact k
set_option maxHeartbeats 4000000 in
theorem lw_forget {l : Launch} {G : j_G} {nm : String} {mcs : Nat × Nat} {Po : Option Value → j_M → Prop} {i : Int32} {s : Nat} (hin : lw_in G i) {M M1 M2 : j_M} {r : Int32} (e1 : f_X9_forget M  = some (r, M1)) (hm1 : sh_m M1.2.2) (e2 : f_X10_forget M1  = some (r, M2)) (hs : sh_x M.2.2) (hm : sh_m M.2.2) (hi : sh_i M.2.2) (hc : j_N M ≤ 100 ∧ s ≤ 100000)
    (k : JJ l G (md_law nm) room_1 (j_N M, s) mcs Po 1175 [(3, .int i), (2, .ref 35), (1, .ref 0), (0, .ref 1000030)] [] M2) : JJ l G (md_law nm) room_1 (j_N M, s) mcs Po 867 [(3, .int i), (2, .ref 35), (1, .ref 0), (0, .ref 1000030)] [] M := by
  refine J_aload_n (pc' := 868) (i := 1) (n := 2) dL_law_867 rfl rfl rfl ?_
  refine J_callV (pc' := 871) (as := []) (rest := []) (b := 0) dL_law_868 rfl (⟨⟨(j_in 763 (by decide +kernel) rfl), (j_in 764 (by decide +kernel) rfl), (j_in 765 (by decide +kernel) rfl), (j_in 100 (by decide +kernel) rfl)⟩, (j_in 766 (by decide +kernel) rfl), ⟨by decide, by decide, by decide +kernel⟩⟩ : j_lkV RL 111 md_X9_forget 0) rfl 9 (by decide) rfl (x_o hs) (x_n hs (Nat.le_of_ble_eq_true rfl)) (c_X9_forget hs e1) ⟨Nat.le_of_ble_eq_true rfl, Nat.le_of_ble_eq_true rfl⟩ (Nat.le_of_ble_eq_true rfl) ⟨by show j_N M + 0 ≤ 600000; omega, Nat.le_trans (show s + 0 ≤ 7000000 by omega) (by decide)⟩ (fun v M9 h9 => ?_)
  obtain ⟨rfl, rfl⟩ := h9
  refine J_aload_n (pc' := 872) (i := 2) (n := 1) dL_law_871 rfl rfl rfl ?_
  refine J_callV (pc' := 875) (as := []) (rest := [.int r]) (b := 35) dL_law_872 rfl (⟨⟨(j_in 1169 (by decide +kernel) rfl), (j_in 1170 (by decide +kernel) rfl), (j_in 1171 (by decide +kernel) rfl), (j_in 112 (by decide +kernel) rfl)⟩, (j_in 1172 (by decide +kernel) rfl), ⟨by decide, by decide, by decide +kernel⟩⟩ : j_lkV RL 114 md_X10_forget 0) rfl 10 (by decide) rfl (m_o hm1) (m_n hm1 (Nat.le_of_ble_eq_true rfl)) (c_X10_forget hm1 e2) ⟨Nat.le_of_ble_eq_true rfl, Nat.le_of_ble_eq_true rfl⟩ (Nat.le_of_ble_eq_true rfl) ⟨by show j_N M + 0 + 0 ≤ 600000; omega, Nat.le_trans (show s + 0 + 0 ≤ 7000000 by omega) (by decide)⟩ (fun v M9 h9 => ?_)
  obtain ⟨rfl, rfl⟩ := h9
  refine J_icmp_eq (pc' := 878) (tgt := 1175) dL_law_875 rfl (by decide) (fun _ => ?_) (fun c9 => absurd rfl c9)
  exact k
set_option maxHeartbeats 4000000 in
theorem lw_is {l : Launch} {G : j_G} {nm : String} {mcs : Nat × Nat} {Po : Option Value → j_M → Prop} {i : Int32} {s : Nat} (hin : lw_in G i) {M M1 M2 : j_M} {r : Int32} (e1 : f_X9_is M (sv G (i + 1)) (sv G (i + 2)) = some (r, M1)) (hm1 : sh_m M1.2.2) (e2 : f_X10_is M1 (sv G (i + 1)) (sv G (i + 2)) = some (r, M2)) (hs : sh_x M.2.2) (hm : sh_m M.2.2) (hi : sh_i M.2.2) (hc : j_N M ≤ 100 ∧ s ≤ 100000)
    (k : JJ l G (md_law nm) room_1 (j_N M, s) mcs Po 1175 [(3, .int i), (2, .ref 35), (1, .ref 0), (0, .ref 1000030)] [] M2) : JJ l G (md_law nm) room_1 (j_N M, s) mcs Po 880 [(3, .int i), (2, .ref 35), (1, .ref 0), (0, .ref 1000030)] [] M := by
  refine J_aload_n (pc' := 881) (i := 1) (n := 2) dL_law_880 rfl rfl rfl ?_
  refine J_aload_n (pc' := 882) (i := 0) (n := 3) dL_law_881 rfl rfl rfl ?_
  refine J_iload_n (pc' := 883) (i := 3) (n := 0) dL_law_882 rfl rfl rfl ?_
  refine J_iconst (pc' := 884) (v := (1 : Int32)) dL_law_883 rfl (by decide) ?_
  refine J_iadd (pc' := 885) dL_law_884 rfl ?_
  refine J_sld (pc' := 886) dL_law_885 rfl hin.2.1 ?_
  refine J_aload_n (pc' := 887) (i := 0) (n := 3) dL_law_886 rfl rfl rfl ?_
  refine J_iload_n (pc' := 888) (i := 3) (n := 0) dL_law_887 rfl rfl rfl ?_
  refine J_iconst (pc' := 889) (v := (2 : Int32)) dL_law_888 rfl (by decide) ?_
  refine J_iadd (pc' := 890) dL_law_889 rfl ?_
  refine J_sld (pc' := 891) dL_law_890 rfl hin.2.2.1 ?_
  refine J_callV (pc' := 894) (as := [.int (sv G (i + 1)), .int (sv G (i + 2))]) (rest := []) (b := 0) dL_law_891 rfl (⟨⟨(j_in 767 (by decide +kernel) rfl), (j_in 768 (by decide +kernel) rfl), (j_in 769 (by decide +kernel) rfl), (j_in 100 (by decide +kernel) rfl)⟩, (j_in 770 (by decide +kernel) rfl), ⟨by decide, by decide, by decide +kernel⟩⟩ : j_lkV RL 115 md_X9_is 2) rfl 9 (by decide) rfl (x_o hs) (x_n hs (Nat.le_of_ble_eq_true rfl)) (c_X9_is hs e1) ⟨Nat.le_of_ble_eq_true rfl, Nat.le_of_ble_eq_true rfl⟩ (Nat.le_of_ble_eq_true rfl) ⟨by show j_N M + 0 ≤ 600000; omega, Nat.le_trans (show s + 0 ≤ 7000000 by omega) (by decide)⟩ (fun v M9 h9 => ?_)
  obtain ⟨rfl, rfl⟩ := h9
  refine J_aload_n (pc' := 895) (i := 2) (n := 1) dL_law_894 rfl rfl rfl ?_
  refine J_aload_n (pc' := 896) (i := 0) (n := 3) dL_law_895 rfl rfl rfl ?_
  refine J_iload_n (pc' := 897) (i := 3) (n := 0) dL_law_896 rfl rfl rfl ?_
  refine J_iconst (pc' := 898) (v := (1 : Int32)) dL_law_897 rfl (by decide) ?_
  refine J_iadd (pc' := 899) dL_law_898 rfl ?_
  refine J_sld (pc' := 900) dL_law_899 rfl hin.2.1 ?_
  refine J_aload_n (pc' := 901) (i := 0) (n := 3) dL_law_900 rfl rfl rfl ?_
  refine J_iload_n (pc' := 902) (i := 3) (n := 0) dL_law_901 rfl rfl rfl ?_
  refine J_iconst (pc' := 903) (v := (2 : Int32)) dL_law_902 rfl (by decide) ?_
  refine J_iadd (pc' := 904) dL_law_903 rfl ?_
  refine J_sld (pc' := 905) dL_law_904 rfl hin.2.2.1 ?_
  refine J_callV (pc' := 908) (as := [.int (sv G (i + 1)), .int (sv G (i + 2))]) (rest := [.int r]) (b := 35) dL_law_905 rfl (⟨⟨(j_in 1173 (by decide +kernel) rfl), (j_in 1174 (by decide +kernel) rfl), (j_in 1175 (by decide +kernel) rfl), (j_in 112 (by decide +kernel) rfl)⟩, (j_in 1176 (by decide +kernel) rfl), ⟨by decide, by decide, by decide +kernel⟩⟩ : j_lkV RL 118 md_X10_is 2) rfl 10 (by decide) rfl (m_o hm1) (m_n hm1 (Nat.le_of_ble_eq_true rfl)) (c_X10_is hm1 e2) ⟨Nat.le_of_ble_eq_true rfl, Nat.le_of_ble_eq_true rfl⟩ (Nat.le_of_ble_eq_true rfl) ⟨by show j_N M + 0 + 0 ≤ 600000; omega, Nat.le_trans (show s + 0 + 0 ≤ 7000000 by omega) (by decide)⟩ (fun v M9 h9 => ?_)
  obtain ⟨rfl, rfl⟩ := h9
  refine J_icmp_eq (pc' := 911) (tgt := 1175) dL_law_908 rfl (by decide) (fun _ => ?_) (fun c9 => absurd rfl c9)
  exact k
set_option maxHeartbeats 4000000 in
theorem lw_look {l : Launch} {G : j_G} {nm : String} {mcs : Nat × Nat} {Po : Option Value → j_M → Prop} {i : Int32} {s : Nat} (hin : lw_in G i) {M M1 M2 : j_M} {r : Int32} (e1 : f_X9_look M (sv G (i + 1)) = some (r, M1)) (hm1 : sh_m M1.2.2) (e2 : f_X10_look M1 (sv G (i + 1)) = some (r, M2)) (hs : sh_x M.2.2) (hm : sh_m M.2.2) (hi : sh_i M.2.2) (hc : j_N M ≤ 100 ∧ s ≤ 100000)
    (k : JJ l G (md_law nm) room_1 (j_N M, s) mcs Po 1175 [(3, .int i), (2, .ref 35), (1, .ref 0), (0, .ref 1000030)] [] M2) : JJ l G (md_law nm) room_1 (j_N M, s) mcs Po 913 [(3, .int i), (2, .ref 35), (1, .ref 0), (0, .ref 1000030)] [] M := by
  refine J_aload_n (pc' := 914) (i := 1) (n := 2) dL_law_913 rfl rfl rfl ?_
  refine J_aload_n (pc' := 915) (i := 0) (n := 3) dL_law_914 rfl rfl rfl ?_
  refine J_iload_n (pc' := 916) (i := 3) (n := 0) dL_law_915 rfl rfl rfl ?_
  refine J_iconst (pc' := 917) (v := (1 : Int32)) dL_law_916 rfl (by decide) ?_
  refine J_iadd (pc' := 918) dL_law_917 rfl ?_
  refine J_sld (pc' := 919) dL_law_918 rfl hin.2.1 ?_
  refine J_callV (pc' := 922) (as := [.int (sv G (i + 1))]) (rest := []) (b := 0) dL_law_919 rfl (⟨⟨(j_in 783 (by decide +kernel) rfl), (j_in 784 (by decide +kernel) rfl), (j_in 785 (by decide +kernel) rfl), (j_in 100 (by decide +kernel) rfl)⟩, (j_in 786 (by decide +kernel) rfl), ⟨by decide, by decide, by decide +kernel⟩⟩ : j_lkV RL 119 md_X9_look 1) rfl 9 (by decide) rfl (x_o hs) (x_n hs (Nat.le_of_ble_eq_true rfl)) (c_X9_look hs e1) ⟨Nat.le_of_ble_eq_true rfl, Nat.le_of_ble_eq_true rfl⟩ (Nat.le_of_ble_eq_true rfl) ⟨by show j_N M + 0 ≤ 600000; omega, Nat.le_trans (show s + 0 ≤ 7000000 by omega) (by decide)⟩ (fun v M9 h9 => ?_)
  obtain ⟨rfl, rfl⟩ := h9
  refine J_aload_n (pc' := 923) (i := 2) (n := 1) dL_law_922 rfl rfl rfl ?_
  refine J_aload_n (pc' := 924) (i := 0) (n := 3) dL_law_923 rfl rfl rfl ?_
  refine J_iload_n (pc' := 925) (i := 3) (n := 0) dL_law_924 rfl rfl rfl ?_
  refine J_iconst (pc' := 926) (v := (1 : Int32)) dL_law_925 rfl (by decide) ?_
  refine J_iadd (pc' := 927) dL_law_926 rfl ?_
  refine J_sld (pc' := 928) dL_law_927 rfl hin.2.1 ?_
  refine J_callV (pc' := 931) (as := [.int (sv G (i + 1))]) (rest := [.int r]) (b := 35) dL_law_928 rfl (⟨⟨(j_in 1185 (by decide +kernel) rfl), (j_in 1186 (by decide +kernel) rfl), (j_in 1187 (by decide +kernel) rfl), (j_in 112 (by decide +kernel) rfl)⟩, (j_in 1188 (by decide +kernel) rfl), ⟨by decide, by decide, by decide +kernel⟩⟩ : j_lkV RL 122 md_X10_look 1) rfl 10 (by decide) rfl (m_o hm1) (m_n hm1 (Nat.le_of_ble_eq_true rfl)) (c_X10_look hm1 e2) ⟨Nat.le_of_ble_eq_true rfl, Nat.le_of_ble_eq_true rfl⟩ (Nat.le_of_ble_eq_true rfl) ⟨by show j_N M + 0 + 0 ≤ 600000; omega, Nat.le_trans (show s + 0 + 0 ≤ 7000000 by omega) (by decide)⟩ (fun v M9 h9 => ?_)
  obtain ⟨rfl, rfl⟩ := h9
  refine J_icmp_eq (pc' := 934) (tgt := 1175) dL_law_931 rfl (by decide) (fun _ => ?_) (fun c9 => absurd rfl c9)
  exact k
set_option maxHeartbeats 4000000 in
theorem lw_touch {l : Launch} {G : j_G} {nm : String} {mcs : Nat × Nat} {Po : Option Value → j_M → Prop} {i : Int32} {s : Nat} (hin : lw_in G i) {M M1 M2 : j_M} {r : Int32} (e1 : f_X9_touch M (sv G (i + 1)) (sv G (i + 2)) = some (r, M1)) (hm1 : sh_m M1.2.2) (e2 : f_X10_touch M1 (sv G (i + 1)) (sv G (i + 2)) = some (r, M2)) (hs : sh_x M.2.2) (hm : sh_m M.2.2) (hi : sh_i M.2.2) (hc : j_N M ≤ 100 ∧ s ≤ 100000)
    (k : JJ l G (md_law nm) room_1 (j_N M, s) mcs Po 1175 [(3, .int i), (2, .ref 35), (1, .ref 0), (0, .ref 1000030)] [] M2) : JJ l G (md_law nm) room_1 (j_N M, s) mcs Po 936 [(3, .int i), (2, .ref 35), (1, .ref 0), (0, .ref 1000030)] [] M := by
  refine J_aload_n (pc' := 937) (i := 1) (n := 2) dL_law_936 rfl rfl rfl ?_
  refine J_aload_n (pc' := 938) (i := 0) (n := 3) dL_law_937 rfl rfl rfl ?_
  refine J_iload_n (pc' := 939) (i := 3) (n := 0) dL_law_938 rfl rfl rfl ?_
  refine J_iconst (pc' := 940) (v := (1 : Int32)) dL_law_939 rfl (by decide) ?_
  refine J_iadd (pc' := 941) dL_law_940 rfl ?_
  refine J_sld (pc' := 942) dL_law_941 rfl hin.2.1 ?_
  refine J_aload_n (pc' := 943) (i := 0) (n := 3) dL_law_942 rfl rfl rfl ?_
  refine J_iload_n (pc' := 944) (i := 3) (n := 0) dL_law_943 rfl rfl rfl ?_
  refine J_iconst (pc' := 945) (v := (2 : Int32)) dL_law_944 rfl (by decide) ?_
  refine J_iadd (pc' := 946) dL_law_945 rfl ?_
  refine J_sld (pc' := 947) dL_law_946 rfl hin.2.2.1 ?_
  refine J_callV (pc' := 950) (as := [.int (sv G (i + 1)), .int (sv G (i + 2))]) (rest := []) (b := 0) dL_law_947 rfl (⟨⟨(j_in 800 (by decide +kernel) rfl), (j_in 801 (by decide +kernel) rfl), (j_in 802 (by decide +kernel) rfl), (j_in 100 (by decide +kernel) rfl)⟩, (j_in 803 (by decide +kernel) rfl), ⟨by decide, by decide, by decide +kernel⟩⟩ : j_lkV RL 123 md_X9_touch 2) rfl 9 (by decide) rfl (x_o hs) (x_n hs (Nat.le_of_ble_eq_true rfl)) (c_X9_touch hs e1) ⟨Nat.le_of_ble_eq_true rfl, Nat.le_of_ble_eq_true rfl⟩ (Nat.le_of_ble_eq_true rfl) ⟨by show j_N M + 0 ≤ 600000; omega, Nat.le_trans (show s + 0 ≤ 7000000 by omega) (by decide)⟩ (fun v M9 h9 => ?_)
  obtain ⟨rfl, rfl⟩ := h9
  refine J_aload_n (pc' := 951) (i := 2) (n := 1) dL_law_950 rfl rfl rfl ?_
  refine J_aload_n (pc' := 952) (i := 0) (n := 3) dL_law_951 rfl rfl rfl ?_
  refine J_iload_n (pc' := 953) (i := 3) (n := 0) dL_law_952 rfl rfl rfl ?_
  refine J_iconst (pc' := 954) (v := (1 : Int32)) dL_law_953 rfl (by decide) ?_
  refine J_iadd (pc' := 955) dL_law_954 rfl ?_
  refine J_sld (pc' := 956) dL_law_955 rfl hin.2.1 ?_
  refine J_aload_n (pc' := 957) (i := 0) (n := 3) dL_law_956 rfl rfl rfl ?_
  refine J_iload_n (pc' := 958) (i := 3) (n := 0) dL_law_957 rfl rfl rfl ?_
  refine J_iconst (pc' := 959) (v := (2 : Int32)) dL_law_958 rfl (by decide) ?_
  refine J_iadd (pc' := 960) dL_law_959 rfl ?_
  refine J_sld (pc' := 961) dL_law_960 rfl hin.2.2.1 ?_
  refine J_callV (pc' := 964) (as := [.int (sv G (i + 1)), .int (sv G (i + 2))]) (rest := [.int r]) (b := 35) dL_law_961 rfl (⟨⟨(j_in 1193 (by decide +kernel) rfl), (j_in 1194 (by decide +kernel) rfl), (j_in 1195 (by decide +kernel) rfl), (j_in 112 (by decide +kernel) rfl)⟩, (j_in 1196 (by decide +kernel) rfl), ⟨by decide, by decide, by decide +kernel⟩⟩ : j_lkV RL 126 md_X10_touch 2) rfl 10 (by decide) rfl (m_o hm1) (m_n hm1 (Nat.le_of_ble_eq_true rfl)) (c_X10_touch hm1 e2) ⟨Nat.le_of_ble_eq_true rfl, Nat.le_of_ble_eq_true rfl⟩ (Nat.le_of_ble_eq_true rfl) ⟨by show j_N M + 0 + 0 ≤ 600000; omega, Nat.le_trans (show s + 0 + 0 ≤ 7000000 by omega) (by decide)⟩ (fun v M9 h9 => ?_)
  obtain ⟨rfl, rfl⟩ := h9
  refine J_icmp_eq (pc' := 967) (tgt := 1175) dL_law_964 rfl (by decide) (fun _ => ?_) (fun c9 => absurd rfl c9)
  exact k
set_option maxHeartbeats 4000000 in
theorem lw_counts {l : Launch} {G : j_G} {nm : String} {mcs : Nat × Nat} {Po : Option Value → j_M → Prop} {i : Int32} {s : Nat} (hin : lw_in G i) {M M1 M2 : j_M} {r : Int32} (e1 : f_X9_counts M (sv G (i + 1)) (sv G (i + 2)) (sv G (i + 3)) = some (r, M1)) (hm1 : sh_m M1.2.2) (e2 : f_X10_counts M1 (sv G (i + 1)) (sv G (i + 2)) (sv G (i + 3)) = some (r, M2)) (hs : sh_x M.2.2) (hm : sh_m M.2.2) (hi : sh_i M.2.2) (hc : j_N M ≤ 100 ∧ s ≤ 100000)
    (k : JJ l G (md_law nm) room_1 (j_N M, s) mcs Po 1175 [(3, .int i), (2, .ref 35), (1, .ref 0), (0, .ref 1000030)] [] M2) : JJ l G (md_law nm) room_1 (j_N M, s) mcs Po 969 [(3, .int i), (2, .ref 35), (1, .ref 0), (0, .ref 1000030)] [] M := by
  refine J_aload_n (pc' := 970) (i := 1) (n := 2) dL_law_969 rfl rfl rfl ?_
  refine J_aload_n (pc' := 971) (i := 0) (n := 3) dL_law_970 rfl rfl rfl ?_
  refine J_iload_n (pc' := 972) (i := 3) (n := 0) dL_law_971 rfl rfl rfl ?_
  refine J_iconst (pc' := 973) (v := (1 : Int32)) dL_law_972 rfl (by decide) ?_
  refine J_iadd (pc' := 974) dL_law_973 rfl ?_
  refine J_sld (pc' := 975) dL_law_974 rfl hin.2.1 ?_
  refine J_aload_n (pc' := 976) (i := 0) (n := 3) dL_law_975 rfl rfl rfl ?_
  refine J_iload_n (pc' := 977) (i := 3) (n := 0) dL_law_976 rfl rfl rfl ?_
  refine J_iconst (pc' := 978) (v := (2 : Int32)) dL_law_977 rfl (by decide) ?_
  refine J_iadd (pc' := 979) dL_law_978 rfl ?_
  refine J_sld (pc' := 980) dL_law_979 rfl hin.2.2.1 ?_
  refine J_aload_n (pc' := 981) (i := 0) (n := 3) dL_law_980 rfl rfl rfl ?_
  refine J_iload_n (pc' := 982) (i := 3) (n := 0) dL_law_981 rfl rfl rfl ?_
  refine J_iconst (pc' := 983) (v := (3 : Int32)) dL_law_982 rfl (by decide) ?_
  refine J_iadd (pc' := 984) dL_law_983 rfl ?_
  refine J_sld (pc' := 985) dL_law_984 rfl hin.2.2.2.1 ?_
  refine J_callV (pc' := 988) (as := [.int (sv G (i + 1)), .int (sv G (i + 2)), .int (sv G (i + 3))]) (rest := []) (b := 0) dL_law_985 rfl (⟨⟨(j_in 813 (by decide +kernel) rfl), (j_in 814 (by decide +kernel) rfl), (j_in 815 (by decide +kernel) rfl), (j_in 100 (by decide +kernel) rfl)⟩, (j_in 816 (by decide +kernel) rfl), ⟨by decide, by decide, by decide +kernel⟩⟩ : j_lkV RL 127 md_X9_counts 3) rfl 9 (by decide) rfl (x_o hs) (x_n hs (Nat.le_of_ble_eq_true rfl)) (c_X9_counts hs e1) ⟨Nat.le_of_ble_eq_true rfl, Nat.le_of_ble_eq_true rfl⟩ (Nat.le_of_ble_eq_true rfl) ⟨by show j_N M + 0 ≤ 600000; omega, Nat.le_trans (show s + 0 ≤ 7000000 by omega) (by decide)⟩ (fun v M9 h9 => ?_)
  obtain ⟨rfl, rfl⟩ := h9
  refine J_aload_n (pc' := 989) (i := 2) (n := 1) dL_law_988 rfl rfl rfl ?_
  refine J_aload_n (pc' := 990) (i := 0) (n := 3) dL_law_989 rfl rfl rfl ?_
  refine J_iload_n (pc' := 991) (i := 3) (n := 0) dL_law_990 rfl rfl rfl ?_
  refine J_iconst (pc' := 992) (v := (1 : Int32)) dL_law_991 rfl (by decide) ?_
  refine J_iadd (pc' := 993) dL_law_992 rfl ?_
  refine J_sld (pc' := 994) dL_law_993 rfl hin.2.1 ?_
  refine J_aload_n (pc' := 995) (i := 0) (n := 3) dL_law_994 rfl rfl rfl ?_
  refine J_iload_n (pc' := 996) (i := 3) (n := 0) dL_law_995 rfl rfl rfl ?_
  refine J_iconst (pc' := 997) (v := (2 : Int32)) dL_law_996 rfl (by decide) ?_
  refine J_iadd (pc' := 998) dL_law_997 rfl ?_
  refine J_sld (pc' := 999) dL_law_998 rfl hin.2.2.1 ?_
  refine J_aload_n (pc' := 1000) (i := 0) (n := 3) dL_law_999 rfl rfl rfl ?_
  refine J_iload_n (pc' := 1001) (i := 3) (n := 0) dL_law_1000 rfl rfl rfl ?_
  refine J_iconst (pc' := 1002) (v := (3 : Int32)) dL_law_1001 rfl (by decide) ?_
  refine J_iadd (pc' := 1003) dL_law_1002 rfl ?_
  refine J_sld (pc' := 1004) dL_law_1003 rfl hin.2.2.2.1 ?_
  refine J_callV (pc' := 1007) (as := [.int (sv G (i + 1)), .int (sv G (i + 2)), .int (sv G (i + 3))]) (rest := [.int r]) (b := 35) dL_law_1004 rfl (⟨⟨(j_in 1197 (by decide +kernel) rfl), (j_in 1198 (by decide +kernel) rfl), (j_in 1199 (by decide +kernel) rfl), (j_in 112 (by decide +kernel) rfl)⟩, (j_in 1200 (by decide +kernel) rfl), ⟨by decide, by decide, by decide +kernel⟩⟩ : j_lkV RL 130 md_X10_counts 3) rfl 10 (by decide) rfl (m_o hm1) (m_n hm1 (Nat.le_of_ble_eq_true rfl)) (c_X10_counts hm1 e2) ⟨Nat.le_of_ble_eq_true rfl, Nat.le_of_ble_eq_true rfl⟩ (Nat.le_of_ble_eq_true rfl) ⟨by show j_N M + 0 + 0 ≤ 600000; omega, Nat.le_trans (show s + 0 + 0 ≤ 7000000 by omega) (by decide)⟩ (fun v M9 h9 => ?_)
  obtain ⟨rfl, rfl⟩ := h9
  refine J_icmp_eq (pc' := 1010) (tgt := 1175) dL_law_1007 rfl (by decide) (fun _ => ?_) (fun c9 => absurd rfl c9)
  exact k
