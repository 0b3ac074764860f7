theorem lv_159 : sm_LV RL 159 yX11_write md_X11_write 0 := ⟨sm_w (List.mem_of_getElem? (i := 542) (by decide +kernel)) rfl, sm_w (List.mem_of_getElem? (i := 543) (by decide +kernel)) rfl, sm_w (List.mem_of_getElem? (i := 544) (by decide +kernel)) rfl, sm_w (List.mem_of_getElem? (i := 59) (by decide +kernel)) rfl, sm_w (List.mem_of_getElem? (i := 545) (by decide +kernel)) rfl, by decide, by decide +kernel⟩
theorem lv_162 : sm_LV RL 162 yX12_write md_X12_write 0 := ⟨sm_w (List.mem_of_getElem? (i := 1384) (by decide +kernel)) rfl, sm_w (List.mem_of_getElem? (i := 1385) (by decide +kernel)) rfl, sm_w (List.mem_of_getElem? (i := 1386) (by decide +kernel)) rfl, sm_w (List.mem_of_getElem? (i := 75) (by decide +kernel)) rfl, sm_w (List.mem_of_getElem? (i := 1387) (by decide +kernel)) rfl, by decide, by decide +kernel⟩
theorem lo_11 {L : Nat} {xs : Nat → Int32} {n0 nc ns : Nat} {M : sm_M} (hL9 : L ≤ 2048) (h4 : n0 + 4 ≤ L) (hnc : nc ≤ 599000) (hns : ns ≤ 6990000) {I : sm_M → Prop} (hp : lp_d (fun F M => f_X11_write F M) (fun F M => f_X12_write F M) I M) (k : ∀ M2, I M2 → lj_J L xs 1900 (lj_l0 n0) [] M2 (nc + 1) (ns + 6)) : lj_J L xs 702 (lj_l0 n0) [] M nc ns := by
  obtain ⟨F, G, v, M1, M2, h1, h2, hI⟩ := hp
  refine lj_aload_n (q := 703) dl_702 rfl rfl ?_
  refine lj_callV (q := 706) [] [] dl_703 rfl lv_159 lj_0 rfl rfl rfl (Nat.le_of_ble_eq_true rfl) (Nat.le_of_ble_eq_true rfl) (by omega) (by omega) (c_X11_write lj_x F M (v, M1) h1) ?_
  refine lj_aload_n (q := 707) dl_706 rfl rfl ?_
  refine lj_callV (q := 710) [.int v] [] dl_707 rfl lv_162 lj_80 rfl rfl rfl (Nat.le_of_ble_eq_true rfl) (Nat.le_of_ble_eq_true rfl) (by omega) (by omega) (c_X12_write lj_m G _ (v, M2) h2) ?_
  refine lj_icmp_eq (q := 713) (t := 1900) dl_710 rfl rfl (fun _ => ?_) (fun h => absurd rfl h)
  exact lj_wide (Nat.le_add_right _ _) (Nat.le_add_right _ _) (k M2 hI)
theorem lh_12 : lj_LH 163 yL_outputAt md_L_outputAt hh_L_outputAt 3 := ⟨sm_w (List.mem_of_getElem? (i := 871) (by decide +kernel)) rfl, sm_w (List.mem_of_getElem? (i := 872) (by decide +kernel)) rfl, sm_w (List.mem_of_getElem? (i := 58) (by decide +kernel)) rfl, sm_w (List.mem_of_getElem? (i := 873) (by decide +kernel)) rfl, by decide, by decide +kernel, by decide +kernel⟩
theorem lv_165 : sm_LV RL 165 yX12_outputAt md_X12_outputAt 1 := ⟨sm_w (List.mem_of_getElem? (i := 1388) (by decide +kernel)) rfl, sm_w (List.mem_of_getElem? (i := 1389) (by decide +kernel)) rfl, sm_w (List.mem_of_getElem? (i := 1390) (by decide +kernel)) rfl, sm_w (List.mem_of_getElem? (i := 75) (by decide +kernel)) rfl, sm_w (List.mem_of_getElem? (i := 1391) (by decide +kernel)) rfl, by decide, by decide +kernel⟩
theorem lo_12 {L : Nat} {xs : Nat → Int32} {n0 nc ns : Nat} {M : sm_M} (hL9 : L ≤ 2048) (h4 : n0 + 4 ≤ L) (hnc : nc ≤ 599000) (hns : ns ≤ 6990000) {I : sm_M → Prop} (hp : lp_r (fun F M => f_X11_outputAt F (xs (n0 + 1)) M) (fun F M => f_X12_outputAt F (xs (n0 + 1)) M) I M ∨ lp_x "java/lang/IndexOutOfBoundsException" 1 (fun F M => f_X11_outputAt F (xs (n0 + 1)) M) (fun F M => f_X12_outputAt F (xs (n0 + 1)) M) I M) (k : ∀ M2, I M2 → lj_J L xs 1900 (lj_l0 n0) [] M2 (nc + 1) (ns + 6)) : lj_J L xs 715 (lj_l0 n0) [] M nc ns := by
  rcases hp with ⟨F, G, v, M1, M2, h1, h2, h3, h5, hI⟩ | ⟨F, G, w, M1, M2, h1, h2, h3, hI⟩
  · skip
    refine lj_aload_n (q := 716) dl_715 rfl rfl ?_
    refine lj_aload_n (q := 717) dl_716 rfl rfl ?_
    refine lj_iload (q := 719) dl_717 rfl rfl ?_
    refine lj_iconst (q := 720) (v := 1) dl_719 rfl (by decide) ?_
    refine lj_iadd (q := 721) dl_720 rfl ?_
    refine lj_sld (q := 722) (t := 1) dl_721 rfl hL9 (by omega) rfl ?_
    refine lj_aload_n (q := 723) dl_722 rfl rfl ?_
    refine lj_callH (q := 726) [] [.ref 0, .int (xs (n0 + 1)), .ref 102] dl_723 rfl lh_12 rfl (Nat.le_of_ble_eq_true rfl) (Nat.le_of_ble_eq_true rfl) (by omega) (by omega) (hR_L_outputAt lj_x lj_102 (xs (n0 + 1)) (c_X11_outputAt lj_x F (xs (n0 + 1)) M (.inl (some (.int v)), M1) h1)) ?_
    refine lj_istore (q := 728) (lt := [some (.ref 103), some (.ref 0), some (.ref 80), some (.ref 102), some (.int (Int32.ofNat n0)), some (.int 0), none, none]) dl_726 rfl (Nat.le_of_ble_eq_true rfl) rfl rfl ?_
    refine lj_aload_n (q := 729) dl_728 rfl rfl ?_
    refine lj_aload_n (q := 730) dl_729 rfl rfl ?_
    refine lj_iload (q := 732) dl_730 rfl rfl ?_
    refine lj_iconst (q := 733) (v := 1) dl_732 rfl (by decide) ?_
    refine lj_iadd (q := 734) dl_733 rfl ?_
    refine lj_sld (q := 735) (t := 1) dl_734 rfl hL9 (by omega) rfl ?_
    refine lj_callV (q := 738) [] [.int (xs (n0 + 1))] dl_735 rfl lv_165 lj_80 rfl rfl rfl (Nat.le_of_ble_eq_true rfl) (Nat.le_of_ble_eq_true rfl) (by omega) (by omega) (c_X12_outputAt lj_m G (xs (n0 + 1)) _ (v, M2) h2) ?_
    refine lj_istore (q := 740) (lt := [some (.ref 103), some (.ref 0), some (.ref 80), some (.ref 102), some (.int (Int32.ofNat n0)), some (.int 0), some (.int v), none]) dl_738 rfl (Nat.le_of_ble_eq_true rfl) rfl rfl ?_
    refine lj_aload_n (q := 741) dl_740 rfl rfl ?_
    refine lj_callV (q := 744) [] [] dl_741 rfl lv_118 lj_80 rfl rfl rfl (Nat.le_of_ble_eq_true rfl) (Nat.le_of_ble_eq_true rfl) (by omega) (by omega) (c_X12_thrown lj_m 0 M2 _ (th_thrown M2)) ?_
    refine lj_iload (q := 746) dl_744 rfl rfl ?_
    refine lj_icmp_eq (q := 749) (t := 751) dl_746 rfl rfl (fun _ => ?_) (fun h => absurd h3 h)
    refine lj_iload (q := 753) dl_751 rfl rfl ?_
    refine lj_if_ne (q := 756) (t := 768) dl_753 rfl rfl (fun h => absurd rfl h) (fun _ => ?_)
    refine lj_aload_n (q := 757) dl_756 rfl rfl ?_
    refine lj_iconst (q := 758) (v := 0) dl_757 rfl (by decide) ?_
    refine lj_laload (q := 759) dl_758 rfl lj_102 (sm_ib_of rfl) ?_
    refine lj_iload (q := 761) dl_759 rfl rfl ?_
    refine lj_i2l (q := 762) dl_761 rfl ?_
    refine lj_lcmp (q := 763) dl_762 rfl ?_
    refine lj_if_eq (q := 766) (t := 768) dl_763 rfl rfl (fun _ => ?_) (fun h => absurd (lj_cmp1 h5) h)
    refine lj_goto (t := 1900) dl_768 rfl ?_
    refine lj_fg [5, 6] (lt := lj_l0 n0) rfl ?_
    exact k M2 hI
  · skip
    refine lj_aload_n (q := 716) dl_715 rfl rfl ?_
    refine lj_aload_n (q := 717) dl_716 rfl rfl ?_
    refine lj_iload (q := 719) dl_717 rfl rfl ?_
    refine lj_iconst (q := 720) (v := 1) dl_719 rfl (by decide) ?_
    refine lj_iadd (q := 721) dl_720 rfl ?_
    refine lj_sld (q := 722) (t := 1) dl_721 rfl hL9 (by omega) rfl ?_
    refine lj_aload_n (q := 723) dl_722 rfl rfl ?_
    refine lj_callH (q := 726) [] [.ref 0, .int (xs (n0 + 1)), .ref 102] dl_723 rfl lh_12 rfl (Nat.le_of_ble_eq_true rfl) (Nat.le_of_ble_eq_true rfl) (by omega) (by omega) (hX1_L_outputAt lj_x lj_102 (xs (n0 + 1)) (c_X11_outputAt lj_x F (xs (n0 + 1)) M (.inr "java/lang/IndexOutOfBoundsException", M1) h1)) ?_
    refine lj_istore (q := 728) (lt := [some (.ref 103), some (.ref 0), some (.ref 80), some (.ref 102), some (.int (Int32.ofNat n0)), some (.int 1), none, none]) dl_726 rfl (Nat.le_of_ble_eq_true rfl) rfl rfl ?_
    refine lj_aload_n (q := 729) dl_728 rfl rfl ?_
    refine lj_aload_n (q := 730) dl_729 rfl rfl ?_
    refine lj_iload (q := 732) dl_730 rfl rfl ?_
    refine lj_iconst (q := 733) (v := 1) dl_732 rfl (by decide) ?_
    refine lj_iadd (q := 734) dl_733 rfl ?_
    refine lj_sld (q := 735) (t := 1) dl_734 rfl hL9 (by omega) rfl ?_
    refine lj_callV (q := 738) [] [.int (xs (n0 + 1))] dl_735 rfl lv_165 lj_80 rfl rfl rfl (Nat.le_of_ble_eq_true rfl) (Nat.le_of_ble_eq_true rfl) (by omega) (by omega) (c_X12_outputAt lj_m G (xs (n0 + 1)) _ (w, M2) h2) ?_
    refine lj_istore (q := 740) (lt := [some (.ref 103), some (.ref 0), some (.ref 80), some (.ref 102), some (.int (Int32.ofNat n0)), some (.int 1), some (.int w), none]) dl_738 rfl (Nat.le_of_ble_eq_true rfl) rfl rfl ?_
    refine lj_aload_n (q := 741) dl_740 rfl rfl ?_
    refine lj_callV (q := 744) [] [] dl_741 rfl lv_118 lj_80 rfl rfl rfl (Nat.le_of_ble_eq_true rfl) (Nat.le_of_ble_eq_true rfl) (by omega) (by omega) (c_X12_thrown lj_m 0 M2 _ (th_thrown M2)) ?_
    refine lj_iload (q := 746) dl_744 rfl rfl ?_
    refine lj_icmp_eq (q := 749) (t := 751) dl_746 rfl rfl (fun _ => ?_) (fun h => absurd h3 h)
    refine lj_iload (q := 753) dl_751 rfl rfl ?_
    refine lj_if_ne (q := 756) (t := 768) dl_753 rfl rfl (fun _ => ?_) (fun h => absurd h (by decide))
    refine lj_goto (t := 1900) dl_768 rfl ?_
    refine lj_fg [5, 6] (lt := lj_l0 n0) rfl ?_
    exact k M2 hI
theorem lh_13 : lj_LH 166 yL_shownAt md_L_shownAt hh_L_shownAt 3 := ⟨sm_w (List.mem_of_getElem? (i := 878) (by decide +kernel)) rfl, sm_w (List.mem_of_getElem? (i := 879) (by decide +kernel)) rfl, sm_w (List.mem_of_getElem? (i := 58) (by decide +kernel)) rfl, sm_w (List.mem_of_getElem? (i := 880) (by decide +kernel)) rfl, by decide, by decide +kernel, by decide +kernel⟩
theorem lv_168 : sm_LV RL 168 yX12_shownAt md_X12_shownAt 1 := ⟨sm_w (List.mem_of_getElem? (i := 1392) (by decide +kernel)) rfl, sm_w (List.mem_of_getElem? (i := 1393) (by decide +kernel)) rfl, sm_w (List.mem_of_getElem? (i := 1394) (by decide +kernel)) rfl, sm_w (List.mem_of_getElem? (i := 75) (by decide +kernel)) rfl, sm_w (List.mem_of_getElem? (i := 1395) (by decide +kernel)) rfl, by decide, by decide +kernel⟩
theorem lo_13 {L : Nat} {xs : Nat → Int32} {n0 nc ns : Nat} {M : sm_M} (hL9 : L ≤ 2048) (h4 : n0 + 4 ≤ L) (hnc : nc ≤ 599000) (hns : ns ≤ 6990000) {I : sm_M → Prop} (hp : lp_r (fun F M => f_X11_shownAt F (xs (n0 + 1)) M) (fun F M => f_X12_shownAt F (xs (n0 + 1)) M) I M ∨ lp_x "java/lang/IndexOutOfBoundsException" 1 (fun F M => f_X11_shownAt F (xs (n0 + 1)) M) (fun F M => f_X12_shownAt F (xs (n0 + 1)) M) I M) (k : ∀ M2, I M2 → lj_J L xs 1900 (lj_l0 n0) [] M2 (nc + 1) (ns + 6)) : lj_J L xs 771 (lj_l0 n0) [] M nc ns := by
  rcases hp with ⟨F, G, v, M1, M2, h1, h2, h3, h5, hI⟩ | ⟨F, G, w, M1, M2, h1, h2, h3, hI⟩
  · skip
    refine lj_aload_n (q := 772) dl_771 rfl rfl ?_
    refine lj_aload_n (q := 773) dl_772 rfl rfl ?_
    refine lj_iload (q := 775) dl_773 rfl rfl ?_
    refine lj_iconst (q := 776) (v := 1) dl_775 rfl (by decide) ?_
    refine lj_iadd (q := 777) dl_776 rfl ?_
    refine lj_sld (q := 778) (t := 1) dl_777 rfl hL9 (by omega) rfl ?_
    refine lj_aload_n (q := 779) dl_778 rfl rfl ?_
    refine lj_callH (q := 782) [] [.ref 0, .int (xs (n0 + 1)), .ref 102] dl_779 rfl lh_13 rfl (Nat.le_of_ble_eq_true rfl) (Nat.le_of_ble_eq_true rfl) (by omega) (by omega) (hR_L_shownAt lj_x lj_102 (xs (n0 + 1)) (c_X11_shownAt lj_x F (xs (n0 + 1)) M (.inl (some (.int v)), M1) h1)) ?_
    refine lj_istore (q := 784) (lt := [some (.ref 103), some (.ref 0), some (.ref 80), some (.ref 102), some (.int (Int32.ofNat n0)), some (.int 0), none, none]) dl_782 rfl (Nat.le_of_ble_eq_true rfl) rfl rfl ?_
    refine lj_aload_n (q := 785) dl_784 rfl rfl ?_
    refine lj_aload_n (q := 786) dl_785 rfl rfl ?_
    refine lj_iload (q := 788) dl_786 rfl rfl ?_
    refine lj_iconst (q := 789) (v := 1) dl_788 rfl (by decide) ?_
    refine lj_iadd (q := 790) dl_789 rfl ?_
    refine lj_sld (q := 791) (t := 1) dl_790 rfl hL9 (by omega) rfl ?_
    refine lj_callV (q := 794) [] [.int (xs (n0 + 1))] dl_791 rfl lv_168 lj_80 rfl rfl rfl (Nat.le_of_ble_eq_true rfl) (Nat.le_of_ble_eq_true rfl) (by omega) (by omega) (c_X12_shownAt lj_m G (xs (n0 + 1)) _ (v, M2) h2) ?_
    refine lj_istore (q := 796) (lt := [some (.ref 103), some (.ref 0), some (.ref 80), some (.ref 102), some (.int (Int32.ofNat n0)), some (.int 0), some (.int v), none]) dl_794 rfl (Nat.le_of_ble_eq_true rfl) rfl rfl ?_
    refine lj_aload_n (q := 797) dl_796 rfl rfl ?_
    refine lj_callV (q := 800) [] [] dl_797 rfl lv_118 lj_80 rfl rfl rfl (Nat.le_of_ble_eq_true rfl) (Nat.le_of_ble_eq_true rfl) (by omega) (by omega) (c_X12_thrown lj_m 0 M2 _ (th_thrown M2)) ?_
    refine lj_iload (q := 802) dl_800 rfl rfl ?_
    refine lj_icmp_eq (q := 805) (t := 807) dl_802 rfl rfl (fun _ => ?_) (fun h => absurd h3 h)
    refine lj_iload (q := 809) dl_807 rfl rfl ?_
    refine lj_if_ne (q := 812) (t := 824) dl_809 rfl rfl (fun h => absurd rfl h) (fun _ => ?_)
    refine lj_aload_n (q := 813) dl_812 rfl rfl ?_
    refine lj_iconst (q := 814) (v := 0) dl_813 rfl (by decide) ?_
    refine lj_laload (q := 815) dl_814 rfl lj_102 (sm_ib_of rfl) ?_
    refine lj_iload (q := 817) dl_815 rfl rfl ?_
    refine lj_i2l (q := 818) dl_817 rfl ?_
    refine lj_lcmp (q := 819) dl_818 rfl ?_
    refine lj_if_eq (q := 822) (t := 824) dl_819 rfl rfl (fun _ => ?_) (fun h => absurd (lj_cmp1 h5) h)
    refine lj_goto (t := 1900) dl_824 rfl ?_
    refine lj_fg [5, 6] (lt := lj_l0 n0) rfl ?_
    exact k M2 hI
  · skip
    refine lj_aload_n (q := 772) dl_771 rfl rfl ?_
    refine lj_aload_n (q := 773) dl_772 rfl rfl ?_
    refine lj_iload (q := 775) dl_773 rfl rfl ?_
    refine lj_iconst (q := 776) (v := 1) dl_775 rfl (by decide) ?_
    refine lj_iadd (q := 777) dl_776 rfl ?_
    refine lj_sld (q := 778) (t := 1) dl_777 rfl hL9 (by omega) rfl ?_
    refine lj_aload_n (q := 779) dl_778 rfl rfl ?_
    refine lj_callH (q := 782) [] [.ref 0, .int (xs (n0 + 1)), .ref 102] dl_779 rfl lh_13 rfl (Nat.le_of_ble_eq_true rfl) (Nat.le_of_ble_eq_true rfl) (by omega) (by omega) (hX1_L_shownAt lj_x lj_102 (xs (n0 + 1)) (c_X11_shownAt lj_x F (xs (n0 + 1)) M (.inr "java/lang/IndexOutOfBoundsException", M1) h1)) ?_
    refine lj_istore (q := 784) (lt := [some (.ref 103), some (.ref 0), some (.ref 80), some (.ref 102), some (.int (Int32.ofNat n0)), some (.int 1), none, none]) dl_782 rfl (Nat.le_of_ble_eq_true rfl) rfl rfl ?_
    refine lj_aload_n (q := 785) dl_784 rfl rfl ?_
    refine lj_aload_n (q := 786) dl_785 rfl rfl ?_
    refine lj_iload (q := 788) dl_786 rfl rfl ?_
    refine lj_iconst (q := 789) (v := 1) dl_788 rfl (by decide) ?_
    refine lj_iadd (q := 790) dl_789 rfl ?_
    refine lj_sld (q := 791) (t := 1) dl_790 rfl hL9 (by omega) rfl ?_
    refine lj_callV (q := 794) [] [.int (xs (n0 + 1))] dl_791 rfl lv_168 lj_80 rfl rfl rfl (Nat.le_of_ble_eq_true rfl) (Nat.le_of_ble_eq_true rfl) (by omega) (by omega) (c_X12_shownAt lj_m G (xs (n0 + 1)) _ (w, M2) h2) ?_
    refine lj_istore (q := 796) (lt := [some (.ref 103), some (.ref 0), some (.ref 80), some (.ref 102), some (.int (Int32.ofNat n0)), some (.int 1), some (.int w), none]) dl_794 rfl (Nat.le_of_ble_eq_true rfl) rfl rfl ?_
    refine lj_aload_n (q := 797) dl_796 rfl rfl ?_
    refine lj_callV (q := 800) [] [] dl_797 rfl lv_118 lj_80 rfl rfl rfl (Nat.le_of_ble_eq_true rfl) (Nat.le_of_ble_eq_true rfl) (by omega) (by omega) (c_X12_thrown lj_m 0 M2 _ (th_thrown M2)) ?_
    refine lj_iload (q := 802) dl_800 rfl rfl ?_
    refine lj_icmp_eq (q := 805) (t := 807) dl_802 rfl rfl (fun _ => ?_) (fun h => absurd h3 h)
    refine lj_iload (q := 809) dl_807 rfl rfl ?_
    refine lj_if_ne (q := 812) (t := 824) dl_809 rfl rfl (fun _ => ?_) (fun h => absurd h (by decide))
    refine lj_goto (t := 1900) dl_824 rfl ?_
    refine lj_fg [5, 6] (lt := lj_l0 n0) rfl ?_
    exact k M2 hI
theorem lh_14 : lj_LH 169 yL_occurrences md_L_occurrences hh_L_occurrences 3 := ⟨sm_w (List.mem_of_getElem? (i := 886) (by decide +kernel)) rfl, sm_w (List.mem_of_getElem? (i := 887) (by decide +kernel)) rfl, sm_w (List.mem_of_getElem? (i := 58) (by decide +kernel)) rfl, sm_w (List.mem_of_getElem? (i := 888) (by decide +kernel)) rfl, by decide, by decide +kernel, by decide +kernel⟩
theorem lv_171 : sm_LV RL 171 yX12_occurrences md_X12_occurrences 1 := ⟨sm_w (List.mem_of_getElem? (i := 1408) (by decide +kernel)) rfl, sm_w (List.mem_of_getElem? (i := 1409) (by decide +kernel)) rfl, sm_w (List.mem_of_getElem? (i := 1410) (by decide +kernel)) rfl, sm_w (List.mem_of_getElem? (i := 75) (by decide +kernel)) rfl, sm_w (List.mem_of_getElem? (i := 1411) (by decide +kernel)) rfl, by decide, by decide +kernel⟩
theorem lo_14 {L : Nat} {xs : Nat → Int32} {n0 nc ns : Nat} {M : sm_M} (hL9 : L ≤ 2048) (h4 : n0 + 4 ≤ L) (hnc : nc ≤ 599000) (hns : ns ≤ 6990000) {I : sm_M → Prop} (hp : lp_r (fun F M => f_X11_occurrences F (xs (n0 + 1)) M) (fun F M => f_X12_occurrences F (xs (n0 + 1)) M) I M ∨ lp_x "java/lang/IndexOutOfBoundsException" 1 (fun F M => f_X11_occurrences F (xs (n0 + 1)) M) (fun F M => f_X12_occurrences F (xs (n0 + 1)) M) I M) (k : ∀ M2, I M2 → lj_J L xs 1900 (lj_l0 n0) [] M2 (nc + 1) (ns + 6)) : lj_J L xs 827 (lj_l0 n0) [] M nc ns := by
  rcases hp with ⟨F, G, v, M1, M2, h1, h2, h3, h5, hI⟩ | ⟨F, G, w, M1, M2, h1, h2, h3, hI⟩
  · skip
    refine lj_aload_n (q := 828) dl_827 rfl rfl ?_
    refine lj_aload_n (q := 829) dl_828 rfl rfl ?_
    refine lj_iload (q := 831) dl_829 rfl rfl ?_
    refine lj_iconst (q := 832) (v := 1) dl_831 rfl (by decide) ?_
    refine lj_iadd (q := 833) dl_832 rfl ?_
    refine lj_sld (q := 834) (t := 1) dl_833 rfl hL9 (by omega) rfl ?_
    refine lj_aload_n (q := 835) dl_834 rfl rfl ?_
    refine lj_callH (q := 838) [] [.ref 0, .int (xs (n0 + 1)), .ref 102] dl_835 rfl lh_14 rfl (Nat.le_of_ble_eq_true rfl) (Nat.le_of_ble_eq_true rfl) (by omega) (by omega) (hR_L_occurrences lj_x lj_102 (xs (n0 + 1)) (c_X11_occurrences lj_x F (xs (n0 + 1)) M (.inl (some (.int v)), M1) h1)) ?_
    refine lj_istore (q := 840) (lt := [some (.ref 103), some (.ref 0), some (.ref 80), some (.ref 102), some (.int (Int32.ofNat n0)), some (.int 0), none, none]) dl_838 rfl (Nat.le_of_ble_eq_true rfl) rfl rfl ?_
    refine lj_aload_n (q := 841) dl_840 rfl rfl ?_
    refine lj_aload_n (q := 842) dl_841 rfl rfl ?_
    refine lj_iload (q := 844) dl_842 rfl rfl ?_
    refine lj_iconst (q := 845) (v := 1) dl_844 rfl (by decide) ?_
    refine lj_iadd (q := 846) dl_845 rfl ?_
    refine lj_sld (q := 847) (t := 1) dl_846 rfl hL9 (by omega) rfl ?_
    refine lj_callV (q := 850) [] [.int (xs (n0 + 1))] dl_847 rfl lv_171 lj_80 rfl rfl rfl (Nat.le_of_ble_eq_true rfl) (Nat.le_of_ble_eq_true rfl) (by omega) (by omega) (c_X12_occurrences lj_m G (xs (n0 + 1)) _ (v, M2) h2) ?_
    refine lj_istore (q := 852) (lt := [some (.ref 103), some (.ref 0), some (.ref 80), some (.ref 102), some (.int (Int32.ofNat n0)), some (.int 0), some (.int v), none]) dl_850 rfl (Nat.le_of_ble_eq_true rfl) rfl rfl ?_
    refine lj_aload_n (q := 853) dl_852 rfl rfl ?_
    refine lj_callV (q := 856) [] [] dl_853 rfl lv_118 lj_80 rfl rfl rfl (Nat.le_of_ble_eq_true rfl) (Nat.le_of_ble_eq_true rfl) (by omega) (by omega) (c_X12_thrown lj_m 0 M2 _ (th_thrown M2)) ?_
    refine lj_iload (q := 858) dl_856 rfl rfl ?_
    refine lj_icmp_eq (q := 861) (t := 863) dl_858 rfl rfl (fun _ => ?_) (fun h => absurd h3 h)
    refine lj_iload (q := 865) dl_863 rfl rfl ?_
    refine lj_if_ne (q := 868) (t := 880) dl_865 rfl rfl (fun h => absurd rfl h) (fun _ => ?_)
    refine lj_aload_n (q := 869) dl_868 rfl rfl ?_
    refine lj_iconst (q := 870) (v := 0) dl_869 rfl (by decide) ?_
    refine lj_laload (q := 871) dl_870 rfl lj_102 (sm_ib_of rfl) ?_
    refine lj_iload (q := 873) dl_871 rfl rfl ?_
    refine lj_i2l (q := 874) dl_873 rfl ?_
    refine lj_lcmp (q := 875) dl_874 rfl ?_
    refine lj_if_eq (q := 878) (t := 880) dl_875 rfl rfl (fun _ => ?_) (fun h => absurd (lj_cmp1 h5) h)
    refine lj_goto (t := 1900) dl_880 rfl ?_
    refine lj_fg [5, 6] (lt := lj_l0 n0) rfl ?_
    exact k M2 hI
  · skip
    refine lj_aload_n (q := 828) dl_827 rfl rfl ?_
    refine lj_aload_n (q := 829) dl_828 rfl rfl ?_
    refine lj_iload (q := 831) dl_829 rfl rfl ?_
    refine lj_iconst (q := 832) (v := 1) dl_831 rfl (by decide) ?_
    refine lj_iadd (q := 833) dl_832 rfl ?_
    refine lj_sld (q := 834) (t := 1) dl_833 rfl hL9 (by omega) rfl ?_
    refine lj_aload_n (q := 835) dl_834 rfl rfl ?_
    refine lj_callH (q := 838) [] [.ref 0, .int (xs (n0 + 1)), .ref 102] dl_835 rfl lh_14 rfl (Nat.le_of_ble_eq_true rfl) (Nat.le_of_ble_eq_true rfl) (by omega) (by omega) (hX1_L_occurrences lj_x lj_102 (xs (n0 + 1)) (c_X11_occurrences lj_x F (xs (n0 + 1)) M (.inr "java/lang/IndexOutOfBoundsException", M1) h1)) ?_
    refine lj_istore (q := 840) (lt := [some (.ref 103), some (.ref 0), some (.ref 80), some (.ref 102), some (.int (Int32.ofNat n0)), some (.int 1), none, none]) dl_838 rfl (Nat.le_of_ble_eq_true rfl) rfl rfl ?_
    refine lj_aload_n (q := 841) dl_840 rfl rfl ?_
    refine lj_aload_n (q := 842) dl_841 rfl rfl ?_
    refine lj_iload (q := 844) dl_842 rfl rfl ?_
    refine lj_iconst (q := 845) (v := 1) dl_844 rfl (by decide) ?_
    refine lj_iadd (q := 846) dl_845 rfl ?_
    refine lj_sld (q := 847) (t := 1) dl_846 rfl hL9 (by omega) rfl ?_
    refine lj_callV (q := 850) [] [.int (xs (n0 + 1))] dl_847 rfl lv_171 lj_80 rfl rfl rfl (Nat.le_of_ble_eq_true rfl) (Nat.le_of_ble_eq_true rfl) (by omega) (by omega) (c_X12_occurrences lj_m G (xs (n0 + 1)) _ (w, M2) h2) ?_
    refine lj_istore (q := 852) (lt := [some (.ref 103), some (.ref 0), some (.ref 80), some (.ref 102), some (.int (Int32.ofNat n0)), some (.int 1), some (.int w), none]) dl_850 rfl (Nat.le_of_ble_eq_true rfl) rfl rfl ?_
    refine lj_aload_n (q := 853) dl_852 rfl rfl ?_
    refine lj_callV (q := 856) [] [] dl_853 rfl lv_118 lj_80 rfl rfl rfl (Nat.le_of_ble_eq_true rfl) (Nat.le_of_ble_eq_true rfl) (by omega) (by omega) (c_X12_thrown lj_m 0 M2 _ (th_thrown M2)) ?_
    refine lj_iload (q := 858) dl_856 rfl rfl ?_
    refine lj_icmp_eq (q := 861) (t := 863) dl_858 rfl rfl (fun _ => ?_) (fun h => absurd h3 h)
    refine lj_iload (q := 865) dl_863 rfl rfl ?_
    refine lj_if_ne (q := 868) (t := 880) dl_865 rfl rfl (fun _ => ?_) (fun h => absurd h (by decide))
    refine lj_goto (t := 1900) dl_880 rfl ?_
    refine lj_fg [5, 6] (lt := lj_l0 n0) rfl ?_
    exact k M2 hI
theorem lh_15 : lj_LH 172 yL_locate md_L_locate hh_L_locate 3 := ⟨sm_w (List.mem_of_getElem? (i := 893) (by decide +kernel)) rfl, sm_w (List.mem_of_getElem? (i := 894) (by decide +kernel)) rfl, sm_w (List.mem_of_getElem? (i := 58) (by decide +kernel)) rfl, sm_w (List.mem_of_getElem? (i := 895) (by decide +kernel)) rfl, by decide, by decide +kernel, by decide +kernel⟩
theorem lv_174 : sm_LV RL 174 yX12_locate md_X12_locate 1 := ⟨sm_w (List.mem_of_getElem? (i := 1416) (by decide +kernel)) rfl, sm_w (List.mem_of_getElem? (i := 1417) (by decide +kernel)) rfl, sm_w (List.mem_of_getElem? (i := 1418) (by decide +kernel)) rfl, sm_w (List.mem_of_getElem? (i := 75) (by decide +kernel)) rfl, sm_w (List.mem_of_getElem? (i := 1419) (by decide +kernel)) rfl, by decide, by decide +kernel⟩
theorem lo_15 {L : Nat} {xs : Nat → Int32} {n0 nc ns : Nat} {M : sm_M} (hL9 : L ≤ 2048) (h4 : n0 + 4 ≤ L) (hnc : nc ≤ 599000) (hns : ns ≤ 6990000) {I : sm_M → Prop} (hp : lp_r (fun F M => f_X11_locate F (xs (n0 + 1)) M) (fun F M => f_X12_locate F (xs (n0 + 1)) M) I M ∨ lp_x "java/lang/IndexOutOfBoundsException" 1 (fun F M => f_X11_locate F (xs (n0 + 1)) M) (fun F M => f_X12_locate F (xs (n0 + 1)) M) I M ∨ lp_x "java/util/NoSuchElementException" 2 (fun F M => f_X11_locate F (xs (n0 + 1)) M) (fun F M => f_X12_locate F (xs (n0 + 1)) M) I M) (k : ∀ M2, I M2 → lj_J L xs 1900 (lj_l0 n0) [] M2 (nc + 1) (ns + 6)) : lj_J L xs 883 (lj_l0 n0) [] M nc ns := by
  rcases hp with ⟨F, G, v, M1, M2, h1, h2, h3, h5, hI⟩ | ⟨F, G, w, M1, M2, h1, h2, h3, hI⟩ | ⟨F, G, w, M1, M2, h1, h2, h3, hI⟩
  · skip
    refine lj_aload_n (q := 884) dl_883 rfl rfl ?_
    refine lj_aload_n (q := 885) dl_884 rfl rfl ?_
    refine lj_iload (q := 887) dl_885 rfl rfl ?_
    refine lj_iconst (q := 888) (v := 1) dl_887 rfl (by decide) ?_
    refine lj_iadd (q := 889) dl_888 rfl ?_
    refine lj_sld (q := 890) (t := 1) dl_889 rfl hL9 (by omega) rfl ?_
    refine lj_aload_n (q := 891) dl_890 rfl rfl ?_
    refine lj_callH (q := 894) [] [.ref 0, .int (xs (n0 + 1)), .ref 102] dl_891 rfl lh_15 rfl (Nat.le_of_ble_eq_true rfl) (Nat.le_of_ble_eq_true rfl) (by omega) (by omega) (hR_L_locate lj_x lj_102 (xs (n0 + 1)) (c_X11_locate lj_x F (xs (n0 + 1)) M (.inl (some (.int v)), M1) h1)) ?_
    refine lj_istore (q := 896) (lt := [some (.ref 103), some (.ref 0), some (.ref 80), some (.ref 102), some (.int (Int32.ofNat n0)), some (.int 0), none, none]) dl_894 rfl (Nat.le_of_ble_eq_true rfl) rfl rfl ?_
    refine lj_aload_n (q := 897) dl_896 rfl rfl ?_
    refine lj_aload_n (q := 898) dl_897 rfl rfl ?_
    refine lj_iload (q := 900) dl_898 rfl rfl ?_
    refine lj_iconst (q := 901) (v := 1) dl_900 rfl (by decide) ?_
    refine lj_iadd (q := 902) dl_901 rfl ?_
    refine lj_sld (q := 903) (t := 1) dl_902 rfl hL9 (by omega) rfl ?_
    refine lj_callV (q := 906) [] [.int (xs (n0 + 1))] dl_903 rfl lv_174 lj_80 rfl rfl rfl (Nat.le_of_ble_eq_true rfl) (Nat.le_of_ble_eq_true rfl) (by omega) (by omega) (c_X12_locate lj_m G (xs (n0 + 1)) _ (v, M2) h2) ?_
    refine lj_istore (q := 908) (lt := [some (.ref 103), some (.ref 0), some (.ref 80), some (.ref 102), some (.int (Int32.ofNat n0)), some (.int 0), some (.int v), none]) dl_906 rfl (Nat.le_of_ble_eq_true rfl) rfl rfl ?_
    refine lj_aload_n (q := 909) dl_908 rfl rfl ?_
    refine lj_callV (q := 912) [] [] dl_909 rfl lv_118 lj_80 rfl rfl rfl (Nat.le_of_ble_eq_true rfl) (Nat.le_of_ble_eq_true rfl) (by omega) (by omega) (c_X12_thrown lj_m 0 M2 _ (th_thrown M2)) ?_
    refine lj_iload (q := 914) dl_912 rfl rfl ?_
    refine lj_icmp_eq (q := 917) (t := 919) dl_914 rfl rfl (fun _ => ?_) (fun h => absurd h3 h)
    refine lj_iload (q := 921) dl_919 rfl rfl ?_
    refine lj_if_ne (q := 924) (t := 936) dl_921 rfl rfl (fun h => absurd rfl h) (fun _ => ?_)
    refine lj_aload_n (q := 925) dl_924 rfl rfl ?_
    refine lj_iconst (q := 926) (v := 0) dl_925 rfl (by decide) ?_
    refine lj_laload (q := 927) dl_926 rfl lj_102 (sm_ib_of rfl) ?_
    refine lj_iload (q := 929) dl_927 rfl rfl ?_
    refine lj_i2l (q := 930) dl_929 rfl ?_
    refine lj_lcmp (q := 931) dl_930 rfl ?_
    refine lj_if_eq (q := 934) (t := 936) dl_931 rfl rfl (fun _ => ?_) (fun h => absurd (lj_cmp1 h5) h)
    refine lj_goto (t := 1900) dl_936 rfl ?_
    refine lj_fg [5, 6] (lt := lj_l0 n0) rfl ?_
    exact k M2 hI
  · skip
    refine lj_aload_n (q := 884) dl_883 rfl rfl ?_
    refine lj_aload_n (q := 885) dl_884 rfl rfl ?_
    refine lj_iload (q := 887) dl_885 rfl rfl ?_
    refine lj_iconst (q := 888) (v := 1) dl_887 rfl (by decide) ?_
    refine lj_iadd (q := 889) dl_888 rfl ?_
    refine lj_sld (q := 890) (t := 1) dl_889 rfl hL9 (by omega) rfl ?_
    refine lj_aload_n (q := 891) dl_890 rfl rfl ?_
    refine lj_callH (q := 894) [] [.ref 0, .int (xs (n0 + 1)), .ref 102] dl_891 rfl lh_15 rfl (Nat.le_of_ble_eq_true rfl) (Nat.le_of_ble_eq_true rfl) (by omega) (by omega) (hX1_L_locate lj_x lj_102 (xs (n0 + 1)) (c_X11_locate lj_x F (xs (n0 + 1)) M (.inr "java/lang/IndexOutOfBoundsException", M1) h1)) ?_
    refine lj_istore (q := 896) (lt := [some (.ref 103), some (.ref 0), some (.ref 80), some (.ref 102), some (.int (Int32.ofNat n0)), some (.int 1), none, none]) dl_894 rfl (Nat.le_of_ble_eq_true rfl) rfl rfl ?_
    refine lj_aload_n (q := 897) dl_896 rfl rfl ?_
    refine lj_aload_n (q := 898) dl_897 rfl rfl ?_
    refine lj_iload (q := 900) dl_898 rfl rfl ?_
    refine lj_iconst (q := 901) (v := 1) dl_900 rfl (by decide) ?_
    refine lj_iadd (q := 902) dl_901 rfl ?_
    refine lj_sld (q := 903) (t := 1) dl_902 rfl hL9 (by omega) rfl ?_
    refine lj_callV (q := 906) [] [.int (xs (n0 + 1))] dl_903 rfl lv_174 lj_80 rfl rfl rfl (Nat.le_of_ble_eq_true rfl) (Nat.le_of_ble_eq_true rfl) (by omega) (by omega) (c_X12_locate lj_m G (xs (n0 + 1)) _ (w, M2) h2) ?_
    refine lj_istore (q := 908) (lt := [some (.ref 103), some (.ref 0), some (.ref 80), some (.ref 102), some (.int (Int32.ofNat n0)), some (.int 1), some (.int w), none]) dl_906 rfl (Nat.le_of_ble_eq_true rfl) rfl rfl ?_
    refine lj_aload_n (q := 909) dl_908 rfl rfl ?_
    refine lj_callV (q := 912) [] [] dl_909 rfl lv_118 lj_80 rfl rfl rfl (Nat.le_of_ble_eq_true rfl) (Nat.le_of_ble_eq_true rfl) (by omega) (by omega) (c_X12_thrown lj_m 0 M2 _ (th_thrown M2)) ?_
    refine lj_iload (q := 914) dl_912 rfl rfl ?_
    refine lj_icmp_eq (q := 917) (t := 919) dl_914 rfl rfl (fun _ => ?_) (fun h => absurd h3 h)
    refine lj_iload (q := 921) dl_919 rfl rfl ?_
    refine lj_if_ne (q := 924) (t := 936) dl_921 rfl rfl (fun _ => ?_) (fun h => absurd h (by decide))
    refine lj_goto (t := 1900) dl_936 rfl ?_
    refine lj_fg [5, 6] (lt := lj_l0 n0) rfl ?_
    exact k M2 hI
  · skip
    refine lj_aload_n (q := 884) dl_883 rfl rfl ?_
    refine lj_aload_n (q := 885) dl_884 rfl rfl ?_
    refine lj_iload (q := 887) dl_885 rfl rfl ?_
    refine lj_iconst (q := 888) (v := 1) dl_887 rfl (by decide) ?_
    refine lj_iadd (q := 889) dl_888 rfl ?_
    refine lj_sld (q := 890) (t := 1) dl_889 rfl hL9 (by omega) rfl ?_
    refine lj_aload_n (q := 891) dl_890 rfl rfl ?_
    refine lj_callH (q := 894) [] [.ref 0, .int (xs (n0 + 1)), .ref 102] dl_891 rfl lh_15 rfl (Nat.le_of_ble_eq_true rfl) (Nat.le_of_ble_eq_true rfl) (by omega) (by omega) (hX2_L_locate lj_x lj_102 (xs (n0 + 1)) (c_X11_locate lj_x F (xs (n0 + 1)) M (.inr "java/util/NoSuchElementException", M1) h1)) ?_
    refine lj_istore (q := 896) (lt := [some (.ref 103), some (.ref 0), some (.ref 80), some (.ref 102), some (.int (Int32.ofNat n0)), some (.int 2), none, none]) dl_894 rfl (Nat.le_of_ble_eq_true rfl) rfl rfl ?_
    refine lj_aload_n (q := 897) dl_896 rfl rfl ?_
    refine lj_aload_n (q := 898) dl_897 rfl rfl ?_
    refine lj_iload (q := 900) dl_898 rfl rfl ?_
    refine lj_iconst (q := 901) (v := 1) dl_900 rfl (by decide) ?_
    refine lj_iadd (q := 902) dl_901 rfl ?_
    refine lj_sld (q := 903) (t := 1) dl_902 rfl hL9 (by omega) rfl ?_
    refine lj_callV (q := 906) [] [.int (xs (n0 + 1))] dl_903 rfl lv_174 lj_80 rfl rfl rfl (Nat.le_of_ble_eq_true rfl) (Nat.le_of_ble_eq_true rfl) (by omega) (by omega) (c_X12_locate lj_m G (xs (n0 + 1)) _ (w, M2) h2) ?_
    refine lj_istore (q := 908) (lt := [some (.ref 103), some (.ref 0), some (.ref 80), some (.ref 102), some (.int (Int32.ofNat n0)), some (.int 2), some (.int w), none]) dl_906 rfl (Nat.le_of_ble_eq_true rfl) rfl rfl ?_
    refine lj_aload_n (q := 909) dl_908 rfl rfl ?_
    refine lj_callV (q := 912) [] [] dl_909 rfl lv_118 lj_80 rfl rfl rfl (Nat.le_of_ble_eq_true rfl) (Nat.le_of_ble_eq_true rfl) (by omega) (by omega) (c_X12_thrown lj_m 0 M2 _ (th_thrown M2)) ?_
    refine lj_iload (q := 914) dl_912 rfl rfl ?_
    refine lj_icmp_eq (q := 917) (t := 919) dl_914 rfl rfl (fun _ => ?_) (fun h => absurd h3 h)
    refine lj_iload (q := 921) dl_919 rfl rfl ?_
    refine lj_if_ne (q := 924) (t := 936) dl_921 rfl rfl (fun _ => ?_) (fun h => absurd h (by decide))
    refine lj_goto (t := 1900) dl_936 rfl ?_
    refine lj_fg [5, 6] (lt := lj_l0 n0) rfl ?_
    exact k M2 hI
theorem lv_175 : sm_LV RL 175 yX11_firstInvalid md_X11_firstInvalid 0 := ⟨sm_w (List.mem_of_getElem? (i := 546) (by decide +kernel)) rfl, sm_w (List.mem_of_getElem? (i := 547) (by decide +kernel)) rfl, sm_w (List.mem_of_getElem? (i := 548) (by decide +kernel)) rfl, sm_w (List.mem_of_getElem? (i := 59) (by decide +kernel)) rfl, sm_w (List.mem_of_getElem? (i := 549) (by decide +kernel)) rfl, by decide, by decide +kernel⟩
theorem lv_178 : sm_LV RL 178 yX12_firstInvalid md_X12_firstInvalid 0 := ⟨sm_w (List.mem_of_getElem? (i := 1424) (by decide +kernel)) rfl, sm_w (List.mem_of_getElem? (i := 1425) (by decide +kernel)) rfl, sm_w (List.mem_of_getElem? (i := 1426) (by decide +kernel)) rfl, sm_w (List.mem_of_getElem? (i := 75) (by decide +kernel)) rfl, sm_w (List.mem_of_getElem? (i := 1427) (by decide +kernel)) rfl, by decide, by decide +kernel⟩
theorem lo_16 {L : Nat} {xs : Nat → Int32} {n0 nc ns : Nat} {M : sm_M} (hL9 : L ≤ 2048) (h4 : n0 + 4 ≤ L) (hnc : nc ≤ 599000) (hns : ns ≤ 6990000) {I : sm_M → Prop} (hp : lp_d (fun F M => f_X11_firstInvalid F M) (fun F M => f_X12_firstInvalid F M) I M) (k : ∀ M2, I M2 → lj_J L xs 1900 (lj_l0 n0) [] M2 (nc + 1) (ns + 6)) : lj_J L xs 939 (lj_l0 n0) [] M nc ns := by
  obtain ⟨F, G, v, M1, M2, h1, h2, hI⟩ := hp
  refine lj_aload_n (q := 940) dl_939 rfl rfl ?_
  refine lj_callV (q := 943) [] [] dl_940 rfl lv_175 lj_0 rfl rfl rfl (Nat.le_of_ble_eq_true rfl) (Nat.le_of_ble_eq_true rfl) (by omega) (by omega) (c_X11_firstInvalid lj_x F M (v, M1) h1) ?_
  refine lj_aload_n (q := 944) dl_943 rfl rfl ?_
  refine lj_callV (q := 947) [.int v] [] dl_944 rfl lv_178 lj_80 rfl rfl rfl (Nat.le_of_ble_eq_true rfl) (Nat.le_of_ble_eq_true rfl) (by omega) (by omega) (c_X12_firstInvalid lj_m G _ (v, M2) h2) ?_
  refine lj_icmp_eq (q := 950) (t := 1900) dl_947 rfl rfl (fun _ => ?_) (fun h => absurd rfl h)
  exact lj_wide (Nat.le_add_right _ _) (Nat.le_add_right _ _) (k M2 hI)
theorem lv_179 : sm_LV RL 179 yX11_firstRepeat md_X11_firstRepeat 0 := ⟨sm_w (List.mem_of_getElem? (i := 575) (by decide +kernel)) rfl, sm_w (List.mem_of_getElem? (i := 576) (by decide +kernel)) rfl, sm_w (List.mem_of_getElem? (i := 577) (by decide +kernel)) rfl, sm_w (List.mem_of_getElem? (i := 59) (by decide +kernel)) rfl, sm_w (List.mem_of_getElem? (i := 578) (by decide +kernel)) rfl, by decide, by decide +kernel⟩
theorem lv_182 : sm_LV RL 182 yX12_firstRepeat md_X12_firstRepeat 0 := ⟨sm_w (List.mem_of_getElem? (i := 1428) (by decide +kernel)) rfl, sm_w (List.mem_of_getElem? (i := 1429) (by decide +kernel)) rfl, sm_w (List.mem_of_getElem? (i := 1430) (by decide +kernel)) rfl, sm_w (List.mem_of_getElem? (i := 75) (by decide +kernel)) rfl, sm_w (List.mem_of_getElem? (i := 1431) (by decide +kernel)) rfl, by decide, by decide +kernel⟩
theorem lo_17 {L : Nat} {xs : Nat → Int32} {n0 nc ns : Nat} {M : sm_M} (hL9 : L ≤ 2048) (h4 : n0 + 4 ≤ L) (hnc : nc ≤ 599000) (hns : ns ≤ 6990000) {I : sm_M → Prop} (hp : lp_d (fun F M => f_X11_firstRepeat F M) (fun F M => f_X12_firstRepeat F M) I M) (k : ∀ M2, I M2 → lj_J L xs 1900 (lj_l0 n0) [] M2 (nc + 1) (ns + 6)) : lj_J L xs 952 (lj_l0 n0) [] M nc ns := by
  obtain ⟨F, G, v, M1, M2, h1, h2, hI⟩ := hp
  refine lj_aload_n (q := 953) dl_952 rfl rfl ?_
  refine lj_callV (q := 956) [] [] dl_953 rfl lv_179 lj_0 rfl rfl rfl (Nat.le_of_ble_eq_true rfl) (Nat.le_of_ble_eq_true rfl) (by omega) (by omega) (c_X11_firstRepeat lj_x F M (v, M1) h1) ?_
  refine lj_aload_n (q := 957) dl_956 rfl rfl ?_
  refine lj_callV (q := 960) [.int v] [] dl_957 rfl lv_182 lj_80 rfl rfl rfl (Nat.le_of_ble_eq_true rfl) (Nat.le_of_ble_eq_true rfl) (by omega) (by omega) (c_X12_firstRepeat lj_m G _ (v, M2) h2) ?_
  refine lj_icmp_eq (q := 963) (t := 1900) dl_960 rfl rfl (fun _ => ?_) (fun h => absurd rfl h)
  exact lj_wide (Nat.le_add_right _ _) (Nat.le_add_right _ _) (k M2 hI)
theorem lv_183 : sm_LV RL 183 yX11_firstMissing md_X11_firstMissing 0 := ⟨sm_w (List.mem_of_getElem? (i := 583) (by decide +kernel)) rfl, sm_w (List.mem_of_getElem? (i := 584) (by decide +kernel)) rfl, sm_w (List.mem_of_getElem? (i := 585) (by decide +kernel)) rfl, sm_w (List.mem_of_getElem? (i := 59) (by decide +kernel)) rfl, sm_w (List.mem_of_getElem? (i := 586) (by decide +kernel)) rfl, by decide, by decide +kernel⟩
theorem lv_186 : sm_LV RL 186 yX12_firstMissing md_X12_firstMissing 0 := ⟨sm_w (List.mem_of_getElem? (i := 1432) (by decide +kernel)) rfl, sm_w (List.mem_of_getElem? (i := 1433) (by decide +kernel)) rfl, sm_w (List.mem_of_getElem? (i := 1434) (by decide +kernel)) rfl, sm_w (List.mem_of_getElem? (i := 75) (by decide +kernel)) rfl, sm_w (List.mem_of_getElem? (i := 1435) (by decide +kernel)) rfl, by decide, by decide +kernel⟩
theorem lo_18 {L : Nat} {xs : Nat → Int32} {n0 nc ns : Nat} {M : sm_M} (hL9 : L ≤ 2048) (h4 : n0 + 4 ≤ L) (hnc : nc ≤ 599000) (hns : ns ≤ 6990000) {I : sm_M → Prop} (hp : lp_d (fun F M => f_X11_firstMissing F M) (fun F M => f_X12_firstMissing F M) I M) (k : ∀ M2, I M2 → lj_J L xs 1900 (lj_l0 n0) [] M2 (nc + 1) (ns + 6)) : lj_J L xs 965 (lj_l0 n0) [] M nc ns := by
  obtain ⟨F, G, v, M1, M2, h1, h2, hI⟩ := hp
  refine lj_aload_n (q := 966) dl_965 rfl rfl ?_
  refine lj_callV (q := 969) [] [] dl_966 rfl lv_183 lj_0 rfl rfl rfl (Nat.le_of_ble_eq_true rfl) (Nat.le_of_ble_eq_true rfl) (by omega) (by omega) (c_X11_firstMissing lj_x F M (v, M1) h1) ?_
  refine lj_aload_n (q := 970) dl_969 rfl rfl ?_
  refine lj_callV (q := 973) [.int v] [] dl_970 rfl lv_186 lj_80 rfl rfl rfl (Nat.le_of_ble_eq_true rfl) (Nat.le_of_ble_eq_true rfl) (by omega) (by omega) (c_X12_firstMissing lj_m G _ (v, M2) h2) ?_
  refine lj_icmp_eq (q := 976) (t := 1900) dl_973 rfl rfl (fun _ => ?_) (fun h => absurd rfl h)
  exact lj_wide (Nat.le_add_right _ _) (Nat.le_add_right _ _) (k M2 hI)
theorem lv_187 : sm_LV RL 187 yX11_isUniversal md_X11_isUniversal 0 := ⟨sm_w (List.mem_of_getElem? (i := 591) (by decide +kernel)) rfl, sm_w (List.mem_of_getElem? (i := 592) (by decide +kernel)) rfl, sm_w (List.mem_of_getElem? (i := 593) (by decide +kernel)) rfl, sm_w (List.mem_of_getElem? (i := 59) (by decide +kernel)) rfl, sm_w (List.mem_of_getElem? (i := 594) (by decide +kernel)) rfl, by decide, by decide +kernel⟩
theorem lv_191 : sm_LV RL 191 yX12_isUniversal md_X12_isUniversal 0 := ⟨sm_w (List.mem_of_getElem? (i := 1436) (by decide +kernel)) rfl, sm_w (List.mem_of_getElem? (i := 1437) (by decide +kernel)) rfl, sm_w (List.mem_of_getElem? (i := 1438) (by decide +kernel)) rfl, sm_w (List.mem_of_getElem? (i := 75) (by decide +kernel)) rfl, sm_w (List.mem_of_getElem? (i := 1439) (by decide +kernel)) rfl, by decide, by decide +kernel⟩
theorem lo_19 {L : Nat} {xs : Nat → Int32} {n0 nc ns : Nat} {M : sm_M} (hL9 : L ≤ 2048) (h4 : n0 + 4 ≤ L) (hnc : nc ≤ 599000) (hns : ns ≤ 6990000) {I : sm_M → Prop} (hp : lp_d (fun F M => f_X11_isUniversal F M) (fun F M => f_X12_isUniversal F M) I M) (k : ∀ M2, I M2 → lj_J L xs 1900 (lj_l0 n0) [] M2 (nc + 1) (ns + 6)) : lj_J L xs 978 (lj_l0 n0) [] M nc ns := by
  obtain ⟨F, G, v, M1, M2, h1, h2, hI⟩ := hp
  refine lj_aload_n (q := 979) dl_978 rfl rfl ?_
  refine lj_callV (q := 982) [] [] dl_979 rfl lv_187 lj_0 rfl rfl rfl (Nat.le_of_ble_eq_true rfl) (Nat.le_of_ble_eq_true rfl) (by omega) (by omega) (c_X11_isUniversal lj_x F M (v, M1) h1) ?_
  refine lj_aload_n (q := 983) dl_982 rfl rfl ?_
  refine lj_callV (q := 986) [.int v] [] dl_983 rfl lv_191 lj_80 rfl rfl rfl (Nat.le_of_ble_eq_true rfl) (Nat.le_of_ble_eq_true rfl) (by omega) (by omega) (c_X12_isUniversal lj_m G _ (v, M2) h2) ?_
  refine lj_icmp_eq (q := 989) (t := 1900) dl_986 rfl rfl (fun _ => ?_) (fun h => absurd rfl h)
  exact lj_wide (Nat.le_add_right _ _) (Nat.le_add_right _ _) (k M2 hI)
theorem lh_20 : lj_LH 192 yL_shownBits md_L_shownBits hh_L_shownBits 3 := ⟨sm_w (List.mem_of_getElem? (i := 901) (by decide +kernel)) rfl, sm_w (List.mem_of_getElem? (i := 902) (by decide +kernel)) rfl, sm_w (List.mem_of_getElem? (i := 58) (by decide +kernel)) rfl, sm_w (List.mem_of_getElem? (i := 903) (by decide +kernel)) rfl, by decide, by decide +kernel, by decide +kernel⟩
theorem lv_194 : sm_LV RL 194 yX12_shownBits md_X12_shownBits 1 := ⟨sm_w (List.mem_of_getElem? (i := 1441) (by decide +kernel)) rfl, sm_w (List.mem_of_getElem? (i := 1442) (by decide +kernel)) rfl, sm_w (List.mem_of_getElem? (i := 1443) (by decide +kernel)) rfl, sm_w (List.mem_of_getElem? (i := 75) (by decide +kernel)) rfl, sm_w (List.mem_of_getElem? (i := 1444) (by decide +kernel)) rfl, by decide, by decide +kernel⟩
theorem lo_20 {L : Nat} {xs : Nat → Int32} {n0 nc ns : Nat} {M : sm_M} (hL9 : L ≤ 2048) (h4 : n0 + 4 ≤ L) (hnc : nc ≤ 599000) (hns : ns ≤ 6990000) {I : sm_M → Prop} (hp : lp_rl (fun F M => f_X11_shownBits F (xs (n0 + 1)) M) (fun F M => f_X12_shownBits F (xs (n0 + 1)) M) I M ∨ lp_x "java/lang/IllegalArgumentException" 1 (fun F M => f_X11_shownBits F (xs (n0 + 1)) M) (fun F M => f_X12_shownBits F (xs (n0 + 1)) M) I M) (k : ∀ M2, I M2 → lj_J L xs 1900 (lj_l0 n0) [] M2 (nc + 1) (ns + 6)) : lj_J L xs 991 (lj_l0 n0) [] M nc ns := by
  rcases hp with ⟨F, G, v, M1, M2, h1, h2, h3, h5, hI⟩ | ⟨F, G, w, M1, M2, h1, h2, h3, hI⟩
  · skip
    refine lj_aload_n (q := 992) dl_991 rfl rfl ?_
    refine lj_aload_n (q := 993) dl_992 rfl rfl ?_
    refine lj_iload (q := 995) dl_993 rfl rfl ?_
    refine lj_iconst (q := 996) (v := 1) dl_995 rfl (by decide) ?_
    refine lj_iadd (q := 997) dl_996 rfl ?_
    refine lj_sld (q := 998) (t := 1) dl_997 rfl hL9 (by omega) rfl ?_
    refine lj_aload_n (q := 999) dl_998 rfl rfl ?_
    refine lj_callH (q := 1002) [] [.ref 0, .int (xs (n0 + 1)), .ref 102] dl_999 rfl lh_20 rfl (Nat.le_of_ble_eq_true rfl) (Nat.le_of_ble_eq_true rfl) (by omega) (by omega) (hR_L_shownBits lj_x lj_102 (xs (n0 + 1)) (c_X11_shownBits lj_x F (xs (n0 + 1)) M (.inl (some (.long v)), M1) h1)) ?_
    refine lj_istore (q := 1004) (lt := [some (.ref 103), some (.ref 0), some (.ref 80), some (.ref 102), some (.int (Int32.ofNat n0)), some (.int 0), none, none]) dl_1002 rfl (Nat.le_of_ble_eq_true rfl) rfl rfl ?_
    refine lj_aload_n (q := 1005) dl_1004 rfl rfl ?_
    refine lj_aload_n (q := 1006) dl_1005 rfl rfl ?_
    refine lj_iload (q := 1008) dl_1006 rfl rfl ?_
    refine lj_iconst (q := 1009) (v := 1) dl_1008 rfl (by decide) ?_
    refine lj_iadd (q := 1010) dl_1009 rfl ?_
    refine lj_sld (q := 1011) (t := 1) dl_1010 rfl hL9 (by omega) rfl ?_
    refine lj_callV (q := 1014) [] [.int (xs (n0 + 1))] dl_1011 rfl lv_194 lj_80 rfl rfl rfl (Nat.le_of_ble_eq_true rfl) (Nat.le_of_ble_eq_true rfl) (by omega) (by omega) (c_X12_shownBits lj_m G (xs (n0 + 1)) _ (v, M2) h2) ?_
    refine lj_lstore (q := 1016) (lt := [some (.ref 103), some (.ref 0), some (.ref 80), some (.ref 102), some (.int (Int32.ofNat n0)), some (.int 0), some (.long v), none]) dl_1014 rfl (Nat.le_of_ble_eq_true rfl) rfl rfl ?_
    refine lj_aload_n (q := 1017) dl_1016 rfl rfl ?_
    refine lj_callV (q := 1020) [] [] dl_1017 rfl lv_118 lj_80 rfl rfl rfl (Nat.le_of_ble_eq_true rfl) (Nat.le_of_ble_eq_true rfl) (by omega) (by omega) (c_X12_thrown lj_m 0 M2 _ (th_thrown M2)) ?_
    refine lj_iload (q := 1022) dl_1020 rfl rfl ?_
    refine lj_icmp_eq (q := 1025) (t := 1027) dl_1022 rfl rfl (fun _ => ?_) (fun h => absurd h3 h)
    refine lj_iload (q := 1029) dl_1027 rfl rfl ?_
    refine lj_if_ne (q := 1032) (t := 1043) dl_1029 rfl rfl (fun h => absurd rfl h) (fun _ => ?_)
    refine lj_aload_n (q := 1033) dl_1032 rfl rfl ?_
    refine lj_iconst (q := 1034) (v := 0) dl_1033 rfl (by decide) ?_
    refine lj_laload (q := 1035) dl_1034 rfl lj_102 (sm_ib_of rfl) ?_
    refine lj_lload (q := 1037) dl_1035 rfl rfl ?_
    refine lj_lcmp (q := 1038) dl_1037 rfl ?_
    refine lj_if_eq (q := 1041) (t := 1043) dl_1038 rfl rfl (fun _ => ?_) (fun h => absurd (lj_cmp1 h5) h)
    refine lj_goto (t := 1900) dl_1043 rfl ?_
    refine lj_fg [5, 6] (lt := lj_l0 n0) rfl ?_
    exact k M2 hI
  · skip
    refine lj_aload_n (q := 992) dl_991 rfl rfl ?_
    refine lj_aload_n (q := 993) dl_992 rfl rfl ?_
    refine lj_iload (q := 995) dl_993 rfl rfl ?_
    refine lj_iconst (q := 996) (v := 1) dl_995 rfl (by decide) ?_
    refine lj_iadd (q := 997) dl_996 rfl ?_
    refine lj_sld (q := 998) (t := 1) dl_997 rfl hL9 (by omega) rfl ?_
    refine lj_aload_n (q := 999) dl_998 rfl rfl ?_
    refine lj_callH (q := 1002) [] [.ref 0, .int (xs (n0 + 1)), .ref 102] dl_999 rfl lh_20 rfl (Nat.le_of_ble_eq_true rfl) (Nat.le_of_ble_eq_true rfl) (by omega) (by omega) (hX1_L_shownBits lj_x lj_102 (xs (n0 + 1)) (c_X11_shownBits lj_x F (xs (n0 + 1)) M (.inr "java/lang/IllegalArgumentException", M1) h1)) ?_
    refine lj_istore (q := 1004) (lt := [some (.ref 103), some (.ref 0), some (.ref 80), some (.ref 102), some (.int (Int32.ofNat n0)), some (.int 1), none, none]) dl_1002 rfl (Nat.le_of_ble_eq_true rfl) rfl rfl ?_
    refine lj_aload_n (q := 1005) dl_1004 rfl rfl ?_
    refine lj_aload_n (q := 1006) dl_1005 rfl rfl ?_
    refine lj_iload (q := 1008) dl_1006 rfl rfl ?_
    refine lj_iconst (q := 1009) (v := 1) dl_1008 rfl (by decide) ?_
    refine lj_iadd (q := 1010) dl_1009 rfl ?_
    refine lj_sld (q := 1011) (t := 1) dl_1010 rfl hL9 (by omega) rfl ?_
    refine lj_callV (q := 1014) [] [.int (xs (n0 + 1))] dl_1011 rfl lv_194 lj_80 rfl rfl rfl (Nat.le_of_ble_eq_true rfl) (Nat.le_of_ble_eq_true rfl) (by omega) (by omega) (c_X12_shownBits lj_m G (xs (n0 + 1)) _ (w, M2) h2) ?_
    refine lj_lstore (q := 1016) (lt := [some (.ref 103), some (.ref 0), some (.ref 80), some (.ref 102), some (.int (Int32.ofNat n0)), some (.int 1), some (.long w), none]) dl_1014 rfl (Nat.le_of_ble_eq_true rfl) rfl rfl ?_
    refine lj_aload_n (q := 1017) dl_1016 rfl rfl ?_
    refine lj_callV (q := 1020) [] [] dl_1017 rfl lv_118 lj_80 rfl rfl rfl (Nat.le_of_ble_eq_true rfl) (Nat.le_of_ble_eq_true rfl) (by omega) (by omega) (c_X12_thrown lj_m 0 M2 _ (th_thrown M2)) ?_
    refine lj_iload (q := 1022) dl_1020 rfl rfl ?_
    refine lj_icmp_eq (q := 1025) (t := 1027) dl_1022 rfl rfl (fun _ => ?_) (fun h => absurd h3 h)
    refine lj_iload (q := 1029) dl_1027 rfl rfl ?_
    refine lj_if_ne (q := 1032) (t := 1043) dl_1029 rfl rfl (fun _ => ?_) (fun h => absurd h (by decide))
    refine lj_goto (t := 1900) dl_1043 rfl ?_
    refine lj_fg [5, 6] (lt := lj_l0 n0) rfl ?_
    exact k M2 hI
theorem lv_195 : sm_LV RL 195 yX11_longestRun md_X11_longestRun 0 := ⟨sm_w (List.mem_of_getElem? (i := 595) (by decide +kernel)) rfl, sm_w (List.mem_of_getElem? (i := 596) (by decide +kernel)) rfl, sm_w (List.mem_of_getElem? (i := 597) (by decide +kernel)) rfl, sm_w (List.mem_of_getElem? (i := 59) (by decide +kernel)) rfl, sm_w (List.mem_of_getElem? (i := 598) (by decide +kernel)) rfl, by decide, by decide +kernel⟩
theorem lv_198 : sm_LV RL 198 yX12_longestRun md_X12_longestRun 0 := ⟨sm_w (List.mem_of_getElem? (i := 1445) (by decide +kernel)) rfl, sm_w (List.mem_of_getElem? (i := 1446) (by decide +kernel)) rfl, sm_w (List.mem_of_getElem? (i := 1447) (by decide +kernel)) rfl, sm_w (List.mem_of_getElem? (i := 75) (by decide +kernel)) rfl, sm_w (List.mem_of_getElem? (i := 1448) (by decide +kernel)) rfl, by decide, by decide +kernel⟩
theorem lo_21 {L : Nat} {xs : Nat → Int32} {n0 nc ns : Nat} {M : sm_M} (hL9 : L ≤ 2048) (h4 : n0 + 4 ≤ L) (hnc : nc ≤ 599000) (hns : ns ≤ 6990000) {I : sm_M → Prop} (hp : lp_d (fun F M => f_X11_longestRun F M) (fun F M => f_X12_longestRun F M) I M) (k : ∀ M2, I M2 → lj_J L xs 1900 (lj_l0 n0) [] M2 (nc + 1) (ns + 6)) : lj_J L xs 1046 (lj_l0 n0) [] M nc ns := by
  obtain ⟨F, G, v, M1, M2, h1, h2, hI⟩ := hp
  refine lj_aload_n (q := 1047) dl_1046 rfl rfl ?_
  refine lj_callV (q := 1050) [] [] dl_1047 rfl lv_195 lj_0 rfl rfl rfl (Nat.le_of_ble_eq_true rfl) (Nat.le_of_ble_eq_true rfl) (by omega) (by omega) (c_X11_longestRun lj_x F M (v, M1) h1) ?_
  refine lj_aload_n (q := 1051) dl_1050 rfl rfl ?_
  refine lj_callV (q := 1054) [.int v] [] dl_1051 rfl lv_198 lj_80 rfl rfl rfl (Nat.le_of_ble_eq_true rfl) (Nat.le_of_ble_eq_true rfl) (by omega) (by omega) (c_X12_longestRun lj_m G _ (v, M2) h2) ?_
  refine lj_icmp_eq (q := 1057) (t := 1900) dl_1054 rfl rfl (fun _ => ?_) (fun h => absurd rfl h)
  exact lj_wide (Nat.le_add_right _ _) (Nat.le_add_right _ _) (k M2 hI)

