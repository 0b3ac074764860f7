theorem lh_22 : lj_LH 199 yL_longestRunStart md_L_longestRunStart hh_L_longestRunStart 2 := ⟨sm_w (List.mem_of_getElem? (i := 913) (by decide +kernel)) rfl, sm_w (List.mem_of_getElem? (i := 914) (by decide +kernel)) rfl, sm_w (List.mem_of_getElem? (i := 58) (by decide +kernel)) rfl, sm_w (List.mem_of_getElem? (i := 915) (by decide +kernel)) rfl, by decide, by decide +kernel, by decide +kernel⟩
theorem lv_201 : sm_LV RL 201 yX12_longestRunStart md_X12_longestRunStart 0 := ⟨sm_w (List.mem_of_getElem? (i := 1457) (by decide +kernel)) rfl, sm_w (List.mem_of_getElem? (i := 1458) (by decide +kernel)) rfl, sm_w (List.mem_of_getElem? (i := 1459) (by decide +kernel)) rfl, sm_w (List.mem_of_getElem? (i := 75) (by decide +kernel)) rfl, sm_w (List.mem_of_getElem? (i := 1460) (by decide +kernel)) rfl, by decide, by decide +kernel⟩
theorem lo_22 {L : Nat} {xs : Nat → Int32} {n0 nc ns : Nat} {M : sm_M} (hL9 : L ≤ 2048) (h4 : n0 + 4 ≤ L) (hnc : nc ≤ 599000) (hns : ns ≤ 6990000) {I : sm_M → Prop} (hp : lp_r (fun F M => f_X11_longestRunStart F M) (fun F M => f_X12_longestRunStart F M) I M ∨ lp_x "java/lang/IllegalStateException" 1 (fun F M => f_X11_longestRunStart F M) (fun F M => f_X12_longestRunStart F M) I M) (k : ∀ M2, I M2 → lj_J L xs 1900 (lj_l0 n0) [] M2 (nc + 1) (ns + 6)) : lj_J L xs 1059 (lj_l0 n0) [] M nc ns := by
  rcases hp with ⟨F, G, v, M1, M2, h1, h2, h3, h5, hI⟩ | ⟨F, G, w, M1, M2, h1, h2, h3, hI⟩
  · skip
    refine lj_aload_n (q := 1060) dl_1059 rfl rfl ?_
    refine lj_aload_n (q := 1061) dl_1060 rfl rfl ?_
    refine lj_callH (q := 1064) [] [.ref 0, .ref 102] dl_1061 rfl lh_22 rfl (Nat.le_of_ble_eq_true rfl) (Nat.le_of_ble_eq_true rfl) (by omega) (by omega) (hR_L_longestRunStart lj_x lj_102 (c_X11_longestRunStart lj_x F M (.inl (some (.int v)), M1) h1)) ?_
    refine lj_istore (q := 1066) (lt := [some (.ref 103), some (.ref 0), some (.ref 80), some (.ref 102), some (.int (Int32.ofNat n0)), some (.int 0), none, none]) dl_1064 rfl (Nat.le_of_ble_eq_true rfl) rfl rfl ?_
    refine lj_aload_n (q := 1067) dl_1066 rfl rfl ?_
    refine lj_callV (q := 1070) [] [] dl_1067 rfl lv_201 lj_80 rfl rfl rfl (Nat.le_of_ble_eq_true rfl) (Nat.le_of_ble_eq_true rfl) (by omega) (by omega) (c_X12_longestRunStart lj_m G _ (v, M2) h2) ?_
    refine lj_istore (q := 1072) (lt := [some (.ref 103), some (.ref 0), some (.ref 80), some (.ref 102), some (.int (Int32.ofNat n0)), some (.int 0), some (.int v), none]) dl_1070 rfl (Nat.le_of_ble_eq_true rfl) rfl rfl ?_
    refine lj_aload_n (q := 1073) dl_1072 rfl rfl ?_
    refine lj_callV (q := 1076) [] [] dl_1073 rfl lv_118 lj_80 rfl rfl rfl (Nat.le_of_ble_eq_true rfl) (Nat.le_of_ble_eq_true rfl) (by omega) (by omega) (c_X12_thrown lj_m 0 M2 _ (th_thrown M2)) ?_
    refine lj_iload (q := 1078) dl_1076 rfl rfl ?_
    refine lj_icmp_eq (q := 1081) (t := 1083) dl_1078 rfl rfl (fun _ => ?_) (fun h => absurd h3 h)
    refine lj_iload (q := 1085) dl_1083 rfl rfl ?_
    refine lj_if_ne (q := 1088) (t := 1100) dl_1085 rfl rfl (fun h => absurd rfl h) (fun _ => ?_)
    refine lj_aload_n (q := 1089) dl_1088 rfl rfl ?_
    refine lj_iconst (q := 1090) (v := 0) dl_1089 rfl (by decide) ?_
    refine lj_laload (q := 1091) dl_1090 rfl lj_102 (sm_ib_of rfl) ?_
    refine lj_iload (q := 1093) dl_1091 rfl rfl ?_
    refine lj_i2l (q := 1094) dl_1093 rfl ?_
    refine lj_lcmp (q := 1095) dl_1094 rfl ?_
    refine lj_if_eq (q := 1098) (t := 1100) dl_1095 rfl rfl (fun _ => ?_) (fun h => absurd (lj_cmp1 h5) h)
    refine lj_goto (t := 1900) dl_1100 rfl ?_
    refine lj_fg [5, 6] (lt := lj_l0 n0) rfl ?_
    exact k M2 hI
  · skip
    refine lj_aload_n (q := 1060) dl_1059 rfl rfl ?_
    refine lj_aload_n (q := 1061) dl_1060 rfl rfl ?_
    refine lj_callH (q := 1064) [] [.ref 0, .ref 102] dl_1061 rfl lh_22 rfl (Nat.le_of_ble_eq_true rfl) (Nat.le_of_ble_eq_true rfl) (by omega) (by omega) (hX1_L_longestRunStart lj_x lj_102 (c_X11_longestRunStart lj_x F M (.inr "java/lang/IllegalStateException", M1) h1)) ?_
    refine lj_istore (q := 1066) (lt := [some (.ref 103), some (.ref 0), some (.ref 80), some (.ref 102), some (.int (Int32.ofNat n0)), some (.int 1), none, none]) dl_1064 rfl (Nat.le_of_ble_eq_true rfl) rfl rfl ?_
    refine lj_aload_n (q := 1067) dl_1066 rfl rfl ?_
    refine lj_callV (q := 1070) [] [] dl_1067 rfl lv_201 lj_80 rfl rfl rfl (Nat.le_of_ble_eq_true rfl) (Nat.le_of_ble_eq_true rfl) (by omega) (by omega) (c_X12_longestRunStart lj_m G _ (w, M2) h2) ?_
    refine lj_istore (q := 1072) (lt := [some (.ref 103), some (.ref 0), some (.ref 80), some (.ref 102), some (.int (Int32.ofNat n0)), some (.int 1), some (.int w), none]) dl_1070 rfl (Nat.le_of_ble_eq_true rfl) rfl rfl ?_
    refine lj_aload_n (q := 1073) dl_1072 rfl rfl ?_
    refine lj_callV (q := 1076) [] [] dl_1073 rfl lv_118 lj_80 rfl rfl rfl (Nat.le_of_ble_eq_true rfl) (Nat.le_of_ble_eq_true rfl) (by omega) (by omega) (c_X12_thrown lj_m 0 M2 _ (th_thrown M2)) ?_
    refine lj_iload (q := 1078) dl_1076 rfl rfl ?_
    refine lj_icmp_eq (q := 1081) (t := 1083) dl_1078 rfl rfl (fun _ => ?_) (fun h => absurd h3 h)
    refine lj_iload (q := 1085) dl_1083 rfl rfl ?_
    refine lj_if_ne (q := 1088) (t := 1100) dl_1085 rfl rfl (fun _ => ?_) (fun h => absurd h (by decide))
    refine lj_goto (t := 1900) dl_1100 rfl ?_
    refine lj_fg [5, 6] (lt := lj_l0 n0) rfl ?_
    exact k M2 hI
theorem lv_202 : sm_LV RL 202 yX11_distinctSymbols md_X11_distinctSymbols 0 := ⟨sm_w (List.mem_of_getElem? (i := 607) (by decide +kernel)) rfl, sm_w (List.mem_of_getElem? (i := 608) (by decide +kernel)) rfl, sm_w (List.mem_of_getElem? (i := 609) (by decide +kernel)) rfl, sm_w (List.mem_of_getElem? (i := 59) (by decide +kernel)) rfl, sm_w (List.mem_of_getElem? (i := 610) (by decide +kernel)) rfl, by decide, by decide +kernel⟩
theorem lv_205 : sm_LV RL 205 yX12_distinctSymbols md_X12_distinctSymbols 0 := ⟨sm_w (List.mem_of_getElem? (i := 1461) (by decide +kernel)) rfl, sm_w (List.mem_of_getElem? (i := 1462) (by decide +kernel)) rfl, sm_w (List.mem_of_getElem? (i := 1463) (by decide +kernel)) rfl, sm_w (List.mem_of_getElem? (i := 75) (by decide +kernel)) rfl, sm_w (List.mem_of_getElem? (i := 1464) (by decide +kernel)) rfl, by decide, by decide +kernel⟩
theorem lo_23 {L : Nat} {xs : Nat → Int32} {n0 nc ns : Nat} {M : sm_M} (hL9 : L ≤ 2048) (h4 : n0 + 4 ≤ L) (hnc : nc ≤ 599000) (hns : ns ≤ 6990000) {I : sm_M → Prop} (hp : lp_d0 (fun F M => f_X11_distinctSymbols F M) (fun F M => f_X12_distinctSymbols F M) I M) (k : ∀ M2, I M2 → lj_J L xs 1900 (lj_l0 n0) [] M2 (nc + 1) (ns + 6)) : lj_J L xs 1103 (lj_l0 n0) [] M nc ns := by
  obtain ⟨F, G, v, M2, h1, h2, hI⟩ := hp
  refine lj_aload_n (q := 1104) dl_1103 rfl rfl ?_
  refine lj_callV (q := 1107) [] [] dl_1104 rfl lv_202 lj_0 rfl rfl rfl (Nat.le_of_ble_eq_true rfl) (Nat.le_of_ble_eq_true rfl) (by omega) (by omega) (c_X11_distinctSymbols lj_x F M v h1) ?_
  refine lj_aload_n (q := 1108) dl_1107 rfl rfl ?_
  refine lj_callV (q := 1111) [.int v] [] dl_1108 rfl lv_205 lj_80 rfl rfl rfl (Nat.le_of_ble_eq_true rfl) (Nat.le_of_ble_eq_true rfl) (by omega) (by omega) (c_X12_distinctSymbols lj_m G _ (v, M2) h2) ?_
  refine lj_icmp_eq (q := 1114) (t := 1900) dl_1111 rfl rfl (fun _ => ?_) (fun h => absurd rfl h)
  exact lj_wide (Nat.le_add_right _ _) (Nat.le_add_right _ _) (k M2 hI)
theorem lv_206 : sm_LV RL 206 yX11_compress md_X11_compress 0 := ⟨sm_w (List.mem_of_getElem? (i := 616) (by decide +kernel)) rfl, sm_w (List.mem_of_getElem? (i := 617) (by decide +kernel)) rfl, sm_w (List.mem_of_getElem? (i := 618) (by decide +kernel)) rfl, sm_w (List.mem_of_getElem? (i := 59) (by decide +kernel)) rfl, sm_w (List.mem_of_getElem? (i := 619) (by decide +kernel)) rfl, by decide, by decide +kernel⟩
theorem lv_209 : sm_LV RL 209 yX12_compress md_X12_compress 0 := ⟨sm_w (List.mem_of_getElem? (i := 1469) (by decide +kernel)) rfl, sm_w (List.mem_of_getElem? (i := 1470) (by decide +kernel)) rfl, sm_w (List.mem_of_getElem? (i := 1471) (by decide +kernel)) rfl, sm_w (List.mem_of_getElem? (i := 75) (by decide +kernel)) rfl, sm_w (List.mem_of_getElem? (i := 1472) (by decide +kernel)) rfl, by decide, by decide +kernel⟩
theorem lo_24 {L : Nat} {xs : Nat → Int32} {n0 nc ns : Nat} {M : sm_M} (hL9 : L ≤ 2048) (h4 : n0 + 4 ≤ L) (hnc : nc ≤ 599000) (hns : ns ≤ 6990000) {I : sm_M → Prop} (hp : lp_d (fun F M => f_X11_compress F M) (fun F M => f_X12_compress F M) I M) (k : ∀ M2, I M2 → lj_J L xs 1900 (lj_l0 n0) [] M2 (nc + 1) (ns + 6)) : lj_J L xs 1116 (lj_l0 n0) [] M nc ns := by
  obtain ⟨F, G, v, M1, M2, h1, h2, hI⟩ := hp
  refine lj_aload_n (q := 1117) dl_1116 rfl rfl ?_
  refine lj_callV (q := 1120) [] [] dl_1117 rfl lv_206 lj_0 rfl rfl rfl (Nat.le_of_ble_eq_true rfl) (Nat.le_of_ble_eq_true rfl) (by omega) (by omega) (c_X11_compress lj_x F M (v, M1) h1) ?_
  refine lj_aload_n (q := 1121) dl_1120 rfl rfl ?_
  refine lj_callV (q := 1124) [.int v] [] dl_1121 rfl lv_209 lj_80 rfl rfl rfl (Nat.le_of_ble_eq_true rfl) (Nat.le_of_ble_eq_true rfl) (by omega) (by omega) (c_X12_compress lj_m G _ (v, M2) h2) ?_
  refine lj_icmp_eq (q := 1127) (t := 1900) dl_1124 rfl rfl (fun _ => ?_) (fun h => absurd rfl h)
  exact lj_wide (Nat.le_add_right _ _) (Nat.le_add_right _ _) (k M2 hI)
theorem lh_25 : lj_LH 210 yL_rotate md_L_rotate hh_L_rotate 3 := ⟨sm_w (List.mem_of_getElem? (i := 925) (by decide +kernel)) rfl, sm_w (List.mem_of_getElem? (i := 926) (by decide +kernel)) rfl, sm_w (List.mem_of_getElem? (i := 58) (by decide +kernel)) rfl, sm_w (List.mem_of_getElem? (i := 927) (by decide +kernel)) rfl, by decide, by decide +kernel, by decide +kernel⟩
theorem lv_212 : sm_LV RL 212 yX12_rotate md_X12_rotate 1 := ⟨sm_w (List.mem_of_getElem? (i := 1473) (by decide +kernel)) rfl, sm_w (List.mem_of_getElem? (i := 1474) (by decide +kernel)) rfl, sm_w (List.mem_of_getElem? (i := 1475) (by decide +kernel)) rfl, sm_w (List.mem_of_getElem? (i := 75) (by decide +kernel)) rfl, sm_w (List.mem_of_getElem? (i := 1476) (by decide +kernel)) rfl, by decide, by decide +kernel⟩
theorem lo_25 {L : Nat} {xs : Nat → Int32} {n0 nc ns : Nat} {M : sm_M} (hL9 : L ≤ 2048) (h4 : n0 + 4 ≤ L) (hnc : nc ≤ 599000) (hns : ns ≤ 6990000) {I : sm_M → Prop} (hp : lp_r (fun F M => f_X11_rotate F (xs (n0 + 1)) M) (fun F M => f_X12_rotate F (xs (n0 + 1)) M) I M ∨ lp_x "java/lang/IndexOutOfBoundsException" 1 (fun F M => f_X11_rotate F (xs (n0 + 1)) M) (fun F M => f_X12_rotate F (xs (n0 + 1)) M) I M) (k : ∀ M2, I M2 → lj_J L xs 1900 (lj_l0 n0) [] M2 (nc + 1) (ns + 6)) : lj_J L xs 1129 (lj_l0 n0) [] M nc ns := by
  rcases hp with ⟨F, G, v, M1, M2, h1, h2, h3, h5, hI⟩ | ⟨F, G, w, M1, M2, h1, h2, h3, hI⟩
  · skip
    refine lj_aload_n (q := 1130) dl_1129 rfl rfl ?_
    refine lj_aload_n (q := 1131) dl_1130 rfl rfl ?_
    refine lj_iload (q := 1133) dl_1131 rfl rfl ?_
    refine lj_iconst (q := 1134) (v := 1) dl_1133 rfl (by decide) ?_
    refine lj_iadd (q := 1135) dl_1134 rfl ?_
    refine lj_sld (q := 1136) (t := 1) dl_1135 rfl hL9 (by omega) rfl ?_
    refine lj_aload_n (q := 1137) dl_1136 rfl rfl ?_
    refine lj_callH (q := 1140) [] [.ref 0, .int (xs (n0 + 1)), .ref 102] dl_1137 rfl lh_25 rfl (Nat.le_of_ble_eq_true rfl) (Nat.le_of_ble_eq_true rfl) (by omega) (by omega) (hR_L_rotate lj_x lj_102 (xs (n0 + 1)) (c_X11_rotate lj_x F (xs (n0 + 1)) M (.inl (some (.int v)), M1) h1)) ?_
    refine lj_istore (q := 1142) (lt := [some (.ref 103), some (.ref 0), some (.ref 80), some (.ref 102), some (.int (Int32.ofNat n0)), some (.int 0), none, none]) dl_1140 rfl (Nat.le_of_ble_eq_true rfl) rfl rfl ?_
    refine lj_aload_n (q := 1143) dl_1142 rfl rfl ?_
    refine lj_aload_n (q := 1144) dl_1143 rfl rfl ?_
    refine lj_iload (q := 1146) dl_1144 rfl rfl ?_
    refine lj_iconst (q := 1147) (v := 1) dl_1146 rfl (by decide) ?_
    refine lj_iadd (q := 1148) dl_1147 rfl ?_
    refine lj_sld (q := 1149) (t := 1) dl_1148 rfl hL9 (by omega) rfl ?_
    refine lj_callV (q := 1152) [] [.int (xs (n0 + 1))] dl_1149 rfl lv_212 lj_80 rfl rfl rfl (Nat.le_of_ble_eq_true rfl) (Nat.le_of_ble_eq_true rfl) (by omega) (by omega) (c_X12_rotate lj_m G (xs (n0 + 1)) _ (v, M2) h2) ?_
    refine lj_istore (q := 1154) (lt := [some (.ref 103), some (.ref 0), some (.ref 80), some (.ref 102), some (.int (Int32.ofNat n0)), some (.int 0), some (.int v), none]) dl_1152 rfl (Nat.le_of_ble_eq_true rfl) rfl rfl ?_
    refine lj_aload_n (q := 1155) dl_1154 rfl rfl ?_
    refine lj_callV (q := 1158) [] [] dl_1155 rfl lv_118 lj_80 rfl rfl rfl (Nat.le_of_ble_eq_true rfl) (Nat.le_of_ble_eq_true rfl) (by omega) (by omega) (c_X12_thrown lj_m 0 M2 _ (th_thrown M2)) ?_
    refine lj_iload (q := 1160) dl_1158 rfl rfl ?_
    refine lj_icmp_eq (q := 1163) (t := 1165) dl_1160 rfl rfl (fun _ => ?_) (fun h => absurd h3 h)
    refine lj_iload (q := 1167) dl_1165 rfl rfl ?_
    refine lj_if_ne (q := 1170) (t := 1182) dl_1167 rfl rfl (fun h => absurd rfl h) (fun _ => ?_)
    refine lj_aload_n (q := 1171) dl_1170 rfl rfl ?_
    refine lj_iconst (q := 1172) (v := 0) dl_1171 rfl (by decide) ?_
    refine lj_laload (q := 1173) dl_1172 rfl lj_102 (sm_ib_of rfl) ?_
    refine lj_iload (q := 1175) dl_1173 rfl rfl ?_
    refine lj_i2l (q := 1176) dl_1175 rfl ?_
    refine lj_lcmp (q := 1177) dl_1176 rfl ?_
    refine lj_if_eq (q := 1180) (t := 1182) dl_1177 rfl rfl (fun _ => ?_) (fun h => absurd (lj_cmp1 h5) h)
    refine lj_goto (t := 1900) dl_1182 rfl ?_
    refine lj_fg [5, 6] (lt := lj_l0 n0) rfl ?_
    exact k M2 hI
  · skip
    refine lj_aload_n (q := 1130) dl_1129 rfl rfl ?_
    refine lj_aload_n (q := 1131) dl_1130 rfl rfl ?_
    refine lj_iload (q := 1133) dl_1131 rfl rfl ?_
    refine lj_iconst (q := 1134) (v := 1) dl_1133 rfl (by decide) ?_
    refine lj_iadd (q := 1135) dl_1134 rfl ?_
    refine lj_sld (q := 1136) (t := 1) dl_1135 rfl hL9 (by omega) rfl ?_
    refine lj_aload_n (q := 1137) dl_1136 rfl rfl ?_
    refine lj_callH (q := 1140) [] [.ref 0, .int (xs (n0 + 1)), .ref 102] dl_1137 rfl lh_25 rfl (Nat.le_of_ble_eq_true rfl) (Nat.le_of_ble_eq_true rfl) (by omega) (by omega) (hX1_L_rotate lj_x lj_102 (xs (n0 + 1)) (c_X11_rotate lj_x F (xs (n0 + 1)) M (.inr "java/lang/IndexOutOfBoundsException", M1) h1)) ?_
    refine lj_istore (q := 1142) (lt := [some (.ref 103), some (.ref 0), some (.ref 80), some (.ref 102), some (.int (Int32.ofNat n0)), some (.int 1), none, none]) dl_1140 rfl (Nat.le_of_ble_eq_true rfl) rfl rfl ?_
    refine lj_aload_n (q := 1143) dl_1142 rfl rfl ?_
    refine lj_aload_n (q := 1144) dl_1143 rfl rfl ?_
    refine lj_iload (q := 1146) dl_1144 rfl rfl ?_
    refine lj_iconst (q := 1147) (v := 1) dl_1146 rfl (by decide) ?_
    refine lj_iadd (q := 1148) dl_1147 rfl ?_
    refine lj_sld (q := 1149) (t := 1) dl_1148 rfl hL9 (by omega) rfl ?_
    refine lj_callV (q := 1152) [] [.int (xs (n0 + 1))] dl_1149 rfl lv_212 lj_80 rfl rfl rfl (Nat.le_of_ble_eq_true rfl) (Nat.le_of_ble_eq_true rfl) (by omega) (by omega) (c_X12_rotate lj_m G (xs (n0 + 1)) _ (w, M2) h2) ?_
    refine lj_istore (q := 1154) (lt := [some (.ref 103), some (.ref 0), some (.ref 80), some (.ref 102), some (.int (Int32.ofNat n0)), some (.int 1), some (.int w), none]) dl_1152 rfl (Nat.le_of_ble_eq_true rfl) rfl rfl ?_
    refine lj_aload_n (q := 1155) dl_1154 rfl rfl ?_
    refine lj_callV (q := 1158) [] [] dl_1155 rfl lv_118 lj_80 rfl rfl rfl (Nat.le_of_ble_eq_true rfl) (Nat.le_of_ble_eq_true rfl) (by omega) (by omega) (c_X12_thrown lj_m 0 M2 _ (th_thrown M2)) ?_
    refine lj_iload (q := 1160) dl_1158 rfl rfl ?_
    refine lj_icmp_eq (q := 1163) (t := 1165) dl_1160 rfl rfl (fun _ => ?_) (fun h => absurd h3 h)
    refine lj_iload (q := 1167) dl_1165 rfl rfl ?_
    refine lj_if_ne (q := 1170) (t := 1182) dl_1167 rfl rfl (fun _ => ?_) (fun h => absurd h (by decide))
    refine lj_goto (t := 1900) dl_1182 rfl ?_
    refine lj_fg [5, 6] (lt := lj_l0 n0) rfl ?_
    exact k M2 hI
theorem lh_26 : lj_LH 213 yL_rotateToLowest md_L_rotateToLowest hh_L_rotateToLowest 2 := ⟨sm_w (List.mem_of_getElem? (i := 937) (by decide +kernel)) rfl, sm_w (List.mem_of_getElem? (i := 938) (by decide +kernel)) rfl, sm_w (List.mem_of_getElem? (i := 58) (by decide +kernel)) rfl, sm_w (List.mem_of_getElem? (i := 939) (by decide +kernel)) rfl, by decide, by decide +kernel, by decide +kernel⟩
theorem lv_215 : sm_LV RL 215 yX12_rotateToLowest md_X12_rotateToLowest 0 := ⟨sm_w (List.mem_of_getElem? (i := 1481) (by decide +kernel)) rfl, sm_w (List.mem_of_getElem? (i := 1482) (by decide +kernel)) rfl, sm_w (List.mem_of_getElem? (i := 1483) (by decide +kernel)) rfl, sm_w (List.mem_of_getElem? (i := 75) (by decide +kernel)) rfl, sm_w (List.mem_of_getElem? (i := 1484) (by decide +kernel)) rfl, by decide, by decide +kernel⟩
theorem lo_26 {L : Nat} {xs : Nat → Int32} {n0 nc ns : Nat} {M : sm_M} (hL9 : L ≤ 2048) (h4 : n0 + 4 ≤ L) (hnc : nc ≤ 599000) (hns : ns ≤ 6990000) {I : sm_M → Prop} (hp : lp_r (fun F M => f_X11_rotateToLowest F M) (fun F M => f_X12_rotateToLowest F M) I M ∨ lp_x "java/lang/IllegalStateException" 1 (fun F M => f_X11_rotateToLowest F M) (fun F M => f_X12_rotateToLowest F M) I M) (k : ∀ M2, I M2 → lj_J L xs 1900 (lj_l0 n0) [] M2 (nc + 1) (ns + 6)) : lj_J L xs 1185 (lj_l0 n0) [] M nc ns := by
  rcases hp with ⟨F, G, v, M1, M2, h1, h2, h3, h5, hI⟩ | ⟨F, G, w, M1, M2, h1, h2, h3, hI⟩
  · skip
    refine lj_aload_n (q := 1186) dl_1185 rfl rfl ?_
    refine lj_aload_n (q := 1187) dl_1186 rfl rfl ?_
    refine lj_callH (q := 1190) [] [.ref 0, .ref 102] dl_1187 rfl lh_26 rfl (Nat.le_of_ble_eq_true rfl) (Nat.le_of_ble_eq_true rfl) (by omega) (by omega) (hR_L_rotateToLowest lj_x lj_102 (c_X11_rotateToLowest lj_x F M (.inl (some (.int v)), M1) h1)) ?_
    refine lj_istore (q := 1192) (lt := [some (.ref 103), some (.ref 0), some (.ref 80), some (.ref 102), some (.int (Int32.ofNat n0)), some (.int 0), none, none]) dl_1190 rfl (Nat.le_of_ble_eq_true rfl) rfl rfl ?_
    refine lj_aload_n (q := 1193) dl_1192 rfl rfl ?_
    refine lj_callV (q := 1196) [] [] dl_1193 rfl lv_215 lj_80 rfl rfl rfl (Nat.le_of_ble_eq_true rfl) (Nat.le_of_ble_eq_true rfl) (by omega) (by omega) (c_X12_rotateToLowest lj_m G _ (v, M2) h2) ?_
    refine lj_istore (q := 1198) (lt := [some (.ref 103), some (.ref 0), some (.ref 80), some (.ref 102), some (.int (Int32.ofNat n0)), some (.int 0), some (.int v), none]) dl_1196 rfl (Nat.le_of_ble_eq_true rfl) rfl rfl ?_
    refine lj_aload_n (q := 1199) dl_1198 rfl rfl ?_
    refine lj_callV (q := 1202) [] [] dl_1199 rfl lv_118 lj_80 rfl rfl rfl (Nat.le_of_ble_eq_true rfl) (Nat.le_of_ble_eq_true rfl) (by omega) (by omega) (c_X12_thrown lj_m 0 M2 _ (th_thrown M2)) ?_
    refine lj_iload (q := 1204) dl_1202 rfl rfl ?_
    refine lj_icmp_eq (q := 1207) (t := 1209) dl_1204 rfl rfl (fun _ => ?_) (fun h => absurd h3 h)
    refine lj_iload (q := 1211) dl_1209 rfl rfl ?_
    refine lj_if_ne (q := 1214) (t := 1226) dl_1211 rfl rfl (fun h => absurd rfl h) (fun _ => ?_)
    refine lj_aload_n (q := 1215) dl_1214 rfl rfl ?_
    refine lj_iconst (q := 1216) (v := 0) dl_1215 rfl (by decide) ?_
    refine lj_laload (q := 1217) dl_1216 rfl lj_102 (sm_ib_of rfl) ?_
    refine lj_iload (q := 1219) dl_1217 rfl rfl ?_
    refine lj_i2l (q := 1220) dl_1219 rfl ?_
    refine lj_lcmp (q := 1221) dl_1220 rfl ?_
    refine lj_if_eq (q := 1224) (t := 1226) dl_1221 rfl rfl (fun _ => ?_) (fun h => absurd (lj_cmp1 h5) h)
    refine lj_goto (t := 1900) dl_1226 rfl ?_
    refine lj_fg [5, 6] (lt := lj_l0 n0) rfl ?_
    exact k M2 hI
  · skip
    refine lj_aload_n (q := 1186) dl_1185 rfl rfl ?_
    refine lj_aload_n (q := 1187) dl_1186 rfl rfl ?_
    refine lj_callH (q := 1190) [] [.ref 0, .ref 102] dl_1187 rfl lh_26 rfl (Nat.le_of_ble_eq_true rfl) (Nat.le_of_ble_eq_true rfl) (by omega) (by omega) (hX1_L_rotateToLowest lj_x lj_102 (c_X11_rotateToLowest lj_x F M (.inr "java/lang/IllegalStateException", M1) h1)) ?_
    refine lj_istore (q := 1192) (lt := [some (.ref 103), some (.ref 0), some (.ref 80), some (.ref 102), some (.int (Int32.ofNat n0)), some (.int 1), none, none]) dl_1190 rfl (Nat.le_of_ble_eq_true rfl) rfl rfl ?_
    refine lj_aload_n (q := 1193) dl_1192 rfl rfl ?_
    refine lj_callV (q := 1196) [] [] dl_1193 rfl lv_215 lj_80 rfl rfl rfl (Nat.le_of_ble_eq_true rfl) (Nat.le_of_ble_eq_true rfl) (by omega) (by omega) (c_X12_rotateToLowest lj_m G _ (w, M2) h2) ?_
    refine lj_istore (q := 1198) (lt := [some (.ref 103), some (.ref 0), some (.ref 80), some (.ref 102), some (.int (Int32.ofNat n0)), some (.int 1), some (.int w), none]) dl_1196 rfl (Nat.le_of_ble_eq_true rfl) rfl rfl ?_
    refine lj_aload_n (q := 1199) dl_1198 rfl rfl ?_
    refine lj_callV (q := 1202) [] [] dl_1199 rfl lv_118 lj_80 rfl rfl rfl (Nat.le_of_ble_eq_true rfl) (Nat.le_of_ble_eq_true rfl) (by omega) (by omega) (c_X12_thrown lj_m 0 M2 _ (th_thrown M2)) ?_
    refine lj_iload (q := 1204) dl_1202 rfl rfl ?_
    refine lj_icmp_eq (q := 1207) (t := 1209) dl_1204 rfl rfl (fun _ => ?_) (fun h => absurd h3 h)
    refine lj_iload (q := 1211) dl_1209 rfl rfl ?_
    refine lj_if_ne (q := 1214) (t := 1226) dl_1211 rfl rfl (fun _ => ?_) (fun h => absurd h (by decide))
    refine lj_goto (t := 1900) dl_1226 rfl ?_
    refine lj_fg [5, 6] (lt := lj_l0 n0) rfl ?_
    exact k M2 hI
theorem lv_216 : sm_LV RL 216 yX11_reverse md_X11_reverse 0 := ⟨sm_w (List.mem_of_getElem? (i := 620) (by decide +kernel)) rfl, sm_w (List.mem_of_getElem? (i := 621) (by decide +kernel)) rfl, sm_w (List.mem_of_getElem? (i := 622) (by decide +kernel)) rfl, sm_w (List.mem_of_getElem? (i := 59) (by decide +kernel)) rfl, sm_w (List.mem_of_getElem? (i := 623) (by decide +kernel)) rfl, by decide, by decide +kernel⟩
theorem lv_219 : sm_LV RL 219 yX12_reverse md_X12_reverse 0 := ⟨sm_w (List.mem_of_getElem? (i := 1489) (by decide +kernel)) rfl, sm_w (List.mem_of_getElem? (i := 1490) (by decide +kernel)) rfl, sm_w (List.mem_of_getElem? (i := 1491) (by decide +kernel)) rfl, sm_w (List.mem_of_getElem? (i := 75) (by decide +kernel)) rfl, sm_w (List.mem_of_getElem? (i := 1492) (by decide +kernel)) rfl, by decide, by decide +kernel⟩
theorem lo_27 {L : Nat} {xs : Nat → Int32} {n0 nc ns : Nat} {M : sm_M} (hL9 : L ≤ 2048) (h4 : n0 + 4 ≤ L) (hnc : nc ≤ 599000) (hns : ns ≤ 6990000) {I : sm_M → Prop} (hp : lp_d (fun F M => f_X11_reverse F M) (fun F M => f_X12_reverse F M) I M) (k : ∀ M2, I M2 → lj_J L xs 1900 (lj_l0 n0) [] M2 (nc + 1) (ns + 6)) : lj_J L xs 1229 (lj_l0 n0) [] M nc ns := by
  obtain ⟨F, G, v, M1, M2, h1, h2, hI⟩ := hp
  refine lj_aload_n (q := 1230) dl_1229 rfl rfl ?_
  refine lj_callV (q := 1233) [] [] dl_1230 rfl lv_216 lj_0 rfl rfl rfl (Nat.le_of_ble_eq_true rfl) (Nat.le_of_ble_eq_true rfl) (by omega) (by omega) (c_X11_reverse lj_x F M (v, M1) h1) ?_
  refine lj_aload_n (q := 1234) dl_1233 rfl rfl ?_
  refine lj_callV (q := 1237) [.int v] [] dl_1234 rfl lv_219 lj_80 rfl rfl rfl (Nat.le_of_ble_eq_true rfl) (Nat.le_of_ble_eq_true rfl) (by omega) (by omega) (c_X12_reverse lj_m G _ (v, M2) h2) ?_
  refine lj_icmp_eq (q := 1240) (t := 1900) dl_1237 rfl rfl (fun _ => ?_) (fun h => absurd rfl h)
  exact lj_wide (Nat.le_add_right _ _) (Nat.le_add_right _ _) (k M2 hI)
theorem lv_220 : sm_LV RL 220 yX11_complement md_X11_complement 0 := ⟨sm_w (List.mem_of_getElem? (i := 624) (by decide +kernel)) rfl, sm_w (List.mem_of_getElem? (i := 625) (by decide +kernel)) rfl, sm_w (List.mem_of_getElem? (i := 626) (by decide +kernel)) rfl, sm_w (List.mem_of_getElem? (i := 59) (by decide +kernel)) rfl, sm_w (List.mem_of_getElem? (i := 627) (by decide +kernel)) rfl, by decide, by decide +kernel⟩
theorem lv_223 : sm_LV RL 223 yX12_complement md_X12_complement 0 := ⟨sm_w (List.mem_of_getElem? (i := 1493) (by decide +kernel)) rfl, sm_w (List.mem_of_getElem? (i := 1494) (by decide +kernel)) rfl, sm_w (List.mem_of_getElem? (i := 1495) (by decide +kernel)) rfl, sm_w (List.mem_of_getElem? (i := 75) (by decide +kernel)) rfl, sm_w (List.mem_of_getElem? (i := 1496) (by decide +kernel)) rfl, by decide, by decide +kernel⟩
theorem lo_28 {L : Nat} {xs : Nat → Int32} {n0 nc ns : Nat} {M : sm_M} (hL9 : L ≤ 2048) (h4 : n0 + 4 ≤ L) (hnc : nc ≤ 599000) (hns : ns ≤ 6990000) {I : sm_M → Prop} (hp : lp_d (fun F M => f_X11_complement F M) (fun F M => f_X12_complement F M) I M) (k : ∀ M2, I M2 → lj_J L xs 1900 (lj_l0 n0) [] M2 (nc + 1) (ns + 6)) : lj_J L xs 1242 (lj_l0 n0) [] M nc ns := by
  obtain ⟨F, G, v, M1, M2, h1, h2, hI⟩ := hp
  refine lj_aload_n (q := 1243) dl_1242 rfl rfl ?_
  refine lj_callV (q := 1246) [] [] dl_1243 rfl lv_220 lj_0 rfl rfl rfl (Nat.le_of_ble_eq_true rfl) (Nat.le_of_ble_eq_true rfl) (by omega) (by omega) (c_X11_complement lj_x F M (v, M1) h1) ?_
  refine lj_aload_n (q := 1247) dl_1246 rfl rfl ?_
  refine lj_callV (q := 1250) [.int v] [] dl_1247 rfl lv_223 lj_80 rfl rfl rfl (Nat.le_of_ble_eq_true rfl) (Nat.le_of_ble_eq_true rfl) (by omega) (by omega) (c_X12_complement lj_m G _ (v, M2) h2) ?_
  refine lj_icmp_eq (q := 1253) (t := 1900) dl_1250 rfl rfl (fun _ => ?_) (fun h => absurd rfl h)
  exact lj_wide (Nat.le_add_right _ _) (Nat.le_add_right _ _) (k M2 hI)
theorem lh_29 : lj_LH 224 yL_exchange md_L_exchange hh_L_exchange 4 := ⟨sm_w (List.mem_of_getElem? (i := 953) (by decide +kernel)) rfl, sm_w (List.mem_of_getElem? (i := 954) (by decide +kernel)) rfl, sm_w (List.mem_of_getElem? (i := 58) (by decide +kernel)) rfl, sm_w (List.mem_of_getElem? (i := 955) (by decide +kernel)) rfl, by decide, by decide +kernel, by decide +kernel⟩
theorem lv_226 : sm_LV RL 226 yX12_exchange md_X12_exchange 2 := ⟨sm_w (List.mem_of_getElem? (i := 1497) (by decide +kernel)) rfl, sm_w (List.mem_of_getElem? (i := 1498) (by decide +kernel)) rfl, sm_w (List.mem_of_getElem? (i := 1499) (by decide +kernel)) rfl, sm_w (List.mem_of_getElem? (i := 75) (by decide +kernel)) rfl, sm_w (List.mem_of_getElem? (i := 1500) (by decide +kernel)) rfl, by decide, by decide +kernel⟩
theorem lo_29 {L : Nat} {xs : Nat → Int32} {n0 nc ns : Nat} {M : sm_M} (hL9 : L ≤ 2048) (h4 : n0 + 4 ≤ L) (hnc : nc ≤ 599000) (hns : ns ≤ 6990000) {I : sm_M → Prop} (hp : lp_r (fun F M => f_X11_exchange F (xs (n0 + 1)) (xs (n0 + 2)) M) (fun F M => f_X12_exchange F (xs (n0 + 1)) (xs (n0 + 2)) M) I M ∨ lp_x "java/lang/IllegalArgumentException" 1 (fun F M => f_X11_exchange F (xs (n0 + 1)) (xs (n0 + 2)) M) (fun F M => f_X12_exchange F (xs (n0 + 1)) (xs (n0 + 2)) M) I M) (k : ∀ M2, I M2 → lj_J L xs 1900 (lj_l0 n0) [] M2 (nc + 1) (ns + 6)) : lj_J L xs 1255 (lj_l0 n0) [] M nc ns := by
  rcases hp with ⟨F, G, v, M1, M2, h1, h2, h3, h5, hI⟩ | ⟨F, G, w, M1, M2, h1, h2, h3, hI⟩
  · skip
    refine lj_aload_n (q := 1256) dl_1255 rfl rfl ?_
    refine lj_aload_n (q := 1257) dl_1256 rfl rfl ?_
    refine lj_iload (q := 1259) dl_1257 rfl rfl ?_
    refine lj_iconst (q := 1260) (v := 1) dl_1259 rfl (by decide) ?_
    refine lj_iadd (q := 1261) dl_1260 rfl ?_
    refine lj_sld (q := 1262) (t := 1) dl_1261 rfl hL9 (by omega) rfl ?_
    refine lj_aload_n (q := 1263) dl_1262 rfl rfl ?_
    refine lj_iload (q := 1265) dl_1263 rfl rfl ?_
    refine lj_iconst (q := 1266) (v := 2) dl_1265 rfl (by decide) ?_
    refine lj_iadd (q := 1267) dl_1266 rfl ?_
    refine lj_sld (q := 1268) (t := 2) dl_1267 rfl hL9 (by omega) rfl ?_
    refine lj_aload_n (q := 1269) dl_1268 rfl rfl ?_
    refine lj_callH (q := 1272) [] [.ref 0, .int (xs (n0 + 1)), .int (xs (n0 + 2)), .ref 102] dl_1269 rfl lh_29 rfl (Nat.le_of_ble_eq_true rfl) (Nat.le_of_ble_eq_true rfl) (by omega) (by omega) (hR_L_exchange lj_x lj_102 (xs (n0 + 1)) (xs (n0 + 2)) (c_X11_exchange lj_x F (xs (n0 + 1)) (xs (n0 + 2)) M (.inl (some (.int v)), M1) h1)) ?_
    refine lj_istore (q := 1274) (lt := [some (.ref 103), some (.ref 0), some (.ref 80), some (.ref 102), some (.int (Int32.ofNat n0)), some (.int 0), none, none]) dl_1272 rfl (Nat.le_of_ble_eq_true rfl) rfl rfl ?_
    refine lj_aload_n (q := 1275) dl_1274 rfl rfl ?_
    refine lj_aload_n (q := 1276) dl_1275 rfl rfl ?_
    refine lj_iload (q := 1278) dl_1276 rfl rfl ?_
    refine lj_iconst (q := 1279) (v := 1) dl_1278 rfl (by decide) ?_
    refine lj_iadd (q := 1280) dl_1279 rfl ?_
    refine lj_sld (q := 1281) (t := 1) dl_1280 rfl hL9 (by omega) rfl ?_
    refine lj_aload_n (q := 1282) dl_1281 rfl rfl ?_
    refine lj_iload (q := 1284) dl_1282 rfl rfl ?_
    refine lj_iconst (q := 1285) (v := 2) dl_1284 rfl (by decide) ?_
    refine lj_iadd (q := 1286) dl_1285 rfl ?_
    refine lj_sld (q := 1287) (t := 2) dl_1286 rfl hL9 (by omega) rfl ?_
    refine lj_callV (q := 1290) [] [.int (xs (n0 + 1)), .int (xs (n0 + 2))] dl_1287 rfl lv_226 lj_80 rfl rfl rfl (Nat.le_of_ble_eq_true rfl) (Nat.le_of_ble_eq_true rfl) (by omega) (by omega) (c_X12_exchange lj_m G (xs (n0 + 1)) (xs (n0 + 2)) _ (v, M2) h2) ?_
    refine lj_istore (q := 1292) (lt := [some (.ref 103), some (.ref 0), some (.ref 80), some (.ref 102), some (.int (Int32.ofNat n0)), some (.int 0), some (.int v), none]) dl_1290 rfl (Nat.le_of_ble_eq_true rfl) rfl rfl ?_
    refine lj_aload_n (q := 1293) dl_1292 rfl rfl ?_
    refine lj_callV (q := 1296) [] [] dl_1293 rfl lv_118 lj_80 rfl rfl rfl (Nat.le_of_ble_eq_true rfl) (Nat.le_of_ble_eq_true rfl) (by omega) (by omega) (c_X12_thrown lj_m 0 M2 _ (th_thrown M2)) ?_
    refine lj_iload (q := 1298) dl_1296 rfl rfl ?_
    refine lj_icmp_eq (q := 1301) (t := 1303) dl_1298 rfl rfl (fun _ => ?_) (fun h => absurd h3 h)
    refine lj_iload (q := 1305) dl_1303 rfl rfl ?_
    refine lj_if_ne (q := 1308) (t := 1320) dl_1305 rfl rfl (fun h => absurd rfl h) (fun _ => ?_)
    refine lj_aload_n (q := 1309) dl_1308 rfl rfl ?_
    refine lj_iconst (q := 1310) (v := 0) dl_1309 rfl (by decide) ?_
    refine lj_laload (q := 1311) dl_1310 rfl lj_102 (sm_ib_of rfl) ?_
    refine lj_iload (q := 1313) dl_1311 rfl rfl ?_
    refine lj_i2l (q := 1314) dl_1313 rfl ?_
    refine lj_lcmp (q := 1315) dl_1314 rfl ?_
    refine lj_if_eq (q := 1318) (t := 1320) dl_1315 rfl rfl (fun _ => ?_) (fun h => absurd (lj_cmp1 h5) h)
    refine lj_goto (t := 1900) dl_1320 rfl ?_
    refine lj_fg [5, 6] (lt := lj_l0 n0) rfl ?_
    exact k M2 hI
  · skip
    refine lj_aload_n (q := 1256) dl_1255 rfl rfl ?_
    refine lj_aload_n (q := 1257) dl_1256 rfl rfl ?_
    refine lj_iload (q := 1259) dl_1257 rfl rfl ?_
    refine lj_iconst (q := 1260) (v := 1) dl_1259 rfl (by decide) ?_
    refine lj_iadd (q := 1261) dl_1260 rfl ?_
    refine lj_sld (q := 1262) (t := 1) dl_1261 rfl hL9 (by omega) rfl ?_
    refine lj_aload_n (q := 1263) dl_1262 rfl rfl ?_
    refine lj_iload (q := 1265) dl_1263 rfl rfl ?_
    refine lj_iconst (q := 1266) (v := 2) dl_1265 rfl (by decide) ?_
    refine lj_iadd (q := 1267) dl_1266 rfl ?_
    refine lj_sld (q := 1268) (t := 2) dl_1267 rfl hL9 (by omega) rfl ?_
    refine lj_aload_n (q := 1269) dl_1268 rfl rfl ?_
    refine lj_callH (q := 1272) [] [.ref 0, .int (xs (n0 + 1)), .int (xs (n0 + 2)), .ref 102] dl_1269 rfl lh_29 rfl (Nat.le_of_ble_eq_true rfl) (Nat.le_of_ble_eq_true rfl) (by omega) (by omega) (hX1_L_exchange lj_x lj_102 (xs (n0 + 1)) (xs (n0 + 2)) (c_X11_exchange lj_x F (xs (n0 + 1)) (xs (n0 + 2)) M (.inr "java/lang/IllegalArgumentException", M1) h1)) ?_
    refine lj_istore (q := 1274) (lt := [some (.ref 103), some (.ref 0), some (.ref 80), some (.ref 102), some (.int (Int32.ofNat n0)), some (.int 1), none, none]) dl_1272 rfl (Nat.le_of_ble_eq_true rfl) rfl rfl ?_
    refine lj_aload_n (q := 1275) dl_1274 rfl rfl ?_
    refine lj_aload_n (q := 1276) dl_1275 rfl rfl ?_
    refine lj_iload (q := 1278) dl_1276 rfl rfl ?_
    refine lj_iconst (q := 1279) (v := 1) dl_1278 rfl (by decide) ?_
    refine lj_iadd (q := 1280) dl_1279 rfl ?_
    refine lj_sld (q := 1281) (t := 1) dl_1280 rfl hL9 (by omega) rfl ?_
    refine lj_aload_n (q := 1282) dl_1281 rfl rfl ?_
    refine lj_iload (q := 1284) dl_1282 rfl rfl ?_
    refine lj_iconst (q := 1285) (v := 2) dl_1284 rfl (by decide) ?_
    refine lj_iadd (q := 1286) dl_1285 rfl ?_
    refine lj_sld (q := 1287) (t := 2) dl_1286 rfl hL9 (by omega) rfl ?_
    refine lj_callV (q := 1290) [] [.int (xs (n0 + 1)), .int (xs (n0 + 2))] dl_1287 rfl lv_226 lj_80 rfl rfl rfl (Nat.le_of_ble_eq_true rfl) (Nat.le_of_ble_eq_true rfl) (by omega) (by omega) (c_X12_exchange lj_m G (xs (n0 + 1)) (xs (n0 + 2)) _ (w, M2) h2) ?_
    refine lj_istore (q := 1292) (lt := [some (.ref 103), some (.ref 0), some (.ref 80), some (.ref 102), some (.int (Int32.ofNat n0)), some (.int 1), some (.int w), none]) dl_1290 rfl (Nat.le_of_ble_eq_true rfl) rfl rfl ?_
    refine lj_aload_n (q := 1293) dl_1292 rfl rfl ?_
    refine lj_callV (q := 1296) [] [] dl_1293 rfl lv_118 lj_80 rfl rfl rfl (Nat.le_of_ble_eq_true rfl) (Nat.le_of_ble_eq_true rfl) (by omega) (by omega) (c_X12_thrown lj_m 0 M2 _ (th_thrown M2)) ?_
    refine lj_iload (q := 1298) dl_1296 rfl rfl ?_
    refine lj_icmp_eq (q := 1301) (t := 1303) dl_1298 rfl rfl (fun _ => ?_) (fun h => absurd h3 h)
    refine lj_iload (q := 1305) dl_1303 rfl rfl ?_
    refine lj_if_ne (q := 1308) (t := 1320) dl_1305 rfl rfl (fun _ => ?_) (fun h => absurd h (by decide))
    refine lj_goto (t := 1900) dl_1320 rfl ?_
    refine lj_fg [5, 6] (lt := lj_l0 n0) rfl ?_
    exact k M2 hI
theorem lv_227 : sm_LV RL 227 yX11_extendGreedily md_X11_extendGreedily 0 := ⟨sm_w (List.mem_of_getElem? (i := 628) (by decide +kernel)) rfl, sm_w (List.mem_of_getElem? (i := 629) (by decide +kernel)) rfl, sm_w (List.mem_of_getElem? (i := 630) (by decide +kernel)) rfl, sm_w (List.mem_of_getElem? (i := 59) (by decide +kernel)) rfl, sm_w (List.mem_of_getElem? (i := 631) (by decide +kernel)) rfl, by decide, by decide +kernel⟩
theorem lv_230 : sm_LV RL 230 yX12_extendGreedily md_X12_extendGreedily 0 := ⟨sm_w (List.mem_of_getElem? (i := 1501) (by decide +kernel)) rfl, sm_w (List.mem_of_getElem? (i := 1502) (by decide +kernel)) rfl, sm_w (List.mem_of_getElem? (i := 1503) (by decide +kernel)) rfl, sm_w (List.mem_of_getElem? (i := 75) (by decide +kernel)) rfl, sm_w (List.mem_of_getElem? (i := 1504) (by decide +kernel)) rfl, by decide, by decide +kernel⟩
theorem lo_30 {L : Nat} {xs : Nat → Int32} {n0 nc ns : Nat} {M : sm_M} (hL9 : L ≤ 2048) (h4 : n0 + 4 ≤ L) (hnc : nc ≤ 599000) (hns : ns ≤ 6990000) {I : sm_M → Prop} (hp : lp_d (fun F M => f_X11_extendGreedily F M) (fun F M => f_X12_extendGreedily F M) I M) (k : ∀ M2, I M2 → lj_J L xs 1900 (lj_l0 n0) [] M2 (nc + 1) (ns + 6)) : lj_J L xs 1323 (lj_l0 n0) [] M nc ns := by
  obtain ⟨F, G, v, M1, M2, h1, h2, hI⟩ := hp
  refine lj_aload_n (q := 1324) dl_1323 rfl rfl ?_
  refine lj_callV (q := 1327) [] [] dl_1324 rfl lv_227 lj_0 rfl rfl rfl (Nat.le_of_ble_eq_true rfl) (Nat.le_of_ble_eq_true rfl) (by omega) (by omega) (c_X11_extendGreedily lj_x F M (v, M1) h1) ?_
  refine lj_aload_n (q := 1328) dl_1327 rfl rfl ?_
  refine lj_callV (q := 1331) [.int v] [] dl_1328 rfl lv_230 lj_80 rfl rfl rfl (Nat.le_of_ble_eq_true rfl) (Nat.le_of_ble_eq_true rfl) (by omega) (by omega) (c_X12_extendGreedily lj_m G _ (v, M2) h2) ?_
  refine lj_icmp_eq (q := 1334) (t := 1900) dl_1331 rfl rfl (fun _ => ?_) (fun h => absurd rfl h)
  exact lj_wide (Nat.le_add_right _ _) (Nat.le_add_right _ _) (k M2 hI)
theorem lh_31 : lj_LH 231 yL_search md_L_search hh_L_search 3 := ⟨sm_w (List.mem_of_getElem? (i := 960) (by decide +kernel)) rfl, sm_w (List.mem_of_getElem? (i := 961) (by decide +kernel)) rfl, sm_w (List.mem_of_getElem? (i := 58) (by decide +kernel)) rfl, sm_w (List.mem_of_getElem? (i := 962) (by decide +kernel)) rfl, by decide, by decide +kernel, by decide +kernel⟩
theorem lv_233 : sm_LV RL 233 yX12_search md_X12_search 1 := ⟨sm_w (List.mem_of_getElem? (i := 1517) (by decide +kernel)) rfl, sm_w (List.mem_of_getElem? (i := 1518) (by decide +kernel)) rfl, sm_w (List.mem_of_getElem? (i := 1519) (by decide +kernel)) rfl, sm_w (List.mem_of_getElem? (i := 75) (by decide +kernel)) rfl, sm_w (List.mem_of_getElem? (i := 1520) (by decide +kernel)) rfl, by decide, by decide +kernel⟩
theorem lo_31 {L : Nat} {xs : Nat → Int32} {n0 nc ns : Nat} {M : sm_M} (hL9 : L ≤ 2048) (h4 : n0 + 4 ≤ L) (hnc : nc ≤ 599000) (hns : ns ≤ 6990000) {I : sm_M → Prop} (hp : lp_r (fun F M => f_X11_search F (xs (n0 + 1)) M) (fun F M => f_X12_search F (xs (n0 + 1)) M) I M ∨ lp_x "java/lang/IllegalArgumentException" 1 (fun F M => f_X11_search F (xs (n0 + 1)) M) (fun F M => f_X12_search F (xs (n0 + 1)) M) I M ∨ lp_x "java/lang/IllegalStateException" 2 (fun F M => f_X11_search F (xs (n0 + 1)) M) (fun F M => f_X12_search F (xs (n0 + 1)) M) I M ∨ lp_x "java/util/NoSuchElementException" 3 (fun F M => f_X11_search F (xs (n0 + 1)) M) (fun F M => f_X12_search F (xs (n0 + 1)) M) I M) (k : ∀ M2, I M2 → lj_J L xs 1900 (lj_l0 n0) [] M2 (nc + 1) (ns + 6)) : lj_J L xs 1336 (lj_l0 n0) [] M nc ns := by
  rcases hp with ⟨F, G, v, M1, M2, h1, h2, h3, h5, hI⟩ | ⟨F, G, w, M1, M2, h1, h2, h3, hI⟩ | ⟨F, G, w, M1, M2, h1, h2, h3, hI⟩ | ⟨F, G, w, M1, M2, h1, h2, h3, hI⟩
  · skip
    refine lj_aload_n (q := 1337) dl_1336 rfl rfl ?_
    refine lj_aload_n (q := 1338) dl_1337 rfl rfl ?_
    refine lj_iload (q := 1340) dl_1338 rfl rfl ?_
    refine lj_iconst (q := 1341) (v := 1) dl_1340 rfl (by decide) ?_
    refine lj_iadd (q := 1342) dl_1341 rfl ?_
    refine lj_sld (q := 1343) (t := 1) dl_1342 rfl hL9 (by omega) rfl ?_
    refine lj_aload_n (q := 1344) dl_1343 rfl rfl ?_
    refine lj_callH (q := 1347) [] [.ref 0, .int (xs (n0 + 1)), .ref 102] dl_1344 rfl lh_31 rfl (Nat.le_of_ble_eq_true rfl) (Nat.le_of_ble_eq_true rfl) (by omega) (by omega) (hR_L_search lj_x lj_102 (xs (n0 + 1)) (c_X11_search lj_x F (xs (n0 + 1)) M (.inl (some (.int v)), M1) h1)) ?_
    refine lj_istore (q := 1349) (lt := [some (.ref 103), some (.ref 0), some (.ref 80), some (.ref 102), some (.int (Int32.ofNat n0)), some (.int 0), none, none]) dl_1347 rfl (Nat.le_of_ble_eq_true rfl) rfl rfl ?_
    refine lj_aload_n (q := 1350) dl_1349 rfl rfl ?_
    refine lj_aload_n (q := 1351) dl_1350 rfl rfl ?_
    refine lj_iload (q := 1353) dl_1351 rfl rfl ?_
    refine lj_iconst (q := 1354) (v := 1) dl_1353 rfl (by decide) ?_
    refine lj_iadd (q := 1355) dl_1354 rfl ?_
    refine lj_sld (q := 1356) (t := 1) dl_1355 rfl hL9 (by omega) rfl ?_
    refine lj_callV (q := 1359) [] [.int (xs (n0 + 1))] dl_1356 rfl lv_233 lj_80 rfl rfl rfl (Nat.le_of_ble_eq_true rfl) (Nat.le_of_ble_eq_true rfl) (by omega) (by omega) (c_X12_search lj_m G (xs (n0 + 1)) _ (v, M2) h2) ?_
    refine lj_istore (q := 1361) (lt := [some (.ref 103), some (.ref 0), some (.ref 80), some (.ref 102), some (.int (Int32.ofNat n0)), some (.int 0), some (.int v), none]) dl_1359 rfl (Nat.le_of_ble_eq_true rfl) rfl rfl ?_
    refine lj_aload_n (q := 1362) dl_1361 rfl rfl ?_
    refine lj_callV (q := 1365) [] [] dl_1362 rfl lv_118 lj_80 rfl rfl rfl (Nat.le_of_ble_eq_true rfl) (Nat.le_of_ble_eq_true rfl) (by omega) (by omega) (c_X12_thrown lj_m 0 M2 _ (th_thrown M2)) ?_
    refine lj_iload (q := 1367) dl_1365 rfl rfl ?_
    refine lj_icmp_eq (q := 1370) (t := 1372) dl_1367 rfl rfl (fun _ => ?_) (fun h => absurd h3 h)
    refine lj_iload (q := 1374) dl_1372 rfl rfl ?_
    refine lj_if_ne (q := 1377) (t := 1389) dl_1374 rfl rfl (fun h => absurd rfl h) (fun _ => ?_)
    refine lj_aload_n (q := 1378) dl_1377 rfl rfl ?_
    refine lj_iconst (q := 1379) (v := 0) dl_1378 rfl (by decide) ?_
    refine lj_laload (q := 1380) dl_1379 rfl lj_102 (sm_ib_of rfl) ?_
    refine lj_iload (q := 1382) dl_1380 rfl rfl ?_
    refine lj_i2l (q := 1383) dl_1382 rfl ?_
    refine lj_lcmp (q := 1384) dl_1383 rfl ?_
    refine lj_if_eq (q := 1387) (t := 1389) dl_1384 rfl rfl (fun _ => ?_) (fun h => absurd (lj_cmp1 h5) h)
    refine lj_goto (t := 1900) dl_1389 rfl ?_
    refine lj_fg [5, 6] (lt := lj_l0 n0) rfl ?_
    exact k M2 hI
  · skip
    refine lj_aload_n (q := 1337) dl_1336 rfl rfl ?_
    refine lj_aload_n (q := 1338) dl_1337 rfl rfl ?_
    refine lj_iload (q := 1340) dl_1338 rfl rfl ?_
    refine lj_iconst (q := 1341) (v := 1) dl_1340 rfl (by decide) ?_
    refine lj_iadd (q := 1342) dl_1341 rfl ?_
    refine lj_sld (q := 1343) (t := 1) dl_1342 rfl hL9 (by omega) rfl ?_
    refine lj_aload_n (q := 1344) dl_1343 rfl rfl ?_
    refine lj_callH (q := 1347) [] [.ref 0, .int (xs (n0 + 1)), .ref 102] dl_1344 rfl lh_31 rfl (Nat.le_of_ble_eq_true rfl) (Nat.le_of_ble_eq_true rfl) (by omega) (by omega) (hX1_L_search lj_x lj_102 (xs (n0 + 1)) (c_X11_search lj_x F (xs (n0 + 1)) M (.inr "java/lang/IllegalArgumentException", M1) h1)) ?_
    refine lj_istore (q := 1349) (lt := [some (.ref 103), some (.ref 0), some (.ref 80), some (.ref 102), some (.int (Int32.ofNat n0)), some (.int 1), none, none]) dl_1347 rfl (Nat.le_of_ble_eq_true rfl) rfl rfl ?_
    refine lj_aload_n (q := 1350) dl_1349 rfl rfl ?_
    refine lj_aload_n (q := 1351) dl_1350 rfl rfl ?_
    refine lj_iload (q := 1353) dl_1351 rfl rfl ?_
    refine lj_iconst (q := 1354) (v := 1) dl_1353 rfl (by decide) ?_
    refine lj_iadd (q := 1355) dl_1354 rfl ?_
    refine lj_sld (q := 1356) (t := 1) dl_1355 rfl hL9 (by omega) rfl ?_
    refine lj_callV (q := 1359) [] [.int (xs (n0 + 1))] dl_1356 rfl lv_233 lj_80 rfl rfl rfl (Nat.le_of_ble_eq_true rfl) (Nat.le_of_ble_eq_true rfl) (by omega) (by omega) (c_X12_search lj_m G (xs (n0 + 1)) _ (w, M2) h2) ?_
    refine lj_istore (q := 1361) (lt := [some (.ref 103), some (.ref 0), some (.ref 80), some (.ref 102), some (.int (Int32.ofNat n0)), some (.int 1), some (.int w), none]) dl_1359 rfl (Nat.le_of_ble_eq_true rfl) rfl rfl ?_
    refine lj_aload_n (q := 1362) dl_1361 rfl rfl ?_
    refine lj_callV (q := 1365) [] [] dl_1362 rfl lv_118 lj_80 rfl rfl rfl (Nat.le_of_ble_eq_true rfl) (Nat.le_of_ble_eq_true rfl) (by omega) (by omega) (c_X12_thrown lj_m 0 M2 _ (th_thrown M2)) ?_
    refine lj_iload (q := 1367) dl_1365 rfl rfl ?_
    refine lj_icmp_eq (q := 1370) (t := 1372) dl_1367 rfl rfl (fun _ => ?_) (fun h => absurd h3 h)
    refine lj_iload (q := 1374) dl_1372 rfl rfl ?_
    refine lj_if_ne (q := 1377) (t := 1389) dl_1374 rfl rfl (fun _ => ?_) (fun h => absurd h (by decide))
    refine lj_goto (t := 1900) dl_1389 rfl ?_
    refine lj_fg [5, 6] (lt := lj_l0 n0) rfl ?_
    exact k M2 hI
  · skip
    refine lj_aload_n (q := 1337) dl_1336 rfl rfl ?_
    refine lj_aload_n (q := 1338) dl_1337 rfl rfl ?_
    refine lj_iload (q := 1340) dl_1338 rfl rfl ?_
    refine lj_iconst (q := 1341) (v := 1) dl_1340 rfl (by decide) ?_
    refine lj_iadd (q := 1342) dl_1341 rfl ?_
    refine lj_sld (q := 1343) (t := 1) dl_1342 rfl hL9 (by omega) rfl ?_
    refine lj_aload_n (q := 1344) dl_1343 rfl rfl ?_
    refine lj_callH (q := 1347) [] [.ref 0, .int (xs (n0 + 1)), .ref 102] dl_1344 rfl lh_31 rfl (Nat.le_of_ble_eq_true rfl) (Nat.le_of_ble_eq_true rfl) (by omega) (by omega) (hX2_L_search lj_x lj_102 (xs (n0 + 1)) (c_X11_search lj_x F (xs (n0 + 1)) M (.inr "java/lang/IllegalStateException", M1) h1)) ?_
    refine lj_istore (q := 1349) (lt := [some (.ref 103), some (.ref 0), some (.ref 80), some (.ref 102), some (.int (Int32.ofNat n0)), some (.int 2), none, none]) dl_1347 rfl (Nat.le_of_ble_eq_true rfl) rfl rfl ?_
    refine lj_aload_n (q := 1350) dl_1349 rfl rfl ?_
    refine lj_aload_n (q := 1351) dl_1350 rfl rfl ?_
    refine lj_iload (q := 1353) dl_1351 rfl rfl ?_
    refine lj_iconst (q := 1354) (v := 1) dl_1353 rfl (by decide) ?_
    refine lj_iadd (q := 1355) dl_1354 rfl ?_
    refine lj_sld (q := 1356) (t := 1) dl_1355 rfl hL9 (by omega) rfl ?_
    refine lj_callV (q := 1359) [] [.int (xs (n0 + 1))] dl_1356 rfl lv_233 lj_80 rfl rfl rfl (Nat.le_of_ble_eq_true rfl) (Nat.le_of_ble_eq_true rfl) (by omega) (by omega) (c_X12_search lj_m G (xs (n0 + 1)) _ (w, M2) h2) ?_
    refine lj_istore (q := 1361) (lt := [some (.ref 103), some (.ref 0), some (.ref 80), some (.ref 102), some (.int (Int32.ofNat n0)), some (.int 2), some (.int w), none]) dl_1359 rfl (Nat.le_of_ble_eq_true rfl) rfl rfl ?_
    refine lj_aload_n (q := 1362) dl_1361 rfl rfl ?_
    refine lj_callV (q := 1365) [] [] dl_1362 rfl lv_118 lj_80 rfl rfl rfl (Nat.le_of_ble_eq_true rfl) (Nat.le_of_ble_eq_true rfl) (by omega) (by omega) (c_X12_thrown lj_m 0 M2 _ (th_thrown M2)) ?_
    refine lj_iload (q := 1367) dl_1365 rfl rfl ?_
    refine lj_icmp_eq (q := 1370) (t := 1372) dl_1367 rfl rfl (fun _ => ?_) (fun h => absurd h3 h)
    refine lj_iload (q := 1374) dl_1372 rfl rfl ?_
    refine lj_if_ne (q := 1377) (t := 1389) dl_1374 rfl rfl (fun _ => ?_) (fun h => absurd h (by decide))
    refine lj_goto (t := 1900) dl_1389 rfl ?_
    refine lj_fg [5, 6] (lt := lj_l0 n0) rfl ?_
    exact k M2 hI
  · skip
    refine lj_aload_n (q := 1337) dl_1336 rfl rfl ?_
    refine lj_aload_n (q := 1338) dl_1337 rfl rfl ?_
    refine lj_iload (q := 1340) dl_1338 rfl rfl ?_
    refine lj_iconst (q := 1341) (v := 1) dl_1340 rfl (by decide) ?_
    refine lj_iadd (q := 1342) dl_1341 rfl ?_
    refine lj_sld (q := 1343) (t := 1) dl_1342 rfl hL9 (by omega) rfl ?_
    refine lj_aload_n (q := 1344) dl_1343 rfl rfl ?_
    refine lj_callH (q := 1347) [] [.ref 0, .int (xs (n0 + 1)), .ref 102] dl_1344 rfl lh_31 rfl (Nat.le_of_ble_eq_true rfl) (Nat.le_of_ble_eq_true rfl) (by omega) (by omega) (hX3_L_search lj_x lj_102 (xs (n0 + 1)) (c_X11_search lj_x F (xs (n0 + 1)) M (.inr "java/util/NoSuchElementException", M1) h1)) ?_
    refine lj_istore (q := 1349) (lt := [some (.ref 103), some (.ref 0), some (.ref 80), some (.ref 102), some (.int (Int32.ofNat n0)), some (.int 3), none, none]) dl_1347 rfl (Nat.le_of_ble_eq_true rfl) rfl rfl ?_
    refine lj_aload_n (q := 1350) dl_1349 rfl rfl ?_
    refine lj_aload_n (q := 1351) dl_1350 rfl rfl ?_
    refine lj_iload (q := 1353) dl_1351 rfl rfl ?_
    refine lj_iconst (q := 1354) (v := 1) dl_1353 rfl (by decide) ?_
    refine lj_iadd (q := 1355) dl_1354 rfl ?_
    refine lj_sld (q := 1356) (t := 1) dl_1355 rfl hL9 (by omega) rfl ?_
    refine lj_callV (q := 1359) [] [.int (xs (n0 + 1))] dl_1356 rfl lv_233 lj_80 rfl rfl rfl (Nat.le_of_ble_eq_true rfl) (Nat.le_of_ble_eq_true rfl) (by omega) (by omega) (c_X12_search lj_m G (xs (n0 + 1)) _ (w, M2) h2) ?_
    refine lj_istore (q := 1361) (lt := [some (.ref 103), some (.ref 0), some (.ref 80), some (.ref 102), some (.int (Int32.ofNat n0)), some (.int 3), some (.int w), none]) dl_1359 rfl (Nat.le_of_ble_eq_true rfl) rfl rfl ?_
    refine lj_aload_n (q := 1362) dl_1361 rfl rfl ?_
    refine lj_callV (q := 1365) [] [] dl_1362 rfl lv_118 lj_80 rfl rfl rfl (Nat.le_of_ble_eq_true rfl) (Nat.le_of_ble_eq_true rfl) (by omega) (by omega) (c_X12_thrown lj_m 0 M2 _ (th_thrown M2)) ?_
    refine lj_iload (q := 1367) dl_1365 rfl rfl ?_
    refine lj_icmp_eq (q := 1370) (t := 1372) dl_1367 rfl rfl (fun _ => ?_) (fun h => absurd h3 h)
    refine lj_iload (q := 1374) dl_1372 rfl rfl ?_
    refine lj_if_ne (q := 1377) (t := 1389) dl_1374 rfl rfl (fun _ => ?_) (fun h => absurd h (by decide))
    refine lj_goto (t := 1900) dl_1389 rfl ?_
    refine lj_fg [5, 6] (lt := lj_l0 n0) rfl ?_
    exact k M2 hI
theorem lh_32 : lj_LH 234 yL_vertexCount md_L_vertexCount hh_L_vertexCount 2 := ⟨sm_w (List.mem_of_getElem? (i := 1001) (by decide +kernel)) rfl, sm_w (List.mem_of_getElem? (i := 1002) (by decide +kernel)) rfl, sm_w (List.mem_of_getElem? (i := 58) (by decide +kernel)) rfl, sm_w (List.mem_of_getElem? (i := 1003) (by decide +kernel)) rfl, by decide, by decide +kernel, by decide +kernel⟩
theorem lv_236 : sm_LV RL 236 yX12_vertexCount md_X12_vertexCount 0 := ⟨sm_w (List.mem_of_getElem? (i := 1530) (by decide +kernel)) rfl, sm_w (List.mem_of_getElem? (i := 1531) (by decide +kernel)) rfl, sm_w (List.mem_of_getElem? (i := 1532) (by decide +kernel)) rfl, sm_w (List.mem_of_getElem? (i := 75) (by decide +kernel)) rfl, sm_w (List.mem_of_getElem? (i := 1533) (by decide +kernel)) rfl, by decide, by decide +kernel⟩
theorem lo_32 {L : Nat} {xs : Nat → Int32} {n0 nc ns : Nat} {M : sm_M} (hL9 : L ≤ 2048) (h4 : n0 + 4 ≤ L) (hnc : nc ≤ 599000) (hns : ns ≤ 6990000) {I : sm_M → Prop} (hp : lp_r (fun F M => f_X11_vertexCount F M) (fun F M => f_X12_vertexCount F M) I M ∨ lp_x "java/lang/UnsupportedOperationException" 1 (fun F M => f_X11_vertexCount F M) (fun F M => f_X12_vertexCount F M) I M) (k : ∀ M2, I M2 → lj_J L xs 1900 (lj_l0 n0) [] M2 (nc + 1) (ns + 6)) : lj_J L xs 1392 (lj_l0 n0) [] M nc ns := by
  rcases hp with ⟨F, G, v, M1, M2, h1, h2, h3, h5, hI⟩ | ⟨F, G, w, M1, M2, h1, h2, h3, hI⟩
  · skip
    refine lj_aload_n (q := 1393) dl_1392 rfl rfl ?_
    refine lj_aload_n (q := 1394) dl_1393 rfl rfl ?_
    refine lj_callH (q := 1397) [] [.ref 0, .ref 102] dl_1394 rfl lh_32 rfl (Nat.le_of_ble_eq_true rfl) (Nat.le_of_ble_eq_true rfl) (by omega) (by omega) (hR_L_vertexCount lj_x lj_102 (c_X11_vertexCount lj_x F M (.inl (some (.int v)), M1) h1)) ?_
    refine lj_istore (q := 1399) (lt := [some (.ref 103), some (.ref 0), some (.ref 80), some (.ref 102), some (.int (Int32.ofNat n0)), some (.int 0), none, none]) dl_1397 rfl (Nat.le_of_ble_eq_true rfl) rfl rfl ?_
    refine lj_aload_n (q := 1400) dl_1399 rfl rfl ?_
    refine lj_callV (q := 1403) [] [] dl_1400 rfl lv_236 lj_80 rfl rfl rfl (Nat.le_of_ble_eq_true rfl) (Nat.le_of_ble_eq_true rfl) (by omega) (by omega) (c_X12_vertexCount lj_m G _ (v, M2) h2) ?_
    refine lj_istore (q := 1405) (lt := [some (.ref 103), some (.ref 0), some (.ref 80), some (.ref 102), some (.int (Int32.ofNat n0)), some (.int 0), some (.int v), none]) dl_1403 rfl (Nat.le_of_ble_eq_true rfl) rfl rfl ?_
    refine lj_aload_n (q := 1406) dl_1405 rfl rfl ?_
    refine lj_callV (q := 1409) [] [] dl_1406 rfl lv_118 lj_80 rfl rfl rfl (Nat.le_of_ble_eq_true rfl) (Nat.le_of_ble_eq_true rfl) (by omega) (by omega) (c_X12_thrown lj_m 0 M2 _ (th_thrown M2)) ?_
    refine lj_iload (q := 1411) dl_1409 rfl rfl ?_
    refine lj_icmp_eq (q := 1414) (t := 1416) dl_1411 rfl rfl (fun _ => ?_) (fun h => absurd h3 h)
    refine lj_iload (q := 1418) dl_1416 rfl rfl ?_
    refine lj_if_ne (q := 1421) (t := 1433) dl_1418 rfl rfl (fun h => absurd rfl h) (fun _ => ?_)
    refine lj_aload_n (q := 1422) dl_1421 rfl rfl ?_
    refine lj_iconst (q := 1423) (v := 0) dl_1422 rfl (by decide) ?_
    refine lj_laload (q := 1424) dl_1423 rfl lj_102 (sm_ib_of rfl) ?_
    refine lj_iload (q := 1426) dl_1424 rfl rfl ?_
    refine lj_i2l (q := 1427) dl_1426 rfl ?_
    refine lj_lcmp (q := 1428) dl_1427 rfl ?_
    refine lj_if_eq (q := 1431) (t := 1433) dl_1428 rfl rfl (fun _ => ?_) (fun h => absurd (lj_cmp1 h5) h)
    refine lj_goto (t := 1900) dl_1433 rfl ?_
    refine lj_fg [5, 6] (lt := lj_l0 n0) rfl ?_
    exact k M2 hI
  · skip
    refine lj_aload_n (q := 1393) dl_1392 rfl rfl ?_
    refine lj_aload_n (q := 1394) dl_1393 rfl rfl ?_
    refine lj_callH (q := 1397) [] [.ref 0, .ref 102] dl_1394 rfl lh_32 rfl (Nat.le_of_ble_eq_true rfl) (Nat.le_of_ble_eq_true rfl) (by omega) (by omega) (hX1_L_vertexCount lj_x lj_102 (c_X11_vertexCount lj_x F M (.inr "java/lang/UnsupportedOperationException", M1) h1)) ?_
    refine lj_istore (q := 1399) (lt := [some (.ref 103), some (.ref 0), some (.ref 80), some (.ref 102), some (.int (Int32.ofNat n0)), some (.int 1), none, none]) dl_1397 rfl (Nat.le_of_ble_eq_true rfl) rfl rfl ?_
    refine lj_aload_n (q := 1400) dl_1399 rfl rfl ?_
    refine lj_callV (q := 1403) [] [] dl_1400 rfl lv_236 lj_80 rfl rfl rfl (Nat.le_of_ble_eq_true rfl) (Nat.le_of_ble_eq_true rfl) (by omega) (by omega) (c_X12_vertexCount lj_m G _ (w, M2) h2) ?_
    refine lj_istore (q := 1405) (lt := [some (.ref 103), some (.ref 0), some (.ref 80), some (.ref 102), some (.int (Int32.ofNat n0)), some (.int 1), some (.int w), none]) dl_1403 rfl (Nat.le_of_ble_eq_true rfl) rfl rfl ?_
    refine lj_aload_n (q := 1406) dl_1405 rfl rfl ?_
    refine lj_callV (q := 1409) [] [] dl_1406 rfl lv_118 lj_80 rfl rfl rfl (Nat.le_of_ble_eq_true rfl) (Nat.le_of_ble_eq_true rfl) (by omega) (by omega) (c_X12_thrown lj_m 0 M2 _ (th_thrown M2)) ?_
    refine lj_iload (q := 1411) dl_1409 rfl rfl ?_
    refine lj_icmp_eq (q := 1414) (t := 1416) dl_1411 rfl rfl (fun _ => ?_) (fun h => absurd h3 h)
    refine lj_iload (q := 1418) dl_1416 rfl rfl ?_
    refine lj_if_ne (q := 1421) (t := 1433) dl_1418 rfl rfl (fun _ => ?_) (fun h => absurd h (by decide))
    refine lj_goto (t := 1900) dl_1433 rfl ?_
    refine lj_fg [5, 6] (lt := lj_l0 n0) rfl ?_
    exact k M2 hI

