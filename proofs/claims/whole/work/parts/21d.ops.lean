theorem lh_33 : lj_LH 237 yL_edgeEnd md_L_edgeEnd hh_L_edgeEnd 4 := ⟨sm_w (List.mem_of_getElem? (i := 1029) (by decide +kernel)) rfl, sm_w (List.mem_of_getElem? (i := 1030) (by decide +kernel)) rfl, sm_w (List.mem_of_getElem? (i := 58) (by decide +kernel)) rfl, sm_w (List.mem_of_getElem? (i := 1031) (by decide +kernel)) rfl, by decide, by decide +kernel, by decide +kernel⟩
theorem lv_240 : sm_LV RL 240 yX12_edgeEnd md_X12_edgeEnd 2 := ⟨sm_w (List.mem_of_getElem? (i := 1534) (by decide +kernel)) rfl, sm_w (List.mem_of_getElem? (i := 1535) (by decide +kernel)) rfl, sm_w (List.mem_of_getElem? (i := 1536) (by decide +kernel)) rfl, sm_w (List.mem_of_getElem? (i := 75) (by decide +kernel)) rfl, sm_w (List.mem_of_getElem? (i := 1537) (by decide +kernel)) rfl, by decide, by decide +kernel⟩
theorem lo_33T {L : Nat} {xs : Nat → Int32} {n0 nc ns : Nat} {M : sm_M} (hL9 : L ≤ 2048) (h4 : n0 + 4 ≤ L) (hnc : nc ≤ 599000) (hns : ns ≤ 6990000) {I : sm_M → Prop} (hz : xs (n0 + 2) = 0) (hp : lp_r (fun F M => f_X11_edgeEnd F (xs (n0 + 1)) (0 : Int32) M) (fun F M => f_X12_edgeEnd F (xs (n0 + 1)) (0 : Int32) M) I M ∨ lp_x "java/lang/UnsupportedOperationException" 1 (fun F M => f_X11_edgeEnd F (xs (n0 + 1)) (0 : Int32) M) (fun F M => f_X12_edgeEnd F (xs (n0 + 1)) (0 : Int32) M) I M ∨ lp_x "java/lang/IndexOutOfBoundsException" 2 (fun F M => f_X11_edgeEnd F (xs (n0 + 1)) (0 : Int32) M) (fun F M => f_X12_edgeEnd F (xs (n0 + 1)) (0 : Int32) M) I M) (k : ∀ M2, I M2 → lj_J L xs 1900 (lj_l0 n0) [] M2 (nc + 1) (ns + 6)) : lj_J L xs 1436 (lj_l0 n0) [] M nc ns := by
  rcases hp with ⟨F, G, v, M1, M2, h1, h2, h3, h5, hI⟩ | ⟨F, G, w, M1, M2, h1, h2, h3, hI⟩ | ⟨F, G, w, M1, M2, h1, h2, h3, hI⟩
  · skip
    refine lj_aload_n (q := 1437) dl_1436 rfl rfl ?_
    refine lj_aload_n (q := 1438) dl_1437 rfl rfl ?_
    refine lj_iload (q := 1440) dl_1438 rfl rfl ?_
    refine lj_iconst (q := 1441) (v := 1) dl_1440 rfl (by decide) ?_
    refine lj_iadd (q := 1442) dl_1441 rfl ?_
    refine lj_sld (q := 1443) (t := 1) dl_1442 rfl hL9 (by omega) rfl ?_
    refine lj_aload_n (q := 1444) dl_1443 rfl rfl ?_
    refine lj_iload (q := 1446) dl_1444 rfl rfl ?_
    refine lj_iconst (q := 1447) (v := 2) dl_1446 rfl (by decide) ?_
    refine lj_iadd (q := 1448) dl_1447 rfl ?_
    refine lj_sld (q := 1449) (t := 2) dl_1448 rfl hL9 (by omega) rfl ?_
    refine lj_if_eq (q := 1452) (t := 1456) dl_1449 rfl rfl (fun _ => ?_) (fun h => absurd hz h)
    refine lj_iconst (q := 1457) (v := 0) dl_1456 rfl (by decide) ?_
    refine lj_aload_n (q := 1458) dl_1457 rfl rfl ?_
    refine lj_callH (q := 1461) [] [.ref 0, .int (xs (n0 + 1)), .int (0 : Int32), .ref 102] dl_1458 rfl lh_33 rfl (Nat.le_of_ble_eq_true rfl) (Nat.le_of_ble_eq_true rfl) (by omega) (by omega) (hR_L_edgeEnd lj_x lj_102 (xs (n0 + 1)) (0 : Int32) (c_X11_edgeEnd lj_x F (xs (n0 + 1)) (0 : Int32) M (.inl (some (.int v)), M1) h1)) ?_
    refine lj_istore (q := 1463) (lt := [some (.ref 103), some (.ref 0), some (.ref 80), some (.ref 102), some (.int (Int32.ofNat n0)), some (.int 0), none, none]) dl_1461 rfl (Nat.le_of_ble_eq_true rfl) rfl rfl ?_
    refine lj_aload_n (q := 1464) dl_1463 rfl rfl ?_
    refine lj_aload_n (q := 1465) dl_1464 rfl rfl ?_
    refine lj_iload (q := 1467) dl_1465 rfl rfl ?_
    refine lj_iconst (q := 1468) (v := 1) dl_1467 rfl (by decide) ?_
    refine lj_iadd (q := 1469) dl_1468 rfl ?_
    refine lj_sld (q := 1470) (t := 1) dl_1469 rfl hL9 (by omega) rfl ?_
    refine lj_aload_n (q := 1471) dl_1470 rfl rfl ?_
    refine lj_iload (q := 1473) dl_1471 rfl rfl ?_
    refine lj_iconst (q := 1474) (v := 2) dl_1473 rfl (by decide) ?_
    refine lj_iadd (q := 1475) dl_1474 rfl ?_
    refine lj_sld (q := 1476) (t := 2) dl_1475 rfl hL9 (by omega) rfl ?_
    refine lj_if_eq (q := 1479) (t := 1483) dl_1476 rfl rfl (fun _ => ?_) (fun h => absurd hz h)
    refine lj_iconst (q := 1484) (v := 0) dl_1483 rfl (by decide) ?_
    refine lj_callV (q := 1487) [] [.int (xs (n0 + 1)), .int (0 : Int32)] dl_1484 rfl lv_240 lj_80 rfl rfl rfl (Nat.le_of_ble_eq_true rfl) (Nat.le_of_ble_eq_true rfl) (by omega) (by omega) (c_X12_edgeEnd lj_m G (xs (n0 + 1)) (0 : Int32) _ (v, M2) h2) ?_
    refine lj_istore (q := 1489) (lt := [some (.ref 103), some (.ref 0), some (.ref 80), some (.ref 102), some (.int (Int32.ofNat n0)), some (.int 0), some (.int v), none]) dl_1487 rfl (Nat.le_of_ble_eq_true rfl) rfl rfl ?_
    refine lj_aload_n (q := 1490) dl_1489 rfl rfl ?_
    refine lj_callV (q := 1493) [] [] dl_1490 rfl lv_118 lj_80 rfl rfl rfl (Nat.le_of_ble_eq_true rfl) (Nat.le_of_ble_eq_true rfl) (by omega) (by omega) (c_X12_thrown lj_m 0 M2 _ (th_thrown M2)) ?_
    refine lj_iload (q := 1495) dl_1493 rfl rfl ?_
    refine lj_icmp_eq (q := 1498) (t := 1500) dl_1495 rfl rfl (fun _ => ?_) (fun h => absurd h3 h)
    refine lj_iload (q := 1502) dl_1500 rfl rfl ?_
    refine lj_if_ne (q := 1505) (t := 1517) dl_1502 rfl rfl (fun h => absurd rfl h) (fun _ => ?_)
    refine lj_aload_n (q := 1506) dl_1505 rfl rfl ?_
    refine lj_iconst (q := 1507) (v := 0) dl_1506 rfl (by decide) ?_
    refine lj_laload (q := 1508) dl_1507 rfl lj_102 (sm_ib_of rfl) ?_
    refine lj_iload (q := 1510) dl_1508 rfl rfl ?_
    refine lj_i2l (q := 1511) dl_1510 rfl ?_
    refine lj_lcmp (q := 1512) dl_1511 rfl ?_
    refine lj_if_eq (q := 1515) (t := 1517) dl_1512 rfl rfl (fun _ => ?_) (fun h => absurd (lj_cmp1 h5) h)
    refine lj_goto (t := 1900) dl_1517 rfl ?_
    refine lj_fg [5, 6] (lt := lj_l0 n0) rfl ?_
    exact k M2 hI
  · skip
    refine lj_aload_n (q := 1437) dl_1436 rfl rfl ?_
    refine lj_aload_n (q := 1438) dl_1437 rfl rfl ?_
    refine lj_iload (q := 1440) dl_1438 rfl rfl ?_
    refine lj_iconst (q := 1441) (v := 1) dl_1440 rfl (by decide) ?_
    refine lj_iadd (q := 1442) dl_1441 rfl ?_
    refine lj_sld (q := 1443) (t := 1) dl_1442 rfl hL9 (by omega) rfl ?_
    refine lj_aload_n (q := 1444) dl_1443 rfl rfl ?_
    refine lj_iload (q := 1446) dl_1444 rfl rfl ?_
    refine lj_iconst (q := 1447) (v := 2) dl_1446 rfl (by decide) ?_
    refine lj_iadd (q := 1448) dl_1447 rfl ?_
    refine lj_sld (q := 1449) (t := 2) dl_1448 rfl hL9 (by omega) rfl ?_
    refine lj_if_eq (q := 1452) (t := 1456) dl_1449 rfl rfl (fun _ => ?_) (fun h => absurd hz h)
    refine lj_iconst (q := 1457) (v := 0) dl_1456 rfl (by decide) ?_
    refine lj_aload_n (q := 1458) dl_1457 rfl rfl ?_
    refine lj_callH (q := 1461) [] [.ref 0, .int (xs (n0 + 1)), .int (0 : Int32), .ref 102] dl_1458 rfl lh_33 rfl (Nat.le_of_ble_eq_true rfl) (Nat.le_of_ble_eq_true rfl) (by omega) (by omega) (hX1_L_edgeEnd lj_x lj_102 (xs (n0 + 1)) (0 : Int32) (c_X11_edgeEnd lj_x F (xs (n0 + 1)) (0 : Int32) M (.inr "java/lang/UnsupportedOperationException", M1) h1)) ?_
    refine lj_istore (q := 1463) (lt := [some (.ref 103), some (.ref 0), some (.ref 80), some (.ref 102), some (.int (Int32.ofNat n0)), some (.int 1), none, none]) dl_1461 rfl (Nat.le_of_ble_eq_true rfl) rfl rfl ?_
    refine lj_aload_n (q := 1464) dl_1463 rfl rfl ?_
    refine lj_aload_n (q := 1465) dl_1464 rfl rfl ?_
    refine lj_iload (q := 1467) dl_1465 rfl rfl ?_
    refine lj_iconst (q := 1468) (v := 1) dl_1467 rfl (by decide) ?_
    refine lj_iadd (q := 1469) dl_1468 rfl ?_
    refine lj_sld (q := 1470) (t := 1) dl_1469 rfl hL9 (by omega) rfl ?_
    refine lj_aload_n (q := 1471) dl_1470 rfl rfl ?_
    refine lj_iload (q := 1473) dl_1471 rfl rfl ?_
    refine lj_iconst (q := 1474) (v := 2) dl_1473 rfl (by decide) ?_
    refine lj_iadd (q := 1475) dl_1474 rfl ?_
    refine lj_sld (q := 1476) (t := 2) dl_1475 rfl hL9 (by omega) rfl ?_
    refine lj_if_eq (q := 1479) (t := 1483) dl_1476 rfl rfl (fun _ => ?_) (fun h => absurd hz h)
    refine lj_iconst (q := 1484) (v := 0) dl_1483 rfl (by decide) ?_
    refine lj_callV (q := 1487) [] [.int (xs (n0 + 1)), .int (0 : Int32)] dl_1484 rfl lv_240 lj_80 rfl rfl rfl (Nat.le_of_ble_eq_true rfl) (Nat.le_of_ble_eq_true rfl) (by omega) (by omega) (c_X12_edgeEnd lj_m G (xs (n0 + 1)) (0 : Int32) _ (w, M2) h2) ?_
    refine lj_istore (q := 1489) (lt := [some (.ref 103), some (.ref 0), some (.ref 80), some (.ref 102), some (.int (Int32.ofNat n0)), some (.int 1), some (.int w), none]) dl_1487 rfl (Nat.le_of_ble_eq_true rfl) rfl rfl ?_
    refine lj_aload_n (q := 1490) dl_1489 rfl rfl ?_
    refine lj_callV (q := 1493) [] [] dl_1490 rfl lv_118 lj_80 rfl rfl rfl (Nat.le_of_ble_eq_true rfl) (Nat.le_of_ble_eq_true rfl) (by omega) (by omega) (c_X12_thrown lj_m 0 M2 _ (th_thrown M2)) ?_
    refine lj_iload (q := 1495) dl_1493 rfl rfl ?_
    refine lj_icmp_eq (q := 1498) (t := 1500) dl_1495 rfl rfl (fun _ => ?_) (fun h => absurd h3 h)
    refine lj_iload (q := 1502) dl_1500 rfl rfl ?_
    refine lj_if_ne (q := 1505) (t := 1517) dl_1502 rfl rfl (fun _ => ?_) (fun h => absurd h (by decide))
    refine lj_goto (t := 1900) dl_1517 rfl ?_
    refine lj_fg [5, 6] (lt := lj_l0 n0) rfl ?_
    exact k M2 hI
  · skip
    refine lj_aload_n (q := 1437) dl_1436 rfl rfl ?_
    refine lj_aload_n (q := 1438) dl_1437 rfl rfl ?_
    refine lj_iload (q := 1440) dl_1438 rfl rfl ?_
    refine lj_iconst (q := 1441) (v := 1) dl_1440 rfl (by decide) ?_
    refine lj_iadd (q := 1442) dl_1441 rfl ?_
    refine lj_sld (q := 1443) (t := 1) dl_1442 rfl hL9 (by omega) rfl ?_
    refine lj_aload_n (q := 1444) dl_1443 rfl rfl ?_
    refine lj_iload (q := 1446) dl_1444 rfl rfl ?_
    refine lj_iconst (q := 1447) (v := 2) dl_1446 rfl (by decide) ?_
    refine lj_iadd (q := 1448) dl_1447 rfl ?_
    refine lj_sld (q := 1449) (t := 2) dl_1448 rfl hL9 (by omega) rfl ?_
    refine lj_if_eq (q := 1452) (t := 1456) dl_1449 rfl rfl (fun _ => ?_) (fun h => absurd hz h)
    refine lj_iconst (q := 1457) (v := 0) dl_1456 rfl (by decide) ?_
    refine lj_aload_n (q := 1458) dl_1457 rfl rfl ?_
    refine lj_callH (q := 1461) [] [.ref 0, .int (xs (n0 + 1)), .int (0 : Int32), .ref 102] dl_1458 rfl lh_33 rfl (Nat.le_of_ble_eq_true rfl) (Nat.le_of_ble_eq_true rfl) (by omega) (by omega) (hX2_L_edgeEnd lj_x lj_102 (xs (n0 + 1)) (0 : Int32) (c_X11_edgeEnd lj_x F (xs (n0 + 1)) (0 : Int32) M (.inr "java/lang/IndexOutOfBoundsException", M1) h1)) ?_
    refine lj_istore (q := 1463) (lt := [some (.ref 103), some (.ref 0), some (.ref 80), some (.ref 102), some (.int (Int32.ofNat n0)), some (.int 2), none, none]) dl_1461 rfl (Nat.le_of_ble_eq_true rfl) rfl rfl ?_
    refine lj_aload_n (q := 1464) dl_1463 rfl rfl ?_
    refine lj_aload_n (q := 1465) dl_1464 rfl rfl ?_
    refine lj_iload (q := 1467) dl_1465 rfl rfl ?_
    refine lj_iconst (q := 1468) (v := 1) dl_1467 rfl (by decide) ?_
    refine lj_iadd (q := 1469) dl_1468 rfl ?_
    refine lj_sld (q := 1470) (t := 1) dl_1469 rfl hL9 (by omega) rfl ?_
    refine lj_aload_n (q := 1471) dl_1470 rfl rfl ?_
    refine lj_iload (q := 1473) dl_1471 rfl rfl ?_
    refine lj_iconst (q := 1474) (v := 2) dl_1473 rfl (by decide) ?_
    refine lj_iadd (q := 1475) dl_1474 rfl ?_
    refine lj_sld (q := 1476) (t := 2) dl_1475 rfl hL9 (by omega) rfl ?_
    refine lj_if_eq (q := 1479) (t := 1483) dl_1476 rfl rfl (fun _ => ?_) (fun h => absurd hz h)
    refine lj_iconst (q := 1484) (v := 0) dl_1483 rfl (by decide) ?_
    refine lj_callV (q := 1487) [] [.int (xs (n0 + 1)), .int (0 : Int32)] dl_1484 rfl lv_240 lj_80 rfl rfl rfl (Nat.le_of_ble_eq_true rfl) (Nat.le_of_ble_eq_true rfl) (by omega) (by omega) (c_X12_edgeEnd lj_m G (xs (n0 + 1)) (0 : Int32) _ (w, M2) h2) ?_
    refine lj_istore (q := 1489) (lt := [some (.ref 103), some (.ref 0), some (.ref 80), some (.ref 102), some (.int (Int32.ofNat n0)), some (.int 2), some (.int w), none]) dl_1487 rfl (Nat.le_of_ble_eq_true rfl) rfl rfl ?_
    refine lj_aload_n (q := 1490) dl_1489 rfl rfl ?_
    refine lj_callV (q := 1493) [] [] dl_1490 rfl lv_118 lj_80 rfl rfl rfl (Nat.le_of_ble_eq_true rfl) (Nat.le_of_ble_eq_true rfl) (by omega) (by omega) (c_X12_thrown lj_m 0 M2 _ (th_thrown M2)) ?_
    refine lj_iload (q := 1495) dl_1493 rfl rfl ?_
    refine lj_icmp_eq (q := 1498) (t := 1500) dl_1495 rfl rfl (fun _ => ?_) (fun h => absurd h3 h)
    refine lj_iload (q := 1502) dl_1500 rfl rfl ?_
    refine lj_if_ne (q := 1505) (t := 1517) dl_1502 rfl rfl (fun _ => ?_) (fun h => absurd h (by decide))
    refine lj_goto (t := 1900) dl_1517 rfl ?_
    refine lj_fg [5, 6] (lt := lj_l0 n0) rfl ?_
    exact k M2 hI
theorem lo_33F {L : Nat} {xs : Nat → Int32} {n0 nc ns : Nat} {M : sm_M} (hL9 : L ≤ 2048) (h4 : n0 + 4 ≤ L) (hnc : nc ≤ 599000) (hns : ns ≤ 6990000) {I : sm_M → Prop} (hz : ¬ xs (n0 + 2) = 0) (hp : lp_r (fun F M => f_X11_edgeEnd F (xs (n0 + 1)) (1 : Int32) M) (fun F M => f_X12_edgeEnd F (xs (n0 + 1)) (1 : Int32) M) I M ∨ lp_x "java/lang/UnsupportedOperationException" 1 (fun F M => f_X11_edgeEnd F (xs (n0 + 1)) (1 : Int32) M) (fun F M => f_X12_edgeEnd F (xs (n0 + 1)) (1 : Int32) M) I M ∨ lp_x "java/lang/IndexOutOfBoundsException" 2 (fun F M => f_X11_edgeEnd F (xs (n0 + 1)) (1 : Int32) M) (fun F M => f_X12_edgeEnd F (xs (n0 + 1)) (1 : Int32) M) I M) (k : ∀ M2, I M2 → lj_J L xs 1900 (lj_l0 n0) [] M2 (nc + 1) (ns + 6)) : lj_J L xs 1436 (lj_l0 n0) [] M nc ns := by
  rcases hp with ⟨F, G, v, M1, M2, h1, h2, h3, h5, hI⟩ | ⟨F, G, w, M1, M2, h1, h2, h3, hI⟩ | ⟨F, G, w, M1, M2, h1, h2, h3, hI⟩
  · skip
    refine lj_aload_n (q := 1437) dl_1436 rfl rfl ?_
    refine lj_aload_n (q := 1438) dl_1437 rfl rfl ?_
    refine lj_iload (q := 1440) dl_1438 rfl rfl ?_
    refine lj_iconst (q := 1441) (v := 1) dl_1440 rfl (by decide) ?_
    refine lj_iadd (q := 1442) dl_1441 rfl ?_
    refine lj_sld (q := 1443) (t := 1) dl_1442 rfl hL9 (by omega) rfl ?_
    refine lj_aload_n (q := 1444) dl_1443 rfl rfl ?_
    refine lj_iload (q := 1446) dl_1444 rfl rfl ?_
    refine lj_iconst (q := 1447) (v := 2) dl_1446 rfl (by decide) ?_
    refine lj_iadd (q := 1448) dl_1447 rfl ?_
    refine lj_sld (q := 1449) (t := 2) dl_1448 rfl hL9 (by omega) rfl ?_
    refine lj_if_eq (q := 1452) (t := 1456) dl_1449 rfl rfl (fun h => absurd h hz) (fun _ => ?_)
    refine lj_iconst (q := 1453) (v := 1) dl_1452 rfl (by decide) ?_
    refine lj_goto (t := 1457) dl_1453 rfl ?_
    refine lj_aload_n (q := 1458) dl_1457 rfl rfl ?_
    refine lj_callH (q := 1461) [] [.ref 0, .int (xs (n0 + 1)), .int (1 : Int32), .ref 102] dl_1458 rfl lh_33 rfl (Nat.le_of_ble_eq_true rfl) (Nat.le_of_ble_eq_true rfl) (by omega) (by omega) (hR_L_edgeEnd lj_x lj_102 (xs (n0 + 1)) (1 : Int32) (c_X11_edgeEnd lj_x F (xs (n0 + 1)) (1 : Int32) M (.inl (some (.int v)), M1) h1)) ?_
    refine lj_istore (q := 1463) (lt := [some (.ref 103), some (.ref 0), some (.ref 80), some (.ref 102), some (.int (Int32.ofNat n0)), some (.int 0), none, none]) dl_1461 rfl (Nat.le_of_ble_eq_true rfl) rfl rfl ?_
    refine lj_aload_n (q := 1464) dl_1463 rfl rfl ?_
    refine lj_aload_n (q := 1465) dl_1464 rfl rfl ?_
    refine lj_iload (q := 1467) dl_1465 rfl rfl ?_
    refine lj_iconst (q := 1468) (v := 1) dl_1467 rfl (by decide) ?_
    refine lj_iadd (q := 1469) dl_1468 rfl ?_
    refine lj_sld (q := 1470) (t := 1) dl_1469 rfl hL9 (by omega) rfl ?_
    refine lj_aload_n (q := 1471) dl_1470 rfl rfl ?_
    refine lj_iload (q := 1473) dl_1471 rfl rfl ?_
    refine lj_iconst (q := 1474) (v := 2) dl_1473 rfl (by decide) ?_
    refine lj_iadd (q := 1475) dl_1474 rfl ?_
    refine lj_sld (q := 1476) (t := 2) dl_1475 rfl hL9 (by omega) rfl ?_
    refine lj_if_eq (q := 1479) (t := 1483) dl_1476 rfl rfl (fun h => absurd h hz) (fun _ => ?_)
    refine lj_iconst (q := 1480) (v := 1) dl_1479 rfl (by decide) ?_
    refine lj_goto (t := 1484) dl_1480 rfl ?_
    refine lj_callV (q := 1487) [] [.int (xs (n0 + 1)), .int (1 : Int32)] dl_1484 rfl lv_240 lj_80 rfl rfl rfl (Nat.le_of_ble_eq_true rfl) (Nat.le_of_ble_eq_true rfl) (by omega) (by omega) (c_X12_edgeEnd lj_m G (xs (n0 + 1)) (1 : Int32) _ (v, M2) h2) ?_
    refine lj_istore (q := 1489) (lt := [some (.ref 103), some (.ref 0), some (.ref 80), some (.ref 102), some (.int (Int32.ofNat n0)), some (.int 0), some (.int v), none]) dl_1487 rfl (Nat.le_of_ble_eq_true rfl) rfl rfl ?_
    refine lj_aload_n (q := 1490) dl_1489 rfl rfl ?_
    refine lj_callV (q := 1493) [] [] dl_1490 rfl lv_118 lj_80 rfl rfl rfl (Nat.le_of_ble_eq_true rfl) (Nat.le_of_ble_eq_true rfl) (by omega) (by omega) (c_X12_thrown lj_m 0 M2 _ (th_thrown M2)) ?_
    refine lj_iload (q := 1495) dl_1493 rfl rfl ?_
    refine lj_icmp_eq (q := 1498) (t := 1500) dl_1495 rfl rfl (fun _ => ?_) (fun h => absurd h3 h)
    refine lj_iload (q := 1502) dl_1500 rfl rfl ?_
    refine lj_if_ne (q := 1505) (t := 1517) dl_1502 rfl rfl (fun h => absurd rfl h) (fun _ => ?_)
    refine lj_aload_n (q := 1506) dl_1505 rfl rfl ?_
    refine lj_iconst (q := 1507) (v := 0) dl_1506 rfl (by decide) ?_
    refine lj_laload (q := 1508) dl_1507 rfl lj_102 (sm_ib_of rfl) ?_
    refine lj_iload (q := 1510) dl_1508 rfl rfl ?_
    refine lj_i2l (q := 1511) dl_1510 rfl ?_
    refine lj_lcmp (q := 1512) dl_1511 rfl ?_
    refine lj_if_eq (q := 1515) (t := 1517) dl_1512 rfl rfl (fun _ => ?_) (fun h => absurd (lj_cmp1 h5) h)
    refine lj_goto (t := 1900) dl_1517 rfl ?_
    refine lj_fg [5, 6] (lt := lj_l0 n0) rfl ?_
    exact k M2 hI
  · skip
    refine lj_aload_n (q := 1437) dl_1436 rfl rfl ?_
    refine lj_aload_n (q := 1438) dl_1437 rfl rfl ?_
    refine lj_iload (q := 1440) dl_1438 rfl rfl ?_
    refine lj_iconst (q := 1441) (v := 1) dl_1440 rfl (by decide) ?_
    refine lj_iadd (q := 1442) dl_1441 rfl ?_
    refine lj_sld (q := 1443) (t := 1) dl_1442 rfl hL9 (by omega) rfl ?_
    refine lj_aload_n (q := 1444) dl_1443 rfl rfl ?_
    refine lj_iload (q := 1446) dl_1444 rfl rfl ?_
    refine lj_iconst (q := 1447) (v := 2) dl_1446 rfl (by decide) ?_
    refine lj_iadd (q := 1448) dl_1447 rfl ?_
    refine lj_sld (q := 1449) (t := 2) dl_1448 rfl hL9 (by omega) rfl ?_
    refine lj_if_eq (q := 1452) (t := 1456) dl_1449 rfl rfl (fun h => absurd h hz) (fun _ => ?_)
    refine lj_iconst (q := 1453) (v := 1) dl_1452 rfl (by decide) ?_
    refine lj_goto (t := 1457) dl_1453 rfl ?_
    refine lj_aload_n (q := 1458) dl_1457 rfl rfl ?_
    refine lj_callH (q := 1461) [] [.ref 0, .int (xs (n0 + 1)), .int (1 : Int32), .ref 102] dl_1458 rfl lh_33 rfl (Nat.le_of_ble_eq_true rfl) (Nat.le_of_ble_eq_true rfl) (by omega) (by omega) (hX1_L_edgeEnd lj_x lj_102 (xs (n0 + 1)) (1 : Int32) (c_X11_edgeEnd lj_x F (xs (n0 + 1)) (1 : Int32) M (.inr "java/lang/UnsupportedOperationException", M1) h1)) ?_
    refine lj_istore (q := 1463) (lt := [some (.ref 103), some (.ref 0), some (.ref 80), some (.ref 102), some (.int (Int32.ofNat n0)), some (.int 1), none, none]) dl_1461 rfl (Nat.le_of_ble_eq_true rfl) rfl rfl ?_
    refine lj_aload_n (q := 1464) dl_1463 rfl rfl ?_
    refine lj_aload_n (q := 1465) dl_1464 rfl rfl ?_
    refine lj_iload (q := 1467) dl_1465 rfl rfl ?_
    refine lj_iconst (q := 1468) (v := 1) dl_1467 rfl (by decide) ?_
    refine lj_iadd (q := 1469) dl_1468 rfl ?_
    refine lj_sld (q := 1470) (t := 1) dl_1469 rfl hL9 (by omega) rfl ?_
    refine lj_aload_n (q := 1471) dl_1470 rfl rfl ?_
    refine lj_iload (q := 1473) dl_1471 rfl rfl ?_
    refine lj_iconst (q := 1474) (v := 2) dl_1473 rfl (by decide) ?_
    refine lj_iadd (q := 1475) dl_1474 rfl ?_
    refine lj_sld (q := 1476) (t := 2) dl_1475 rfl hL9 (by omega) rfl ?_
    refine lj_if_eq (q := 1479) (t := 1483) dl_1476 rfl rfl (fun h => absurd h hz) (fun _ => ?_)
    refine lj_iconst (q := 1480) (v := 1) dl_1479 rfl (by decide) ?_
    refine lj_goto (t := 1484) dl_1480 rfl ?_
    refine lj_callV (q := 1487) [] [.int (xs (n0 + 1)), .int (1 : Int32)] dl_1484 rfl lv_240 lj_80 rfl rfl rfl (Nat.le_of_ble_eq_true rfl) (Nat.le_of_ble_eq_true rfl) (by omega) (by omega) (c_X12_edgeEnd lj_m G (xs (n0 + 1)) (1 : Int32) _ (w, M2) h2) ?_
    refine lj_istore (q := 1489) (lt := [some (.ref 103), some (.ref 0), some (.ref 80), some (.ref 102), some (.int (Int32.ofNat n0)), some (.int 1), some (.int w), none]) dl_1487 rfl (Nat.le_of_ble_eq_true rfl) rfl rfl ?_
    refine lj_aload_n (q := 1490) dl_1489 rfl rfl ?_
    refine lj_callV (q := 1493) [] [] dl_1490 rfl lv_118 lj_80 rfl rfl rfl (Nat.le_of_ble_eq_true rfl) (Nat.le_of_ble_eq_true rfl) (by omega) (by omega) (c_X12_thrown lj_m 0 M2 _ (th_thrown M2)) ?_
    refine lj_iload (q := 1495) dl_1493 rfl rfl ?_
    refine lj_icmp_eq (q := 1498) (t := 1500) dl_1495 rfl rfl (fun _ => ?_) (fun h => absurd h3 h)
    refine lj_iload (q := 1502) dl_1500 rfl rfl ?_
    refine lj_if_ne (q := 1505) (t := 1517) dl_1502 rfl rfl (fun _ => ?_) (fun h => absurd h (by decide))
    refine lj_goto (t := 1900) dl_1517 rfl ?_
    refine lj_fg [5, 6] (lt := lj_l0 n0) rfl ?_
    exact k M2 hI
  · skip
    refine lj_aload_n (q := 1437) dl_1436 rfl rfl ?_
    refine lj_aload_n (q := 1438) dl_1437 rfl rfl ?_
    refine lj_iload (q := 1440) dl_1438 rfl rfl ?_
    refine lj_iconst (q := 1441) (v := 1) dl_1440 rfl (by decide) ?_
    refine lj_iadd (q := 1442) dl_1441 rfl ?_
    refine lj_sld (q := 1443) (t := 1) dl_1442 rfl hL9 (by omega) rfl ?_
    refine lj_aload_n (q := 1444) dl_1443 rfl rfl ?_
    refine lj_iload (q := 1446) dl_1444 rfl rfl ?_
    refine lj_iconst (q := 1447) (v := 2) dl_1446 rfl (by decide) ?_
    refine lj_iadd (q := 1448) dl_1447 rfl ?_
    refine lj_sld (q := 1449) (t := 2) dl_1448 rfl hL9 (by omega) rfl ?_
    refine lj_if_eq (q := 1452) (t := 1456) dl_1449 rfl rfl (fun h => absurd h hz) (fun _ => ?_)
    refine lj_iconst (q := 1453) (v := 1) dl_1452 rfl (by decide) ?_
    refine lj_goto (t := 1457) dl_1453 rfl ?_
    refine lj_aload_n (q := 1458) dl_1457 rfl rfl ?_
    refine lj_callH (q := 1461) [] [.ref 0, .int (xs (n0 + 1)), .int (1 : Int32), .ref 102] dl_1458 rfl lh_33 rfl (Nat.le_of_ble_eq_true rfl) (Nat.le_of_ble_eq_true rfl) (by omega) (by omega) (hX2_L_edgeEnd lj_x lj_102 (xs (n0 + 1)) (1 : Int32) (c_X11_edgeEnd lj_x F (xs (n0 + 1)) (1 : Int32) M (.inr "java/lang/IndexOutOfBoundsException", M1) h1)) ?_
    refine lj_istore (q := 1463) (lt := [some (.ref 103), some (.ref 0), some (.ref 80), some (.ref 102), some (.int (Int32.ofNat n0)), some (.int 2), none, none]) dl_1461 rfl (Nat.le_of_ble_eq_true rfl) rfl rfl ?_
    refine lj_aload_n (q := 1464) dl_1463 rfl rfl ?_
    refine lj_aload_n (q := 1465) dl_1464 rfl rfl ?_
    refine lj_iload (q := 1467) dl_1465 rfl rfl ?_
    refine lj_iconst (q := 1468) (v := 1) dl_1467 rfl (by decide) ?_
    refine lj_iadd (q := 1469) dl_1468 rfl ?_
    refine lj_sld (q := 1470) (t := 1) dl_1469 rfl hL9 (by omega) rfl ?_
    refine lj_aload_n (q := 1471) dl_1470 rfl rfl ?_
    refine lj_iload (q := 1473) dl_1471 rfl rfl ?_
    refine lj_iconst (q := 1474) (v := 2) dl_1473 rfl (by decide) ?_
    refine lj_iadd (q := 1475) dl_1474 rfl ?_
    refine lj_sld (q := 1476) (t := 2) dl_1475 rfl hL9 (by omega) rfl ?_
    refine lj_if_eq (q := 1479) (t := 1483) dl_1476 rfl rfl (fun h => absurd h hz) (fun _ => ?_)
    refine lj_iconst (q := 1480) (v := 1) dl_1479 rfl (by decide) ?_
    refine lj_goto (t := 1484) dl_1480 rfl ?_
    refine lj_callV (q := 1487) [] [.int (xs (n0 + 1)), .int (1 : Int32)] dl_1484 rfl lv_240 lj_80 rfl rfl rfl (Nat.le_of_ble_eq_true rfl) (Nat.le_of_ble_eq_true rfl) (by omega) (by omega) (c_X12_edgeEnd lj_m G (xs (n0 + 1)) (1 : Int32) _ (w, M2) h2) ?_
    refine lj_istore (q := 1489) (lt := [some (.ref 103), some (.ref 0), some (.ref 80), some (.ref 102), some (.int (Int32.ofNat n0)), some (.int 2), some (.int w), none]) dl_1487 rfl (Nat.le_of_ble_eq_true rfl) rfl rfl ?_
    refine lj_aload_n (q := 1490) dl_1489 rfl rfl ?_
    refine lj_callV (q := 1493) [] [] dl_1490 rfl lv_118 lj_80 rfl rfl rfl (Nat.le_of_ble_eq_true rfl) (Nat.le_of_ble_eq_true rfl) (by omega) (by omega) (c_X12_thrown lj_m 0 M2 _ (th_thrown M2)) ?_
    refine lj_iload (q := 1495) dl_1493 rfl rfl ?_
    refine lj_icmp_eq (q := 1498) (t := 1500) dl_1495 rfl rfl (fun _ => ?_) (fun h => absurd h3 h)
    refine lj_iload (q := 1502) dl_1500 rfl rfl ?_
    refine lj_if_ne (q := 1505) (t := 1517) dl_1502 rfl rfl (fun _ => ?_) (fun h => absurd h (by decide))
    refine lj_goto (t := 1900) dl_1517 rfl ?_
    refine lj_fg [5, 6] (lt := lj_l0 n0) rfl ?_
    exact k M2 hI
theorem lh_34 : lj_LH 241 yL_inDegree md_L_inDegree hh_L_inDegree 3 := ⟨sm_w (List.mem_of_getElem? (i := 1036) (by decide +kernel)) rfl, sm_w (List.mem_of_getElem? (i := 1037) (by decide +kernel)) rfl, sm_w (List.mem_of_getElem? (i := 58) (by decide +kernel)) rfl, sm_w (List.mem_of_getElem? (i := 1038) (by decide +kernel)) rfl, by decide, by decide +kernel, by decide +kernel⟩
theorem lv_243 : sm_LV RL 243 yX12_inDegree md_X12_inDegree 1 := ⟨sm_w (List.mem_of_getElem? (i := 1538) (by decide +kernel)) rfl, sm_w (List.mem_of_getElem? (i := 1539) (by decide +kernel)) rfl, sm_w (List.mem_of_getElem? (i := 1540) (by decide +kernel)) rfl, sm_w (List.mem_of_getElem? (i := 75) (by decide +kernel)) rfl, sm_w (List.mem_of_getElem? (i := 1541) (by decide +kernel)) rfl, by decide, by decide +kernel⟩
theorem lo_34 {L : Nat} {xs : Nat → Int32} {n0 nc ns : Nat} {M : sm_M} (hL9 : L ≤ 2048) (h4 : n0 + 4 ≤ L) (hnc : nc ≤ 599000) (hns : ns ≤ 6990000) {I : sm_M → Prop} (hp : lp_r (fun F M => f_X11_inDegree F (xs (n0 + 1)) M) (fun F M => f_X12_inDegree F (xs (n0 + 1)) M) I M ∨ lp_x "java/lang/UnsupportedOperationException" 1 (fun F M => f_X11_inDegree F (xs (n0 + 1)) M) (fun F M => f_X12_inDegree F (xs (n0 + 1)) M) I M ∨ lp_x "java/lang/IndexOutOfBoundsException" 2 (fun F M => f_X11_inDegree F (xs (n0 + 1)) M) (fun F M => f_X12_inDegree F (xs (n0 + 1)) M) I M) (k : ∀ M2, I M2 → lj_J L xs 1900 (lj_l0 n0) [] M2 (nc + 1) (ns + 6)) : lj_J L xs 1520 (lj_l0 n0) [] M nc ns := by
  rcases hp with ⟨F, G, v, M1, M2, h1, h2, h3, h5, hI⟩ | ⟨F, G, w, M1, M2, h1, h2, h3, hI⟩ | ⟨F, G, w, M1, M2, h1, h2, h3, hI⟩
  · skip
    refine lj_aload_n (q := 1521) dl_1520 rfl rfl ?_
    refine lj_aload_n (q := 1522) dl_1521 rfl rfl ?_
    refine lj_iload (q := 1524) dl_1522 rfl rfl ?_
    refine lj_iconst (q := 1525) (v := 1) dl_1524 rfl (by decide) ?_
    refine lj_iadd (q := 1526) dl_1525 rfl ?_
    refine lj_sld (q := 1527) (t := 1) dl_1526 rfl hL9 (by omega) rfl ?_
    refine lj_aload_n (q := 1528) dl_1527 rfl rfl ?_
    refine lj_callH (q := 1531) [] [.ref 0, .int (xs (n0 + 1)), .ref 102] dl_1528 rfl lh_34 rfl (Nat.le_of_ble_eq_true rfl) (Nat.le_of_ble_eq_true rfl) (by omega) (by omega) (hR_L_inDegree lj_x lj_102 (xs (n0 + 1)) (c_X11_inDegree lj_x F (xs (n0 + 1)) M (.inl (some (.int v)), M1) h1)) ?_
    refine lj_istore (q := 1533) (lt := [some (.ref 103), some (.ref 0), some (.ref 80), some (.ref 102), some (.int (Int32.ofNat n0)), some (.int 0), none, none]) dl_1531 rfl (Nat.le_of_ble_eq_true rfl) rfl rfl ?_
    refine lj_aload_n (q := 1534) dl_1533 rfl rfl ?_
    refine lj_aload_n (q := 1535) dl_1534 rfl rfl ?_
    refine lj_iload (q := 1537) dl_1535 rfl rfl ?_
    refine lj_iconst (q := 1538) (v := 1) dl_1537 rfl (by decide) ?_
    refine lj_iadd (q := 1539) dl_1538 rfl ?_
    refine lj_sld (q := 1540) (t := 1) dl_1539 rfl hL9 (by omega) rfl ?_
    refine lj_callV (q := 1543) [] [.int (xs (n0 + 1))] dl_1540 rfl lv_243 lj_80 rfl rfl rfl (Nat.le_of_ble_eq_true rfl) (Nat.le_of_ble_eq_true rfl) (by omega) (by omega) (c_X12_inDegree lj_m G (xs (n0 + 1)) _ (v, M2) h2) ?_
    refine lj_istore (q := 1545) (lt := [some (.ref 103), some (.ref 0), some (.ref 80), some (.ref 102), some (.int (Int32.ofNat n0)), some (.int 0), some (.int v), none]) dl_1543 rfl (Nat.le_of_ble_eq_true rfl) rfl rfl ?_
    refine lj_aload_n (q := 1546) dl_1545 rfl rfl ?_
    refine lj_callV (q := 1549) [] [] dl_1546 rfl lv_118 lj_80 rfl rfl rfl (Nat.le_of_ble_eq_true rfl) (Nat.le_of_ble_eq_true rfl) (by omega) (by omega) (c_X12_thrown lj_m 0 M2 _ (th_thrown M2)) ?_
    refine lj_iload (q := 1551) dl_1549 rfl rfl ?_
    refine lj_icmp_eq (q := 1554) (t := 1556) dl_1551 rfl rfl (fun _ => ?_) (fun h => absurd h3 h)
    refine lj_iload (q := 1558) dl_1556 rfl rfl ?_
    refine lj_if_ne (q := 1561) (t := 1573) dl_1558 rfl rfl (fun h => absurd rfl h) (fun _ => ?_)
    refine lj_aload_n (q := 1562) dl_1561 rfl rfl ?_
    refine lj_iconst (q := 1563) (v := 0) dl_1562 rfl (by decide) ?_
    refine lj_laload (q := 1564) dl_1563 rfl lj_102 (sm_ib_of rfl) ?_
    refine lj_iload (q := 1566) dl_1564 rfl rfl ?_
    refine lj_i2l (q := 1567) dl_1566 rfl ?_
    refine lj_lcmp (q := 1568) dl_1567 rfl ?_
    refine lj_if_eq (q := 1571) (t := 1573) dl_1568 rfl rfl (fun _ => ?_) (fun h => absurd (lj_cmp1 h5) h)
    refine lj_goto (t := 1900) dl_1573 rfl ?_
    refine lj_fg [5, 6] (lt := lj_l0 n0) rfl ?_
    exact k M2 hI
  · skip
    refine lj_aload_n (q := 1521) dl_1520 rfl rfl ?_
    refine lj_aload_n (q := 1522) dl_1521 rfl rfl ?_
    refine lj_iload (q := 1524) dl_1522 rfl rfl ?_
    refine lj_iconst (q := 1525) (v := 1) dl_1524 rfl (by decide) ?_
    refine lj_iadd (q := 1526) dl_1525 rfl ?_
    refine lj_sld (q := 1527) (t := 1) dl_1526 rfl hL9 (by omega) rfl ?_
    refine lj_aload_n (q := 1528) dl_1527 rfl rfl ?_
    refine lj_callH (q := 1531) [] [.ref 0, .int (xs (n0 + 1)), .ref 102] dl_1528 rfl lh_34 rfl (Nat.le_of_ble_eq_true rfl) (Nat.le_of_ble_eq_true rfl) (by omega) (by omega) (hX1_L_inDegree lj_x lj_102 (xs (n0 + 1)) (c_X11_inDegree lj_x F (xs (n0 + 1)) M (.inr "java/lang/UnsupportedOperationException", M1) h1)) ?_
    refine lj_istore (q := 1533) (lt := [some (.ref 103), some (.ref 0), some (.ref 80), some (.ref 102), some (.int (Int32.ofNat n0)), some (.int 1), none, none]) dl_1531 rfl (Nat.le_of_ble_eq_true rfl) rfl rfl ?_
    refine lj_aload_n (q := 1534) dl_1533 rfl rfl ?_
    refine lj_aload_n (q := 1535) dl_1534 rfl rfl ?_
    refine lj_iload (q := 1537) dl_1535 rfl rfl ?_
    refine lj_iconst (q := 1538) (v := 1) dl_1537 rfl (by decide) ?_
    refine lj_iadd (q := 1539) dl_1538 rfl ?_
    refine lj_sld (q := 1540) (t := 1) dl_1539 rfl hL9 (by omega) rfl ?_
    refine lj_callV (q := 1543) [] [.int (xs (n0 + 1))] dl_1540 rfl lv_243 lj_80 rfl rfl rfl (Nat.le_of_ble_eq_true rfl) (Nat.le_of_ble_eq_true rfl) (by omega) (by omega) (c_X12_inDegree lj_m G (xs (n0 + 1)) _ (w, M2) h2) ?_
    refine lj_istore (q := 1545) (lt := [some (.ref 103), some (.ref 0), some (.ref 80), some (.ref 102), some (.int (Int32.ofNat n0)), some (.int 1), some (.int w), none]) dl_1543 rfl (Nat.le_of_ble_eq_true rfl) rfl rfl ?_
    refine lj_aload_n (q := 1546) dl_1545 rfl rfl ?_
    refine lj_callV (q := 1549) [] [] dl_1546 rfl lv_118 lj_80 rfl rfl rfl (Nat.le_of_ble_eq_true rfl) (Nat.le_of_ble_eq_true rfl) (by omega) (by omega) (c_X12_thrown lj_m 0 M2 _ (th_thrown M2)) ?_
    refine lj_iload (q := 1551) dl_1549 rfl rfl ?_
    refine lj_icmp_eq (q := 1554) (t := 1556) dl_1551 rfl rfl (fun _ => ?_) (fun h => absurd h3 h)
    refine lj_iload (q := 1558) dl_1556 rfl rfl ?_
    refine lj_if_ne (q := 1561) (t := 1573) dl_1558 rfl rfl (fun _ => ?_) (fun h => absurd h (by decide))
    refine lj_goto (t := 1900) dl_1573 rfl ?_
    refine lj_fg [5, 6] (lt := lj_l0 n0) rfl ?_
    exact k M2 hI
  · skip
    refine lj_aload_n (q := 1521) dl_1520 rfl rfl ?_
    refine lj_aload_n (q := 1522) dl_1521 rfl rfl ?_
    refine lj_iload (q := 1524) dl_1522 rfl rfl ?_
    refine lj_iconst (q := 1525) (v := 1) dl_1524 rfl (by decide) ?_
    refine lj_iadd (q := 1526) dl_1525 rfl ?_
    refine lj_sld (q := 1527) (t := 1) dl_1526 rfl hL9 (by omega) rfl ?_
    refine lj_aload_n (q := 1528) dl_1527 rfl rfl ?_
    refine lj_callH (q := 1531) [] [.ref 0, .int (xs (n0 + 1)), .ref 102] dl_1528 rfl lh_34 rfl (Nat.le_of_ble_eq_true rfl) (Nat.le_of_ble_eq_true rfl) (by omega) (by omega) (hX2_L_inDegree lj_x lj_102 (xs (n0 + 1)) (c_X11_inDegree lj_x F (xs (n0 + 1)) M (.inr "java/lang/IndexOutOfBoundsException", M1) h1)) ?_
    refine lj_istore (q := 1533) (lt := [some (.ref 103), some (.ref 0), some (.ref 80), some (.ref 102), some (.int (Int32.ofNat n0)), some (.int 2), none, none]) dl_1531 rfl (Nat.le_of_ble_eq_true rfl) rfl rfl ?_
    refine lj_aload_n (q := 1534) dl_1533 rfl rfl ?_
    refine lj_aload_n (q := 1535) dl_1534 rfl rfl ?_
    refine lj_iload (q := 1537) dl_1535 rfl rfl ?_
    refine lj_iconst (q := 1538) (v := 1) dl_1537 rfl (by decide) ?_
    refine lj_iadd (q := 1539) dl_1538 rfl ?_
    refine lj_sld (q := 1540) (t := 1) dl_1539 rfl hL9 (by omega) rfl ?_
    refine lj_callV (q := 1543) [] [.int (xs (n0 + 1))] dl_1540 rfl lv_243 lj_80 rfl rfl rfl (Nat.le_of_ble_eq_true rfl) (Nat.le_of_ble_eq_true rfl) (by omega) (by omega) (c_X12_inDegree lj_m G (xs (n0 + 1)) _ (w, M2) h2) ?_
    refine lj_istore (q := 1545) (lt := [some (.ref 103), some (.ref 0), some (.ref 80), some (.ref 102), some (.int (Int32.ofNat n0)), some (.int 2), some (.int w), none]) dl_1543 rfl (Nat.le_of_ble_eq_true rfl) rfl rfl ?_
    refine lj_aload_n (q := 1546) dl_1545 rfl rfl ?_
    refine lj_callV (q := 1549) [] [] dl_1546 rfl lv_118 lj_80 rfl rfl rfl (Nat.le_of_ble_eq_true rfl) (Nat.le_of_ble_eq_true rfl) (by omega) (by omega) (c_X12_thrown lj_m 0 M2 _ (th_thrown M2)) ?_
    refine lj_iload (q := 1551) dl_1549 rfl rfl ?_
    refine lj_icmp_eq (q := 1554) (t := 1556) dl_1551 rfl rfl (fun _ => ?_) (fun h => absurd h3 h)
    refine lj_iload (q := 1558) dl_1556 rfl rfl ?_
    refine lj_if_ne (q := 1561) (t := 1573) dl_1558 rfl rfl (fun _ => ?_) (fun h => absurd h (by decide))
    refine lj_goto (t := 1900) dl_1573 rfl ?_
    refine lj_fg [5, 6] (lt := lj_l0 n0) rfl ?_
    exact k M2 hI
theorem lh_35 : lj_LH 244 yL_distance md_L_distance hh_L_distance 4 := ⟨sm_w (List.mem_of_getElem? (i := 1052) (by decide +kernel)) rfl, sm_w (List.mem_of_getElem? (i := 1053) (by decide +kernel)) rfl, sm_w (List.mem_of_getElem? (i := 58) (by decide +kernel)) rfl, sm_w (List.mem_of_getElem? (i := 1054) (by decide +kernel)) rfl, by decide, by decide +kernel, by decide +kernel⟩
theorem lv_246 : sm_LV RL 246 yX12_distance md_X12_distance 2 := ⟨sm_w (List.mem_of_getElem? (i := 1546) (by decide +kernel)) rfl, sm_w (List.mem_of_getElem? (i := 1547) (by decide +kernel)) rfl, sm_w (List.mem_of_getElem? (i := 1548) (by decide +kernel)) rfl, sm_w (List.mem_of_getElem? (i := 75) (by decide +kernel)) rfl, sm_w (List.mem_of_getElem? (i := 1549) (by decide +kernel)) rfl, by decide, by decide +kernel⟩
theorem lo_35 {L : Nat} {xs : Nat → Int32} {n0 nc ns : Nat} {M : sm_M} (hL9 : L ≤ 2048) (h4 : n0 + 4 ≤ L) (hnc : nc ≤ 599000) (hns : ns ≤ 6990000) {I : sm_M → Prop} (hp : lp_r (fun F M => f_X11_distance F (xs (n0 + 1)) (xs (n0 + 2)) M) (fun F M => f_X12_distance F (xs (n0 + 1)) (xs (n0 + 2)) M) I M ∨ lp_x "java/lang/UnsupportedOperationException" 1 (fun F M => f_X11_distance F (xs (n0 + 1)) (xs (n0 + 2)) M) (fun F M => f_X12_distance F (xs (n0 + 1)) (xs (n0 + 2)) M) I M ∨ lp_x "java/lang/IndexOutOfBoundsException" 2 (fun F M => f_X11_distance F (xs (n0 + 1)) (xs (n0 + 2)) M) (fun F M => f_X12_distance F (xs (n0 + 1)) (xs (n0 + 2)) M) I M ∨ lp_x "java/util/NoSuchElementException" 3 (fun F M => f_X11_distance F (xs (n0 + 1)) (xs (n0 + 2)) M) (fun F M => f_X12_distance F (xs (n0 + 1)) (xs (n0 + 2)) M) I M) (k : ∀ M2, I M2 → lj_J L xs 1900 (lj_l0 n0) [] M2 (nc + 1) (ns + 6)) : lj_J L xs 1576 (lj_l0 n0) [] M nc ns := by
  rcases hp with ⟨F, G, v, M1, M2, h1, h2, h3, h5, hI⟩ | ⟨F, G, w, M1, M2, h1, h2, h3, hI⟩ | ⟨F, G, w, M1, M2, h1, h2, h3, hI⟩ | ⟨F, G, w, M1, M2, h1, h2, h3, hI⟩
  · skip
    refine lj_aload_n (q := 1577) dl_1576 rfl rfl ?_
    refine lj_aload_n (q := 1578) dl_1577 rfl rfl ?_
    refine lj_iload (q := 1580) dl_1578 rfl rfl ?_
    refine lj_iconst (q := 1581) (v := 1) dl_1580 rfl (by decide) ?_
    refine lj_iadd (q := 1582) dl_1581 rfl ?_
    refine lj_sld (q := 1583) (t := 1) dl_1582 rfl hL9 (by omega) rfl ?_
    refine lj_aload_n (q := 1584) dl_1583 rfl rfl ?_
    refine lj_iload (q := 1586) dl_1584 rfl rfl ?_
    refine lj_iconst (q := 1587) (v := 2) dl_1586 rfl (by decide) ?_
    refine lj_iadd (q := 1588) dl_1587 rfl ?_
    refine lj_sld (q := 1589) (t := 2) dl_1588 rfl hL9 (by omega) rfl ?_
    refine lj_aload_n (q := 1590) dl_1589 rfl rfl ?_
    refine lj_callH (q := 1593) [] [.ref 0, .int (xs (n0 + 1)), .int (xs (n0 + 2)), .ref 102] dl_1590 rfl lh_35 rfl (Nat.le_of_ble_eq_true rfl) (Nat.le_of_ble_eq_true rfl) (by omega) (by omega) (hR_L_distance lj_x lj_102 (xs (n0 + 1)) (xs (n0 + 2)) (c_X11_distance lj_x F (xs (n0 + 1)) (xs (n0 + 2)) M (.inl (some (.int v)), M1) h1)) ?_
    refine lj_istore (q := 1595) (lt := [some (.ref 103), some (.ref 0), some (.ref 80), some (.ref 102), some (.int (Int32.ofNat n0)), some (.int 0), none, none]) dl_1593 rfl (Nat.le_of_ble_eq_true rfl) rfl rfl ?_
    refine lj_aload_n (q := 1596) dl_1595 rfl rfl ?_
    refine lj_aload_n (q := 1597) dl_1596 rfl rfl ?_
    refine lj_iload (q := 1599) dl_1597 rfl rfl ?_
    refine lj_iconst (q := 1600) (v := 1) dl_1599 rfl (by decide) ?_
    refine lj_iadd (q := 1601) dl_1600 rfl ?_
    refine lj_sld (q := 1602) (t := 1) dl_1601 rfl hL9 (by omega) rfl ?_
    refine lj_aload_n (q := 1603) dl_1602 rfl rfl ?_
    refine lj_iload (q := 1605) dl_1603 rfl rfl ?_
    refine lj_iconst (q := 1606) (v := 2) dl_1605 rfl (by decide) ?_
    refine lj_iadd (q := 1607) dl_1606 rfl ?_
    refine lj_sld (q := 1608) (t := 2) dl_1607 rfl hL9 (by omega) rfl ?_
    refine lj_callV (q := 1611) [] [.int (xs (n0 + 1)), .int (xs (n0 + 2))] dl_1608 rfl lv_246 lj_80 rfl rfl rfl (Nat.le_of_ble_eq_true rfl) (Nat.le_of_ble_eq_true rfl) (by omega) (by omega) (c_X12_distance lj_m G (xs (n0 + 1)) (xs (n0 + 2)) _ (v, M2) h2) ?_
    refine lj_istore (q := 1613) (lt := [some (.ref 103), some (.ref 0), some (.ref 80), some (.ref 102), some (.int (Int32.ofNat n0)), some (.int 0), some (.int v), none]) dl_1611 rfl (Nat.le_of_ble_eq_true rfl) rfl rfl ?_
    refine lj_aload_n (q := 1614) dl_1613 rfl rfl ?_
    refine lj_callV (q := 1617) [] [] dl_1614 rfl lv_118 lj_80 rfl rfl rfl (Nat.le_of_ble_eq_true rfl) (Nat.le_of_ble_eq_true rfl) (by omega) (by omega) (c_X12_thrown lj_m 0 M2 _ (th_thrown M2)) ?_
    refine lj_iload (q := 1619) dl_1617 rfl rfl ?_
    refine lj_icmp_eq (q := 1622) (t := 1624) dl_1619 rfl rfl (fun _ => ?_) (fun h => absurd h3 h)
    refine lj_iload (q := 1626) dl_1624 rfl rfl ?_
    refine lj_if_ne (q := 1629) (t := 1641) dl_1626 rfl rfl (fun h => absurd rfl h) (fun _ => ?_)
    refine lj_aload_n (q := 1630) dl_1629 rfl rfl ?_
    refine lj_iconst (q := 1631) (v := 0) dl_1630 rfl (by decide) ?_
    refine lj_laload (q := 1632) dl_1631 rfl lj_102 (sm_ib_of rfl) ?_
    refine lj_iload (q := 1634) dl_1632 rfl rfl ?_
    refine lj_i2l (q := 1635) dl_1634 rfl ?_
    refine lj_lcmp (q := 1636) dl_1635 rfl ?_
    refine lj_if_eq (q := 1639) (t := 1641) dl_1636 rfl rfl (fun _ => ?_) (fun h => absurd (lj_cmp1 h5) h)
    refine lj_goto (t := 1900) dl_1641 rfl ?_
    refine lj_fg [5, 6] (lt := lj_l0 n0) rfl ?_
    exact k M2 hI
  · skip
    refine lj_aload_n (q := 1577) dl_1576 rfl rfl ?_
    refine lj_aload_n (q := 1578) dl_1577 rfl rfl ?_
    refine lj_iload (q := 1580) dl_1578 rfl rfl ?_
    refine lj_iconst (q := 1581) (v := 1) dl_1580 rfl (by decide) ?_
    refine lj_iadd (q := 1582) dl_1581 rfl ?_
    refine lj_sld (q := 1583) (t := 1) dl_1582 rfl hL9 (by omega) rfl ?_
    refine lj_aload_n (q := 1584) dl_1583 rfl rfl ?_
    refine lj_iload (q := 1586) dl_1584 rfl rfl ?_
    refine lj_iconst (q := 1587) (v := 2) dl_1586 rfl (by decide) ?_
    refine lj_iadd (q := 1588) dl_1587 rfl ?_
    refine lj_sld (q := 1589) (t := 2) dl_1588 rfl hL9 (by omega) rfl ?_
    refine lj_aload_n (q := 1590) dl_1589 rfl rfl ?_
    refine lj_callH (q := 1593) [] [.ref 0, .int (xs (n0 + 1)), .int (xs (n0 + 2)), .ref 102] dl_1590 rfl lh_35 rfl (Nat.le_of_ble_eq_true rfl) (Nat.le_of_ble_eq_true rfl) (by omega) (by omega) (hX1_L_distance lj_x lj_102 (xs (n0 + 1)) (xs (n0 + 2)) (c_X11_distance lj_x F (xs (n0 + 1)) (xs (n0 + 2)) M (.inr "java/lang/UnsupportedOperationException", M1) h1)) ?_
    refine lj_istore (q := 1595) (lt := [some (.ref 103), some (.ref 0), some (.ref 80), some (.ref 102), some (.int (Int32.ofNat n0)), some (.int 1), none, none]) dl_1593 rfl (Nat.le_of_ble_eq_true rfl) rfl rfl ?_
    refine lj_aload_n (q := 1596) dl_1595 rfl rfl ?_
    refine lj_aload_n (q := 1597) dl_1596 rfl rfl ?_
    refine lj_iload (q := 1599) dl_1597 rfl rfl ?_
    refine lj_iconst (q := 1600) (v := 1) dl_1599 rfl (by decide) ?_
    refine lj_iadd (q := 1601) dl_1600 rfl ?_
    refine lj_sld (q := 1602) (t := 1) dl_1601 rfl hL9 (by omega) rfl ?_
    refine lj_aload_n (q := 1603) dl_1602 rfl rfl ?_
    refine lj_iload (q := 1605) dl_1603 rfl rfl ?_
    refine lj_iconst (q := 1606) (v := 2) dl_1605 rfl (by decide) ?_
    refine lj_iadd (q := 1607) dl_1606 rfl ?_
    refine lj_sld (q := 1608) (t := 2) dl_1607 rfl hL9 (by omega) rfl ?_
    refine lj_callV (q := 1611) [] [.int (xs (n0 + 1)), .int (xs (n0 + 2))] dl_1608 rfl lv_246 lj_80 rfl rfl rfl (Nat.le_of_ble_eq_true rfl) (Nat.le_of_ble_eq_true rfl) (by omega) (by omega) (c_X12_distance lj_m G (xs (n0 + 1)) (xs (n0 + 2)) _ (w, M2) h2) ?_
    refine lj_istore (q := 1613) (lt := [some (.ref 103), some (.ref 0), some (.ref 80), some (.ref 102), some (.int (Int32.ofNat n0)), some (.int 1), some (.int w), none]) dl_1611 rfl (Nat.le_of_ble_eq_true rfl) rfl rfl ?_
    refine lj_aload_n (q := 1614) dl_1613 rfl rfl ?_
    refine lj_callV (q := 1617) [] [] dl_1614 rfl lv_118 lj_80 rfl rfl rfl (Nat.le_of_ble_eq_true rfl) (Nat.le_of_ble_eq_true rfl) (by omega) (by omega) (c_X12_thrown lj_m 0 M2 _ (th_thrown M2)) ?_
    refine lj_iload (q := 1619) dl_1617 rfl rfl ?_
    refine lj_icmp_eq (q := 1622) (t := 1624) dl_1619 rfl rfl (fun _ => ?_) (fun h => absurd h3 h)
    refine lj_iload (q := 1626) dl_1624 rfl rfl ?_
    refine lj_if_ne (q := 1629) (t := 1641) dl_1626 rfl rfl (fun _ => ?_) (fun h => absurd h (by decide))
    refine lj_goto (t := 1900) dl_1641 rfl ?_
    refine lj_fg [5, 6] (lt := lj_l0 n0) rfl ?_
    exact k M2 hI
  · skip
    refine lj_aload_n (q := 1577) dl_1576 rfl rfl ?_
    refine lj_aload_n (q := 1578) dl_1577 rfl rfl ?_
    refine lj_iload (q := 1580) dl_1578 rfl rfl ?_
    refine lj_iconst (q := 1581) (v := 1) dl_1580 rfl (by decide) ?_
    refine lj_iadd (q := 1582) dl_1581 rfl ?_
    refine lj_sld (q := 1583) (t := 1) dl_1582 rfl hL9 (by omega) rfl ?_
    refine lj_aload_n (q := 1584) dl_1583 rfl rfl ?_
    refine lj_iload (q := 1586) dl_1584 rfl rfl ?_
    refine lj_iconst (q := 1587) (v := 2) dl_1586 rfl (by decide) ?_
    refine lj_iadd (q := 1588) dl_1587 rfl ?_
    refine lj_sld (q := 1589) (t := 2) dl_1588 rfl hL9 (by omega) rfl ?_
    refine lj_aload_n (q := 1590) dl_1589 rfl rfl ?_
    refine lj_callH (q := 1593) [] [.ref 0, .int (xs (n0 + 1)), .int (xs (n0 + 2)), .ref 102] dl_1590 rfl lh_35 rfl (Nat.le_of_ble_eq_true rfl) (Nat.le_of_ble_eq_true rfl) (by omega) (by omega) (hX2_L_distance lj_x lj_102 (xs (n0 + 1)) (xs (n0 + 2)) (c_X11_distance lj_x F (xs (n0 + 1)) (xs (n0 + 2)) M (.inr "java/lang/IndexOutOfBoundsException", M1) h1)) ?_
    refine lj_istore (q := 1595) (lt := [some (.ref 103), some (.ref 0), some (.ref 80), some (.ref 102), some (.int (Int32.ofNat n0)), some (.int 2), none, none]) dl_1593 rfl (Nat.le_of_ble_eq_true rfl) rfl rfl ?_
    refine lj_aload_n (q := 1596) dl_1595 rfl rfl ?_
    refine lj_aload_n (q := 1597) dl_1596 rfl rfl ?_
    refine lj_iload (q := 1599) dl_1597 rfl rfl ?_
    refine lj_iconst (q := 1600) (v := 1) dl_1599 rfl (by decide) ?_
    refine lj_iadd (q := 1601) dl_1600 rfl ?_
    refine lj_sld (q := 1602) (t := 1) dl_1601 rfl hL9 (by omega) rfl ?_
    refine lj_aload_n (q := 1603) dl_1602 rfl rfl ?_
    refine lj_iload (q := 1605) dl_1603 rfl rfl ?_
    refine lj_iconst (q := 1606) (v := 2) dl_1605 rfl (by decide) ?_
    refine lj_iadd (q := 1607) dl_1606 rfl ?_
    refine lj_sld (q := 1608) (t := 2) dl_1607 rfl hL9 (by omega) rfl ?_
    refine lj_callV (q := 1611) [] [.int (xs (n0 + 1)), .int (xs (n0 + 2))] dl_1608 rfl lv_246 lj_80 rfl rfl rfl (Nat.le_of_ble_eq_true rfl) (Nat.le_of_ble_eq_true rfl) (by omega) (by omega) (c_X12_distance lj_m G (xs (n0 + 1)) (xs (n0 + 2)) _ (w, M2) h2) ?_
    refine lj_istore (q := 1613) (lt := [some (.ref 103), some (.ref 0), some (.ref 80), some (.ref 102), some (.int (Int32.ofNat n0)), some (.int 2), some (.int w), none]) dl_1611 rfl (Nat.le_of_ble_eq_true rfl) rfl rfl ?_
    refine lj_aload_n (q := 1614) dl_1613 rfl rfl ?_
    refine lj_callV (q := 1617) [] [] dl_1614 rfl lv_118 lj_80 rfl rfl rfl (Nat.le_of_ble_eq_true rfl) (Nat.le_of_ble_eq_true rfl) (by omega) (by omega) (c_X12_thrown lj_m 0 M2 _ (th_thrown M2)) ?_
    refine lj_iload (q := 1619) dl_1617 rfl rfl ?_
    refine lj_icmp_eq (q := 1622) (t := 1624) dl_1619 rfl rfl (fun _ => ?_) (fun h => absurd h3 h)
    refine lj_iload (q := 1626) dl_1624 rfl rfl ?_
    refine lj_if_ne (q := 1629) (t := 1641) dl_1626 rfl rfl (fun _ => ?_) (fun h => absurd h (by decide))
    refine lj_goto (t := 1900) dl_1641 rfl ?_
    refine lj_fg [5, 6] (lt := lj_l0 n0) rfl ?_
    exact k M2 hI
  · skip
    refine lj_aload_n (q := 1577) dl_1576 rfl rfl ?_
    refine lj_aload_n (q := 1578) dl_1577 rfl rfl ?_
    refine lj_iload (q := 1580) dl_1578 rfl rfl ?_
    refine lj_iconst (q := 1581) (v := 1) dl_1580 rfl (by decide) ?_
    refine lj_iadd (q := 1582) dl_1581 rfl ?_
    refine lj_sld (q := 1583) (t := 1) dl_1582 rfl hL9 (by omega) rfl ?_
    refine lj_aload_n (q := 1584) dl_1583 rfl rfl ?_
    refine lj_iload (q := 1586) dl_1584 rfl rfl ?_
    refine lj_iconst (q := 1587) (v := 2) dl_1586 rfl (by decide) ?_
    refine lj_iadd (q := 1588) dl_1587 rfl ?_
    refine lj_sld (q := 1589) (t := 2) dl_1588 rfl hL9 (by omega) rfl ?_
    refine lj_aload_n (q := 1590) dl_1589 rfl rfl ?_
    refine lj_callH (q := 1593) [] [.ref 0, .int (xs (n0 + 1)), .int (xs (n0 + 2)), .ref 102] dl_1590 rfl lh_35 rfl (Nat.le_of_ble_eq_true rfl) (Nat.le_of_ble_eq_true rfl) (by omega) (by omega) (hX3_L_distance lj_x lj_102 (xs (n0 + 1)) (xs (n0 + 2)) (c_X11_distance lj_x F (xs (n0 + 1)) (xs (n0 + 2)) M (.inr "java/util/NoSuchElementException", M1) h1)) ?_
    refine lj_istore (q := 1595) (lt := [some (.ref 103), some (.ref 0), some (.ref 80), some (.ref 102), some (.int (Int32.ofNat n0)), some (.int 3), none, none]) dl_1593 rfl (Nat.le_of_ble_eq_true rfl) rfl rfl ?_
    refine lj_aload_n (q := 1596) dl_1595 rfl rfl ?_
    refine lj_aload_n (q := 1597) dl_1596 rfl rfl ?_
    refine lj_iload (q := 1599) dl_1597 rfl rfl ?_
    refine lj_iconst (q := 1600) (v := 1) dl_1599 rfl (by decide) ?_
    refine lj_iadd (q := 1601) dl_1600 rfl ?_
    refine lj_sld (q := 1602) (t := 1) dl_1601 rfl hL9 (by omega) rfl ?_
    refine lj_aload_n (q := 1603) dl_1602 rfl rfl ?_
    refine lj_iload (q := 1605) dl_1603 rfl rfl ?_
    refine lj_iconst (q := 1606) (v := 2) dl_1605 rfl (by decide) ?_
    refine lj_iadd (q := 1607) dl_1606 rfl ?_
    refine lj_sld (q := 1608) (t := 2) dl_1607 rfl hL9 (by omega) rfl ?_
    refine lj_callV (q := 1611) [] [.int (xs (n0 + 1)), .int (xs (n0 + 2))] dl_1608 rfl lv_246 lj_80 rfl rfl rfl (Nat.le_of_ble_eq_true rfl) (Nat.le_of_ble_eq_true rfl) (by omega) (by omega) (c_X12_distance lj_m G (xs (n0 + 1)) (xs (n0 + 2)) _ (w, M2) h2) ?_
    refine lj_istore (q := 1613) (lt := [some (.ref 103), some (.ref 0), some (.ref 80), some (.ref 102), some (.int (Int32.ofNat n0)), some (.int 3), some (.int w), none]) dl_1611 rfl (Nat.le_of_ble_eq_true rfl) rfl rfl ?_
    refine lj_aload_n (q := 1614) dl_1613 rfl rfl ?_
    refine lj_callV (q := 1617) [] [] dl_1614 rfl lv_118 lj_80 rfl rfl rfl (Nat.le_of_ble_eq_true rfl) (Nat.le_of_ble_eq_true rfl) (by omega) (by omega) (c_X12_thrown lj_m 0 M2 _ (th_thrown M2)) ?_
    refine lj_iload (q := 1619) dl_1617 rfl rfl ?_
    refine lj_icmp_eq (q := 1622) (t := 1624) dl_1619 rfl rfl (fun _ => ?_) (fun h => absurd h3 h)
    refine lj_iload (q := 1626) dl_1624 rfl rfl ?_
    refine lj_if_ne (q := 1629) (t := 1641) dl_1626 rfl rfl (fun _ => ?_) (fun h => absurd h (by decide))
    refine lj_goto (t := 1900) dl_1641 rfl ?_
    refine lj_fg [5, 6] (lt := lj_l0 n0) rfl ?_
    exact k M2 hI
theorem lh_36 : lj_LH 247 yL_componentOf md_L_componentOf hh_L_componentOf 3 := ⟨sm_w (List.mem_of_getElem? (i := 1069) (by decide +kernel)) rfl, sm_w (List.mem_of_getElem? (i := 1070) (by decide +kernel)) rfl, sm_w (List.mem_of_getElem? (i := 58) (by decide +kernel)) rfl, sm_w (List.mem_of_getElem? (i := 1071) (by decide +kernel)) rfl, by decide, by decide +kernel, by decide +kernel⟩
theorem lv_249 : sm_LV RL 249 yX12_componentOf md_X12_componentOf 1 := ⟨sm_w (List.mem_of_getElem? (i := 1554) (by decide +kernel)) rfl, sm_w (List.mem_of_getElem? (i := 1555) (by decide +kernel)) rfl, sm_w (List.mem_of_getElem? (i := 1556) (by decide +kernel)) rfl, sm_w (List.mem_of_getElem? (i := 75) (by decide +kernel)) rfl, sm_w (List.mem_of_getElem? (i := 1557) (by decide +kernel)) rfl, by decide, by decide +kernel⟩
theorem lo_36 {L : Nat} {xs : Nat → Int32} {n0 nc ns : Nat} {M : sm_M} (hL9 : L ≤ 2048) (h4 : n0 + 4 ≤ L) (hnc : nc ≤ 599000) (hns : ns ≤ 6990000) {I : sm_M → Prop} (hp : lp_r (fun F M => f_X11_componentOf F (xs (n0 + 1)) M) (fun F M => f_X12_componentOf F (xs (n0 + 1)) M) I M ∨ lp_x "java/lang/UnsupportedOperationException" 1 (fun F M => f_X11_componentOf F (xs (n0 + 1)) M) (fun F M => f_X12_componentOf F (xs (n0 + 1)) M) I M ∨ lp_x "java/lang/IndexOutOfBoundsException" 2 (fun F M => f_X11_componentOf F (xs (n0 + 1)) M) (fun F M => f_X12_componentOf F (xs (n0 + 1)) M) I M) (k : ∀ M2, I M2 → lj_J L xs 1900 (lj_l0 n0) [] M2 (nc + 1) (ns + 6)) : lj_J L xs 1644 (lj_l0 n0) [] M nc ns := by
  rcases hp with ⟨F, G, v, M1, M2, h1, h2, h3, h5, hI⟩ | ⟨F, G, w, M1, M2, h1, h2, h3, hI⟩ | ⟨F, G, w, M1, M2, h1, h2, h3, hI⟩
  · skip
    refine lj_aload_n (q := 1645) dl_1644 rfl rfl ?_
    refine lj_aload_n (q := 1646) dl_1645 rfl rfl ?_
    refine lj_iload (q := 1648) dl_1646 rfl rfl ?_
    refine lj_iconst (q := 1649) (v := 1) dl_1648 rfl (by decide) ?_
    refine lj_iadd (q := 1650) dl_1649 rfl ?_
    refine lj_sld (q := 1651) (t := 1) dl_1650 rfl hL9 (by omega) rfl ?_
    refine lj_aload_n (q := 1652) dl_1651 rfl rfl ?_
    refine lj_callH (q := 1655) [] [.ref 0, .int (xs (n0 + 1)), .ref 102] dl_1652 rfl lh_36 rfl (Nat.le_of_ble_eq_true rfl) (Nat.le_of_ble_eq_true rfl) (by omega) (by omega) (hR_L_componentOf lj_x lj_102 (xs (n0 + 1)) (c_X11_componentOf lj_x F (xs (n0 + 1)) M (.inl (some (.int v)), M1) h1)) ?_
    refine lj_istore (q := 1657) (lt := [some (.ref 103), some (.ref 0), some (.ref 80), some (.ref 102), some (.int (Int32.ofNat n0)), some (.int 0), none, none]) dl_1655 rfl (Nat.le_of_ble_eq_true rfl) rfl rfl ?_
    refine lj_aload_n (q := 1658) dl_1657 rfl rfl ?_
    refine lj_aload_n (q := 1659) dl_1658 rfl rfl ?_
    refine lj_iload (q := 1661) dl_1659 rfl rfl ?_
    refine lj_iconst (q := 1662) (v := 1) dl_1661 rfl (by decide) ?_
    refine lj_iadd (q := 1663) dl_1662 rfl ?_
    refine lj_sld (q := 1664) (t := 1) dl_1663 rfl hL9 (by omega) rfl ?_
    refine lj_callV (q := 1667) [] [.int (xs (n0 + 1))] dl_1664 rfl lv_249 lj_80 rfl rfl rfl (Nat.le_of_ble_eq_true rfl) (Nat.le_of_ble_eq_true rfl) (by omega) (by omega) (c_X12_componentOf lj_m G (xs (n0 + 1)) _ (v, M2) h2) ?_
    refine lj_istore (q := 1669) (lt := [some (.ref 103), some (.ref 0), some (.ref 80), some (.ref 102), some (.int (Int32.ofNat n0)), some (.int 0), some (.int v), none]) dl_1667 rfl (Nat.le_of_ble_eq_true rfl) rfl rfl ?_
    refine lj_aload_n (q := 1670) dl_1669 rfl rfl ?_
    refine lj_callV (q := 1673) [] [] dl_1670 rfl lv_118 lj_80 rfl rfl rfl (Nat.le_of_ble_eq_true rfl) (Nat.le_of_ble_eq_true rfl) (by omega) (by omega) (c_X12_thrown lj_m 0 M2 _ (th_thrown M2)) ?_
    refine lj_iload (q := 1675) dl_1673 rfl rfl ?_
    refine lj_icmp_eq (q := 1678) (t := 1680) dl_1675 rfl rfl (fun _ => ?_) (fun h => absurd h3 h)
    refine lj_iload (q := 1682) dl_1680 rfl rfl ?_
    refine lj_if_ne (q := 1685) (t := 1697) dl_1682 rfl rfl (fun h => absurd rfl h) (fun _ => ?_)
    refine lj_aload_n (q := 1686) dl_1685 rfl rfl ?_
    refine lj_iconst (q := 1687) (v := 0) dl_1686 rfl (by decide) ?_
    refine lj_laload (q := 1688) dl_1687 rfl lj_102 (sm_ib_of rfl) ?_
    refine lj_iload (q := 1690) dl_1688 rfl rfl ?_
    refine lj_i2l (q := 1691) dl_1690 rfl ?_
    refine lj_lcmp (q := 1692) dl_1691 rfl ?_
    refine lj_if_eq (q := 1695) (t := 1697) dl_1692 rfl rfl (fun _ => ?_) (fun h => absurd (lj_cmp1 h5) h)
    refine lj_goto (t := 1900) dl_1697 rfl ?_
    refine lj_fg [5, 6] (lt := lj_l0 n0) rfl ?_
    exact k M2 hI
  · skip
    refine lj_aload_n (q := 1645) dl_1644 rfl rfl ?_
    refine lj_aload_n (q := 1646) dl_1645 rfl rfl ?_
    refine lj_iload (q := 1648) dl_1646 rfl rfl ?_
    refine lj_iconst (q := 1649) (v := 1) dl_1648 rfl (by decide) ?_
    refine lj_iadd (q := 1650) dl_1649 rfl ?_
    refine lj_sld (q := 1651) (t := 1) dl_1650 rfl hL9 (by omega) rfl ?_
    refine lj_aload_n (q := 1652) dl_1651 rfl rfl ?_
    refine lj_callH (q := 1655) [] [.ref 0, .int (xs (n0 + 1)), .ref 102] dl_1652 rfl lh_36 rfl (Nat.le_of_ble_eq_true rfl) (Nat.le_of_ble_eq_true rfl) (by omega) (by omega) (hX1_L_componentOf lj_x lj_102 (xs (n0 + 1)) (c_X11_componentOf lj_x F (xs (n0 + 1)) M (.inr "java/lang/UnsupportedOperationException", M1) h1)) ?_
    refine lj_istore (q := 1657) (lt := [some (.ref 103), some (.ref 0), some (.ref 80), some (.ref 102), some (.int (Int32.ofNat n0)), some (.int 1), none, none]) dl_1655 rfl (Nat.le_of_ble_eq_true rfl) rfl rfl ?_
    refine lj_aload_n (q := 1658) dl_1657 rfl rfl ?_
    refine lj_aload_n (q := 1659) dl_1658 rfl rfl ?_
    refine lj_iload (q := 1661) dl_1659 rfl rfl ?_
    refine lj_iconst (q := 1662) (v := 1) dl_1661 rfl (by decide) ?_
    refine lj_iadd (q := 1663) dl_1662 rfl ?_
    refine lj_sld (q := 1664) (t := 1) dl_1663 rfl hL9 (by omega) rfl ?_
    refine lj_callV (q := 1667) [] [.int (xs (n0 + 1))] dl_1664 rfl lv_249 lj_80 rfl rfl rfl (Nat.le_of_ble_eq_true rfl) (Nat.le_of_ble_eq_true rfl) (by omega) (by omega) (c_X12_componentOf lj_m G (xs (n0 + 1)) _ (w, M2) h2) ?_
    refine lj_istore (q := 1669) (lt := [some (.ref 103), some (.ref 0), some (.ref 80), some (.ref 102), some (.int (Int32.ofNat n0)), some (.int 1), some (.int w), none]) dl_1667 rfl (Nat.le_of_ble_eq_true rfl) rfl rfl ?_
    refine lj_aload_n (q := 1670) dl_1669 rfl rfl ?_
    refine lj_callV (q := 1673) [] [] dl_1670 rfl lv_118 lj_80 rfl rfl rfl (Nat.le_of_ble_eq_true rfl) (Nat.le_of_ble_eq_true rfl) (by omega) (by omega) (c_X12_thrown lj_m 0 M2 _ (th_thrown M2)) ?_
    refine lj_iload (q := 1675) dl_1673 rfl rfl ?_
    refine lj_icmp_eq (q := 1678) (t := 1680) dl_1675 rfl rfl (fun _ => ?_) (fun h => absurd h3 h)
    refine lj_iload (q := 1682) dl_1680 rfl rfl ?_
    refine lj_if_ne (q := 1685) (t := 1697) dl_1682 rfl rfl (fun _ => ?_) (fun h => absurd h (by decide))
    refine lj_goto (t := 1900) dl_1697 rfl ?_
    refine lj_fg [5, 6] (lt := lj_l0 n0) rfl ?_
    exact k M2 hI
  · skip
    refine lj_aload_n (q := 1645) dl_1644 rfl rfl ?_
    refine lj_aload_n (q := 1646) dl_1645 rfl rfl ?_
    refine lj_iload (q := 1648) dl_1646 rfl rfl ?_
    refine lj_iconst (q := 1649) (v := 1) dl_1648 rfl (by decide) ?_
    refine lj_iadd (q := 1650) dl_1649 rfl ?_
    refine lj_sld (q := 1651) (t := 1) dl_1650 rfl hL9 (by omega) rfl ?_
    refine lj_aload_n (q := 1652) dl_1651 rfl rfl ?_
    refine lj_callH (q := 1655) [] [.ref 0, .int (xs (n0 + 1)), .ref 102] dl_1652 rfl lh_36 rfl (Nat.le_of_ble_eq_true rfl) (Nat.le_of_ble_eq_true rfl) (by omega) (by omega) (hX2_L_componentOf lj_x lj_102 (xs (n0 + 1)) (c_X11_componentOf lj_x F (xs (n0 + 1)) M (.inr "java/lang/IndexOutOfBoundsException", M1) h1)) ?_
    refine lj_istore (q := 1657) (lt := [some (.ref 103), some (.ref 0), some (.ref 80), some (.ref 102), some (.int (Int32.ofNat n0)), some (.int 2), none, none]) dl_1655 rfl (Nat.le_of_ble_eq_true rfl) rfl rfl ?_
    refine lj_aload_n (q := 1658) dl_1657 rfl rfl ?_
    refine lj_aload_n (q := 1659) dl_1658 rfl rfl ?_
    refine lj_iload (q := 1661) dl_1659 rfl rfl ?_
    refine lj_iconst (q := 1662) (v := 1) dl_1661 rfl (by decide) ?_
    refine lj_iadd (q := 1663) dl_1662 rfl ?_
    refine lj_sld (q := 1664) (t := 1) dl_1663 rfl hL9 (by omega) rfl ?_
    refine lj_callV (q := 1667) [] [.int (xs (n0 + 1))] dl_1664 rfl lv_249 lj_80 rfl rfl rfl (Nat.le_of_ble_eq_true rfl) (Nat.le_of_ble_eq_true rfl) (by omega) (by omega) (c_X12_componentOf lj_m G (xs (n0 + 1)) _ (w, M2) h2) ?_
    refine lj_istore (q := 1669) (lt := [some (.ref 103), some (.ref 0), some (.ref 80), some (.ref 102), some (.int (Int32.ofNat n0)), some (.int 2), some (.int w), none]) dl_1667 rfl (Nat.le_of_ble_eq_true rfl) rfl rfl ?_
    refine lj_aload_n (q := 1670) dl_1669 rfl rfl ?_
    refine lj_callV (q := 1673) [] [] dl_1670 rfl lv_118 lj_80 rfl rfl rfl (Nat.le_of_ble_eq_true rfl) (Nat.le_of_ble_eq_true rfl) (by omega) (by omega) (c_X12_thrown lj_m 0 M2 _ (th_thrown M2)) ?_
    refine lj_iload (q := 1675) dl_1673 rfl rfl ?_
    refine lj_icmp_eq (q := 1678) (t := 1680) dl_1675 rfl rfl (fun _ => ?_) (fun h => absurd h3 h)
    refine lj_iload (q := 1682) dl_1680 rfl rfl ?_
    refine lj_if_ne (q := 1685) (t := 1697) dl_1682 rfl rfl (fun _ => ?_) (fun h => absurd h (by decide))
    refine lj_goto (t := 1900) dl_1697 rfl ?_
    refine lj_fg [5, 6] (lt := lj_l0 n0) rfl ?_
    exact k M2 hI
theorem lh_37 : lj_LH 250 yL_circuitCount md_L_circuitCount hh_L_circuitCount 2 := ⟨sm_w (List.mem_of_getElem? (i := 1080) (by decide +kernel)) rfl, sm_w (List.mem_of_getElem? (i := 1081) (by decide +kernel)) rfl, sm_w (List.mem_of_getElem? (i := 58) (by decide +kernel)) rfl, sm_w (List.mem_of_getElem? (i := 1082) (by decide +kernel)) rfl, by decide, by decide +kernel, by decide +kernel⟩
theorem lv_252 : sm_LV RL 252 yX12_circuitCount md_X12_circuitCount 0 := ⟨sm_w (List.mem_of_getElem? (i := 1558) (by decide +kernel)) rfl, sm_w (List.mem_of_getElem? (i := 1559) (by decide +kernel)) rfl, sm_w (List.mem_of_getElem? (i := 1560) (by decide +kernel)) rfl, sm_w (List.mem_of_getElem? (i := 75) (by decide +kernel)) rfl, sm_w (List.mem_of_getElem? (i := 1561) (by decide +kernel)) rfl, by decide, by decide +kernel⟩
theorem lo_37 {L : Nat} {xs : Nat → Int32} {n0 nc ns : Nat} {M : sm_M} (hL9 : L ≤ 2048) (h4 : n0 + 4 ≤ L) (hnc : nc ≤ 599000) (hns : ns ≤ 6990000) {I : sm_M → Prop} (hp : lp_rl (fun F M => f_X11_circuitCount F M) (fun F M => f_X12_circuitCount F M) I M ∨ lp_x "java/lang/UnsupportedOperationException" 1 (fun F M => f_X11_circuitCount F M) (fun F M => f_X12_circuitCount F M) I M ∨ lp_x "java/util/NoSuchElementException" 2 (fun F M => f_X11_circuitCount F M) (fun F M => f_X12_circuitCount F M) I M ∨ lp_x "java/lang/ArithmeticException" 3 (fun F M => f_X11_circuitCount F M) (fun F M => f_X12_circuitCount F M) I M) (k : ∀ M2, I M2 → lj_J L xs 1900 (lj_l0 n0) [] M2 (nc + 1) (ns + 6)) : lj_J L xs 1700 (lj_l0 n0) [] M nc ns := by
  rcases hp with ⟨F, G, v, M1, M2, h1, h2, h3, h5, hI⟩ | ⟨F, G, w, M1, M2, h1, h2, h3, hI⟩ | ⟨F, G, w, M1, M2, h1, h2, h3, hI⟩ | ⟨F, G, w, M1, M2, h1, h2, h3, hI⟩
  · skip
    refine lj_aload_n (q := 1701) dl_1700 rfl rfl ?_
    refine lj_aload_n (q := 1702) dl_1701 rfl rfl ?_
    refine lj_callH (q := 1705) [] [.ref 0, .ref 102] dl_1702 rfl lh_37 rfl (Nat.le_of_ble_eq_true rfl) (Nat.le_of_ble_eq_true rfl) (by omega) (by omega) (hR_L_circuitCount lj_x lj_102 (c_X11_circuitCount lj_x F M (.inl (some (.long v)), M1) h1)) ?_
    refine lj_istore (q := 1707) (lt := [some (.ref 103), some (.ref 0), some (.ref 80), some (.ref 102), some (.int (Int32.ofNat n0)), some (.int 0), none, none]) dl_1705 rfl (Nat.le_of_ble_eq_true rfl) rfl rfl ?_
    refine lj_aload_n (q := 1708) dl_1707 rfl rfl ?_
    refine lj_callV (q := 1711) [] [] dl_1708 rfl lv_252 lj_80 rfl rfl rfl (Nat.le_of_ble_eq_true rfl) (Nat.le_of_ble_eq_true rfl) (by omega) (by omega) (c_X12_circuitCount lj_m G _ (v, M2) h2) ?_
    refine lj_lstore (q := 1713) (lt := [some (.ref 103), some (.ref 0), some (.ref 80), some (.ref 102), some (.int (Int32.ofNat n0)), some (.int 0), some (.long v), none]) dl_1711 rfl (Nat.le_of_ble_eq_true rfl) rfl rfl ?_
    refine lj_aload_n (q := 1714) dl_1713 rfl rfl ?_
    refine lj_callV (q := 1717) [] [] dl_1714 rfl lv_118 lj_80 rfl rfl rfl (Nat.le_of_ble_eq_true rfl) (Nat.le_of_ble_eq_true rfl) (by omega) (by omega) (c_X12_thrown lj_m 0 M2 _ (th_thrown M2)) ?_
    refine lj_iload (q := 1719) dl_1717 rfl rfl ?_
    refine lj_icmp_eq (q := 1722) (t := 1724) dl_1719 rfl rfl (fun _ => ?_) (fun h => absurd h3 h)
    refine lj_iload (q := 1726) dl_1724 rfl rfl ?_
    refine lj_if_ne (q := 1729) (t := 1740) dl_1726 rfl rfl (fun h => absurd rfl h) (fun _ => ?_)
    refine lj_aload_n (q := 1730) dl_1729 rfl rfl ?_
    refine lj_iconst (q := 1731) (v := 0) dl_1730 rfl (by decide) ?_
    refine lj_laload (q := 1732) dl_1731 rfl lj_102 (sm_ib_of rfl) ?_
    refine lj_lload (q := 1734) dl_1732 rfl rfl ?_
    refine lj_lcmp (q := 1735) dl_1734 rfl ?_
    refine lj_if_eq (q := 1738) (t := 1740) dl_1735 rfl rfl (fun _ => ?_) (fun h => absurd (lj_cmp1 h5) h)
    refine lj_goto (t := 1900) dl_1740 rfl ?_
    refine lj_fg [5, 6] (lt := lj_l0 n0) rfl ?_
    exact k M2 hI
  · skip
    refine lj_aload_n (q := 1701) dl_1700 rfl rfl ?_
    refine lj_aload_n (q := 1702) dl_1701 rfl rfl ?_
    refine lj_callH (q := 1705) [] [.ref 0, .ref 102] dl_1702 rfl lh_37 rfl (Nat.le_of_ble_eq_true rfl) (Nat.le_of_ble_eq_true rfl) (by omega) (by omega) (hX1_L_circuitCount lj_x lj_102 (c_X11_circuitCount lj_x F M (.inr "java/lang/UnsupportedOperationException", M1) h1)) ?_
    refine lj_istore (q := 1707) (lt := [some (.ref 103), some (.ref 0), some (.ref 80), some (.ref 102), some (.int (Int32.ofNat n0)), some (.int 1), none, none]) dl_1705 rfl (Nat.le_of_ble_eq_true rfl) rfl rfl ?_
    refine lj_aload_n (q := 1708) dl_1707 rfl rfl ?_
    refine lj_callV (q := 1711) [] [] dl_1708 rfl lv_252 lj_80 rfl rfl rfl (Nat.le_of_ble_eq_true rfl) (Nat.le_of_ble_eq_true rfl) (by omega) (by omega) (c_X12_circuitCount lj_m G _ (w, M2) h2) ?_
    refine lj_lstore (q := 1713) (lt := [some (.ref 103), some (.ref 0), some (.ref 80), some (.ref 102), some (.int (Int32.ofNat n0)), some (.int 1), some (.long w), none]) dl_1711 rfl (Nat.le_of_ble_eq_true rfl) rfl rfl ?_
    refine lj_aload_n (q := 1714) dl_1713 rfl rfl ?_
    refine lj_callV (q := 1717) [] [] dl_1714 rfl lv_118 lj_80 rfl rfl rfl (Nat.le_of_ble_eq_true rfl) (Nat.le_of_ble_eq_true rfl) (by omega) (by omega) (c_X12_thrown lj_m 0 M2 _ (th_thrown M2)) ?_
    refine lj_iload (q := 1719) dl_1717 rfl rfl ?_
    refine lj_icmp_eq (q := 1722) (t := 1724) dl_1719 rfl rfl (fun _ => ?_) (fun h => absurd h3 h)
    refine lj_iload (q := 1726) dl_1724 rfl rfl ?_
    refine lj_if_ne (q := 1729) (t := 1740) dl_1726 rfl rfl (fun _ => ?_) (fun h => absurd h (by decide))
    refine lj_goto (t := 1900) dl_1740 rfl ?_
    refine lj_fg [5, 6] (lt := lj_l0 n0) rfl ?_
    exact k M2 hI
  · skip
    refine lj_aload_n (q := 1701) dl_1700 rfl rfl ?_
    refine lj_aload_n (q := 1702) dl_1701 rfl rfl ?_
    refine lj_callH (q := 1705) [] [.ref 0, .ref 102] dl_1702 rfl lh_37 rfl (Nat.le_of_ble_eq_true rfl) (Nat.le_of_ble_eq_true rfl) (by omega) (by omega) (hX2_L_circuitCount lj_x lj_102 (c_X11_circuitCount lj_x F M (.inr "java/util/NoSuchElementException", M1) h1)) ?_
    refine lj_istore (q := 1707) (lt := [some (.ref 103), some (.ref 0), some (.ref 80), some (.ref 102), some (.int (Int32.ofNat n0)), some (.int 2), none, none]) dl_1705 rfl (Nat.le_of_ble_eq_true rfl) rfl rfl ?_
    refine lj_aload_n (q := 1708) dl_1707 rfl rfl ?_
    refine lj_callV (q := 1711) [] [] dl_1708 rfl lv_252 lj_80 rfl rfl rfl (Nat.le_of_ble_eq_true rfl) (Nat.le_of_ble_eq_true rfl) (by omega) (by omega) (c_X12_circuitCount lj_m G _ (w, M2) h2) ?_
    refine lj_lstore (q := 1713) (lt := [some (.ref 103), some (.ref 0), some (.ref 80), some (.ref 102), some (.int (Int32.ofNat n0)), some (.int 2), some (.long w), none]) dl_1711 rfl (Nat.le_of_ble_eq_true rfl) rfl rfl ?_
    refine lj_aload_n (q := 1714) dl_1713 rfl rfl ?_
    refine lj_callV (q := 1717) [] [] dl_1714 rfl lv_118 lj_80 rfl rfl rfl (Nat.le_of_ble_eq_true rfl) (Nat.le_of_ble_eq_true rfl) (by omega) (by omega) (c_X12_thrown lj_m 0 M2 _ (th_thrown M2)) ?_
    refine lj_iload (q := 1719) dl_1717 rfl rfl ?_
    refine lj_icmp_eq (q := 1722) (t := 1724) dl_1719 rfl rfl (fun _ => ?_) (fun h => absurd h3 h)
    refine lj_iload (q := 1726) dl_1724 rfl rfl ?_
    refine lj_if_ne (q := 1729) (t := 1740) dl_1726 rfl rfl (fun _ => ?_) (fun h => absurd h (by decide))
    refine lj_goto (t := 1900) dl_1740 rfl ?_
    refine lj_fg [5, 6] (lt := lj_l0 n0) rfl ?_
    exact k M2 hI
  · skip
    refine lj_aload_n (q := 1701) dl_1700 rfl rfl ?_
    refine lj_aload_n (q := 1702) dl_1701 rfl rfl ?_
    refine lj_callH (q := 1705) [] [.ref 0, .ref 102] dl_1702 rfl lh_37 rfl (Nat.le_of_ble_eq_true rfl) (Nat.le_of_ble_eq_true rfl) (by omega) (by omega) (hX3_L_circuitCount lj_x lj_102 (c_X11_circuitCount lj_x F M (.inr "java/lang/ArithmeticException", M1) h1)) ?_
    refine lj_istore (q := 1707) (lt := [some (.ref 103), some (.ref 0), some (.ref 80), some (.ref 102), some (.int (Int32.ofNat n0)), some (.int 3), none, none]) dl_1705 rfl (Nat.le_of_ble_eq_true rfl) rfl rfl ?_
    refine lj_aload_n (q := 1708) dl_1707 rfl rfl ?_
    refine lj_callV (q := 1711) [] [] dl_1708 rfl lv_252 lj_80 rfl rfl rfl (Nat.le_of_ble_eq_true rfl) (Nat.le_of_ble_eq_true rfl) (by omega) (by omega) (c_X12_circuitCount lj_m G _ (w, M2) h2) ?_
    refine lj_lstore (q := 1713) (lt := [some (.ref 103), some (.ref 0), some (.ref 80), some (.ref 102), some (.int (Int32.ofNat n0)), some (.int 3), some (.long w), none]) dl_1711 rfl (Nat.le_of_ble_eq_true rfl) rfl rfl ?_
    refine lj_aload_n (q := 1714) dl_1713 rfl rfl ?_
    refine lj_callV (q := 1717) [] [] dl_1714 rfl lv_118 lj_80 rfl rfl rfl (Nat.le_of_ble_eq_true rfl) (Nat.le_of_ble_eq_true rfl) (by omega) (by omega) (c_X12_thrown lj_m 0 M2 _ (th_thrown M2)) ?_
    refine lj_iload (q := 1719) dl_1717 rfl rfl ?_
    refine lj_icmp_eq (q := 1722) (t := 1724) dl_1719 rfl rfl (fun _ => ?_) (fun h => absurd h3 h)
    refine lj_iload (q := 1726) dl_1724 rfl rfl ?_
    refine lj_if_ne (q := 1729) (t := 1740) dl_1726 rfl rfl (fun _ => ?_) (fun h => absurd h (by decide))
    refine lj_goto (t := 1900) dl_1740 rfl ?_
    refine lj_fg [5, 6] (lt := lj_l0 n0) rfl ?_
    exact k M2 hI
theorem lh_38 : lj_LH 253 yL_circuitEdge md_L_circuitEdge hh_L_circuitEdge 3 := ⟨sm_w (List.mem_of_getElem? (i := 1130) (by decide +kernel)) rfl, sm_w (List.mem_of_getElem? (i := 1131) (by decide +kernel)) rfl, sm_w (List.mem_of_getElem? (i := 58) (by decide +kernel)) rfl, sm_w (List.mem_of_getElem? (i := 1132) (by decide +kernel)) rfl, by decide, by decide +kernel, by decide +kernel⟩
theorem lv_255 : sm_LV RL 255 yX12_circuitEdge md_X12_circuitEdge 1 := ⟨sm_w (List.mem_of_getElem? (i := 1571) (by decide +kernel)) rfl, sm_w (List.mem_of_getElem? (i := 1572) (by decide +kernel)) rfl, sm_w (List.mem_of_getElem? (i := 1573) (by decide +kernel)) rfl, sm_w (List.mem_of_getElem? (i := 75) (by decide +kernel)) rfl, sm_w (List.mem_of_getElem? (i := 1574) (by decide +kernel)) rfl, by decide, by decide +kernel⟩
theorem lo_38 {L : Nat} {xs : Nat → Int32} {n0 nc ns : Nat} {M : sm_M} (hL9 : L ≤ 2048) (h4 : n0 + 4 ≤ L) (hnc : nc ≤ 599000) (hns : ns ≤ 6990000) {I : sm_M → Prop} (hp : lp_r (fun F M => f_X11_circuitEdge F (xs (n0 + 1)) M) (fun F M => f_X12_circuitEdge F (xs (n0 + 1)) M) I M ∨ lp_x "java/lang/UnsupportedOperationException" 1 (fun F M => f_X11_circuitEdge F (xs (n0 + 1)) M) (fun F M => f_X12_circuitEdge F (xs (n0 + 1)) M) I M ∨ lp_x "java/util/NoSuchElementException" 2 (fun F M => f_X11_circuitEdge F (xs (n0 + 1)) M) (fun F M => f_X12_circuitEdge F (xs (n0 + 1)) M) I M ∨ lp_x "java/lang/IndexOutOfBoundsException" 3 (fun F M => f_X11_circuitEdge F (xs (n0 + 1)) M) (fun F M => f_X12_circuitEdge F (xs (n0 + 1)) M) I M) (k : ∀ M2, I M2 → lj_J L xs 1900 (lj_l0 n0) [] M2 (nc + 1) (ns + 6)) : lj_J L xs 1743 (lj_l0 n0) [] M nc ns := by
  rcases hp with ⟨F, G, v, M1, M2, h1, h2, h3, h5, hI⟩ | ⟨F, G, w, M1, M2, h1, h2, h3, hI⟩ | ⟨F, G, w, M1, M2, h1, h2, h3, hI⟩ | ⟨F, G, w, M1, M2, h1, h2, h3, hI⟩
  · skip
    refine lj_aload_n (q := 1744) dl_1743 rfl rfl ?_
    refine lj_aload_n (q := 1745) dl_1744 rfl rfl ?_
    refine lj_iload (q := 1747) dl_1745 rfl rfl ?_
    refine lj_iconst (q := 1748) (v := 1) dl_1747 rfl (by decide) ?_
    refine lj_iadd (q := 1749) dl_1748 rfl ?_
    refine lj_sld (q := 1750) (t := 1) dl_1749 rfl hL9 (by omega) rfl ?_
    refine lj_aload_n (q := 1751) dl_1750 rfl rfl ?_
    refine lj_callH (q := 1754) [] [.ref 0, .int (xs (n0 + 1)), .ref 102] dl_1751 rfl lh_38 rfl (Nat.le_of_ble_eq_true rfl) (Nat.le_of_ble_eq_true rfl) (by omega) (by omega) (hR_L_circuitEdge lj_x lj_102 (xs (n0 + 1)) (c_X11_circuitEdge lj_x F (xs (n0 + 1)) M (.inl (some (.int v)), M1) h1)) ?_
    refine lj_istore (q := 1756) (lt := [some (.ref 103), some (.ref 0), some (.ref 80), some (.ref 102), some (.int (Int32.ofNat n0)), some (.int 0), none, none]) dl_1754 rfl (Nat.le_of_ble_eq_true rfl) rfl rfl ?_
    refine lj_aload_n (q := 1757) dl_1756 rfl rfl ?_
    refine lj_aload_n (q := 1758) dl_1757 rfl rfl ?_
    refine lj_iload (q := 1760) dl_1758 rfl rfl ?_
    refine lj_iconst (q := 1761) (v := 1) dl_1760 rfl (by decide) ?_
    refine lj_iadd (q := 1762) dl_1761 rfl ?_
    refine lj_sld (q := 1763) (t := 1) dl_1762 rfl hL9 (by omega) rfl ?_
    refine lj_callV (q := 1766) [] [.int (xs (n0 + 1))] dl_1763 rfl lv_255 lj_80 rfl rfl rfl (Nat.le_of_ble_eq_true rfl) (Nat.le_of_ble_eq_true rfl) (by omega) (by omega) (c_X12_circuitEdge lj_m G (xs (n0 + 1)) _ (v, M2) h2) ?_
    refine lj_istore (q := 1768) (lt := [some (.ref 103), some (.ref 0), some (.ref 80), some (.ref 102), some (.int (Int32.ofNat n0)), some (.int 0), some (.int v), none]) dl_1766 rfl (Nat.le_of_ble_eq_true rfl) rfl rfl ?_
    refine lj_aload_n (q := 1769) dl_1768 rfl rfl ?_
    refine lj_callV (q := 1772) [] [] dl_1769 rfl lv_118 lj_80 rfl rfl rfl (Nat.le_of_ble_eq_true rfl) (Nat.le_of_ble_eq_true rfl) (by omega) (by omega) (c_X12_thrown lj_m 0 M2 _ (th_thrown M2)) ?_
    refine lj_iload (q := 1774) dl_1772 rfl rfl ?_
    refine lj_icmp_eq (q := 1777) (t := 1779) dl_1774 rfl rfl (fun _ => ?_) (fun h => absurd h3 h)
    refine lj_iload (q := 1781) dl_1779 rfl rfl ?_
    refine lj_if_ne (q := 1784) (t := 1796) dl_1781 rfl rfl (fun h => absurd rfl h) (fun _ => ?_)
    refine lj_aload_n (q := 1785) dl_1784 rfl rfl ?_
    refine lj_iconst (q := 1786) (v := 0) dl_1785 rfl (by decide) ?_
    refine lj_laload (q := 1787) dl_1786 rfl lj_102 (sm_ib_of rfl) ?_
    refine lj_iload (q := 1789) dl_1787 rfl rfl ?_
    refine lj_i2l (q := 1790) dl_1789 rfl ?_
    refine lj_lcmp (q := 1791) dl_1790 rfl ?_
    refine lj_if_eq (q := 1794) (t := 1796) dl_1791 rfl rfl (fun _ => ?_) (fun h => absurd (lj_cmp1 h5) h)
    refine lj_goto (t := 1900) dl_1796 rfl ?_
    refine lj_fg [5, 6] (lt := lj_l0 n0) rfl ?_
    exact k M2 hI
  · skip
    refine lj_aload_n (q := 1744) dl_1743 rfl rfl ?_
    refine lj_aload_n (q := 1745) dl_1744 rfl rfl ?_
    refine lj_iload (q := 1747) dl_1745 rfl rfl ?_
    refine lj_iconst (q := 1748) (v := 1) dl_1747 rfl (by decide) ?_
    refine lj_iadd (q := 1749) dl_1748 rfl ?_
    refine lj_sld (q := 1750) (t := 1) dl_1749 rfl hL9 (by omega) rfl ?_
    refine lj_aload_n (q := 1751) dl_1750 rfl rfl ?_
    refine lj_callH (q := 1754) [] [.ref 0, .int (xs (n0 + 1)), .ref 102] dl_1751 rfl lh_38 rfl (Nat.le_of_ble_eq_true rfl) (Nat.le_of_ble_eq_true rfl) (by omega) (by omega) (hX1_L_circuitEdge lj_x lj_102 (xs (n0 + 1)) (c_X11_circuitEdge lj_x F (xs (n0 + 1)) M (.inr "java/lang/UnsupportedOperationException", M1) h1)) ?_
    refine lj_istore (q := 1756) (lt := [some (.ref 103), some (.ref 0), some (.ref 80), some (.ref 102), some (.int (Int32.ofNat n0)), some (.int 1), none, none]) dl_1754 rfl (Nat.le_of_ble_eq_true rfl) rfl rfl ?_
    refine lj_aload_n (q := 1757) dl_1756 rfl rfl ?_
    refine lj_aload_n (q := 1758) dl_1757 rfl rfl ?_
    refine lj_iload (q := 1760) dl_1758 rfl rfl ?_
    refine lj_iconst (q := 1761) (v := 1) dl_1760 rfl (by decide) ?_
    refine lj_iadd (q := 1762) dl_1761 rfl ?_
    refine lj_sld (q := 1763) (t := 1) dl_1762 rfl hL9 (by omega) rfl ?_
    refine lj_callV (q := 1766) [] [.int (xs (n0 + 1))] dl_1763 rfl lv_255 lj_80 rfl rfl rfl (Nat.le_of_ble_eq_true rfl) (Nat.le_of_ble_eq_true rfl) (by omega) (by omega) (c_X12_circuitEdge lj_m G (xs (n0 + 1)) _ (w, M2) h2) ?_
    refine lj_istore (q := 1768) (lt := [some (.ref 103), some (.ref 0), some (.ref 80), some (.ref 102), some (.int (Int32.ofNat n0)), some (.int 1), some (.int w), none]) dl_1766 rfl (Nat.le_of_ble_eq_true rfl) rfl rfl ?_
    refine lj_aload_n (q := 1769) dl_1768 rfl rfl ?_
    refine lj_callV (q := 1772) [] [] dl_1769 rfl lv_118 lj_80 rfl rfl rfl (Nat.le_of_ble_eq_true rfl) (Nat.le_of_ble_eq_true rfl) (by omega) (by omega) (c_X12_thrown lj_m 0 M2 _ (th_thrown M2)) ?_
    refine lj_iload (q := 1774) dl_1772 rfl rfl ?_
    refine lj_icmp_eq (q := 1777) (t := 1779) dl_1774 rfl rfl (fun _ => ?_) (fun h => absurd h3 h)
    refine lj_iload (q := 1781) dl_1779 rfl rfl ?_
    refine lj_if_ne (q := 1784) (t := 1796) dl_1781 rfl rfl (fun _ => ?_) (fun h => absurd h (by decide))
    refine lj_goto (t := 1900) dl_1796 rfl ?_
    refine lj_fg [5, 6] (lt := lj_l0 n0) rfl ?_
    exact k M2 hI
  · skip
    refine lj_aload_n (q := 1744) dl_1743 rfl rfl ?_
    refine lj_aload_n (q := 1745) dl_1744 rfl rfl ?_
    refine lj_iload (q := 1747) dl_1745 rfl rfl ?_
    refine lj_iconst (q := 1748) (v := 1) dl_1747 rfl (by decide) ?_
    refine lj_iadd (q := 1749) dl_1748 rfl ?_
    refine lj_sld (q := 1750) (t := 1) dl_1749 rfl hL9 (by omega) rfl ?_
    refine lj_aload_n (q := 1751) dl_1750 rfl rfl ?_
    refine lj_callH (q := 1754) [] [.ref 0, .int (xs (n0 + 1)), .ref 102] dl_1751 rfl lh_38 rfl (Nat.le_of_ble_eq_true rfl) (Nat.le_of_ble_eq_true rfl) (by omega) (by omega) (hX2_L_circuitEdge lj_x lj_102 (xs (n0 + 1)) (c_X11_circuitEdge lj_x F (xs (n0 + 1)) M (.inr "java/util/NoSuchElementException", M1) h1)) ?_
    refine lj_istore (q := 1756) (lt := [some (.ref 103), some (.ref 0), some (.ref 80), some (.ref 102), some (.int (Int32.ofNat n0)), some (.int 2), none, none]) dl_1754 rfl (Nat.le_of_ble_eq_true rfl) rfl rfl ?_
    refine lj_aload_n (q := 1757) dl_1756 rfl rfl ?_
    refine lj_aload_n (q := 1758) dl_1757 rfl rfl ?_
    refine lj_iload (q := 1760) dl_1758 rfl rfl ?_
    refine lj_iconst (q := 1761) (v := 1) dl_1760 rfl (by decide) ?_
    refine lj_iadd (q := 1762) dl_1761 rfl ?_
    refine lj_sld (q := 1763) (t := 1) dl_1762 rfl hL9 (by omega) rfl ?_
    refine lj_callV (q := 1766) [] [.int (xs (n0 + 1))] dl_1763 rfl lv_255 lj_80 rfl rfl rfl (Nat.le_of_ble_eq_true rfl) (Nat.le_of_ble_eq_true rfl) (by omega) (by omega) (c_X12_circuitEdge lj_m G (xs (n0 + 1)) _ (w, M2) h2) ?_
    refine lj_istore (q := 1768) (lt := [some (.ref 103), some (.ref 0), some (.ref 80), some (.ref 102), some (.int (Int32.ofNat n0)), some (.int 2), some (.int w), none]) dl_1766 rfl (Nat.le_of_ble_eq_true rfl) rfl rfl ?_
    refine lj_aload_n (q := 1769) dl_1768 rfl rfl ?_
    refine lj_callV (q := 1772) [] [] dl_1769 rfl lv_118 lj_80 rfl rfl rfl (Nat.le_of_ble_eq_true rfl) (Nat.le_of_ble_eq_true rfl) (by omega) (by omega) (c_X12_thrown lj_m 0 M2 _ (th_thrown M2)) ?_
    refine lj_iload (q := 1774) dl_1772 rfl rfl ?_
    refine lj_icmp_eq (q := 1777) (t := 1779) dl_1774 rfl rfl (fun _ => ?_) (fun h => absurd h3 h)
    refine lj_iload (q := 1781) dl_1779 rfl rfl ?_
    refine lj_if_ne (q := 1784) (t := 1796) dl_1781 rfl rfl (fun _ => ?_) (fun h => absurd h (by decide))
    refine lj_goto (t := 1900) dl_1796 rfl ?_
    refine lj_fg [5, 6] (lt := lj_l0 n0) rfl ?_
    exact k M2 hI
  · skip
    refine lj_aload_n (q := 1744) dl_1743 rfl rfl ?_
    refine lj_aload_n (q := 1745) dl_1744 rfl rfl ?_
    refine lj_iload (q := 1747) dl_1745 rfl rfl ?_
    refine lj_iconst (q := 1748) (v := 1) dl_1747 rfl (by decide) ?_
    refine lj_iadd (q := 1749) dl_1748 rfl ?_
    refine lj_sld (q := 1750) (t := 1) dl_1749 rfl hL9 (by omega) rfl ?_
    refine lj_aload_n (q := 1751) dl_1750 rfl rfl ?_
    refine lj_callH (q := 1754) [] [.ref 0, .int (xs (n0 + 1)), .ref 102] dl_1751 rfl lh_38 rfl (Nat.le_of_ble_eq_true rfl) (Nat.le_of_ble_eq_true rfl) (by omega) (by omega) (hX3_L_circuitEdge lj_x lj_102 (xs (n0 + 1)) (c_X11_circuitEdge lj_x F (xs (n0 + 1)) M (.inr "java/lang/IndexOutOfBoundsException", M1) h1)) ?_
    refine lj_istore (q := 1756) (lt := [some (.ref 103), some (.ref 0), some (.ref 80), some (.ref 102), some (.int (Int32.ofNat n0)), some (.int 3), none, none]) dl_1754 rfl (Nat.le_of_ble_eq_true rfl) rfl rfl ?_
    refine lj_aload_n (q := 1757) dl_1756 rfl rfl ?_
    refine lj_aload_n (q := 1758) dl_1757 rfl rfl ?_
    refine lj_iload (q := 1760) dl_1758 rfl rfl ?_
    refine lj_iconst (q := 1761) (v := 1) dl_1760 rfl (by decide) ?_
    refine lj_iadd (q := 1762) dl_1761 rfl ?_
    refine lj_sld (q := 1763) (t := 1) dl_1762 rfl hL9 (by omega) rfl ?_
    refine lj_callV (q := 1766) [] [.int (xs (n0 + 1))] dl_1763 rfl lv_255 lj_80 rfl rfl rfl (Nat.le_of_ble_eq_true rfl) (Nat.le_of_ble_eq_true rfl) (by omega) (by omega) (c_X12_circuitEdge lj_m G (xs (n0 + 1)) _ (w, M2) h2) ?_
    refine lj_istore (q := 1768) (lt := [some (.ref 103), some (.ref 0), some (.ref 80), some (.ref 102), some (.int (Int32.ofNat n0)), some (.int 3), some (.int w), none]) dl_1766 rfl (Nat.le_of_ble_eq_true rfl) rfl rfl ?_
    refine lj_aload_n (q := 1769) dl_1768 rfl rfl ?_
    refine lj_callV (q := 1772) [] [] dl_1769 rfl lv_118 lj_80 rfl rfl rfl (Nat.le_of_ble_eq_true rfl) (Nat.le_of_ble_eq_true rfl) (by omega) (by omega) (c_X12_thrown lj_m 0 M2 _ (th_thrown M2)) ?_
    refine lj_iload (q := 1774) dl_1772 rfl rfl ?_
    refine lj_icmp_eq (q := 1777) (t := 1779) dl_1774 rfl rfl (fun _ => ?_) (fun h => absurd h3 h)
    refine lj_iload (q := 1781) dl_1779 rfl rfl ?_
    refine lj_if_ne (q := 1784) (t := 1796) dl_1781 rfl rfl (fun _ => ?_) (fun h => absurd h (by decide))
    refine lj_goto (t := 1900) dl_1796 rfl ?_
    refine lj_fg [5, 6] (lt := lj_l0 n0) rfl ?_
    exact k M2 hI
theorem lh_39 : lj_LH 256 yL_useCircuit md_L_useCircuit hh_L_useCircuit 2 := ⟨sm_w (List.mem_of_getElem? (i := 1137) (by decide +kernel)) rfl, sm_w (List.mem_of_getElem? (i := 1138) (by decide +kernel)) rfl, sm_w (List.mem_of_getElem? (i := 58) (by decide +kernel)) rfl, sm_w (List.mem_of_getElem? (i := 1139) (by decide +kernel)) rfl, by decide, by decide +kernel, by decide +kernel⟩
theorem lv_258 : sm_LV RL 258 yX12_useCircuit md_X12_useCircuit 0 := ⟨sm_w (List.mem_of_getElem? (i := 1575) (by decide +kernel)) rfl, sm_w (List.mem_of_getElem? (i := 1576) (by decide +kernel)) rfl, sm_w (List.mem_of_getElem? (i := 1577) (by decide +kernel)) rfl, sm_w (List.mem_of_getElem? (i := 75) (by decide +kernel)) rfl, sm_w (List.mem_of_getElem? (i := 1578) (by decide +kernel)) rfl, by decide, by decide +kernel⟩
theorem lo_39 {L : Nat} {xs : Nat → Int32} {n0 nc ns : Nat} {M : sm_M} (hL9 : L ≤ 2048) (h4 : n0 + 4 ≤ L) (hnc : nc ≤ 599000) (hns : ns ≤ 6990000) {I : sm_M → Prop} (hp : lp_r (fun F M => f_X11_useCircuit F M) (fun F M => f_X12_useCircuit F M) I M ∨ lp_x "java/lang/UnsupportedOperationException" 1 (fun F M => f_X11_useCircuit F M) (fun F M => f_X12_useCircuit F M) I M ∨ lp_x "java/util/NoSuchElementException" 2 (fun F M => f_X11_useCircuit F M) (fun F M => f_X12_useCircuit F M) I M) (k : ∀ M2, I M2 → lj_J L xs 1900 (lj_l0 n0) [] M2 (nc + 1) (ns + 6)) : lj_J L xs 1799 (lj_l0 n0) [] M nc ns := by
  rcases hp with ⟨F, G, v, M1, M2, h1, h2, h3, h5, hI⟩ | ⟨F, G, w, M1, M2, h1, h2, h3, hI⟩ | ⟨F, G, w, M1, M2, h1, h2, h3, hI⟩
  · skip
    refine lj_aload_n (q := 1800) dl_1799 rfl rfl ?_
    refine lj_aload_n (q := 1801) dl_1800 rfl rfl ?_
    refine lj_callH (q := 1804) [] [.ref 0, .ref 102] dl_1801 rfl lh_39 rfl (Nat.le_of_ble_eq_true rfl) (Nat.le_of_ble_eq_true rfl) (by omega) (by omega) (hR_L_useCircuit lj_x lj_102 (c_X11_useCircuit lj_x F M (.inl (some (.int v)), M1) h1)) ?_
    refine lj_istore (q := 1806) (lt := [some (.ref 103), some (.ref 0), some (.ref 80), some (.ref 102), some (.int (Int32.ofNat n0)), some (.int 0), none, none]) dl_1804 rfl (Nat.le_of_ble_eq_true rfl) rfl rfl ?_
    refine lj_aload_n (q := 1807) dl_1806 rfl rfl ?_
    refine lj_callV (q := 1810) [] [] dl_1807 rfl lv_258 lj_80 rfl rfl rfl (Nat.le_of_ble_eq_true rfl) (Nat.le_of_ble_eq_true rfl) (by omega) (by omega) (c_X12_useCircuit lj_m G _ (v, M2) h2) ?_
    refine lj_istore (q := 1812) (lt := [some (.ref 103), some (.ref 0), some (.ref 80), some (.ref 102), some (.int (Int32.ofNat n0)), some (.int 0), some (.int v), none]) dl_1810 rfl (Nat.le_of_ble_eq_true rfl) rfl rfl ?_
    refine lj_aload_n (q := 1813) dl_1812 rfl rfl ?_
    refine lj_callV (q := 1816) [] [] dl_1813 rfl lv_118 lj_80 rfl rfl rfl (Nat.le_of_ble_eq_true rfl) (Nat.le_of_ble_eq_true rfl) (by omega) (by omega) (c_X12_thrown lj_m 0 M2 _ (th_thrown M2)) ?_
    refine lj_iload (q := 1818) dl_1816 rfl rfl ?_
    refine lj_icmp_eq (q := 1821) (t := 1823) dl_1818 rfl rfl (fun _ => ?_) (fun h => absurd h3 h)
    refine lj_iload (q := 1825) dl_1823 rfl rfl ?_
    refine lj_if_ne (q := 1828) (t := 1840) dl_1825 rfl rfl (fun h => absurd rfl h) (fun _ => ?_)
    refine lj_aload_n (q := 1829) dl_1828 rfl rfl ?_
    refine lj_iconst (q := 1830) (v := 0) dl_1829 rfl (by decide) ?_
    refine lj_laload (q := 1831) dl_1830 rfl lj_102 (sm_ib_of rfl) ?_
    refine lj_iload (q := 1833) dl_1831 rfl rfl ?_
    refine lj_i2l (q := 1834) dl_1833 rfl ?_
    refine lj_lcmp (q := 1835) dl_1834 rfl ?_
    refine lj_if_eq (q := 1838) (t := 1840) dl_1835 rfl rfl (fun _ => ?_) (fun h => absurd (lj_cmp1 h5) h)
    refine lj_goto (t := 1900) dl_1840 rfl ?_
    refine lj_fg [5, 6] (lt := lj_l0 n0) rfl ?_
    exact k M2 hI
  · skip
    refine lj_aload_n (q := 1800) dl_1799 rfl rfl ?_
    refine lj_aload_n (q := 1801) dl_1800 rfl rfl ?_
    refine lj_callH (q := 1804) [] [.ref 0, .ref 102] dl_1801 rfl lh_39 rfl (Nat.le_of_ble_eq_true rfl) (Nat.le_of_ble_eq_true rfl) (by omega) (by omega) (hX1_L_useCircuit lj_x lj_102 (c_X11_useCircuit lj_x F M (.inr "java/lang/UnsupportedOperationException", M1) h1)) ?_
    refine lj_istore (q := 1806) (lt := [some (.ref 103), some (.ref 0), some (.ref 80), some (.ref 102), some (.int (Int32.ofNat n0)), some (.int 1), none, none]) dl_1804 rfl (Nat.le_of_ble_eq_true rfl) rfl rfl ?_
    refine lj_aload_n (q := 1807) dl_1806 rfl rfl ?_
    refine lj_callV (q := 1810) [] [] dl_1807 rfl lv_258 lj_80 rfl rfl rfl (Nat.le_of_ble_eq_true rfl) (Nat.le_of_ble_eq_true rfl) (by omega) (by omega) (c_X12_useCircuit lj_m G _ (w, M2) h2) ?_
    refine lj_istore (q := 1812) (lt := [some (.ref 103), some (.ref 0), some (.ref 80), some (.ref 102), some (.int (Int32.ofNat n0)), some (.int 1), some (.int w), none]) dl_1810 rfl (Nat.le_of_ble_eq_true rfl) rfl rfl ?_
    refine lj_aload_n (q := 1813) dl_1812 rfl rfl ?_
    refine lj_callV (q := 1816) [] [] dl_1813 rfl lv_118 lj_80 rfl rfl rfl (Nat.le_of_ble_eq_true rfl) (Nat.le_of_ble_eq_true rfl) (by omega) (by omega) (c_X12_thrown lj_m 0 M2 _ (th_thrown M2)) ?_
    refine lj_iload (q := 1818) dl_1816 rfl rfl ?_
    refine lj_icmp_eq (q := 1821) (t := 1823) dl_1818 rfl rfl (fun _ => ?_) (fun h => absurd h3 h)
    refine lj_iload (q := 1825) dl_1823 rfl rfl ?_
    refine lj_if_ne (q := 1828) (t := 1840) dl_1825 rfl rfl (fun _ => ?_) (fun h => absurd h (by decide))
    refine lj_goto (t := 1900) dl_1840 rfl ?_
    refine lj_fg [5, 6] (lt := lj_l0 n0) rfl ?_
    exact k M2 hI
  · skip
    refine lj_aload_n (q := 1800) dl_1799 rfl rfl ?_
    refine lj_aload_n (q := 1801) dl_1800 rfl rfl ?_
    refine lj_callH (q := 1804) [] [.ref 0, .ref 102] dl_1801 rfl lh_39 rfl (Nat.le_of_ble_eq_true rfl) (Nat.le_of_ble_eq_true rfl) (by omega) (by omega) (hX2_L_useCircuit lj_x lj_102 (c_X11_useCircuit lj_x F M (.inr "java/util/NoSuchElementException", M1) h1)) ?_
    refine lj_istore (q := 1806) (lt := [some (.ref 103), some (.ref 0), some (.ref 80), some (.ref 102), some (.int (Int32.ofNat n0)), some (.int 2), none, none]) dl_1804 rfl (Nat.le_of_ble_eq_true rfl) rfl rfl ?_
    refine lj_aload_n (q := 1807) dl_1806 rfl rfl ?_
    refine lj_callV (q := 1810) [] [] dl_1807 rfl lv_258 lj_80 rfl rfl rfl (Nat.le_of_ble_eq_true rfl) (Nat.le_of_ble_eq_true rfl) (by omega) (by omega) (c_X12_useCircuit lj_m G _ (w, M2) h2) ?_
    refine lj_istore (q := 1812) (lt := [some (.ref 103), some (.ref 0), some (.ref 80), some (.ref 102), some (.int (Int32.ofNat n0)), some (.int 2), some (.int w), none]) dl_1810 rfl (Nat.le_of_ble_eq_true rfl) rfl rfl ?_
    refine lj_aload_n (q := 1813) dl_1812 rfl rfl ?_
    refine lj_callV (q := 1816) [] [] dl_1813 rfl lv_118 lj_80 rfl rfl rfl (Nat.le_of_ble_eq_true rfl) (Nat.le_of_ble_eq_true rfl) (by omega) (by omega) (c_X12_thrown lj_m 0 M2 _ (th_thrown M2)) ?_
    refine lj_iload (q := 1818) dl_1816 rfl rfl ?_
    refine lj_icmp_eq (q := 1821) (t := 1823) dl_1818 rfl rfl (fun _ => ?_) (fun h => absurd h3 h)
    refine lj_iload (q := 1825) dl_1823 rfl rfl ?_
    refine lj_if_ne (q := 1828) (t := 1840) dl_1825 rfl rfl (fun _ => ?_) (fun h => absurd h (by decide))
    refine lj_goto (t := 1900) dl_1840 rfl ?_
    refine lj_fg [5, 6] (lt := lj_l0 n0) rfl ?_
    exact k M2 hI
theorem lv_259 : sm_LV RL 259 yX11_save md_X11_save 0 := ⟨sm_w (List.mem_of_getElem? (i := 646) (by decide +kernel)) rfl, sm_w (List.mem_of_getElem? (i := 647) (by decide +kernel)) rfl, sm_w (List.mem_of_getElem? (i := 648) (by decide +kernel)) rfl, sm_w (List.mem_of_getElem? (i := 59) (by decide +kernel)) rfl, sm_w (List.mem_of_getElem? (i := 649) (by decide +kernel)) rfl, by decide, by decide +kernel⟩
theorem lv_262 : sm_LV RL 262 yX12_save md_X12_save 0 := ⟨sm_w (List.mem_of_getElem? (i := 1583) (by decide +kernel)) rfl, sm_w (List.mem_of_getElem? (i := 1584) (by decide +kernel)) rfl, sm_w (List.mem_of_getElem? (i := 1585) (by decide +kernel)) rfl, sm_w (List.mem_of_getElem? (i := 75) (by decide +kernel)) rfl, sm_w (List.mem_of_getElem? (i := 1586) (by decide +kernel)) rfl, by decide, by decide +kernel⟩
theorem lo_40 {L : Nat} {xs : Nat → Int32} {n0 nc ns : Nat} {M : sm_M} (hL9 : L ≤ 2048) (h4 : n0 + 4 ≤ L) (hnc : nc ≤ 599000) (hns : ns ≤ 6990000) {I : sm_M → Prop} (hp : lp_d (fun F M => f_X11_save F M) (fun F M => f_X12_save F M) I M) (k : ∀ M2, I M2 → lj_J L xs 1900 (lj_l0 n0) [] M2 (nc + 1) (ns + 6)) : lj_J L xs 1843 (lj_l0 n0) [] M nc ns := by
  obtain ⟨F, G, v, M1, M2, h1, h2, hI⟩ := hp
  refine lj_aload_n (q := 1844) dl_1843 rfl rfl ?_
  refine lj_callV (q := 1847) [] [] dl_1844 rfl lv_259 lj_0 rfl rfl rfl (Nat.le_of_ble_eq_true rfl) (Nat.le_of_ble_eq_true rfl) (by omega) (by omega) (c_X11_save lj_x F M (v, M1) h1) ?_
  refine lj_aload_n (q := 1848) dl_1847 rfl rfl ?_
  refine lj_callV (q := 1851) [.int v] [] dl_1848 rfl lv_262 lj_80 rfl rfl rfl (Nat.le_of_ble_eq_true rfl) (Nat.le_of_ble_eq_true rfl) (by omega) (by omega) (c_X12_save lj_m G _ (v, M2) h2) ?_
  refine lj_icmp_eq (q := 1854) (t := 1900) dl_1851 rfl rfl (fun _ => ?_) (fun h => absurd rfl h)
  exact lj_wide (Nat.le_add_right _ _) (Nat.le_add_right _ _) (k M2 hI)
theorem lh_41 : lj_LH 263 yL_restore md_L_restore hh_L_restore 2 := ⟨sm_w (List.mem_of_getElem? (i := 1164) (by decide +kernel)) rfl, sm_w (List.mem_of_getElem? (i := 1165) (by decide +kernel)) rfl, sm_w (List.mem_of_getElem? (i := 58) (by decide +kernel)) rfl, sm_w (List.mem_of_getElem? (i := 1166) (by decide +kernel)) rfl, by decide, by decide +kernel, by decide +kernel⟩
theorem lv_265 : sm_LV RL 265 yX12_restore md_X12_restore 0 := ⟨sm_w (List.mem_of_getElem? (i := 1587) (by decide +kernel)) rfl, sm_w (List.mem_of_getElem? (i := 1588) (by decide +kernel)) rfl, sm_w (List.mem_of_getElem? (i := 1589) (by decide +kernel)) rfl, sm_w (List.mem_of_getElem? (i := 75) (by decide +kernel)) rfl, sm_w (List.mem_of_getElem? (i := 1590) (by decide +kernel)) rfl, by decide, by decide +kernel⟩
theorem lo_41 {L : Nat} {xs : Nat → Int32} {n0 nc ns : Nat} {M : sm_M} (hL9 : L ≤ 2048) (h4 : n0 + 4 ≤ L) (hnc : nc ≤ 599000) (hns : ns ≤ 6990000) {I : sm_M → Prop} (hp : lp_r (fun F M => f_X11_restore F M) (fun F M => f_X12_restore F M) I M ∨ lp_x "java/lang/IllegalStateException" 1 (fun F M => f_X11_restore F M) (fun F M => f_X12_restore F M) I M) (k : ∀ M2, I M2 → lj_J L xs 1900 (lj_l0 n0) [] M2 (nc + 1) (ns + 6)) : lj_J L xs 1856 (lj_l0 n0) [] M nc ns := by
  rcases hp with ⟨F, G, v, M1, M2, h1, h2, h3, h5, hI⟩ | ⟨F, G, w, M1, M2, h1, h2, h3, hI⟩
  · skip
    refine lj_aload_n (q := 1857) dl_1856 rfl rfl ?_
    refine lj_aload_n (q := 1858) dl_1857 rfl rfl ?_
    refine lj_callH (q := 1861) [] [.ref 0, .ref 102] dl_1858 rfl lh_41 rfl (Nat.le_of_ble_eq_true rfl) (Nat.le_of_ble_eq_true rfl) (by omega) (by omega) (hR_L_restore lj_x lj_102 (c_X11_restore lj_x F M (.inl (some (.int v)), M1) h1)) ?_
    refine lj_istore (q := 1863) (lt := [some (.ref 103), some (.ref 0), some (.ref 80), some (.ref 102), some (.int (Int32.ofNat n0)), some (.int 0), none, none]) dl_1861 rfl (Nat.le_of_ble_eq_true rfl) rfl rfl ?_
    refine lj_aload_n (q := 1864) dl_1863 rfl rfl ?_
    refine lj_callV (q := 1867) [] [] dl_1864 rfl lv_265 lj_80 rfl rfl rfl (Nat.le_of_ble_eq_true rfl) (Nat.le_of_ble_eq_true rfl) (by omega) (by omega) (c_X12_restore lj_m G _ (v, M2) h2) ?_
    refine lj_istore (q := 1869) (lt := [some (.ref 103), some (.ref 0), some (.ref 80), some (.ref 102), some (.int (Int32.ofNat n0)), some (.int 0), some (.int v), none]) dl_1867 rfl (Nat.le_of_ble_eq_true rfl) rfl rfl ?_
    refine lj_aload_n (q := 1870) dl_1869 rfl rfl ?_
    refine lj_callV (q := 1873) [] [] dl_1870 rfl lv_118 lj_80 rfl rfl rfl (Nat.le_of_ble_eq_true rfl) (Nat.le_of_ble_eq_true rfl) (by omega) (by omega) (c_X12_thrown lj_m 0 M2 _ (th_thrown M2)) ?_
    refine lj_iload (q := 1875) dl_1873 rfl rfl ?_
    refine lj_icmp_eq (q := 1878) (t := 1880) dl_1875 rfl rfl (fun _ => ?_) (fun h => absurd h3 h)
    refine lj_iload (q := 1882) dl_1880 rfl rfl ?_
    refine lj_if_ne (q := 1885) (t := 1897) dl_1882 rfl rfl (fun h => absurd rfl h) (fun _ => ?_)
    refine lj_aload_n (q := 1886) dl_1885 rfl rfl ?_
    refine lj_iconst (q := 1887) (v := 0) dl_1886 rfl (by decide) ?_
    refine lj_laload (q := 1888) dl_1887 rfl lj_102 (sm_ib_of rfl) ?_
    refine lj_iload (q := 1890) dl_1888 rfl rfl ?_
    refine lj_i2l (q := 1891) dl_1890 rfl ?_
    refine lj_lcmp (q := 1892) dl_1891 rfl ?_
    refine lj_if_eq (q := 1895) (t := 1897) dl_1892 rfl rfl (fun _ => ?_) (fun h => absurd (lj_cmp1 h5) h)
    refine lj_goto (t := 1900) dl_1897 rfl ?_
    refine lj_fg [5, 6] (lt := lj_l0 n0) rfl ?_
    exact k M2 hI
  · skip
    refine lj_aload_n (q := 1857) dl_1856 rfl rfl ?_
    refine lj_aload_n (q := 1858) dl_1857 rfl rfl ?_
    refine lj_callH (q := 1861) [] [.ref 0, .ref 102] dl_1858 rfl lh_41 rfl (Nat.le_of_ble_eq_true rfl) (Nat.le_of_ble_eq_true rfl) (by omega) (by omega) (hX1_L_restore lj_x lj_102 (c_X11_restore lj_x F M (.inr "java/lang/IllegalStateException", M1) h1)) ?_
    refine lj_istore (q := 1863) (lt := [some (.ref 103), some (.ref 0), some (.ref 80), some (.ref 102), some (.int (Int32.ofNat n0)), some (.int 1), none, none]) dl_1861 rfl (Nat.le_of_ble_eq_true rfl) rfl rfl ?_
    refine lj_aload_n (q := 1864) dl_1863 rfl rfl ?_
    refine lj_callV (q := 1867) [] [] dl_1864 rfl lv_265 lj_80 rfl rfl rfl (Nat.le_of_ble_eq_true rfl) (Nat.le_of_ble_eq_true rfl) (by omega) (by omega) (c_X12_restore lj_m G _ (w, M2) h2) ?_
    refine lj_istore (q := 1869) (lt := [some (.ref 103), some (.ref 0), some (.ref 80), some (.ref 102), some (.int (Int32.ofNat n0)), some (.int 1), some (.int w), none]) dl_1867 rfl (Nat.le_of_ble_eq_true rfl) rfl rfl ?_
    refine lj_aload_n (q := 1870) dl_1869 rfl rfl ?_
    refine lj_callV (q := 1873) [] [] dl_1870 rfl lv_118 lj_80 rfl rfl rfl (Nat.le_of_ble_eq_true rfl) (Nat.le_of_ble_eq_true rfl) (by omega) (by omega) (c_X12_thrown lj_m 0 M2 _ (th_thrown M2)) ?_
    refine lj_iload (q := 1875) dl_1873 rfl rfl ?_
    refine lj_icmp_eq (q := 1878) (t := 1880) dl_1875 rfl rfl (fun _ => ?_) (fun h => absurd h3 h)
    refine lj_iload (q := 1882) dl_1880 rfl rfl ?_
    refine lj_if_ne (q := 1885) (t := 1897) dl_1882 rfl rfl (fun _ => ?_) (fun h => absurd h (by decide))
    refine lj_goto (t := 1900) dl_1897 rfl ?_
    refine lj_fg [5, 6] (lt := lj_l0 n0) rfl ?_
    exact k M2 hI

