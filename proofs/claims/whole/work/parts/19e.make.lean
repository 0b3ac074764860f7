theorem d_X10_init_0 : decode cX10_init 0 = .ok (.aload_n 0, 1) := by decide +kernel
theorem d_X10_init_1 : decode cX10_init 1 = .ok (.invokespecial 3, 3) := by decide +kernel
theorem ol_X10 : Cond.methodLink RX10 3 objectInit ∈ sm_TB := sm_w (List.mem_of_getElem? (i := 280) (by decide +kernel)) rfl
theorem d_X10_init_4 : decode cX10_init 4 = .ok (.aload_n 0, 1) := by decide +kernel
theorem d_X10_init_5 : decode cX10_init 5 = .ok (.sipush 240, 3) := by decide +kernel
theorem d_X10_init_8 : decode cX10_init 8 = .ok (.newarray .int, 2) := by decide +kernel
theorem d_X10_init_10 : decode cX10_init 10 = .ok (.putfield 9, 3) := by decide +kernel
theorem ff_X10_9 : nm_FF RX10 9 10 0 := ⟨_, rfl, by decide, sm_w (List.mem_of_getElem? (i := 281) (by decide +kernel)) rfl, rfl, rfl⟩
theorem d_X10_init_13 : decode cX10_init 13 = .ok (.aload_n 0, 1) := by decide +kernel
theorem d_X10_init_14 : decode cX10_init 14 = .ok (.sipush 200, 3) := by decide +kernel
theorem d_X10_init_17 : decode cX10_init 17 = .ok (.newarray .int, 2) := by decide +kernel
theorem d_X10_init_19 : decode cX10_init 19 = .ok (.putfield 15, 3) := by decide +kernel
theorem ff_X10_15 : nm_FF RX10 15 10 1 := ⟨_, rfl, by decide, sm_w (List.mem_of_getElem? (i := 282) (by decide +kernel)) rfl, rfl, rfl⟩
theorem d_X10_init_22 : decode cX10_init 22 = .ok (.aload_n 0, 1) := by decide +kernel
theorem d_X10_init_23 : decode cX10_init 23 = .ok (.sipush 200, 3) := by decide +kernel
theorem d_X10_init_26 : decode cX10_init 26 = .ok (.newarray .int, 2) := by decide +kernel
theorem d_X10_init_28 : decode cX10_init 28 = .ok (.putfield 18, 3) := by decide +kernel
theorem ff_X10_18 : nm_FF RX10 18 10 2 := ⟨_, rfl, by decide, sm_w (List.mem_of_getElem? (i := 284) (by decide +kernel)) rfl, rfl, rfl⟩
theorem d_X10_init_31 : decode cX10_init 31 = .ok (.aload_n 0, 1) := by decide +kernel
theorem d_X10_init_32 : decode cX10_init 32 = .ok (.sipush 200, 3) := by decide +kernel
theorem d_X10_init_35 : decode cX10_init 35 = .ok (.newarray .boolean, 2) := by decide +kernel
theorem d_X10_init_37 : decode cX10_init 37 = .ok (.putfield 21, 3) := by decide +kernel
theorem ff_X10_21 : nm_FF RX10 21 10 3 := ⟨_, rfl, by decide, sm_w (List.mem_of_getElem? (i := 286) (by decide +kernel)) rfl, rfl, rfl⟩
theorem d_X10_init_40 : decode cX10_init 40 = .ok (.return_, 1) := by decide +kernel
def nm_X10_1 (dh : List nm_E) (a n : Nat) : List nm_E := dh ++ ([.inl (0, 240, fun _ => 0, fun _ => 0, [])] : List nm_E)
theorem nl_X10_1 {dh : List nm_E} {a n : Nat} (h : dh.length = n) : (nm_X10_1 dh a n).length = n + 1 := by unfold nm_X10_1; rw [List.length_append, h]; rfl
theorem np_X10_1 {dh : List nm_E} {a n b : Nat} {e : nm_E} (hne : b ≠ a) (hb : b < n) (h : dh[b]? = some e) : (nm_X10_1 dh a n)[b]? = some e := nm_l5 h
def nm_X10_2 (dh : List nm_E) (a n : Nat) : List nm_E := (nm_X10_1 dh a n).set a (.inr (10, [.ref n, .null, .null, .null, .int 0, .int 0, .int 0, .int 0]) : nm_E)
theorem nl_X10_2 {dh : List nm_E} {a n : Nat} (h : dh.length = n) : (nm_X10_2 dh a n).length = n + 1 := by unfold nm_X10_2; rw [List.length_set]; exact nl_X10_1 h
theorem np_X10_2 {dh : List nm_E} {a n b : Nat} {e : nm_E} (hne : b ≠ a) (hb : b < n) (h : dh[b]? = some e) : (nm_X10_2 dh a n)[b]? = some e := nm_l4 (by omega) (np_X10_1 hne hb h)
def nm_X10_3 (dh : List nm_E) (a n : Nat) : List nm_E := (nm_X10_2 dh a n) ++ ([.inl (0, 200, fun _ => 0, fun _ => 0, [])] : List nm_E)
theorem nl_X10_3 {dh : List nm_E} {a n : Nat} (h : dh.length = n) : (nm_X10_3 dh a n).length = n + 2 := by unfold nm_X10_3; rw [List.length_append, nl_X10_2 h]; rfl
theorem np_X10_3 {dh : List nm_E} {a n b : Nat} {e : nm_E} (hne : b ≠ a) (hb : b < n) (h : dh[b]? = some e) : (nm_X10_3 dh a n)[b]? = some e := nm_l5 (np_X10_2 hne hb h)
def nm_X10_4 (dh : List nm_E) (a n : Nat) : List nm_E := (nm_X10_3 dh a n).set a (.inr (10, [.ref n, .ref (n + 1), .null, .null, .int 0, .int 0, .int 0, .int 0]) : nm_E)
theorem nl_X10_4 {dh : List nm_E} {a n : Nat} (h : dh.length = n) : (nm_X10_4 dh a n).length = n + 2 := by unfold nm_X10_4; rw [List.length_set]; exact nl_X10_3 h
theorem np_X10_4 {dh : List nm_E} {a n b : Nat} {e : nm_E} (hne : b ≠ a) (hb : b < n) (h : dh[b]? = some e) : (nm_X10_4 dh a n)[b]? = some e := nm_l4 (by omega) (np_X10_3 hne hb h)
def nm_X10_5 (dh : List nm_E) (a n : Nat) : List nm_E := (nm_X10_4 dh a n) ++ ([.inl (0, 200, fun _ => 0, fun _ => 0, [])] : List nm_E)
theorem nl_X10_5 {dh : List nm_E} {a n : Nat} (h : dh.length = n) : (nm_X10_5 dh a n).length = n + 3 := by unfold nm_X10_5; rw [List.length_append, nl_X10_4 h]; rfl
theorem np_X10_5 {dh : List nm_E} {a n b : Nat} {e : nm_E} (hne : b ≠ a) (hb : b < n) (h : dh[b]? = some e) : (nm_X10_5 dh a n)[b]? = some e := nm_l5 (np_X10_4 hne hb h)
def nm_X10_6 (dh : List nm_E) (a n : Nat) : List nm_E := (nm_X10_5 dh a n).set a (.inr (10, [.ref n, .ref (n + 1), .ref (n + 2), .null, .int 0, .int 0, .int 0, .int 0]) : nm_E)
theorem nl_X10_6 {dh : List nm_E} {a n : Nat} (h : dh.length = n) : (nm_X10_6 dh a n).length = n + 3 := by unfold nm_X10_6; rw [List.length_set]; exact nl_X10_5 h
theorem np_X10_6 {dh : List nm_E} {a n b : Nat} {e : nm_E} (hne : b ≠ a) (hb : b < n) (h : dh[b]? = some e) : (nm_X10_6 dh a n)[b]? = some e := nm_l4 (by omega) (np_X10_5 hne hb h)
def nm_X10_7 (dh : List nm_E) (a n : Nat) : List nm_E := (nm_X10_6 dh a n) ++ ([.inl (2, 200, fun _ => 0, fun _ => 0, [])] : List nm_E)
theorem nl_X10_7 {dh : List nm_E} {a n : Nat} (h : dh.length = n) : (nm_X10_7 dh a n).length = n + 4 := by unfold nm_X10_7; rw [List.length_append, nl_X10_6 h]; rfl
theorem np_X10_7 {dh : List nm_E} {a n b : Nat} {e : nm_E} (hne : b ≠ a) (hb : b < n) (h : dh[b]? = some e) : (nm_X10_7 dh a n)[b]? = some e := nm_l5 (np_X10_6 hne hb h)
def nm_X10_8 (dh : List nm_E) (a n : Nat) : List nm_E := (nm_X10_7 dh a n).set a (.inr (10, [.ref n, .ref (n + 1), .ref (n + 2), .ref (n + 3), .int 0, .int 0, .int 0, .int 0]) : nm_E)
theorem nl_X10_8 {dh : List nm_E} {a n : Nat} (h : dh.length = n) : (nm_X10_8 dh a n).length = n + 4 := by unfold nm_X10_8; rw [List.length_set]; exact nl_X10_7 h
theorem np_X10_8 {dh : List nm_E} {a n b : Nat} {e : nm_E} (hne : b ≠ a) (hb : b < n) (h : dh[b]? = some e) : (nm_X10_8 dh a n)[b]? = some e := nm_l4 (by omega) (np_X10_7 hne hb h)
abbrev nm_X10 (dh : List nm_E) (a n : Nat) : List nm_E := nm_X10_8 dh a n
theorem nl_X10 {dh : List nm_E} {a n : Nat} (h : dh.length = n) : (nm_X10 dh a n).length = n + 4 := nl_X10_8 h
theorem np_X10 {dh : List nm_E} {a n b : Nat} {e : nm_E} (hne : b ≠ a) (hb : b < n) (h : dh[b]? = some e) : (nm_X10 dh a n)[b]? = some e := np_X10_8 hne hb h
set_option maxRecDepth 100000 in
set_option maxHeartbeats 1000000 in
theorem cN_X10_p3 {dh d6 : List nm_E} {a n : Nat} (han : a < n) (hp : 0 < n) (l6 : d6.length = (n + 3)) (t6 : d6[a]? = some (.inr (10, [.ref n, .ref (n + 1), .ref (n + 2), .null, .int 0, .int 0, .int 0, .int 0]))) (E6 : d6 = nm_X10_6 dh a n) : nm_J (md_X10_init, 1, 4, 840, n, nm_X10 dh a n) 31 [some (.ref a)] [] d6 3 640 := by
  refine nm_aload_n (q := 32) d_X10_init_31 rfl rfl ?_
  refine nm_sipush (q := 35) (v := 200) d_X10_init_32 rfl (by decide) ?_
  refine nm_newarray (nc := 3) (ns := 640) (q := 37) (n := (n + 3)) (N := 200) d_X10_init_35 rfl ac_2 (Or.inr (Or.inr (Or.inl ⟨rfl, rfl⟩))) (by decide) (by decide) (Nat.le_of_ble_eq_true rfl) l6 rfl (Nat.succ_pos _) (Nat.le_of_ble_eq_true rfl) (Nat.le_of_ble_eq_true rfl) (fun d7 e7 => ?_)
  have l7 : d7.length = (n + 4) := nm_la e7 l6
  have t7 : d7[a]? = some (.inr (10, [.ref n, .ref (n + 1), .ref (n + 2), .null, .int 0, .int 0, .int 0, .int 0])) := by rw [e7]; exact nm_l1 t6
  have E7 : d7 = nm_X10_7 dh a n := by rw [e7, E6]; rfl
  refine nm_putF (q := 40) (fs1 := [.ref n, .ref (n + 1), .ref (n + 2), .ref (n + 3), .int 0, .int 0, .int 0, .int 0]) d_X10_init_37 rfl ff_X10_21 t7 (Nat.le_of_ble_eq_true rfl) (fun _ => ⟨rfl, rfl⟩) rfl (fun d8 e8 => ?_)
  have l8 : d8.length = (n + 4) := nm_ls e8 l7
  have t8 : d8[a]? = some (.inr (10, [.ref n, .ref (n + 1), .ref (n + 2), .ref (n + 3), .int 0, .int 0, .int 0, .int 0])) := by rw [e8]; exact nm_l2 t7
  have E8 : d8 = nm_X10_8 dh a n := by rw [e8, E7]; rfl
  exact nm_ret (nc := 4) (ns := 840) d_X10_init_40 rfl rfl (by dsimp only; exact E8)
set_option maxRecDepth 100000 in
set_option maxHeartbeats 1000000 in
theorem cN_X10_p2 {dh d4 : List nm_E} {a n : Nat} (han : a < n) (hp : 0 < n) (l4 : d4.length = (n + 2)) (t4 : d4[a]? = some (.inr (10, [.ref n, .ref (n + 1), .null, .null, .int 0, .int 0, .int 0, .int 0]))) (E4 : d4 = nm_X10_4 dh a n) : nm_J (md_X10_init, 1, 4, 840, n, nm_X10 dh a n) 22 [some (.ref a)] [] d4 2 440 := by
  refine nm_aload_n (q := 23) d_X10_init_22 rfl rfl ?_
  refine nm_sipush (q := 26) (v := 200) d_X10_init_23 rfl (by decide) ?_
  refine nm_newarray (nc := 2) (ns := 440) (q := 28) (n := (n + 2)) (N := 200) d_X10_init_26 rfl ac_0 (Or.inl ⟨rfl, rfl⟩) (by decide) (by decide) (Nat.le_of_ble_eq_true rfl) l4 rfl (Nat.succ_pos _) (Nat.le_of_ble_eq_true rfl) (Nat.le_of_ble_eq_true rfl) (fun d5 e5 => ?_)
  have l5 : d5.length = (n + 3) := nm_la e5 l4
  have t5 : d5[a]? = some (.inr (10, [.ref n, .ref (n + 1), .null, .null, .int 0, .int 0, .int 0, .int 0])) := by rw [e5]; exact nm_l1 t4
  have E5 : d5 = nm_X10_5 dh a n := by rw [e5, E4]; rfl
  refine nm_putF (q := 31) (fs1 := [.ref n, .ref (n + 1), .ref (n + 2), .null, .int 0, .int 0, .int 0, .int 0]) d_X10_init_28 rfl ff_X10_18 t5 (Nat.le_of_ble_eq_true rfl) (fun _ => ⟨rfl, rfl⟩) rfl (fun d6 e6 => ?_)
  have l6 : d6.length = (n + 3) := nm_ls e6 l5
  have t6 : d6[a]? = some (.inr (10, [.ref n, .ref (n + 1), .ref (n + 2), .null, .int 0, .int 0, .int 0, .int 0])) := by rw [e6]; exact nm_l2 t5
  have E6 : d6 = nm_X10_6 dh a n := by rw [e6, E5]; rfl
  exact cN_X10_p3 han hp l6 t6 E6
set_option maxRecDepth 100000 in
set_option maxHeartbeats 1000000 in
theorem cN_X10_p1 {dh d2 : List nm_E} {a n : Nat} (han : a < n) (hp : 0 < n) (l2 : d2.length = (n + 1)) (t2 : d2[a]? = some (.inr (10, [.ref n, .null, .null, .null, .int 0, .int 0, .int 0, .int 0]))) (E2 : d2 = nm_X10_2 dh a n) : nm_J (md_X10_init, 1, 4, 840, n, nm_X10 dh a n) 13 [some (.ref a)] [] d2 1 240 := by
  refine nm_aload_n (q := 14) d_X10_init_13 rfl rfl ?_
  refine nm_sipush (q := 17) (v := 200) d_X10_init_14 rfl (by decide) ?_
  refine nm_newarray (nc := 1) (ns := 240) (q := 19) (n := (n + 1)) (N := 200) d_X10_init_17 rfl ac_0 (Or.inl ⟨rfl, rfl⟩) (by decide) (by decide) (Nat.le_of_ble_eq_true rfl) l2 rfl (Nat.succ_pos _) (Nat.le_of_ble_eq_true rfl) (Nat.le_of_ble_eq_true rfl) (fun d3 e3 => ?_)
  have l3 : d3.length = (n + 2) := nm_la e3 l2
  have t3 : d3[a]? = some (.inr (10, [.ref n, .null, .null, .null, .int 0, .int 0, .int 0, .int 0])) := by rw [e3]; exact nm_l1 t2
  have E3 : d3 = nm_X10_3 dh a n := by rw [e3, E2]; rfl
  refine nm_putF (q := 22) (fs1 := [.ref n, .ref (n + 1), .null, .null, .int 0, .int 0, .int 0, .int 0]) d_X10_init_19 rfl ff_X10_15 t3 (Nat.le_of_ble_eq_true rfl) (fun _ => ⟨rfl, rfl⟩) rfl (fun d4 e4 => ?_)
  have l4 : d4.length = (n + 2) := nm_ls e4 l3
  have t4 : d4[a]? = some (.inr (10, [.ref n, .ref (n + 1), .null, .null, .int 0, .int 0, .int 0, .int 0])) := by rw [e4]; exact nm_l2 t3
  have E4 : d4 = nm_X10_4 dh a n := by rw [e4, E3]; rfl
  exact cN_X10_p2 han hp l4 t4 E4
set_option maxRecDepth 100000 in
set_option maxHeartbeats 1000000 in
theorem cN_X10 {dh : List nm_E} {a n : Nat} (hn : dh.length = n) (ha : dh[a]? = some (.inr (10, [.null, .null, .null, .null, .int 0, .int 0, .int 0, .int 0])))  : nm_Ct yX10_init md_X10_init 1 4 840 [.ref a] dh (nm_X10 dh a n) := by
  have han : a < n := by rw [← hn]; exact (List.getElem?_eq_some_iff.mp ha).1
  have hp : 0 < n := by omega
  refine nm_enter (ls0 := [some (.ref a)]) 0 pn_X10 rfl rfl rfl (by decide) rfl hn ?_
  refine nm_aload_n (q := 1) d_X10_init_0 rfl rfl ?_
  refine nm_objinit (q := 4) d_X10_init_1 rfl ol_X10 oi_1 oi_2 (Nat.le_of_ble_eq_true rfl) (Nat.le_of_ble_eq_true rfl) ?_
  refine nm_aload_n (q := 5) d_X10_init_4 rfl rfl ?_
  refine nm_sipush (q := 8) (v := 240) d_X10_init_5 rfl (by decide) ?_
  refine nm_newarray (nc := 0) (ns := 0) (q := 10) (n := n) (N := 240) d_X10_init_8 rfl ac_0 (Or.inl ⟨rfl, rfl⟩) (by decide) (by decide) (Nat.le_of_ble_eq_true rfl) hn rfl hp (Nat.le_of_ble_eq_true rfl) (Nat.le_of_ble_eq_true rfl) (fun d1 e1 => ?_)
  have l1 : d1.length = (n + 1) := nm_la e1 hn
  have t1 : d1[a]? = some (.inr (10, [.null, .null, .null, .null, .int 0, .int 0, .int 0, .int 0])) := by rw [e1]; exact nm_l1 ha
  have E1 : d1 = nm_X10_1 dh a n := by rw [e1]; rfl
  refine nm_putF (q := 13) (fs1 := [.ref n, .null, .null, .null, .int 0, .int 0, .int 0, .int 0]) d_X10_init_10 rfl ff_X10_9 t1 (Nat.le_of_ble_eq_true rfl) (fun _ => ⟨rfl, rfl⟩) rfl (fun d2 e2 => ?_)
  have l2 : d2.length = (n + 1) := nm_ls e2 l1
  have t2 : d2[a]? = some (.inr (10, [.ref n, .null, .null, .null, .int 0, .int 0, .int 0, .int 0])) := by rw [e2]; exact nm_l2 t1
  have E2 : d2 = nm_X10_2 dh a n := by rw [e2, E1]; rfl
  exact cN_X10_p1 han hp l2 t2 E2
theorem d_X8_init_0 : decode cX8_init 0 = .ok (.aload_n 0, 1) := by decide +kernel
theorem d_X8_init_1 : decode cX8_init 1 = .ok (.invokespecial 3, 3) := by decide +kernel
theorem ol_X8 : Cond.methodLink RX8 3 objectInit ∈ sm_TB := sm_w (List.mem_of_getElem? (i := 316) (by decide +kernel)) rfl
theorem d_X8_init_4 : decode cX8_init 4 = .ok (.aload_n 0, 1) := by decide +kernel
theorem d_X8_init_5 : decode cX8_init 5 = .ok (.new 9, 3) := by decide +kernel
theorem nw_X8_9 : nm_LN RX8 9 7 := ⟨_, rfl, sm_w (List.mem_of_getElem? (i := 317) (by decide +kernel)) rfl, sm_w (List.mem_of_getElem? (i := 235) (by decide +kernel)) rfl, sm_w (List.mem_of_getElem? (i := 64) (by decide +kernel)) rfl⟩
theorem d_X8_init_8 : decode cX8_init 8 = .ok (.dup, 1) := by decide +kernel
theorem d_X8_init_9 : decode cX8_init 9 = .ok (.invokespecial 11, 3) := by decide +kernel
theorem hl_X8_11 : (RX8, 11, yX7_init) ∈ nm_nest ∨ Cond.methodLink RX8 11 yX7_init ∈ sm_TB := (Or.inl (by decide +kernel))
theorem d_X8_init_12 : decode cX8_init 12 = .ok (.putfield 12, 3) := by decide +kernel
theorem ff_X8_12 : nm_FF RX8 12 8 0 := ⟨_, rfl, by decide, sm_w (List.mem_of_getElem? (i := 319) (by decide +kernel)) rfl, rfl, rfl⟩
theorem d_X8_init_15 : decode cX8_init 15 = .ok (.aload_n 0, 1) := by decide +kernel
theorem d_X8_init_16 : decode cX8_init 16 = .ok (.sipush 240, 3) := by decide +kernel
theorem d_X8_init_19 : decode cX8_init 19 = .ok (.newarray .int, 2) := by decide +kernel
theorem d_X8_init_21 : decode cX8_init 21 = .ok (.putfield 18, 3) := by decide +kernel
theorem ff_X8_18 : nm_FF RX8 18 8 1 := ⟨_, rfl, by decide, sm_w (List.mem_of_getElem? (i := 321) (by decide +kernel)) rfl, rfl, rfl⟩
theorem d_X8_init_24 : decode cX8_init 24 = .ok (.aload_n 0, 1) := by decide +kernel
theorem d_X8_init_25 : decode cX8_init 25 = .ok (.sipush 200, 3) := by decide +kernel
theorem d_X8_init_28 : decode cX8_init 28 = .ok (.newarray .boolean, 2) := by decide +kernel
theorem d_X8_init_30 : decode cX8_init 30 = .ok (.putfield 22, 3) := by decide +kernel
theorem ff_X8_22 : nm_FF RX8 22 8 2 := ⟨_, rfl, by decide, sm_w (List.mem_of_getElem? (i := 322) (by decide +kernel)) rfl, rfl, rfl⟩
theorem d_X8_init_33 : decode cX8_init 33 = .ok (.return_, 1) := by decide +kernel
def nm_X8_1 (dh : List nm_E) (a n : Nat) : List nm_E := dh ++ ([.inr (7, [.null, .int 0])] : List nm_E)
theorem nl_X8_1 {dh : List nm_E} {a n : Nat} (h : dh.length = n) : (nm_X8_1 dh a n).length = n + 1 := by unfold nm_X8_1; rw [List.length_append, h]; rfl
theorem np_X8_1 {dh : List nm_E} {a n b : Nat} {e : nm_E} (hne : b ≠ a) (hb : b < n) (h : dh[b]? = some e) : (nm_X8_1 dh a n)[b]? = some e := nm_l5 h
def nm_X8_2 (dh : List nm_E) (a n : Nat) : List nm_E := nm_X7 (nm_X8_1 dh a n) n (n + 1)
theorem nl_X8_2 {dh : List nm_E} {a n : Nat} (h : dh.length = n) : (nm_X8_2 dh a n).length = n + 2 := nl_X7 (nl_X8_1 h)
theorem np_X8_2 {dh : List nm_E} {a n b : Nat} {e : nm_E} (hne : b ≠ a) (hb : b < n) (h : dh[b]? = some e) : (nm_X8_2 dh a n)[b]? = some e := np_X7 (by omega) (by omega) (np_X8_1 hne hb h)
def nm_X8_3 (dh : List nm_E) (a n : Nat) : List nm_E := (nm_X8_2 dh a n).set a (.inr (8, [.ref n, .null, .null, .int 0, .int 0]) : nm_E)
theorem nl_X8_3 {dh : List nm_E} {a n : Nat} (h : dh.length = n) : (nm_X8_3 dh a n).length = n + 2 := by unfold nm_X8_3; rw [List.length_set]; exact nl_X8_2 h
theorem np_X8_3 {dh : List nm_E} {a n b : Nat} {e : nm_E} (hne : b ≠ a) (hb : b < n) (h : dh[b]? = some e) : (nm_X8_3 dh a n)[b]? = some e := nm_l4 (by omega) (np_X8_2 hne hb h)
def nm_X8_4 (dh : List nm_E) (a n : Nat) : List nm_E := (nm_X8_3 dh a n) ++ ([.inl (0, 240, fun _ => 0, fun _ => 0, [])] : List nm_E)
theorem nl_X8_4 {dh : List nm_E} {a n : Nat} (h : dh.length = n) : (nm_X8_4 dh a n).length = n + 3 := by unfold nm_X8_4; rw [List.length_append, nl_X8_3 h]; rfl
theorem np_X8_4 {dh : List nm_E} {a n b : Nat} {e : nm_E} (hne : b ≠ a) (hb : b < n) (h : dh[b]? = some e) : (nm_X8_4 dh a n)[b]? = some e := nm_l5 (np_X8_3 hne hb h)
def nm_X8_5 (dh : List nm_E) (a n : Nat) : List nm_E := (nm_X8_4 dh a n).set a (.inr (8, [.ref n, .ref (n + 2), .null, .int 0, .int 0]) : nm_E)
theorem nl_X8_5 {dh : List nm_E} {a n : Nat} (h : dh.length = n) : (nm_X8_5 dh a n).length = n + 3 := by unfold nm_X8_5; rw [List.length_set]; exact nl_X8_4 h
theorem np_X8_5 {dh : List nm_E} {a n b : Nat} {e : nm_E} (hne : b ≠ a) (hb : b < n) (h : dh[b]? = some e) : (nm_X8_5 dh a n)[b]? = some e := nm_l4 (by omega) (np_X8_4 hne hb h)
def nm_X8_6 (dh : List nm_E) (a n : Nat) : List nm_E := (nm_X8_5 dh a n) ++ ([.inl (2, 200, fun _ => 0, fun _ => 0, [])] : List nm_E)
theorem nl_X8_6 {dh : List nm_E} {a n : Nat} (h : dh.length = n) : (nm_X8_6 dh a n).length = n + 4 := by unfold nm_X8_6; rw [List.length_append, nl_X8_5 h]; rfl
theorem np_X8_6 {dh : List nm_E} {a n b : Nat} {e : nm_E} (hne : b ≠ a) (hb : b < n) (h : dh[b]? = some e) : (nm_X8_6 dh a n)[b]? = some e := nm_l5 (np_X8_5 hne hb h)
def nm_X8_7 (dh : List nm_E) (a n : Nat) : List nm_E := (nm_X8_6 dh a n).set a (.inr (8, [.ref n, .ref (n + 2), .ref (n + 3), .int 0, .int 0]) : nm_E)
theorem nl_X8_7 {dh : List nm_E} {a n : Nat} (h : dh.length = n) : (nm_X8_7 dh a n).length = n + 4 := by unfold nm_X8_7; rw [List.length_set]; exact nl_X8_6 h
theorem np_X8_7 {dh : List nm_E} {a n b : Nat} {e : nm_E} (hne : b ≠ a) (hb : b < n) (h : dh[b]? = some e) : (nm_X8_7 dh a n)[b]? = some e := nm_l4 (by omega) (np_X8_6 hne hb h)
abbrev nm_X8 (dh : List nm_E) (a n : Nat) : List nm_E := nm_X8_7 dh a n
theorem nl_X8 {dh : List nm_E} {a n : Nat} (h : dh.length = n) : (nm_X8 dh a n).length = n + 4 := nl_X8_7 h
theorem np_X8 {dh : List nm_E} {a n b : Nat} {e : nm_E} (hne : b ≠ a) (hb : b < n) (h : dh[b]? = some e) : (nm_X8 dh a n)[b]? = some e := np_X8_7 hne hb h
set_option maxRecDepth 100000 in
set_option maxHeartbeats 1000000 in
theorem cN_X8_p2 {dh d5 : List nm_E} {a n : Nat} (han : a < n) (hp : 0 < n) (l5 : d5.length = (n + 3)) (t5 : d5[a]? = some (.inr (8, [.ref n, .ref (n + 2), .null, .int 0, .int 0]))) (E5 : d5 = nm_X8_5 dh a n) : nm_J (md_X8_init, 3, 4, 682, n, nm_X8 dh a n) 24 [some (.ref a)] [] d5 3 482 := by
  refine nm_aload_n (q := 25) d_X8_init_24 rfl rfl ?_
  refine nm_sipush (q := 28) (v := 200) d_X8_init_25 rfl (by decide) ?_
  refine nm_newarray (nc := 3) (ns := 482) (q := 30) (n := (n + 3)) (N := 200) d_X8_init_28 rfl ac_2 (Or.inr (Or.inr (Or.inl ⟨rfl, rfl⟩))) (by decide) (by decide) (Nat.le_of_ble_eq_true rfl) l5 rfl (Nat.succ_pos _) (Nat.le_of_ble_eq_true rfl) (Nat.le_of_ble_eq_true rfl) (fun d6 e6 => ?_)
  have l6 : d6.length = (n + 4) := nm_la e6 l5
  have t6 : d6[a]? = some (.inr (8, [.ref n, .ref (n + 2), .null, .int 0, .int 0])) := by rw [e6]; exact nm_l1 t5
  have E6 : d6 = nm_X8_6 dh a n := by rw [e6, E5]; rfl
  refine nm_putF (q := 33) (fs1 := [.ref n, .ref (n + 2), .ref (n + 3), .int 0, .int 0]) d_X8_init_30 rfl ff_X8_22 t6 (Nat.le_of_ble_eq_true rfl) (fun _ => ⟨rfl, rfl⟩) rfl (fun d7 e7 => ?_)
  have l7 : d7.length = (n + 4) := nm_ls e7 l6
  have t7 : d7[a]? = some (.inr (8, [.ref n, .ref (n + 2), .ref (n + 3), .int 0, .int 0])) := by rw [e7]; exact nm_l2 t6
  have E7 : d7 = nm_X8_7 dh a n := by rw [e7, E6]; rfl
  exact nm_ret (nc := 4) (ns := 682) d_X8_init_33 rfl rfl (by dsimp only; exact E7)
set_option maxRecDepth 100000 in
set_option maxHeartbeats 1000000 in
theorem cN_X8_p1 {dh d3 : List nm_E} {a n : Nat} (han : a < n) (hp : 0 < n) (l3 : d3.length = (n + 2)) (t3 : d3[a]? = some (.inr (8, [.ref n, .null, .null, .int 0, .int 0]))) (E3 : d3 = nm_X8_3 dh a n) : nm_J (md_X8_init, 3, 4, 682, n, nm_X8 dh a n) 15 [some (.ref a)] [] d3 2 242 := by
  refine nm_aload_n (q := 16) d_X8_init_15 rfl rfl ?_
  refine nm_sipush (q := 19) (v := 240) d_X8_init_16 rfl (by decide) ?_
  refine nm_newarray (nc := 2) (ns := 242) (q := 21) (n := (n + 2)) (N := 240) d_X8_init_19 rfl ac_0 (Or.inl ⟨rfl, rfl⟩) (by decide) (by decide) (Nat.le_of_ble_eq_true rfl) l3 rfl (Nat.succ_pos _) (Nat.le_of_ble_eq_true rfl) (Nat.le_of_ble_eq_true rfl) (fun d4 e4 => ?_)
  have l4 : d4.length = (n + 3) := nm_la e4 l3
  have t4 : d4[a]? = some (.inr (8, [.ref n, .null, .null, .int 0, .int 0])) := by rw [e4]; exact nm_l1 t3
  have E4 : d4 = nm_X8_4 dh a n := by rw [e4, E3]; rfl
  refine nm_putF (q := 24) (fs1 := [.ref n, .ref (n + 2), .null, .int 0, .int 0]) d_X8_init_21 rfl ff_X8_18 t4 (Nat.le_of_ble_eq_true rfl) (fun _ => ⟨rfl, rfl⟩) rfl (fun d5 e5 => ?_)
  have l5 : d5.length = (n + 3) := nm_ls e5 l4
  have t5 : d5[a]? = some (.inr (8, [.ref n, .ref (n + 2), .null, .int 0, .int 0])) := by rw [e5]; exact nm_l2 t4
  have E5 : d5 = nm_X8_5 dh a n := by rw [e5, E4]; rfl
  exact cN_X8_p2 han hp l5 t5 E5
set_option maxRecDepth 100000 in
set_option maxHeartbeats 1000000 in
theorem cN_X8 {dh : List nm_E} {a n : Nat} (hn : dh.length = n) (ha : dh[a]? = some (.inr (8, [.null, .null, .null, .int 0, .int 0])))  : nm_Ct yX8_init md_X8_init 3 4 682 [.ref a] dh (nm_X8 dh a n) := by
  have han : a < n := by rw [← hn]; exact (List.getElem?_eq_some_iff.mp ha).1
  have hp : 0 < n := by omega
  refine nm_enter (ls0 := [some (.ref a)]) 0 pn_X8 rfl rfl rfl (by decide) rfl hn ?_
  refine nm_aload_n (q := 1) d_X8_init_0 rfl rfl ?_
  refine nm_objinit (q := 4) d_X8_init_1 rfl ol_X8 oi_1 oi_2 (Nat.le_of_ble_eq_true rfl) (Nat.le_of_ble_eq_true rfl) ?_
  refine nm_aload_n (q := 5) d_X8_init_4 rfl rfl ?_
  refine nm_new (nc := 0) (ns := 0) (q := 8) (n := n) (N := 2) [.null, .int 0] d_X8_init_5 rfl nw_X8_9 (fun r h => by cases h; rfl) fd_7 (fun _ => rfl) hn rfl hp (Nat.le_of_ble_eq_true rfl) (Nat.le_of_ble_eq_true rfl) (fun d1 e1 => ?_)
  have l1 : d1.length = (n + 1) := nm_la e1 hn
  have t1 : d1[a]? = some (.inr (8, [.null, .null, .null, .int 0, .int 0])) := by rw [e1]; exact nm_l1 ha
  have y1 : d1[n]? = some (.inr (7, [.null, .int 0])) := by rw [e1]; exact nm_l3 hn
  have E1 : d1 = nm_X8_1 dh a n := by rw [e1]; rfl
  refine nm_dup (q := 9) d_X8_init_8 rfl rfl ?_
  refine nm_callI (nc := 1) (ns := 2) (q := 12) (n := (n + 1)) (d' := 1) (mc' := 1) (ms' := 240) d_X8_init_9 rfl hl_X8_11 li_7 (Nat.le_of_ble_eq_true rfl) (Nat.le_of_ble_eq_true rfl) l1 rfl (Nat.succ_pos _) (Nat.le_of_ble_eq_true rfl) (Nat.le_of_ble_eq_true rfl) (cN_X7 l1 y1) (fun d2 e2 => ?_)
  have l2 : d2.length = (n + 2) := by rw [e2]; exact nl_X7 l1
  have t2 : d2[a]? = some (.inr (8, [.null, .null, .null, .int 0, .int 0])) := by rw [e2]; exact np_X7 (nm_o2 0 han) (nm_o3 1 han) t1
  have E2 : d2 = nm_X8_2 dh a n := by rw [e2, E1]; rfl
  refine nm_putF (q := 15) (fs1 := [.ref n, .null, .null, .int 0, .int 0]) d_X8_init_12 rfl ff_X8_12 t2 (Nat.le_of_ble_eq_true rfl) (fun _ => ⟨rfl, rfl⟩) rfl (fun d3 e3 => ?_)
  have l3 : d3.length = (n + 2) := nm_ls e3 l2
  have t3 : d3[a]? = some (.inr (8, [.ref n, .null, .null, .int 0, .int 0])) := by rw [e3]; exact nm_l2 t2
  have E3 : d3 = nm_X8_3 dh a n := by rw [e3, E2]; rfl
  exact cN_X8_p1 han hp l3 t3 E3
theorem d_X9_init_0 : decode cX9_init 0 = .ok (.aload_n 0, 1) := by decide +kernel
theorem d_X9_init_1 : decode cX9_init 1 = .ok (.invokespecial 3, 3) := by decide +kernel
theorem ol_X9 : Cond.methodLink RX9 3 objectInit ∈ sm_TB := sm_w (List.mem_of_getElem? (i := 351) (by decide +kernel)) rfl
theorem d_X9_init_4 : decode cX9_init 4 = .ok (.aload_n 0, 1) := by decide +kernel
theorem d_X9_init_5 : decode cX9_init 5 = .ok (.new 9, 3) := by decide +kernel
theorem nw_X9_9 : nm_LN RX9 9 7 := ⟨_, rfl, sm_w (List.mem_of_getElem? (i := 352) (by decide +kernel)) rfl, sm_w (List.mem_of_getElem? (i := 235) (by decide +kernel)) rfl, sm_w (List.mem_of_getElem? (i := 64) (by decide +kernel)) rfl⟩
theorem d_X9_init_8 : decode cX9_init 8 = .ok (.dup, 1) := by decide +kernel
theorem d_X9_init_9 : decode cX9_init 9 = .ok (.invokespecial 11, 3) := by decide +kernel
theorem hl_X9_11 : (RX9, 11, yX7_init) ∈ nm_nest ∨ Cond.methodLink RX9 11 yX7_init ∈ sm_TB := (Or.inl (by decide +kernel))
theorem d_X9_init_12 : decode cX9_init 12 = .ok (.putfield 12, 3) := by decide +kernel
theorem ff_X9_12 : nm_FF RX9 12 9 0 := ⟨_, rfl, by decide, sm_w (List.mem_of_getElem? (i := 354) (by decide +kernel)) rfl, rfl, rfl⟩
theorem d_X9_init_15 : decode cX9_init 15 = .ok (.return_, 1) := by decide +kernel
def nm_X9_1 (dh : List nm_E) (a n : Nat) : List nm_E := dh ++ ([.inr (7, [.null, .int 0])] : List nm_E)
theorem nl_X9_1 {dh : List nm_E} {a n : Nat} (h : dh.length = n) : (nm_X9_1 dh a n).length = n + 1 := by unfold nm_X9_1; rw [List.length_append, h]; rfl
theorem np_X9_1 {dh : List nm_E} {a n b : Nat} {e : nm_E} (hne : b ≠ a) (hb : b < n) (h : dh[b]? = some e) : (nm_X9_1 dh a n)[b]? = some e := nm_l5 h
def nm_X9_2 (dh : List nm_E) (a n : Nat) : List nm_E := nm_X7 (nm_X9_1 dh a n) n (n + 1)
theorem nl_X9_2 {dh : List nm_E} {a n : Nat} (h : dh.length = n) : (nm_X9_2 dh a n).length = n + 2 := nl_X7 (nl_X9_1 h)
theorem np_X9_2 {dh : List nm_E} {a n b : Nat} {e : nm_E} (hne : b ≠ a) (hb : b < n) (h : dh[b]? = some e) : (nm_X9_2 dh a n)[b]? = some e := np_X7 (by omega) (by omega) (np_X9_1 hne hb h)
def nm_X9_3 (dh : List nm_E) (a n : Nat) : List nm_E := (nm_X9_2 dh a n).set a (.inr (9, [.ref n]) : nm_E)
theorem nl_X9_3 {dh : List nm_E} {a n : Nat} (h : dh.length = n) : (nm_X9_3 dh a n).length = n + 2 := by unfold nm_X9_3; rw [List.length_set]; exact nl_X9_2 h
theorem np_X9_3 {dh : List nm_E} {a n b : Nat} {e : nm_E} (hne : b ≠ a) (hb : b < n) (h : dh[b]? = some e) : (nm_X9_3 dh a n)[b]? = some e := nm_l4 (by omega) (np_X9_2 hne hb h)
abbrev nm_X9 (dh : List nm_E) (a n : Nat) : List nm_E := nm_X9_3 dh a n
theorem nl_X9 {dh : List nm_E} {a n : Nat} (h : dh.length = n) : (nm_X9 dh a n).length = n + 2 := nl_X9_3 h
theorem np_X9 {dh : List nm_E} {a n b : Nat} {e : nm_E} (hne : b ≠ a) (hb : b < n) (h : dh[b]? = some e) : (nm_X9 dh a n)[b]? = some e := np_X9_3 hne hb h
set_option maxRecDepth 100000 in
set_option maxHeartbeats 1000000 in
theorem cN_X9 {dh : List nm_E} {a n : Nat} (hn : dh.length = n) (ha : dh[a]? = some (.inr (9, [.null])))  : nm_Ct yX9_init md_X9_init 3 2 242 [.ref a] dh (nm_X9 dh a n) := by
  have han : a < n := by rw [← hn]; exact (List.getElem?_eq_some_iff.mp ha).1
  have hp : 0 < n := by omega
  refine nm_enter (ls0 := [some (.ref a)]) 0 pn_X9 rfl rfl rfl (by decide) rfl hn ?_
  refine nm_aload_n (q := 1) d_X9_init_0 rfl rfl ?_
  refine nm_objinit (q := 4) d_X9_init_1 rfl ol_X9 oi_1 oi_2 (Nat.le_of_ble_eq_true rfl) (Nat.le_of_ble_eq_true rfl) ?_
  refine nm_aload_n (q := 5) d_X9_init_4 rfl rfl ?_
  refine nm_new (nc := 0) (ns := 0) (q := 8) (n := n) (N := 2) [.null, .int 0] d_X9_init_5 rfl nw_X9_9 (fun r h => by cases h; rfl) fd_7 (fun _ => rfl) hn rfl hp (Nat.le_of_ble_eq_true rfl) (Nat.le_of_ble_eq_true rfl) (fun d1 e1 => ?_)
  have l1 : d1.length = (n + 1) := nm_la e1 hn
  have t1 : d1[a]? = some (.inr (9, [.null])) := by rw [e1]; exact nm_l1 ha
  have y1 : d1[n]? = some (.inr (7, [.null, .int 0])) := by rw [e1]; exact nm_l3 hn
  have E1 : d1 = nm_X9_1 dh a n := by rw [e1]; rfl
  refine nm_dup (q := 9) d_X9_init_8 rfl rfl ?_
  refine nm_callI (nc := 1) (ns := 2) (q := 12) (n := (n + 1)) (d' := 1) (mc' := 1) (ms' := 240) d_X9_init_9 rfl hl_X9_11 li_7 (Nat.le_of_ble_eq_true rfl) (Nat.le_of_ble_eq_true rfl) l1 rfl (Nat.succ_pos _) (Nat.le_of_ble_eq_true rfl) (Nat.le_of_ble_eq_true rfl) (cN_X7 l1 y1) (fun d2 e2 => ?_)
  have l2 : d2.length = (n + 2) := by rw [e2]; exact nl_X7 l1
  have t2 : d2[a]? = some (.inr (9, [.null])) := by rw [e2]; exact np_X7 (nm_o2 0 han) (nm_o3 1 han) t1
  have E2 : d2 = nm_X9_2 dh a n := by rw [e2, E1]; rfl
  refine nm_putF (q := 15) (fs1 := [.ref n]) d_X9_init_12 rfl ff_X9_12 t2 (Nat.le_of_ble_eq_true rfl) (fun _ => ⟨rfl, rfl⟩) rfl (fun d3 e3 => ?_)
  have l3 : d3.length = (n + 2) := nm_ls e3 l2
  have t3 : d3[a]? = some (.inr (9, [.ref n])) := by rw [e3]; exact nm_l2 t2
  have E3 : d3 = nm_X9_3 dh a n := by rw [e3, E2]; rfl
  exact nm_ret (nc := 2) (ns := 242) d_X9_init_15 rfl rfl (by dsimp only; exact E3)
theorem d_X0_init_0 : decode cX0_init 0 = .ok (.aload_n 0, 1) := by decide +kernel
theorem d_X0_init_1 : decode cX0_init 1 = .ok (.invokespecial 3, 3) := by decide +kernel
theorem ol_X0 : Cond.methodLink RX0 3 objectInit ∈ sm_TB := sm_w (List.mem_of_getElem? (i := 364) (by decide +kernel)) rfl
theorem d_X0_init_4 : decode cX0_init 4 = .ok (.aload_n 0, 1) := by decide +kernel
theorem d_X0_init_5 : decode cX0_init 5 = .ok (.bipush 7, 2) := by decide +kernel
theorem d_X0_init_7 : decode cX0_init 7 = .ok (.bipush 7, 2) := by decide +kernel
theorem d_X0_init_9 : decode cX0_init 9 = .ok (.multianewarray 9 2, 4) := by decide +kernel
theorem mw_X0 : Cond.classLink RX0 9 ("[" ++ (FieldType.array .long).toString) ∈ sm_TB := sm_w (List.mem_of_getElem? (i := 365) (by decide +kernel)) rfl
theorem d_X0_init_13 : decode cX0_init 13 = .ok (.putfield 11, 3) := by decide +kernel
theorem ff_X0_11 : nm_FF RX0 11 0 0 := ⟨_, rfl, by decide, sm_w (List.mem_of_getElem? (i := 367) (by decide +kernel)) rfl, rfl, rfl⟩
theorem d_X0_init_16 : decode cX0_init 16 = .ok (.return_, 1) := by decide +kernel
def nm_X0_1 (dh : List nm_E) (a n : Nat) : List nm_E := dh ++ (nm_m7 n : List nm_E)
theorem nl_X0_1 {dh : List nm_E} {a n : Nat} (h : dh.length = n) : (nm_X0_1 dh a n).length = n + 8 := by unfold nm_X0_1; rw [List.length_append, h]; rfl
theorem np_X0_1 {dh : List nm_E} {a n b : Nat} {e : nm_E} (hne : b ≠ a) (hb : b < n) (h : dh[b]? = some e) : (nm_X0_1 dh a n)[b]? = some e := nm_l5 h
def nm_X0_2 (dh : List nm_E) (a n : Nat) : List nm_E := (nm_X0_1 dh a n).set a (.inr (0, [.ref n]) : nm_E)
theorem nl_X0_2 {dh : List nm_E} {a n : Nat} (h : dh.length = n) : (nm_X0_2 dh a n).length = n + 8 := by unfold nm_X0_2; rw [List.length_set]; exact nl_X0_1 h
theorem np_X0_2 {dh : List nm_E} {a n b : Nat} {e : nm_E} (hne : b ≠ a) (hb : b < n) (h : dh[b]? = some e) : (nm_X0_2 dh a n)[b]? = some e := nm_l4 (by omega) (np_X0_1 hne hb h)
abbrev nm_X0 (dh : List nm_E) (a n : Nat) : List nm_E := nm_X0_2 dh a n
theorem nl_X0 {dh : List nm_E} {a n : Nat} (h : dh.length = n) : (nm_X0 dh a n).length = n + 8 := nl_X0_2 h
theorem np_X0 {dh : List nm_E} {a n b : Nat} {e : nm_E} (hne : b ≠ a) (hb : b < n) (h : dh[b]? = some e) : (nm_X0 dh a n)[b]? = some e := np_X0_2 hne hb h
set_option maxRecDepth 100000 in
set_option maxHeartbeats 1000000 in
theorem cN_X0 {dh : List nm_E} {a n : Nat} (hn : dh.length = n) (ha : dh[a]? = some (.inr (0, [.null])))  : nm_Ct yX0_init md_X0_init 1 8 56 [.ref a] dh (nm_X0 dh a n) := by
  have han : a < n := by rw [← hn]; exact (List.getElem?_eq_some_iff.mp ha).1
  have hp : 0 < n := by omega
  refine nm_enter (ls0 := [some (.ref a)]) 0 pn_X0 rfl rfl rfl (by decide) rfl hn ?_
  refine nm_aload_n (q := 1) d_X0_init_0 rfl rfl ?_
  refine nm_objinit (q := 4) d_X0_init_1 rfl ol_X0 oi_1 oi_2 (Nat.le_of_ble_eq_true rfl) (Nat.le_of_ble_eq_true rfl) ?_
  refine nm_aload_n (q := 5) d_X0_init_4 rfl rfl ?_
  refine nm_bipush (q := 7) (v := 7) d_X0_init_5 rfl (by decide) ?_
  refine nm_bipush (q := 9) (v := 7) d_X0_init_7 rfl (by decide) ?_
  refine nm_multi (nc := 0) (ns := 0) (q := 13) (n := n) d_X0_init_9 rfl mw_X0 ac_3 hn rfl hp (Nat.le_of_ble_eq_true rfl) (Nat.le_of_ble_eq_true rfl) (fun d1 e1 => ?_)
  have l1 : d1.length = (n + 8) := by rw [e1, List.length_append, hn]; rfl
  have t1 : d1[a]? = some (.inr (0, [.null])) := by rw [e1]; exact nm_l5 ha
  have E1 : d1 = nm_X0_1 dh a n := by rw [e1]; rfl
  refine nm_putF (q := 16) (fs1 := [.ref n]) d_X0_init_13 rfl ff_X0_11 t1 (Nat.le_of_ble_eq_true rfl) (fun _ => ⟨rfl, rfl⟩) rfl (fun d2 e2 => ?_)
  have l2 : d2.length = (n + 8) := nm_ls e2 l1
  have t2 : d2[a]? = some (.inr (0, [.ref n])) := by rw [e2]; exact nm_l2 t1
  have E2 : d2 = nm_X0_2 dh a n := by rw [e2, E1]; rfl
  exact nm_ret (nc := 8) (ns := 56) d_X0_init_16 rfl rfl (by dsimp only; exact E2)
